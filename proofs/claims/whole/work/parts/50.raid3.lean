/-! raid (3) -/
theorem bset_sub {Y W : Nat → Bool} : B6 (fun x => Y x && !W x) = 0 ↔ ∀ x, x < 6 → Y x = true → W x = true := by
  rw [B6_z6]
  constructor
  · intro h x hx e
    have := h x hx
    rw [e, Bool.true_and] at this
    cases e2 : W x with
    | true => rfl
    | false => rw [e2] at this; exact (nomatch this)
  · intro h x hx
    cases e : Y x with
    | false => rfl
    | true => rw [h x hx e]; rfl
theorem c6_diff {Y W : Nat → Bool} (h : ∀ x, x < 6 → Y x = true → W x = true) : c6 (fun x => W x && !Y x) + c6 Y = c6 W := by
  rw [← c6_add (fun x _ => by cases Y x <;> simp)]
  refine c6_congr (fun x hx => ?_)
  cases e : Y x with
  | false => simp
  | true => rw [h x hx e]; rfl
section R3
variable {scr : Option (List Int32)} {P : ba_P} {w : ba_W} {f : Nat → Nat → Int32} {l : Nat → List Int32} {q : Nat → List Int64}
theorem both_raid {a b c : Int32} (hI : Inv f l q) : both scr ix_X8_raid ix_X9_raid [some (.ref 1), some (.int a), some (.int b), some (.int c), none] [some (.ref 43), some (.int a), some (.int b), some (.int c), none, none, none, none, none, none, none] f l q := by
  intro P hP
  obtain ⟨n, hn, hc, hc2⟩ := inv_n hI
  have hm := inv_m hI
  obtain ⟨-, m5, m6, m7, m8⟩ := plens hI
  obtain ⟨⟨⟨hn1, hn2, hn3⟩, hL, hE, hR⟩, hPp, hD, hM, hS⟩ := id hI
  have e44 : l 44 = l 5 := hE.1.2
  have hl5 := hL.1.2.1
  have hr5 := hR.1
  have m9 : (-9 : Int32).toInt = -9 := rfl
  have e1 : ∀ o, B6 (ro l n o 1) = B6 (wo f 2 n o) := fun o => (ro_wo (n := n) (o := o) hI).1
  have ht : ∀ p, p < 6 → tn f p ≤ 20 ∧ tk ((l 45).getD p 0) ((l 48).getD p 0) = nI (tn f p) := fun p hp => by
    rw [hE.2.1.1, hE.2.1.2.2.2, col_at hp, col_at hp]
    exact tn_le hPp hp
  have hmm : ∀ p, p < 6 → mn f p < 4 ∧ (l 47).getD p 0 = nI (mn f p) ∧ dp f l p = Ds (gs (l 44)) RT (mn f p) := fun p hp => by
    rw [hE.2.1.2.2.1, col_at hp, e44]
    exact ⟨(mn_lt hPp hp).1, (mn_lt hPp hp).2, rfl⟩
  have bad : ¬ (f 42 1).toInt = 0 → ¬ ((0 ≤ a.toInt ∧ a.toInt ≤ 1) ∧ (0 ≤ b.toInt ∧ b.toInt ≤ 6) ∧ 0 ≤ c.toInt ∧ c.toInt ≤ 1) → P (some (.int (-2))) (wW f l q) := by
    intro c0 h
    refine hP _ f l q (fun P2 h2 => ?_)
    refine run_X9_raid 30 ?_
    repeat (first | refine And.intro (fun e => absurd e (by decide)) (fun e => ?_) | refine And.intro (fun e => ?_) (fun e => absurd e (by decide)) | refine Exists.intro _ (And.intro rfl ?_) | refine And.intro rfl ?_)
    refine And.intro (fun d => ?_) (fun d => absurd (Classical.not_not.mp d) (fun e => c0 (by rw [e]; rfl)))
    repeat (first | refine And.intro (fun e => absurd e (by decide)) (fun e => ?_) | refine And.intro (fun e => ?_) (fun e => absurd e (by decide)) | refine Exists.intro _ (And.intro rfl ?_) | refine And.intro rfl ?_)
    refine s_isOffice (fun d1 d2 => ?_) (fun d1 => ?_)
    · repeat (first | refine And.intro (fun e => absurd e (by decide)) (fun e => ?_) | refine And.intro (fun e => ?_) (fun e => absurd e (by decide)) | refine Exists.intro _ (And.intro rfl ?_) | refine And.intro rfl ?_)
      refine s_in (x := b.toInt) (a := 0) (b := 6) l64 rfl rfl (fun d3 d4 => ?_) (fun d3 => ?_)
      · repeat (first | refine And.intro (fun e => absurd e (by decide)) (fun e => ?_) | refine And.intro (fun e => ?_) (fun e => absurd e (by decide)) | refine Exists.intro _ (And.intro rfl ?_) | refine And.intro rfl ?_)
        refine s_in (x := c.toInt) (a := 0) (b := 1) l64 rfl rfl (fun e1 e2 => absurd ⟨⟨d1, d2⟩, ⟨d3, d4⟩, e1, e2⟩ h) (fun e1 => ?_)
        repeat (first | refine And.intro (fun e => absurd e (by decide)) (fun e => ?_) | refine And.intro (fun e => ?_) (fun e => absurd e (by decide)) | refine Exists.intro _ (And.intro rfl ?_) | refine And.intro rfl ?_)
        exact h2 f l q hI
      · repeat (first | refine And.intro (fun e => absurd e (by decide)) (fun e => ?_) | refine And.intro (fun e => ?_) (fun e => absurd e (by decide)) | refine Exists.intro _ (And.intro rfl ?_) | refine And.intro rfl ?_)
        exact h2 f l q hI
    · repeat (first | refine And.intro (fun e => absurd e (by decide)) (fun e => ?_) | refine And.intro (fun e => ?_) (fun e => absurd e (by decide)) | refine Exists.intro _ (And.intro rfl ?_) | refine And.intro rfl ?_)
      exact h2 f l q hI
  refine run_X8_raid 18 ?_
  repeat (first | refine And.intro (fun e => absurd e (by decide)) (fun e => ?_) | refine And.intro (fun e => ?_) (fun e => absurd e (by decide)) | refine Exists.intro _ (And.intro rfl ?_) | refine And.intro rfl ?_)
  refine s_isOn (b := 2) (Or.inl rfl) (fun c0 => ?_) (fun c0 => ?_)
  · have c0 : ¬ (f 42 1).toInt = 0 := by rw [hn3]; omega
    repeat (first | refine And.intro (fun e => absurd e (by decide)) (fun e => ?_) | refine And.intro (fun e => ?_) (fun e => absurd e (by decide)) | refine Exists.intro _ (And.intro rfl ?_) | refine And.intro rfl ?_)
    refine s_below (bi := 2) rfl (fun c1 c2 => ?_) (fun c1 => ?_)
    · repeat (first | refine And.intro (fun e => absurd e (by decide)) (fun e => ?_) | refine And.intro (fun e => ?_) (fun e => absurd e (by decide)) | refine Exists.intro _ (And.intro rfl ?_) | refine And.intro rfl ?_)
      refine s_within (a := 0) (b := 6) rfl rfl (fun c3 c4 => ?_) (fun c3 => ?_)
      · repeat (first | refine And.intro (fun e => absurd e (by decide)) (fun e => ?_) | refine And.intro (fun e => ?_) (fun e => absurd e (by decide)) | refine Exists.intro _ (And.intro rfl ?_) | refine And.intro rfl ?_)
        refine s_within (a := 0) (b := 1) rfl rfl (fun c5 c6' => ?_) (fun c5 => ?_)
        · obtain ⟨k, rfl, hk⟩ := nI_ex c3
          have hk6 : k ≤ 6 := by omega
          obtain ⟨W, hW⟩ : ∃ W, W = wo f 2 n (1 - a) := ⟨_, rfl⟩
          have hWn : ∀ x, n ≤ x → W x = false := by rw [hW]; exact wo_n
          obtain ⟨val, hval⟩ : ∃ val, val = fun j => smi (dt f l) (bset j) n := ⟨_, rfl⟩
          obtain ⟨B, hB⟩ : ∃ B, B = bst (okc f l W k) val := ⟨_, rfl⟩
          have sb : ∀ (Y : Nat → Bool) (i : Nat), i ≤ 6 → smi (dt f l) Y i ≤ 80 * i := by
            intro Y i
            induction i with
            | zero => intro _; exact Nat.le_refl _
            | succ i ih =>
              intro h
              show smi (dt f l) Y i + (if Y i then dt f l i else 0) ≤ _
              have h1 := ih (by omega)
              have h2 : dt f l i ≤ 4 * 20 := Nat.mul_le_mul dp_le (tn_le hPp (show i < 6 by omega)).1
              split <;> omega
          have vb : ∀ j, val j ≤ 480 := fun j => by rw [hval]; have := sb (bset j) n hn; show smi (dt f l) (bset j) n ≤ 480; omega
          -- the reference
          have ref : ∀ (P2 : ba_P), (∀ A : List Int32, A.length = 4 → P2 (some (.int (if c = 0 then bink (-9) val (B 64) else bcode (B 64)))) (wW f (u1 l 57 A) q)) → ba_go scr ix_X9_raid 0 [some (.ref 43), some (.int a), some (.int (nI k)), some (.int c), none, none, none, none, none, none, none] [] (wW f l q) 0 0 P2 := by
            intro P2 h2
            have loop : ∀ (m j : Nat) (b s x : Int32) (z1 z2 z3 : Option Value) (A : List Int32), A.length = 4 → j + m = 64 → x = nI j → b = bcode (B j) → s = bink (-9) val (B j) → ba_go scr ix_X9_raid 63 [some (.ref 43), some (.int a), some (.int (nI k)), some (.int c), some (.int (B6 W)), some (.int b), some (.int s), some (.int x), z1, z2, z3] [] (wW f (u1 l 57 A) q) 0 0 P2 := by
              intro m
              induction m with
              | zero =>
                intro j b s x z1 z2 z3 A hA g1 g2 g3 g4
                subst g2; subst g3; subst g4
                have h4 : j = 64 := by omega
                subst h4
                have hA2 := h2 A hA
                refine run_X9_raid 10 ?_
                refine And.intro (fun _ => ?_) (fun e => absurd (by decide) e)
                refine And.intro (fun g => ?_) (fun g => ?_)
                · rw [if_neg g] at hA2
                  exact hA2
                · rw [if_pos (Classical.not_not.mp g)] at hA2
                  exact hA2
              | succ m ih =>
                intro j b s x z1 z2 z3 A hA g1 g2 g3 g4
                subst g2; subst g3; subst g4
                have es : B (j + 1) = (if okc f l W k j && (match B j with | none => true | some b => decide (val j < val b)) then some j else B j) := by rw [hB]; rfl
                have ez : (nI j &&& (B6 W ^^^ -1) = 0) ↔ B6 (fun x => bset j x && !W x) = 0 := by
                  rw [bset_B6 (show j < 64 by omega), B6_not]
                have hc6 := c6_le (bset j)
                have hcW := c6_le W
                -- what is not better
                have worse : ∀ (its : Int32) (may : Int32) (A : List Int32), A.length = 4 → B (j + 1) = B j → ba_go scr ix_X9_raid 141 [some (.ref 43), some (.int a), some (.int (nI k)), some (.int c), some (.int (B6 W)), some (.int (bcode (B j))), some (.int (bink (-9) val (B j))), some (.int (nI j)), some (.int may), some (.int its), z3] [] (wW f (u1 l 57 A) q) 0 0 P2 := by
                  intro its may A hA h
                  refine run_X9_raid 12 ?_
                  refine And.intro (fun _ => ?_) (fun e => absurd rfl e)
                  refine And.intro (fun _ => ?_) (fun e => absurd rfl e)
                  exact ih (j + 1) _ _ _ _ _ _ A hA (by omega) (nI_1 j) (by rw [h]) (by rw [h])
                have better : ∀ (may : Int32) (A : List Int32), A.length = 4 → B (j + 1) = some j → ba_go scr ix_X9_raid 137 [some (.ref 43), some (.int a), some (.int (nI k)), some (.int c), some (.int (B6 W)), some (.int (bcode (B j))), some (.int (bink (-9) val (B j))), some (.int (nI j)), some (.int may), some (.int (nI (val j))), z3] [] (wW f (u1 l 57 A) q) 0 0 P2 := by
                  intro may A hA h
                  refine run_X9_raid 15 ?_
                  refine And.intro (fun e => absurd e (by decide)) (fun _ => ?_)
                  refine And.intro (fun e => absurd e (by decide)) (fun _ => ?_)
                  exact ih (j + 1) _ _ _ _ _ _ A hA (by omega) (nI_1 j) (by rw [h]; first | done | rfl) (by rw [h]; first | done | rfl)
                have mayNot : ∀ A : List Int32, A.length = 4 → okc f l W k j = false → ba_go scr ix_X9_raid 99 [some (.ref 43), some (.int a), some (.int (nI k)), some (.int c), some (.int (B6 W)), some (.int (bcode (B j))), some (.int (bink (-9) val (B j))), some (.int (nI j)), z1, z2, z3] [] (wW f (u1 l 57 A) q) 0 0 P2 := by
                  intro A hA h
                  refine run_X9_raid 8 ?_
                  refine And.intro (fun _ => ?_) (fun e => absurd rfl e)
                  refine And.intro (fun _ => ?_) (fun e => absurd (by decide) e)
                  exact worse (-9) 0 A hA (by rw [es, h]; rfl)
                refine run_X9_raid 9 ?_
                refine And.intro (fun e => absurd e (by show ¬ (64 : Int32) ≤ nI j; rw [le_i, nI_toInt (by omega), show (64 : Int32).toInt = 64 from rfl]; omega)) (fun _ => ?_)
                refine And.intro (fun d => ?_) (fun d => ?_)
                · have d : ¬ B6 (fun x => bset j x && !W x) = 0 := fun e => d (ez.mpr e)
                  refine mayNot A hA ?_
                  unfold okc
                  rw [decide_eq_false (fun e => d (bset_sub.mpr (fun x hx h => by
                    have := bset_sub.mp e x hx h
                    unfold able at this
                    rw [Bool.and_eq_true] at this
                    exact this.1)))]
                  rfl
                · have d : B6 (fun x => bset j x && !W x) = 0 := ez.mp (Classical.not_not.mp d)
                  have hsub := bset_sub.mp d
                  have hdiff := c6_diff hsub
                  refine run_X9_raid 7 ?_
                  refine And.intro rfl (r_bits ?_)
                  rw [bset_B6 (show j < 64 by omega)]
                  refine And.intro rfl (r_bits ?_)
                  rw [← bset_B6 (show j < 64 by omega)]
                  have esub : nI (c6 W) - nI (c6 (bset j)) = nI (c6 (fun x => W x && !bset j x)) := by
                    rw [← hdiff, ← nI_add, Int32.add_sub_cancel]
                  have hcd := c6_le (fun x => W x && !bset j x)
                  refine And.intro (fun e => ?_) (fun e => ?_)
                  · have e : nI k < nI (c6 W) - nI (c6 (bset j)) := e
                    rw [esub, lt_i, nI_toInt (by omega), nI_toInt (by omega)] at e
                    refine mayNot A hA ?_
                    unfold okc
                    rw [decide_eq_false (show ¬ c6 (fun x => W x && !bset j x) ≤ k by omega), Bool.and_false]
                  · have e : ¬ nI k < nI (c6 W) - nI (c6 (bset j)) := e
                    rw [esub, lt_i, nI_toInt (by omega), nI_toInt (by omega)] at e
                    refine run_X9_raid 12 ?_
                    refine And.intro (fun e => absurd e (by decide)) (fun _ => ?_)
                    refine And.intro rfl (r_inkFor (l := u1 l 57 A) (D := dp f l) (t := tn f) (mm := mn f) (bset_B6 (by omega)) hn hc2 m5 m7 m8 hA (by show (l 44).length = 12; rw [e44]; exact hl5) (by show rv (l 44); rw [e44]; exact hr5) ht hmm (fun A' hA' => ?_))
                    rw [u1_u1]
                    have ev : smi (fun p => dp f l p * tn f p) (bset j) n = val j := by rw [hval]; rfl
                    rw [ev]
                    have hok : okc f l W k j = ab (dp f l) (bset j) n := by
                      unfold okc
                      rw [decide_eq_true (show c6 (fun x => W x && !bset j x) ≤ k by omega), Bool.and_true]
                      apply bool_ext
                      rw [decide_eq_true_iff, bset_sub, ab_iff]
                      constructor
                      · intro h x hx hb
                        have := h x (by omega) hb
                        unfold able at this
                        rw [Bool.and_eq_true, Bool.not_eq_true', decide_eq_false_iff_not] at this
                        have h4 : dp f l x ≤ 4 := dp_le
                        omega
                      · intro h x hx hb
                        have hWx := hsub x hx hb
                        unfold able
                        rw [hWx, Bool.true_and, Bool.not_eq_true', decide_eq_false_iff_not]
                        by_cases hxn : x < n
                        · have := h x hxn hb; omega
                        · rw [hWn x (by omega)] at hWx; exact (nomatch hWx)
                    cases hab : ab (dp f l) (bset j) n with
                    | false =>
                      rw [hab] at hok
                      refine And.intro (fun _ => ?_) (fun e => absurd (show (-9 : Int32) < 0 by decide) e)
                      exact worse (-9) 1 A' hA' (by rw [es, hok]; rfl)
                    | true =>
                      rw [hab] at hok
                      have v1 := vb j
                      refine And.intro (fun e => absurd e (by show ¬ nI (val j) < 0; rw [lt_i, zi, nI_toInt (by omega)]; omega)) (fun _ => ?_)
                      cases hb : B j with
                      | none =>
                        refine run_X9_raid 2 ?_
                        refine And.intro (fun _ => ?_) (fun e => absurd (by decide) e)
                        have := better 1 A' hA' (by rw [es, hok, hb]; rfl)
                        rw [hb] at this
                        exact this
                      | some b =>
                        have hlt : b < j := bst_lt (by rw [← hB]; exact hb)
                        have v2 := vb b
                        refine run_X9_raid 5 ?_
                        refine And.intro (fun e => absurd e (by show ¬ nI b < 0; rw [lt_i, zi, nI_toInt (by omega)]; omega)) (fun _ => ?_)
                        refine And.intro (fun g => ?_) (fun g => ?_)
                        · have g : nI (val b) ≤ nI (val j) := g
                          rw [le_i, nI_toInt (by omega), nI_toInt (by omega)] at g
                          have := worse (nI (val j)) 1 A' hA' (by rw [es, hok, hb]; show (if (true && decide (val j < val b)) = true then _ else _) = _; rw [decide_eq_false (show ¬ val j < val b by omega)]; rfl)
                          rw [hb] at this
                          exact this
                        · have g : ¬ nI (val b) ≤ nI (val j) := g
                          rw [le_i, nI_toInt (by omega), nI_toInt (by omega)] at g
                          have := better 1 A' hA' (by rw [es, hok, hb]; show (if (true && decide (val j < val b)) = true then _ else _) = _; rw [decide_eq_true (show val j < val b by omega)]; rfl)
                          rw [hb] at this
                          exact this
            have h := loop 64 0 (-9) (-9) 0 none none none (l 57) hL.2.2.2.2.2.1.2.2.1 rfl rfl (by rw [hB]; rfl) (by rw [hB]; rfl)
            rw [u1_self] at h
            refine run_X9_raid 31 ?_
            repeat (first | refine And.intro (fun e => absurd e (by decide)) (fun e => ?_) | refine And.intro (fun e => ?_) (fun e => absurd e (by decide)) | refine Exists.intro _ (And.intro rfl ?_) | refine And.intro rfl ?_)
            refine And.intro (fun d => ?_) (fun d => absurd (Classical.not_not.mp d) (fun e => c0 (by rw [e]; rfl)))
            repeat (first | refine And.intro (fun e => absurd e (by decide)) (fun e => ?_) | refine And.intro (fun e => ?_) (fun e => absurd e (by decide)) | refine Exists.intro _ (And.intro rfl ?_) | refine And.intro rfl ?_)
            refine s_isOffice (fun d1 d2 => ?_) (fun d1 => absurd ⟨c1, by omega⟩ d1)
            repeat (first | refine And.intro (fun e => absurd e (by decide)) (fun e => ?_) | refine And.intro (fun e => ?_) (fun e => absurd e (by decide)) | refine Exists.intro _ (And.intro rfl ?_) | refine And.intro rfl ?_)
            refine s_in (x := (nI k).toInt) (a := 0) (b := 6) l64 rfl rfl (fun d3 d4 => ?_) (fun d3 => absurd ⟨c3, c4⟩ d3)
            repeat (first | refine And.intro (fun e => absurd e (by decide)) (fun e => ?_) | refine And.intro (fun e => ?_) (fun e => absurd e (by decide)) | refine Exists.intro _ (And.intro rfl ?_) | refine And.intro rfl ?_)
            refine s_in (x := c.toInt) (a := 0) (b := 1) l64 rfl rfl (fun d5 d6 => ?_) (fun d5 => absurd ⟨c5, c6'⟩ d5)
            refine And.intro (fun _ => ?_) (fun e => absurd (by decide) e)
            refine And.intro rfl (r_peopleOf (o := 1 - a) (x := 1) hn hc2 m6 m7 ?_)
            rw [e1, ← hW]
            exact h
          refine And.intro (fun _ => ?_) (fun e => absurd (by decide) e)
          refine run_X8_raid 30 ?_
          refine Exists.intro _ (And.intro (rfl) ?_)
          refine And.intro rfl (s_cheapest (o := 1 - a) (k := k) hk6 hn hc hPp hm hl5 hr5 ?_)
          rw [← hW, ← hval, ← hB]
          have hIA : ∀ A : List Int32, A.length = 4 → Inv f (u1 l 57 A) q := fun A hA => inv_57 hI hA
          cases hb : B 64 with
          | none =>
            refine And.intro (fun e => absurd rfl e) (fun _ => ?_)
            refine hP _ f l q (fun P2 h2 => ref P2 (fun A hA => ?_))
            rw [hb]
            have := h2 _ _ _ (hIA A hA)
            have e : (if c = 0 then bink (-9) val none else bcode none) = -9 := by split <;> rfl
            rw [e]
            exact this
          | some b =>
            have hlt : b < 64 := bst_lt (by rw [← hB]; exact hb)
            refine And.intro (fun _ => ?_) (fun e => ?_)
            · refine And.intro (fun g => ?_) (fun g => ?_)
              · have g : ¬ c = 0 := g
                refine hP _ f l q (fun P2 h2 => ref P2 (fun A hA => ?_))
                rw [hb, if_neg g]
                exact h2 _ _ _ (hIA A hA)
              · have g : c = 0 := Classical.not_not.mp g
                refine Exists.intro _ (And.intro (rfl) ?_)
                refine And.intro rfl (s_raidInk (bset_B6 hlt) hn hc hPp hl5 hr5 ?_)
                refine hP _ f l q (fun P2 h2 => ref P2 (fun A hA => ?_))
                rw [hb, if_pos g]
                have e : bink (-9) val (some b) = nI (smi (dt f l) (bset b) n) := by rw [hval]; rfl
                rw [e]
                exact h2 _ _ _ (hIA A hA)
            · exfalso
              have e : ¬ ¬ nI b = -9 := e
              have := congrArg Int32.toInt (Classical.not_not.mp e)
              rw [nI_toInt (by omega), m9] at this
              omega
        · repeat (first | refine And.intro (fun e => absurd e (by decide)) (fun e => ?_) | refine And.intro (fun e => ?_) (fun e => absurd e (by decide)) | refine Exists.intro _ (And.intro rfl ?_) | refine And.intro rfl ?_)
          refine run_X8_raid 2 ?_
          exact bad c0 (fun e => c5 e.2.2)
      · repeat (first | refine And.intro (fun e => absurd e (by decide)) (fun e => ?_) | refine And.intro (fun e => ?_) (fun e => absurd e (by decide)) | refine Exists.intro _ (And.intro rfl ?_) | refine And.intro rfl ?_)
        exact bad c0 (fun e => c3 e.2.1)
    · repeat (first | refine And.intro (fun e => absurd e (by decide)) (fun e => ?_) | refine And.intro (fun e => ?_) (fun e => absurd e (by decide)) | refine Exists.intro _ (And.intro rfl ?_) | refine And.intro rfl ?_)
      exact bad c0 (fun e => c1 ⟨e.1.1, by omega⟩)
  · repeat (first | refine And.intro (fun e => absurd e (by decide)) (fun e => ?_) | refine And.intro (fun e => ?_) (fun e => absurd e (by decide)) | refine Exists.intro _ (And.intro rfl ?_) | refine And.intro rfl ?_)
    refine hP _ f l q (fun P2 h2 => ?_)
    refine run_X9_raid 60 ?_
    repeat (first | refine And.intro (fun e => absurd e (by decide)) (fun e => ?_) | refine And.intro (fun e => ?_) (fun e => absurd e (by decide)) | refine Exists.intro _ (And.intro rfl ?_) | refine And.intro rfl ?_)
    refine And.intro (fun d => absurd (show f 42 1 = 0 by rw [eq_i, zi, hn3]; omega) d) (fun d => ?_)
    repeat (first | refine And.intro (fun e => absurd e (by decide)) (fun e => ?_) | refine And.intro (fun e => ?_) (fun e => absurd e (by decide)) | refine Exists.intro _ (And.intro rfl ?_) | refine And.intro rfl ?_)
    exact h2 f l q hI
end R3
