/-! war: the reference's reading of people, of the whole -/
def kd2 (c : Int32) : Int32 := if c = 112 then 0 else if c = 99 then 1 else 2
theorem kd_kd2 {c : Int32} (h : ¬ kd c = -9) : kd c = kd2 c := by
  unfold kd at h ⊢
  unfold kd2
  by_cases h1 : c = 112
  · rw [if_pos h1, if_pos h1]
  · rw [if_neg h1] at h ⊢
    rw [if_neg h1]
    by_cases h2 : c = 99
    · rw [if_pos h2, if_pos h2]
    · rw [if_neg h2] at h ⊢
      rw [if_neg h2]
      by_cases h3 : c = 103
      · rw [if_pos h3]
      · rw [if_neg h3] at h
        exact absurd rfl h
def perC (C : Nat → Int32) (L : Nat → List Int32) (p : Nat) : Prop := ∀ j, j < p → (L 51).getD j 0 = kd (C (17 + 5 * j + 1)) ∧ (L 52).getD j 0 = dv (C (17 + 5 * j + 2)) ∧ (L 53).getD j 0 = dv (C (17 + 5 * j + 3)) ∧ (L 54).getD j 0 = dv (C (17 + 5 * j + 4))
section WD
variable {scr : Option (List Int32)} {P : ba_P} {w : ba_W} {f : Nat → Nat → Int32} {l : Nat → List Int32} {q : Nat → List Int64}
variable {F : Nat → Nat → Int32} {L : Nat → List Int32}
theorem r_perTail {p t : Nat} {FR n c of mk nk : Int32} (h : RS f F l L t p) (hp : p < 6)
    (hP : ∀ F' L', RS f F' l L' t (p + 1) → L' 51 = (L 51).set p (kd2 c) → L' 52 = (L 52).set p of → L' 53 = (L 53).set p mk → L' 54 = (L 54).set p nk → (∀ x, ¬ (51 ≤ x ∧ x ≤ 54) → L' x = L x) → P (some (.int (if 0 ≤ nk.toInt then 1 else 0))) (wW F' L' q)) :
    ba_go scr ix_X9_readsPerson 102 [some (.ref 43), some (.int FR), some (.int n), some (.int c), some (.int of), some (.int mk), some (.int nk)] [] (wW F L q) 0 0 P := by
  have h10 := h.2.2.2.2
  obtain ⟨n49, n50, n51, n52, n53, n54⟩ := h.2.2.1
  have e112 : (112 : Int32) = (Int8.ofInt 112).toInt32 := by decide
  have e99 : (99 : Int32) = (Int8.ofInt 99).toInt32 := by decide
  have s51 : ∀ v, ba_stI (wW F L q) 52 (F 42 10) v = some (wW F (u1 L 51 ((L 51).set p v)) q) := fun v => by
    rw [h10, stI_of (l := L 51) rfl (by rw [nI_toInt (by omega)]; omega) (by rw [nI_toInt (by omega), n51]; omega), nI_clamp (by omega)]
    rfl
  obtain ⟨L1, hL1⟩ : ∃ L1, L1 = u1 L 51 ((L 51).set p (kd2 c)) := ⟨_, rfl⟩
  have s52 : ∀ v, ba_stI (wW F L1 q) 53 (F 42 10) v = some (wW F (u1 L1 52 ((L 52).set p v)) q) := fun v => by
    rw [h10, hL1, stI_of (l := L 52) rfl (by rw [nI_toInt (by omega)]; omega) (by rw [nI_toInt (by omega), n52]; omega), nI_clamp (by omega)]
    rfl
  obtain ⟨L2, hL2⟩ : ∃ L2, L2 = u1 L1 52 ((L 52).set p of) := ⟨_, rfl⟩
  have s53 : ∀ v, ba_stI (wW F L2 q) 54 (F 42 10) v = some (wW F (u1 L2 53 ((L 53).set p v)) q) := fun v => by
    rw [h10, hL2, hL1, stI_of (l := L 53) rfl (by rw [nI_toInt (by omega)]; omega) (by rw [nI_toInt (by omega), n53]; omega), nI_clamp (by omega)]
    rfl
  obtain ⟨L3, hL3⟩ : ∃ L3, L3 = u1 L2 53 ((L 53).set p mk) := ⟨_, rfl⟩
  have s54 : ∀ v, ba_stI (wW F L3 q) 55 (F 42 10) v = some (wW F (u1 L3 54 ((L 54).set p v)) q) := fun v => by
    rw [h10, hL3, hL2, hL1, stI_of (l := L 54) rfl (by rw [nI_toInt (by omega)]; omega) (by rw [nI_toInt (by omega), n54]; omega), nI_clamp (by omega)]
    rfl
  obtain ⟨L4, hL4⟩ : ∃ L4, L4 = u1 L3 54 ((L 54).set p nk) := ⟨_, rfl⟩
  have k4 : RS f F l L4 t p := by
    rw [hL4, hL3, hL2, hL1]
    refine RS.put (RS.put (RS.put (RS.put h (by omega) (by rw [List.length_set])) (by omega) ?_) (by omega) ?_) (by omega) ?_
    · rw [List.length_set, u1_ne (by decide)]
    · rw [List.length_set, u1_ne (by decide), u1_ne (by decide)]
    · rw [List.length_set, u1_ne (by decide), u1_ne (by decide), u1_ne (by decide)]
  have fin := hP (u2 F 42 10 (nI (p + 1))) L4 (k4.at10 rfl) (by rw [hL4, u1_ne (by decide), hL3, u1_ne (by decide), hL2, u1_ne (by decide), hL1, u1_eq]) (by rw [hL4, u1_ne (by decide), hL3, u1_ne (by decide), hL2, u1_eq]) (by rw [hL4, u1_ne (by decide), hL3, u1_eq]) (by rw [hL4, u1_eq]) (fun x hx => by rw [hL4, u1_ne (by omega), hL3, u1_ne (by omega), hL2, u1_ne (by omega), hL1, u1_ne (by omega)])
  -- behind the kind
  have tail : ba_go scr ix_X9_readsPerson 131 [some (.ref 43), some (.int FR), some (.int n), some (.int c), some (.int of), some (.int mk), some (.int nk)] [.int (kd2 c), .int (F 42 10), .ref 52] (wW F L q) 0 0 P := by
    refine run_X9_readsPerson 40 ?_
    refine Exists.intro _ (And.intro (s51 _) ?_)
    rw [← hL1]
    refine Exists.intro _ (And.intro (rfl) ?_)
    refine Exists.intro _ (And.intro (rfl) ?_)
    refine Exists.intro _ (And.intro (s52 _) ?_)
    rw [← hL2]
    refine Exists.intro _ (And.intro (rfl) ?_)
    refine Exists.intro _ (And.intro (rfl) ?_)
    refine Exists.intro _ (And.intro (s53 _) ?_)
    rw [← hL3]
    refine Exists.intro _ (And.intro (rfl) ?_)
    refine Exists.intro _ (And.intro (rfl) ?_)
    refine Exists.intro _ (And.intro (s54 _) ?_)
    rw [← hL4]
    refine Exists.intro _ (And.intro (rfl) ?_)
    refine Exists.intro (wW (u2 F 42 10 (F 42 10 + 1)) L4 q) (And.intro rfl ?_)
    rw [h10, nI_1]
    refine And.intro (fun g => ?_) (fun g => ?_)
    · have g : nk < 0 := g
      rw [lt_i, zi] at g
      rw [if_neg (by omega)] at fin
      exact And.intro rfl fin
    · have g : ¬ nk < 0 := g
      rw [lt_i, zi] at g
      rw [if_pos (by omega)] at fin
      exact And.intro rfl fin
  refine run_X9_readsPerson 7 ?_
  refine Exists.intro _ (And.intro (rfl) ?_)
  refine Exists.intro _ (And.intro (rfl) ?_)
  refine And.intro (fun c1 => ?_) (fun c1 => ?_)
  · have c1 : ¬ c = (Int8.ofInt 112).toInt32 := c1
    rw [← e112] at c1
    refine run_X9_readsPerson 3 ?_
    refine And.intro (fun c2 => ?_) (fun c2 => ?_)
    · have c2 : ¬ c = (Int8.ofInt 99).toInt32 := c2
      rw [← e99] at c2
      have e : kd2 c = 2 := by unfold kd2; rw [if_neg c1, if_neg c2]
      rw [e] at tail
      refine run_X9_readsPerson 1 ?_
      exact tail
    · have c2 : c = (Int8.ofInt 99).toInt32 := Classical.not_not.mp c2
      rw [← e99] at c2
      have e : kd2 c = 1 := by unfold kd2; rw [if_neg c1, if_pos c2]
      rw [e] at tail
      refine run_X9_readsPerson 2 ?_
      exact tail
  · have c1 : c = (Int8.ofInt 112).toInt32 := Classical.not_not.mp c1
    rw [← e112] at c1
    have e : kd2 c = 0 := by unfold kd2; rw [if_pos c1]
    rw [e] at tail
    refine run_X9_readsPerson 2 ?_
    exact tail
theorem r_readsPerson {FR n p : Nat} {C : Nat → Int32} (h64 : (l 64).length = 240) (hFR : FR + n ≤ 240) (hC : ∀ t, t < n → (l 64).getD (FR + t) 0 = C t) (h : RS f F l L (17 + 5 * p) p) (hp : p ≤ 6) (hu : upto C (17 + 5 * p)) (hn : 17 + 5 * p ≤ n) (hlt : p < 2 ∨ 17 + 5 * p < n) (hper : perC C L p)
    (hs : upto C (17 + 5 * (p + 1)) → 17 + 5 * (p + 1) ≤ n → p < 6 → ∀ F' L', RS f F' l L' (17 + 5 * (p + 1)) (p + 1) → perC C L' (p + 1) → (∀ x, ¬ (51 ≤ x ∧ x ≤ 54) → L' x = L x) → P (some (.int 1)) (wW F' L' q))
    (hf : ∀ e F' L' p', fb C n e → RS f F' l L' e p' → P (some (.int 0)) (wW F' L' q)) :
    ba_go scr ix_X9_readsPerson 0 [some (.ref 43), some (.int (nI FR)), some (.int (nI n)), none, none, none, none] [] (wW F L q) 0 0 P := by
  have e59 : (59 : Int32) = (Int8.ofInt 59).toInt32 := by decide
  have e112 : (112 : Int32) = (Int8.ofInt 112).toInt32 := by decide
  have e99 : (99 : Int32) = (Int8.ofInt 99).toInt32 := by decide
  have e103 : (103 : Int32) = (Int8.ofInt 103).toInt32 := by decide
  have i6 : ((Int8.ofInt 6).toInt32).toInt = 6 := by decide
  have G0 : p < 6 → Gb (17 + 5 * p) (C (17 + 5 * p)) = decide (C (17 + 5 * p) = 59) := fun h => Gb_per (s := 0) h (by decide)
  have fb0 : ¬ (17 + 5 * p < n ∧ Gb (17 + 5 * p) (C (17 + 5 * p)) = true) → fb C n (17 + 5 * p) := fun g => by
    refine ⟨hu, ?_⟩
    by_cases e : 17 + 5 * p < n
    · refine Or.inl ⟨e, ?_⟩
      cases hG : Gb (17 + 5 * p) (C (17 + 5 * p)) with
      | false => rfl
      | true => exact absurd ⟨e, hG⟩ g
    · exact Or.inr ⟨by omega, fun w => by have := w.1; omega⟩
  refine run_X9_readsPerson 4 ?_
  refine Exists.intro _ (And.intro (rfl) ?_)
  rw [h.2.2.2.2]
  refine And.intro (fun c6 => ?_) (fun c6 => ?_)
  · have c6 : nI p = (Int8.ofInt 6).toInt32 := c6
    rw [eq_i, nI_toInt (by omega), i6] at c6
    refine run_X9_readsPerson 4 ?_
    refine And.intro rfl ?_
    refine hf (17 + 5 * p) F L p (fb0 (fun g => ?_)) h
    have e : Gb (17 + 5 * p) (C (17 + 5 * p)) = false := by
      unfold Gb
      rw [if_neg (by omega), if_neg (by omega), if_neg (by omega), decide_eq_false (by omega)]
      rfl
    rw [e] at g
    exact absurd g.2 (by decide)
  · have c6 : ¬ nI p = (Int8.ofInt 6).toInt32 := c6
    rw [eq_i, nI_toInt (by omega), i6] at c6
    have hp6 : p < 6 := by omega
    refine run_X9_readsPerson 6 ?_
    refine And.intro rfl (r_codeAt h64 hFR hC (by omega) h ?_)
    refine And.intro (fun c59 => ?_) (fun c59 => ?_)
    · have c59 : (if 17 + 5 * p < n then C (17 + 5 * p) else -9) = (Int8.ofInt 59).toInt32 := c59
      have hlt2 : 17 + 5 * p < n := by
        by_cases e : 17 + 5 * p < n
        · exact e
        · rw [if_neg e] at c59; exact absurd c59 (by decide)
      rw [if_pos hlt2, ← e59] at c59
      have u1' : upto C (17 + 5 * p + 1) := upto_s hu (by rw [G0 hp6]; exact decide_eq_true c59)
      have k1 := h.at9 (v := F 42 9 + 1) (t' := 17 + 5 * p + 1) (by rw [h.2.2.2.1, nI_1])
      refine run_X9_readsPerson 10 ?_
      refine Exists.intro _ (And.intro (rfl) ?_)
      refine Exists.intro (wW (u2 F 42 9 (F 42 9 + 1)) L q) (And.intro rfl ?_)
      obtain ⟨F1, hF1⟩ : ∃ F1, F1 = u2 F 42 9 (F 42 9 + 1) := ⟨_, rfl⟩
      rw [← hF1] at k1 ⊢
      refine And.intro rfl (r_codeAt (t := 17 + 5 * p + 1) h64 hFR hC (by omega) k1 ?_)
      obtain ⟨c, hc⟩ : ∃ c, c = if 17 + 5 * p + 1 < n then C (17 + 5 * p + 1) else -9 := ⟨_, rfl⟩
      rw [← hc]
      have G1 : Gb (17 + 5 * p + 1) (C (17 + 5 * p + 1)) = !decide (kd (C (17 + 5 * p + 1)) = -9) := Gb_per (s := 1) hp6 (by decide)
      have bad : (¬ c = 112) → (¬ c = 99) → (¬ c = 103) → P (some (.int 0)) (wW F1 L q) := by
        intro a1 a2 a3
        refine hf (17 + 5 * p + 1) F1 L p (fb_mk (by omega) u1' (fun g => ?_) (fun w => by have := w.2; omega)) k1
        rw [if_pos g.1] at hc
        have e : kd (C (17 + 5 * p + 1)) = -9 := by
          rw [← hc]
          unfold kd
          rw [if_neg a1, if_neg a2, if_neg a3]
        rw [G1, e] at g
        exact absurd g.2 (by decide)
      have good : (c = 112 ∨ c = 99 ∨ c = 103) → ba_go scr ix_X9_readsPerson 59 [some (.ref 43), some (.int (nI FR)), some (.int (nI n)), some (.int c), none, none, none] [] (wW F1 L q) 0 0 P := by
        intro hc3
        have hlt3 : 17 + 5 * p + 1 < n := by
          by_cases e : 17 + 5 * p + 1 < n
          · exact e
          · rw [if_neg e] at hc
            rw [hc] at hc3
            exact absurd hc3 (by decide)
        rw [if_pos hlt3] at hc
        have hkd : ¬ kd c = -9 := by rcases hc3 with e | e | e <;> rw [e] <;> decide
        have u2' : upto C (17 + 5 * p + 2) := upto_s u1' (by rw [G1, ← hc, decide_eq_false hkd]; rfl)
        have k2 := k1.at9 (v := F1 42 9 + 1) (t' := 17 + 5 * p + 2) (by rw [k1.2.2.2.1, nI_1])
        have G2 : Gb (17 + 5 * p + 2) (C (17 + 5 * p + 2)) = dg 1 (C (17 + 5 * p + 2)) := Gb_per (s := 2) hp6 (by decide)
        have G3 : Gb (17 + 5 * p + 3) (C (17 + 5 * p + 3)) = dg 3 (C (17 + 5 * p + 3)) := Gb_per (s := 3) hp6 (by decide)
        have G4 : Gb (17 + 5 * p + 4) (C (17 + 5 * p + 4)) = dg 9 (C (17 + 5 * p + 4)) := Gb_per (s := 4) hp6 (by decide)
        have m9 : ¬ 0 ≤ (-9 : Int32).toInt := by decide
        refine run_X9_readsPerson 12 ?_
        refine Exists.intro _ (And.intro (rfl) ?_)
        refine Exists.intro (wW (u2 F1 42 9 (F1 42 9 + 1)) L q) (And.intro rfl ?_)
        refine And.intro rfl (r_figure (m := 1) (t := 17 + 5 * p + 2) h64 hFR hC (by omega) (by decide) (by decide) (by decide) k2 (fun a1 a2 a3 F3 k3 => ?_) (fun a1 F3 k3 => ?_))
        · have u3' : upto C (17 + 5 * p + 3) := upto_s u2' (by rw [G2]; exact a3)
          have d1 := (dg_v (c := C (17 + 5 * p + 2)) (by decide) (by decide)).mpr a3
          refine run_X9_readsPerson 7 ?_
          refine And.intro rfl (r_figure (m := 3) (t := 17 + 5 * p + 3) h64 hFR hC (by omega) (by decide) (by decide) (by decide) k3 (fun b1 b2 b3 F4 k4 => ?_) (fun b1 F4 k4 => ?_))
          · have u4' : upto C (17 + 5 * p + 4) := upto_s u3' (by rw [G3]; exact b3)
            have d2 := (dg_v (c := C (17 + 5 * p + 3)) (by decide) (by decide)).mpr b3
            refine run_X9_readsPerson 7 ?_
            refine And.intro rfl (r_figure (m := 9) (t := 17 + 5 * p + 4) h64 hFR hC (by omega) (by decide) (by decide) (by decide) k4 (fun j1 j2 j3 F5 k5 => ?_) (fun j1 F5 k5 => ?_))
            · have u5' : upto C (17 + 5 * p + 5) := upto_s u4' (by rw [G4]; exact j3)
              have d3 := (dg_v (c := C (17 + 5 * p + 4)) (by decide) (by decide)).mpr j3
              refine run_X9_readsPerson 1 ?_
              refine r_perTail k5 hp6 (fun F' L' r0 r1 r2 r3 r4 r5 => ?_)
              rw [if_pos d3.1]
              refine hs (by rw [show 17 + 5 * (p + 1) = 17 + 5 * p + 5 by omega]; exact u5') (by omega) hp6 F' L' (by rw [show 17 + 5 * (p + 1) = 17 + 5 * p + 4 + 1 by omega]; exact r0) (fun j hj => ?_) r5
              obtain ⟨-, -, n51, n52, n53, n54⟩ := h.2.2.1
              rw [r1, r2, r3, r4, getD_set, getD_set, getD_set, getD_set]
              by_cases e : p = j
              · subst e
                rw [if_pos ⟨rfl, by omega⟩, if_pos ⟨rfl, by omega⟩, if_pos ⟨rfl, by omega⟩, if_pos ⟨rfl, by omega⟩, ← kd_kd2 hkd, hc]
                exact ⟨rfl, rfl, rfl, rfl⟩
              · rw [if_neg (fun g => e g.1), if_neg (fun g => e g.1), if_neg (fun g => e g.1), if_neg (fun g => e g.1)]
                exact hper j (by omega)
            · refine run_X9_readsPerson 1 ?_
              refine r_perTail k5 hp6 (fun F' L' r0 r1 r2 r3 r4 r5 => ?_)
              rw [if_neg m9]
              exact hf _ F' L' _ (fb_mk (by omega) u4' (fun g => j1 ⟨d2.1, g.1, by rw [← G4]; exact g.2⟩) (fun w => by have := w.2; omega)) r0
          · refine run_X9_readsPerson 7 ?_
            refine And.intro rfl (r_figure (m := 9) (t := 17 + 5 * p + 3) h64 hFR hC (by omega) (by decide) (by decide) (by decide) k4 (fun j1 j2 j3 F5 k5 => absurd j1 m9) (fun j1 F5 k5 => ?_))
            refine run_X9_readsPerson 1 ?_
            refine r_perTail k5 hp6 (fun F' L' r0 r1 r2 r3 r4 r5 => ?_)
            rw [if_neg m9]
            exact hf _ F' L' _ (fb_mk (by omega) u3' (fun g => b1 ⟨d1.1, g.1, by rw [← G3]; exact g.2⟩) (fun w => by have := w.2; omega)) r0
        · refine run_X9_readsPerson 7 ?_
          refine And.intro rfl (r_figure (m := 3) (t := 17 + 5 * p + 2) h64 hFR hC (by omega) (by decide) (by decide) (by decide) k3 (fun b1 b2 b3 F4 k4 => absurd b1 m9) (fun b1 F4 k4 => ?_))
          refine run_X9_readsPerson 7 ?_
          refine And.intro rfl (r_figure (m := 9) (t := 17 + 5 * p + 2) h64 hFR hC (by omega) (by decide) (by decide) (by decide) k4 (fun j1 j2 j3 F5 k5 => absurd j1 m9) (fun j1 F5 k5 => ?_))
          refine run_X9_readsPerson 1 ?_
          refine r_perTail k5 hp6 (fun F' L' r0 r1 r2 r3 r4 r5 => ?_)
          rw [if_neg m9]
          exact hf _ F' L' _ (fb_mk (by omega) u2' (fun g => a1 ⟨by decide, g.1, by rw [← G2]; exact g.2⟩) (fun w => by have := w.2; omega)) r0
      refine run_X9_readsPerson 4 ?_
      refine And.intro (fun q1 => ?_) (fun q1 => ?_)
      · have q1 : c = (Int8.ofInt 112).toInt32 := q1
        exact good (Or.inl (by rw [q1]; decide))
      · have q1 : ¬ c = (Int8.ofInt 112).toInt32 := q1
        refine run_X9_readsPerson 3 ?_
        refine And.intro (fun q2 => ?_) (fun q2 => ?_)
        · have q2 : c = (Int8.ofInt 99).toInt32 := q2
          exact good (Or.inr (Or.inl (by rw [q2]; decide)))
        · have q2 : ¬ c = (Int8.ofInt 99).toInt32 := q2
          refine run_X9_readsPerson 3 ?_
          refine And.intro (fun q3 => ?_) (fun q3 => ?_)
          · have q3 : c = (Int8.ofInt 103).toInt32 := q3
            exact good (Or.inr (Or.inr (by rw [q3]; decide)))
          · have q3 : ¬ c = (Int8.ofInt 103).toInt32 := q3
            refine run_X9_readsPerson 4 ?_
            rw [← e112] at q1
            rw [← e99] at q2
            rw [← e103] at q3
            exact And.intro rfl (bad q1 q2 q3)
    · have c59 : ¬ (if 17 + 5 * p < n then C (17 + 5 * p) else -9) = (Int8.ofInt 59).toInt32 := c59
      refine run_X9_readsPerson 4 ?_
      refine And.intro rfl ?_
      refine hf (17 + 5 * p) F L p (fb0 (fun g => ?_)) h
      rw [if_pos g.1, ← e59] at c59
      rw [G0 hp6, decide_eq_false c59] at g
      exact absurd g.2 (by decide)
theorem r_readsWar {FR n : Nat} {C : Nat → Int32} {xf : Int32} (hxf : xf = nI FR) (h64 : (l 64).length = 240) (hFR : FR + n ≤ 240) (hC : ∀ t, t < n → (l 64).getD (FR + t) 0 = C t) (hlen : (l 49).length = 2 ∧ (l 50).length = 12 ∧ (l 51).length = 6 ∧ (l 52).length = 6 ∧ (l 53).length = 6 ∧ (l 54).length = 6)
    (hP1 : upto C n → whl n → ∀ F L, RS f F l L n ((n - 17) / 5) → (∀ j, j < 2 → (L 49).getD j 0 = ik C j) → (∀ j, j < 12 → (L 50).getD j 0 = dv (C (5 + j))) → perC C L ((n - 17) / 5) → P (some (.int 1)) (wW F L q))
    (hP0 : ∀ e F L p, fb C n e → RS f F l L e p → P (some (.int 0)) (wW F L q)) :
    ba_go scr ix_X9_readsWar 0 [some (.ref 43), some (.int xf), some (.int (nI n)), none] [] (wW f l q) 0 0 P := by
  subst hxf
  have e119 : (119 : Int32) = (Int8.ofInt 119).toInt32 := by decide
  have i2 : (Int32.ofInt 2).toInt = 2 := rfl
  have hn : n < 1000 := by omega
  have loop : ∀ (m p : Nat) (F : Nat → Nat → Int32) (L : Nat → List Int32), p + m = 7 → p ≤ 6 → RS f F l L (17 + 5 * p) p → upto C (17 + 5 * p) → 17 + 5 * p ≤ n → (∀ j, j < 2 → (L 49).getD j 0 = ik C j) → (∀ j, j < 12 → (L 50).getD j 0 = dv (C (5 + j))) → perC C L p → ba_go scr ix_X9_readsWar 68 [some (.ref 43), some (.int (nI FR)), some (.int (nI n)), some (.int 1)] [] (wW F L q) 0 0 P := by
    intro m
    induction m with
    | zero => intro p F L g1 g2; omega
    | succ m ih =>
      intro p F L g1 g2 k0 hu hle h49 h50 hper
      have more : (p < 2 ∨ 17 + 5 * p < n) → ba_go scr ix_X9_readsWar 88 [some (.ref 43), some (.int (nI FR)), some (.int (nI n)), some (.int 1)] [] (wW F L q) 0 0 P := by
        intro hlt
        refine run_X9_readsWar 4 ?_
        refine And.intro rfl (r_readsPerson h64 hFR hC k0 g2 hu hle hlt hper (fun a1 a2 a3 F' L' k1 k2 k3 => ?_) (fun e F' L' p' a1 k1 => ?_))
        · refine run_X9_readsWar 2 ?_
          exact ih (p + 1) F' L' (by omega) (by omega) k1 a1 a2 (by rw [k3 49 (by omega)]; exact h49) (by rw [k3 50 (by omega)]; exact h50) k2
        · refine run_X9_readsWar 10 ?_
          refine And.intro (fun _ => ?_) (fun e => absurd rfl e)
          exact And.intro rfl (hP0 e F' L' p' a1 k1)
      refine run_X9_readsWar 6 ?_
      refine And.intro (fun e => absurd e (by decide)) (fun _ => ?_)
      refine Exists.intro _ (And.intro (rfl) ?_)
      rw [k0.2.2.2.2]
      refine And.intro (fun c => ?_) (fun c => ?_)
      · have c : nI p < Int32.ofInt 2 := c
        rw [lt_i, nI_toInt (by omega), i2] at c
        exact more (Or.inl (by omega))
      · have c : ¬ nI p < Int32.ofInt 2 := c
        rw [lt_i, nI_toInt (by omega), i2] at c
        refine run_X9_readsWar 4 ?_
        refine Exists.intro _ (And.intro (rfl) ?_)
        rw [k0.2.2.2.1]
        refine And.intro (fun d => ?_) (fun d => ?_)
        · have d : nI n ≤ nI (17 + 5 * p) := d
          rw [le_i, nI_toInt (by omega), nI_toInt (by omega)] at d
          have e : n = 17 + 5 * p := by omega
          have hp : (n - 17) / 5 = p := by omega
          refine run_X9_readsWar 3 ?_
          refine And.intro rfl (hP1 (by rw [e]; exact hu) ⟨by omega, by omega⟩ F L (by rw [hp, e]; exact k0) h49 h50 (by rw [hp]; exact hper))
        · have d : ¬ nI n ≤ nI (17 + 5 * p) := d
          rw [le_i, nI_toInt (by omega), nI_toInt (by omega)] at d
          exact more (Or.inr (by omega))
  have bad : ∀ e F L p, fb C n e → RS f F l L e p → ba_go scr ix_X9_readsWar 66 [some (.ref 43), some (.int (nI FR)), some (.int (nI n)), none] [] (wW F L q) 0 0 P := by
    intro e F L p h1 h2
    refine run_X9_readsWar 10 ?_
    refine And.intro (fun _ => ?_) (fun e => absurd rfl e)
    exact And.intro rfl (hP0 e F L p h1 h2)
  have k0 : RS f (u2 (u2 f 42 9 0) 42 10 0) l l 0 0 := by
    refine ⟨fun x y hx => ?_, fun _ _ => rfl, hlen, ?_, ?_⟩
    · by_cases e : x = 42
      · subst e
        rw [u2_nj (by omega), u2_nj (by omega)]
      · rw [u2_ne e, u2_ne e]
    · rw [u2_nj (by decide), u2_eq]
      rfl
    · rw [u2_eq]
      rfl
  have hu0 : upto C 0 := fun s hs => absurd hs (by omega)
  refine run_X9_readsWar 12 ?_
  refine Exists.intro (wW (u2 f 42 9 0) l q) (And.intro rfl ?_)
  refine Exists.intro (wW (u2 (u2 f 42 9 0) 42 10 0) l q) (And.intro rfl ?_)
  obtain ⟨F0, hF0⟩ : ∃ F0, F0 = u2 (u2 f 42 9 0) 42 10 0 := ⟨_, rfl⟩
  rw [← hF0] at k0 ⊢
  refine And.intro rfl (r_codeAt (t := 0) h64 hFR hC (by omega) k0 ?_)
  have G0 : Gb 0 (C 0) = decide (C 0 = 119) := rfl
  refine And.intro (fun c => ?_) (fun c => ?_)
  · have c : (if 0 < n then C 0 else -9) = (Int8.ofInt 119).toInt32 := c
    have hn0 : 0 < n := by
      by_cases e : 0 < n
      · exact e
      · rw [if_neg e] at c; exact absurd c (by decide)
    rw [if_pos hn0, ← e119] at c
    have u1' : upto C 1 := upto_s (t := 0) hu0 (by rw [G0]; exact decide_eq_true c)
    have k1 := k0.at9 (v := F0 42 9 + 1) (t' := 1) (by rw [k0.2.2.2.1, nI_1])
    refine run_X9_readsWar 11 ?_
    refine Exists.intro _ (And.intro (rfl) ?_)
    refine Exists.intro (wW (u2 F0 42 9 (F0 42 9 + 1)) l q) (And.intro rfl ?_)
    refine And.intro rfl (r_readsInk (o := 0) h64 hFR hC (by decide) k1 u1' (by omega) (fun a1 a2 F2 L2 k2 w2 x2 => ?_) (fun e F2 L2 a1 k2 => ?_))
    · refine run_X9_readsWar 6 ?_
      refine And.intro (fun e => absurd e (by decide)) (fun _ => ?_)
      refine And.intro rfl (r_readsInk (o := 1) h64 hFR hC (by decide) k2 a1 a2 (fun b1 b2 F3 L3 k3 w3 x3 => ?_) (fun e F3 L3 b1 k3 => ?_))
      · refine run_X9_readsWar 5 ?_
        refine And.intro (fun e => absurd e (by decide)) (fun _ => ?_)
        refine And.intro rfl (r_readsRules h64 hFR hC k3 b1 b2 (fun d1 d2 F4 L4 k4 w4 x4 => ?_) (fun e F4 L4 d1 k4 => ?_))
        · refine run_X9_readsWar 4 ?_
          refine And.intro (fun e => absurd e (by decide)) (fun _ => ?_)
          refine loop 7 0 F4 L4 rfl (by decide) k4 d1 d2 (fun j hj => ?_) w4 (fun j hj => absurd hj (by omega))
          rw [x4 49 (by decide), w3, w2, getD_set, getD_set]
          match j, hj with
          | 0, _ => rw [if_neg (by omega), if_pos ⟨rfl, by rw [hlen.1]; decide⟩]
          | 1, _ => rw [if_pos ⟨rfl, by rw [List.length_set, hlen.1]; decide⟩]
        · refine run_X9_readsWar 1 ?_
          refine And.intro (fun _ => ?_) (fun e => absurd rfl e)
          exact bad _ _ _ _ d1 k4
      · refine run_X9_readsWar 1 ?_
        refine And.intro (fun _ => ?_) (fun e => absurd rfl e)
        exact bad _ _ _ _ b1 k3
    · refine run_X9_readsWar 1 ?_
      refine And.intro (fun _ => ?_) (fun e => absurd rfl e)
      exact bad _ _ _ _ a1 k2
  · have c : ¬ (if 0 < n then C 0 else -9) = (Int8.ofInt 119).toInt32 := c
    refine run_X9_readsWar 4 ?_
    refine And.intro rfl ?_
    refine hP0 0 F0 l 0 (fb_mk (by omega) hu0 (fun g => ?_) (fun w => by have := w.1; omega)) k0
    rw [if_pos g.1, ← e119] at c
    rw [G0, decide_eq_false c] at g
    exact absurd g.2 (by decide)
end WD
