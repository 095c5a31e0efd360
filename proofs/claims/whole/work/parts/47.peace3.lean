/-! peace (3) -/
section P3
variable {scr : Option (List Int32)} {P : ba_P} {w : ba_W} {f : Nat → Nat → Int32} {l : Nat → List Int32} {q : Nat → List Int64}
theorem wo_n {f : Nat → Nat → Int32} {n : Nat} {o : Int32} : ∀ x, n ≤ x → wo f 2 n o x = false := fun x hx => by
  unfold wo pe
  rw [decide_eq_false (show ¬ x < n by omega), Bool.false_and, Bool.false_and]
theorem both_peace {a : Int32} (hI : Inv f l q) : both scr ix_X8_peace ix_X9_peace [some (.ref 1), some (.int a), none, none, none] [some (.ref 43), some (.int a), none, none, none] f l q := by
  intro P hP
  obtain ⟨n, hn, hc, hc2⟩ := inv_n hI
  have hm := inv_m hI
  obtain ⟨-, m5, m6, m7, m8⟩ := plens hI
  obtain ⟨⟨⟨hn1, hn2, hn3⟩, hL, hE, hR⟩, hPp, hD, hM, hS⟩ := id hI
  have e1 : ∀ o x, x < 6 → ro l n o 1 x = wo f 2 n o x := fun o x hx => by
    unfold ro wo pe
    rw [hE.2.1.2.1, hE.2.1.2.2.1, col_at hx, col_at hx, decide_eq_false (show ¬ (1 : Int32) = 0 by decide), Bool.false_or, Bool.and_assoc]
  have eB : ∀ o, B6 (ro l n o 1) = B6 (wo f 2 n o) := fun o => B6_congr (e1 o)
  have ht : ∀ p, p < 6 → tn f p ≤ 20 ∧ tk ((l 45).getD p 0) ((l 48).getD p 0) = nI (tn f p) := fun p hp => by
    rw [hE.2.1.1, hE.2.1.2.2.2, col_at hp, col_at hp]
    exact tn_le hPp hp
  obtain ⟨k, hk⟩ : ∃ k, k = if c6 (wo f 2 n 0) < c6 (wo f 2 n 1) then c6 (wo f 2 n 0) else c6 (wo f 2 n 1) := ⟨_, rfl⟩
  have b0 := c6_le (wo f 2 n 0)
  have b1 := c6_le (wo f 2 n 1)
  have k0 : k ≤ c6 (wo f 2 n 0) := by rw [hk]; split <;> omega
  have k1 : k ≤ c6 (wo f 2 n 1) := by rw [hk]; split <;> omega
  have bad : ¬ (f 42 1).toInt = 0 → ¬ (0 ≤ a.toInt ∧ a.toInt ≤ 1) → P (some (.int (-2))) (wW f l q) := by
    intro c0 h
    refine hP _ f l q (fun P2 h2 => ?_)
    refine run_X9_peace 30 ?_
    repeat (first | refine And.intro (fun e => absurd e (by decide)) (fun e => ?_) | refine And.intro (fun e => ?_) (fun e => absurd e (by decide)) | refine Exists.intro _ (And.intro rfl ?_) | refine And.intro rfl ?_)
    refine And.intro (fun d => ?_) (fun d => absurd (Classical.not_not.mp d) (fun e => c0 (by rw [e]; rfl)))
    repeat (first | refine And.intro (fun e => absurd e (by decide)) (fun e => ?_) | refine And.intro (fun e => ?_) (fun e => absurd e (by decide)) | refine Exists.intro _ (And.intro rfl ?_) | refine And.intro rfl ?_)
    refine s_in (x := a.toInt) (a := 0) (b := 1) l64 rfl rfl (fun e1 e2 => absurd ⟨e1, e2⟩ h) (fun e1 => ?_)
    repeat (first | refine And.intro (fun e => absurd e (by decide)) (fun e => ?_) | refine And.intro (fun e => ?_) (fun e => absurd e (by decide)) | refine Exists.intro _ (And.intro rfl ?_) | refine And.intro rfl ?_)
    exact h2 f l q hI
  refine run_X8_peace 9 ?_
  repeat (first | refine And.intro (fun e => absurd e (by decide)) (fun e => ?_) | refine And.intro (fun e => ?_) (fun e => absurd e (by decide)) | refine Exists.intro _ (And.intro rfl ?_) | refine And.intro rfl ?_)
  refine s_isOn (b := 2) (Or.inl rfl) (fun c0 => ?_) (fun c0 => ?_)
  · have c0 : ¬ (f 42 1).toInt = 0 := by rw [hn3]; omega
    repeat (first | refine And.intro (fun e => absurd e (by decide)) (fun e => ?_) | refine And.intro (fun e => ?_) (fun e => absurd e (by decide)) | refine Exists.intro _ (And.intro rfl ?_) | refine And.intro rfl ?_)
    refine s_within (a := 0) (b := 1) rfl rfl (fun c5 c6' => ?_) (fun c5 => ?_)
    · -- the reference, up to the number of twos
      have ref : ∀ (P2 : ba_P) , ba_go scr ix_X9_peace 55 [some (.ref 43), some (.int a), some (.int (nI (c6 (wo f 2 n 0)))), some (.int (nI (c6 (wo f 2 n 1)))), some (.int (nI k))] [] (wW f l q) 0 0 P2 → ba_go scr ix_X9_peace 0 [some (.ref 43), some (.int a), none, none, none] [] (wW f l q) 0 0 P2 := by
        intro P2 h
        refine run_X9_peace 24 ?_
        repeat (first | refine And.intro (fun e => absurd e (by decide)) (fun e => ?_) | refine And.intro (fun e => ?_) (fun e => absurd e (by decide)) | refine Exists.intro _ (And.intro rfl ?_) | refine And.intro rfl ?_)
        refine And.intro (fun d => ?_) (fun d => absurd (Classical.not_not.mp d) (fun e => c0 (by rw [e]; rfl)))
        repeat (first | refine And.intro (fun e => absurd e (by decide)) (fun e => ?_) | refine And.intro (fun e => ?_) (fun e => absurd e (by decide)) | refine Exists.intro _ (And.intro rfl ?_) | refine And.intro rfl ?_)
        refine s_in (x := a.toInt) (a := 0) (b := 1) l64 rfl rfl (fun e1 e2 => ?_) (fun e1 => absurd ⟨c5, c6'⟩ e1)
        refine And.intro (fun _ => ?_) (fun e => absurd (by decide) e)
        refine And.intro rfl (r_peopleOf (o := 0) (x := 1) hn hc2 m6 m7 ?_)
        rw [eB]
        refine And.intro rfl (r_bits ?_)
        refine And.intro rfl (r_peopleOf (o := 1) (x := 1) hn hc2 m6 m7 ?_)
        rw [eB]
        refine And.intro rfl (r_bits ?_)
        refine And.intro (fun g => ?_) (fun g => ?_)
        · have g : nI (c6 (wo f 2 n 1)) ≤ nI (c6 (wo f 2 n 0)) := g
          rw [le_i, nI_toInt (by omega), nI_toInt (by omega)] at g
          rw [if_neg (by omega)] at hk
          refine run_X9_peace 2 ?_
          rw [hk] at h
          exact h
        · have g : ¬ nI (c6 (wo f 2 n 1)) ≤ nI (c6 (wo f 2 n 0)) := g
          rw [le_i, nI_toInt (by omega), nI_toInt (by omega)] at g
          rw [if_pos (by omega)] at hk
          refine run_X9_peace 3 ?_
          rw [hk] at h
          exact h
      refine And.intro (fun _ => ?_) (fun e => absurd (by decide) e)
      refine run_X8_peace 40 ?_
      refine Exists.intro _ (And.intro (rfl) ?_)
      refine And.intro rfl (s_workersOf (o := 0) (Or.inl rfl) hn hc hm ?_)
      refine Exists.intro _ (And.intro (rfl) ?_)
      refine And.intro rfl (s_workersOf (o := 1) (Or.inl rfl) hn hc hm ?_)
      refine And.intro rfl (s_bitCount rfl ?_)
      refine And.intro rfl (s_bitCount rfl ?_)
      have ek : (if nI (c6 (wo f 2 n 1)) < nI (c6 (wo f 2 n 0)) then nI (c6 (wo f 2 n 1)) else nI (c6 (wo f 2 n 0))) = nI k := by
        by_cases h : c6 (wo f 2 n 1) < c6 (wo f 2 n 0)
        · rw [if_pos (by rw [lt_i, nI_toInt (by omega), nI_toInt (by omega)]; omega), hk, if_neg (by omega)]
        · rw [if_neg (by rw [lt_i, nI_toInt (by omega), nI_toInt (by omega)]; omega), hk]
          by_cases h2 : c6 (wo f 2 n 0) < c6 (wo f 2 n 1)
          · rw [if_pos h2]
          · rw [if_neg h2, show c6 (wo f 2 n 0) = c6 (wo f 2 n 1) by omega]
      refine And.intro rfl ?_
      rw [ek]
      refine And.intro (fun g => ?_) (fun g => ?_)
      · have g : ¬ a = 0 := g
        refine Exists.intro _ (And.intro (rfl) ?_)
        refine And.intro rfl (s_mostTakes (k := k) (by omega) hn hc hPp wo_n ?_)
        refine Exists.intro _ (And.intro (rfl) ?_)
        refine And.intro rfl (s_mostTakes (k := k) (by omega) hn hc hPp wo_n ?_)
        refine hP _ f l q (fun P2 h2 => ref P2 ?_)
        have best : ∀ (o : Int32) (Y : Nat → Bool), (∀ x, n ≤ x → Y x = false) → Qg (ro l n o 1) (Gx (ro l n o 1) (tn f) 0) (tn f) k Y → k ≤ c6 (wo f 2 n o) → mx (okS (wo f 2 n o) k) (fun j => smi (tn f) (bset j) n) 64 = smi (tn f) Y 6 := by
          intro o Y hYn hQ hko
          refine Qg_best hn wo_n hYn ⟨fun x hx h => by rw [← e1 o x hx]; exact hQ.1 x hx h, hQ.2.1, fun h x hx => ?_, fun h => ?_⟩ hko
          · rw [hQ.2.2.1 h x hx]
            unfold Gx
            rw [e1 o x hx]
          · obtain ⟨th, t1, t2⟩ := hQ.2.2.2 h
            exact ⟨th, t1, fun x hx h1 h2 => t2 x hx (by rw [e1 o x hx]; exact h1) h2⟩
        refine run_X9_peace 20 ?_
        refine And.intro (fun _ => ?_) (fun e => absurd g e)
        refine And.intro rfl (r_dearest (o := 0) (t := tn f) hn (by omega) hc2 m5 m6 m7 m8 ht (fun Y hYn hQ => ?_))
        refine And.intro rfl (r_dearest (o := 1) (t := tn f) hn (by omega) hc2 m5 m6 m7 m8 ht (fun Y2 hYn2 hQ2 => ?_))
        have h3 := h2 f l q hI
        have E0 := best 0 Y hYn hQ k0
        have E1 := best 1 Y2 hYn2 hQ2 k1
        rw [← E0, ← E1]
        exact h3
      · have g : a = 0 := Classical.not_not.mp g
        refine hP _ f l q (fun P2 h2 => ref P2 ?_)
        refine run_X9_peace 20 ?_
        refine And.intro (fun e => absurd g e) (fun _ => ?_)
        exact h2 f l q hI
    · repeat (first | refine And.intro (fun e => absurd e (by decide)) (fun e => ?_) | refine And.intro (fun e => ?_) (fun e => absurd e (by decide)) | refine Exists.intro _ (And.intro rfl ?_) | refine And.intro rfl ?_)
      refine run_X8_peace 2 ?_
      exact bad c0 c5
  · repeat (first | refine And.intro (fun e => absurd e (by decide)) (fun e => ?_) | refine And.intro (fun e => ?_) (fun e => absurd e (by decide)) | refine Exists.intro _ (And.intro rfl ?_) | refine And.intro rfl ?_)
    refine hP _ f l q (fun P2 h2 => ?_)
    refine run_X9_peace 60 ?_
    repeat (first | refine And.intro (fun e => absurd e (by decide)) (fun e => ?_) | refine And.intro (fun e => ?_) (fun e => absurd e (by decide)) | refine Exists.intro _ (And.intro rfl ?_) | refine And.intro rfl ?_)
    refine And.intro (fun d => absurd (show f 42 1 = 0 by rw [eq_i, zi, hn3]; omega) d) (fun d => ?_)
    repeat (first | refine And.intro (fun e => absurd e (by decide)) (fun e => ?_) | refine And.intro (fun e => ?_) (fun e => absurd e (by decide)) | refine Exists.intro _ (And.intro rfl ?_) | refine And.intro rfl ?_)
    exact h2 f l q hI
end P3
