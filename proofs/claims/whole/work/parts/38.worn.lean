/-! worn -/
def gs (L : List Int32) (s : Nat) : Nat → Nat := fun m => rn L (3 * m + s)
def it (g : Nat → Nat) : Nat → Nat → Nat
  | 0, m => m
  | k + 1, m => g (it g k m)
def cbk (g : Nat → Nat) (m : Nat) : Nat → Nat → Nat
  | 0, _ => 0
  | k + 1, j => if it g j m = m then j else cbk g m k (j + 1)
def cb (g : Nat → Nat) (m : Nat) : Nat := cbk g m 4 1
theorem it_add {g : Nat → Nat} {b m : Nat} : ∀ a, it g a (it g b m) = it g (a + b) m
  | 0 => by rw [Nat.zero_add]; rfl
  | a + 1 => by
    show g (it g a (it g b m)) = it g (a + 1 + b) m
    rw [it_add a, show a + 1 + b = a + b + 1 by omega]
    rfl
theorem it_lt {g : Nat → Nat} {m : Nat} (hg : ∀ x, x < 4 → g x < 4) (hm : m < 4) : ∀ k, it g k m < 4
  | 0 => hm
  | k + 1 => hg _ (it_lt hg hm k)
theorem cb_le {g : Nat → Nat} {m : Nat} : cb g m ≤ 4 := by
  show (if _ then 1 else if _ then 2 else if _ then 3 else if _ then 4 else 0) ≤ 4
  repeat (first | split | decide)
theorem cb_ne {g : Nat → Nat} {m n : Nat} (h1 : 1 ≤ n) (h4 : n ≤ 4) (h : it g n m = m) : ¬ cb g m = 0 := by
  show ¬ (if it g 1 m = m then 1 else if it g 2 m = m then 2 else if it g 3 m = m then 3 else if it g 4 m = m then 4 else 0) = 0
  by_cases e1 : it g 1 m = m
  · rw [if_pos e1]; decide
  · by_cases e2 : it g 2 m = m
    · rw [if_neg e1, if_pos e2]; decide
    · by_cases e3 : it g 3 m = m
      · rw [if_neg e1, if_neg e2, if_pos e3]; decide
      · have : n = 4 := by
          have : ¬ n = 1 := fun e => e1 (e ▸ h)
          have : ¬ n = 2 := fun e => e2 (e ▸ h)
          have : ¬ n = 3 := fun e => e3 (e ▸ h)
          omega
        subst this
        rw [if_neg e1, if_neg e2, if_neg e3, if_pos h]; decide
theorem cb_ex {g : Nat → Nat} {m : Nat} (hg : ∀ x, x < 4 → g x < 4) (hm : m < 4) : ∃ t, t ≤ 3 ∧ ¬ cb g (it g t m) = 0 ∧ ∀ t', t' < t → cb g (it g t' m) = 0 := by
  have key : ∃ i, i ≤ 3 ∧ ¬ cb g (it g i m) = 0 := by
    have pg := (by decide +kernel : ∀ a b c d e : Fin 4, (a.1 = b.1 ∨ a.1 = c.1 ∨ a.1 = d.1 ∨ a.1 = e.1) ∨ (b.1 = c.1 ∨ b.1 = d.1 ∨ b.1 = e.1) ∨ (c.1 = d.1 ∨ c.1 = e.1) ∨ d.1 = e.1) ⟨_, it_lt hg hm 0⟩ ⟨_, it_lt hg hm 1⟩ ⟨_, it_lt hg hm 2⟩ ⟨_, it_lt hg hm 3⟩ ⟨_, it_lt hg hm 4⟩
    rcases pg with (h | h | h | h) | (h | h | h) | (h | h) | h
    · exact ⟨0, by decide, cb_ne (n := 1) (by decide) (by decide) ((it_add 1).trans h.symm)⟩
    · exact ⟨0, by decide, cb_ne (n := 2) (by decide) (by decide) ((it_add 2).trans h.symm)⟩
    · exact ⟨0, by decide, cb_ne (n := 3) (by decide) (by decide) ((it_add 3).trans h.symm)⟩
    · exact ⟨0, by decide, cb_ne (n := 4) (by decide) (by decide) ((it_add 4).trans h.symm)⟩
    · exact ⟨1, by decide, cb_ne (n := 1) (by decide) (by decide) ((it_add 1).trans h.symm)⟩
    · exact ⟨1, by decide, cb_ne (n := 2) (by decide) (by decide) ((it_add 2).trans h.symm)⟩
    · exact ⟨1, by decide, cb_ne (n := 3) (by decide) (by decide) ((it_add 3).trans h.symm)⟩
    · exact ⟨2, by decide, cb_ne (n := 1) (by decide) (by decide) ((it_add 1).trans h.symm)⟩
    · exact ⟨2, by decide, cb_ne (n := 2) (by decide) (by decide) ((it_add 2).trans h.symm)⟩
    · exact ⟨3, by decide, cb_ne (n := 1) (by decide) (by decide) ((it_add 1).trans h.symm)⟩
  obtain ⟨i, hi, hne⟩ := key
  by_cases h0 : cb g (it g 0 m) = 0
  · by_cases h1 : cb g (it g 1 m) = 0
    · by_cases h2 : cb g (it g 2 m) = 0
      · refine ⟨3, by decide, ?_, fun t' ht => ?_⟩
        · have : i = 3 := by
            have : ¬ i = 0 := fun e => hne (e ▸ h0)
            have : ¬ i = 1 := fun e => hne (e ▸ h1)
            have : ¬ i = 2 := fun e => hne (e ▸ h2)
            omega
          exact this ▸ hne
        · match t', ht with
          | 0, _ => exact h0
          | 1, _ => exact h1
          | 2, _ => exact h2
      · refine ⟨2, by decide, h2, fun t' ht => ?_⟩
        match t', ht with
        | 0, _ => exact h0
        | 1, _ => exact h1
    · refine ⟨1, by decide, h1, fun t' ht => ?_⟩
      match t', ht with
      | 0, _ => exact h0
  · exact ⟨0, by decide, h0, fun t' ht => absurd ht (by omega)⟩
section WN
variable {scr : Option (List Int32)} {P : ba_P} {w : ba_W} {f : Nat → Nat → Int32} {l : Nat → List Int32} {q : Nat → List Int64}
theorem gs_lt {L : List Int32} (hr : rv L) {m s : Nat} (hm : m < 4) (hs : s < 3) : gs L s m < 4 := by
  have h1 := hr (3 * m + s) (by omega)
  have h2 := ix_i h1.1
  show (L.getD (3 * m + s) 0).toNatClampNeg < 4
  omega
theorem rl_gs {L : List Int32} (hr : rv L) {m s : Nat} (hm : m < 4) (hs : s < 3) : rl L (nI m) (nI s) = nI (gs L s m) := by
  have hidx := idx3 (m := nI m) (s := nI s) (by rw [nI_toInt (by omega)]; omega) (by rw [nI_toInt (by omega)]; omega) (by rw [nI_toInt (by omega)]; omega) (by rw [nI_toInt (by omega)]; omega)
  rw [nI_toInt (by omega), nI_toInt (by omega)] at hidx
  have hcl : (nI m * 3 + nI s).toNatClampNeg = 3 * m + s := by
    have := ix_i (x := nI m * 3 + nI s) (by omega)
    omega
  unfold rl gs rn
  rw [hcl]
  have h1 := hr (3 * m + s) (by omega)
  have h2 := ix_i h1.1
  rw [eq_i, nI_toInt (by omega)]
  omega
theorem s_aft {m s : Nat} (hl : (l 5).length = 12) (hr : rv (l 5)) (hm : m < 4) (hs : s < 3) (hP : P (some (.int (nI (gs (l 5) s m)))) (wW f l q)) : ba_go scr ix_X4_after 0 [some (.ref 5), some (.int (nI m)), some (.int (nI s))] [] (wW f l q) 0 0 P := by
  refine s_after (b := 2) (Or.inl rfl) hl (by rw [nI_toInt (by omega)]; omega) (by rw [nI_toInt (by omega)]; omega) (by rw [nI_toInt (by omega)]; omega) (by rw [nI_toInt (by omega)]; omega) ?_
  rw [rl_gs hr hm hs]
  exact hP
theorem r_aft {m s : Nat} (hl : (l 44).length = 12) (hr : rv (l 44)) (hm : m < 4) (hs : s < 3) (hP : P (some (.int (nI (gs (l 44) s m)))) (wW f l q)) : ba_go scr ix_X9_becomes 0 [some (.ref 43), some (.int (nI m)), some (.int (nI s))] [] (wW f l q) 0 0 P := by
  refine r_becomes hl (by rw [nI_toInt (by omega)]; omega) (by rw [nI_toInt (by omega)]; omega) (by rw [nI_toInt (by omega)]; omega) (by rw [nI_toInt (by omega)]; omega) ?_
  rw [rl_gs hr hm hs]
  exact hP
theorem s_struck {m s n : Nat} (hl : (l 5).length = 12) (hr : rv (l 5)) (hm : m < 4) (hs : s < 3) (hn : n < 100) (hP : P (some (.int (nI (it (gs (l 5) s) n m)))) (wW f l q)) : ba_go scr ix_X4_struck 0 [some (.ref 5), some (.int (nI m)), some (.int (nI s)), some (.int (nI n)), none, none] [] (wW f l q) 0 0 P := by
  have hg : ∀ x, x < 4 → gs (l 5) s x < 4 := fun x hx => gs_lt hr hx hs
  have loop : ∀ (k j : Nat) (x y : Int32), j + k = n → x = nI (it (gs (l 5) s) j m) → y = nI j → ba_go scr ix_X4_struck 6 [some (.ref 5), some (.int (nI m)), some (.int (nI s)), some (.int (nI n)), some (.int x), some (.int y)] [] (wW f l q) 0 0 P := by
    intro k
    induction k with
    | zero =>
      intro j x y h1 h2 h3
      subst h2; subst h3
      have h4 : j = n := by omega
      subst h4
      refine run_X4_struck 5 ?_
      refine And.intro (fun _ => ?_) (fun e => absurd (by show nI j ≤ nI j; rw [le_i]; omega) e)
      exact hP
    | succ k ih =>
      intro j x y h1 h2 h3
      subst h2; subst h3
      refine run_X4_struck 10 ?_
      refine And.intro (fun e => absurd e (by show ¬ nI n ≤ nI j; rw [le_i, nI_toInt (by omega), nI_toInt (by omega)]; omega)) (fun _ => ?_)
      refine And.intro rfl (s_aft hl hr (it_lt hg hm j) hs ?_)
      exact ih (j + 1) _ _ (by omega) rfl (nI_1 j)
  refine run_X4_struck 4 ?_
  exact loop n 0 _ 0 (by omega) rfl rfl
theorem r_struckOften {m s n : Nat} (hl : (l 44).length = 12) (hr : rv (l 44)) (hm : m < 4) (hs : s < 3) (hn : n < 100) (hP : P (some (.int (nI (it (gs (l 44) s) n m)))) (wW f l q)) : ba_go scr ix_X9_struckOften 0 [some (.ref 43), some (.int (nI m)), some (.int (nI s)), some (.int (nI n)), none, none] [] (wW f l q) 0 0 P := by
  have hg : ∀ x, x < 4 → gs (l 44) s x < 4 := fun x hx => gs_lt hr hx hs
  have loop : ∀ (k j : Nat) (x y : Int32), j + k = n → x = nI (it (gs (l 44) s) j m) → y = nI j → ba_go scr ix_X9_struckOften 6 [some (.ref 43), some (.int (nI m)), some (.int (nI s)), some (.int (nI n)), some (.int x), some (.int y)] [] (wW f l q) 0 0 P := by
    intro k
    induction k with
    | zero =>
      intro j x y h1 h2 h3
      subst h2; subst h3
      have h4 : j = n := by omega
      subst h4
      refine run_X9_struckOften 5 ?_
      refine And.intro (fun _ => ?_) (fun e => absurd (by show nI j ≤ nI j; rw [le_i]; omega) e)
      exact hP
    | succ k ih =>
      intro j x y h1 h2 h3
      subst h2; subst h3
      refine run_X9_struckOften 10 ?_
      refine And.intro (fun e => absurd e (by show ¬ nI n ≤ nI j; rw [le_i, nI_toInt (by omega), nI_toInt (by omega)]; omega)) (fun _ => ?_)
      refine And.intro rfl (r_aft hl hr (it_lt hg hm j) hs ?_)
      exact ih (j + 1) _ _ (by omega) rfl (nI_1 j)
  refine run_X9_struckOften 4 ?_
  exact loop n 0 _ 0 (by omega) rfl rfl
theorem s_comesBackBy {m s : Nat} (hl : (l 5).length = 12) (hr : rv (l 5)) (hm : m < 4) (hs : s < 3) (hP : P (some (.int (nI (cb (gs (l 5) s) m)))) (wW f l q)) : ba_go scr ix_X4_comesBackBy 0 [some (.ref 5), some (.int (nI m)), some (.int (nI s)), none] [] (wW f l q) 0 0 P := by
  have hg : ∀ x, x < 4 → gs (l 5) s x < 4 := fun x hx => gs_lt hr hx hs
  have loop : ∀ (k j : Nat) (y : Int32), j + k = 5 → P (some (.int (nI (cbk (gs (l 5) s) m k j)))) (wW f l q) → y = nI j → ba_go scr ix_X4_comesBackBy 2 [some (.ref 5), some (.int (nI m)), some (.int (nI s)), some (.int y)] [] (wW f l q) 0 0 P := by
    intro k
    induction k with
    | zero =>
      intro j y h1 h2 h3
      subst h3
      have h4 : j = 5 := by omega
      subst h4
      refine run_X4_comesBackBy 5 ?_
      refine And.intro (fun _ => ?_) (fun e => absurd (by decide) e)
      exact h2
    | succ k ih =>
      intro j y h1 h2 h3
      subst h3
      refine run_X4_comesBackBy 10 ?_
      refine And.intro (fun e => absurd e (by show ¬ (4 : Int32) < nI j; rw [lt_i, nI_toInt (by omega), show (4 : Int32).toInt = 4 from rfl]; omega)) (fun _ => ?_)
      refine And.intro rfl (s_struck hl hr hm hs (by omega) ?_)
      refine And.intro (fun c => ?_) (fun c => ?_)
      · have c : ¬ nI (it (gs (l 5) s) j m) = nI m := c
        have c2 : ¬ it (gs (l 5) s) j m = m := fun e => c (by rw [e])
        refine run_X4_comesBackBy 2 ?_
        have h2 : P (some (.int (nI (if it (gs (l 5) s) j m = m then j else cbk (gs (l 5) s) m k (j + 1))))) (wW f l q) := h2
        rw [if_neg c2] at h2
        exact ih (j + 1) _ (by omega) h2 (nI_1 j)
      · have c : nI (it (gs (l 5) s) j m) = nI m := Classical.not_not.mp c
        have hlt := it_lt hg hm j
        have c2 : it (gs (l 5) s) j m = m := (nI_eq (by omega) (by omega)).mp c
        refine run_X4_comesBackBy 2 ?_
        have h2 : P (some (.int (nI (if it (gs (l 5) s) j m = m then j else cbk (gs (l 5) s) m k (j + 1))))) (wW f l q) := h2
        rw [if_pos c2] at h2
        exact h2
  refine run_X4_comesBackBy 2 ?_
  exact loop 4 1 1 rfl hP rfl
theorem r_comesBack {m s : Nat} (hl : (l 44).length = 12) (hr : rv (l 44)) (hm : m < 4) (hs : s < 3) (h0 : cb (gs (l 44) s) m = 0 → P (some (.int (-9))) (wW f l q)) (h1 : ¬ cb (gs (l 44) s) m = 0 → P (some (.int (nI (cb (gs (l 44) s) m)))) (wW f l q)) : ba_go scr ix_X9_comesBack 0 [some (.ref 43), some (.int (nI m)), some (.int (nI s)), none] [] (wW f l q) 0 0 P := by
  have hg : ∀ x, x < 4 → gs (l 44) s x < 4 := fun x hx => gs_lt hr hx hs
  have loop : ∀ (k j : Nat) (y : Int32), j + k = 5 → 1 ≤ j → (cbk (gs (l 44) s) m k j = 0 → P (some (.int (-9))) (wW f l q)) → (¬ cbk (gs (l 44) s) m k j = 0 → P (some (.int (nI (cbk (gs (l 44) s) m k j)))) (wW f l q)) → y = nI j → ba_go scr ix_X9_comesBack 2 [some (.ref 43), some (.int (nI m)), some (.int (nI s)), some (.int y)] [] (wW f l q) 0 0 P := by
    intro k
    induction k with
    | zero =>
      intro j y h1 hj h2 _ h3
      subst h3
      have h4 : j = 5 := by omega
      subst h4
      refine run_X9_comesBack 5 ?_
      refine And.intro (fun _ => ?_) (fun e => absurd (by decide) e)
      exact h2 rfl
    | succ k ih =>
      intro j y h1 hj h2 h2' h3
      subst h3
      refine run_X9_comesBack 10 ?_
      refine And.intro (fun e => absurd e (by show ¬ (4 : Int32) < nI j; rw [lt_i, nI_toInt (by omega), show (4 : Int32).toInt = 4 from rfl]; omega)) (fun _ => ?_)
      refine And.intro rfl (r_struckOften hl hr hm hs (by omega) ?_)
      have ee : cbk (gs (l 44) s) m (k + 1) j = (if it (gs (l 44) s) j m = m then j else cbk (gs (l 44) s) m k (j + 1)) := rfl
      rw [ee] at h2 h2'
      refine And.intro (fun c => ?_) (fun c => ?_)
      · have c : ¬ nI (it (gs (l 44) s) j m) = nI m := c
        have c2 : ¬ it (gs (l 44) s) j m = m := fun e => c (by rw [e])
        refine run_X9_comesBack 2 ?_
        rw [if_neg c2] at h2 h2'
        exact ih (j + 1) _ (by omega) (by omega) h2 h2' (nI_1 j)
      · have c : nI (it (gs (l 44) s) j m) = nI m := Classical.not_not.mp c
        have hlt := it_lt hg hm j
        have c2 : it (gs (l 44) s) j m = m := (nI_eq (by omega) (by omega)).mp c
        refine run_X9_comesBack 2 ?_
        rw [if_pos c2] at h2 h2'
        exact h2' (by omega)
  refine run_X9_comesBack 2 ?_
  exact loop 4 1 1 rfl (by decide) h0 h1 rfl
theorem both_worn {a b c : Int32} (hI : Inv f l q) : both scr ix_X8_worn ix_X9_worn [some (.ref 1), some (.int a), some (.int b), some (.int c), none] [some (.ref 43), some (.int a), some (.int b), some (.int c), none] f l q := by
  intro P hP
  obtain ⟨⟨⟨hn1, hn2, hn3⟩, hL, hE, hR⟩, hPp, hD, hM, hS⟩ := id hI
  have e44 : l 44 = l 5 := hE.1.2
  have bad : ¬ (f 42 1).toInt = 0 → ¬ ((0 ≤ a.toInt ∧ a.toInt ≤ 3) ∧ (0 ≤ b.toInt ∧ b.toInt ≤ 2) ∧ 0 ≤ c.toInt ∧ c.toInt ≤ 1) → P (some (.int (-2))) (wW f l q) := by
    intro c0 h
    refine hP _ f l q (fun P2 h2 => ?_)
    refine run_X9_worn 60 ?_
    repeat (first | refine And.intro (fun e => absurd e (by decide)) (fun e => ?_) | refine And.intro (fun e => ?_) (fun e => absurd e (by decide)) | refine Exists.intro _ (And.intro rfl ?_) | refine And.intro rfl ?_)
    refine And.intro (fun d => ?_) (fun d => absurd (Classical.not_not.mp d) (fun e => c0 (by rw [e]; rfl)))
    repeat (first | refine And.intro (fun e => absurd e (by decide)) (fun e => ?_) | refine And.intro (fun e => ?_) (fun e => absurd e (by decide)) | refine Exists.intro _ (And.intro rfl ?_) | refine And.intro rfl ?_)
    refine s_isMark (fun d1 d2 => ?_) (fun d1 => ?_)
    · repeat (first | refine And.intro (fun e => absurd e (by decide)) (fun e => ?_) | refine And.intro (fun e => ?_) (fun e => absurd e (by decide)) | refine Exists.intro _ (And.intro rfl ?_) | refine And.intro rfl ?_)
      refine s_isStamp (fun d3 d4 => ?_) (fun d3 => ?_)
      · repeat (first | refine And.intro (fun e => absurd e (by decide)) (fun e => ?_) | refine And.intro (fun e => ?_) (fun e => absurd e (by decide)) | refine Exists.intro _ (And.intro rfl ?_) | refine And.intro rfl ?_)
        refine s_in (x := c.toInt) (a := 0) (b := 1) l64 rfl rfl (fun e1 e2 => absurd ⟨⟨d1, d2⟩, ⟨d3, d4⟩, e1, e2⟩ h) (fun e1 => ?_)
        repeat (first | refine And.intro (fun e => absurd e (by decide)) (fun e => ?_) | refine And.intro (fun e => ?_) (fun e => absurd e (by decide)) | refine Exists.intro _ (And.intro rfl ?_) | refine And.intro rfl ?_)
        exact h2 f l q hI
      · repeat (first | refine And.intro (fun e => absurd e (by decide)) (fun e => ?_) | refine And.intro (fun e => ?_) (fun e => absurd e (by decide)) | refine Exists.intro _ (And.intro rfl ?_) | refine And.intro rfl ?_)
        exact h2 f l q hI
    · repeat (first | refine And.intro (fun e => absurd e (by decide)) (fun e => ?_) | refine And.intro (fun e => ?_) (fun e => absurd e (by decide)) | refine Exists.intro _ (And.intro rfl ?_) | refine And.intro rfl ?_)
      exact h2 f l q hI
  refine run_X8_worn 24 ?_
  repeat (first | refine And.intro (fun e => absurd e (by decide)) (fun e => ?_) | refine And.intro (fun e => ?_) (fun e => absurd e (by decide)) | refine Exists.intro _ (And.intro rfl ?_) | refine And.intro rfl ?_)
  refine s_isOn (b := 2) (Or.inl rfl) (fun c0 => ?_) (fun c0 => ?_)
  · have c0 : ¬ (f 42 1).toInt = 0 := by rw [hn3]; omega
    repeat (first | refine And.intro (fun e => absurd e (by decide)) (fun e => ?_) | refine And.intro (fun e => ?_) (fun e => absurd e (by decide)) | refine Exists.intro _ (And.intro rfl ?_) | refine And.intro rfl ?_)
    refine s_below (bi := 4) rfl (fun c1 c2 => ?_) (fun c1 => ?_)
    · repeat (first | refine And.intro (fun e => absurd e (by decide)) (fun e => ?_) | refine And.intro (fun e => ?_) (fun e => absurd e (by decide)) | refine Exists.intro _ (And.intro rfl ?_) | refine And.intro rfl ?_)
      refine s_below (bi := 3) rfl (fun c3 c4 => ?_) (fun c3 => ?_)
      · repeat (first | refine And.intro (fun e => absurd e (by decide)) (fun e => ?_) | refine And.intro (fun e => ?_) (fun e => absurd e (by decide)) | refine Exists.intro _ (And.intro rfl ?_) | refine And.intro rfl ?_)
        refine s_within (a := 0) (b := 1) rfl rfl (fun c5 c6 => ?_) (fun c5 => ?_)
        · obtain ⟨a, rfl, ha⟩ := nI_ex c1
          obtain ⟨b, rfl, hb⟩ := nI_ex c3
          have ha4 : a < 4 := by omega
          have hb3 : b < 3 := by omega
          have hl5 := hL.1.2.1
          have hr5 := hR.1
          have hg : ∀ x, x < 4 → gs (l 5) b x < 4 := fun x hx => gs_lt hr5 hx hb3
          obtain ⟨t, ht, hne, hmin⟩ := cb_ex hg ha4
          have hcl : ∀ j, cb (gs (l 5) b) (it (gs (l 5) b) j a) ≤ 4 := fun j => cb_le
          -- the reference
          have ref : ∀ (P2 : ba_P) (v : Int32), (c = 0 → v = nI t) → (¬ c = 0 → v = nI (cb (gs (l 5) b) (it (gs (l 5) b) t a))) → P2 (some (.int v)) (wW f l q) → ba_go scr ix_X9_worn 0 [some (.ref 43), some (.int (nI a)), some (.int (nI b)), some (.int c), none] [] (wW f l q) 0 0 P2 := by
            intro P2 v v0 v1 h2
            have loop : ∀ (m j : Nat) (x : Int32), j + m = t → x = nI j → ba_go scr ix_X9_worn 40 [some (.ref 43), some (.int (nI a)), some (.int (nI b)), some (.int c), some (.int x)] [] (wW f l q) 0 0 P2 := by
              intro m
              induction m with
              | zero =>
                intro j x h1 h3
                subst h3
                have h4 : j = t := by omega
                subst h4
                refine run_X9_worn 30 ?_
                refine And.intro rfl (r_struckOften (by rw [e44]; exact hl5) (by rw [e44]; exact hr5) ha4 hb3 (by omega) ?_)
                refine And.intro rfl (r_comesBack (by rw [e44]; exact hl5) (by rw [e44]; exact hr5) (by rw [e44]; exact it_lt hg ha4 j) hb3 (fun e => absurd (by rw [e44] at e; exact e) hne) (fun _ => ?_))
                rw [e44]
                refine And.intro (fun _ => ?_) (fun e => absurd (by show 0 ≤ nI (cb (gs (l 5) b) (it (gs (l 5) b) j a)); rw [le_i, zi, nI_toInt (by have := hcl j; omega)]; omega) e)
                refine And.intro (fun g => ?_) (fun g => ?_)
                · refine And.intro rfl (r_struckOften (by rw [e44]; exact hl5) (by rw [e44]; exact hr5) ha4 hb3 (by omega) ?_)
                  refine And.intro rfl (r_comesBack (by rw [e44]; exact hl5) (by rw [e44]; exact hr5) (by rw [e44]; exact it_lt hg ha4 j) hb3 (fun e => absurd (by rw [e44] at e; exact e) hne) (fun _ => ?_))
                  rw [e44, ← v1 g]
                  exact h2
                · rw [v0 (Classical.not_not.mp g)] at h2
                  exact h2
              | succ m ih =>
                intro j x h1 h3
                subst h3
                refine run_X9_worn 11 ?_
                refine And.intro rfl (r_struckOften (by rw [e44]; exact hl5) (by rw [e44]; exact hr5) ha4 hb3 (by omega) ?_)
                refine And.intro rfl (r_comesBack (by rw [e44]; exact hl5) (by rw [e44]; exact hr5) (by rw [e44]; exact it_lt hg ha4 j) hb3 (fun _ => ?_) (fun e => absurd (by rw [e44]; exact hmin j (by omega)) e))
                refine And.intro (fun e => absurd e (by decide)) (fun _ => ?_)
                exact ih (j + 1) _ (by omega) (nI_1 j)
            refine run_X9_worn 17 ?_
            repeat (first | refine And.intro (fun e => absurd e (by decide)) (fun e => ?_) | refine And.intro (fun e => ?_) (fun e => absurd e (by decide)) | refine Exists.intro _ (And.intro rfl ?_) | refine And.intro rfl ?_)
            refine And.intro (fun d => ?_) (fun d => absurd (Classical.not_not.mp d) (fun e => c0 (by rw [e]; rfl)))
            repeat (first | refine And.intro (fun e => absurd e (by decide)) (fun e => ?_) | refine And.intro (fun e => ?_) (fun e => absurd e (by decide)) | refine Exists.intro _ (And.intro rfl ?_) | refine And.intro rfl ?_)
            refine s_isMark (fun d1 d2 => ?_) (fun d1 => absurd ⟨c1, by omega⟩ d1)
            repeat (first | refine And.intro (fun e => absurd e (by decide)) (fun e => ?_) | refine And.intro (fun e => ?_) (fun e => absurd e (by decide)) | refine Exists.intro _ (And.intro rfl ?_) | refine And.intro rfl ?_)
            refine s_isStamp (fun d3 d4 => ?_) (fun d3 => absurd ⟨c3, by omega⟩ d3)
            repeat (first | refine And.intro (fun e => absurd e (by decide)) (fun e => ?_) | refine And.intro (fun e => ?_) (fun e => absurd e (by decide)) | refine Exists.intro _ (And.intro rfl ?_) | refine And.intro rfl ?_)
            refine s_in (x := c.toInt) (a := 0) (b := 1) l64 rfl rfl (fun e1 e2 => ?_) (fun e1 => absurd ⟨c5, c6⟩ e1)
            refine And.intro (fun _ => ?_) (fun e => absurd (by decide) e)
            exact loop t 0 0 (by omega) rfl
          -- the class
          have fin : ba_go scr ix_X8_worn 55 [some (.ref 1), some (.int (nI a)), some (.int (nI b)), some (.int c), some (.int (nI t))] [] (wW f l q) 0 0 P := by
            refine run_X8_worn 40 ?_
            refine And.intro (fun g => ?_) (fun g => ?_)
            · repeat (first | refine And.intro (fun e => absurd e (by decide)) (fun e => ?_) | refine And.intro (fun e => ?_) (fun e => absurd e (by decide)) | refine Exists.intro _ (And.intro rfl ?_) | refine And.intro rfl ?_)
              refine s_struck hl5 hr5 ha4 hb3 (by omega) ?_
              refine And.intro rfl (s_comesBackBy hl5 hr5 (it_lt hg ha4 t) hb3 ?_)
              exact hP _ f l q (fun P2 h2 => ref P2 _ (fun e => absurd e g) (fun _ => rfl) (h2 f l q hI))
            · exact hP _ f l q (fun P2 h2 => ref P2 _ (fun _ => rfl) (fun e => absurd (Classical.not_not.mp g) e) (h2 f l q hI))
          have ahead : ∀ {P : ba_P}, P (some (.int (nI t))) (wW f l q) → ∀ (m j : Nat) (x : Int32), j + m = t → x = nI j → ba_go scr ix_X4_strikesAhead 2 [some (.ref 5), some (.int (nI a)), some (.int (nI b)), some (.int x)] [] (wW f l q) 0 0 P := by
            intro P hP m
            induction m with
            | zero =>
              intro j x h1 h3
              subst h3
              have h4 : j = t := by omega
              subst h4
              refine run_X4_strikesAhead 14 ?_
              refine And.intro (fun e => absurd e (by show ¬ (4 : Int32) ≤ nI j; rw [le_i, nI_toInt (by omega), show (4 : Int32).toInt = 4 from rfl]; omega)) (fun _ => ?_)
              refine And.intro rfl (s_struck hl5 hr5 ha4 hb3 (by omega) ?_)
              refine And.intro rfl (s_comesBackBy hl5 hr5 (it_lt hg ha4 j) hb3 ?_)
              refine And.intro (fun _ => ?_) (fun e => absurd (fun e2 => hne ((nI_eq (b := 0) (by have := hcl j; omega) (by decide)).mp e2)) e)
              exact hP
            | succ m ih =>
              intro j x h1 h3
              subst h3
              refine run_X4_strikesAhead 14 ?_
              refine And.intro (fun e => absurd e (by show ¬ (4 : Int32) ≤ nI j; rw [le_i, nI_toInt (by omega), show (4 : Int32).toInt = 4 from rfl]; omega)) (fun _ => ?_)
              refine And.intro rfl (s_struck hl5 hr5 ha4 hb3 (by omega) ?_)
              refine And.intro rfl (s_comesBackBy hl5 hr5 (it_lt hg ha4 j) hb3 ?_)
              rw [hmin j (by omega)]
              refine And.intro (fun e => absurd rfl e) (fun _ => ?_)
              exact ih (j + 1) _ (by omega) (nI_1 j)
          refine And.intro (fun _ => ?_) (fun e => absurd (by decide) e)
          refine Exists.intro _ (And.intro (rfl) ?_)
          refine Exists.intro _ (And.intro (rfl) ?_)
          refine And.intro rfl ?_
          refine run_X4_strikesAhead 2 ?_
          exact ahead fin t 0 0 (by omega) rfl
        · repeat (first | refine And.intro (fun e => absurd e (by decide)) (fun e => ?_) | refine And.intro (fun e => ?_) (fun e => absurd e (by decide)) | refine Exists.intro _ (And.intro rfl ?_) | refine And.intro rfl ?_)
          exact bad c0 (fun e => c5 e.2.2)
      · repeat (first | refine And.intro (fun e => absurd e (by decide)) (fun e => ?_) | refine And.intro (fun e => ?_) (fun e => absurd e (by decide)) | refine Exists.intro _ (And.intro rfl ?_) | refine And.intro rfl ?_)
        exact bad c0 (fun e => c3 ⟨e.2.1.1, by omega⟩)
    · repeat (first | refine And.intro (fun e => absurd e (by decide)) (fun e => ?_) | refine And.intro (fun e => ?_) (fun e => absurd e (by decide)) | refine Exists.intro _ (And.intro rfl ?_) | refine And.intro rfl ?_)
      exact bad c0 (fun e => c1 ⟨e.1.1, by omega⟩)
  · repeat (first | refine And.intro (fun e => absurd e (by decide)) (fun e => ?_) | refine And.intro (fun e => ?_) (fun e => absurd e (by decide)) | refine Exists.intro _ (And.intro rfl ?_) | refine And.intro rfl ?_)
    refine hP _ f l q (fun P2 h2 => ?_)
    refine run_X9_worn 60 ?_
    repeat (first | refine And.intro (fun e => absurd e (by decide)) (fun e => ?_) | refine And.intro (fun e => ?_) (fun e => absurd e (by decide)) | refine Exists.intro _ (And.intro rfl ?_) | refine And.intro rfl ?_)
    refine And.intro (fun d => absurd (show f 42 1 = 0 by rw [eq_i, zi, hn3]; omega) d) (fun d => ?_)
    repeat (first | refine And.intro (fun e => absurd e (by decide)) (fun e => ?_) | refine And.intro (fun e => ?_) (fun e => absurd e (by decide)) | refine Exists.intro _ (And.intro rfl ?_) | refine And.intro rfl ?_)
    exact h2 f l q hI
end WN
