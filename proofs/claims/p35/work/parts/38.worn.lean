/-! worn -/
def gs (L : List Int32) (s : Nat) : Nat → Nat := fun m => rn L (3 * m + s)
def it (g : Nat → Nat) : Nat → Nat → Nat
  | 0, m => m
  | k + 1, m => g (it g k m)
def cbk (g : Nat → Nat) (m : Nat) : Nat → Nat → Nat
  | 0, _ => 0
  | k + 1, j => if it g j m = m then j else cbk g m k (j + 1)
def cb (g : Nat → Nat) (m : Nat) : Nat := cbk g m 4 1
theorem it_add {g : Nat → Nat} {b m : Nat} : ∀ a, it g a (it g b m) = it g (a + b) m
  | 0 => by rw [Nat.zero_add]; rfl
  | a + 1 => by
    show g (it g a (it g b m)) = it g (a + 1 + b) m
    rw [it_add a, show a + 1 + b = a + b + 1 by omega]
    rfl
theorem it_lt {g : Nat → Nat} {m : Nat} (hg : ∀ x, x < 4 → g x < 4) (hm : m < 4) : ∀ k, it g k m < 4
  | 0 => hm
  | k + 1 => hg _ (it_lt hg hm k)
theorem cb_le {g : Nat → Nat} {m : Nat} : cb g m ≤ 4 := by
  show (if _ then 1 else if _ then 2 else if _ then 3 else if _ then 4 else 0) ≤ 4
  repeat (first | split | decide)
theorem cb_ne {g : Nat → Nat} {m n : Nat} (h1 : 1 ≤ n) (h4 : n ≤ 4) (h : it g n m = m) : ¬ cb g m = 0 := by
  show ¬ (if it g 1 m = m then 1 else if it g 2 m = m then 2 else if it g 3 m = m then 3 else if it g 4 m = m then 4 else 0) = 0
  by_cases e1 : it g 1 m = m
  · rw [if_pos e1]; decide
  · by_cases e2 : it g 2 m = m
    · rw [if_neg e1, if_pos e2]; decide
    · by_cases e3 : it g 3 m = m
      · rw [if_neg e1, if_neg e2, if_pos e3]; decide
      · have : n = 4 := by
          have : ¬ n = 1 := fun e => e1 (e ▸ h)
          have : ¬ n = 2 := fun e => e2 (e ▸ h)
          have : ¬ n = 3 := fun e => e3 (e ▸ h)
          omega
        subst this
        rw [if_neg e1, if_neg e2, if_neg e3, if_pos h]; decide
theorem cb_ex {g : Nat → Nat} {m : Nat} (hg : ∀ x, x < 4 → g x < 4) (hm : m < 4) : ∃ t, t ≤ 3 ∧ ¬ cb g (it g t m) = 0 ∧ ∀ t', t' < t → cb g (it g t' m) = 0 := by
  have key : ∃ i, i ≤ 3 ∧ ¬ cb g (it g i m) = 0 := by
    have pg := (by decide +kernel : ∀ a b c d e : Fin 4, (a.1 = b.1 ∨ a.1 = c.1 ∨ a.1 = d.1 ∨ a.1 = e.1) ∨ (b.1 = c.1 ∨ b.1 = d.1 ∨ b.1 = e.1) ∨ (c.1 = d.1 ∨ c.1 = e.1) ∨ d.1 = e.1) ⟨_, it_lt hg hm 0⟩ ⟨_, it_lt hg hm 1⟩ ⟨_, it_lt hg hm 2⟩ ⟨_, it_lt hg hm 3⟩ ⟨_, it_lt hg hm 4⟩
    rcases pg with (h | h | h | h) | (h | h | h) | (h | h) | h
    · exact ⟨0, by decide, cb_ne (n := 1) (by decide) (by decide) ((it_add 1).trans h.symm)⟩
    · exact ⟨0, by decide, cb_ne (n := 2) (by decide) (by decide) ((it_add 2).trans h.symm)⟩
    · exact ⟨0, by decide, cb_ne (n := 3) (by decide) (by decide) ((it_add 3).trans h.symm)⟩
    · exact ⟨0, by decide, cb_ne (n := 4) (by decide) (by decide) ((it_add 4).trans h.symm)⟩
    · exact ⟨1, by decide, cb_ne (n := 1) (by decide) (by decide) ((it_add 1).trans h.symm)⟩
    · exact ⟨1, by decide, cb_ne (n := 2) (by decide) (by decide) ((it_add 2).trans h.symm)⟩
    · exact ⟨1, by decide, cb_ne (n := 3) (by decide) (by decide) ((it_add 3).trans h.symm)⟩
    · exact ⟨2, by decide, cb_ne (n := 1) (by decide) (by decide) ((it_add 1).trans h.symm)⟩
    · exact ⟨2, by decide, cb_ne (n := 2) (by decide) (by decide) ((it_add 2).trans h.symm)⟩
    · exact ⟨3, by decide, cb_ne (n := 1) (by decide) (by decide) ((it_add 1).trans h.symm)⟩
  obtain ⟨i, hi, hne⟩ := key
  by_cases h0 : cb g (it g 0 m) = 0
  · by_cases h1 : cb g (it g 1 m) = 0
    · by_cases h2 : cb g (it g 2 m) = 0
      · refine ⟨3, by decide, ?_, fun t' ht => ?_⟩
        · have : i = 3 := by
            have : ¬ i = 0 := fun e => hne (e ▸ h0)
            have : ¬ i = 1 := fun e => hne (e ▸ h1)
            have : ¬ i = 2 := fun e => hne (e ▸ h2)
            omega
          exact this ▸ hne
        · match t', ht with
          | 0, _ => exact h0
          | 1, _ => exact h1
          | 2, _ => exact h2
      · refine ⟨2, by decide, h2, fun t' ht => ?_⟩
        match t', ht with
        | 0, _ => exact h0
        | 1, _ => exact h1
    · refine ⟨1, by decide, h1, fun t' ht => ?_⟩
      match t', ht with
      | 0, _ => exact h0
  · exact ⟨0, by decide, h0, fun t' ht => absurd ht (by omega)⟩
section WN
variable {scr : Option (List Int32)} {P : ba_P} {w : ba_W} {f : Nat → Nat → Int32} {l : Nat → List Int32} {q : List (List Int32)}
theorem gs_lt {L : List Int32} (hr : rv L) {m s : Nat} (hm : m < 4) (hs : s < 3) : gs L s m < 4 := by
  have h1 := hr (3 * m + s) (by omega)
  have h2 := ix_i h1.1
  show (L.getD (3 * m + s) 0).toNatClampNeg < 4
  omega
theorem rl_gs {L : List Int32} (hr : rv L) {m s : Nat} (hm : m < 4) (hs : s < 3) : rl L (nI m) (nI s) = nI (gs L s m) := by
  have hidx := idx3 (m := nI m) (s := nI s) (by rw [nI_toInt (by omega)]; omega) (by rw [nI_toInt (by omega)]; omega) (by rw [nI_toInt (by omega)]; omega) (by rw [nI_toInt (by omega)]; omega)
  rw [nI_toInt (by omega), nI_toInt (by omega)] at hidx
  have hcl : (nI m * 3 + nI s).toNatClampNeg = 3 * m + s := by
    have := ix_i (x := nI m * 3 + nI s) (by omega)
    omega
  unfold rl gs rn
  rw [hcl]
  have h1 := hr (3 * m + s) (by omega)
  have h2 := ix_i h1.1
  rw [eq_i, nI_toInt (by omega)]
  omega
theorem s_aft {m s : Nat} (hl : (l 5).length = 12) (hr : rv (l 5)) (hm : m < 4) (hs : s < 3) (hP : P (some (.int (nI (gs (l 5) s m)))) (wW f l q)) : ba_go scr ix_X4_after 0 [some (.ref 5), some (.int (nI m)), some (.int (nI s))] [] (wW f l q) 0 0 P := by
  refine s_after (b := 2) (Or.inl rfl) hl (by rw [nI_toInt (by omega)]; omega) (by rw [nI_toInt (by omega)]; omega) (by rw [nI_toInt (by omega)]; omega) (by rw [nI_toInt (by omega)]; omega) ?_
  rw [rl_gs hr hm hs]
  exact hP
theorem s_struck {m s n : Nat} (hl : (l 5).length = 12) (hr : rv (l 5)) (hm : m < 4) (hs : s < 3) (hn : n < 100) (hP : P (some (.int (nI (it (gs (l 5) s) n m)))) (wW f l q)) : ba_go scr ix_X4_struck 0 [some (.ref 5), some (.int (nI m)), some (.int (nI s)), some (.int (nI n)), none, none] [] (wW f l q) 0 0 P := by
  have hg : ∀ x, x < 4 → gs (l 5) s x < 4 := fun x hx => gs_lt hr hx hs
  have loop : ∀ (k j : Nat) (x y : Int32), j + k = n → x = nI (it (gs (l 5) s) j m) → y = nI j → ba_go scr ix_X4_struck 6 [some (.ref 5), some (.int (nI m)), some (.int (nI s)), some (.int (nI n)), some (.int x), some (.int y)] [] (wW f l q) 0 0 P := by
    intro k
    induction k with
    | zero =>
      intro j x y h1 h2 h3
      subst h2; subst h3
      have h4 : j = n := by omega
      subst h4
      refine run_X4_struck 5 ?_
      refine And.intro (fun _ => ?_) (fun e => absurd (by show nI j ≤ nI j; rw [le_i]; omega) e)
      exact hP
    | succ k ih =>
      intro j x y h1 h2 h3
      subst h2; subst h3
      refine run_X4_struck 10 ?_
      refine And.intro (fun e => absurd e (by show ¬ nI n ≤ nI j; rw [le_i, nI_toInt (by omega), nI_toInt (by omega)]; omega)) (fun _ => ?_)
      refine And.intro rfl (s_aft hl hr (it_lt hg hm j) hs ?_)
      exact ih (j + 1) _ _ (by omega) rfl (nI_1 j)
  refine run_X4_struck 4 ?_
  exact loop n 0 _ 0 (by omega) rfl rfl
theorem s_comesBackBy {m s : Nat} (hl : (l 5).length = 12) (hr : rv (l 5)) (hm : m < 4) (hs : s < 3) (hP : P (some (.int (nI (cb (gs (l 5) s) m)))) (wW f l q)) : ba_go scr ix_X4_comesBackBy 0 [some (.ref 5), some (.int (nI m)), some (.int (nI s)), none] [] (wW f l q) 0 0 P := by
  have hg : ∀ x, x < 4 → gs (l 5) s x < 4 := fun x hx => gs_lt hr hx hs
  have loop : ∀ (k j : Nat) (y : Int32), j + k = 5 → P (some (.int (nI (cbk (gs (l 5) s) m k j)))) (wW f l q) → y = nI j → ba_go scr ix_X4_comesBackBy 2 [some (.ref 5), some (.int (nI m)), some (.int (nI s)), some (.int y)] [] (wW f l q) 0 0 P := by
    intro k
    induction k with
    | zero =>
      intro j y h1 h2 h3
      subst h3
      have h4 : j = 5 := by omega
      subst h4
      refine run_X4_comesBackBy 5 ?_
      refine And.intro (fun _ => ?_) (fun e => absurd (by decide) e)
      exact h2
    | succ k ih =>
      intro j y h1 h2 h3
      subst h3
      refine run_X4_comesBackBy 10 ?_
      refine And.intro (fun e => absurd e (by show ¬ (4 : Int32) < nI j; rw [lt_i, nI_toInt (by omega), show (4 : Int32).toInt = 4 from rfl]; omega)) (fun _ => ?_)
      refine And.intro rfl (s_struck hl hr hm hs (by omega) ?_)
      refine And.intro (fun c => ?_) (fun c => ?_)
      · have c : ¬ nI (it (gs (l 5) s) j m) = nI m := c
        have c2 : ¬ it (gs (l 5) s) j m = m := fun e => c (by rw [e])
        refine run_X4_comesBackBy 2 ?_
        have h2 : P (some (.int (nI (if it (gs (l 5) s) j m = m then j else cbk (gs (l 5) s) m k (j + 1))))) (wW f l q) := h2
        rw [if_neg c2] at h2
        exact ih (j + 1) _ (by omega) h2 (nI_1 j)
      · have c : nI (it (gs (l 5) s) j m) = nI m := Classical.not_not.mp c
        have hlt := it_lt hg hm j
        have c2 : it (gs (l 5) s) j m = m := (nI_eq (by omega) (by omega)).mp c
        refine run_X4_comesBackBy 2 ?_
        have h2 : P (some (.int (nI (if it (gs (l 5) s) j m = m then j else cbk (gs (l 5) s) m k (j + 1))))) (wW f l q) := h2
        rw [if_pos c2] at h2
        exact h2
  refine run_X4_comesBackBy 2 ?_
  exact loop 4 1 1 rfl hP rfl
end WN
