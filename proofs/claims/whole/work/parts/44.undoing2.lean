/-! undoing (2) -/
def nsr (g : Nat → Nat → Nat) (D : Nat → Nat) (m : Nat) : Nat → Nat
  | 0 => 0
  | k + 1 => if D (g k m) < D (g (nsr g D m k) m) then k else nsr g D m k
def pt (g : Nat → Nat → Nat) (D : Nat → Nat) (a : Nat) : Nat → Nat
  | 0 => a
  | j + 1 => g (nsr g D (pt g D a j) 3) (pt g D a j)
theorem nsr_lt {g : Nat → Nat → Nat} {D : Nat → Nat} {m : Nat} : ∀ {k : Nat}, nsr g D m (k + 1) ≤ k
  | 0 => by
    show (if D (g 0 m) < D (g 0 m) then 0 else 0) ≤ 0
    rw [if_neg (Nat.lt_irrefl _)]
    exact Nat.le_refl _
  | k + 1 => by
    show (if D (g (k + 1) m) < D (g (nsr g D m (k + 1)) m) then k + 1 else nsr g D m (k + 1)) ≤ k + 1
    have := nsr_lt (g := g) (D := D) (m := m) (k := k)
    split
    · exact Nat.le_refl _
    · omega
theorem nsr3 {g : Nat → Nat → Nat} {D : Nat → Nat} {m : Nat} : nsr g D m 3 < 3 := Nat.lt_succ_of_le (nsr_lt (k := 2))
theorem nsr1 {g : Nat → Nat → Nat} {D : Nat → Nat} {m : Nat} : nsr g D m 1 = 0 := Nat.le_zero.mp (nsr_lt (k := 0))
/-- the nearest one is the first that comes nearer -/
theorem nsr_first {g : Nat → Nat → Nat} {D : Nat → Nat} {m e : Nat} (hp : ∀ s, s < 3 → e ≤ D (g s m)) (hx : ∃ s, s < 3 ∧ D (g s m) = e) : nsr g D m 3 = (if D (g 0 m) = e then 0 else if D (g 1 m) = e then 1 else 2) ∧ D (g (nsr g D m 3) m) = e := by
  have e1 : nsr g D m 1 = 0 := by
    show (if D (g 0 m) < D (g 0 m) then 0 else 0) = 0
    rw [if_neg (Nat.lt_irrefl _)]
  have h0 := hp 0 (by decide)
  have h1 := hp 1 (by decide)
  have h2 := hp 2 (by decide)
  have e2 : nsr g D m 2 = (if D (g 1 m) < D (g 0 m) then 1 else 0) := by
    show (if D (g 1 m) < D (g (nsr g D m 1) m) then 1 else nsr g D m 1) = _
    rw [e1]
  have e3 : nsr g D m 3 = (if D (g 2 m) < D (g (nsr g D m 2) m) then 2 else nsr g D m 2) := rfl
  have hor : D (g 0 m) = e ∨ D (g 1 m) = e ∨ D (g 2 m) = e := by
    obtain ⟨s, hs, h⟩ := hx
    match s, hs with
    | 0, _ => exact Or.inl h
    | 1, _ => exact Or.inr (Or.inl h)
    | 2, _ => exact Or.inr (Or.inr h)
  by_cases c1 : D (g 1 m) < D (g 0 m)
  · rw [if_pos c1] at e2
    rw [e2] at e3
    by_cases c2 : D (g 2 m) < D (g 1 m)
    · rw [if_pos c2] at e3
      rw [e3, if_neg (by omega), if_neg (by omega)]
      exact ⟨rfl, by omega⟩
    · rw [if_neg c2] at e3
      rw [e3, if_neg (by omega), if_pos (by omega)]
      exact ⟨rfl, by omega⟩
  · rw [if_neg c1] at e2
    rw [e2] at e3
    by_cases c2 : D (g 2 m) < D (g 0 m)
    · rw [if_pos c2] at e3
      rw [e3, if_neg (by omega), if_neg (by omega)]
      exact ⟨rfl, by omega⟩
    · rw [if_neg c2] at e3
      rw [e3, if_pos (by omega)]
      exact ⟨rfl, by omega⟩
section U2
variable {scr : Option (List Int32)} {P : ba_P} {w : ba_W} {f : Nat → Nat → Int32} {l : Nat → List Int32} {q : Nat → List Int64}
theorem s_nearest {m t : Nat} (hm : m < 4) (ht : t < 4) (h5 : (l 5).length = 12) (hr : rv (l 5)) (hP : P (some (.int (nI (nsr (gs (l 5)) (Ds (gs (l 5)) (fun x => decide (x = t))) m 3)))) (wW f l q)) : ba_go scr ix_X4_nearestStamp 0 [some (.ref 5), some (.int (nI m)), some (.int (nI t)), none, none] [] (wW f l q) 0 0 P := by
  have loop : ∀ (m' k : Nat) (n x : Int32), k + m' = 3 → 1 ≤ k → x = nI k → n = nI (nsr (gs (l 5)) (Ds (gs (l 5)) (fun x => decide (x = t))) m k) → ba_go scr ix_X4_nearestStamp 5 [some (.ref 5), some (.int (nI m)), some (.int (nI t)), some (.int n), some (.int x)] [] (wW f l q) 0 0 P := by
    intro m'
    induction m' with
    | zero =>
      intro k n x h1 h0 h2 h3
      subst h2; subst h3
      have h4 : k = 3 := by omega
      subst h4
      refine run_X4_nearestStamp 5 ?_
      refine And.intro (fun _ => ?_) (fun e => absurd (by decide) e)
      exact hP
    | succ m' ih =>
      intro k n x h1 h0 h2 h3
      subst h2; subst h3
      have hn : nsr (gs (l 5)) (Ds (gs (l 5)) (fun x => decide (x = t))) m k < 3 := by
        have := nsr_lt (g := gs (l 5)) (D := Ds (gs (l 5)) (fun x => decide (x = t))) (m := m) (k := k - 1)
        rw [show k - 1 + 1 = k by omega] at this
        omega
      have es : nsr (gs (l 5)) (Ds (gs (l 5)) (fun x => decide (x = t))) m (k + 1) = (if Ds (gs (l 5)) (fun x => decide (x = t)) (gs (l 5) k m) < Ds (gs (l 5)) (fun x => decide (x = t)) (gs (l 5) (nsr (gs (l 5)) (Ds (gs (l 5)) (fun x => decide (x = t))) m k) m) then k else nsr (gs (l 5)) (Ds (gs (l 5)) (fun x => decide (x = t))) m k) := rfl
      have b1 : Ds (gs (l 5)) (fun x => decide (x = t)) (gs (l 5) k m) ≤ 4 := ds_le4
      have b2 : Ds (gs (l 5)) (fun x => decide (x = t)) (gs (l 5) (nsr (gs (l 5)) (Ds (gs (l 5)) (fun x => decide (x = t))) m k) m) ≤ 4 := ds_le4
      refine run_X4_nearestStamp 22 ?_
      refine And.intro (fun e => absurd e (by show ¬ (3 : Int32) ≤ nI k; rw [le_i, nI_toInt (by omega), show (3 : Int32).toInt = 3 from rfl]; omega)) (fun _ => ?_)
      refine And.intro rfl (s_aft h5 hr hm (by omega) ?_)
      refine And.intro rfl (s_fewest (B6_one (p := t) (by omega)) (gs_lt hr hm (by omega)) h5 hr ?_)
      refine And.intro rfl (s_aft h5 hr hm hn ?_)
      refine And.intro rfl (s_fewest (B6_one (p := t) (by omega)) (gs_lt hr hm hn) h5 hr ?_)
      refine And.intro (fun c => ?_) (fun c => ?_)
      · have c : nI (Ds (gs (l 5)) (fun x => decide (x = t)) (gs (l 5) (nsr (gs (l 5)) (Ds (gs (l 5)) (fun x => decide (x = t))) m k) m)) ≤ nI (Ds (gs (l 5)) (fun x => decide (x = t)) (gs (l 5) k m)) := c
        rw [le_i, nI_toInt (by omega), nI_toInt (by omega)] at c
        rw [if_neg (by omega)] at es
        refine run_X4_nearestStamp 2 ?_
        exact ih (k + 1) _ _ (by omega) (by omega) (nI_1 k) (by rw [es])
      · have c : ¬ nI (Ds (gs (l 5)) (fun x => decide (x = t)) (gs (l 5) (nsr (gs (l 5)) (Ds (gs (l 5)) (fun x => decide (x = t))) m k) m)) ≤ nI (Ds (gs (l 5)) (fun x => decide (x = t)) (gs (l 5) k m)) := c
        rw [le_i, nI_toInt (by omega), nI_toInt (by omega)] at c
        rw [if_pos (by omega)] at es
        refine run_X4_nearestStamp 4 ?_
        exact ih (k + 1) _ _ (by omega) (by omega) (nI_1 k) (by rw [es])
  refine run_X4_nearestStamp 4 ?_
  refine loop 2 1 0 1 rfl (by decide) rfl ?_
  rw [nsr1]
  rfl
theorem pt_lt {g : Nat → Nat → Nat} {D : Nat → Nat} {a : Nat} (ha : a < 4) (hg : ∀ s m, s < 3 → m < 4 → g s m < 4) : ∀ j, pt g D a j < 4
  | 0 => ha
  | j + 1 => hg _ _ nsr3 (pt_lt ha hg j)
theorem s_onWay {a t k : Nat} (ha : a < 4) (ht : t < 4) (hk : k < 100) (h5 : (l 5).length = 12) (hr : rv (l 5)) (hP : P (some (.int (nI (nsr (gs (l 5)) (Ds (gs (l 5)) (fun x => decide (x = t))) (pt (gs (l 5)) (Ds (gs (l 5)) (fun x => decide (x = t))) a k) 3)))) (wW f l q)) : ba_go scr ix_X4_stampOnWay 0 [some (.ref 5), some (.int (nI a)), some (.int (nI t)), some (.int (nI k)), none, none] [] (wW f l q) 0 0 P := by
  have hg := gs_all hr
  obtain ⟨D, hD⟩ : ∃ D, D = Ds (gs (l 5)) (fun x => decide (x = t)) := ⟨_, rfl⟩
  rw [← hD] at hP
  have hn : ∀ m, nsr (gs (l 5)) D m 3 < 3 := fun m => nsr3
  have loop : ∀ (m j : Nat) (p x : Int32), j + m = k → x = nI j → p = nI (pt (gs (l 5)) D a j) → ba_go scr ix_X4_stampOnWay 6 [some (.ref 5), some (.int (nI a)), some (.int (nI t)), some (.int (nI k)), some (.int p), some (.int x)] [] (wW f l q) 0 0 P := by
    intro m
    induction m with
    | zero =>
      intro j p x h1 h2 h3
      subst h2; subst h3
      have h4 : j = k := by omega
      subst h4
      refine run_X4_stampOnWay 8 ?_
      refine And.intro (fun _ => ?_) (fun e => absurd (by show nI j ≤ nI j; rw [le_i]; omega) e)
      refine And.intro rfl (s_nearest (pt_lt ha hg j) ht h5 hr ?_)
      rw [← hD]
      exact hP
    | succ m ih =>
      intro j p x h1 h2 h3
      subst h2; subst h3
      refine run_X4_stampOnWay 13 ?_
      refine And.intro (fun e => absurd e (by show ¬ nI k ≤ nI j; rw [le_i, nI_toInt (by omega), nI_toInt (by omega)]; omega)) (fun _ => ?_)
      refine And.intro rfl (s_nearest (pt_lt ha hg j) ht h5 hr ?_)
      rw [← hD]
      refine And.intro rfl (s_aft h5 hr (pt_lt ha hg j) (hn _) ?_)
      exact ih (j + 1) _ _ (by omega) (nI_1 j) rfl
  refine run_X4_stampOnWay 4 ?_
  exact loop k 0 _ 0 (by omega) rfl rfl
theorem r_undoingStamp {g : Nat → Nat → Nat} {D : Nat → Nat} {a k : Nat} (hg : g = gs (l 44)) (h57 : l 57 = q4 (cd D 3)) (h44 : (l 44).length = 12) (hr : rv (l 44)) (ha : a < 4) (hk : k < D a) (hD3 : D a ≤ 3) (D4 : ∀ m, D m ≤ 4) (Dp : ∀ m s, s < 3 → D m ≤ D (g s m) + 1) (Dsx : ∀ m, 0 < D m → D m ≤ 3 → ∃ s, s < 3 ∧ D (g s m) + 1 = D m)
    (hP : P (some (.int (nI (nsr g D (pt g D a k) 3)))) (wW f l q)) : ba_go scr ix_X9_undoingStamp 0 [some (.ref 43), some (.int (nI a)), some (.int (nI k)), none, none, none, none] [] (wW f l q) 0 0 P := by
  have glt : ∀ s m, s < 3 → m < 4 → g s m < 4 := by rw [hg]; exact gs_all hr
  have hn : ∀ m, nsr g D m 3 < 3 := fun m => nsr3
  have m9 : (-9 : Int32).toInt = -9 := rfl
  -- each stamp comes one nearer
  have near : ∀ j, j ≤ k → D (pt g D a j) + j = D a := by
    intro j
    induction j with
    | zero => intro _; rfl
    | succ j ih =>
      intro hj
      have h1 := ih (by omega)
      obtain ⟨s, hs, h2⟩ := Dsx (pt g D a j) (by omega) (by omega)
      have h3 := (nsr_first (g := g) (D := D) (m := pt g D a j) (e := D (pt g D a j) - 1) (fun s hs => by have := Dp (pt g D a j) s hs; omega) ⟨s, hs, by omega⟩).2
      show D (g (nsr g D (pt g D a j) 3) (pt g D a j)) + (j + 1) = D a
      omega
  have ld : ∀ (xs : Option (List Int32)) (m : Nat), m < 4 → ba_ldI xs (wW f l q) 58 (nI m) = some (cd D 3 m) := fun xs m hm => by
    rw [ldI_of (l := l 57) rfl (by rw [nI_toInt (by omega)]; omega) (by rw [nI_toInt (by omega), h57]; show (m : Int) < 4; omega), nI_clamp (by omega), h57, q4_get hm]
  have main : ∀ (m j : Nat) (x y its : Int32) (z6 : Option Value), (j + m = k + 1) → x = nI j → (0 < m → y = nI (pt g D a j)) → (0 < j → its = nI (nsr g D (pt g D a (j - 1)) 3)) → ba_go scr ix_X9_undoingStamp 9 [some (.ref 43), some (.int (nI a)), some (.int (nI k)), some (.int y), some (.int its), some (.int x), z6] [] (wW f l q) 0 0 P := by
    intro m
    induction m with
    | zero =>
      intro j x y its z6 h1 h2 h3 h4
      subst h2
      have h5 : j = k + 1 := by omega
      subst h5
      rw [h4 (by omega)]
      refine run_X9_undoingStamp 5 ?_
      refine And.intro (fun _ => ?_) (fun e => absurd (by show nI k < nI (k + 1); rw [lt_i, nI_toInt (by omega), nI_toInt (by omega)]; omega) e)
      exact hP
    | succ m ih =>
      intro j x y its z6 h1 h2 h3 h4
      have h3 := h3 (by omega)
      subst h2; subst h3
      have hpl : pt g D a j < 4 := pt_lt ha glt j
      have hnj := near j (by omega)
      obtain ⟨s0, hs0, h7⟩ := Dsx (pt g D a j) (by omega) (by omega)
      obtain ⟨nf, -⟩ := nsr_first (g := g) (D := D) (m := pt g D a j) (e := D (pt g D a j) - 1) (fun s hs => by have := Dp (pt g D a j) s hs; omega) ⟨s0, hs0, by omega⟩
      have step : ∀ (s : Nat) (its y : Int32), s < 3 → y = nI s → ba_go scr ix_X9_undoingStamp 18 [some (.ref 43), some (.int (nI a)), some (.int (nI k)), some (.int (nI (pt g D a j))), some (.int (if D (g s (pt g D a j)) = D (pt g D a j) - 1 then nI s else its)), some (.int (nI j)), some (.int (nI s + -1))] [] (wW f l q) 0 0 P → ba_go scr ix_X9_undoingStamp 18 [some (.ref 43), some (.int (nI a)), some (.int (nI k)), some (.int (nI (pt g D a j))), some (.int its), some (.int (nI j)), some (.int y)] [] (wW f l q) 0 0 P := by
        intro s its y hs hy h
        subst hy
        have hlt := glt s _ hs hpl
        refine run_X9_undoingStamp 18 ?_
        refine And.intro (fun e => absurd e (by show ¬ nI s < 0; rw [lt_i, zi, nI_toInt (by omega)]; omega)) (fun _ => ?_)
        refine Exists.intro _ (And.intro (rfl) ?_)
        refine And.intro rfl (r_aft h44 hr hpl hs ?_)
        rw [← hg]
        refine Exists.intro _ (And.intro (ld _ _ hlt) ?_)
        refine Exists.intro _ (And.intro (rfl) ?_)
        refine Exists.intro _ (And.intro (ld _ a ha) ?_)
        have e1 : cd D 3 a - nI j - 1 = nI (D (pt g D a j) - 1) := by
          have : cd D 3 a = nI (D (pt g D a j) - 1) + 1 + nI j := by
            unfold cd
            rw [if_pos hD3, nI_1, nI_add]
            congr 1
            omega
          rw [this, Int32.add_sub_cancel, Int32.add_sub_cancel]
        have e2 : cd D 3 (g s (pt g D a j)) = cd D 3 a - nI j - 1 ↔ D (g s (pt g D a j)) = D (pt g D a j) - 1 := by
          rw [e1]
          have hd4 := D4 (g s (pt g D a j))
          unfold cd
          by_cases a3 : D (g s (pt g D a j)) ≤ 3
          · rw [if_pos a3, nI_eq (by omega) (by omega)]
          · rw [if_neg a3]
            constructor
            · intro e
              have := congrArg Int32.toInt e
              rw [m9, nI_toInt (by omega)] at this
              omega
            · intro e; omega
        refine And.intro (fun c => ?_) (fun c => ?_)
        · have c : ¬ cd D 3 (g s (pt g D a j)) = cd D 3 a - nI j - 1 := c
          rw [e2] at c
          rw [if_neg c] at h
          refine run_X9_undoingStamp 4 ?_
          exact h
        · have c : cd D 3 (g s (pt g D a j)) = cd D 3 a - nI j - 1 := Classical.not_not.mp c
          rw [e2] at c
          rw [if_pos c] at h
          refine run_X9_undoingStamp 5 ?_
          exact h
      refine run_X9_undoingStamp 5 ?_
      refine And.intro (fun e => absurd e (by show ¬ nI k < nI j; rw [lt_i, nI_toInt (by omega), nI_toInt (by omega)]; omega)) (fun _ => ?_)
      refine step 2 its 2 (by decide) rfl ?_
      rw [show nI 2 + -1 = nI 1 from by decide +kernel]
      refine step 1 _ _ (by decide) rfl ?_
      rw [show nI 1 + -1 = nI 0 from by decide +kernel]
      refine step 0 _ _ (by decide) rfl ?_
      have efin : (if D (g 0 (pt g D a j)) = D (pt g D a j) - 1 then nI 0 else if D (g 1 (pt g D a j)) = D (pt g D a j) - 1 then nI 1 else if D (g 2 (pt g D a j)) = D (pt g D a j) - 1 then nI 2 else its) = nI (nsr g D (pt g D a j) 3) := by
        rw [nf]
        by_cases a0 : D (g 0 (pt g D a j)) = D (pt g D a j) - 1
        · rw [if_pos a0, if_pos a0]
        · by_cases a1 : D (g 1 (pt g D a j)) = D (pt g D a j) - 1
          · rw [if_neg a0, if_neg a0, if_pos a1, if_pos a1]
          · have a2 : D (g 2 (pt g D a j)) = D (pt g D a j) - 1 := by
              match s0, hs0 with
              | 0, _ => exact absurd (by omega) a0
              | 1, _ => exact absurd (by omega) a1
              | 2, _ => omega
            rw [if_neg a0, if_neg a0, if_neg a1, if_neg a1, if_pos a2]
      rw [efin]
      refine run_X9_undoingStamp 9 ?_
      refine And.intro (fun _ => ?_) (fun e => absurd (by decide +kernel) e)
      refine And.intro rfl (r_aft h44 hr hpl (hn _) ?_)
      rw [← hg]
      exact ih (j + 1) _ _ _ _ (by omega) (nI_1 j) (fun _ => rfl) (fun _ => rfl)
  refine run_X9_undoingStamp 6 ?_
  exact main (k + 1) 0 0 _ _ none (by omega) rfl (fun _ => rfl) (fun h => absurd h (by omega))
theorem inv_57 {A : List Int32} (hI : Inv f l q) (hA : A.length = 4) : Inv f (u1 l 57 A) q := by
  obtain ⟨⟨⟨hn1, hn2, hn3⟩, hL, hE, hR⟩, hPp, hD, hM, hS⟩ := id hI
  exact ⟨⟨⟨hn1, hn2, hn3⟩, ⟨hL.1, hL.2.1, hL.2.2.1, hL.2.2.2.1, hL.2.2.2.2.1, ⟨hL.2.2.2.2.2.1.1, hL.2.2.2.2.2.1.2.1, hA, hL.2.2.2.2.2.1.2.2.2⟩, hL.2.2.2.2.2.2⟩, hE, hR⟩, hPp, hD, hM, hS⟩
theorem both_undoing {a b c : Int32} (hI : Inv f l q) : both scr ix_X8_undoing ix_X9_undoing [some (.ref 1), some (.int a), some (.int b), some (.int c), none] [some (.ref 43), some (.int a), some (.int b), some (.int c), none] f l q := by
  intro P hP
  obtain ⟨⟨⟨hn1, hn2, hn3⟩, hL, hE, hR⟩, hPp, hD, hM, hS⟩ := id hI
  have e44 : l 44 = l 5 := hE.1.2
  have m1 : (-1 : Int32).toInt = -1 := rfl
  have bad : ¬ (f 42 1).toInt = 0 → ¬ ((0 ≤ a.toInt ∧ a.toInt ≤ 3) ∧ (0 ≤ b.toInt ∧ b.toInt ≤ 3) ∧ -1 ≤ c.toInt ∧ c.toInt ≤ 2) → P (some (.int (-2))) (wW f l q) := by
    intro c0 h
    refine hP _ f l q (fun P2 h2 => ?_)
    refine run_X9_undoing 60 ?_
    repeat (first | refine And.intro (fun e => absurd e (by decide)) (fun e => ?_) | refine And.intro (fun e => ?_) (fun e => absurd e (by decide)) | refine Exists.intro _ (And.intro rfl ?_) | refine And.intro rfl ?_)
    refine And.intro (fun d => ?_) (fun d => absurd (Classical.not_not.mp d) (fun e => c0 (by rw [e]; rfl)))
    repeat (first | refine And.intro (fun e => absurd e (by decide)) (fun e => ?_) | refine And.intro (fun e => ?_) (fun e => absurd e (by decide)) | refine Exists.intro _ (And.intro rfl ?_) | refine And.intro rfl ?_)
    refine s_isMark (fun d1 d2 => ?_) (fun d1 => ?_)
    · repeat (first | refine And.intro (fun e => absurd e (by decide)) (fun e => ?_) | refine And.intro (fun e => ?_) (fun e => absurd e (by decide)) | refine Exists.intro _ (And.intro rfl ?_) | refine And.intro rfl ?_)
      refine s_isMark (fun d3 d4 => ?_) (fun d3 => ?_)
      · repeat (first | refine And.intro (fun e => absurd e (by decide)) (fun e => ?_) | refine And.intro (fun e => ?_) (fun e => absurd e (by decide)) | refine Exists.intro _ (And.intro rfl ?_) | refine And.intro rfl ?_)
        refine s_in (x := c.toInt) (a := -1) (b := 2) l64 rfl rfl (fun e1 e2 => absurd ⟨⟨d1, d2⟩, ⟨d3, d4⟩, e1, e2⟩ h) (fun e1 => ?_)
        repeat (first | refine And.intro (fun e => absurd e (by decide)) (fun e => ?_) | refine And.intro (fun e => ?_) (fun e => absurd e (by decide)) | refine Exists.intro _ (And.intro rfl ?_) | refine And.intro rfl ?_)
        exact h2 f l q hI
      · repeat (first | refine And.intro (fun e => absurd e (by decide)) (fun e => ?_) | refine And.intro (fun e => ?_) (fun e => absurd e (by decide)) | refine Exists.intro _ (And.intro rfl ?_) | refine And.intro rfl ?_)
        exact h2 f l q hI
    · repeat (first | refine And.intro (fun e => absurd e (by decide)) (fun e => ?_) | refine And.intro (fun e => ?_) (fun e => absurd e (by decide)) | refine Exists.intro _ (And.intro rfl ?_) | refine And.intro rfl ?_)
      exact h2 f l q hI
  refine run_X8_undoing 17 ?_
  repeat (first | refine And.intro (fun e => absurd e (by decide)) (fun e => ?_) | refine And.intro (fun e => ?_) (fun e => absurd e (by decide)) | refine Exists.intro _ (And.intro rfl ?_) | refine And.intro rfl ?_)
  refine s_isOn (b := 2) (Or.inl rfl) (fun c0 => ?_) (fun c0 => ?_)
  · have c0 : ¬ (f 42 1).toInt = 0 := by rw [hn3]; omega
    repeat (first | refine And.intro (fun e => absurd e (by decide)) (fun e => ?_) | refine And.intro (fun e => ?_) (fun e => absurd e (by decide)) | refine Exists.intro _ (And.intro rfl ?_) | refine And.intro rfl ?_)
    refine s_below (bi := 4) rfl (fun c1 c2 => ?_) (fun c1 => ?_)
    · repeat (first | refine And.intro (fun e => absurd e (by decide)) (fun e => ?_) | refine And.intro (fun e => ?_) (fun e => absurd e (by decide)) | refine Exists.intro _ (And.intro rfl ?_) | refine And.intro rfl ?_)
      refine s_below (bi := 4) rfl (fun c3 c4 => ?_) (fun c3 => ?_)
      · repeat (first | refine And.intro (fun e => absurd e (by decide)) (fun e => ?_) | refine And.intro (fun e => ?_) (fun e => absurd e (by decide)) | refine Exists.intro _ (And.intro rfl ?_) | refine And.intro rfl ?_)
        refine s_within (a := -1) (b := 2) rfl rfl (fun c5 c6 => ?_) (fun c5 => ?_)
        · obtain ⟨a, rfl, ha⟩ := nI_ex c1
          obtain ⟨b, rfl, hb⟩ := nI_ex c3
          have ha4 : a < 4 := by omega
          have hb4 : b < 4 := by omega
          have hl5 := hL.1.2.1
          have hr5 := hR.1
          obtain ⟨D, hD'⟩ : ∃ D, D = Ds (gs (l 5)) (fun x => decide (x = b)) := ⟨_, rfl⟩
          have D4 : ∀ m, D m ≤ 4 := fun m => by rw [hD']; exact ds_le4
          have hIF := inv_57 (A := q4 (cd D 3)) hI rfl
          -- the reference
          have ref : ∀ (P2 : ba_P), ba_go scr ix_X9_undoing 54 [some (.ref 43), some (.int (nI a)), some (.int (nI b)), some (.int c), some (.int (cd D 3 a))] [] (wW f (u1 l 57 (q4 (cd D 3))) q) 0 0 P2 → ba_go scr ix_X9_undoing 0 [some (.ref 43), some (.int (nI a)), some (.int (nI b)), some (.int c), none] [] (wW f l q) 0 0 P2 := by
            intro P2 h
            refine run_X9_undoing 23 ?_
            repeat (first | refine And.intro (fun e => absurd e (by decide)) (fun e => ?_) | refine And.intro (fun e => ?_) (fun e => absurd e (by decide)) | refine Exists.intro _ (And.intro rfl ?_) | refine And.intro rfl ?_)
            refine And.intro (fun d => ?_) (fun d => absurd (Classical.not_not.mp d) (fun e => c0 (by rw [e]; rfl)))
            repeat (first | refine And.intro (fun e => absurd e (by decide)) (fun e => ?_) | refine And.intro (fun e => ?_) (fun e => absurd e (by decide)) | refine Exists.intro _ (And.intro rfl ?_) | refine And.intro rfl ?_)
            refine s_isMark (fun d1 d2 => ?_) (fun d1 => absurd ⟨c1, by omega⟩ d1)
            repeat (first | refine And.intro (fun e => absurd e (by decide)) (fun e => ?_) | refine And.intro (fun e => ?_) (fun e => absurd e (by decide)) | refine Exists.intro _ (And.intro rfl ?_) | refine And.intro rfl ?_)
            refine s_isMark (fun d3 d4 => ?_) (fun d3 => absurd ⟨c3, by omega⟩ d3)
            repeat (first | refine And.intro (fun e => absurd e (by decide)) (fun e => ?_) | refine And.intro (fun e => ?_) (fun e => absurd e (by decide)) | refine Exists.intro _ (And.intro rfl ?_) | refine And.intro rfl ?_)
            refine s_in (x := c.toInt) (a := -1) (b := 2) l64 rfl rfl (fun e1 e2 => ?_) (fun e1 => absurd ⟨c5, c6⟩ e1)
            refine And.intro (fun _ => ?_) (fun e => absurd (by decide) e)
            refine And.intro rfl (r_measures hb4 hL.2.2.2.2.2.1.2.2.1 (by rw [e44]; exact hl5) (by rw [e44]; exact hr5) ?_)
            rw [e44, ← hD']
            refine Exists.intro _ (And.intro (rfl) ?_)
            have ld : ∀ xs, ba_ldI xs (wW f (u1 l 57 (q4 (cd D 3))) q) 58 (nI a) = some (cd D 3 a) := fun xs => by
              rw [ldI_of (l := q4 (cd D 3)) rfl (by rw [nI_toInt (by omega)]; omega) (by rw [nI_toInt (by omega)]; show (a : Int) < 4; omega), nI_clamp (by omega), q4_get ha4]
            refine Exists.intro _ (And.intro (ld _) ?_)
            exact h
          refine And.intro (fun _ => ?_) (fun e => absurd (by decide) e)
          refine run_X8_undoing 40 ?_
          refine Exists.intro _ (And.intro (rfl) ?_)
          refine Exists.intro _ (And.intro (rfl) ?_)
          refine And.intro rfl (s_fewest (B6_one (p := b) (by omega)) ha4 hl5 hr5 ?_)
          rw [← hD']
          have hD4a := D4 a
          by_cases hfar : D a ≤ 3
          · have ecd : cd D 3 a = nI (D a) := by unfold cd; rw [if_pos hfar]
            have hpos : ¬ nI (D a) < 0 := by rw [lt_i, zi, nI_toInt (by omega)]; omega
            refine And.intro (fun e => absurd ((nI_eq (b := 4) (by omega) (by decide)).mp e) (by omega)) (fun _ => ?_)
            by_cases hcD : c.toInt < D a
            · refine And.intro (fun _ => ?_) (fun e => absurd (by show c < nI (D a); rw [lt_i, nI_toInt (by omega)]; omega) e)
              by_cases hc1 : c = -1
              · subst hc1
                refine And.intro (fun e => absurd rfl e) (fun _ => ?_)
                refine hP _ f l q (fun P2 h2 => ref P2 ?_)
                rw [ecd]
                refine run_X9_undoing 10 ?_
                refine And.intro (fun e => absurd e hpos) (fun _ => ?_)
                refine And.intro (fun e => absurd e (by decide)) (fun _ => ?_)
                exact h2 _ _ _ hIF
              · have hc0 : 0 ≤ c.toInt := by
                  have : ¬ c.toInt = -1 := fun e => hc1 (by rw [eq_i, m1]; exact e)
                  omega
                refine And.intro (fun _ => ?_) (fun e => absurd hc1 e)
                obtain ⟨k, rfl, hk⟩ := nI_ex hc0
                refine Exists.intro _ (And.intro (rfl) ?_)
                refine Exists.intro _ (And.intro (rfl) ?_)
                refine And.intro rfl (s_onWay ha4 hb4 (by omega) hl5 hr5 ?_)
                rw [← hD']
                refine hP _ f l q (fun P2 h2 => ref P2 ?_)
                rw [ecd]
                refine run_X9_undoing 20 ?_
                refine And.intro (fun e => absurd e hpos) (fun _ => ?_)
                refine And.intro (fun _ => ?_) (fun e => absurd (by show 0 ≤ nI k; rw [le_i, zi]; exact hc0) e)
                refine And.intro (fun e => absurd e (by show ¬ nI (D a) ≤ nI k; rw [le_i, nI_toInt (by omega)]; omega)) (fun _ => ?_)
                refine And.intro rfl (r_undoingStamp (l := u1 l 57 (q4 (cd D 3))) (g := gs (l 5)) (D := D) (by show _ = gs (l 44); rw [e44]) rfl (by show (l 44).length = 12; rw [e44]; exact hl5) (by show rv (l 44); rw [e44]; exact hr5) ha4 (by omega) hfar D4 (fun m s hs => by rw [hD']; exact Ds_pred hs) (fun m h1 h2 => by rw [hD'] at h1 h2 ⊢; exact Ds_succ h1 h2) ?_)
                exact h2 _ _ _ hIF
            · refine And.intro (fun e => absurd e (by show ¬ c < nI (D a); rw [lt_i, nI_toInt (by omega)]; omega)) (fun _ => ?_)
              refine hP _ f l q (fun P2 h2 => ref P2 ?_)
              rw [ecd]
              refine run_X9_undoing 10 ?_
              refine And.intro (fun e => absurd e hpos) (fun _ => ?_)
              refine And.intro (fun _ => ?_) (fun e => absurd (by show 0 ≤ c; rw [le_i, zi]; omega) e)
              refine And.intro (fun _ => ?_) (fun e => absurd (by show nI (D a) ≤ c; rw [le_i, nI_toInt (by omega)]; omega) e)
              exact h2 _ _ _ hIF
          · have ecd : cd D 3 a = -9 := by unfold cd; rw [if_neg hfar]
            refine And.intro (fun _ => ?_) (fun e => absurd (by show nI (D a) = 4; rw [show D a = 4 by omega]; rfl) e)
            refine hP _ f l q (fun P2 h2 => ref P2 ?_)
            rw [ecd]
            refine run_X9_undoing 10 ?_
            refine And.intro (fun _ => ?_) (fun e => absurd (by decide) e)
            exact h2 _ _ _ hIF
        · repeat (first | refine And.intro (fun e => absurd e (by decide)) (fun e => ?_) | refine And.intro (fun e => ?_) (fun e => absurd e (by decide)) | refine Exists.intro _ (And.intro rfl ?_) | refine And.intro rfl ?_)
          refine run_X8_undoing 2 ?_
          exact bad c0 (fun e => c5 e.2.2)
      · repeat (first | refine And.intro (fun e => absurd e (by decide)) (fun e => ?_) | refine And.intro (fun e => ?_) (fun e => absurd e (by decide)) | refine Exists.intro _ (And.intro rfl ?_) | refine And.intro rfl ?_)
        exact bad c0 (fun e => c3 ⟨e.2.1.1, by omega⟩)
    · repeat (first | refine And.intro (fun e => absurd e (by decide)) (fun e => ?_) | refine And.intro (fun e => ?_) (fun e => absurd e (by decide)) | refine Exists.intro _ (And.intro rfl ?_) | refine And.intro rfl ?_)
      exact bad c0 (fun e => c1 ⟨e.1.1, by omega⟩)
  · repeat (first | refine And.intro (fun e => absurd e (by decide)) (fun e => ?_) | refine And.intro (fun e => ?_) (fun e => absurd e (by decide)) | refine Exists.intro _ (And.intro rfl ?_) | refine And.intro rfl ?_)
    refine hP _ f l q (fun P2 h2 => ?_)
    refine run_X9_undoing 60 ?_
    repeat (first | refine And.intro (fun e => absurd e (by decide)) (fun e => ?_) | refine And.intro (fun e => ?_) (fun e => absurd e (by decide)) | refine Exists.intro _ (And.intro rfl ?_) | refine And.intro rfl ?_)
    refine And.intro (fun d => absurd (show f 42 1 = 0 by rw [eq_i, zi, hn3]; omega) d) (fun d => ?_)
    repeat (first | refine And.intro (fun e => absurd e (by decide)) (fun e => ?_) | refine And.intro (fun e => ?_) (fun e => absurd e (by decide)) | refine Exists.intro _ (And.intro rfl ?_) | refine And.intro rfl ?_)
    exact h2 f l q hI
end U2
