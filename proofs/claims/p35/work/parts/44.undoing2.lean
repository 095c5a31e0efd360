/-! undoing (2) -/
def nsr (g : Nat → Nat → Nat) (D : Nat → Nat) (m : Nat) : Nat → Nat
  | 0 => 0
  | k + 1 => if D (g k m) < D (g (nsr g D m k) m) then k else nsr g D m k
def pt (g : Nat → Nat → Nat) (D : Nat → Nat) (a : Nat) : Nat → Nat
  | 0 => a
  | j + 1 => g (nsr g D (pt g D a j) 3) (pt g D a j)
theorem nsr_lt {g : Nat → Nat → Nat} {D : Nat → Nat} {m : Nat} : ∀ {k : Nat}, nsr g D m (k + 1) ≤ k
  | 0 => by
    show (if D (g 0 m) < D (g 0 m) then 0 else 0) ≤ 0
    rw [if_neg (Nat.lt_irrefl _)]
    exact Nat.le_refl _
  | k + 1 => by
    show (if D (g (k + 1) m) < D (g (nsr g D m (k + 1)) m) then k + 1 else nsr g D m (k + 1)) ≤ k + 1
    have := nsr_lt (g := g) (D := D) (m := m) (k := k)
    split
    · exact Nat.le_refl _
    · omega
theorem nsr3 {g : Nat → Nat → Nat} {D : Nat → Nat} {m : Nat} : nsr g D m 3 < 3 := Nat.lt_succ_of_le (nsr_lt (k := 2))
theorem nsr1 {g : Nat → Nat → Nat} {D : Nat → Nat} {m : Nat} : nsr g D m 1 = 0 := Nat.le_zero.mp (nsr_lt (k := 0))
theorem nsr_first {g : Nat → Nat → Nat} {D : Nat → Nat} {m e : Nat} (hp : ∀ s, s < 3 → e ≤ D (g s m)) (hx : ∃ s, s < 3 ∧ D (g s m) = e) : nsr g D m 3 = (if D (g 0 m) = e then 0 else if D (g 1 m) = e then 1 else 2) ∧ D (g (nsr g D m 3) m) = e := by
  have e1 : nsr g D m 1 = 0 := by
    show (if D (g 0 m) < D (g 0 m) then 0 else 0) = 0
    rw [if_neg (Nat.lt_irrefl _)]
  have h0 := hp 0 (by decide)
  have h1 := hp 1 (by decide)
  have h2 := hp 2 (by decide)
  have e2 : nsr g D m 2 = (if D (g 1 m) < D (g 0 m) then 1 else 0) := by
    show (if D (g 1 m) < D (g (nsr g D m 1) m) then 1 else nsr g D m 1) = _
    rw [e1]
  have e3 : nsr g D m 3 = (if D (g 2 m) < D (g (nsr g D m 2) m) then 2 else nsr g D m 2) := rfl
  have hor : D (g 0 m) = e ∨ D (g 1 m) = e ∨ D (g 2 m) = e := by
    obtain ⟨s, hs, h⟩ := hx
    match s, hs with
    | 0, _ => exact Or.inl h
    | 1, _ => exact Or.inr (Or.inl h)
    | 2, _ => exact Or.inr (Or.inr h)
  by_cases c1 : D (g 1 m) < D (g 0 m)
  · rw [if_pos c1] at e2
    rw [e2] at e3
    by_cases c2 : D (g 2 m) < D (g 1 m)
    · rw [if_pos c2] at e3
      rw [e3, if_neg (by omega), if_neg (by omega)]
      exact ⟨rfl, by omega⟩
    · rw [if_neg c2] at e3
      rw [e3, if_neg (by omega), if_pos (by omega)]
      exact ⟨rfl, by omega⟩
  · rw [if_neg c1] at e2
    rw [e2] at e3
    by_cases c2 : D (g 2 m) < D (g 0 m)
    · rw [if_pos c2] at e3
      rw [e3, if_neg (by omega), if_neg (by omega)]
      exact ⟨rfl, by omega⟩
    · rw [if_neg c2] at e3
      rw [e3, if_pos (by omega)]
      exact ⟨rfl, by omega⟩
section U2
variable {scr : Option (List Int32)} {P : ba_P} {w : ba_W} {f : Nat → Nat → Int32} {l : Nat → List Int32} {q : List (List Int32)}
theorem s_nearest {m t : Nat} (hm : m < 4) (ht : t < 4) (h5 : (l 5).length = 12) (hr : rv (l 5)) (hP : P (some (.int (nI (nsr (gs (l 5)) (Ds (gs (l 5)) (fun x => decide (x = t))) m 3)))) (wW f l q)) : ba_go scr ix_X4_nearestStamp 0 [some (.ref 5), some (.int (nI m)), some (.int (nI t)), none, none] [] (wW f l q) 0 0 P := by
  have loop : ∀ (m' k : Nat) (n x : Int32), k + m' = 3 → 1 ≤ k → x = nI k → n = nI (nsr (gs (l 5)) (Ds (gs (l 5)) (fun x => decide (x = t))) m k) → ba_go scr ix_X4_nearestStamp 5 [some (.ref 5), some (.int (nI m)), some (.int (nI t)), some (.int n), some (.int x)] [] (wW f l q) 0 0 P := by
    intro m'
    induction m' with
    | zero =>
      intro k n x h1 h0 h2 h3
      subst h2; subst h3
      have h4 : k = 3 := by omega
      subst h4
      refine run_X4_nearestStamp 5 ?_
      refine And.intro (fun _ => ?_) (fun e => absurd (by decide) e)
      exact hP
    | succ m' ih =>
      intro k n x h1 h0 h2 h3
      subst h2; subst h3
      have hn : nsr (gs (l 5)) (Ds (gs (l 5)) (fun x => decide (x = t))) m k < 3 := by
        have := nsr_lt (g := gs (l 5)) (D := Ds (gs (l 5)) (fun x => decide (x = t))) (m := m) (k := k - 1)
        rw [show k - 1 + 1 = k by omega] at this
        omega
      have es : nsr (gs (l 5)) (Ds (gs (l 5)) (fun x => decide (x = t))) m (k + 1) = (if Ds (gs (l 5)) (fun x => decide (x = t)) (gs (l 5) k m) < Ds (gs (l 5)) (fun x => decide (x = t)) (gs (l 5) (nsr (gs (l 5)) (Ds (gs (l 5)) (fun x => decide (x = t))) m k) m) then k else nsr (gs (l 5)) (Ds (gs (l 5)) (fun x => decide (x = t))) m k) := rfl
      have b1 : Ds (gs (l 5)) (fun x => decide (x = t)) (gs (l 5) k m) ≤ 4 := ds_le4
      have b2 : Ds (gs (l 5)) (fun x => decide (x = t)) (gs (l 5) (nsr (gs (l 5)) (Ds (gs (l 5)) (fun x => decide (x = t))) m k) m) ≤ 4 := ds_le4
      refine run_X4_nearestStamp 22 ?_
      refine And.intro (fun e => absurd e (by show ¬ (3 : Int32) ≤ nI k; rw [le_i, nI_toInt (by omega), show (3 : Int32).toInt = 3 from rfl]; omega)) (fun _ => ?_)
      refine And.intro rfl (s_aft h5 hr hm (by omega) ?_)
      refine And.intro rfl (s_fewest (B6_one (p := t) (by omega)) (gs_lt hr hm (by omega)) h5 hr ?_)
      refine And.intro rfl (s_aft h5 hr hm hn ?_)
      refine And.intro rfl (s_fewest (B6_one (p := t) (by omega)) (gs_lt hr hm hn) h5 hr ?_)
      refine And.intro (fun c => ?_) (fun c => ?_)
      · have c : nI (Ds (gs (l 5)) (fun x => decide (x = t)) (gs (l 5) (nsr (gs (l 5)) (Ds (gs (l 5)) (fun x => decide (x = t))) m k) m)) ≤ nI (Ds (gs (l 5)) (fun x => decide (x = t)) (gs (l 5) k m)) := c
        rw [le_i, nI_toInt (by omega), nI_toInt (by omega)] at c
        rw [if_neg (by omega)] at es
        refine run_X4_nearestStamp 2 ?_
        exact ih (k + 1) _ _ (by omega) (by omega) (nI_1 k) (by rw [es])
      · have c : ¬ nI (Ds (gs (l 5)) (fun x => decide (x = t)) (gs (l 5) (nsr (gs (l 5)) (Ds (gs (l 5)) (fun x => decide (x = t))) m k) m)) ≤ nI (Ds (gs (l 5)) (fun x => decide (x = t)) (gs (l 5) k m)) := c
        rw [le_i, nI_toInt (by omega), nI_toInt (by omega)] at c
        rw [if_pos (by omega)] at es
        refine run_X4_nearestStamp 4 ?_
        exact ih (k + 1) _ _ (by omega) (by omega) (nI_1 k) (by rw [es])
  refine run_X4_nearestStamp 4 ?_
  refine loop 2 1 0 1 rfl (by decide) rfl ?_
  rw [nsr1]
  rfl
theorem pt_lt {g : Nat → Nat → Nat} {D : Nat → Nat} {a : Nat} (ha : a < 4) (hg : ∀ s m, s < 3 → m < 4 → g s m < 4) : ∀ j, pt g D a j < 4
  | 0 => ha
  | j + 1 => hg _ _ nsr3 (pt_lt ha hg j)
theorem s_onWay {a t k : Nat} (ha : a < 4) (ht : t < 4) (hk : k < 100) (h5 : (l 5).length = 12) (hr : rv (l 5)) (hP : P (some (.int (nI (nsr (gs (l 5)) (Ds (gs (l 5)) (fun x => decide (x = t))) (pt (gs (l 5)) (Ds (gs (l 5)) (fun x => decide (x = t))) a k) 3)))) (wW f l q)) : ba_go scr ix_X4_stampOnWay 0 [some (.ref 5), some (.int (nI a)), some (.int (nI t)), some (.int (nI k)), none, none] [] (wW f l q) 0 0 P := by
  have hg := gs_all hr
  obtain ⟨D, hD⟩ : ∃ D, D = Ds (gs (l 5)) (fun x => decide (x = t)) := ⟨_, rfl⟩
  rw [← hD] at hP
  have hn : ∀ m, nsr (gs (l 5)) D m 3 < 3 := fun m => nsr3
  have loop : ∀ (m j : Nat) (p x : Int32), j + m = k → x = nI j → p = nI (pt (gs (l 5)) D a j) → ba_go scr ix_X4_stampOnWay 6 [some (.ref 5), some (.int (nI a)), some (.int (nI t)), some (.int (nI k)), some (.int p), some (.int x)] [] (wW f l q) 0 0 P := by
    intro m
    induction m with
    | zero =>
      intro j p x h1 h2 h3
      subst h2; subst h3
      have h4 : j = k := by omega
      subst h4
      refine run_X4_stampOnWay 8 ?_
      refine And.intro (fun _ => ?_) (fun e => absurd (by show nI j ≤ nI j; rw [le_i]; omega) e)
      refine And.intro rfl (s_nearest (pt_lt ha hg j) ht h5 hr ?_)
      rw [← hD]
      exact hP
    | succ m ih =>
      intro j p x h1 h2 h3
      subst h2; subst h3
      refine run_X4_stampOnWay 13 ?_
      refine And.intro (fun e => absurd e (by show ¬ nI k ≤ nI j; rw [le_i, nI_toInt (by omega), nI_toInt (by omega)]; omega)) (fun _ => ?_)
      refine And.intro rfl (s_nearest (pt_lt ha hg j) ht h5 hr ?_)
      rw [← hD]
      refine And.intro rfl (s_aft h5 hr (pt_lt ha hg j) (hn _) ?_)
      exact ih (j + 1) _ _ (by omega) (nI_1 j) rfl
  refine run_X4_stampOnWay 4 ?_
  exact loop k 0 _ 0 (by omega) rfl rfl
end U2
