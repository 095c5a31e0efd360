/-! strikes and washings -/
theorem u2_ne {f : Nat → Nat → Int32} {a j c d : Nat} {v : Int32} (h : ¬ c = a) : u2 f a j v c d = f c d := by
  unfold u2
  rw [show Nat.beq c a = false from by cases h2 : Nat.beq c a with | false => rfl | true => exact absurd (Nat.eq_of_beq_eq_true h2) h]
  rfl
theorem u1_self {α : Type} {l : Nat → α} {i : Nat} : u1 l i (l i) = l := by
  funext a
  unfold u1
  cases h : Nat.beq a i with
  | true => rw [Nat.eq_of_beq_eq_true h]; rfl
  | false => rfl
theorem ck {A B C D E : Bool} (h1 : A = true) (h2 : B = true) (h3 : C = true) (h4 : D = true) (h5 : E = true) : (A && (B && (C && (D && E)))) = true := by rw [h1, h2, h3, h4, h5]; rfl
theorem isC_of {w : ba_W} {j ci : Nat} {fs : List Value} (hw : w[j]? = some (.inr (ci, fs))) : ba_isC w (j + 1) ci = true := by
  unfold ba_isC
  simp only [hw]
  exact Nat.beq_refl ci
theorem set_self {L : List Int32} {i : Nat} : L.set i (L.getD i 0) = L := by
  apply List.ext_getElem?
  intro j
  rw [List.getElem?_set]
  by_cases h : i = j
  · subst h
    by_cases h2 : i < L.length
    · simp [h2, List.getD_eq_getElem?_getD]
    · simp [h2]
  · simp [h]
theorem getD_set {L : List Int32} {i j : Nat} {v : Int32} : (L.set i v).getD j 0 = if i = j ∧ i < L.length then v else L.getD j 0 := by
  rw [List.getD_eq_getElem?_getD, List.getElem?_set, List.getD_eq_getElem?_getD]
  by_cases h : i = j
  · subst h
    by_cases h2 : i < L.length
    · simp [h2]
    · simp [h2]
  · simp [h]
section ST
variable {scr : Option (List Int32)} {P : ba_P} {w : ba_W} {f : Nat → Nat → Int32} {l : Nat → List Int32} {q : List (List Int32)}
theorem ow {o : Int32} (h : 0 ≤ o.toInt) (h2 : o.toInt ≤ 1) : (1 - o).toInt = 1 - o.toInt := by
  have e : (1 : Int32).toInt = 1 := rfl
  rw [fb_subI (by rw [e]; omega) (by rw [e]; omega), e]
theorem s_strikes {b p : Nat} (hb : b = 2 ∨ b = 16) (hp : p < 6) {s : Int32} (hl : (l (b + 1)).length = 2) (hl2 : (l (b + 3)).length = 12) (hpv : pv (f (b + 7 + p))) (hs : 0 ≤ s.toInt) (hs2 : s.toInt ≤ 2)
    (h0 : ((l (b + 1)).getD (1 - f (b + 7 + p) 1).toNatClampNeg 0).toInt < (tk (f (b + 7 + p) 0) (f (b + 7 + p) 3)).toInt → P (some (.int 0)) (wW f l q))
    (h1 : ¬ ((l (b + 1)).getD (1 - f (b + 7 + p) 1).toNatClampNeg 0).toInt < (tk (f (b + 7 + p) 0) (f (b + 7 + p) 3)).toInt → P (some (.int 1)) (wW (u2 f (b + 7 + p) 2 (rl (l (b + 3)) (f (b + 7 + p) 2) s)) (u1 l (b + 1) ((l (b + 1)).set (1 - f (b + 7 + p) 1).toNatClampNeg ((l (b + 1)).getD (1 - f (b + 7 + p) 1).toNatClampNeg 0 - tk (f (b + 7 + p) 0) (f (b + 7 + p) 3)))) q)) :
    ba_go scr ix_X7_strikes 0 [some (.ref (b + 1)), some (.ref (b + 7 + p + 1)), some (.int s), none] [] (wW f l q) 0 0 P := by
  have ho := ow hpv.2.1.1 hpv.2.1.2
  have hat := ps_at (f := f) (l := l) (q := q) hb hp
  have hld : ∀ xs, ba_ldI xs (wW f l q) (b + 2) (Int32.ofInt 1 - f (b + 7 + p) 1) = some ((l (b + 1)).getD (1 - f (b + 7 + p) 1).toNatClampNeg 0) := by
    intro xs
    rcases hb with rfl | rfl
    · exact ldI_of rfl (by show 0 ≤ (1 - f (2 + 7 + p) 1).toInt; have := hpv.2.1; omega) (by show (1 - f (2 + 7 + p) 1).toInt < _; have := hpv.2.1; rw [hl]; omega)
    · exact ldI_of rfl (by show 0 ≤ (1 - f (16 + 7 + p) 1).toInt; have := hpv.2.1; omega) (by show (1 - f (16 + 7 + p) 1).toInt < _; have := hpv.2.1; rw [hl]; omega)
  have hst : ∀ x, ba_stI (wW f l q) (b + 2) (Int32.ofInt 1 - f (b + 7 + p) 1) x = some (wW f (u1 l (b + 1) ((l (b + 1)).set (1 - f (b + 7 + p) 1).toNatClampNeg x)) q) := by
    intro x
    rcases hb with rfl | rfl
    · exact (stI_of rfl (by show 0 ≤ (1 - f (2 + 7 + p) 1).toInt; have := hpv.2.1; omega) (by show (1 - f (2 + 7 + p) 1).toInt < _; have := hpv.2.1; rw [hl]; omega)).trans rfl
    · exact (stI_of rfl (by show 0 ≤ (1 - f (16 + 7 + p) 1).toInt; have := hpv.2.1; omega) (by show (1 - f (16 + 7 + p) 1).toInt < _; have := hpv.2.1; rw [hl]; omega)).trans rfl
  have hfl : ∀ l', ba_fld (wW f l' q) (b + 1) 6 0 = some (.ref (b + 2)) ∧ ba_fld (wW f l' q) (b + 1) 6 1 = some (.ref (b + 3)) := by
    intro l'
    rcases hb with rfl | rfl <;> exact ⟨rfl, rfl⟩
  refine run_X7_strikes 80 ?_
  refine Exists.intro _ (And.intro (fld_of hat rfl) ?_)
  refine Exists.intro _ (And.intro ((hfl l).1) ?_)
  refine Exists.intro _ (And.intro (hld _) ?_)
  refine And.intro (ck rfl rfl rfl rfl (isC_of hat)) (s_takes hat ?_)
  refine And.intro (fun c => ?_) (fun c => ?_)
  · simp only [le_i] at c
    refine Exists.intro _ (And.intro ((hfl l).1) ?_)
    refine Exists.intro _ (And.intro (hld _) ?_)
    refine And.intro (ck rfl rfl rfl rfl (isC_of hat)) (s_takes hat ?_)
    refine Exists.intro _ (And.intro (hst _) ?_)
    refine Exists.intro _ (And.intro ((hfl _).2) ?_)
    refine Exists.intro _ (And.intro (fld_of (ps_at hb hp) rfl) ?_)
    refine And.intro (by rcases hb with rfl | rfl <;> rfl) (s_after hb (by rcases hb with rfl | rfl <;> exact hl2) hpv.2.2.1.1 hpv.2.2.1.2 hs hs2 ?_)
    refine Exists.intro _ (And.intro (ps_set hb hp (by decide)) ?_)
    refine And.intro rfl ?_
    have h2 := h1 (by omega)
    rcases hb with rfl | rfl <;> exact h2
  · simp only [le_i] at c
    exact And.intro rfl (h0 (by omega))
end ST
