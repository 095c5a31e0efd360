/-! method by method: the class's answer is the reference's (3) -/
section B3
variable {scr : Option (List Int32)} {P : ba_P} {w : ba_W} {f : Nat → Nat → Int32} {l : Nat → List Int32} {q : List (List Int32)}
theorem s_washes {b p : Nat} (hb : b = 2 ∨ b = 16) (hp : p < 6) (hl : (l (b + 1)).length = 2) (hpv : pv (f (b + 7 + p)))
    (h0 : (l (b + 1)).getD (f (b + 7 + p) 1).toNatClampNeg 0 = 0 → P (some (.int 0)) (wW f l q))
    (h1 : ¬ (l (b + 1)).getD (f (b + 7 + p) 1).toNatClampNeg 0 = 0 → P (some (.int 1)) (wW (u2 f (b + 7 + p) 2 0) (u1 l (b + 1) ((l (b + 1)).set (f (b + 7 + p) 1).toNatClampNeg ((l (b + 1)).getD (f (b + 7 + p) 1).toNatClampNeg 0 - 1))) q)) :
    ba_go scr ix_X7_washes 0 [some (.ref (b + 1)), some (.ref (b + 7 + p + 1))] [] (wW f l q) 0 0 P := by
  have hat := ps_at (f := f) (l := l) (q := q) hb hp
  have hld : ∀ xs, ba_ldI xs (wW f l q) (b + 2) (f (b + 7 + p) 1) = some ((l (b + 1)).getD (f (b + 7 + p) 1).toNatClampNeg 0) := by
    intro xs
    rcases hb with rfl | rfl
    · exact ldI_of rfl hpv.2.1.1 (by have := hpv.2.1; rw [hl]; omega)
    · exact ldI_of rfl hpv.2.1.1 (by have := hpv.2.1; rw [hl]; omega)
  have hst : ∀ x, ba_stI (wW f l q) (b + 2) (f (b + 7 + p) 1) x = some (wW f (u1 l (b + 1) ((l (b + 1)).set (f (b + 7 + p) 1).toNatClampNeg x)) q) := by
    intro x
    rcases hb with rfl | rfl
    · exact (stI_of rfl hpv.2.1.1 (by have := hpv.2.1; rw [hl]; omega)).trans rfl
    · exact (stI_of rfl hpv.2.1.1 (by have := hpv.2.1; rw [hl]; omega)).trans rfl
  have hfl : ∀ l', ba_fld (wW f l' q) (b + 1) 6 0 = some (.ref (b + 2)) := by
    intro l'
    rcases hb with rfl | rfl <;> rfl
  refine run_X7_washes 80 ?_
  refine Exists.intro _ (And.intro (hfl l) ?_)
  refine Exists.intro _ (And.intro (fld_of hat rfl) ?_)
  refine Exists.intro _ (And.intro (hld _) ?_)
  refine And.intro (fun c => ?_) (fun c => ?_)
  · refine Exists.intro _ (And.intro (hfl l) ?_)
    refine Exists.intro _ (And.intro (fld_of hat rfl) ?_)
    refine Exists.intro _ (And.intro (hld _) ?_)
    refine Exists.intro _ (And.intro (hst _) ?_)
    refine Exists.intro _ (And.intro (ps_set hb hp (by decide)) ?_)
    exact And.intro rfl (h1 c)
  · exact And.intro rfl (h0 (Classical.not_not.mp c))
end B3
