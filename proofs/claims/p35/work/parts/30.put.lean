/-! put, sheet -/
section PU
variable {scr : Option (List Int32)} {P : ba_P} {w : ba_W} {f : Nat → Nat → Int32} {l : Nat → List Int32} {q : List (List Int32)}
def ct (a v : Int32) : Int32 := if a = 0 then v.toInt8.toInt32 else if a = 1 then v.toInt16.toInt32 else v
theorem ct0 {a v : Int32} (h : ¬ ¬ a = 0) : ct a v = v.toInt8.toInt32 := by unfold ct; rw [if_pos (Classical.not_not.mp h)]
theorem ct1 {a v : Int32} (h : ¬ a = 0) (h1 : ¬ ¬ a = 1) : ct a v = v.toInt16.toInt32 := by unfold ct; rw [if_neg h, if_pos (Classical.not_not.mp h1)]
theorem ct2 {a v : Int32} (h : ¬ a = 0) (h1 : ¬ a = 1) : ct a v = v := by unfold ct; rw [if_neg h, if_neg h1]
theorem s_cbecome {k : Nat} (hk : k < 4) {i v : Int32} (hl : (l (34 + 2 * k + 1)).length = 60) (h0 : 0 ≤ i.toInt) (h1 : i.toInt < 60) (hP : P none (wW f (u1 l (34 + 2 * k + 1) ((l (34 + 2 * k + 1)).set i.toNatClampNeg (ct (f (34 + 2 * k) 1) v))) q)) : ba_go scr ix_X5_become 0 [some (.ref (34 + 2 * k + 1)), some (.int i), some (.int v)] [] (wW f l q) 0 0 P := by
  have st : ∀ x, ba_stI (wW f l q) (34 + 2 * k + 2) i x = some (wW f (u1 l (34 + 2 * k + 1) ((l (34 + 2 * k + 1)).set i.toNatClampNeg x)) q) := fun x => by
    rw [← sh_cells hk]
    exact stI_of (sh_fld hk).2.2.2.1 h0 (by rw [hl]; exact h1)
  refine run_X5_become 60 ?_
  refine Exists.intro _ (And.intro ((sh_fld hk).2.1) ?_)
  refine And.intro (fun c => ?_) (fun c => ?_)
  · refine Exists.intro _ (And.intro ((sh_fld hk).2.1) ?_)
    refine And.intro (fun d => ?_) (fun d => ?_)
    · refine Exists.intro _ (And.intro ((sh_fld hk).1) ?_)
      refine Exists.intro _ (And.intro (st _) ?_)
      have e : ct (f (34 + 2 * k) 1) v = v := ct2 c d
      rw [e] at hP
      exact hP
    · refine Exists.intro _ (And.intro ((sh_fld hk).1) ?_)
      refine Exists.intro _ (And.intro (st _) ?_)
      have e : ct (f (34 + 2 * k) 1) v = v.toInt16.toInt32 := ct1 c d
      rw [e] at hP
      exact hP
  · refine Exists.intro _ (And.intro ((sh_fld hk).1) ?_)
    refine Exists.intro _ (And.intro (st _) ?_)
    have e : ct (f (34 + 2 * k) 1) v = v.toInt8.toInt32 := ct0 c
    rw [e] at hP
    exact hP
end PU
