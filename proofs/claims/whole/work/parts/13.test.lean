theorem t_takes {scr : Option (List Int32)} {w : ba_W} {a : Nat} {k o m n : Int32} {P : ba_P} (h : w[a]? = some (.inr (2, [.int k, .int o, .int m, .int n])))
   (hP : P (some (.int (if k = 0 then n else if k = 1 then n + 1 else 2 * (n + 1)))) w) : ba_go scr ix_X2_takes 0 [some (.ref (a + 1))] [] w 0 0 P := by
  have hf : ∀ j v, [Value.int k, .int o, .int m, .int n][j]? = some v → ba_fld w (a + 1) 2 j = some v := by
    intro j v hv
    unfold ba_fld
    simp only [h, if_true]
    exact hv
  refine run_X2_takes 30 ?_
  refine Exists.intro _ (And.intro (hf 0 _ rfl) ?_)
  refine And.intro (fun h1 => ?_) (fun h1 => ?_)
  all_goals exact hP
