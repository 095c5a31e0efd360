theorem law_all {scr : List Int32} (h : scr.length ≤ 3072) : ba_go (some scr) ix_L_law 0 [some (.ref 0), none, none, none] [] [] 0 0 (fun v _ => v = some (.int 1)) := by
  sorry
