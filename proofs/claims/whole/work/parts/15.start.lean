/-! the law from its entry to its loop -/
def f0 : Nat → Nat → Int32 := fun i j => bif Nat.beq j 1 && (Nat.beq i 34 || (Nat.beq i 36 || (Nat.beq i 38 || Nat.beq i 40))) then -1 else 0
def l0 (i : Nat) : List Int32 := [[], [], [], List.replicate 2 0, [], List.replicate 12 0, List.replicate 4 0, List.replicate 4 0, [], [], [], [], [], [], [], [], [], List.replicate 2 0, [], List.replicate 12 0, List.replicate 4 0, List.replicate 4 0, [], [], [], [], [], [], [], [], List.replicate 8 0, List.replicate 8 0, [], [], [], List.replicate 60 0, [], List.replicate 60 0, [], List.replicate 60 0, [], List.replicate 60 0, [], List.replicate 2 0, List.replicate 12 0, List.replicate 6 0, List.replicate 6 0, List.replicate 6 0, List.replicate 6 0, List.replicate 2 0, List.replicate 12 0, List.replicate 6 0, List.replicate 6 0, List.replicate 6 0, List.replicate 6 0, List.replicate 2 0, List.replicate 6 0, List.replicate 4 0, [], [], List.replicate 8 0, List.replicate 8 0, [-1, -1, -1, -1], List.replicate 4 0, List.replicate 240 0, List.replicate 60 0].getD i []
def q0 (i : Nat) : List Int64 := [[], [], [], [], [], [], [], [], [], [], [], [], [], [], [], [], [], [], [], [], [], [], [], [], [], [], [], [], [], [], [], [], [], [], [], [], [], [], [], [], [], [], [], [], [], [], [], [], [], [], [], [], [], [], [], [], [], [], List.replicate 4 0, List.replicate 4 0, [], [], [], [], [], []].getD i []
set_option maxRecDepth 100000 in
set_option maxHeartbeats 4000000 in
theorem law_start {xs : List Int32} {P : ba_P} (h : ba_go (some xs) ix_L_law 18 [some (.ref 0), some (.ref 1), some (.ref 43), some (.int 0)] [] (wW f0 l0 q0) 66 860 P) : ba_go (some xs) ix_L_law 0 [some (.ref 0), none, none, none] [] [] 0 0 P := by
  refine run_L_law 10 ?_
  repeat' (first
    | exact h
    | (refine And.intro (fun c => absurd c (by decide)) (fun _ => ?_))
    | (refine And.intro (fun _ => ?_) (fun c => absurd c (by decide)))
    | (refine And.intro rfl (run_X0_init 400 ?_))
    | (refine And.intro rfl (run_X1_init 400 ?_))
    | (refine And.intro rfl (run_X2_init 400 ?_))
    | (refine And.intro rfl (run_X3_init 400 ?_))
    | (refine And.intro rfl (run_X4_init 400 ?_))
    | (refine And.intro rfl (run_X5_init 400 ?_))
    | (refine And.intro rfl (run_X7_init 400 ?_))
    | (refine And.intro rfl (run_X8_init 400 ?_))
    | (refine And.intro rfl (run_X9_init 400 ?_))
    | (refine And.intro rfl ?_)
    | (refine Exists.intro _ (And.intro rfl ?_)))
