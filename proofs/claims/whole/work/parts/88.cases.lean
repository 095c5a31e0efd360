/-! the law's cases -/
section LC
variable {scr : Option (List Int32)} {P : ba_P} {w : ba_W} {f : Nat → Nat → Int32} {l : Nat → List Int32} {q : Nat → List Int64}
variable {xs : List Int32} {i : Nat}
theorem sc_at {k : Nat} {x : Int32} (hx : x = nI (i + k)) (hN : xs.length ≤ 3072) (hi : i + k < xs.length) (w : ba_W) : ba_ldI (some xs) w 0 x = some (xs.getD (i + k) 0) := by
  subst hx
  unfold ba_ldI
  show ba_at xs (nI (i + k)) = _
  rw [at_of (d := 0) (by rw [nI_toInt (by omega)]; omega) (by rw [nI_toInt (by omega)]; omega), nI_clamp (by omega)]
set_option maxRecDepth 100000 in
theorem case_war (hN : xs.length ≤ 3072) (hi : i + 6 ≤ xs.length) (hI : Inv f l q) (ht : ∀ f l q, Inv f l q → ba_go (some xs) ix_L_law 1294 [some (.ref 0), some (.ref 1), some (.ref 43), some (.int (nI i))] [] (wW f l q) 66 860 P) : ba_go (some xs) ix_L_law 176 [some (.ref 0), some (.ref 1), some (.ref 43), some (.int (nI i))] [] (wW f l q) 66 860 P := by
  refine run_L_law 45 ?_
  refine Exists.intro _ (And.intro (sc_at (k := 1) (nI_add i 1) hN (by omega) _) ?_)
  refine Exists.intro _ (And.intro (sc_at (k := 2) (nI_add i 2) hN (by omega) _) ?_)
  refine Exists.intro _ (And.intro (sc_at (k := 3) (nI_add i 3) hN (by omega) _) ?_)
  refine Exists.intro _ (And.intro (sc_at (k := 4) (nI_add i 4) hN (by omega) _) ?_)
  refine And.intro rfl (both_war hI _ (fun v f1 l1 q1 h2 => ?_))
  refine Exists.intro _ (And.intro (sc_at (k := 1) (nI_add i 1) hN (by omega) _) ?_)
  refine Exists.intro _ (And.intro (sc_at (k := 2) (nI_add i 2) hN (by omega) _) ?_)
  refine Exists.intro _ (And.intro (sc_at (k := 3) (nI_add i 3) hN (by omega) _) ?_)
  refine Exists.intro _ (And.intro (sc_at (k := 4) (nI_add i 4) hN (by omega) _) ?_)
  refine And.intro rfl (h2 _ (fun f2 l2 q2 hI2 => ?_))
  refine And.intro (fun _ => ?_) (fun e => absurd rfl e)
  exact ht f2 l2 q2 hI2
set_option maxRecDepth 100000 in
theorem case_ofPerson (hN : xs.length ≤ 3072) (hi : i + 6 ≤ xs.length) (hI : Inv f l q) (ht : ∀ f l q, Inv f l q → ba_go (some xs) ix_L_law 1294 [some (.ref 0), some (.ref 1), some (.ref 43), some (.int (nI i))] [] (wW f l q) 66 860 P) : ba_go (some xs) ix_L_law 229 [some (.ref 0), some (.ref 1), some (.ref 43), some (.int (nI i))] [] (wW f l q) 66 860 P := by
  refine run_L_law 25 ?_
  refine Exists.intro _ (And.intro (sc_at (k := 1) (nI_add i 1) hN (by omega) _) ?_)
  refine Exists.intro _ (And.intro (sc_at (k := 2) (nI_add i 2) hN (by omega) _) ?_)
  refine And.intro rfl (both_ofPerson hI _ (fun v f1 l1 q1 h2 => ?_))
  refine Exists.intro _ (And.intro (sc_at (k := 1) (nI_add i 1) hN (by omega) _) ?_)
  refine Exists.intro _ (And.intro (sc_at (k := 2) (nI_add i 2) hN (by omega) _) ?_)
  refine And.intro rfl (h2 _ (fun f2 l2 q2 hI2 => ?_))
  refine And.intro (fun _ => ?_) (fun e => absurd rfl e)
  exact ht f2 l2 q2 hI2
set_option maxRecDepth 100000 in
theorem case_rule (hN : xs.length ≤ 3072) (hi : i + 6 ≤ xs.length) (hI : Inv f l q) (ht : ∀ f l q, Inv f l q → ba_go (some xs) ix_L_law 1294 [some (.ref 0), some (.ref 1), some (.ref 43), some (.int (nI i))] [] (wW f l q) 66 860 P) : ba_go (some xs) ix_L_law 262 [some (.ref 0), some (.ref 1), some (.ref 43), some (.int (nI i))] [] (wW f l q) 66 860 P := by
  refine run_L_law 25 ?_
  refine Exists.intro _ (And.intro (sc_at (k := 1) (nI_add i 1) hN (by omega) _) ?_)
  refine Exists.intro _ (And.intro (sc_at (k := 2) (nI_add i 2) hN (by omega) _) ?_)
  refine And.intro rfl (both_rule hI _ (fun v f1 l1 q1 h2 => ?_))
  refine Exists.intro _ (And.intro (sc_at (k := 1) (nI_add i 1) hN (by omega) _) ?_)
  refine Exists.intro _ (And.intro (sc_at (k := 2) (nI_add i 2) hN (by omega) _) ?_)
  refine And.intro rfl (h2 _ (fun f2 l2 q2 hI2 => ?_))
  refine And.intro (fun _ => ?_) (fun e => absurd rfl e)
  exact ht f2 l2 q2 hI2
set_option maxRecDepth 100000 in
theorem case_decree (hN : xs.length ≤ 3072) (hi : i + 6 ≤ xs.length) (hI : Inv f l q) (ht : ∀ f l q, Inv f l q → ba_go (some xs) ix_L_law 1294 [some (.ref 0), some (.ref 1), some (.ref 43), some (.int (nI i))] [] (wW f l q) 66 860 P) : ba_go (some xs) ix_L_law 295 [some (.ref 0), some (.ref 1), some (.ref 43), some (.int (nI i))] [] (wW f l q) 66 860 P := by
  refine run_L_law 35 ?_
  refine Exists.intro _ (And.intro (sc_at (k := 1) (nI_add i 1) hN (by omega) _) ?_)
  refine Exists.intro _ (And.intro (sc_at (k := 2) (nI_add i 2) hN (by omega) _) ?_)
  refine Exists.intro _ (And.intro (sc_at (k := 3) (nI_add i 3) hN (by omega) _) ?_)
  refine And.intro rfl (both_decree hI _ (fun v f1 l1 q1 h2 => ?_))
  refine Exists.intro _ (And.intro (sc_at (k := 1) (nI_add i 1) hN (by omega) _) ?_)
  refine Exists.intro _ (And.intro (sc_at (k := 2) (nI_add i 2) hN (by omega) _) ?_)
  refine Exists.intro _ (And.intro (sc_at (k := 3) (nI_add i 3) hN (by omega) _) ?_)
  refine And.intro rfl (h2 _ (fun f2 l2 q2 hI2 => ?_))
  refine And.intro (fun _ => ?_) (fun e => absurd rfl e)
  exact ht f2 l2 q2 hI2
set_option maxRecDepth 100000 in
theorem case_starch (hN : xs.length ≤ 3072) (hi : i + 6 ≤ xs.length) (hI : Inv f l q) (ht : ∀ f l q, Inv f l q → ba_go (some xs) ix_L_law 1294 [some (.ref 0), some (.ref 1), some (.ref 43), some (.int (nI i))] [] (wW f l q) 66 860 P) : ba_go (some xs) ix_L_law 338 [some (.ref 0), some (.ref 1), some (.ref 43), some (.int (nI i))] [] (wW f l q) 66 860 P := by
  refine run_L_law 25 ?_
  refine Exists.intro _ (And.intro (sc_at (k := 1) (nI_add i 1) hN (by omega) _) ?_)
  refine Exists.intro _ (And.intro (sc_at (k := 2) (nI_add i 2) hN (by omega) _) ?_)
  refine And.intro rfl (both_starch hI _ (fun v f1 l1 q1 h2 => ?_))
  refine Exists.intro _ (And.intro (sc_at (k := 1) (nI_add i 1) hN (by omega) _) ?_)
  refine Exists.intro _ (And.intro (sc_at (k := 2) (nI_add i 2) hN (by omega) _) ?_)
  refine And.intro rfl (h2 _ (fun f2 l2 q2 hI2 => ?_))
  refine And.intro (fun _ => ?_) (fun e => absurd rfl e)
  exact ht f2 l2 q2 hI2
set_option maxRecDepth 100000 in
theorem case_ofOffice (hN : xs.length ≤ 3072) (hi : i + 6 ≤ xs.length) (hI : Inv f l q) (ht : ∀ f l q, Inv f l q → ba_go (some xs) ix_L_law 1294 [some (.ref 0), some (.ref 1), some (.ref 43), some (.int (nI i))] [] (wW f l q) 66 860 P) : ba_go (some xs) ix_L_law 371 [some (.ref 0), some (.ref 1), some (.ref 43), some (.int (nI i))] [] (wW f l q) 66 860 P := by
  refine run_L_law 25 ?_
  refine Exists.intro _ (And.intro (sc_at (k := 1) (nI_add i 1) hN (by omega) _) ?_)
  refine Exists.intro _ (And.intro (sc_at (k := 2) (nI_add i 2) hN (by omega) _) ?_)
  refine And.intro rfl (both_ofOffice hI _ (fun v f1 l1 q1 h2 => ?_))
  refine Exists.intro _ (And.intro (sc_at (k := 1) (nI_add i 1) hN (by omega) _) ?_)
  refine Exists.intro _ (And.intro (sc_at (k := 2) (nI_add i 2) hN (by omega) _) ?_)
  refine And.intro rfl (h2 _ (fun f2 l2 q2 hI2 => ?_))
  refine And.intro (fun _ => ?_) (fun e => absurd rfl e)
  exact ht f2 l2 q2 hI2
set_option maxRecDepth 100000 in
theorem case_strike (hN : xs.length ≤ 3072) (hi : i + 6 ≤ xs.length) (hI : Inv f l q) (ht : ∀ f l q, Inv f l q → ba_go (some xs) ix_L_law 1294 [some (.ref 0), some (.ref 1), some (.ref 43), some (.int (nI i))] [] (wW f l q) 66 860 P) : ba_go (some xs) ix_L_law 404 [some (.ref 0), some (.ref 1), some (.ref 43), some (.int (nI i))] [] (wW f l q) 66 860 P := by
  refine run_L_law 25 ?_
  refine Exists.intro _ (And.intro (sc_at (k := 1) (nI_add i 1) hN (by omega) _) ?_)
  refine Exists.intro _ (And.intro (sc_at (k := 2) (nI_add i 2) hN (by omega) _) ?_)
  refine And.intro rfl (both_strike hI _ (fun v f1 l1 q1 h2 => ?_))
  refine Exists.intro _ (And.intro (sc_at (k := 1) (nI_add i 1) hN (by omega) _) ?_)
  refine Exists.intro _ (And.intro (sc_at (k := 2) (nI_add i 2) hN (by omega) _) ?_)
  refine And.intro rfl (h2 _ (fun f2 l2 q2 hI2 => ?_))
  refine And.intro (fun _ => ?_) (fun e => absurd rfl e)
  exact ht f2 l2 q2 hI2
set_option maxRecDepth 100000 in
theorem case_wash (hN : xs.length ≤ 3072) (hi : i + 6 ≤ xs.length) (hI : Inv f l q) (ht : ∀ f l q, Inv f l q → ba_go (some xs) ix_L_law 1294 [some (.ref 0), some (.ref 1), some (.ref 43), some (.int (nI i))] [] (wW f l q) 66 860 P) : ba_go (some xs) ix_L_law 437 [some (.ref 0), some (.ref 1), some (.ref 43), some (.int (nI i))] [] (wW f l q) 66 860 P := by
  refine run_L_law 15 ?_
  refine Exists.intro _ (And.intro (sc_at (k := 1) (nI_add i 1) hN (by omega) _) ?_)
  refine And.intro rfl (both_wash hI _ (fun v f1 l1 q1 h2 => ?_))
  refine Exists.intro _ (And.intro (sc_at (k := 1) (nI_add i 1) hN (by omega) _) ?_)
  refine And.intro rfl (h2 _ (fun f2 l2 q2 hI2 => ?_))
  refine And.intro (fun _ => ?_) (fun e => absurd rfl e)
  exact ht f2 l2 q2 hI2
set_option maxRecDepth 100000 in
theorem case_fetches (hN : xs.length ≤ 3072) (hi : i + 6 ≤ xs.length) (hI : Inv f l q) (ht : ∀ f l q, Inv f l q → ba_go (some xs) ix_L_law 1294 [some (.ref 0), some (.ref 1), some (.ref 43), some (.int (nI i))] [] (wW f l q) 66 860 P) : ba_go (some xs) ix_L_law 460 [some (.ref 0), some (.ref 1), some (.ref 43), some (.int (nI i))] [] (wW f l q) 66 860 P := by
  refine run_L_law 25 ?_
  refine Exists.intro _ (And.intro (sc_at (k := 1) (nI_add i 1) hN (by omega) _) ?_)
  refine Exists.intro _ (And.intro (sc_at (k := 2) (nI_add i 2) hN (by omega) _) ?_)
  refine And.intro rfl (both_fetches hI _ (fun v f1 l1 q1 h2 => ?_))
  refine Exists.intro _ (And.intro (sc_at (k := 1) (nI_add i 1) hN (by omega) _) ?_)
  refine Exists.intro _ (And.intro (sc_at (k := 2) (nI_add i 2) hN (by omega) _) ?_)
  refine And.intro rfl (h2 _ (fun f2 l2 q2 hI2 => ?_))
  refine And.intro (fun _ => ?_) (fun e => absurd rfl e)
  exact ht f2 l2 q2 hI2
set_option maxRecDepth 100000 in
theorem case_night (hN : xs.length ≤ 3072) (hi : i + 6 ≤ xs.length) (hI : Inv f l q) (ht : ∀ f l q, Inv f l q → ba_go (some xs) ix_L_law 1294 [some (.ref 0), some (.ref 1), some (.ref 43), some (.int (nI i))] [] (wW f l q) 66 860 P) : ba_go (some xs) ix_L_law 493 [some (.ref 0), some (.ref 1), some (.ref 43), some (.int (nI i))] [] (wW f l q) 66 860 P := by
  refine run_L_law 55 ?_
  refine Exists.intro _ (And.intro (sc_at (k := 1) (nI_add i 1) hN (by omega) _) ?_)
  refine Exists.intro _ (And.intro (sc_at (k := 2) (nI_add i 2) hN (by omega) _) ?_)
  refine Exists.intro _ (And.intro (sc_at (k := 3) (nI_add i 3) hN (by omega) _) ?_)
  refine Exists.intro _ (And.intro (sc_at (k := 4) (nI_add i 4) hN (by omega) _) ?_)
  refine Exists.intro _ (And.intro (sc_at (k := 5) (nI_add i 5) hN (by omega) _) ?_)
  refine And.intro rfl (both_night hI _ (fun v f1 l1 q1 h2 => ?_))
  refine Exists.intro _ (And.intro (sc_at (k := 1) (nI_add i 1) hN (by omega) _) ?_)
  refine Exists.intro _ (And.intro (sc_at (k := 2) (nI_add i 2) hN (by omega) _) ?_)
  refine Exists.intro _ (And.intro (sc_at (k := 3) (nI_add i 3) hN (by omega) _) ?_)
  refine Exists.intro _ (And.intro (sc_at (k := 4) (nI_add i 4) hN (by omega) _) ?_)
  refine Exists.intro _ (And.intro (sc_at (k := 5) (nI_add i 5) hN (by omega) _) ?_)
  refine And.intro rfl (h2 _ (fun f2 l2 q2 hI2 => ?_))
  refine And.intro (fun _ => ?_) (fun e => absurd rfl e)
  exact ht f2 l2 q2 hI2
set_option maxRecDepth 100000 in
theorem case_undoing (hN : xs.length ≤ 3072) (hi : i + 6 ≤ xs.length) (hI : Inv f l q) (ht : ∀ f l q, Inv f l q → ba_go (some xs) ix_L_law 1294 [some (.ref 0), some (.ref 1), some (.ref 43), some (.int (nI i))] [] (wW f l q) 66 860 P) : ba_go (some xs) ix_L_law 556 [some (.ref 0), some (.ref 1), some (.ref 43), some (.int (nI i))] [] (wW f l q) 66 860 P := by
  refine run_L_law 35 ?_
  refine Exists.intro _ (And.intro (sc_at (k := 1) (nI_add i 1) hN (by omega) _) ?_)
  refine Exists.intro _ (And.intro (sc_at (k := 2) (nI_add i 2) hN (by omega) _) ?_)
  refine Exists.intro _ (And.intro (sc_at (k := 3) (nI_add i 3) hN (by omega) _) ?_)
  refine And.intro rfl (both_undoing hI _ (fun v f1 l1 q1 h2 => ?_))
  refine Exists.intro _ (And.intro (sc_at (k := 1) (nI_add i 1) hN (by omega) _) ?_)
  refine Exists.intro _ (And.intro (sc_at (k := 2) (nI_add i 2) hN (by omega) _) ?_)
  refine Exists.intro _ (And.intro (sc_at (k := 3) (nI_add i 3) hN (by omega) _) ?_)
  refine And.intro rfl (h2 _ (fun f2 l2 q2 hI2 => ?_))
  refine And.intro (fun _ => ?_) (fun e => absurd rfl e)
  exact ht f2 l2 q2 hI2
set_option maxRecDepth 100000 in
theorem case_ways (hN : xs.length ≤ 3072) (hi : i + 6 ≤ xs.length) (hI : Inv f l q) (ht : ∀ f l q, Inv f l q → ba_go (some xs) ix_L_law 1294 [some (.ref 0), some (.ref 1), some (.ref 43), some (.int (nI i))] [] (wW f l q) 66 860 P) : ba_go (some xs) ix_L_law 599 [some (.ref 0), some (.ref 1), some (.ref 43), some (.int (nI i))] [] (wW f l q) 66 860 P := by
  refine run_L_law 35 ?_
  refine Exists.intro _ (And.intro (sc_at (k := 1) (nI_add i 1) hN (by omega) _) ?_)
  refine Exists.intro _ (And.intro (sc_at (k := 2) (nI_add i 2) hN (by omega) _) ?_)
  refine Exists.intro _ (And.intro (sc_at (k := 3) (nI_add i 3) hN (by omega) _) ?_)
  refine And.intro rfl (both_ways hI _ (fun v f1 l1 q1 h2 => ?_))
  refine Exists.intro _ (And.intro (sc_at (k := 1) (nI_add i 1) hN (by omega) _) ?_)
  refine Exists.intro _ (And.intro (sc_at (k := 2) (nI_add i 2) hN (by omega) _) ?_)
  refine Exists.intro _ (And.intro (sc_at (k := 3) (nI_add i 3) hN (by omega) _) ?_)
  refine And.intro rfl (h2 _ (fun f2 l2 q2 hI2 => ?_))
  refine And.intro (fun _ => ?_) (fun e => absurd rfl e)
  exact ht f2 l2 q2 hI2
set_option maxRecDepth 100000 in
theorem case_worn (hN : xs.length ≤ 3072) (hi : i + 6 ≤ xs.length) (hI : Inv f l q) (ht : ∀ f l q, Inv f l q → ba_go (some xs) ix_L_law 1294 [some (.ref 0), some (.ref 1), some (.ref 43), some (.int (nI i))] [] (wW f l q) 66 860 P) : ba_go (some xs) ix_L_law 642 [some (.ref 0), some (.ref 1), some (.ref 43), some (.int (nI i))] [] (wW f l q) 66 860 P := by
  refine run_L_law 35 ?_
  refine Exists.intro _ (And.intro (sc_at (k := 1) (nI_add i 1) hN (by omega) _) ?_)
  refine Exists.intro _ (And.intro (sc_at (k := 2) (nI_add i 2) hN (by omega) _) ?_)
  refine Exists.intro _ (And.intro (sc_at (k := 3) (nI_add i 3) hN (by omega) _) ?_)
  refine And.intro rfl (both_worn hI _ (fun v f1 l1 q1 h2 => ?_))
  refine Exists.intro _ (And.intro (sc_at (k := 1) (nI_add i 1) hN (by omega) _) ?_)
  refine Exists.intro _ (And.intro (sc_at (k := 2) (nI_add i 2) hN (by omega) _) ?_)
  refine Exists.intro _ (And.intro (sc_at (k := 3) (nI_add i 3) hN (by omega) _) ?_)
  refine And.intro rfl (h2 _ (fun f2 l2 q2 hI2 => ?_))
  refine And.intro (fun _ => ?_) (fun e => absurd rfl e)
  exact ht f2 l2 q2 hI2
set_option maxRecDepth 100000 in
theorem case_raid (hN : xs.length ≤ 3072) (hi : i + 6 ≤ xs.length) (hI : Inv f l q) (ht : ∀ f l q, Inv f l q → ba_go (some xs) ix_L_law 1294 [some (.ref 0), some (.ref 1), some (.ref 43), some (.int (nI i))] [] (wW f l q) 66 860 P) : ba_go (some xs) ix_L_law 685 [some (.ref 0), some (.ref 1), some (.ref 43), some (.int (nI i))] [] (wW f l q) 66 860 P := by
  refine run_L_law 35 ?_
  refine Exists.intro _ (And.intro (sc_at (k := 1) (nI_add i 1) hN (by omega) _) ?_)
  refine Exists.intro _ (And.intro (sc_at (k := 2) (nI_add i 2) hN (by omega) _) ?_)
  refine Exists.intro _ (And.intro (sc_at (k := 3) (nI_add i 3) hN (by omega) _) ?_)
  refine And.intro rfl (both_raid hI _ (fun v f1 l1 q1 h2 => ?_))
  refine Exists.intro _ (And.intro (sc_at (k := 1) (nI_add i 1) hN (by omega) _) ?_)
  refine Exists.intro _ (And.intro (sc_at (k := 2) (nI_add i 2) hN (by omega) _) ?_)
  refine Exists.intro _ (And.intro (sc_at (k := 3) (nI_add i 3) hN (by omega) _) ?_)
  refine And.intro rfl (h2 _ (fun f2 l2 q2 hI2 => ?_))
  refine And.intro (fun _ => ?_) (fun e => absurd rfl e)
  exact ht f2 l2 q2 hI2
set_option maxRecDepth 100000 in
theorem case_peace (hN : xs.length ≤ 3072) (hi : i + 6 ≤ xs.length) (hI : Inv f l q) (ht : ∀ f l q, Inv f l q → ba_go (some xs) ix_L_law 1294 [some (.ref 0), some (.ref 1), some (.ref 43), some (.int (nI i))] [] (wW f l q) 66 860 P) : ba_go (some xs) ix_L_law 728 [some (.ref 0), some (.ref 1), some (.ref 43), some (.int (nI i))] [] (wW f l q) 66 860 P := by
  refine run_L_law 15 ?_
  refine Exists.intro _ (And.intro (sc_at (k := 1) (nI_add i 1) hN (by omega) _) ?_)
  refine And.intro rfl (both_peace hI _ (fun v f1 l1 q1 h2 => ?_))
  refine Exists.intro _ (And.intro (sc_at (k := 1) (nI_add i 1) hN (by omega) _) ?_)
  refine And.intro rfl (h2 _ (fun f2 l2 q2 hI2 => ?_))
  refine And.intro (fun _ => ?_) (fun e => absurd rfl e)
  exact ht f2 l2 q2 hI2
set_option maxRecDepth 100000 in
theorem case_reading (hN : xs.length ≤ 3072) (hi : i + 6 ≤ xs.length) (hI : Inv f l q) (ht : ∀ f l q, Inv f l q → ba_go (some xs) ix_L_law 1294 [some (.ref 0), some (.ref 1), some (.ref 43), some (.int (nI i))] [] (wW f l q) 66 860 P) : ba_go (some xs) ix_L_law 751 [some (.ref 0), some (.ref 1), some (.ref 43), some (.int (nI i))] [] (wW f l q) 66 860 P := by
  refine run_L_law 25 ?_
  refine Exists.intro _ (And.intro (sc_at (k := 1) (nI_add i 1) hN (by omega) _) ?_)
  refine Exists.intro _ (And.intro (sc_at (k := 2) (nI_add i 2) hN (by omega) _) ?_)
  refine And.intro rfl (both_reading hI _ (fun v f1 l1 q1 h2 => ?_))
  refine Exists.intro _ (And.intro (sc_at (k := 1) (nI_add i 1) hN (by omega) _) ?_)
  refine Exists.intro _ (And.intro (sc_at (k := 2) (nI_add i 2) hN (by omega) _) ?_)
  refine And.intro rfl (h2 _ (fun f2 l2 q2 hI2 => ?_))
  refine And.intro (fun _ => ?_) (fun e => absurd rfl e)
  exact ht f2 l2 q2 hI2
set_option maxRecDepth 100000 in
theorem case_back (hN : xs.length ≤ 3072) (hi : i + 6 ≤ xs.length) (hI : Inv f l q) (ht : ∀ f l q, Inv f l q → ba_go (some xs) ix_L_law 1294 [some (.ref 0), some (.ref 1), some (.ref 43), some (.int (nI i))] [] (wW f l q) 66 860 P) : ba_go (some xs) ix_L_law 784 [some (.ref 0), some (.ref 1), some (.ref 43), some (.int (nI i))] [] (wW f l q) 66 860 P := by
  refine run_L_law 15 ?_
  refine Exists.intro _ (And.intro (sc_at (k := 1) (nI_add i 1) hN (by omega) _) ?_)
  refine And.intro rfl (both_back hI _ (fun v f1 l1 q1 h2 => ?_))
  refine Exists.intro _ (And.intro (sc_at (k := 1) (nI_add i 1) hN (by omega) _) ?_)
  refine And.intro rfl (h2 _ (fun f2 l2 q2 hI2 => ?_))
  refine And.intro (fun _ => ?_) (fun e => absurd rfl e)
  exact ht f2 l2 q2 hI2
set_option maxRecDepth 100000 in
theorem case_necks (hN : xs.length ≤ 3072) (hi : i + 6 ≤ xs.length) (hI : Inv f l q) (ht : ∀ f l q, Inv f l q → ba_go (some xs) ix_L_law 1294 [some (.ref 0), some (.ref 1), some (.ref 43), some (.int (nI i))] [] (wW f l q) 66 860 P) : ba_go (some xs) ix_L_law 807 [some (.ref 0), some (.ref 1), some (.ref 43), some (.int (nI i))] [] (wW f l q) 66 860 P := by
  refine run_L_law 15 ?_
  refine Exists.intro _ (And.intro (sc_at (k := 1) (nI_add i 1) hN (by omega) _) ?_)
  refine And.intro rfl (both_necks hI _ (fun v f1 l1 q1 h2 => ?_))
  refine Exists.intro _ (And.intro (sc_at (k := 1) (nI_add i 1) hN (by omega) _) ?_)
  refine And.intro rfl (h2 _ (fun f2 l2 q2 hI2 => ?_))
  refine And.intro (fun _ => ?_) (fun e => absurd rfl e)
  exact ht f2 l2 q2 hI2
set_option maxRecDepth 100000 in
theorem case_kinds (hN : xs.length ≤ 3072) (hi : i + 6 ≤ xs.length) (hI : Inv f l q) (ht : ∀ f l q, Inv f l q → ba_go (some xs) ix_L_law 1294 [some (.ref 0), some (.ref 1), some (.ref 43), some (.int (nI i))] [] (wW f l q) 66 860 P) : ba_go (some xs) ix_L_law 830 [some (.ref 0), some (.ref 1), some (.ref 43), some (.int (nI i))] [] (wW f l q) 66 860 P := by
  refine run_L_law 15 ?_
  refine Exists.intro _ (And.intro (sc_at (k := 1) (nI_add i 1) hN (by omega) _) ?_)
  refine And.intro rfl (both_kinds hI _ (fun v f1 l1 q1 h2 => ?_))
  refine Exists.intro _ (And.intro (sc_at (k := 1) (nI_add i 1) hN (by omega) _) ?_)
  refine And.intro rfl (h2 _ (fun f2 l2 q2 hI2 => ?_))
  refine And.intro (fun _ => ?_) (fun e => absurd rfl e)
  exact ht f2 l2 q2 hI2
set_option maxRecDepth 100000 in
theorem case_fits (hN : xs.length ≤ 3072) (hi : i + 6 ≤ xs.length) (hI : Inv f l q) (ht : ∀ f l q, Inv f l q → ba_go (some xs) ix_L_law 1294 [some (.ref 0), some (.ref 1), some (.ref 43), some (.int (nI i))] [] (wW f l q) 66 860 P) : ba_go (some xs) ix_L_law 853 [some (.ref 0), some (.ref 1), some (.ref 43), some (.int (nI i))] [] (wW f l q) 66 860 P := by
  refine run_L_law 45 ?_
  refine Exists.intro _ (And.intro (sc_at (k := 1) (nI_add i 1) hN (by omega) _) ?_)
  refine Exists.intro _ (And.intro (sc_at (k := 2) (nI_add i 2) hN (by omega) _) ?_)
  refine Exists.intro _ (And.intro (sc_at (k := 3) (nI_add i 3) hN (by omega) _) ?_)
  refine Exists.intro _ (And.intro (sc_at (k := 4) (nI_add i 4) hN (by omega) _) ?_)
  refine And.intro rfl (both_fits hI _ (fun v f1 l1 q1 h2 => ?_))
  refine Exists.intro _ (And.intro (sc_at (k := 1) (nI_add i 1) hN (by omega) _) ?_)
  refine Exists.intro _ (And.intro (sc_at (k := 2) (nI_add i 2) hN (by omega) _) ?_)
  refine Exists.intro _ (And.intro (sc_at (k := 3) (nI_add i 3) hN (by omega) _) ?_)
  refine Exists.intro _ (And.intro (sc_at (k := 4) (nI_add i 4) hN (by omega) _) ?_)
  refine And.intro rfl (h2 _ (fun f2 l2 q2 hI2 => ?_))
  refine And.intro (fun _ => ?_) (fun e => absurd rfl e)
  exact ht f2 l2 q2 hI2
set_option maxRecDepth 100000 in
theorem case_odds (hN : xs.length ≤ 3072) (hi : i + 6 ≤ xs.length) (hI : Inv f l q) (ht : ∀ f l q, Inv f l q → ba_go (some xs) ix_L_law 1294 [some (.ref 0), some (.ref 1), some (.ref 43), some (.int (nI i))] [] (wW f l q) 66 860 P) : ba_go (some xs) ix_L_law 906 [some (.ref 0), some (.ref 1), some (.ref 43), some (.int (nI i))] [] (wW f l q) 66 860 P := by
  refine run_L_law 36 ?_
  refine Exists.intro _ (And.intro (sc_at (k := 1) (nI_add i 1) hN (by omega) _) ?_)
  refine Exists.intro _ (And.intro (sc_at (k := 2) (nI_add i 2) hN (by omega) _) ?_)
  refine Exists.intro _ (And.intro (sc_at (k := 3) (nI_add i 3) hN (by omega) _) ?_)
  refine And.intro rfl (both_odds hI _ (fun v f1 l1 q1 h2 => ?_))
  refine Exists.intro _ (And.intro (sc_at (k := 1) (nI_add i 1) hN (by omega) _) ?_)
  refine Exists.intro _ (And.intro (sc_at (k := 2) (nI_add i 2) hN (by omega) _) ?_)
  refine Exists.intro _ (And.intro (sc_at (k := 3) (nI_add i 3) hN (by omega) _) ?_)
  refine And.intro rfl (h2 _ (fun f2 l2 q2 hI2 => ?_))
  refine And.intro (fun _ => ?_) (fun e => absurd ((lg_cmp_eq v v).mpr rfl) e)
  exact ht f2 l2 q2 hI2
set_option maxRecDepth 100000 in
theorem case_sheet (hN : xs.length ≤ 3072) (hi : i + 6 ≤ xs.length) (hI : Inv f l q) (ht : ∀ f l q, Inv f l q → ba_go (some xs) ix_L_law 1294 [some (.ref 0), some (.ref 1), some (.ref 43), some (.int (nI i))] [] (wW f l q) 66 860 P) : ba_go (some xs) ix_L_law 950 [some (.ref 0), some (.ref 1), some (.ref 43), some (.int (nI i))] [] (wW f l q) 66 860 P := by
  refine run_L_law 35 ?_
  refine Exists.intro _ (And.intro (sc_at (k := 1) (nI_add i 1) hN (by omega) _) ?_)
  refine Exists.intro _ (And.intro (sc_at (k := 2) (nI_add i 2) hN (by omega) _) ?_)
  refine Exists.intro _ (And.intro (sc_at (k := 3) (nI_add i 3) hN (by omega) _) ?_)
  refine And.intro rfl (both_sheet hI _ (fun v f1 l1 q1 h2 => ?_))
  refine Exists.intro _ (And.intro (sc_at (k := 1) (nI_add i 1) hN (by omega) _) ?_)
  refine Exists.intro _ (And.intro (sc_at (k := 2) (nI_add i 2) hN (by omega) _) ?_)
  refine Exists.intro _ (And.intro (sc_at (k := 3) (nI_add i 3) hN (by omega) _) ?_)
  refine And.intro rfl (h2 _ (fun f2 l2 q2 hI2 => ?_))
  refine And.intro (fun _ => ?_) (fun e => absurd rfl e)
  exact ht f2 l2 q2 hI2
set_option maxRecDepth 100000 in
theorem case_lose (hN : xs.length ≤ 3072) (hi : i + 6 ≤ xs.length) (hI : Inv f l q) (ht : ∀ f l q, Inv f l q → ba_go (some xs) ix_L_law 1294 [some (.ref 0), some (.ref 1), some (.ref 43), some (.int (nI i))] [] (wW f l q) 66 860 P) : ba_go (some xs) ix_L_law 993 [some (.ref 0), some (.ref 1), some (.ref 43), some (.int (nI i))] [] (wW f l q) 66 860 P := by
  refine run_L_law 15 ?_
  refine Exists.intro _ (And.intro (sc_at (k := 1) (nI_add i 1) hN (by omega) _) ?_)
  refine And.intro rfl (both_lose hI _ (fun v f1 l1 q1 h2 => ?_))
  refine Exists.intro _ (And.intro (sc_at (k := 1) (nI_add i 1) hN (by omega) _) ?_)
  refine And.intro rfl (h2 _ (fun f2 l2 q2 hI2 => ?_))
  refine And.intro (fun _ => ?_) (fun e => absurd rfl e)
  exact ht f2 l2 q2 hI2
set_option maxRecDepth 100000 in
theorem case_put (hN : xs.length ≤ 3072) (hi : i + 6 ≤ xs.length) (hI : Inv f l q) (ht : ∀ f l q, Inv f l q → ba_go (some xs) ix_L_law 1294 [some (.ref 0), some (.ref 1), some (.ref 43), some (.int (nI i))] [] (wW f l q) 66 860 P) : ba_go (some xs) ix_L_law 1016 [some (.ref 0), some (.ref 1), some (.ref 43), some (.int (nI i))] [] (wW f l q) 66 860 P := by
  refine run_L_law 35 ?_
  refine Exists.intro _ (And.intro (sc_at (k := 1) (nI_add i 1) hN (by omega) _) ?_)
  refine Exists.intro _ (And.intro (sc_at (k := 2) (nI_add i 2) hN (by omega) _) ?_)
  refine Exists.intro _ (And.intro (sc_at (k := 3) (nI_add i 3) hN (by omega) _) ?_)
  refine And.intro rfl (both_put hI _ (fun v f1 l1 q1 h2 => ?_))
  refine Exists.intro _ (And.intro (sc_at (k := 1) (nI_add i 1) hN (by omega) _) ?_)
  refine Exists.intro _ (And.intro (sc_at (k := 2) (nI_add i 2) hN (by omega) _) ?_)
  refine Exists.intro _ (And.intro (sc_at (k := 3) (nI_add i 3) hN (by omega) _) ?_)
  refine And.intro rfl (h2 _ (fun f2 l2 q2 hI2 => ?_))
  refine And.intro (fun _ => ?_) (fun e => absurd rfl e)
  exact ht f2 l2 q2 hI2
set_option maxRecDepth 100000 in
theorem case_cell (hN : xs.length ≤ 3072) (hi : i + 6 ≤ xs.length) (hI : Inv f l q) (ht : ∀ f l q, Inv f l q → ba_go (some xs) ix_L_law 1294 [some (.ref 0), some (.ref 1), some (.ref 43), some (.int (nI i))] [] (wW f l q) 66 860 P) : ba_go (some xs) ix_L_law 1059 [some (.ref 0), some (.ref 1), some (.ref 43), some (.int (nI i))] [] (wW f l q) 66 860 P := by
  refine run_L_law 36 ?_
  refine Exists.intro _ (And.intro (sc_at (k := 1) (nI_add i 1) hN (by omega) _) ?_)
  refine Exists.intro _ (And.intro (sc_at (k := 2) (nI_add i 2) hN (by omega) _) ?_)
  refine Exists.intro _ (And.intro (sc_at (k := 3) (nI_add i 3) hN (by omega) _) ?_)
  refine And.intro rfl (both_cell hI _ (fun v f1 l1 q1 h2 => ?_))
  refine Exists.intro _ (And.intro (sc_at (k := 1) (nI_add i 1) hN (by omega) _) ?_)
  refine Exists.intro _ (And.intro (sc_at (k := 2) (nI_add i 2) hN (by omega) _) ?_)
  refine Exists.intro _ (And.intro (sc_at (k := 3) (nI_add i 3) hN (by omega) _) ?_)
  refine And.intro rfl (h2 _ (fun f2 l2 q2 hI2 => ?_))
  refine And.intro (fun _ => ?_) (fun e => absurd ((lg_cmp_eq v v).mpr rfl) e)
  exact ht f2 l2 q2 hI2
set_option maxRecDepth 100000 in
theorem case_copy (hN : xs.length ≤ 3072) (hi : i + 6 ≤ xs.length) (hI : Inv f l q) (ht : ∀ f l q, Inv f l q → ba_go (some xs) ix_L_law 1294 [some (.ref 0), some (.ref 1), some (.ref 43), some (.int (nI i))] [] (wW f l q) 66 860 P) : ba_go (some xs) ix_L_law 1103 [some (.ref 0), some (.ref 1), some (.ref 43), some (.int (nI i))] [] (wW f l q) 66 860 P := by
  refine run_L_law 55 ?_
  refine Exists.intro _ (And.intro (sc_at (k := 1) (nI_add i 1) hN (by omega) _) ?_)
  refine Exists.intro _ (And.intro (sc_at (k := 2) (nI_add i 2) hN (by omega) _) ?_)
  refine Exists.intro _ (And.intro (sc_at (k := 3) (nI_add i 3) hN (by omega) _) ?_)
  refine Exists.intro _ (And.intro (sc_at (k := 4) (nI_add i 4) hN (by omega) _) ?_)
  refine Exists.intro _ (And.intro (sc_at (k := 5) (nI_add i 5) hN (by omega) _) ?_)
  refine And.intro rfl (both_copy hI _ (fun v f1 l1 q1 h2 => ?_))
  refine Exists.intro _ (And.intro (sc_at (k := 1) (nI_add i 1) hN (by omega) _) ?_)
  refine Exists.intro _ (And.intro (sc_at (k := 2) (nI_add i 2) hN (by omega) _) ?_)
  refine Exists.intro _ (And.intro (sc_at (k := 3) (nI_add i 3) hN (by omega) _) ?_)
  refine Exists.intro _ (And.intro (sc_at (k := 4) (nI_add i 4) hN (by omega) _) ?_)
  refine Exists.intro _ (And.intro (sc_at (k := 5) (nI_add i 5) hN (by omega) _) ?_)
  refine And.intro rfl (h2 _ (fun f2 l2 q2 hI2 => ?_))
  refine And.intro (fun _ => ?_) (fun e => absurd rfl e)
  exact ht f2 l2 q2 hI2
set_option maxRecDepth 100000 in
theorem case_tell (hN : xs.length ≤ 3072) (hi : i + 6 ≤ xs.length) (hI : Inv f l q) (ht : ∀ f l q, Inv f l q → ba_go (some xs) ix_L_law 1294 [some (.ref 0), some (.ref 1), some (.ref 43), some (.int (nI i))] [] (wW f l q) 66 860 P) : ba_go (some xs) ix_L_law 1166 [some (.ref 0), some (.ref 1), some (.ref 43), some (.int (nI i))] [] (wW f l q) 66 860 P := by
  refine run_L_law 15 ?_
  refine Exists.intro _ (And.intro (sc_at (k := 1) (nI_add i 1) hN (by omega) _) ?_)
  refine And.intro rfl (both_tell hI _ (fun v f1 l1 q1 h2 => ?_))
  refine Exists.intro _ (And.intro (sc_at (k := 1) (nI_add i 1) hN (by omega) _) ?_)
  refine And.intro rfl (h2 _ (fun f2 l2 q2 hI2 => ?_))
  refine And.intro (fun _ => ?_) (fun e => absurd rfl e)
  exact ht f2 l2 q2 hI2
set_option maxRecDepth 100000 in
theorem case_salute (hN : xs.length ≤ 3072) (hi : i + 6 ≤ xs.length) (hI : Inv f l q) (ht : ∀ f l q, Inv f l q → ba_go (some xs) ix_L_law 1294 [some (.ref 0), some (.ref 1), some (.ref 43), some (.int (nI i))] [] (wW f l q) 66 860 P) : ba_go (some xs) ix_L_law 1189 [some (.ref 0), some (.ref 1), some (.ref 43), some (.int (nI i))] [] (wW f l q) 66 860 P := by
  refine run_L_law 15 ?_
  refine Exists.intro _ (And.intro (sc_at (k := 1) (nI_add i 1) hN (by omega) _) ?_)
  refine And.intro rfl (both_salute hI _ (fun v f1 l1 q1 h2 => ?_))
  refine Exists.intro _ (And.intro (sc_at (k := 1) (nI_add i 1) hN (by omega) _) ?_)
  refine And.intro rfl (h2 _ (fun f2 l2 q2 hI2 => ?_))
  refine And.intro (fun _ => ?_) (fun e => absurd rfl e)
  exact ht f2 l2 q2 hI2
set_option maxRecDepth 100000 in
theorem case_as (hN : xs.length ≤ 3072) (hi : i + 6 ≤ xs.length) (hI : Inv f l q) (ht : ∀ f l q, Inv f l q → ba_go (some xs) ix_L_law 1294 [some (.ref 0), some (.ref 1), some (.ref 43), some (.int (nI i))] [] (wW f l q) 66 860 P) : ba_go (some xs) ix_L_law 1212 [some (.ref 0), some (.ref 1), some (.ref 43), some (.int (nI i))] [] (wW f l q) 66 860 P := by
  refine run_L_law 25 ?_
  refine Exists.intro _ (And.intro (sc_at (k := 1) (nI_add i 1) hN (by omega) _) ?_)
  refine Exists.intro _ (And.intro (sc_at (k := 2) (nI_add i 2) hN (by omega) _) ?_)
  refine And.intro rfl (both_as hI _ (fun v f1 l1 q1 h2 => ?_))
  refine Exists.intro _ (And.intro (sc_at (k := 1) (nI_add i 1) hN (by omega) _) ?_)
  refine Exists.intro _ (And.intro (sc_at (k := 2) (nI_add i 2) hN (by omega) _) ?_)
  refine And.intro rfl (h2 _ (fun f2 l2 q2 hI2 => ?_))
  refine And.intro (fun _ => ?_) (fun e => absurd rfl e)
  exact ht f2 l2 q2 hI2
set_option maxRecDepth 100000 in
theorem case_trace (hN : xs.length ≤ 3072) (hi : i + 6 ≤ xs.length) (hI : Inv f l q) (ht : ∀ f l q, Inv f l q → ba_go (some xs) ix_L_law 1294 [some (.ref 0), some (.ref 1), some (.ref 43), some (.int (nI i))] [] (wW f l q) 66 860 P) : ba_go (some xs) ix_L_law 1245 [some (.ref 0), some (.ref 1), some (.ref 43), some (.int (nI i))] [] (wW f l q) 66 860 P := by
  refine run_L_law 5 ?_
  refine And.intro rfl (both_trace hI _ (fun v f1 l1 q1 h2 => ?_))
  refine And.intro rfl (h2 _ (fun f2 l2 q2 hI2 => ?_))
  refine And.intro (fun _ => ?_) (fun e => absurd rfl e)
  exact ht f2 l2 q2 hI2
set_option maxRecDepth 100000 in
theorem case_fault (hN : xs.length ≤ 3072) (hi : i + 6 ≤ xs.length) (hI : Inv f l q) (ht : ∀ f l q, Inv f l q → ba_go (some xs) ix_L_law 1294 [some (.ref 0), some (.ref 1), some (.ref 43), some (.int (nI i))] [] (wW f l q) 66 860 P) : ba_go (some xs) ix_L_law 1258 [some (.ref 0), some (.ref 1), some (.ref 43), some (.int (nI i))] [] (wW f l q) 66 860 P := by
  refine run_L_law 5 ?_
  refine And.intro rfl (both_fault hI _ (fun v f1 l1 q1 h2 => ?_))
  refine And.intro rfl (h2 _ (fun f2 l2 q2 hI2 => ?_))
  refine And.intro (fun _ => ?_) (fun e => absurd rfl e)
  exact ht f2 l2 q2 hI2
set_option maxRecDepth 100000 in
theorem case_many (hN : xs.length ≤ 3072) (hi : i + 6 ≤ xs.length) (hI : Inv f l q) (ht : ∀ f l q, Inv f l q → ba_go (some xs) ix_L_law 1294 [some (.ref 0), some (.ref 1), some (.ref 43), some (.int (nI i))] [] (wW f l q) 66 860 P) : ba_go (some xs) ix_L_law 1271 [some (.ref 0), some (.ref 1), some (.ref 43), some (.int (nI i))] [] (wW f l q) 66 860 P := by
  refine run_L_law 15 ?_
  refine Exists.intro _ (And.intro (sc_at (k := 1) (nI_add i 1) hN (by omega) _) ?_)
  refine And.intro rfl (both_many hI _ (fun v f1 l1 q1 h2 => ?_))
  refine Exists.intro _ (And.intro (sc_at (k := 1) (nI_add i 1) hN (by omega) _) ?_)
  refine And.intro rfl (h2 _ (fun f2 l2 q2 hI2 => ?_))
  refine And.intro (fun _ => ?_) (fun e => absurd rfl e)
  exact ht f2 l2 q2 hI2
end LC
