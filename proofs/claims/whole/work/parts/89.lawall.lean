/-! the law's loop -/
theorem and31 (v : Int32) : 0 ≤ (v &&& (Int8.ofInt 31).toInt32).toInt ∧ (v &&& (Int8.ofInt 31).toInt32).toInt ≤ 31 := by
  have h : (v &&& (Int8.ofInt 31).toInt32).toBitVec.toNat ≤ 31 := by
    rw [Int32.toBitVec_and, BitVec.toNat_and]
    exact Nat.le_trans Nat.and_le_right (by decide)
  have e : (v &&& (Int8.ofInt 31).toInt32).toInt = ((v &&& (Int8.ofInt 31).toInt32).toBitVec.toNat : Int) := BitVec.toInt_eq_toNat_of_lt (by omega)
  omega
set_option maxRecDepth 100000 in
theorem law_loop {xs : List Int32} (hN : xs.length ≤ 3072) : ∀ (m i : Nat) (x : Int32) (f : Nat → Nat → Int32) (l : Nat → List Int32) (q : Nat → List Int64), xs.length < i + 6 * m + 6 → i < 4000 → x = nI i → Inv f l q → ba_go (some xs) ix_L_law 18 [some (.ref 0), some (.ref 1), some (.ref 43), some (.int x)] [] (wW f l q) 66 860 (fun v _ => v = some (.int 1)) := by
  have e6 : (Int32.ofNat xs.length - (Int8.ofInt 6).toInt32).toInt = (xs.length : Int) - 6 := by
    have a : (Int32.ofNat xs.length).toInt = xs.length := nI_toInt (n := xs.length) (by omega)
    have b : ((Int8.ofInt 6).toInt32).toInt = 6 := by decide
    rw [fb_subI (by rw [a, b]; omega) (by rw [a, b]; omega), a, b]
  intro m
  induction m with
  | zero =>
    intro i x f l q h1 h2 h3 hI
    subst h3
    refine run_L_law 12 ?_
    refine Exists.intro _ (And.intro (rfl) ?_)
    refine And.intro (fun _ => ?_) (fun e => absurd (by show Int32.ofNat xs.length - (Int8.ofInt 6).toInt32 < nI i; rw [lt_i, e6, nI_toInt (by omega)]; omega) e)
    exact And.intro rfl rfl
  | succ m ih =>
    intro i x f l q h1 h2 h3 hI
    subst h3
    refine run_L_law 6 ?_
    refine Exists.intro _ (And.intro (rfl) ?_)
    refine And.intro (fun c => ?_) (fun c => ?_)
    · refine run_L_law 5 ?_
      exact And.intro rfl rfl
    · have c : ¬ Int32.ofNat xs.length - (Int8.ofInt 6).toInt32 < nI i := c
      rw [lt_i, e6, nI_toInt (by omega)] at c
      have hi : i + 6 ≤ xs.length := by omega
      have ht : ∀ f l q, Inv f l q → ba_go (some xs) ix_L_law 1294 [some (.ref 0), some (.ref 1), some (.ref 43), some (.int (nI i))] [] (wW f l q) 66 860 (fun v _ => v = some (.int 1)) := by
        intro f l q hI
        refine run_L_law 2 ?_
        exact ih (i + 6) _ f l q (by omega) (by omega) (nI_add i 6) hI
      have h31 := and31 (xs.getD (i + 0) 0)
      refine run_L_law 6 ?_
      refine Exists.intro _ (And.intro (sc_at (k := 0) rfl hN (by omega) _) ?_)
      refine And.intro (fun g => ?_) (ba_sw_mk _ _ (fun j t hj he => ?_))
      · have g : (xs.getD (i + 0) 0 &&& (Int8.ofInt 31).toInt32).toInt < 0 ∨ 31 < (xs.getD (i + 0) 0 &&& (Int8.ofInt 31).toInt32).toInt := g
        omega
      · have hj : [176, 229, 262, 295, 338, 371, 404, 437, 460, 493, 556, 599, 642, 685, 728, 751, 784, 807, 830, 853, 906, 950, 993, 1016, 1059, 1103, 1166, 1189, 1212, 1245, 1258, 1271][j]? = some t := hj
        match j, hj with
        | 0, hj => cases hj; exact case_war hN hi hI ht
        | 1, hj => cases hj; exact case_ofPerson hN hi hI ht
        | 2, hj => cases hj; exact case_rule hN hi hI ht
        | 3, hj => cases hj; exact case_decree hN hi hI ht
        | 4, hj => cases hj; exact case_starch hN hi hI ht
        | 5, hj => cases hj; exact case_ofOffice hN hi hI ht
        | 6, hj => cases hj; exact case_strike hN hi hI ht
        | 7, hj => cases hj; exact case_wash hN hi hI ht
        | 8, hj => cases hj; exact case_fetches hN hi hI ht
        | 9, hj => cases hj; exact case_night hN hi hI ht
        | 10, hj => cases hj; exact case_undoing hN hi hI ht
        | 11, hj => cases hj; exact case_ways hN hi hI ht
        | 12, hj => cases hj; exact case_worn hN hi hI ht
        | 13, hj => cases hj; exact case_raid hN hi hI ht
        | 14, hj => cases hj; exact case_peace hN hi hI ht
        | 15, hj => cases hj; exact case_reading hN hi hI ht
        | 16, hj => cases hj; exact case_back hN hi hI ht
        | 17, hj => cases hj; exact case_necks hN hi hI ht
        | 18, hj => cases hj; exact case_kinds hN hi hI ht
        | 19, hj => cases hj; exact case_fits hN hi hI ht
        | 20, hj => cases hj; exact case_odds hN hi hI ht
        | 21, hj => cases hj; exact case_sheet hN hi hI ht
        | 22, hj => cases hj; exact case_lose hN hi hI ht
        | 23, hj => cases hj; exact case_put hN hi hI ht
        | 24, hj => cases hj; exact case_cell hN hi hI ht
        | 25, hj => cases hj; exact case_copy hN hi hI ht
        | 26, hj => cases hj; exact case_tell hN hi hI ht
        | 27, hj => cases hj; exact case_salute hN hi hI ht
        | 28, hj => cases hj; exact case_as hN hi hI ht
        | 29, hj => cases hj; exact case_trace hN hi hI ht
        | 30, hj => cases hj; exact case_fault hN hi hI ht
        | 31, hj => cases hj; exact case_many hN hi hI ht
        | j + 32, hj => exact absurd (List.getElem?_eq_some_iff.mp hj).1 (by show ¬ j + 32 < 32; omega)
theorem law_all {scr : List Int32} (h : scr.length ≤ 3072) : ba_go (some scr) ix_L_law 0 [some (.ref 0), none, none, none] [] [] 0 0 (fun v _ => v = some (.int 1)) :=
  law_start (law_loop h 600 0 0 f0 l0 q0 (by omega) (by decide) rfl inv0)
