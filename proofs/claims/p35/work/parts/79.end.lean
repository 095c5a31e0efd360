/-! the law: its end -/
section LH
variable {scr : Option (List Int32)} {P : ba_P} {w : ba_W} {f : Nat → Nat → Int32} {l : Nat → List Int32} {q : List (List Int32)}
variable {n c z : Nat}
abbrev LE (n : Nat) (x : Int32) : ba_L := [some (.ref 0), some (.ref 1), some (.ref 43), some (.int (nI n)), some (.int (nI (2 ^ n - 1))), some (.int x), none, none, none, none, none, none, none, none, none, none, none, none, none, none]
theorem und_no {a : Int32} {k D : Nat} (hk : a = nI k) (h1 : k < D) (h2 : D ≤ 3) (ha : a.toInt < 0 ∨ 3 ≤ a.toInt) : False := by
  rw [hk, nI_toInt (by omega)] at ha
  omega
theorem h_last {x : Int32} (hc : c ≤ 1000) (hz : z ≤ 20000) (hS : SS f l n) (h8 : f 29 3 = nI 8) (hP : ∀ w, P (some (.int 1)) w) : ba_go scr ix_L_law 1707 (LE n x) [] (wW f l q) c z P := by
  have hn6 := hS.n6
  have tn' : (nI n).toInt = n := nI_toInt (by omega)
  have i0 : (0 : Int32).toInt = 0 := rfl
  refine run_L8 4 ?_
  refine And.intro (cz0 hc hz) (c_reading_who hS.1 rfl ?_)
  refine run_L8 6 ?_
  refine And.intro (fun e2 => absurd rfl e2) (fun _ => ?_)
  refine And.intro (cz0 hc hz) (c_reading_out hS.1 (by decide) ?_)
  refine run_L8 6 ?_
  refine And.intro (fun e2 => absurd (by decide) e2) (fun _ => ?_)
  refine And.intro (cz0 hc hz) (c_reading_out hS.1 (by decide) ?_)
  refine run_L8 5 ?_
  refine And.intro (fun e2 => absurd (by decide) e2) (fun _ => ?_)
  refine And.intro (cz0 hc hz) (c_back (k := 8) rfl h8 (by decide) (by decide) (fun _ => ?_) (fun h => absurd h (by decide)))
  have hS1 := hS.f29 (v := nI (8 - 8))
  generalize u2 f 29 3 (nI (8 - 8)) = f1 at *
  refine run_L8 6 ?_
  refine And.intro (fun e2 => absurd rfl e2) (fun _ => ?_)
  refine And.intro (cz0 hc hz) (c_undoing_to hS1.1 (by decide) ?_)
  refine run_L8 7 ?_
  refine And.intro (fun e2 => absurd (by decide) e2) (fun _ => ?_)
  refine And.intro (cz0 hc hz) (c_undoing (A := 0) (B := 0) hS1.1 rfl rfl (by decide) (by decide) (fun _ => ?_) (fun h _ => absurd h (by decide)) (fun h _ => absurd h (by decide)) (fun k hk h1 h2 => (und_no hk h1 h2 (by decide)).elim))
  refine run_L8 7 ?_
  refine And.intro (fun e2 => absurd (by decide) e2) (fun _ => ?_)
  refine And.intro (cz0 hc hz) (c_undoing (A := 0) (B := 0) hS1.1 rfl rfl (by decide) (by decide) (fun _ => ?_) (fun h _ => absurd h (by decide)) (fun h _ => absurd h (by decide)) (fun k hk h1 h2 => (und_no hk h1 h2 (by decide)).elim))
  refine run_L8 7 ?_
  refine And.intro (fun e2 => absurd (by decide) e2) (fun _ => ?_)
  refine And.intro (cz0 hc hz) (c_ways_n hS1.1 (by decide) (by decide) ?_)
  refine run_L8 7 ?_
  refine And.intro (fun e2 => absurd (by decide) e2) (fun _ => ?_)
  refine And.intro (cz0 hc hz) (c_ways_n hS1.1 (by decide) (by decide) ?_)
  refine run_L8 7 ?_
  refine And.intro (fun e2 => absurd (by decide) e2) (fun _ => ?_)
  refine And.intro (cz0 hc hz) (c_worn_mark hS1.1 (by decide) ?_)
  refine run_L8 7 ?_
  refine And.intro (fun e2 => absurd (by decide) e2) (fun _ => ?_)
  refine And.intro (cz0 hc hz) (c_raid_out hS1.1 (by decide) ?_)
  refine run_L8 7 ?_
  refine And.intro (fun e2 => absurd (by decide) e2) (fun _ => ?_)
  refine And.intro (cz0 hc hz) (c_raid_out hS1.1 (by decide) ?_)
  refine run_L8 5 ?_
  refine And.intro (fun e2 => absurd (by decide) e2) (fun _ => ?_)
  refine And.intro (cz0 hc hz) (c_peace_out hS1.1 (by decide) ?_)
  refine run_L8 7 ?_
  refine And.intro (fun e2 => absurd (by decide) e2) (fun _ => ?_)
  refine And.intro (cz0 hc hz) (c_odds_out hS1.1 (fun h => absurd h.1.2 (by rw [tn']; omega)) ?_)
  refine run_L8 8 ?_
  refine And.intro (fun e2 => absurd (by decide) e2) (fun _ => ?_)
  refine And.intro (cz0 hc hz) (c_odds_out hS1.1 (fun h => absurd h.2.1 (by decide)) ?_)
  refine run_L8 8 ?_
  refine And.intro (fun e2 => absurd (by decide) e2) (fun _ => ?_)
  refine And.intro (cz0 hc hz) (c_odds_out hS1.1 (fun h => absurd h.2.2 (by decide)) ?_)
  refine run_L8 6 ?_
  refine And.intro (fun e2 => absurd (by decide) e2) (fun _ => ?_)
  exact And.intro rfl (hP _)
theorem h_full (hc : c ≤ 1000) (hz : z ≤ 20000) (hP : ∀ w, P (some (.int 1)) w) : ∀ (m r : Nat) (x : Int32) (f : Nat → Nat → Int32) (l : Nat → List Int32), r + m = 9 → x = nI r → SS f l n → f 29 3 = nI (min r 8) → ba_go scr ix_L_law 1663 (LE n x) [] (wW f l q) c z P := by
  intro m
  induction m with
  | zero =>
    intro r x f l hr hx hS h8
    subst hx
    have e4 : r = 9 := by omega
    subst e4
    refine run_L8 3 ?_
    refine And.intro (fun _ => ?_) (fun e2 => absurd (by decide) e2)
    exact h_last hc hz hS h8 hP
  | succ m ih =>
    intro r x f l hr hx hS h8
    subst hx
    have hn6 := hS.n6
    have er : nI r - nI r / nI n * nI n = nI (r % n) := nI_mod (by omega) (by omega)
    have hlt : r % n < n := Nat.mod_lt _ (by omega)
    have e2r : Int32.ofInt 2 * nI r = nI (2 * r) := nI_mul 2 r
    have l30 := hS.1.2.1.2.2.2.2.1
    have l31 := hS.1.2.1.2.2.2.2.2
    refine run_L8 11 ?_
    refine And.intro (fun e2 => absurd e2 (by show ¬ nI 9 ≤ nI r; rw [le_i, nI_toInt (by omega), nI_toInt (by omega)]; omega)) (fun _ => ?_)
    refine And.intro (fun e2 => ?_) ?_
    · have e2 : nI n = nI 0 := e2
      rw [nI_eq (by omega) (by decide)] at e2
      omega
    refine And.intro (cz0 hc hz) (c_reading (N := min r 8) hS.1 er hlt e2r (by omega) h8 (fun hlt8 => ?_) (fun h8' => ?_) (by omega))
    · have em : min r 8 = r := by omega
      rw [em] at hlt8 ⊢
      refine run_L8 3 ?_
      refine And.intro (fun d => ?_) (fun _ => ?_)
      · exfalso
        have d : nI 8 ≤ nI r := d
        rw [le_i, nI_toInt (by decide), nI_toInt (by omega)] at d
        omega
      refine run_L8 3 ?_
      refine And.intro (fun _ => ?_) (fun e2 => absurd rfl e2)
      refine run_L8 2 ?_
      refine ih (r + 1) _ _ _ (by omega) (nI_1 r) (hS.keep (fun x y hx => u2_ne (by omega)) rfl rfl rfl hS.1.2.1.2.2.1 hS.1.2.1.2.2.2.1 ?_ ?_) ?_
      · show ((l 30).set _ _).length = 8
        rw [List.length_set]; exact l30
      · show ((l 31).set _ _).length = 8
        rw [List.length_set]; exact l31
      · rw [show min (r + 1) 8 = r + 1 by omega]
        exact u2_eq
    · have em : r = 8 := by omega
      subst em
      refine run_L8 3 ?_
      refine And.intro (fun _ => ?_) (fun e2 => absurd (by decide) e2)
      refine run_L8 2 ?_
      refine And.intro (fun _ => ?_) (fun e2 => absurd (by decide) e2)
      refine run_L8 2 ?_
      exact ih 9 _ f l (by omega) (nI_1 8) hS (by rw [show min 9 8 = min 8 8 by decide]; exact h8)
end LH
