/-! necks, kinds (2) -/
section SK
variable {scr : Option (List Int32)} {P : ba_P} {w : ba_W} {f : Nat → Nat → Int32} {l : Nat → List Int32} {q : List (List Int32)}
def Tr (l : Nat → List Int32) : Nat → Int32 := fun x => tk ((l 45).getD x 0) ((l 48).getD x 0)
def Tn (f : Nat → Nat → Int32) (p v : Nat) : Nat → Int32 := fun x => if x = p then tk (f (9 + p) 0) (nI v) else tk (f (9 + x) 0) (f (9 + x) 3)
theorem s_necksOf {N p : Nat} (hN : N ≤ 8) (hc : f 29 3 = nI N) (hp : p < 6) (hn2 : (f 2 3).toInt ≤ 6) (h30 : (l 30).length = 8) (h31 : (l 31).length = 8) (hd : ∀ k, k < N → 0 ≤ ((l 30).getD k 0).toInt ∧ ((l 30).getD k 0).toInt < (f 2 3).toInt)
    (hP : ∀ F : Nat → Nat → Int32, (∀ x y, ¬ x = 32 → F x y = f x y) → P (some (.int (orS (fun v => sob (Tn f p v) (l 30) (l 31) N) 10))) (wW F l q)) : ba_go scr ix_X3_necksOf 0 [some (.ref 30), some (.ref 3), some (.int (nI p)), some (.ref (9 + p + 1)), none, none] [] (wW f l q) 0 0 P := by
  have loop : ∀ (m v : Nat) (s x : Int32) (F : Nat → Nat → Int32), (∀ x y, ¬ x = 32 → F x y = f x y) → F 32 0 = f (9 + p) 0 → v + m = 10 → x = nI v → s = orS (fun v => sob (Tn f p v) (l 30) (l 31) N) v → ba_go scr ix_X3_necksOf 14 [some (.ref 30), some (.ref 3), some (.int (nI p)), some (.ref (9 + p + 1)), some (.int s), some (.int x)] [] (wW F l q) 0 0 P := by
    intro m
    induction m with
    | zero =>
      intro v s x F hF hK e1 e2 e3
      subst e2; subst e3
      have h4 : v = 10 := by omega
      subst h4
      refine run_X3_necksOf 5 ?_
      refine And.intro (fun _ => ?_) (fun e => absurd (by decide) e)
      exact hP F hF
    | succ m ih =>
      intro v s x F hF hK e1 e2 e3
      subst e2; subst e3
      have hT : ∀ k, k < N → Tw (u2 F 32 3 (nI v)) p ((l 30).getD k 0).toNatClampNeg = Tn f p v ((l 30).getD k 0).toNatClampNeg := by
        intro k hk
        have h1 := hd k hk
        have h2 := ix_i h1.1
        generalize ((l 30).getD k 0).toNatClampNeg = x at *
        unfold Tw Tn
        by_cases h : x = p
        · rw [if_pos h, if_pos h]
          rw [u2_nj (by decide), u2_eq, hK]
        · rw [if_neg h, if_neg h, u2_ne (by omega), u2_ne (by omega), hF _ _ (by omega), hF _ _ (by omega)]
      have hg := sob_congr (B := l 31) hT
      refine run_X3_necksOf 13 ?_
      refine And.intro (fun e => absurd e (by show ¬ (9 : Int32) < nI v; rw [lt_i, nI_toInt (by omega), show (9 : Int32).toInt = 9 from rfl]; omega)) (fun _ => ?_)
      refine Exists.intro _ (And.intro (rfl) ?_)
      refine Exists.intro (wW (u2 F 32 3 (nI v)) l q) (And.intro rfl ?_)
      have hstep : orS (fun v => sob (Tn f p v) (l 30) (l 31) N) (v + 1) = (orS (fun v => sob (Tn f p v) (l 30) (l 31) N) v ||| (if sob (Tn f p v) (l 30) (l 31) N then (1 : Int32) <<< (nI v &&& 31) else 0)) := rfl
      refine And.intro rfl (s_areSo (f := u2 F 32 3 (nI v)) hN (by rw [u2_ne (by decide), hF _ _ (by decide)]; exact hc) hp (by rw [u2_ne (by decide), hF _ _ (by decide)]; exact hn2) h30 h31 (by rw [u2_ne (by decide), hF _ _ (by decide)]; exact hd) (fun g => ?_) (fun g => ?_))
      · rw [hg] at g
        rw [g] at hstep
        refine And.intro (fun e => absurd e (by decide)) (fun _ => ?_)
        refine run_X3_necksOf 8 ?_
        exact ih (v + 1) _ _ _ (fun x y hx => by rw [u2_ne hx, hF _ _ hx]) (by rw [u2_nj (by decide)]; exact hK) (by omega) (nI_1 v) hstep.symm
      · rw [hg] at g
        rw [g] at hstep
        refine And.intro (fun _ => ?_) (fun e => absurd rfl e)
        refine run_X3_necksOf 5 ?_
        exact ih (v + 1) _ _ _ (fun x y hx => by rw [u2_ne hx, hF _ _ hx]) (by rw [u2_nj (by decide)]; exact hK) (by omega) (nI_1 v) hstep.symm
  refine run_X3_necksOf 8 ?_
  refine Exists.intro _ (And.intro (rfl) ?_)
  refine And.intro rfl (s_becomes32 hp (fun F h1 h2 h3 => ?_))
  exact loop 10 0 0 0 F h1 h2 rfl rfl rfl
def Tk (f : Nat → Nat → Int32) (p v : Nat) : Nat → Int32 := fun x => if x = p then tk (nI v) (f (9 + p) 3) else tk (f (9 + x) 0) (f (9 + x) 3)
theorem s_kindsOf {N p : Nat} (hN : N ≤ 8) (hc : f 29 3 = nI N) (hp : p < 6) (hn2 : (f 2 3).toInt ≤ 6) (h30 : (l 30).length = 8) (h31 : (l 31).length = 8) (hd : ∀ k, k < N → 0 ≤ ((l 30).getD k 0).toInt ∧ ((l 30).getD k 0).toInt < (f 2 3).toInt)
    (hP : ∀ F : Nat → Nat → Int32, (∀ x y, ¬ x = 32 → F x y = f x y) → P (some (.int (orS (fun v => sob (Tk f p v) (l 30) (l 31) N) 3))) (wW F l q)) : ba_go scr ix_X3_kindsOf 0 [some (.ref 30), some (.ref 3), some (.int (nI p)), some (.ref (9 + p + 1)), none, none] [] (wW f l q) 0 0 P := by
  have loop : ∀ (m v : Nat) (s x : Int32) (F : Nat → Nat → Int32), (∀ x y, ¬ x = 32 → F x y = f x y) → F 32 3 = f (9 + p) 3 → v + m = 3 → x = nI v → s = orS (fun v => sob (Tk f p v) (l 30) (l 31) N) v → ba_go scr ix_X3_kindsOf 14 [some (.ref 30), some (.ref 3), some (.int (nI p)), some (.ref (9 + p + 1)), some (.int s), some (.int x)] [] (wW F l q) 0 0 P := by
    intro m
    induction m with
    | zero =>
      intro v s x F hF hK e1 e2 e3
      subst e2; subst e3
      have h4 : v = 3 := by omega
      subst h4
      refine run_X3_kindsOf 5 ?_
      refine And.intro (fun _ => ?_) (fun e => absurd (by decide) e)
      exact hP F hF
    | succ m ih =>
      intro v s x F hF hK e1 e2 e3
      subst e2; subst e3
      have hT : ∀ k, k < N → Tw (u2 F 32 0 (nI v)) p ((l 30).getD k 0).toNatClampNeg = Tk f p v ((l 30).getD k 0).toNatClampNeg := by
        intro k hk
        have h1 := hd k hk
        have h2 := ix_i h1.1
        generalize ((l 30).getD k 0).toNatClampNeg = x at *
        unfold Tw Tk
        by_cases h : x = p
        · rw [if_pos h, if_pos h]
          rw [u2_eq, u2_nj (by decide), hK]
        · rw [if_neg h, if_neg h, u2_ne (by omega), u2_ne (by omega), hF _ _ (by omega), hF _ _ (by omega)]
      have hg := sob_congr (B := l 31) hT
      refine run_X3_kindsOf 13 ?_
      refine And.intro (fun e => absurd e (by show ¬ (3 : Int32) ≤ nI v; rw [le_i, nI_toInt (by omega), show (3 : Int32).toInt = 3 from rfl]; omega)) (fun _ => ?_)
      refine Exists.intro _ (And.intro (rfl) ?_)
      refine Exists.intro (wW (u2 F 32 0 (nI v)) l q) (And.intro rfl ?_)
      have hstep : orS (fun v => sob (Tk f p v) (l 30) (l 31) N) (v + 1) = (orS (fun v => sob (Tk f p v) (l 30) (l 31) N) v ||| (if sob (Tk f p v) (l 30) (l 31) N then (1 : Int32) <<< (nI v &&& 31) else 0)) := rfl
      refine And.intro rfl (s_areSo (f := u2 F 32 0 (nI v)) hN (by rw [u2_ne (by decide), hF _ _ (by decide)]; exact hc) hp (by rw [u2_ne (by decide), hF _ _ (by decide)]; exact hn2) h30 h31 (by rw [u2_ne (by decide), hF _ _ (by decide)]; exact hd) (fun g => ?_) (fun g => ?_))
      · rw [hg] at g
        rw [g] at hstep
        refine And.intro (fun e => absurd e (by decide)) (fun _ => ?_)
        refine run_X3_kindsOf 8 ?_
        exact ih (v + 1) _ _ _ (fun x y hx => by rw [u2_ne hx, hF _ _ hx]) (by rw [u2_nj (by decide)]; exact hK) (by omega) (nI_1 v) hstep.symm
      · rw [hg] at g
        rw [g] at hstep
        refine And.intro (fun _ => ?_) (fun e => absurd rfl e)
        refine run_X3_kindsOf 5 ?_
        exact ih (v + 1) _ _ _ (fun x y hx => by rw [u2_ne hx, hF _ _ hx]) (by rw [u2_nj (by decide)]; exact hK) (by omega) (nI_1 v) hstep.symm
  refine run_X3_kindsOf 8 ?_
  refine Exists.intro _ (And.intro (rfl) ?_)
  refine And.intro rfl (s_becomes32 hp (fun F h1 h2 h3 => ?_))
  exact loop 3 0 0 0 F h1 h3 rfl rfl rfl
end SK
