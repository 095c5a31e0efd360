/-! fits -/
def fbd (g : Nat → Nat → Nat) (d : Nat → Nat) (s : Nat) : Nat → Bool
  | 0 => true
  | m + 1 => fbd g d s m && decide (g s (d m) = d (m + 1))
theorem orS3 (g : Nat → Bool) : orS g 3 = B6 (fun s => decide (s < 3) && g s) := by
  show ((0 ||| (if g 0 then (1 : Int32) <<< (nI 0 &&& 31) else 0)) ||| (if g 1 then (1 : Int32) <<< (nI 1 &&& 31) else 0)) ||| (if g 2 then (1 : Int32) <<< (nI 2 &&& 31) else 0) = b6 (decide (0 < 3) && g 0) (decide (1 < 3) && g 1) (decide (2 < 3) && g 2) (decide (3 < 3) && g 3) (decide (4 < 3) && g 4) (decide (5 < 3) && g 5)
  cases g 0 <;> cases g 1 <;> cases g 2 <;> cases g 3 <;> cases g 4 <;> cases g 5 <;> decide +kernel
theorem B6_7 (g : Nat → Bool) : B6 g &&& 7 = B6 (fun x => g x && decide (x < 3)) := (by decide +kernel : ∀ a b c d e h : Bool, b6 a b c d e h &&& 7 = b6 (a && true) (b && true) (c && true) (d && false) (e && false) (h && false)) (g 0) (g 1) (g 2) (g 3) (g 4) (g 5)
section FT
variable {scr : Option (List Int32)} {P : ba_P} {w : ba_W} {f : Nat → Nat → Int32} {l : Nat → List Int32} {q : Nat → List Int64}
theorem s_atn {k t : Nat} {x : Int32} (hk : k < 4) (hl : (l (34 + 2 * k + 1)).length = 60) (hx : x = nI t) (ht : t < 60) (hP : P (some (.int ((l (34 + 2 * k + 1)).getD t 0))) (wW f l q)) : ba_go scr ix_X5_at 0 [some (.ref (34 + 2 * k + 1)), some (.int x)] [] (wW f l q) 0 0 P := by
  subst hx
  refine s_at hk hl (by rw [nI_toInt (by omega)]; omega) (by rw [nI_toInt (by omega)]; omega) ?_
  rw [nI_clamp (by omega)]
  exact hP
theorem s_fitting {K I N : Nat} (hk : K < 4) (hC : (l (34 + 2 * K + 1)).length = 60) (hIN : I + N ≤ 60) (h5 : (l 5).length = 12) (hr : rv (l 5)) {d : Nat → Nat} (hd : ∀ j, j < N → d j < 4 ∧ (l (34 + 2 * K + 1)).getD (I + j) 0 = nI (d j))
    (hP : P (some (.int (orS (fun s => fbd (gs (l 5)) d s (N - 1)) 3))) (wW f l q)) : ba_go scr ix_X8_fittingStamps 0 [some (.ref 1), some (.ref (34 + 2 * K + 1)), some (.int (nI I)), some (.int (nI N)), none, none, none, none] [] (wW f l q) 0 0 P := by
  have isC : ba_isC (wW f l q) (34 + 2 * K + 1) 5 = true := isC_of (sh_fld hk).2.2.2.2
  have e1 : (1 : Int32).toInt = 1 := rfl
  have eIN : (nI I + nI N - 1).toInt = (I : Int) + N - 1 := by
    rw [nI_add, fb_subI (by rw [nI_toInt (by omega), e1]; omega) (by rw [nI_toInt (by omega), e1]; omega), nI_toInt (by omega), e1]
    omega
  have outer : ∀ (m s : Nat) (st x : Int32) (z1 z2 : Option Value), s + m = 3 → x = nI s → st = orS (fun s => fbd (gs (l 5)) d s (N - 1)) s → ba_go scr ix_X8_fittingStamps 6 [some (.ref 1), some (.ref (34 + 2 * K + 1)), some (.int (nI I)), some (.int (nI N)), some (.int st), some (.int x), z1, z2] [] (wW f l q) 0 0 P := by
    intro m
    induction m with
    | zero =>
      intro s st x z1 z2 h1 h2 h3
      subst h2; subst h3
      have h4 : s = 3 := by omega
      subst h4
      refine run_X8_fittingStamps 5 ?_
      refine And.intro (fun _ => ?_) (fun e => absurd (by decide) e)
      exact hP
    | succ m ih =>
      intro s st x z1 z2 h1 h2 h3
      subst h2; subst h3
      have hstep : orS (fun s => fbd (gs (l 5)) d s (N - 1)) (s + 1) = (orS (fun s => fbd (gs (l 5)) d s (N - 1)) s ||| (if fbd (gs (l 5)) d s (N - 1) then (1 : Int32) <<< (nI s &&& 31) else 0)) := rfl
      have inner : ∀ (m' j : Nat) (b y : Int32), (j + m' = N - 1) → b = (if fbd (gs (l 5)) d s j then 1 else 0) → y = nI (I + j) → ba_go scr ix_X8_fittingStamps 18 [some (.ref 1), some (.ref (34 + 2 * K + 1)), some (.int (nI I)), some (.int (nI N)), some (.int (orS (fun s => fbd (gs (l 5)) d s (N - 1)) s)), some (.int (nI s)), some (.int b), some (.int y)] [] (wW f l q) 0 0 P := by
        intro m'
        induction m' with
        | zero =>
          intro j b y g1 g2 g3
          subst g2; subst g3
          have h4 : j = N - 1 := by omega
          subst h4
          refine run_X8_fittingStamps 7 ?_
          refine And.intro (fun _ => ?_) (fun e => absurd (by show nI I + nI N - 1 ≤ nI (I + (N - 1)); rw [le_i, eIN, nI_toInt (by omega)]; omega) e)
          refine run_X8_fittingStamps 2 ?_
          cases hb : fbd (gs (l 5)) d s (N - 1) with
          | true =>
            rw [hb] at hstep
            refine And.intro (fun e => absurd e (by decide)) (fun _ => ?_)
            refine run_X8_fittingStamps 8 ?_
            exact ih (s + 1) _ _ _ _ (by omega) (nI_1 s) hstep.symm
          | false =>
            rw [hb] at hstep
            refine And.intro (fun _ => ?_) (fun e => absurd rfl e)
            refine run_X8_fittingStamps 2 ?_
            exact ih (s + 1) _ _ _ _ (by omega) (nI_1 s) (hstep.trans Int32.or_zero).symm
        | succ m' ih' =>
          intro j b y g1 g2 g3
          subst g2; subst g3
          have es : fbd (gs (l 5)) d s (j + 1) = (fbd (gs (l 5)) d s j && decide (gs (l 5) s (d j) = d (j + 1))) := rfl
          have no : ∀ z, fbd (gs (l 5)) d s (j + 1) = false → ba_go scr ix_X8_fittingStamps 66 [some (.ref 1), some (.ref (34 + 2 * K + 1)), some (.int (nI I)), some (.int (nI N)), some (.int (orS (fun s => fbd (gs (l 5)) d s (N - 1)) s)), some (.int (nI s)), some (.int z), some (.int (nI (I + j)))] [] (wW f l q) 0 0 P := by
            intro z h
            refine run_X8_fittingStamps 4 ?_
            exact ih' (j + 1) _ _ (by omega) (by rw [h]; rfl) (nI_1 (I + j))
          refine run_X8_fittingStamps 9 ?_
          refine And.intro (fun e => absurd e (by show ¬ nI I + nI N - 1 ≤ nI (I + j); rw [le_i, eIN, nI_toInt (by omega)]; omega)) (fun _ => ?_)
          cases hb : fbd (gs (l 5)) d s j with
          | false =>
            refine And.intro (fun _ => ?_) (fun e => absurd rfl e)
            exact no 0 (by rw [es, hb]; rfl)
          | true =>
            refine And.intro (fun e => absurd e (by decide)) (fun _ => ?_)
            obtain ⟨d1, d2⟩ := hd j (by omega)
            obtain ⟨d3, d4⟩ := hd (j + 1) (by omega)
            refine run_X8_fittingStamps 14 ?_
            repeat (first | refine And.intro (fun e => absurd e (by decide)) (fun e => ?_) | refine And.intro (fun e => ?_) (fun e => absurd e (by decide)) | refine Exists.intro _ (And.intro rfl ?_) | refine And.intro rfl ?_)
            refine And.intro (ck rfl rfl rfl rfl isC) (s_atn hk hC rfl (by omega) ?_)
            rw [d2]
            refine And.intro rfl (s_aft h5 hr d1 (by omega) ?_)
            refine And.intro (ck rfl rfl rfl rfl isC) (s_atn (t := I + (j + 1)) hk hC (nI_1 (I + j)) (by omega) ?_)
            rw [d4]
            have hlt := gs_lt hr d1 (show s < 3 by omega)
            refine And.intro (fun c => ?_) (fun c => ?_)
            · have c : ¬ nI (gs (l 5) s (d j)) = nI (d (j + 1)) := c
              exact no 1 (by rw [es, hb, decide_eq_false (fun e => c (by rw [e]))]; rfl)
            · have c : nI (gs (l 5) s (d j)) = nI (d (j + 1)) := Classical.not_not.mp c
              rw [nI_eq (by omega) (by omega)] at c
              refine run_X8_fittingStamps 5 ?_
              exact ih' (j + 1) _ _ (by omega) (by rw [es, hb, decide_eq_true c]; rfl) (nI_1 (I + j))
      refine run_X8_fittingStamps 7 ?_
      refine And.intro (fun e => absurd e (by show ¬ (3 : Int32) ≤ nI s; rw [le_i, nI_toInt (by omega), show (3 : Int32).toInt = 3 from rfl]; omega)) (fun _ => ?_)
      exact inner (N - 1) 0 1 (nI I) (by omega) rfl rfl
  refine run_X8_fittingStamps 4 ?_
  exact outer 3 0 0 0 none none rfl rfl rfl
/-- the reference's set -/
theorem r_fitting {k : Int32} {K I N : Nat} (hk : k = nI K) (hk4 : K < 4) (h64 : (l 64).length = 240) (hIN : I + N ≤ 60) (h44 : (l 44).length = 12) (hr : rv (l 44)) {d : Nat → Nat} (hd : ∀ j, j < N → d j < 4 ∧ (l 64).getD (60 * K + I + j) 0 = nI (d j)) {a z5 : Int32} {z8 z9 : Option Value}
    (hP : P (some (.int (B6 (fun s => decide (s < 3) && fbd (gs (l 44)) d s (N - 1))))) (wW (u2 f 42 0 0) l q)) : ba_go scr ix_X9_fits 126 [some (.ref 43), some (.int k), some (.int a), some (.int (nI I)), some (.int (nI N)), some (.int z5), some (.int 7), some (.int (nI N)), z8, z9] [] (wW f l q) 0 0 P := by
  subst hk
  have e60 : ∀ t : Nat, (60 : Int32) * nI K + nI I + nI t = nI (60 * K + I + t) := fun t => by
    show nI 60 * nI K + nI I + nI t = _
    rw [nI_mul, nI_add, nI_add]
  have a64 : ∀ (xs : Option (List Int32)) (t : Nat) (y : Int32), t < N → y = nI (60 * K + I + t) → ba_ldI xs (wW f l q) 65 y = some (nI (d t)) := fun xs t y ht hy => by
    subst hy
    rw [ldI_of (l := l 64) rfl (by rw [nI_toInt (by omega)]; omega) (by rw [nI_toInt (by omega), h64]; omega), nI_clamp (by omega), (hd t ht).2]
  have e60' : ∀ t : Nat, (60 : Int32) * nI K + nI I + nI (t + 1) - 1 = nI (60 * K + I + t) := fun t => by
    rw [e60, show 60 * K + I + (t + 1) = 60 * K + I + t + 1 by omega, ← nI_1, Int32.add_sub_cancel]
  have i3 : (3 : Int32).toInt = 3 := rfl
  have outer : ∀ (m j : Nat) (st y : Int32) (z8 z9 : Option Value), j + m = N - 1 → y = nI (j + 1) → st = B6 (fun t => decide (t < 3) && fbd (gs (l 44)) d t j) → ba_go scr ix_X9_fits 129 [some (.ref 43), some (.int (nI K)), some (.int a), some (.int (nI I)), some (.int (nI N)), some (.int z5), some (.int st), some (.int y), z8, z9] [] (wW f l q) 0 0 P := by
    intro m
    induction m with
    | zero =>
      intro j st y z8 z9 h1 h2 h3
      subst h2; subst h3
      have h4 : j = N - 1 := by omega
      subst h4
      refine run_X9_fits 7 ?_
      refine And.intro (fun _ => ?_) (fun e => absurd (by show nI N ≤ nI (N - 1 + 1); rw [le_i, nI_toInt (by omega), nI_toInt (by omega)]; omega) e)
      refine And.intro rfl (r_refused ?_)
      exact hP
    | succ m ih =>
      intro j st y z8 z9 h1 h2 h3
      subst h2; subst h3
      obtain ⟨d1, d2⟩ := hd j (by omega)
      obtain ⟨d3, d4⟩ := hd (j + 1) (by omega)
      have inner : ∀ (m' s : Nat) (st y : Int32) (z9 : Option Value), s + m' = 3 → y = nI s → st = B6 (fun t => decide (t < 3) && (if t < s then fbd (gs (l 44)) d t (j + 1) else fbd (gs (l 44)) d t j)) → ba_go scr ix_X9_fits 139 [some (.ref 43), some (.int (nI K)), some (.int a), some (.int (nI I)), some (.int (nI N)), some (.int z5), some (.int st), some (.int (nI (j + 1))), some (.int y), z9] [] (wW f l q) 0 0 P := by
        intro m'
        induction m' with
        | zero =>
          intro s st y z9 g1 g2 g3
          subst g2; subst g3
          have h4 : s = 3 := by omega
          subst h4
          refine run_X9_fits 5 ?_
          refine And.intro (fun _ => ?_) (fun e => absurd (by decide) e)
          refine ih (j + 1) _ _ _ _ (by omega) (nI_1 (j + 1)) (B6_congr (fun t ht => ?_))
          by_cases h : t < 3
          · rw [if_pos h]
          · rw [decide_eq_false h, Bool.false_and, Bool.false_and]
        | succ m' ih' =>
          intro s st y z9 g1 g2 g3
          subst g2; subst g3
          have es : fbd (gs (l 44)) d s (j + 1) = (fbd (gs (l 44)) d s j && decide (gs (l 44) s (d j) = d (j + 1))) := rfl
          have hlt := gs_lt hr d1 (show s < 3 by omega)
          refine run_X9_fits 29 ?_
          refine And.intro (fun e => absurd e (by show ¬ (3 : Int32) ≤ nI s; rw [le_i, nI_toInt (by omega), i3]; omega)) (fun _ => ?_)
          refine Exists.intro _ (And.intro (rfl) ?_)
          refine Exists.intro _ (And.intro (a64 _ j _ (by omega) (e60' j)) ?_)
          refine And.intro rfl (r_aft h44 hr d1 (by omega) ?_)
          refine Exists.intro _ (And.intro (rfl) ?_)
          refine Exists.intro _ (And.intro (a64 _ (j + 1) _ (by omega) (e60 (j + 1))) ?_)
          refine And.intro (fun c => ?_) (fun c => ?_)
          · have c : ¬ nI (gs (l 44) s (d j)) = nI (d (j + 1)) := c
            have c2 : ¬ gs (l 44) s (d j) = d (j + 1) := fun e => c (by rw [e])
            refine run_X9_fits 5 ?_
            refine And.intro (fun _ => ?_) (fun e => absurd rfl e)
            refine run_X9_fits 9 ?_
            refine ih' (s + 1) _ _ _ (by omega) (nI_1 s) ((B6_and _ (by omega)).trans (B6_congr (fun t ht => ?_)))
            by_cases h : t = s
            · subst h
              rw [if_pos (show t < t + 1 by omega), es, decide_eq_false c2]
              simp
            · have : t < s + 1 ↔ t < s := by omega
              simp only [this, h, decide_false, Bool.not_false, Bool.and_true]
          · have c : nI (gs (l 44) s (d j)) = nI (d (j + 1)) := Classical.not_not.mp c
            rw [nI_eq (by omega) (by omega)] at c
            refine run_X9_fits 6 ?_
            refine And.intro (fun e => absurd e (by decide)) (fun _ => ?_)
            refine run_X9_fits 6 ?_
            refine ih' (s + 1) _ _ _ (by omega) (nI_1 s) ((B6_7 _).trans (B6_congr (fun t ht => ?_)))
            by_cases h : t = s
            · subst h
              rw [if_pos (show t < t + 1 by omega), if_neg (show ¬ t < t by omega), es, decide_eq_true c, Bool.and_true]
              cases decide (t < 3) <;> simp
            · have : t < s + 1 ↔ t < s := by omega
              simp only [this]
              cases decide (t < 3) <;> simp
      refine run_X9_fits 5 ?_
      refine And.intro (fun e => absurd e (by show ¬ nI N ≤ nI (j + 1); rw [le_i, nI_toInt (by omega), nI_toInt (by omega)]; omega)) (fun _ => ?_)
      exact inner 3 0 _ _ _ rfl rfl (B6_congr (fun t ht => by rw [if_neg (by omega)]))
  refine run_X9_fits 2 ?_
  refine outer (N - 1) 0 _ _ _ _ (by omega) rfl ?_
  show (7 : Int32) = B6 (fun t => decide (t < 3) && true)
  decide +kernel
theorem both_fits {k a i n : Int32} (hI : Inv f l q) : both scr ix_X8_fits ix_X9_fits [some (.ref 1), some (.int k), some (.int a), some (.int i), some (.int n), none, none, none] [some (.ref 43), some (.int k), some (.int a), some (.int i), some (.int n), none, none, none, none, none] f l q := by
  intro P hP
  obtain ⟨⟨⟨hn1, hn2, hn3⟩, hL, hE, hR⟩, hPp, hD, hM, hS⟩ := id hI
  have e44 : l 44 = l 5 := hE.1.2
  have z0 : ∀ v : Int32, (u2 f 0 6 v) 42 1 = f 42 1 := fun v => rfl
  -- what is refused before the sheet is looked at
  have ref1 : ¬ (0 ≤ k.toInt ∧ k.toInt < 4) → P (some (.int (-1))) (wW (u2 f 0 6 0) l q) := by
    intro hb
    refine hP _ _ _ _ (fun P2 h2 => ?_)
    refine run_X9_fits 60 ?_
    repeat (first | refine And.intro (fun e => absurd e (by decide)) (fun e => ?_) | refine And.intro (fun e => ?_) (fun e => absurd e (by decide)) | refine Exists.intro _ (And.intro rfl ?_) | refine And.intro rfl ?_)
    refine s_noSheet (fun g1 g2 => absurd ⟨g1, by omega⟩ hb) (fun g1 => ?_)
    repeat (first | refine And.intro (fun e => absurd e (by decide)) (fun e => ?_) | refine And.intro (fun e => ?_) (fun e => absurd e (by decide)) | refine Exists.intro _ (And.intro rfl ?_) | refine And.intro rfl ?_)
    refine r_refused (f := u2 f 0 6 0) ?_
    exact h2 _ _ _ (inv_fault (v := 0) hI)
  have ref2 : (0 ≤ k.toInt ∧ k.toInt < 4) → ¬ ((0 ≤ a.toInt ∧ a.toInt ≤ 2) ∧ 0 ≤ n.toInt ∧ n.toInt ≤ 20) → P (some (.int (-2))) (wW (u2 f 0 6 0) l q) := by
    intro hk hb
    refine hP _ _ _ _ (fun P2 h2 => ?_)
    refine run_X9_fits 60 ?_
    repeat (first | refine And.intro (fun e => absurd e (by decide)) (fun e => ?_) | refine And.intro (fun e => ?_) (fun e => absurd e (by decide)) | refine Exists.intro _ (And.intro rfl ?_) | refine And.intro rfl ?_)
    refine s_noSheet (fun g1 g2 => ?_) (fun g1 => absurd ⟨hk.1, by omega⟩ g1)
    repeat (first | refine And.intro (fun e => absurd e (by decide)) (fun e => ?_) | refine And.intro (fun e => ?_) (fun e => absurd e (by decide)) | refine Exists.intro _ (And.intro rfl ?_) | refine And.intro rfl ?_)
    refine s_in (x := a.toInt) (a := 0) (b := 2) l64 rfl rfl (fun g1 g2 => ?_) (fun g1 => ?_)
    · repeat (first | refine And.intro (fun e => absurd e (by decide)) (fun e => ?_) | refine And.intro (fun e => ?_) (fun e => absurd e (by decide)) | refine Exists.intro _ (And.intro rfl ?_) | refine And.intro rfl ?_)
      refine s_in (x := n.toInt) (a := 0) (b := 20) l64 rfl rfl (fun g3 g4 => absurd ⟨⟨g1, g2⟩, g3, g4⟩ hb) (fun g3 => ?_)
      repeat (first | refine And.intro (fun e => absurd e (by decide)) (fun e => ?_) | refine And.intro (fun e => ?_) (fun e => absurd e (by decide)) | refine Exists.intro _ (And.intro rfl ?_) | refine And.intro rfl ?_)
      refine r_refused (f := u2 f 0 6 0) ?_
      exact h2 _ _ _ (inv_fault (v := 0) hI)
    · repeat (first | refine And.intro (fun e => absurd e (by decide)) (fun e => ?_) | refine And.intro (fun e => ?_) (fun e => absurd e (by decide)) | refine Exists.intro _ (And.intro rfl ?_) | refine And.intro rfl ?_)
      refine r_refused (f := u2 f 0 6 0) ?_
      exact h2 _ _ _ (inv_fault (v := 0) hI)
  -- the reference, up to the sheet
  have start : ∀ (v : Int32) (P2 : ba_P), (0 ≤ k.toInt ∧ k.toInt < 4) → (0 ≤ a.toInt ∧ a.toInt ≤ 2) → (0 ≤ n.toInt ∧ n.toInt ≤ 20) → (¬ f 42 1 = 0 → ba_go scr ix_X9_fits 59 [some (.ref 43), some (.int k), some (.int a), some (.int i), some (.int n), none, none, none, none, none] [] (wW (u2 f 0 6 v) l q) 0 0 P2) → (f 42 1 = 0 → P2 (some (.int (-3))) (wW (u2 (u2 f 0 6 v) 42 0 0) l q)) → ba_go scr ix_X9_fits 0 [some (.ref 43), some (.int k), some (.int a), some (.int i), some (.int n), none, none, none, none, none] [] (wW (u2 f 0 6 v) l q) 0 0 P2 := by
    intro v P2 hk ha hn h hz
    refine run_X9_fits 18 ?_
    repeat (first | refine And.intro (fun e => absurd e (by decide)) (fun e => ?_) | refine And.intro (fun e => ?_) (fun e => absurd e (by decide)) | refine Exists.intro _ (And.intro rfl ?_) | refine And.intro rfl ?_)
    refine s_noSheet (fun g1 g2 => ?_) (fun g1 => absurd ⟨hk.1, by omega⟩ g1)
    repeat (first | refine And.intro (fun e => absurd e (by decide)) (fun e => ?_) | refine And.intro (fun e => ?_) (fun e => absurd e (by decide)) | refine Exists.intro _ (And.intro rfl ?_) | refine And.intro rfl ?_)
    refine s_in (x := a.toInt) (a := 0) (b := 2) l64 rfl rfl (fun g1 g2 => ?_) (fun g1 => absurd ha g1)
    repeat (first | refine And.intro (fun e => absurd e (by decide)) (fun e => ?_) | refine And.intro (fun e => ?_) (fun e => absurd e (by decide)) | refine Exists.intro _ (And.intro rfl ?_) | refine And.intro rfl ?_)
    refine s_in (x := n.toInt) (a := 0) (b := 20) l64 rfl rfl (fun g3 g4 => ?_) (fun g3 => absurd hn g3)
    refine And.intro (fun _ => ?_) (fun e => absurd (by decide) e)
    refine Exists.intro _ (And.intro (rfl) ?_)
    refine And.intro (fun c => ?_) (fun c => ?_)
    · exact h c
    · refine run_X9_fits 10 ?_
      refine And.intro rfl (r_refused ?_)
      exact hz (Classical.not_not.mp c)
  refine run_X8_fits 30 ?_
  refine Exists.intro (wW (u2 f 0 6 0) l q) (And.intro rfl ?_)
  repeat (first | refine And.intro (fun e => absurd e (by decide)) (fun e => ?_) | refine And.intro (fun e => ?_) (fun e => absurd e (by decide)) | refine Exists.intro _ (And.intro rfl ?_) | refine And.intro rfl ?_)
  refine s_sheetOf (f := u2 f 0 6 0) (fun c d => ?_) (fun c => ?_)
  · obtain ⟨⟨hk, hi⟩, hs, hC, h62, h63, h64, h65⟩ := sh0 hI c d
    obtain ⟨sv1, sv2⟩ := svf hs
    have e0 : ∀ (v : Int32) (y : Nat), (u2 f 0 6 v) (34 + 2 * k.toNatClampNeg) y = f (34 + 2 * k.toNatClampNeg) y := fun v y => u2_ne (by omega)
    have isC : ∀ f' : Nat → Nat → Int32, ba_isC (wW f' l q) (34 + 2 * k.toNatClampNeg + 1) 5 = true := fun f' => isC_of (sh_fld hk).2.2.2.2
    repeat (first | refine And.intro (fun e => absurd e (by decide)) (fun e => ?_) | refine And.intro (fun e => ?_) (fun e => absurd e (by decide)) | refine Exists.intro _ (And.intro rfl ?_) | refine And.intro rfl ?_)
    refine s_below (bi := 3) rfl (fun c1 c2 => ?_) (fun c1 => ?_)
    · repeat (first | refine And.intro (fun e => absurd e (by decide)) (fun e => ?_) | refine And.intro (fun e => ?_) (fun e => absurd e (by decide)) | refine Exists.intro _ (And.intro rfl ?_) | refine And.intro rfl ?_)
      refine s_within (a := 0) (b := 20) rfl rfl (fun c3 c4 => ?_) (fun c3 => ?_)
      · refine And.intro (fun _ => ?_) (fun e => absurd (by decide) e)
        refine Exists.intro _ (And.intro (rfl) ?_)
        refine And.intro rfl (s_isOn (f := u2 f 0 6 0) (b := 2) (Or.inl rfl) (fun c5 => ?_) (fun c5 => ?_))
        · have c5 : 0 < (f 2 3).toInt := c5
          have hne : ¬ f 42 1 = 0 := fun e => by rw [← hn3, e, zi] at c5; omega
          refine And.intro (fun _ => ?_) (fun e => absurd (by decide) e)
          have bad : ∀ x : Int32, (f (34 + 2 * k.toNatClampNeg) 1 = -1 → x = 1) → (¬ f (34 + 2 * k.toNatClampNeg) 1 = -1 → ¬ f (34 + 2 * k.toNatClampNeg) 1 = a → x = 2) → (¬ f (34 + 2 * k.toNatClampNeg) 1 = -1 → f (34 + 2 * k.toNatClampNeg) 1 = a → ¬ (0 ≤ i.toInt ∧ i.toInt + n.toInt ≤ (f (34 + 2 * k.toNatClampNeg) 2).toInt) ∧ x = 3) → P (some (.int (-10 - x))) (wW (u2 f 0 6 x) l q) := by
            intro x x1 x2 x3
            refine hP _ _ _ _ (fun P2 h2 => start x P2 ⟨c, d⟩ ⟨c1, by omega⟩ ⟨c3, c4⟩ (fun _ => ?_) (fun e => absurd e hne))
            have h3 := h2 _ _ _ (inv_fault (v := x) hI)
            refine run_X9_fits 30 ?_
            refine And.intro rfl (r_cellsBarred (f := u2 f 0 6 x) c (by omega) h62 h63 (by rw [l64]; omega) (fun g => ?_) (fun g g2 => ?_) (fun g g2 g3 => absurd g3 (by rw [l64]; omega)) (fun g g2 g3 g4 => ?_) (fun g g2 g3 g4 g5 => ?_))
            · rw [x1 (sv1.mp g)] at h3 ⊢
              repeat (first | refine And.intro (fun e => absurd e (by decide)) (fun e => ?_) | refine And.intro (fun e => ?_) (fun e => absurd e (by decide)) | refine Exists.intro _ (And.intro rfl ?_) | refine And.intro rfl ?_)
              exact h3
            · have hne : ¬ f (34 + 2 * k.toNatClampNeg) 1 = -1 := fun e => by have := sv1.mpr e; omega
              rw [x2 hne (by rw [← (sv2 hne).2]; exact g2)] at h3 ⊢
              repeat (first | refine And.intro (fun e => absurd e (by decide)) (fun e => ?_) | refine And.intro (fun e => ?_) (fun e => absurd e (by decide)) | refine Exists.intro _ (And.intro rfl ?_) | refine And.intro rfl ?_)
              exact h3
            · have hne : ¬ f (34 + 2 * k.toNatClampNeg) 1 = -1 := fun e => by have := sv1.mpr e; omega
              rw [(x3 hne (by rw [← (sv2 hne).2]; exact g2)).2] at h3 ⊢
              repeat (first | refine And.intro (fun e => absurd e (by decide)) (fun e => ?_) | refine And.intro (fun e => ?_) (fun e => absurd e (by decide)) | refine Exists.intro _ (And.intro rfl ?_) | refine And.intro rfl ?_)
              exact h3
            · have hne : ¬ f (34 + 2 * k.toNatClampNeg) 1 = -1 := fun e => by have := sv1.mpr e; omega
              rw [l64] at g5
              exact absurd ⟨g4, by rw [← (sv2 hne).1]; exact g5⟩ (x3 hne (by rw [← (sv2 hne).2]; exact g2)).1
          refine And.intro (ck rfl rfl rfl rfl (isC _)) (s_faultOf (f := u2 f 0 6 0) hk (by rw [e0]; exact hs.2.1.1) (by rw [e0]; exact hs.2.1.2) (fun g => ?_) (fun g g2 => ?_) (fun g g2 g3 => absurd g3 (by omega)) (fun g g2 g3 g4 => ?_) (fun g g2 g3 g4 g5 => ?_))
          · rw [e0] at g
            repeat (first | refine And.intro (fun e => absurd e (by decide)) (fun e => ?_) | refine And.intro (fun e => ?_) (fun e => absurd e (by decide)) | refine Exists.intro _ (And.intro rfl ?_) | refine And.intro rfl ?_)
            refine run_X8_fits 5 ?_
            repeat (first | refine And.intro (fun e => absurd e (by decide)) (fun e => ?_) | refine And.intro (fun e => ?_) (fun e => absurd e (by decide)) | refine Exists.intro _ (And.intro rfl ?_) | refine And.intro rfl ?_)
            refine s_stopped (f := u2 f 0 6 0) ?_
            rw [uf]
            exact bad 1 (fun _ => rfl) (fun e => absurd g e) (fun e => absurd g e)
          · rw [e0] at g g2
            repeat (first | refine And.intro (fun e => absurd e (by decide)) (fun e => ?_) | refine And.intro (fun e => ?_) (fun e => absurd e (by decide)) | refine Exists.intro _ (And.intro rfl ?_) | refine And.intro rfl ?_)
            refine run_X8_fits 5 ?_
            repeat (first | refine And.intro (fun e => absurd e (by decide)) (fun e => ?_) | refine And.intro (fun e => ?_) (fun e => absurd e (by decide)) | refine Exists.intro _ (And.intro rfl ?_) | refine And.intro rfl ?_)
            refine s_stopped (f := u2 f 0 6 0) ?_
            rw [uf]
            exact bad 2 (fun e => absurd e g) (fun _ _ => rfl) (fun _ e => absurd e g2)
          · rw [e0] at g g2 g4
            repeat (first | refine And.intro (fun e => absurd e (by decide)) (fun e => ?_) | refine And.intro (fun e => ?_) (fun e => absurd e (by decide)) | refine Exists.intro _ (And.intro rfl ?_) | refine And.intro rfl ?_)
            refine run_X8_fits 5 ?_
            repeat (first | refine And.intro (fun e => absurd e (by decide)) (fun e => ?_) | refine And.intro (fun e => ?_) (fun e => absurd e (by decide)) | refine Exists.intro _ (And.intro rfl ?_) | refine And.intro rfl ?_)
            refine s_stopped (f := u2 f 0 6 0) ?_
            rw [uf]
            exact bad 3 (fun e => absurd e g) (fun _ e => absurd g2 e) (fun _ _ => ⟨g4, rfl⟩)
          · rw [e0] at g g2 g5
            have h60 := hs.2.1.2
            obtain ⟨s1, s2, s3⟩ := hs.2.2.2 g
            have hsz := ix_i hs.2.1.1
            obtain ⟨I, rfl, hI0⟩ := nI_ex g4
            obtain ⟨N, rfl, hN0⟩ := nI_ex c3
            obtain ⟨K, rfl, hK0⟩ := nI_ex c
            rw [nI_clamp (by omega)] at hk hC isC s1 s2 s3 hs e0 hsz g g2 g5 h60 ⊢
            have hK4 : K < 4 := hk
            have hIN : I + N ≤ 60 := by omega
            have big : ∀ j, j < N → (l 64).getD (60 * K + I + j) 0 = (l (34 + 2 * K + 1)).getD (I + j) 0 := fun j hj => by
              rw [Nat.add_assoc]
              exact s3 (I + j) (by omega)
            have e60 : ∀ t : Nat, (60 : Int32) * nI K + nI I + nI t = nI (60 * K + I + t) := fun t => by
              show nI 60 * nI K + nI I + nI t = _
              rw [nI_mul, nI_add, nI_add]
            -- the reference's look at the marks
            have rmarks : ∀ (P2 : ba_P) (z5 : Int32), ((∀ j, j < N → 0 ≤ ((l (34 + 2 * K + 1)).getD (I + j) 0).toInt ∧ ((l (34 + 2 * K + 1)).getD (I + j) 0).toInt ≤ 3) → ba_go scr ix_X9_fits 126 [some (.ref 43), some (.int (nI K)), some (.int a), some (.int (nI I)), some (.int (nI N)), some (.int z5), some (.int 7), some (.int (nI N)), none, none] [] (wW (u2 f 0 6 0) l q) 0 0 P2) → (¬ (∀ j, j < N → 0 ≤ ((l (34 + 2 * K + 1)).getD (I + j) 0).toInt ∧ ((l (34 + 2 * K + 1)).getD (I + j) 0).toInt ≤ 3) → P2 (some (.int (-2))) (wW (u2 (u2 f 0 6 0) 42 0 0) l q)) →
                ∀ (m j : Nat) (x : Int32), j + m = N → x = nI j → (∀ t, t < j → 0 ≤ ((l (34 + 2 * K + 1)).getD (I + t) 0).toInt ∧ ((l (34 + 2 * K + 1)).getD (I + t) 0).toInt ≤ 3) → ba_go scr ix_X9_fits 86 [some (.ref 43), some (.int (nI K)), some (.int a), some (.int (nI I)), some (.int (nI N)), some (.int z5), some (.int 7), some (.int x), none, none] [] (wW (u2 f 0 6 0) l q) 0 0 P2 := by
              intro P2 z5 hy hn m
              induction m with
              | zero =>
                intro j x j1 j2 j3
                subst j2
                have j4 : j = N := by omega
                subst j4
                refine run_X9_fits 3 ?_
                refine And.intro (fun _ => ?_) (fun e => absurd (by show nI j ≤ nI j; rw [le_i]; omega) e)
                exact hy j3
              | succ m ih =>
                intro j x j1 j2 j3
                subst j2
                have a64 : ∀ xs, ba_ldI xs (wW (u2 f 0 6 0) l q) 65 (60 * nI K + nI I + nI j) = some ((l (34 + 2 * K + 1)).getD (I + j) 0) := fun xs => by
                  rw [e60, ldI_of (l := l 64) rfl (by rw [nI_toInt (by omega)]; omega) (by rw [nI_toInt (by omega), h64]; omega), nI_clamp (by omega), big j (by omega)]
                refine run_X9_fits 15 ?_
                refine And.intro (fun e => absurd e (by show ¬ nI N ≤ nI j; rw [le_i, nI_toInt (by omega), nI_toInt (by omega)]; omega)) (fun _ => ?_)
                refine Exists.intro _ (And.intro (rfl) ?_)
                refine Exists.intro _ (And.intro (a64 _) ?_)
                refine And.intro rfl (s_isMark (fun r1 r2 => ?_) (fun r1 => ?_))
                · refine And.intro (fun _ => ?_) (fun e => absurd (by decide) e)
                  refine run_X9_fits 2 ?_
                  exact ih (j + 1) _ (by omega) (nI_1 j) (lt_s j3 ⟨r1, r2⟩)
                · refine And.intro (fun e => absurd rfl e) (fun _ => ?_)
                  refine run_X9_fits 10 ?_
                  refine And.intro rfl (r_refused (f := u2 f 0 6 0) ?_)
                  exact hn (fun h => r1 (h j (by omega)))
            have rall : ∀ (P2 : ba_P), ((∀ j, j < N → 0 ≤ ((l (34 + 2 * K + 1)).getD (I + j) 0).toInt ∧ ((l (34 + 2 * K + 1)).getD (I + j) 0).toInt ≤ 3) → ba_go scr ix_X9_fits 126 [some (.ref 43), some (.int (nI K)), some (.int a), some (.int (nI I)), some (.int (nI N)), some (.int 0), some (.int 7), some (.int (nI N)), none, none] [] (wW (u2 f 0 6 0) l q) 0 0 P2) → (¬ (∀ j, j < N → 0 ≤ ((l (34 + 2 * K + 1)).getD (I + j) 0).toInt ∧ ((l (34 + 2 * K + 1)).getD (I + j) 0).toInt ≤ 3) → P2 (some (.int (-2))) (wW (u2 (u2 f 0 6 0) 42 0 0) l q)) →
                ba_go scr ix_X9_fits 0 [some (.ref 43), some (.int (nI K)), some (.int a), some (.int (nI I)), some (.int (nI N)), none, none, none, none, none] [] (wW (u2 f 0 6 0) l q) 0 0 P2 := by
              intro P2 hy hn
              refine start 0 P2 ⟨c, d⟩ ⟨c1, by omega⟩ ⟨c3, c4⟩ (fun _ => ?_) (fun e => absurd e hne)
              have hb : 0 ≤ ((l 62).getD (nI K).toNatClampNeg 0).toInt := by rw [nI_clamp (by omega), s1]; exact hs.2.1.1
              refine run_X9_fits 14 ?_
              refine And.intro rfl (r_cellsBarred (f := u2 f 0 6 0) c (by omega) h62 h63 (by rw [l64]; omega) (fun r => absurd hb (by omega)) (fun r r2 => absurd (by rw [nI_clamp (by omega), s2]; exact g2) r2) (fun r r2 r3 => absurd r3 (by rw [l64]; omega)) (fun r r2 r3 r4 => absurd ⟨g4, by rw [l64, nI_clamp (by omega), s1]; exact g5⟩ r4) (fun r r2 r3 r4 r5 => ?_))
              refine And.intro (fun _ => ?_) (fun e => absurd (by decide) e)
              exact rmarks P2 0 hy hn N 0 0 (by omega) rfl (fun t ht => absurd ht (by omega))
            -- the class
            have smarks : ∀ (m j : Nat) (x z : Int32), j + m = N → x = nI (I + j) → (∀ t, t < j → 0 ≤ ((l (34 + 2 * K + 1)).getD (I + t) 0).toInt ∧ ((l (34 + 2 * K + 1)).getD (I + t) 0).toInt ≤ 3) → ba_go scr ix_X8_fits 80 [some (.ref 1), some (.int (nI K)), some (.int a), some (.int (nI I)), some (.int (nI N)), some (.ref (34 + 2 * K + 1)), some (.int z), some (.int x)] [] (wW (u2 f 0 6 0) l q) 0 0 P := by
              intro m
              induction m with
              | zero =>
                intro j x z j1 j2 j3
                subst j2
                have j4 : j = N := by omega
                subst j4
                refine run_X8_fits 12 ?_
                refine And.intro (fun _ => ?_) (fun e => absurd (by show nI I + nI j ≤ nI (I + j); rw [nI_add, le_i]; omega) e)
                obtain ⟨dd, hdd⟩ : ∃ dd : Nat → Nat, dd = fun t => ((l (34 + 2 * K + 1)).getD (I + t) 0).toNatClampNeg := ⟨_, rfl⟩
                have hd : ∀ t, t < j → dd t < 4 ∧ (l (34 + 2 * K + 1)).getD (I + t) 0 = nI (dd t) := fun t ht => by
                  have h1 := j3 t ht
                  have h2 := ix_i h1.1
                  rw [hdd]
                  refine ⟨by show ((l (34 + 2 * K + 1)).getD (I + t) 0).toNatClampNeg < 4; omega, ?_⟩
                  show (l (34 + 2 * K + 1)).getD (I + t) 0 = nI ((l (34 + 2 * K + 1)).getD (I + t) 0).toNatClampNeg
                  rw [eq_i, nI_toInt (by omega)]
                  omega
                refine And.intro rfl (s_fitting (f := u2 f 0 6 0) hK4 hC hIN hL.1.2.1 hR.1 hd ?_)
                rw [orS3]
                refine hP _ _ _ _ (fun P2 h2 => rall P2 (fun _ => ?_) (fun h => absurd j3 h))
                refine r_fitting (f := u2 f 0 6 0) (d := dd) rfl hK4 h64 hIN (by rw [e44]; exact hL.1.2.1) (by rw [e44]; exact hR.1) (fun t ht => ⟨(hd t ht).1, by rw [big t ht]; exact (hd t ht).2⟩) ?_
                rw [e44]
                exact h2 _ _ _ (inv_fault (v := 0) hI)
              | succ m ih =>
                intro j x z j1 j2 j3
                subst j2
                refine run_X8_fits 11 ?_
                refine And.intro (fun e => absurd e (by show ¬ nI I + nI N ≤ nI (I + j); rw [nI_add, le_i, nI_toInt (by omega), nI_toInt (by omega)]; omega)) (fun _ => ?_)
                refine And.intro (ck rfl rfl rfl rfl (isC _)) (s_atn (f := u2 f 0 6 0) hK4 hC rfl (by omega) ?_)
                refine And.intro rfl (s_below (bi := 4) rfl (fun r1 r2 => ?_) (fun r1 => ?_))
                · refine And.intro (fun _ => ?_) (fun e => absurd (by decide) e)
                  refine run_X8_fits 2 ?_
                  exact ih (j + 1) _ _ (by omega) (nI_1 (I + j)) (lt_s j3 ⟨r1, by omega⟩)
                · refine And.intro (fun e => absurd rfl e) (fun _ => ?_)
                  refine run_X8_fits 2 ?_
                  refine hP _ _ _ _ (fun P2 h2 => rall P2 (fun h => absurd ⟨(h j (by omega)).1, by have := (h j (by omega)).2; omega⟩ r1) (fun _ => ?_))
                  exact h2 _ _ _ (inv_fault (v := 0) hI)
            refine And.intro (fun _ => ?_) (fun e => absurd rfl e)
            refine run_X8_fits 2 ?_
            exact smarks N 0 _ _ (by omega) rfl (fun t ht => absurd ht (by omega))
        · refine And.intro (fun e => absurd rfl e) (fun _ => ?_)
          have hz : f 42 1 = 0 := by
            have c5 : ¬ 0 < (f 2 3).toInt := c5
            rw [eq_i, zi, hn3]; omega
          refine hP _ _ _ _ (fun P2 h2 => start 0 P2 ⟨c, d⟩ ⟨c1, by omega⟩ ⟨c3, c4⟩ (fun h => absurd hz h) (fun _ => h2 _ _ _ (inv_fault (v := 0) hI)))
      · repeat (first | refine And.intro (fun e => absurd e (by decide)) (fun e => ?_) | refine And.intro (fun e => ?_) (fun e => absurd e (by decide)) | refine Exists.intro _ (And.intro rfl ?_) | refine And.intro rfl ?_)
        exact ref2 ⟨c, d⟩ (fun e => c3 e.2)
    · repeat (first | refine And.intro (fun e => absurd e (by decide)) (fun e => ?_) | refine And.intro (fun e => ?_) (fun e => absurd e (by decide)) | refine Exists.intro _ (And.intro rfl ?_) | refine And.intro rfl ?_)
      exact ref2 ⟨c, d⟩ (fun e => c1 ⟨e.1.1, by omega⟩)
  · repeat (first | refine And.intro (fun e => absurd e (by decide)) (fun e => ?_) | refine And.intro (fun e => ?_) (fun e => absurd e (by decide)) | refine Exists.intro _ (And.intro rfl ?_) | refine And.intro rfl ?_)
    exact ref1 c
end FT
