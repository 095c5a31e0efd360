/-! undoing -/
def q4 (h : Nat → Int32) : List Int32 := [h 0, h 1, h 2, h 3]
theorem q4_get {h : Nat → Int32} {k : Nat} (hk : k < 4) : (q4 h).getD k 0 = h k := by
  match k, hk with
  | 0, _ => rfl
  | 1, _ => rfl
  | 2, _ => rfl
  | 3, _ => rfl
theorem q4_set {h : Nat → Int32} {k : Nat} {v : Int32} (hk : k < 4) : (q4 h).set k v = q4 (fun t => if t = k then v else h t) := by
  match k, hk with
  | 0, _ => rfl
  | 1, _ => rfl
  | 2, _ => rfl
  | 3, _ => rfl
theorem q4_congr {g h : Nat → Int32} (e : ∀ t, t < 4 → g t = h t) : q4 g = q4 h := by
  unfold q4
  rw [e 0 (by decide), e 1 (by decide), e 2 (by decide), e 3 (by decide)]
theorem q4_ext {Z : List Int32} {g : Nat → Int32} (h : Z.length = 4) (e : ∀ t, t < 4 → Z.getD t 0 = g t) : Z = q4 g := by
  match Z, h with
  | [a, b, c, d], _ =>
    have e0 : a = g 0 := e 0 (by decide)
    have e1 : b = g 1 := e 1 (by decide)
    have e2 : c = g 2 := e 2 (by decide)
    have e3 : d = g 3 := e 3 (by decide)
    rw [e0, e1, e2, e3]
    rfl
/-- a distance as the reference writes it, up to so far -/
def cd (D : Nat → Nat) (far m : Nat) : Int32 := if D m ≤ far then nI (D m) else -9
def hs (g : Nat → Nat → Nat) (D : Nat → Nat) (far i : Nat) : Nat → Bool
  | 0 => false
  | s + 1 => hs g D far i s || decide (D (g s i) + 1 = far)
theorem hs_iff {g : Nat → Nat → Nat} {D : Nat → Nat} {far i : Nat} : ∀ {s : Nat}, hs g D far i s = true ↔ ∃ s', s' < s ∧ D (g s' i) + 1 = far
  | 0 => ⟨fun h => (nomatch h), fun ⟨s', h, _⟩ => absurd h (by omega)⟩
  | s + 1 => by
    show (hs g D far i s || decide (D (g s i) + 1 = far)) = true ↔ _
    rw [Bool.or_eq_true, hs_iff, decide_eq_true_iff]
    constructor
    · rintro (⟨r', h1, h2⟩ | h)
      · exact ⟨r', by omega, h2⟩
      · exact ⟨s, by omega, h⟩
    · rintro ⟨r', h1, h2⟩
      by_cases h : r' = s
      · subst h; exact Or.inr h2
      · exact Or.inl ⟨r', by omega, h2⟩
def mid (g : Nat → Nat → Nat) (D : Nat → Nat) (far i s : Nat) : Int32 := if D i < far then nI (D i) else if hs g D far i s then nI far else -9
def stf (g : Nat → Nat → Nat) (D : Nat → Nat) (far i s m : Nat) : Int32 := if m < i then cd D far m else if m = i then mid g D far i s else cd D (far - 1) m
section UN
variable {scr : Option (List Int32)} {P : ba_P} {w : ba_W} {f : Nat → Nat → Int32} {l : Nat → List Int32} {q : Nat → List Int64}
theorem set_57 {X : List Int32} : (wW f l q).set 57 (.inl (.int, .inl X)) = wW f (u1 l 57 X) q := rfl
theorem r_measures {t : Nat} (ht : t < 4) (h57 : (l 57).length = 4) (h44 : (l 44).length = 12) (hr : rv (l 44)) (hP : P none (wW f (u1 l 57 (q4 (cd (Ds (gs (l 44)) (fun x => decide (x = t))) 3))) q)) : ba_go scr ix_X9_measures 0 [some (.ref 43), some (.int (nI t)), none, none, none, none] [] (wW f l q) 0 0 P := by
  have i3 : (3 : Int32).toInt = 3 := rfl
  have i4 : (4 : Int32).toInt = 4 := rfl
  have m9 : (-9 : Int32).toInt = -9 := rfl
  obtain ⟨D, hD⟩ : ∃ D, D = Ds (gs (l 44)) (fun x => decide (x = t)) := ⟨_, rfl⟩
  obtain ⟨g, hg⟩ : ∃ g, g = gs (l 44) := ⟨_, rfl⟩
  rw [← hD] at hP
  have D4 : ∀ m, D m ≤ 4 := fun m => by rw [hD]; exact ds_le4
  have Dp : ∀ m s, s < 3 → D m ≤ D (g s m) + 1 := fun m s h => by rw [hD, hg]; exact Ds_pred h
  have Dsx : ∀ m, 0 < D m → D m ≤ 3 → ∃ s, s < 3 ∧ D (g s m) + 1 = D m := fun m h1 h2 => by rw [hD] at h1 h2 ⊢; rw [hg]; exact Ds_succ h1 h2
  have glt : ∀ s m, s < 3 → m < 4 → g s m < 4 := by rw [hg]; exact gs_all hr
  have rounds : ∀ (m far : Nat) (x : Int32) (z1 z2 z3 : Option Value), far + m = 4 → 1 ≤ far → x = nI far → ba_go scr ix_X9_measures 32 [some (.ref 43), some (.int (nI t)), some (.int x), z1, z2, z3] [] (wW f (u1 l 57 (q4 (cd D (far - 1)))) q) 0 0 P := by
    intro m
    induction m with
    | zero =>
      intro far x z1 z2 z3 h1 h0 h2
      subst h2
      have h4 : far = 4 := by omega
      subst h4
      refine run_X9_measures 4 ?_
      refine And.intro (fun _ => ?_) (fun e => absurd (by decide) e)
      exact hP
    | succ m ih =>
      intro far x z1 z2 z3 h1 h0 h2
      subst h2
      have marks : ∀ (m' i : Nat) (y : Int32) (z2 z3 : Option Value), i + m' = 4 → y = nI i → ba_go scr ix_X9_measures 39 [some (.ref 43), some (.int (nI t)), some (.int (nI far)), some (.int y), z2, z3] [] (wW f (u1 l 57 (q4 (stf g D far i 0))) q) 0 0 P := by
        intro m'
        induction m' with
        | zero =>
          intro i y z2 z3 g1 g2
          subst g2
          have h4 : i = 4 := by omega
          subst h4
          refine run_X9_measures 5 ?_
          refine And.intro (fun _ => ?_) (fun e => absurd (by decide) e)
          have e : q4 (stf g D far 4 0) = q4 (cd D (far + 1 - 1)) := q4_congr (fun t ht => by unfold stf; rw [if_pos ht]; rfl)
          rw [e]
          exact ih (far + 1) _ _ _ _ (by omega) (by omega) (nI_1 far)
        | succ m' ih' =>
          intro i y z2 z3 g1 g2
          subst g2
          have stamps : ∀ (m'' s : Nat) (y : Int32) (z3 : Option Value), s + m'' = 3 → y = nI s → ba_go scr ix_X9_measures 47 [some (.ref 43), some (.int (nI t)), some (.int (nI far)), some (.int (nI i)), some (.int y), z3] [] (wW f (u1 l 57 (q4 (stf g D far i s))) q) 0 0 P := by
            intro m''
            induction m'' with
            | zero =>
              intro s y z3 k1 k2
              subst k2
              have h4 : s = 3 := by omega
              subst h4
              refine run_X9_measures 5 ?_
              refine And.intro (fun _ => ?_) (fun e => absurd (by decide) e)
              have e : q4 (stf g D far i 3) = q4 (stf g D far (i + 1) 0) := q4_congr (fun m hm => by
                unfold stf
                by_cases a1 : m < i
                · rw [if_pos a1, if_pos (by omega)]
                · by_cases a2 : m = i
                  · rw [if_neg a1, if_pos a2, if_pos (by omega), a2]
                    unfold mid cd
                    by_cases a3 : D i < far
                    · rw [if_pos a3, if_pos (by omega)]
                    · rw [if_neg a3]
                      by_cases a4 : D i = far
                      · obtain ⟨s, b1, b2⟩ := Dsx i (by omega) (by omega)
                        rw [hs_iff.mpr ⟨s, b1, by omega⟩, if_pos rfl, if_pos (by omega), a4]
                      · have : ¬ hs g D far i 3 = true := fun h => by
                          obtain ⟨s, b1, b2⟩ := hs_iff.mp h
                          have := Dp i s b1
                          omega
                        rw [if_neg this, if_neg (by omega)]
                  · rw [if_neg a1, if_neg a2, if_neg (by omega)]
                    by_cases a3 : m = i + 1
                    · rw [if_pos a3]
                      unfold mid cd
                      subst a3
                      by_cases a4 : D (i + 1) < far
                      · rw [if_pos a4, if_pos (by omega)]
                      · rw [if_neg a4, if_neg (by omega)]
                        rfl
                    · rw [if_neg a3])
              rw [e]
              exact ih' (i + 1) _ _ _ (by omega) (nI_1 i)
            | succ m'' ih'' =>
              intro s y z3 k1 k2
              subst k2
              have hlt := glt s i (by omega) (by omega)
              have ei : stf g D far i s i = mid g D far i s := by unfold stf; rw [if_neg (by omega), if_pos rfl]
              have ld : ∀ (xs : Option (List Int32)) (k : Nat), k < 4 → ba_ldI xs (wW f (u1 l 57 (q4 (stf g D far i s))) q) 58 (nI k) = some (stf g D far i s k) := fun xs k hk => by
                rw [ldI_of (l := q4 (stf g D far i s)) rfl (by rw [nI_toInt (by omega)]; omega) (by rw [nI_toInt (by omega)]; show (k : Int) < 4; omega), nI_clamp (by omega), q4_get hk]
              have st : ∀ v : Int32, v = mid g D far i (s + 1) → ba_stI (wW f (u1 l 57 (q4 (stf g D far i s))) q) 58 (nI i) v = some (wW f (u1 l 57 (q4 (stf g D far i (s + 1)))) q) := fun v hv => by
                rw [stI_of (l := q4 (stf g D far i s)) rfl (by rw [nI_toInt (by omega)]; omega) (by rw [nI_toInt (by omega)]; show (i : Int) < 4; omega), nI_clamp (by omega), q4_set (by omega), set_57, u1_u1]
                refine congrArg (fun Z => some (wW f (u1 l 57 Z) q)) (q4_congr (fun m hm => ?_))
                by_cases a1 : m = i
                · rw [if_pos a1, hv]
                  unfold stf
                  rw [if_neg (by omega), if_pos a1]
                · rw [if_neg a1]
                  unfold stf
                  by_cases a2 : m < i
                  · rw [if_pos a2, if_pos a2]
                  · rw [if_neg a2, if_neg a2, if_neg a1, if_neg a1]
              have em : mid g D far i (s + 1) = (if D i < far then nI (D i) else if (hs g D far i s || decide (D (g s i) + 1 = far)) then nI far else -9) := rfl
              -- nothing is new
              have same : mid g D far i (s + 1) = mid g D far i s → ba_go scr ix_X9_measures 84 [some (.ref 43), some (.int (nI t)), some (.int (nI far)), some (.int (nI i)), some (.int (nI s)), z3] [] (wW f (u1 l 57 (q4 (stf g D far i s))) q) 0 0 P := by
                intro h
                refine run_X9_measures 14 ?_
                refine Exists.intro _ (And.intro (rfl) ?_)
                refine And.intro (fun _ => ?_) (fun e => absurd rfl e)
                refine Exists.intro _ (And.intro (rfl) ?_)
                refine Exists.intro _ (And.intro (ld _ i (by omega)) ?_)
                refine Exists.intro _ (And.intro (st _ (by rw [ei, h])) ?_)
                exact ih'' (s + 1) _ _ (by omega) (nI_1 s)
              refine run_X9_measures 8 ?_
              refine And.intro (fun e => absurd e (by show ¬ (3 : Int32) ≤ nI s; rw [le_i, nI_toInt (by omega), i3]; omega)) (fun _ => ?_)
              refine Exists.intro _ (And.intro (rfl) ?_)
              refine Exists.intro _ (And.intro (ld _ i (by omega)) ?_)
              rw [ei]
              by_cases a1 : D i < far
              · have e1 : mid g D far i s = nI (D i) := by unfold mid; rw [if_pos a1]
                refine And.intro (fun _ => same (by rw [em, if_pos a1, e1])) (fun e => absurd (by show 0 ≤ mid g D far i s; rw [e1, le_i, zi, nI_toInt (by omega)]; omega) e)
              · cases a2 : hs g D far i s with
                | true =>
                  have e1 : mid g D far i s = nI far := by unfold mid; rw [if_neg a1, a2]; rfl
                  refine And.intro (fun _ => same (by rw [em, if_neg a1, a2, e1]; rfl)) (fun e => absurd (by show 0 ≤ mid g D far i s; rw [e1, le_i, zi, nI_toInt (by omega)]; omega) e)
                | false =>
                  have e1 : mid g D far i s = -9 := by unfold mid; rw [if_neg a1, a2]; rfl
                  refine And.intro (fun e => absurd e (by show ¬ 0 ≤ mid g D far i s; rw [e1]; decide)) (fun _ => ?_)
                  have nine : ∀ k : Nat, k < 5 → ¬ (-9 : Int32) = nI k := fun k hk e => by
                    have := congrArg Int32.toInt e
                    rw [m9, nI_toInt (by omega)] at this
                    omega
                  have ev : stf g D far i s (g s i) = nI (far - 1) ↔ D (g s i) + 1 = far := by
                    have hd4 := D4 (g s i)
                    have cdv : ∀ F, F ≤ far → far - 1 ≤ F → (cd D F (g s i) = nI (far - 1) ↔ D (g s i) + 1 = far) := fun F b1 b2 => by
                      unfold cd
                      by_cases a3 : D (g s i) ≤ F
                      · rw [if_pos a3, nI_eq (by omega) (by omega)]
                        omega
                      · rw [if_neg a3]
                        constructor
                        · intro e; exact absurd e (nine _ (by omega))
                        · intro e; omega
                    unfold stf
                    by_cases a3 : g s i < i
                    · rw [if_pos a3]; exact cdv far (by omega) (by omega)
                    · rw [if_neg a3]
                      by_cases a4 : g s i = i
                      · rw [if_pos a4, e1]
                        constructor
                        · intro e; exact absurd e (nine _ (by omega))
                        · intro e; rw [a4] at e; omega
                      · rw [if_neg a4]; exact cdv (far - 1) (by omega) (by omega)
                  have esub : nI far - 1 = nI (far - 1) := by
                    have : nI far = nI (far - 1) + 1 := by rw [nI_1, show far - 1 + 1 = far by omega]
                    rw [this, Int32.add_sub_cancel]
                  refine run_X9_measures 11 ?_
                  refine Exists.intro _ (And.intro (rfl) ?_)
                  refine And.intro rfl (r_aft h44 hr (by omega) (by omega) ?_)
                  have egg : gs ((u1 l 57 (q4 (stf g D far i s))) 44) s i = g s i := by rw [hg]; rfl
                  rw [egg]
                  refine Exists.intro _ (And.intro (ld _ (g s i) hlt) ?_)
                  refine And.intro (fun c => ?_) (fun c => ?_)
                  · have c : ¬ stf g D far i s (g s i) = nI far - 1 := c
                    rw [esub, ev] at c
                    exact same (by rw [em, if_neg a1, a2, decide_eq_false c, e1]; rfl)
                  · have c : stf g D far i s (g s i) = nI far - 1 := Classical.not_not.mp c
                    rw [esub, ev] at c
                    refine run_X9_measures 13 ?_
                    refine Exists.intro _ (And.intro (rfl) ?_)
                    refine And.intro (fun e => absurd e (by decide)) (fun _ => ?_)
                    refine Exists.intro _ (And.intro (st _ (by rw [em, if_neg a1, a2, decide_eq_true c]; rfl)) ?_)
                    exact ih'' (s + 1) _ _ (by omega) (nI_1 s)
          refine run_X9_measures 5 ?_
          refine And.intro (fun e => absurd e (by show ¬ (4 : Int32) ≤ nI i; rw [le_i, nI_toInt (by omega), i4]; omega)) (fun _ => ?_)
          exact stamps 3 0 0 _ rfl rfl
      refine run_X9_measures 5 ?_
      refine And.intro (fun e => absurd e (by show ¬ (4 : Int32) ≤ nI far; rw [le_i, nI_toInt (by omega), i4]; omega)) (fun _ => ?_)
      have e : q4 (cd D (far - 1)) = q4 (stf g D far 0 0) := q4_congr (fun m hm => by
        unfold stf
        rw [if_neg (by omega)]
        by_cases a1 : m = 0
        · subst a1
          rw [if_pos rfl]
          unfold mid cd
          by_cases a2 : D 0 < far
          · rw [if_pos a2, if_pos (by omega)]
          · rw [if_neg a2, if_neg (by omega)]; rfl
        · rw [if_neg a1])
      rw [e]
      exact marks 4 0 0 _ _ rfl rfl
  have start : ∀ (m i : Nat) (x : Int32) (A : List Int32), i + m = 4 → A.length = 4 → (∀ k, k < i → A.getD k 0 = cd D 0 k) → x = nI i → ba_go scr ix_X9_measures 2 [some (.ref 43), some (.int (nI t)), some (.int x), none, none, none] [] (wW f (u1 l 57 A) q) 0 0 P := by
    intro m
    induction m with
    | zero =>
      intro i x A h1 h2 h3 h4
      subst h4
      have h5 : i = 4 := by omega
      subst h5
      refine run_X9_measures 5 ?_
      refine And.intro (fun _ => ?_) (fun e => absurd (by decide) e)
      rw [q4_ext h2 h3]
      exact rounds 3 1 1 _ _ _ rfl (by decide) rfl
    | succ m ih =>
      intro i x A h1 h2 h3 h4
      subst h4
      have e0 : D i ≤ 0 ↔ i = t := by
        rw [hD, Ds_le (by decide)]
        constructor
        · rintro ⟨j, b1, b2⟩
          rw [show j = 0 by omega] at b2
          exact of_decide_eq_true b2
        · intro e
          exact ⟨0, by decide, decide_eq_true e⟩
      have fin : ∀ v : Int32, v = cd D 0 i → ba_go scr ix_X9_measures 23 [some (.ref 43), some (.int (nI t)), some (.int (nI i)), none, none, none] [.int v, .int (nI i), .ref 58] (wW f (u1 l 57 A) q) 0 0 P := by
        intro v hv
        have e2 : ba_stI (wW f (u1 l 57 A) q) 58 (nI i) v = some (wW f (u1 l 57 (A.set i v)) q) := by
          rw [stI_of (l := A) rfl (by rw [nI_toInt (by omega)]; omega) (by rw [nI_toInt (by omega), h2]; omega), nI_clamp (by omega), set_57, u1_u1]
        refine run_X9_measures 3 ?_
        refine Exists.intro _ (And.intro (e2) ?_)
        refine ih (i + 1) _ _ (by omega) (by rw [List.length_set]; exact h2) (fun t ht => ?_) (nI_1 i)
        rw [getD_set]
        by_cases h : i = t
        · rw [if_pos ⟨h, by omega⟩, hv, h]
        · rw [if_neg (fun g => h g.1)]
          exact h3 t (by omega)
      refine run_X9_measures 9 ?_
      refine And.intro (fun e => absurd e (by show ¬ (4 : Int32) ≤ nI i; rw [le_i, nI_toInt (by omega), i4]; omega)) (fun _ => ?_)
      refine Exists.intro _ (And.intro (rfl) ?_)
      refine And.intro (fun c => ?_) (fun c => ?_)
      · have c : ¬ nI i = nI t := c
        rw [nI_eq (by omega) (by omega)] at c
        refine run_X9_measures 1 ?_
        exact fin _ (by unfold cd; rw [if_neg (fun h => c (e0.mp h))]; rfl)
      · have c : nI i = nI t := Classical.not_not.mp c
        rw [nI_eq (by omega) (by omega)] at c
        refine run_X9_measures 2 ?_
        have hz := e0.mpr c
        exact fin _ (by unfold cd; rw [if_pos hz, show D i = 0 by omega]; rfl)
  have h := start 4 0 0 (l 57) rfl h57 (fun t ht => absurd ht (by omega)) rfl
  rw [u1_self] at h
  refine run_X9_measures 2 ?_
  exact h
end UN
