/-! necks, kinds -/
def sob (T : Nat → Int32) (A B : List Int32) : Nat → Bool
  | 0 => true
  | n + 1 => sob T A B n && decide (T (A.getD n 0).toNatClampNeg = B.getD n 0)
def orS (g : Nat → Bool) : Nat → Int32
  | 0 => 0
  | v + 1 => orS g v ||| (if g v then (1 : Int32) <<< (nI v &&& 31) else 0)
theorem orS_congr {g h : Nat → Bool} {n : Nat} (e : ∀ v, v < n → g v = h v) : orS g n = orS h n := by
  induction n with
  | zero => rfl
  | succ n ih =>
    show orS g n ||| (if g n then _ else _) = orS h n ||| (if h n then _ else _)
    rw [ih (fun v hv => e v (by omega)), e n (by omega)]
theorem sob_congr {T T' : Nat → Int32} {A B : List Int32} {n : Nat} (e : ∀ k, k < n → T (A.getD k 0).toNatClampNeg = T' (A.getD k 0).toNatClampNeg) : sob T A B n = sob T' A B n := by
  induction n with
  | zero => rfl
  | succ n ih =>
    show (sob T A B n && _) = (sob T' A B n && _)
    rw [ih (fun v hv => e v (by omega)), e n (by omega)]
theorem sob_false {T : Nat → Int32} {A B : List Int32} {k : Nat} (h : sob T A B k = false) : ∀ n, k ≤ n → sob T A B n = false := by
  intro n
  induction n with
  | zero => intro h2; rw [show k = 0 by omega] at h; exact h
  | succ n ih =>
    intro h2
    by_cases h3 : k = n + 1
    · rw [← h3]; exact h
    · show (sob T A B n && _) = false
      rw [ih (by omega)]
      rfl
section SN
variable {scr : Option (List Int32)} {P : ba_P} {w : ba_W} {f : Nat → Nat → Int32} {l : Nat → List Int32} {q : List (List Int32)}
def Tw (f : Nat → Nat → Int32) (p : Nat) : Nat → Int32 := fun x => if x = p then tk (f 32 0) (f 32 3) else tk (f (9 + x) 0) (f (9 + x) 3)
theorem s_areSo {N p : Nat} (hN : N ≤ 8) (hc : f 29 3 = nI N) (hp : p < 6) (hn2 : (f 2 3).toInt ≤ 6) (h30 : (l 30).length = 8) (h31 : (l 31).length = 8) (hd : ∀ k, k < N → 0 ≤ ((l 30).getD k 0).toInt ∧ ((l 30).getD k 0).toInt < (f 2 3).toInt)
    (h1 : sob (Tw f p) (l 30) (l 31) N = true → P (some (.int 1)) (wW f l q)) (h0 : sob (Tw f p) (l 30) (l 31) N = false → P (some (.int 0)) (wW f l q)) : ba_go scr ix_X3_areSoWithout 0 [some (.ref 30), some (.ref 3), some (.int (nI p)), none, none] [] (wW f l q) 0 0 P := by
  have loop : ∀ (m k : Nat) (x : Int32) (z : Option Value), k + m = N → x = nI k → sob (Tw f p) (l 30) (l 31) k = true → ba_go scr ix_X3_areSoWithout 2 [some (.ref 30), some (.ref 3), some (.int (nI p)), some (.int x), z] [] (wW f l q) 0 0 P := by
    intro m
    induction m with
    | zero =>
      intro k x z e1 e2 e3
      subst e2
      have h4 : k = N := by omega
      subst h4
      refine run_X3_areSoWithout 6 ?_
      refine Exists.intro _ (And.intro (rfl) ?_)
      rw [hc]
      refine And.intro (fun _ => ?_) (fun e => absurd (by show nI k ≤ nI k; rw [le_i]; omega) e)
      exact And.intro rfl (h1 e3)
    | succ m ih =>
      intro k x z e1 e2 e3
      subst e2
      have hdk := hd k (by omega)
      obtain ⟨y, hy⟩ : ∃ y, y = (l 30).getD k 0 := ⟨_, rfl⟩
      rw [← hy] at hdk
      have hyc := ix_i hdk.1
      have a30 : ∀ xs, ba_ldI xs (wW f l q) 31 (nI k) = some y := fun xs => by
        rw [ldI_of (l := l 30) rfl (by rw [nI_toInt (by omega)]; omega) (by rw [nI_toInt (by omega), h30]; omega), nI_clamp (by omega), hy]
      have a31 : ∀ xs, ba_ldI xs (wW f l q) 32 (nI k) = some ((l 31).getD k 0) := fun xs => by
        rw [ldI_of (l := l 31) rfl (by rw [nI_toInt (by omega)]; omega) (by rw [nI_toInt (by omega), h31]; omega), nI_clamp (by omega)]
      have es : sob (Tw f p) (l 30) (l 31) (k + 1) = decide (Tw f p y.toNatClampNeg = (l 31).getD k 0) := by
        show (sob (Tw f p) (l 30) (l 31) k && _) = _
        rw [e3, Bool.true_and, ← hy]
      have tail : ∀ (who : Nat), ba_go scr ix_X3_areSoWithout 49 [some (.ref 30), some (.ref 3), some (.int (nI p)), some (.int (nI k)), some (.ref who)] [.int (Tw f p y.toNatClampNeg)] (wW f l q) 0 0 P := by
        intro who
        refine run_X3_areSoWithout 5 ?_
        refine Exists.intro _ (And.intro (rfl) ?_)
        refine Exists.intro _ (And.intro (a31 _) ?_)
        refine And.intro (fun c => ?_) (fun c => ?_)
        · have c : Tw f p y.toNatClampNeg = (l 31).getD k 0 := c
          refine run_X3_areSoWithout 2 ?_
          exact ih (k + 1) _ _ (by omega) (nI_1 k) (by rw [es, decide_eq_true c])
        · have c : ¬ Tw f p y.toNatClampNeg = (l 31).getD k 0 := c
          refine run_X3_areSoWithout 2 ?_
          exact And.intro rfl (h0 (sob_false (k := k + 1) (by rw [es, decide_eq_false c]) N (by omega)))
      refine run_X3_areSoWithout 10 ?_
      refine Exists.intro _ (And.intro (rfl) ?_)
      rw [hc]
      refine And.intro (fun e => absurd e (by show ¬ nI N ≤ nI k; rw [le_i, nI_toInt (by omega), nI_toInt (by omega)]; omega)) (fun _ => ?_)
      refine Exists.intro _ (And.intro (rfl) ?_)
      refine Exists.intro _ (And.intro (a30 _) ?_)
      refine And.intro (fun c => ?_) (fun c => ?_)
      · have c : ¬ y = nI p := c
        have hne : ¬ y.toNatClampNeg = p := fun e => c (by rw [eq_i, nI_toInt (by omega)]; omega)
        refine run_X3_areSoWithout 11 ?_
        refine Exists.intro _ (And.intro (rfl) ?_)
        refine Exists.intro _ (And.intro (a30 _) ?_)
        refine And.intro rfl (s_personOf (b := 2) (Or.inl rfl) hn2 (fun g1 g2 => ?_) (fun g1 => absurd hdk g1))
        have hat := people_at (f := f) (l := l) (q := q) (p := y.toNatClampNeg) (by omega)
        refine And.intro (ck rfl rfl rfl rfl (isC_of hat)) (s_takes hat ?_)
        have h := tail (2 + 7 + y.toNatClampNeg + 1)
        have eT : Tw f p y.toNatClampNeg = tk (f (9 + y.toNatClampNeg) 0) (f (9 + y.toNatClampNeg) 3) := if_neg hne
        rw [eT] at h
        exact h
      · have c : y = nI p := Classical.not_not.mp c
        have he : y.toNatClampNeg = p := by rw [c, nI_clamp (by omega)]
        refine run_X3_areSoWithout 8 ?_
        refine Exists.intro _ (And.intro (rfl) ?_)
        have hat : (wW f l q)[32]? = some (.inr (2, [.int (f 32 0), .int (f 32 1), .int (f 32 2), .int (f 32 3)])) := rfl
        refine And.intro rfl (s_takes hat ?_)
        have h := tail 33
        have eT : Tw f p y.toNatClampNeg = tk (f 32 0) (f 32 3) := if_pos he
        rw [eT] at h
        exact h
  refine run_X3_areSoWithout 2 ?_
  exact loop N 0 0 none (by omega) rfl rfl
theorem s_becomes32 {p : Nat} (hp : p < 6) (hP : ∀ F : Nat → Nat → Int32, (∀ x y, ¬ x = 32 → F x y = f x y) → F 32 0 = f (9 + p) 0 → F 32 3 = f (9 + p) 3 → P none (wW F l q)) : ba_go scr ix_X2_becomes 0 [some (.ref 33), some (.ref (9 + p + 1))] [] (wW f l q) 0 0 P := by
  refine run_X2_becomes 40 ?_
  refine Exists.intro _ (And.intro (fld_of (people_at (f := f) hp) rfl) ?_)
  refine Exists.intro (wW (u2 f 32 0 (f (9 + p) 0)) l q) (And.intro rfl ?_)
  obtain ⟨F1, h1⟩ : ∃ F1, F1 = u2 f 32 0 (f (9 + p) 0) := ⟨_, rfl⟩
  rw [← h1]
  refine Exists.intro _ (And.intro (fld_of (people_at (f := F1) hp) rfl) ?_)
  refine Exists.intro (wW (u2 F1 32 1 (F1 (9 + p) 1)) l q) (And.intro rfl ?_)
  obtain ⟨F2, h2⟩ : ∃ F2, F2 = u2 F1 32 1 (F1 (9 + p) 1) := ⟨_, rfl⟩
  rw [← h2]
  refine Exists.intro _ (And.intro (fld_of (people_at (f := F2) hp) rfl) ?_)
  refine Exists.intro (wW (u2 F2 32 2 (F2 (9 + p) 2)) l q) (And.intro rfl ?_)
  obtain ⟨F3, h3⟩ : ∃ F3, F3 = u2 F2 32 2 (F2 (9 + p) 2) := ⟨_, rfl⟩
  rw [← h3]
  refine Exists.intro _ (And.intro (fld_of (people_at (f := F3) hp) rfl) ?_)
  refine Exists.intro (wW (u2 F3 32 3 (F3 (9 + p) 3)) l q) (And.intro rfl ?_)
  have e3 : F3 (9 + p) 3 = f (9 + p) 3 := by rw [h3, u2_ne (by omega), h2, u2_ne (by omega), h1, u2_ne (by omega)]
  refine hP _ (fun x y hx => ?_) ?_ ?_
  · rw [u2_ne hx, h3, u2_ne hx, h2, u2_ne hx, h1, u2_ne hx]
  · rw [u2_nj (by decide), h3, u2_nj (by decide), h2, u2_nj (by decide), h1, u2_eq]
  · rw [u2_eq, e3]
end SN
