/-! the law's people -/
def px (l : Nat → List Int32) (p : Nat) : Nat := ((l 42).getD (16 + p) 0).toNatClampNeg
def LQ (l : Nat → List Int32) (n : Nat) : Prop := (l 42).length = 22 ∧ (l 42).getD 0 0 = nI n ∧ n ≤ 6 ∧ ∀ p, p < n → (l 42).getD (16 + p) 0 = nI (px l p) ∧ px l p < 320
def lw (l : Nat → List Int32) (n o : Nat) : Nat → Bool := fun p => decide (p < n) && (decide (px l p / 8 % 4 % 2 = 0) && (decide (o = 2) || decide (px l p / 4 % 2 = o)))
def so (t rd : Nat → Nat) : Nat → Bool
  | 0 => true
  | k + 1 => so t rd k && decide (t (rd k % 8) = rd k / 8)
theorem rd_p {x : Nat} (hx : x < 256) : nI x &&& (Int8.ofInt 7).toInt32 = nI (x % 8) := (by decide +kernel : ∀ x : Fin 256, nI x.1 &&& (Int8.ofInt 7).toInt32 = nI (x.1 % 8)) ⟨x, hx⟩
theorem rd_v {x : Nat} (hx : x < 256) : nI x >>> (Int32.ofInt 3 &&& 31) = nI (x / 8) := (by decide +kernel : ∀ x : Fin 256, nI x.1 >>> (Int32.ofInt 3 &&& 31) = nI (x.1 / 8)) ⟨x, hx⟩
theorem rem2 {x : Nat} (hx : x < 4) : nI x - nI x / Int32.ofInt 2 * Int32.ofInt 2 = nI (x % 2) := (by decide +kernel : ∀ x : Fin 4, nI x.1 - nI x.1 / Int32.ofInt 2 * Int32.ofInt 2 = nI (x.1 % 2)) ⟨x, hx⟩
section LD
variable {scr : Option (List Int32)} {P : ba_P} {w : ba_W} {f : Nat → Nat → Int32} {l : Nat → List Int32} {q : List (List Int32)}
variable {n : Nat}
theorem s_Lwork {o : Nat} {y : Int32} (h : LQ l n) (hy : y = nI o) (ho : o < 3) (hP : P (some (.int (B6 (lw l n o)))) (wW f l q)) : ba_go scr ix_L_work 0 [some (.ref 43), some (.int y), none, none] [] (wW f l q) 0 0 P := by
  subst hy
  obtain ⟨h22, h0, hn6, hp⟩ := h
  have e0 := ldW (f := f) (q := q) h22 (i := 0) (by decide) (x := 0) rfl
  rw [h0] at e0
  have loop : ∀ (m i : Nat) (s x : Int32), i + m = n → x = nI i → s = B6 (fun p => decide (p < i) && lw l n o p) → ba_go scr ix_L_work 4 [some (.ref 43), some (.int (nI o)), some (.int s), some (.int x)] [] (wW f l q) 0 0 P := by
    intro m
    induction m with
    | zero =>
      intro i s x h1 h2 h3
      subst h2; subst h3
      have h4 : i = n := by omega
      refine run_L_work 8 ?_
      refine Exists.intro _ (And.intro (e0 _) ?_)
      refine And.intro (fun _ => ?_) (fun e => absurd (by show nI n ≤ nI i; rw [h4, le_i]; omega) e)
      have e : B6 (fun p => decide (p < i) && lw l n o p) = B6 (lw l n o) := B6_congr (fun p _ => by
        unfold lw
        rw [h4]
        cases decide (p < n) <;> rfl)
      rw [e]
      exact hP
    | succ m ih =>
      intro i s x h1 h2 h3
      subst h2; subst h3
      obtain ⟨p1, p2⟩ := hp i (by omega)
      have hm4 : px l i / 8 % 4 < 4 := Nat.mod_lt _ (by decide)
      have ho2 : px l i / 4 % 2 < 2 := Nat.mod_lt _ (by decide)
      have no : lw l n o i = false → ba_go scr ix_L_work 42 [some (.ref 43), some (.int (nI o)), some (.int (B6 (fun p => decide (p < i) && lw l n o p))), some (.int (nI i))] [.int (B6 (fun p => decide (p < i) && lw l n o p))] (wW f l q) 0 0 P := by
        intro g
        refine run_L_work 5 ?_
        refine ih (i + 1) _ _ (by omega) (nI_1 i) ((B6_or0 _).trans (B6_congr (fun p _ => ?_)))
        by_cases e : p = i
        · subst e; rw [g, Bool.and_false, Bool.and_false]
        · have : (p < i) ↔ (p < i + 1) := by omega
          simp only [this]
      have yes : lw l n o i = true → ba_go scr ix_L_work 36 [some (.ref 43), some (.int (nI o)), some (.int (B6 (fun p => decide (p < i) && lw l n o p))), some (.int (nI i))] [.int (B6 (fun p => decide (p < i) && lw l n o p))] (wW f l q) 0 0 P := by
        intro g
        refine run_L_work 8 ?_
        refine ih (i + 1) _ _ (by omega) (nI_1 i) ((B6_or _ (by omega)).trans (B6_congr (fun p _ => ?_)))
        by_cases e : p = i
        · subst e; simp [g]
        · have : (p < i) ↔ (p < i + 1) := by omega
          simp [this, e]
      have lwi : lw l n o i = (decide (px l i / 8 % 4 % 2 = 0) && (decide (o = 2) || decide (px l i / 4 % 2 = o))) := by
        unfold lw
        rw [decide_eq_true (show i < n by omega), Bool.true_and]
      refine run_L_work 9 ?_
      refine Exists.intro _ (And.intro (e0 _) ?_)
      refine And.intro (fun e => absurd e (by show ¬ nI n ≤ nI i; rw [le_i, nI_toInt (by omega), nI_toInt (by omega)]; omega)) (fun _ => ?_)
      refine And.intro rfl (s_Lmark h22 rfl (by omega) p1 p2 ?_)
      refine run_L_work 3 ?_
      refine And.intro (by decide) ?_
      have er := rem2 hm4
      refine And.intro (fun c => ?_) (fun c => ?_)
      · have c : ¬ nI (px l i / 8 % 4) - nI (px l i / 8 % 4) / Int32.ofInt 2 * Int32.ofInt 2 = nI 0 := c
        rw [er, nI_eq (by omega) (by decide)] at c
        exact no (by rw [lwi, decide_eq_false c]; rfl)
      · have c : nI (px l i / 8 % 4) - nI (px l i / 8 % 4) / Int32.ofInt 2 * Int32.ofInt 2 = nI 0 := Classical.not_not.mp c
        rw [er, nI_eq (by omega) (by decide)] at c
        refine run_L_work 3 ?_
        refine And.intro (fun d => ?_) (fun d => ?_)
        · have d : nI o = nI 2 := d
          rw [nI_eq (by omega) (by decide)] at d
          exact yes (by rw [lwi, decide_eq_true c, decide_eq_true d]; rfl)
        · have d : ¬ nI o = nI 2 := d
          rw [nI_eq (by omega) (by decide)] at d
          refine run_L_work 3 ?_
          refine And.intro rfl (s_Loffice h22 rfl (by omega) p1 p2 ?_)
          refine run_L_work 2 ?_
          refine And.intro (fun e => ?_) (fun e => ?_)
          · have e : ¬ nI (px l i / 4 % 2) = nI o := e
            rw [nI_eq (by omega) (by omega)] at e
            exact no (by rw [lwi, decide_eq_false d, decide_eq_false e]; simp)
          · have e : nI (px l i / 4 % 2) = nI o := Classical.not_not.mp e
            rw [nI_eq (by omega) (by omega)] at e
            exact yes (by rw [lwi, decide_eq_true c, decide_eq_true e]; simp)
  refine run_L_work 4 ?_
  refine loop n 0 _ 0 (by omega) rfl ?_
  have e : B6 (fun p => decide (p < 0) && lw l n o p) = B6 (fun _ => false) := B6_congr (fun p _ => by simp)
  rw [e]
  rfl
theorem s_LareSo {N r : Nat} {rd : Nat → Nat} {y : Int32} (h : LQ l n) (hy : y = nI N) (hN : N < 100) (hr : ∀ i, i < N → rd i < 256 ∧ rd i % 8 < n) (ld : ∀ xs i, i < N → ba_ldI xs (wW f l q) r (nI i) = some (nI (rd i)))
    (h1 : so (fun p => ty (px l p)) rd N = true → P (some (.int 1)) (wW f l q)) (h0 : so (fun p => ty (px l p)) rd N = false → P (some (.int 0)) (wW f l q)) :
    ba_go scr ix_L_areSo 0 [some (.ref 43), some (.ref r), some (.int y), none, none] [] (wW f l q) 0 0 P := by
  subst hy
  obtain ⟨h22, hh0, hn6, hp⟩ := h
  have tyb : ∀ x, x < 320 → ty x < 40 := fun x hx => by unfold ty; split; omega; split <;> omega
  have loop : ∀ (m i : Nat) (s x : Int32), i + m = N → x = nI i → s = (if so (fun p => ty (px l p)) rd i then 1 else 0) → ba_go scr ix_L_areSo 5 [some (.ref 43), some (.ref r), some (.int (nI N)), some (.int s), some (.int x)] [] (wW f l q) 0 0 P := by
    intro m
    induction m with
    | zero =>
      intro i s x g1 g2 g3
      subst g2; subst g3
      have h4 : i = N := by omega
      subst h4
      refine run_L_areSo 5 ?_
      refine And.intro (fun _ => ?_) (fun e => absurd (by show nI i ≤ nI i; rw [le_i]; omega) e)
      cases hs : so (fun p => ty (px l p)) rd i with
      | true => exact And.intro rfl (h1 hs)
      | false => exact And.intro rfl (h0 hs)
    | succ m ih =>
      intro i s x g1 g2 g3
      subst g2; subst g3
      obtain ⟨r1, r2⟩ := hr i (by omega)
      obtain ⟨p1, p2⟩ := hp (rd i % 8) r2
      have hs1 : so (fun p => ty (px l p)) rd (i + 1) = (so (fun p => ty (px l p)) rd i && decide (ty (px l (rd i % 8)) = rd i / 8)) := rfl
      have yes : so (fun p => ty (px l p)) rd (i + 1) = true → ∀ s : Int32, ba_go scr ix_L_areSo 35 [some (.ref 43), some (.ref r), some (.int (nI N)), some (.int s), some (.int (nI i))] [] (wW f l q) 0 0 P := by
        intro g s
        refine run_L_areSo 5 ?_
        exact ih (i + 1) _ _ (by omega) (nI_1 i) (by rw [g]; rfl)
      have no : so (fun p => ty (px l p)) rd (i + 1) = false → ∀ s : Int32, ba_go scr ix_L_areSo 39 [some (.ref 43), some (.ref r), some (.int (nI N)), some (.int s), some (.int (nI i))] [] (wW f l q) 0 0 P := by
        intro g s
        refine run_L_areSo 4 ?_
        exact ih (i + 1) _ _ (by omega) (nI_1 i) (by rw [g]; rfl)
      refine run_L_areSo 3 ?_
      refine And.intro (fun e => absurd e (by show ¬ nI N ≤ nI i; rw [le_i, nI_toInt (by omega), nI_toInt (by omega)]; omega)) (fun _ => ?_)
      cases hs : so (fun p => ty (px l p)) rd i with
      | false =>
        refine run_L_areSo 2 ?_
        refine And.intro (fun _ => ?_) (fun e => absurd rfl e)
        exact no (by rw [hs1, hs]; rfl) _
      | true =>
        refine run_L_areSo 2 ?_
        refine And.intro (fun e => absurd e (by decide)) (fun _ => ?_)
        refine run_L_areSo 7 ?_
        refine Exists.intro _ (And.intro (ld _ i (by omega)) ?_)
        have ep := rd_p r1
        refine And.intro rfl (s_Ltakes h22 ep (by omega) p1 p2 ?_)
        refine run_L_areSo 6 ?_
        refine Exists.intro _ (And.intro (ld _ i (by omega)) ?_)
        have ev := rd_v r1
        have tb := tyb _ p2
        refine And.intro (fun c => ?_) (fun c => ?_)
        · have c : ¬ nI (ty (px l (rd i % 8))) = nI (rd i) >>> (Int32.ofInt 3 &&& 31) := c
          rw [ev, nI_eq (by omega) (by omega)] at c
          exact no (by rw [hs1, decide_eq_false c, Bool.and_false]) _
        · have c : nI (ty (px l (rd i % 8))) = nI (rd i) >>> (Int32.ofInt 3 &&& 31) := Classical.not_not.mp c
          rw [ev, nI_eq (by omega) (by omega)] at c
          exact yes (by rw [hs1, hs, decide_eq_true c]; rfl) _
  refine run_L_areSo 4 ?_
  exact loop N 0 1 0 (by omega) rfl rfl
end LD
