/-! raid -/
def RT : Nat → Bool := fun x => decide (x = 1) || decide (x = 3)
def mn (f : Nat → Nat → Int32) (p : Nat) : Nat := (f (9 + p) 2).toNatClampNeg
def dp (f : Nat → Nat → Int32) (l : Nat → List Int32) (p : Nat) : Nat := Ds (gs (l 5)) RT (mn f p)
def dt (f : Nat → Nat → Int32) (l : Nat → List Int32) (p : Nat) : Nat := dp f l p * tn f p
def able (f : Nat → Nat → Int32) (l : Nat → List Int32) (W : Nat → Bool) : Nat → Bool := fun x => W x && !decide (dp f l x = 4)
def bst (ok : Nat → Bool) (val : Nat → Nat) : Nat → Option Nat
  | 0 => none
  | j + 1 => if ok j && (match bst ok val j with | none => true | some b => decide (val j < val b)) then some j else bst ok val j
def bcode : Option Nat → Int32
  | none => -9
  | some b => nI b
def bink (d : Int32) (val : Nat → Nat) : Option Nat → Int32
  | none => d
  | some b => nI (val b)
theorem bst_lt {ok : Nat → Bool} {val : Nat → Nat} : ∀ {j b : Nat}, bst ok val j = some b → b < j
  | 0, b, h => (nomatch h)
  | j + 1, b, h => by
    obtain ⟨C, hC⟩ : ∃ C, bst ok val (j + 1) = (if C = true then some j else bst ok val j) := ⟨_, rfl⟩
    rw [hC] at h
    cases C with
    | true => rw [if_pos rfl] at h; cases h; omega
    | false => rw [if_neg (by decide)] at h; have := bst_lt h; omega
section RD
variable {scr : Option (List Int32)} {P : ba_P} {w : ba_W} {f : Nat → Nat → Int32} {l : Nat → List Int32} {q : List (List Int32)}
theorem mn_lt (hP : IvP f) {p : Nat} (hp : p < 6) : mn f p < 4 ∧ f (9 + p) 2 = nI (mn f p) := by
  have h := (hP.at hp).2.2.1
  have h2 := ix_i h.1
  unfold mn
  refine ⟨by omega, ?_⟩
  rw [eq_i, nI_toInt (by omega)]
  omega
theorem dp_le {p : Nat} : dp f l p ≤ 4 := by
  show ds (fun k => Wt (gs (l 5)) RT k (mn f p)) ≤ 4
  exact ds_le4
theorem rt10 : (10 : Int32) = B6 RT := by decide +kernel
theorem s_raidInk {n : Nat} {Y : Nat → Bool} {x : Int32} (hx : x = B6 Y) (hn : n ≤ 6) (hc : f 2 3 = nI n) (hp : IvP f) (h5 : (l 5).length = 12) (hr : rv (l 5)) (hP : P (some (.int (nI (smi (dt f l) Y n)))) (wW f l q)) : ba_go scr ix_X7_raidInk 0 [some (.ref 3), some (.int x), none, none, none] [] (wW f l q) 0 0 P := by
  subst hx
  have loop : ∀ (m i : Nat) (s x : Int32) (z : Option Value), i + m = n → x = nI i → s = nI (smi (dt f l) Y i) → ba_go scr ix_X7_raidInk 4 [some (.ref 3), some (.int (B6 Y)), some (.int s), some (.int x), z] [] (wW f l q) 0 0 P := by
    intro m
    induction m with
    | zero =>
      intro i s x z h1 h2 h3
      subst h2; subst h3
      have h4 : i = n := by omega
      subst h4
      refine run_X7_raidInk 6 ?_
      refine Exists.intro _ (And.intro (rfl) ?_)
      rw [hc]
      refine And.intro (fun _ => ?_) (fun e => absurd (by show nI i ≤ nI i; rw [le_i]; omega) e)
      exact hP
    | succ m ih =>
      intro i s x z h1 h2 h3
      subst h2; subst h3
      obtain ⟨m1, m2⟩ := mn_lt hp (show i < 6 by omega)
      have hat := people_at (f := f) (l := l) (q := q) (p := i) (by omega)
      refine run_X7_raidInk 32 ?_
      refine Exists.intro _ (And.intro (rfl) ?_)
      rw [hc]
      refine And.intro (fun e => absurd e (by show ¬ nI n ≤ nI i; rw [le_i, nI_toInt (by omega), nI_toInt (by omega)]; omega)) (fun _ => ?_)
      refine Exists.intro _ (And.intro (rfl) ?_)
      refine Exists.intro _ (And.intro (rfl) ?_)
      refine Exists.intro _ (And.intro (ps_ldn (b := 2) (Or.inl rfl) (by omega)) ?_)
      refine Exists.intro _ (And.intro (fld_of hat rfl) ?_)
      rw [m2]
      refine And.intro rfl (s_fewest rt10 m1 h5 hr ?_)
      refine Exists.intro _ (And.intro (rfl) ?_)
      refine Exists.intro _ (And.intro (ps_ldn (b := 2) (Or.inl rfl) (by omega)) ?_)
      refine And.intro (ck rfl rfl rfl rfl (isC_of hat)) (s_takes hat ?_)
      refine ih (i + 1) _ _ _ (by omega) (nI_1 i) ?_
      show nI (smi (dt f l) Y i) + ((B6 Y >>> (nI i &&& 31)) &&& Int32.ofInt 1) * nI (dp f l i) * tk (f (9 + i) 0) (f (9 + i) 3) = nI (smi (dt f l) Y i + (if Y i then dt f l i else 0))
      rw [B6_bit Y (by omega), (tn_le hp (show i < 6 by omega)).2]
      cases Y i with
      | true =>
        show nI (smi (dt f l) Y i) + nI 1 * nI (dp f l i) * nI (tn f i) = nI (smi (dt f l) Y i + dp f l i * tn f i)
        rw [nI_mul, nI_mul, nI_add, Nat.one_mul]
      | false =>
        show nI (smi (dt f l) Y i) + nI 0 * nI (dp f l i) * nI (tn f i) = nI (smi (dt f l) Y i + 0)
        rw [nI_mul, nI_mul, nI_add, Nat.zero_mul, Nat.zero_mul]
  refine run_X7_raidInk 4 ?_
  exact loop n 0 0 0 none (by omega) rfl rfl
theorem s_removable {n : Nat} {W : Nat → Bool} (hW : ∀ x, n ≤ x → W x = false) (hn : n ≤ 6) (hc : f 2 3 = nI n) (hp : IvP f) (h5 : (l 5).length = 12) (hr : rv (l 5)) (hP : P (some (.int (B6 (able f l W)))) (wW f l q)) : ba_go scr ix_X7_removable 0 [some (.ref 3), some (.int (B6 W)), none, none] [] (wW f l q) 0 0 P := by
  have loop : ∀ (m i : Nat) (s x : Int32), i + m = n → x = nI i → s = B6 (fun y => W y && (decide (i ≤ y) || !decide (dp f l y = 4))) → ba_go scr ix_X7_removable 4 [some (.ref 3), some (.int (B6 W)), some (.int s), some (.int x)] [] (wW f l q) 0 0 P := by
    intro m
    induction m with
    | zero =>
      intro i s x h1 h2 h3
      subst h2; subst h3
      have h4 : i = n := by omega
      subst h4
      refine run_X7_removable 6 ?_
      refine Exists.intro _ (And.intro (rfl) ?_)
      rw [hc]
      refine And.intro (fun _ => ?_) (fun e => absurd (by show nI i ≤ nI i; rw [le_i]; omega) e)
      have e : B6 (fun y => W y && (decide (i ≤ y) || !decide (dp f l y = 4))) = B6 (able f l W) := B6_congr (fun y hy => by
        unfold able
        by_cases h : i ≤ y
        · rw [hW y h]; rfl
        · rw [decide_eq_false h, Bool.false_or])
      rw [e]
      exact hP
    | succ m ih =>
      intro i s x h1 h2 h3
      subst h2; subst h3
      obtain ⟨m1, m2⟩ := mn_lt hp (show i < 6 by omega)
      have hat := people_at (f := f) (l := l) (q := q) (p := i) (by omega)
      have hd4 : dp f l i ≤ 4 := dp_le
      refine run_X7_removable 15 ?_
      refine Exists.intro _ (And.intro (rfl) ?_)
      rw [hc]
      refine And.intro (fun e => absurd e (by show ¬ nI n ≤ nI i; rw [le_i, nI_toInt (by omega), nI_toInt (by omega)]; omega)) (fun _ => ?_)
      refine Exists.intro _ (And.intro (rfl) ?_)
      refine Exists.intro _ (And.intro (rfl) ?_)
      refine Exists.intro _ (And.intro (ps_ldn (b := 2) (Or.inl rfl) (by omega)) ?_)
      refine Exists.intro _ (And.intro (fld_of hat rfl) ?_)
      rw [m2]
      refine And.intro rfl (s_fewest rt10 m1 h5 hr ?_)
      refine And.intro (fun c => ?_) (fun c => ?_)
      · have c : ¬ nI (dp f l i) = nI 4 := c
        rw [nI_eq (by omega) (by decide)] at c
        refine run_X7_removable 2 ?_
        refine ih (i + 1) _ _ (by omega) (nI_1 i) (B6_congr (fun y hy => ?_))
        by_cases h : y = i
        · subst h
          rw [decide_eq_false c]
          simp
        · have : i + 1 ≤ y ↔ i ≤ y := by omega
          simp only [this]
      · have c : nI (dp f l i) = nI 4 := Classical.not_not.mp c
        rw [nI_eq (by omega) (by decide)] at c
        refine run_X7_removable 10 ?_
        refine ih (i + 1) _ _ (by omega) (nI_1 i) ((B6_and _ (by omega)).trans (B6_congr (fun y hy => ?_)))
        by_cases h : y = i
        · subst h
          simp [c]
        · have : i + 1 ≤ y ↔ i ≤ y := by omega
          simp [this, h]
  refine run_X7_removable 4 ?_
  exact loop n 0 _ 0 (by omega) rfl (B6_congr (fun y hy => by simp))
def okc (f : Nat → Nat → Int32) (l : Nat → List Int32) (W : Nat → Bool) (k j : Nat) : Bool := decide (B6 (fun x => bset j x && !able f l W x) = 0) && decide (c6 (fun x => W x && !bset j x) ≤ k)
theorem s_cheapest {n k : Nat} {o : Int32} (hk : k ≤ 6) (hn : n ≤ 6) (hc : f 2 3 = nI n) (hp : IvP f) (hm : ∀ p, p < 6 → 0 ≤ (f (2 + 7 + p) 2).toInt ∧ (f (2 + 7 + p) 2).toInt ≤ 3) (h5 : (l 5).length = 12) (hr : rv (l 5)) (hP : P (some (.int (bcode (bst (okc f l (wo f 2 n o) k) (fun j => smi (dt f l) (bset j) n) 64)))) (wW f l q)) : ba_go scr ix_X7_cheapestRaid 0 [some (.ref 3), some (.int o), some (.int (nI k)), none, none, none, none, none, none] [] (wW f l q) 0 0 P := by
  obtain ⟨W, hWe⟩ : ∃ W, W = wo f 2 n o := ⟨_, rfl⟩
  obtain ⟨val, hval⟩ : ∃ val, val = fun j => smi (dt f l) (bset j) n := ⟨_, rfl⟩
  rw [← hWe, ← hval] at hP
  have sb : ∀ (Y : Nat → Bool) (i : Nat), i ≤ 6 → smi (dt f l) Y i ≤ 80 * i := by
    intro Y i
    induction i with
    | zero => intro _; exact Nat.le_refl _
    | succ i ih =>
      intro h
      show smi (dt f l) Y i + (if Y i then dt f l i else 0) ≤ _
      have h1 := ih (by omega)
      have h2 : dt f l i ≤ 4 * 20 := Nat.mul_le_mul dp_le (tn_le hp (show i < 6 by omega)).1
      split <;> omega
  have vb : ∀ j, val j ≤ 480 := fun j => by rw [hval]; have := sb (bset j) n hn; show smi (dt f l) (bset j) n ≤ 480; omega
  have loop : ∀ (m j : Nat) (b s x : Int32) (z : Option Value), j + m = 64 → x = nI j → b = bcode (bst (okc f l W k) val j) → s = bink 0 val (bst (okc f l W k) val j) → ba_go scr ix_X7_cheapestRaid 23 [some (.ref 3), some (.int o), some (.int (nI k)), some (.int (B6 W)), some (.int (B6 (able f l W))), some (.int b), some (.int s), some (.int x), z] [] (wW f l q) 0 0 P := by
    intro m
    induction m with
    | zero =>
      intro j b s x z h1 h2 h3 h4
      subst h2; subst h3; subst h4
      have h4 : j = 64 := by omega
      subst h4
      refine run_X7_cheapestRaid 5 ?_
      refine And.intro (fun _ => ?_) (fun e => absurd (by decide) e)
      exact hP
    | succ m ih =>
      intro j b s x z h1 h2 h3 h4
      subst h2; subst h3; subst h4
      have es : bst (okc f l W k) val (j + 1) = (if okc f l W k j && (match bst (okc f l W k) val j with | none => true | some b => decide (val j < val b)) then some j else bst (okc f l W k) val j) := rfl
      have no : ∀ z : Option Value, bst (okc f l W k) val (j + 1) = bst (okc f l W k) val j → ba_go scr ix_X7_cheapestRaid 83 [some (.ref 3), some (.int o), some (.int (nI k)), some (.int (B6 W)), some (.int (B6 (able f l W))), some (.int (bcode (bst (okc f l W k) val j))), some (.int (bink 0 val (bst (okc f l W k) val j))), some (.int (nI j)), z] [] (wW f l q) 0 0 P := by
        intro z h
        refine run_X7_cheapestRaid 2 ?_
        exact ih (j + 1) _ _ _ _ (by omega) (nI_1 j) (by rw [h]) (by rw [h])
      have yes : bst (okc f l W k) val (j + 1) = some j → ba_go scr ix_X7_cheapestRaid 75 [some (.ref 3), some (.int o), some (.int (nI k)), some (.int (B6 W)), some (.int (B6 (able f l W))), some (.int (bcode (bst (okc f l W k) val j))), some (.int (bink 0 val (bst (okc f l W k) val j))), some (.int (nI j)), some (.int (nI (val j)))] [] (wW f l q) 0 0 P := by
        intro h
        refine run_X7_cheapestRaid 6 ?_
        exact ih (j + 1) _ _ _ _ (by omega) (nI_1 j) (by rw [h]; rfl) (by rw [h]; rfl)
      refine run_X7_cheapestRaid 9 ?_
      refine And.intro (fun e => absurd e (by show ¬ (64 : Int32) ≤ nI j; rw [le_i, nI_toInt (by omega), show (64 : Int32).toInt = 64 from rfl]; omega)) (fun _ => ?_)
      have ez : (nI j &&& (B6 (able f l W) ^^^ -1) = 0) ↔ B6 (fun x => bset j x && !able f l W x) = 0 := by
        rw [bset_B6 (show j < 64 by omega), B6_not]
      refine And.intro (fun c => ?_) (fun c => ?_)
      · have c : ¬ B6 (fun x => bset j x && !able f l W x) = 0 := fun e => c (ez.mpr e)
        have ok : okc f l W k j = false := by unfold okc; rw [decide_eq_false c]; rfl
        exact no _ (by rw [es, ok]; rfl)
      · have c : B6 (fun x => bset j x && !able f l W x) = 0 := ez.mp (Classical.not_not.mp c)
        refine run_X7_cheapestRaid 8 ?_
        refine And.intro rfl (s_bitCount (g := fun x => W x && !bset j x) (by show B6 W &&& (nI j ^^^ -1) = _; rw [bset_B6 (show j < 64 by omega), B6_not]) ?_)
        have hc6 := c6_le (fun x => W x && !bset j x)
        refine And.intro (fun d => ?_) (fun d => ?_)
        · have d : nI k < nI (c6 (fun x => W x && !bset j x)) := d
          rw [lt_i, nI_toInt (by omega), nI_toInt (by omega)] at d
          have ok : okc f l W k j = false := by unfold okc; rw [decide_eq_false (show ¬ c6 (fun x => W x && !bset j x) ≤ k by omega), Bool.and_false]
          exact no _ (by rw [es, ok]; rfl)
        · have d : ¬ nI k < nI (c6 (fun x => W x && !bset j x)) := d
          rw [lt_i, nI_toInt (by omega), nI_toInt (by omega)] at d
          have ok : okc f l W k j = true := by unfold okc; rw [decide_eq_true c, decide_eq_true (show c6 (fun x => W x && !bset j x) ≤ k by omega)]; rfl
          refine run_X7_cheapestRaid 7 ?_
          refine And.intro rfl (s_raidInk (bset_B6 (by omega)) hn hc hp h5 hr ?_)
          have ev : smi (dt f l) (bset j) n = val j := by rw [hval]
          rw [ev]
          cases hb : bst (okc f l W k) val j with
          | none =>
            refine And.intro (fun _ => ?_) (fun e => absurd rfl e)
            have := yes (by rw [es, ok, hb]; rfl)
            rw [hb] at this
            exact this
          | some b =>
            have hlt := bst_lt hb
            refine And.intro (fun e => ?_) (fun _ => ?_)
            · exfalso
              have e : nI b = -9 := e
              have := congrArg Int32.toInt e
              rw [nI_toInt (by omega), show (-9 : Int32).toInt = -9 from rfl] at this
              omega
            · refine run_X7_cheapestRaid 3 ?_
              have v1 := vb j
              have v2 := vb b
              refine And.intro (fun g => ?_) (fun g => ?_)
              · have g : nI (val b) ≤ nI (val j) := g
                rw [le_i, nI_toInt (by omega), nI_toInt (by omega)] at g
                have := no (some (.int (nI (val j)))) (by rw [es, ok, hb]; show (if (true && decide (val j < val b)) = true then _ else _) = _; rw [decide_eq_false (show ¬ val j < val b by omega)]; rfl)
                rw [hb] at this
                exact this
              · have g : ¬ nI (val b) ≤ nI (val j) := g
                rw [le_i, nI_toInt (by omega), nI_toInt (by omega)] at g
                have := yes (by rw [es, ok, hb]; show (if (true && decide (val j < val b)) = true then _ else _) = _; rw [decide_eq_true (show val j < val b by omega)]; rfl)
                rw [hb] at this
                exact this
  refine run_X7_cheapestRaid 14 ?_
  refine And.intro rfl (s_workersOf (b := 2) (Or.inl rfl) hn hc hm ?_)
  rw [← hWe]
  refine And.intro rfl (s_removable (by rw [hWe]; exact wo_n) hn hc hp h5 hr ?_)
  exact loop 64 0 _ _ 0 none rfl rfl rfl rfl
end RD
