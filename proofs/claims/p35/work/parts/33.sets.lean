/-! sets of people, as bits -/
def b6 (a b c d e h : Bool) : Int32 := nI (a.toNat + 2 * b.toNat + 4 * c.toNat + 8 * d.toNat + 16 * e.toNat + 32 * h.toNat)
def B6 (g : Nat → Bool) : Int32 := b6 (g 0) (g 1) (g 2) (g 3) (g 4) (g 5)
def c6 (g : Nat → Bool) : Nat := (g 0).toNat + (g 1).toNat + (g 2).toNat + (g 3).toNat + (g 4).toNat + (g 5).toNat
def v6 (g : Nat → Bool) : Nat := (g 0).toNat + 2 * (g 1).toNat + 4 * (g 2).toNat + 8 * (g 3).toNat + 16 * (g 4).toNat + 32 * (g 5).toNat
theorem B6_congr {g h : Nat → Bool} (e : ∀ x, x < 6 → g x = h x) : B6 g = B6 h := by
  unfold B6
  rw [e 0 (by decide), e 1 (by decide), e 2 (by decide), e 3 (by decide), e 4 (by decide), e 5 (by decide)]
theorem c6_congr {g h : Nat → Bool} (e : ∀ x, x < 6 → g x = h x) : c6 g = c6 h := by
  unfold c6
  rw [e 0 (by decide), e 1 (by decide), e 2 (by decide), e 3 (by decide), e 4 (by decide), e 5 (by decide)]
theorem c6_add {g h : Nat → Bool} (e : ∀ x, x < 6 → (g x && h x) = false) : c6 (fun x => g x || h x) = c6 g + c6 h := by
  have k : ∀ x, x < 6 → (g x || h x).toNat = (g x).toNat + (h x).toNat := fun x hx => by
    have := e x hx
    revert this
    cases g x <;> cases h x <;> decide
  unfold c6
  rw [k 0 (by decide), k 1 (by decide), k 2 (by decide), k 3 (by decide), k 4 (by decide), k 5 (by decide)]
  omega
theorem c6_le (g : Nat → Bool) : c6 g ≤ 6 := by
  unfold c6
  cases g 0 <;> cases g 1 <;> cases g 2 <;> cases g 3 <;> cases g 4 <;> cases g 5 <;> decide
theorem v6_lt (g : Nat → Bool) : v6 g < 64 := by
  unfold v6
  cases g 0 <;> cases g 1 <;> cases g 2 <;> cases g 3 <;> cases g 4 <;> cases g 5 <;> decide
theorem B6_or0 (g : Nat → Bool) : B6 g ||| 0 = B6 g := (by decide +kernel : ∀ a b c d e h : Bool, b6 a b c d e h ||| 0 = b6 a b c d e h) (g 0) (g 1) (g 2) (g 3) (g 4) (g 5)
theorem B6_uni (g k : Nat → Bool) : B6 g ||| B6 k = B6 (fun x => g x || k x) := by
  have h := (by decide +kernel : ∀ x y : Fin 64, nI x.1 ||| nI y.1 = nI (x.1 ||| y.1)) ⟨v6 g, v6_lt g⟩ ⟨v6 k, v6_lt k⟩
  have e : ∀ a b c d e f a' b' c' d' e' f' : Bool, ((a.toNat + 2 * b.toNat + 4 * c.toNat + 8 * d.toNat + 16 * e.toNat + 32 * f.toNat) ||| (a'.toNat + 2 * b'.toNat + 4 * c'.toNat + 8 * d'.toNat + 16 * e'.toNat + 32 * f'.toNat)) = (a || a').toNat + 2 * (b || b').toNat + 4 * (c || c').toNat + 8 * (d || d').toNat + 16 * (e || e').toNat + 32 * (f || f').toNat := by decide +kernel
  exact h.trans (congrArg nI (e _ _ _ _ _ _ _ _ _ _ _ _))
theorem B6_or (g : Nat → Bool) {p : Nat} (hp : p < 6) : B6 g ||| (Int32.ofInt 1 <<< (nI p &&& 31)) = B6 (fun x => g x || decide (x = p)) := by
  match p, hp with
  | 0, _ => exact (by decide +kernel : ∀ a b c d e h : Bool, b6 a b c d e h ||| (Int32.ofInt 1 <<< (nI 0 &&& 31)) = b6 (a || true) (b || false) (c || false) (d || false) (e || false) (h || false)) (g 0) (g 1) (g 2) (g 3) (g 4) (g 5)
  | 1, _ => exact (by decide +kernel : ∀ a b c d e h : Bool, b6 a b c d e h ||| (Int32.ofInt 1 <<< (nI 1 &&& 31)) = b6 (a || false) (b || true) (c || false) (d || false) (e || false) (h || false)) (g 0) (g 1) (g 2) (g 3) (g 4) (g 5)
  | 2, _ => exact (by decide +kernel : ∀ a b c d e h : Bool, b6 a b c d e h ||| (Int32.ofInt 1 <<< (nI 2 &&& 31)) = b6 (a || false) (b || false) (c || true) (d || false) (e || false) (h || false)) (g 0) (g 1) (g 2) (g 3) (g 4) (g 5)
  | 3, _ => exact (by decide +kernel : ∀ a b c d e h : Bool, b6 a b c d e h ||| (Int32.ofInt 1 <<< (nI 3 &&& 31)) = b6 (a || false) (b || false) (c || false) (d || true) (e || false) (h || false)) (g 0) (g 1) (g 2) (g 3) (g 4) (g 5)
  | 4, _ => exact (by decide +kernel : ∀ a b c d e h : Bool, b6 a b c d e h ||| (Int32.ofInt 1 <<< (nI 4 &&& 31)) = b6 (a || false) (b || false) (c || false) (d || false) (e || true) (h || false)) (g 0) (g 1) (g 2) (g 3) (g 4) (g 5)
  | 5, _ => exact (by decide +kernel : ∀ a b c d e h : Bool, b6 a b c d e h ||| (Int32.ofInt 1 <<< (nI 5 &&& 31)) = b6 (a || false) (b || false) (c || false) (d || false) (e || false) (h || true)) (g 0) (g 1) (g 2) (g 3) (g 4) (g 5)
theorem B6_and (g : Nat → Bool) {p : Nat} (hp : p < 6) : B6 g &&& ((Int32.ofInt 1 <<< (nI p &&& 31)) ^^^ Int32.ofInt (-1)) = B6 (fun x => g x && !decide (x = p)) := by
  match p, hp with
  | 0, _ => exact (by decide +kernel : ∀ a b c d e h : Bool, b6 a b c d e h &&& ((Int32.ofInt 1 <<< (nI 0 &&& 31)) ^^^ Int32.ofInt (-1)) = b6 (a && !true) (b && !false) (c && !false) (d && !false) (e && !false) (h && !false)) (g 0) (g 1) (g 2) (g 3) (g 4) (g 5)
  | 1, _ => exact (by decide +kernel : ∀ a b c d e h : Bool, b6 a b c d e h &&& ((Int32.ofInt 1 <<< (nI 1 &&& 31)) ^^^ Int32.ofInt (-1)) = b6 (a && !false) (b && !true) (c && !false) (d && !false) (e && !false) (h && !false)) (g 0) (g 1) (g 2) (g 3) (g 4) (g 5)
  | 2, _ => exact (by decide +kernel : ∀ a b c d e h : Bool, b6 a b c d e h &&& ((Int32.ofInt 1 <<< (nI 2 &&& 31)) ^^^ Int32.ofInt (-1)) = b6 (a && !false) (b && !false) (c && !true) (d && !false) (e && !false) (h && !false)) (g 0) (g 1) (g 2) (g 3) (g 4) (g 5)
  | 3, _ => exact (by decide +kernel : ∀ a b c d e h : Bool, b6 a b c d e h &&& ((Int32.ofInt 1 <<< (nI 3 &&& 31)) ^^^ Int32.ofInt (-1)) = b6 (a && !false) (b && !false) (c && !false) (d && !true) (e && !false) (h && !false)) (g 0) (g 1) (g 2) (g 3) (g 4) (g 5)
  | 4, _ => exact (by decide +kernel : ∀ a b c d e h : Bool, b6 a b c d e h &&& ((Int32.ofInt 1 <<< (nI 4 &&& 31)) ^^^ Int32.ofInt (-1)) = b6 (a && !false) (b && !false) (c && !false) (d && !false) (e && !true) (h && !false)) (g 0) (g 1) (g 2) (g 3) (g 4) (g 5)
  | 5, _ => exact (by decide +kernel : ∀ a b c d e h : Bool, b6 a b c d e h &&& ((Int32.ofInt 1 <<< (nI 5 &&& 31)) ^^^ Int32.ofInt (-1)) = b6 (a && !false) (b && !false) (c && !false) (d && !false) (e && !false) (h && !true)) (g 0) (g 1) (g 2) (g 3) (g 4) (g 5)
theorem B6_bit (g : Nat → Bool) {p : Nat} (hp : p < 6) : (B6 g >>> (nI p &&& 31)) &&& Int32.ofInt 1 = (if g p then 1 else 0) := by
  match p, hp with
  | 0, _ => exact (by decide +kernel : ∀ a b c d e h : Bool, (b6 a b c d e h >>> (nI 0 &&& 31)) &&& Int32.ofInt 1 = (if a then 1 else 0)) (g 0) (g 1) (g 2) (g 3) (g 4) (g 5)
  | 1, _ => exact (by decide +kernel : ∀ a b c d e h : Bool, (b6 a b c d e h >>> (nI 1 &&& 31)) &&& Int32.ofInt 1 = (if b then 1 else 0)) (g 0) (g 1) (g 2) (g 3) (g 4) (g 5)
  | 2, _ => exact (by decide +kernel : ∀ a b c d e h : Bool, (b6 a b c d e h >>> (nI 2 &&& 31)) &&& Int32.ofInt 1 = (if c then 1 else 0)) (g 0) (g 1) (g 2) (g 3) (g 4) (g 5)
  | 3, _ => exact (by decide +kernel : ∀ a b c d e h : Bool, (b6 a b c d e h >>> (nI 3 &&& 31)) &&& Int32.ofInt 1 = (if d then 1 else 0)) (g 0) (g 1) (g 2) (g 3) (g 4) (g 5)
  | 4, _ => exact (by decide +kernel : ∀ a b c d e h : Bool, (b6 a b c d e h >>> (nI 4 &&& 31)) &&& Int32.ofInt 1 = (if e then 1 else 0)) (g 0) (g 1) (g 2) (g 3) (g 4) (g 5)
  | 5, _ => exact (by decide +kernel : ∀ a b c d e h : Bool, (b6 a b c d e h >>> (nI 5 &&& 31)) &&& Int32.ofInt 1 = (if h then 1 else 0)) (g 0) (g 1) (g 2) (g 3) (g 4) (g 5)
def wkb (m : Int32) : Bool := decide (m = 0) || decide (m = 2)
theorem wkb_t {m : Int32} (h : wk m) : wkb m = true := by unfold wkb; rcases h with h | h <;> simp [h]
theorem wkb_f {m : Int32} (h : ¬ wk m) : wkb m = false := by
  unfold wkb
  rw [decide_eq_false (fun e => h (Or.inl e)), decide_eq_false (fun e => h (Or.inr e))]
  rfl
def pe (f : Nat → Nat → Int32) (b n : Nat) (o : Int32) : Nat → Bool := fun p => decide (p < n) && decide (f (b + 7 + p) 1 = o)
def wo (f : Nat → Nat → Int32) (b n : Nat) (o : Int32) : Nat → Bool := fun p => pe f b n o p && wkb (f (b + 7 + p) 2)
section SS
variable {scr : Option (List Int32)} {P : ba_P} {w : ba_W} {f : Nat → Nat → Int32} {l : Nat → List Int32} {q : List (List Int32)}
theorem s_bitCount {g : Nat → Bool} {x : Int32} (hx : x = B6 g) (hP : P (some (.int (nI (c6 g)))) w) : ba_go scr ix_J6_bitCount_0f7a4 0 [some (.int x)] [] w 0 0 P := by
  subst hx
  refine run_J6_bitCount_0f7a4 60 ?_
  show P (some (.int _)) w
  refine Eq.mpr (congrArg (fun z => P (some (Value.int z)) w) ?_) hP
  unfold B6 c6
  generalize g 0 = a
  generalize g 1 = b
  generalize g 2 = c
  generalize g 3 = d
  generalize g 4 = e
  generalize g 5 = h
  revert a b c d e h
  decide +kernel
def pcn : Nat → Nat → Nat
  | 0, _ => 0
  | k + 1, v => v % 2 + pcn k (v / 2)
theorem pcn_0 : ∀ k, pcn k 0 = 0
  | 0 => rfl
  | k + 1 => by show 0 % 2 + pcn k (0 / 2) = 0; rw [Nat.zero_div, pcn_0 k]
theorem wr_cnt {b : Nat} (hb : b = 2 ∨ b = 16) : ba_fld (wW f l q) (b + 1) 6 3 = some (.int (f b 3)) ∧ ba_fld (wW f l q) (b + 1) 6 2 = some (.ref (b + 7)) ∧ ba_fld (wW f l q) (b + 1) 6 1 = some (.ref (b + 3)) ∧ ba_fld (wW f l q) (b + 1) 6 0 = some (.ref (b + 2)) := by
  rcases hb with rfl | rfl <;> exact ⟨rfl, rfl, rfl, rfl⟩
theorem ps_ldn {b : Nat} (hb : b = 2 ∨ b = 16) {i : Nat} (h : i < 6) : ba_ldR (wW f l q) (b + 7) (nI i) = some (.ref (b + 7 + i + 1)) := by
  rw [ps_ld hb (by rw [nI_toInt (by omega)]; omega) (by rw [nI_toInt (by omega)]; omega), nI_clamp (by omega)]
theorem s_peopleOf {b n : Nat} (hb : b = 2 ∨ b = 16) (hn : n ≤ 6) (hc : f b 3 = nI n) {o : Int32} (hP : P (some (.int (B6 (pe f b n o)))) (wW f l q)) : ba_go scr ix_X7_peopleOf 0 [some (.ref (b + 1)), some (.int o), none, none] [] (wW f l q) 0 0 P := by
  have loop : ∀ (m i : Nat) (s x : Int32), i + m = n → x = nI i → s = B6 (fun y => decide (y < i) && pe f b n o y) → ba_go scr ix_X7_peopleOf 4 [some (.ref (b + 1)), some (.int o), some (.int s), some (.int x)] [] (wW f l q) 0 0 P := by
    intro m
    induction m with
    | zero =>
      intro i s x h1 h2 h3
      subst h2; subst h3
      refine run_X7_peopleOf 4 ?_
      refine Exists.intro _ (And.intro ((wr_cnt hb).1) ?_)
      rw [hc]
      refine And.intro (fun _ => ?_) (fun e => absurd (by show nI n ≤ nI i; rw [le_i, nI_toInt (by omega), nI_toInt (by omega)]; omega) e)
      refine run_X7_peopleOf 2 ?_
      rw [B6_congr (h := pe f b n o) (fun y hy => by unfold pe; by_cases h : y < i <;> simp [h]; omega)]
      exact hP
    | succ m ih =>
      intro i s x h1 h2 h3
      subst h2; subst h3
      refine run_X7_peopleOf 11 ?_
      refine Exists.intro _ (And.intro ((wr_cnt hb).1) ?_)
      rw [hc]
      refine And.intro (fun e => absurd e (by show ¬ nI n ≤ nI i; rw [le_i, nI_toInt (by omega), nI_toInt (by omega)]; omega)) (fun _ => ?_)
      refine Exists.intro _ (And.intro ((wr_cnt hb).2.1) ?_)
      refine Exists.intro _ (And.intro (ps_ldn hb (by omega)) ?_)
      refine Exists.intro _ (And.intro (fld_of (ps_at hb (by omega)) rfl) ?_)
      refine And.intro (fun c => ?_) (fun c => ?_)
      · have c : ¬ f (b + 7 + i) 1 = o := c
        refine run_X7_peopleOf 2 ?_
        refine ih (i + 1) _ (nI i + 1) (by omega) (nI_1 i) (B6_congr (fun y hy => ?_))
        by_cases h : y = i
        · subst h
          unfold pe
          simp [c]
        · have : y < i + 1 ↔ y < i := by omega
          simp only [this]
      · have c : f (b + 7 + i) 1 = o := Classical.not_not.mp c
        refine run_X7_peopleOf 8 ?_
        refine ih (i + 1) _ (nI i + 1) (by omega) (nI_1 i) ((B6_or _ (by omega)).trans (B6_congr (fun y hy => ?_)))
        by_cases h : y = i
        · subst h
          unfold pe
          simp [c]
          omega
        · have : y < i + 1 ↔ y < i := by omega
          simp [this, h]
  refine run_X7_peopleOf 4 ?_
  exact loop n 0 0 0 (by omega) rfl rfl
theorem s_workersOf {b n : Nat} (hb : b = 2 ∨ b = 16) (hn : n ≤ 6) (hc : f b 3 = nI n) {o : Int32} (hm : ∀ p, p < 6 → 0 ≤ (f (b + 7 + p) 2).toInt ∧ (f (b + 7 + p) 2).toInt ≤ 3) (hP : P (some (.int (B6 (wo f b n o)))) (wW f l q)) : ba_go scr ix_X7_workersOf 0 [some (.ref (b + 1)), some (.int o), none, none] [] (wW f l q) 0 0 P := by
  have loop : ∀ (m i : Nat) (s x : Int32), i + m = n → x = nI i → s = B6 (fun y => pe f b n o y && (decide (i ≤ y) || wkb (f (b + 7 + y) 2))) → ba_go scr ix_X7_workersOf 8 [some (.ref (b + 1)), some (.int o), some (.int s), some (.int x)] [] (wW f l q) 0 0 P := by
    intro m
    induction m with
    | zero =>
      intro i s x h1 h2 h3
      subst h2; subst h3
      refine run_X7_workersOf 4 ?_
      refine Exists.intro _ (And.intro ((wr_cnt hb).1) ?_)
      rw [hc]
      refine And.intro (fun _ => ?_) (fun e => absurd (by show nI n ≤ nI i; rw [le_i, nI_toInt (by omega), nI_toInt (by omega)]; omega) e)
      refine run_X7_workersOf 2 ?_
      rw [B6_congr (h := wo f b n o) (fun y hy => by unfold wo pe; by_cases h : y < n <;> simp [h]; rw [decide_eq_false (show ¬ i ≤ y by omega)]; rfl)]
      exact hP
    | succ m ih =>
      intro i s x h1 h2 h3
      subst h2; subst h3
      refine run_X7_workersOf 10 ?_
      refine Exists.intro _ (And.intro ((wr_cnt hb).1) ?_)
      rw [hc]
      refine And.intro (fun e => absurd e (by show ¬ nI n ≤ nI i; rw [le_i, nI_toInt (by omega), nI_toInt (by omega)]; omega)) (fun _ => ?_)
      refine Exists.intro _ (And.intro ((wr_cnt hb).2.1) ?_)
      refine Exists.intro _ (And.intro (ps_ldn hb (by omega)) ?_)
      have hat := ps_at (f := f) (l := l) (q := q) hb (show i < 6 by omega)
      refine And.intro (ck rfl rfl rfl rfl (isC_of hat)) (s_isAtWork hat (hm i (by omega)).1 (hm i (by omega)).2 (fun c => ?_) (fun c => ?_))
      · have c := wkb_t c
        refine And.intro (fun _ => ?_) (fun e => absurd (by decide) e)
        refine run_X7_workersOf 2 ?_
        refine ih (i + 1) _ (nI i + 1) (by omega) (nI_1 i) (B6_congr (fun y hy => ?_))
        by_cases h : y = i
        · subst h
          simp [c]
        · have : i + 1 ≤ y ↔ i ≤ y := by omega
          simp only [this]
      · have c := wkb_f c
        refine And.intro (fun e => absurd e (by decide)) (fun _ => ?_)
        refine run_X7_workersOf 10 ?_
        refine ih (i + 1) _ (nI i + 1) (by omega) (nI_1 i) ((B6_and _ (by omega)).trans (B6_congr (fun y hy => ?_)))
        by_cases h : y = i
        · subst h
          simp [c]
        · have : i + 1 ≤ y ↔ i ≤ y := by omega
          simp [this, h]
  refine run_X7_workersOf 6 ?_
  refine And.intro (ck rfl rfl rfl rfl (by rcases hb with rfl | rfl <;> rfl)) (s_peopleOf hb hn hc ?_)
  exact loop n 0 (B6 (pe f b n o)) 0 (by omega) rfl (B6_congr (fun y hy => by simp))
def ro (l : Nat → List Int32) (n : Nat) (o w : Int32) : Nat → Bool := fun p => decide (p < n) && (decide ((l 46).getD p 0 = o) && (decide (w = 0) || wkb ((l 47).getD p 0)))
theorem pe_dis {b n : Nat} : ∀ x, x < 6 → (wo f b n 0 x && wo f b n 1 x) = false := fun x _ => by
  unfold wo pe
  by_cases h : f (b + 7 + x) 1 = 0
  · rw [h]; simp
  · rw [decide_eq_false h]; simp
theorem wo_uni {b n : Nat} : c6 (fun x => wo f b n 0 x || wo f b n 1 x) = c6 (wo f b n 0) + c6 (wo f b n 1) := c6_add pe_dis
end SS
