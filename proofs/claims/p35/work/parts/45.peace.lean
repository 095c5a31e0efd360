/-! peace -/
def smi (t : Nat → Nat) (Y : Nat → Bool) : Nat → Nat
  | 0 => 0
  | i + 1 => smi t Y i + (if Y i then t i else 0)
def bset (j : Nat) : Nat → Bool := fun p => Nat.beq (j / 2 ^ p % 2) 1
def mx (ok : Nat → Bool) (val : Nat → Nat) : Nat → Nat
  | 0 => 0
  | j + 1 => if ok j then max (mx ok val j) (val j) else mx ok val j
theorem smi_congr {t : Nat → Nat} {Y Z : Nat → Bool} : ∀ {n : Nat}, (∀ x, x < n → Y x = Z x) → smi t Y n = smi t Z n
  | 0, _ => rfl
  | n + 1, h => by
    show smi t Y n + (if Y n then t n else 0) = smi t Z n + (if Z n then t n else 0)
    rw [smi_congr (fun x hx => h x (by omega)), h n (by omega)]
theorem smi_add {t : Nat → Nat} {Y : Nat → Bool} {p : Nat} (hY : Y p = false) : ∀ i, smi t (fun x => Y x || decide (x = p)) i = smi t Y i + (if p < i then t p else 0)
  | 0 => rfl
  | i + 1 => by
    show smi t _ i + (if (Y i || decide (i = p)) then t i else 0) = smi t Y i + (if Y i then t i else 0) + _
    rw [smi_add hY i]
    by_cases h : i = p
    · subst h
      rw [hY, decide_eq_true rfl, if_neg (Nat.lt_irrefl _), if_pos (show i < i + 1 by omega)]
      simp
    · rw [decide_eq_false h, Bool.or_false]
      by_cases h2 : p < i
      · rw [if_pos h2, if_pos (show p < i + 1 by omega)]; omega
      · rw [if_neg h2, if_neg (show ¬ p < i + 1 by omega)]; omega
theorem smi_cut {t : Nat → Nat} {Y : Nat → Bool} {n : Nat} (h : ∀ x, n ≤ x → Y x = false) : ∀ d, smi t Y (n + d) = smi t Y n
  | 0 => rfl
  | d + 1 => by
    show smi t Y (n + d) + (if Y (n + d) then t (n + d) else 0) = _
    rw [smi_cut h d, h _ (by omega)]
    rfl
theorem exch {t : Nat → Nat} {P Y : Nat → Bool} {th : Nat} (h1 : ∀ x, x < 6 → Y x = true → th ≤ t x) (h2 : ∀ x, x < 6 → P x = true → Y x = false → t x ≤ th) : smi t P 6 + th * c6 Y ≤ smi t Y 6 + th * c6 P := by
  have k : ∀ x, x < 6 → (if P x then t x else 0) + th * (Y x).toNat ≤ (if Y x then t x else 0) + th * (P x).toNat := by
    intro x hx
    cases hP : P x <;> cases hY : Y x
    · simp
    · have := h1 x hx hY
      simp
      exact this
    · have := h2 x hx hP hY
      simp
      exact this
    · simp
  have k0 := k 0 (by decide)
  have k1 := k 1 (by decide)
  have k2 := k 2 (by decide)
  have k3 := k 3 (by decide)
  have k4 := k 4 (by decide)
  have k5 := k 5 (by decide)
  unfold c6
  simp only [smi, Nat.mul_add]
  omega
theorem c6_one {p : Nat} (hp : p < 6) : c6 (fun x => decide (x = p)) = 1 := by
  match p, hp with
  | 0, _ => rfl
  | 1, _ => rfl
  | 2, _ => rfl
  | 3, _ => rfl
  | 4, _ => rfl
  | 5, _ => rfl
theorem c6_ins {Y : Nat → Bool} {p : Nat} (hp : p < 6) (hY : Y p = false) : c6 (fun x => Y x || decide (x = p)) = c6 Y + 1 := by
  rw [c6_add (fun x _ => ?_), c6_one hp]
  by_cases h : x = p
  · rw [h, hY]; rfl
  · rw [decide_eq_false h, Bool.and_false]
theorem mx_max {ok : Nat → Bool} {val : Nat → Nat} {T : Nat} : ∀ {n : Nat}, (∀ j, j < n → ok j = true → val j ≤ T) → mx ok val n ≤ T
  | 0, _ => Nat.zero_le _
  | n + 1, h => by
    show (if ok n then max (mx ok val n) (val n) else mx ok val n) ≤ T
    have h1 := mx_max (fun j hj => h j (Nat.lt_succ_of_lt hj))
    cases h2 : ok n with
    | true => have := h n (by omega) h2; rw [if_pos rfl]; omega
    | false => exact h1
theorem mx_ge {ok : Nat → Bool} {val : Nat → Nat} {j : Nat} (hj : ok j = true) : ∀ {n : Nat}, j < n → val j ≤ mx ok val n
  | 0, h => absurd h (by omega)
  | n + 1, h => by
    show val j ≤ (if ok n then max (mx ok val n) (val n) else mx ok val n)
    by_cases h2 : j = n
    · subst h2; rw [hj, if_pos rfl]; omega
    · have := mx_ge (val := val) hj (n := n) (by omega)
      cases h2 : ok n with
      | true => rw [if_pos rfl]; omega
      | false => exact this
theorem bset_B6 {j : Nat} (hj : j < 64) : nI j = B6 (bset j) := (by decide +kernel : ∀ j : Fin 64, nI j.1 = B6 (bset j.1)) ⟨j, hj⟩
theorem bset_v6 (P : Nat → Bool) : ∀ x, x < 6 → bset (v6 P) x = P x := by
  have h := (by decide +kernel : ∀ a b c d e f : Bool, bset (a.toNat + 2 * b.toNat + 4 * c.toNat + 8 * d.toNat + 16 * e.toNat + 32 * f.toNat) 0 = a ∧ bset (a.toNat + 2 * b.toNat + 4 * c.toNat + 8 * d.toNat + 16 * e.toNat + 32 * f.toNat) 1 = b ∧ bset (a.toNat + 2 * b.toNat + 4 * c.toNat + 8 * d.toNat + 16 * e.toNat + 32 * f.toNat) 2 = c ∧ bset (a.toNat + 2 * b.toNat + 4 * c.toNat + 8 * d.toNat + 16 * e.toNat + 32 * f.toNat) 3 = d ∧ bset (a.toNat + 2 * b.toNat + 4 * c.toNat + 8 * d.toNat + 16 * e.toNat + 32 * f.toNat) 4 = e ∧ bset (a.toNat + 2 * b.toNat + 4 * c.toNat + 8 * d.toNat + 16 * e.toNat + 32 * f.toNat) 5 = f) (P 0) (P 1) (P 2) (P 3) (P 4) (P 5)
  intro x hx
  match x, hx with
  | 0, _ => exact h.1
  | 1, _ => exact h.2.1
  | 2, _ => exact h.2.2.1
  | 3, _ => exact h.2.2.2.1
  | 4, _ => exact h.2.2.2.2.1
  | 5, _ => exact h.2.2.2.2.2
theorem B6_not (g k : Nat → Bool) : B6 g &&& (B6 k ^^^ -1) = B6 (fun x => g x && !k x) := by
  have h := (by decide +kernel : ∀ x y : Fin 64, nI x.1 &&& (nI y.1 ^^^ -1) = nI (x.1 &&& (63 - y.1))) ⟨v6 g, v6_lt g⟩ ⟨v6 k, v6_lt k⟩
  have e : ∀ a b c d e f a' b' c' d' e' f' : Bool, ((a.toNat + 2 * b.toNat + 4 * c.toNat + 8 * d.toNat + 16 * e.toNat + 32 * f.toNat) &&& (63 - (a'.toNat + 2 * b'.toNat + 4 * c'.toNat + 8 * d'.toNat + 16 * e'.toNat + 32 * f'.toNat))) = (a && !a').toNat + 2 * (b && !b').toNat + 4 * (c && !c').toNat + 8 * (d && !d').toNat + 16 * (e && !e').toNat + 32 * (f && !f').toNat := by decide +kernel
  exact h.trans (congrArg nI (e _ _ _ _ _ _ _ _ _ _ _ _))
theorem B6_z6 {h : Nat → Bool} : B6 h = 0 ↔ ∀ x, x < 6 → h x = false := by
  have e : B6 h = 0 ↔ (h 0 = false ∧ h 1 = false ∧ h 2 = false ∧ h 3 = false ∧ h 4 = false ∧ h 5 = false) := by
    unfold B6
    cases h 0 <;> cases h 1 <;> cases h 2 <;> cases h 3 <;> cases h 4 <;> cases h 5 <;> decide +kernel
  rw [e]
  constructor
  · rintro ⟨a, b, c, d, e, f⟩ x hx
    match x, hx with
    | 0, _ => exact a
    | 1, _ => exact b
    | 2, _ => exact c
    | 3, _ => exact d
    | 4, _ => exact e
    | 5, _ => exact f
  · intro k
    exact ⟨k 0 (by decide), k 1 (by decide), k 2 (by decide), k 3 (by decide), k 4 (by decide), k 5 (by decide)⟩
def tn (f : Nat → Nat → Int32) (p : Nat) : Nat := (tk (f (9 + p) 0) (f (9 + p) 3)).toNatClampNeg
section PC
variable {scr : Option (List Int32)} {P : ba_P} {w : ba_W} {f : Nat → Nat → Int32} {l : Nat → List Int32} {q : List (List Int32)}
theorem tn_le (hP : IvP f) {p : Nat} (hp : p < 6) : tn f p ≤ 20 ∧ tk (f (9 + p) 0) (f (9 + p) 3) = nI (tn f p) := by
  have h := hP.at hp
  have h1 := tk_i h.1 h.2.2.2
  have h2 := ix_i h1.1
  unfold tn
  refine ⟨by omega, ?_⟩
  rw [eq_i, nI_toInt (by omega)]
  omega
theorem s_takesOf {n : Nat} {Y : Nat → Bool} {x : Int32} (hx : x = B6 Y) (hn : n ≤ 6) (hc : f 2 3 = nI n) (hp : IvP f) (hP : P (some (.int (nI (smi (tn f) Y n)))) (wW f l q)) : ba_go scr ix_X7_takesOf 0 [some (.ref 3), some (.int x), none, none] [] (wW f l q) 0 0 P := by
  subst hx
  have loop : ∀ (m i : Nat) (s x : Int32), i + m = n → x = nI i → s = nI (smi (tn f) Y i) → ba_go scr ix_X7_takesOf 4 [some (.ref 3), some (.int (B6 Y)), some (.int s), some (.int x)] [] (wW f l q) 0 0 P := by
    intro m
    induction m with
    | zero =>
      intro i s x h1 h2 h3
      subst h2; subst h3
      have h4 : i = n := by omega
      subst h4
      refine run_X7_takesOf 6 ?_
      refine Exists.intro _ (And.intro (rfl) ?_)
      rw [hc]
      refine And.intro (fun _ => ?_) (fun e => absurd (by show nI i ≤ nI i; rw [le_i]; omega) e)
      exact hP
    | succ m ih =>
      intro i s x h1 h2 h3
      subst h2; subst h3
      refine run_X7_takesOf 20 ?_
      refine Exists.intro _ (And.intro (rfl) ?_)
      rw [hc]
      refine And.intro (fun e => absurd e (by show ¬ nI n ≤ nI i; rw [le_i, nI_toInt (by omega), nI_toInt (by omega)]; omega)) (fun _ => ?_)
      refine Exists.intro _ (And.intro (rfl) ?_)
      refine Exists.intro _ (And.intro (ps_ldn (b := 2) (Or.inl rfl) (by omega)) ?_)
      have hat := people_at (f := f) (l := l) (q := q) (p := i) (by omega)
      refine And.intro (ck rfl rfl rfl rfl (isC_of hat)) (s_takes hat ?_)
      refine ih (i + 1) _ _ (by omega) (nI_1 i) ?_
      show nI (smi (tn f) Y i) + ((B6 Y >>> (nI i &&& 31)) &&& Int32.ofInt 1) * tk (f (9 + i) 0) (f (9 + i) 3) = nI (smi (tn f) Y i + (if Y i then tn f i else 0))
      rw [B6_bit Y (by omega), (tn_le hp (show i < 6 by omega)).2]
      cases Y i with
      | true =>
        show nI (smi (tn f) Y i) + nI 1 * nI (tn f i) = nI (smi (tn f) Y i + tn f i)
        rw [nI_mul, nI_add, Nat.one_mul]
      | false =>
        show nI (smi (tn f) Y i) + nI 0 * nI (tn f i) = nI (smi (tn f) Y i + 0)
        rw [nI_mul, nI_add, Nat.zero_mul]
  refine run_X7_takesOf 4 ?_
  exact loop n 0 0 0 (by omega) rfl rfl
def okS (S : Nat → Bool) (k j : Nat) : Bool := decide (B6 (fun x => bset j x && !S x) = 0) && decide (c6 (bset j) = k)
theorem s_mostTakes {n k : Nat} {S : Nat → Bool} (hk : k ≤ 6) (hn : n ≤ 6) (hc : f 2 3 = nI n) (hp : IvP f) (hS : ∀ x, n ≤ x → S x = false) (hP : P (some (.int (nI (mx (okS S k) (fun j => smi (tn f) (bset j) n) 64)))) (wW f l q)) : ba_go scr ix_X7_mostTakes 0 [some (.ref 3), some (.int (B6 S)), some (.int (nI k)), none, none] [] (wW f l q) 0 0 P := by
  have sb : ∀ (Y : Nat → Bool) (i : Nat), i ≤ 6 → smi (tn f) Y i ≤ 20 * i := by
    intro Y i
    induction i with
    | zero => intro _; exact Nat.le_refl _
    | succ i ih =>
      intro h
      show smi (tn f) Y i + (if Y i then tn f i else 0) ≤ _
      have h1 := ih (by omega)
      have h2 := (tn_le hp (show i < 6 by omega)).1
      split <;> omega
  have mb : ∀ j, mx (okS S k) (fun j => smi (tn f) (bset j) n) j ≤ 120 := fun j => mx_max (fun j _ _ => by have := sb (bset j) n hn; omega)
  have loop : ∀ (m j : Nat) (s x : Int32), j + m = 64 → x = nI j → s = nI (mx (okS S k) (fun j => smi (tn f) (bset j) n) j) → ba_go scr ix_X7_mostTakes 5 [some (.ref 3), some (.int (B6 S)), some (.int (nI k)), some (.int s), some (.int x)] [] (wW f l q) 0 0 P := by
    intro m
    induction m with
    | zero =>
      intro j s x h1 h2 h3
      subst h2; subst h3
      have h4 : j = 64 := by omega
      subst h4
      refine run_X7_mostTakes 5 ?_
      refine And.intro (fun _ => ?_) (fun e => absurd (by decide) e)
      exact hP
    | succ m ih =>
      intro j s x h1 h2 h3
      subst h2; subst h3
      have es : mx (okS S k) (fun j => smi (tn f) (bset j) n) (j + 1) = (if okS S k j then max (mx (okS S k) (fun j => smi (tn f) (bset j) n) j) (smi (tn f) (bset j) n) else mx (okS S k) (fun j => smi (tn f) (bset j) n) j) := rfl
      have no : okS S k j = false → ba_go scr ix_X7_mostTakes 41 [some (.ref 3), some (.int (B6 S)), some (.int (nI k)), some (.int (nI (mx (okS S k) (fun j => smi (tn f) (bset j) n) j))), some (.int (nI j))] [] (wW f l q) 0 0 P := by
        intro h
        refine run_X7_mostTakes 2 ?_
        exact ih (j + 1) _ _ (by omega) (nI_1 j) (by rw [es, h]; rfl)
      have ez : (nI j &&& (B6 S ^^^ -1) = 0) ↔ B6 (fun x => bset j x && !S x) = 0 := by
        rw [bset_B6 (show j < 64 by omega), B6_not]
      refine run_X7_mostTakes 9 ?_
      refine And.intro (fun e => absurd e (by show ¬ (64 : Int32) ≤ nI j; rw [le_i, nI_toInt (by omega), show (64 : Int32).toInt = 64 from rfl]; omega)) (fun _ => ?_)
      refine And.intro (fun c => ?_) (fun c => ?_)
      · have c : ¬ B6 (fun x => bset j x && !S x) = 0 := fun e => c (ez.mpr e)
        exact no (by unfold okS; rw [decide_eq_false c]; rfl)
      · have c : B6 (fun x => bset j x && !S x) = 0 := ez.mp (Classical.not_not.mp c)
        refine run_X7_mostTakes 4 ?_
        refine And.intro rfl (s_bitCount (bset_B6 (by omega)) ?_)
        have hc6 := c6_le (bset j)
        refine And.intro (fun d => ?_) (fun d => ?_)
        · have d : ¬ nI (c6 (bset j)) = nI k := d
          rw [nI_eq (by omega) (by omega)] at d
          exact no (by unfold okS; rw [decide_eq_false d, Bool.and_false])
        · have d : nI (c6 (bset j)) = nI k := Classical.not_not.mp d
          rw [nI_eq (by omega) (by omega)] at d
          refine run_X7_mostTakes 8 ?_
          refine And.intro rfl (s_takesOf (bset_B6 (by omega)) hn hc hp ?_)
          refine And.intro rfl ?_
          refine ih (j + 1) _ _ (by omega) (nI_1 j) ?_
          have hok : okS S k j = true := by unfold okS; rw [decide_eq_true c, decide_eq_true d]; rfl
          rw [es, hok, if_pos rfl]
          have b1 := mb j
          have b2 := sb (bset j) n hn
          show (if nI (mx (okS S k) (fun j => smi (tn f) (bset j) n) j) < nI (smi (tn f) (bset j) n) then nI (smi (tn f) (bset j) n) else nI (mx (okS S k) (fun j => smi (tn f) (bset j) n) j)) = _
          by_cases h : mx (okS S k) (fun j => smi (tn f) (bset j) n) j < smi (tn f) (bset j) n
          · rw [if_pos (by rw [lt_i, nI_toInt (by omega), nI_toInt (by omega)]; omega), Nat.max_eq_right (by omega)]
          · rw [if_neg (by rw [lt_i, nI_toInt (by omega), nI_toInt (by omega)]; omega), Nat.max_eq_left (by omega)]
  refine run_X7_mostTakes 4 ?_
  exact loop 64 0 0 0 rfl rfl rfl
end PC
