/-! odds -/
theorem nI_div {a b : Nat} (ha : a < 2 ^ 31) (hb : b < 2 ^ 31) : nI a / nI b = nI (a / b) := by
  have h : a / b ≤ a := Nat.div_le_self a b
  apply Int32.toInt_inj.1
  rw [Int32.toInt_div, nI_toInt ha, nI_toInt hb, nI_toInt (by omega), ← Int.ofNat_tdiv, fb_bmod (by generalize a / b = c at *; omega) (by generalize a / b = c at *; omega)]
theorem lN_div {a b : Nat} (ha : a < 2 ^ 31) (hb : b < 2 ^ 31) : lN a / lN b = lN (a / b) := by
  have h : a / b ≤ a := Nat.div_le_self a b
  apply Int64.toInt_inj.1
  rw [Int64.toInt_div, lN_toInt ha, lN_toInt hb, lN_toInt (by omega), ← Int.ofNat_tdiv, fb_bmodL (by generalize a / b = c at *; omega) (by generalize a / b = c at *; omega)]
def T4 (g : Nat → Nat) : Nat := g 0 + g 1 + g 2 + g 3
theorem T4_acc {R v : Nat → Nat} (hR : ∀ r, r < 12 → R r < 4) : T4 (acc R v 12) = 3 * T4 v := by
  have k : ∀ r, r < 12 → T4 (acc R v (r + 1)) = T4 (acc R v r) + v (r / 3) := by
    intro r hr
    have h4 := hR r hr
    have e : ∀ t, acc R v (r + 1) t = acc R v r t + (if R r = t then v (r / 3) else 0) := fun _ => rfl
    unfold T4
    rw [e 0, e 1, e 2, e 3]
    by_cases h0 : R r = 0
    · rw [if_pos h0, if_neg (by omega), if_neg (by omega), if_neg (by omega)]; omega
    · by_cases h1 : R r = 1
      · rw [if_neg h0, if_pos h1, if_neg (by omega), if_neg (by omega)]; omega
      · by_cases h2 : R r = 2
        · rw [if_neg h0, if_neg h1, if_pos h2, if_neg (by omega)]; omega
        · rw [if_neg h0, if_neg h1, if_neg h2, if_pos (by omega)]; omega
  have z : T4 (acc R v 0) = 0 := rfl
  have h0 := k 0 (by decide)
  have h1 := k 1 (by decide)
  have h2 := k 2 (by decide)
  have h3 := k 3 (by decide)
  have h4 := k 4 (by decide)
  have h5 := k 5 (by decide)
  have h6 := k 6 (by decide)
  have h7 := k 7 (by decide)
  have h8 := k 8 (by decide)
  have h9 := k 9 (by decide)
  have h10 := k 10 (by decide)
  have h11 := k 11 (by decide)
  simp only [Nat.reduceDiv, Nat.reduceAdd] at h0 h1 h2 h3 h4 h5 h6 h7 h8 h9 h10 h11
  have e : T4 v = v 0 + v 1 + v 2 + v 3 := rfl
  omega
theorem T4_Wn {R : Nat → Nat} {a : Nat} (ha : a < 4) (hR : ∀ r, r < 12 → R r < 4) : ∀ n, T4 (Wn R a n) = 3 ^ n
  | 0 => by
    match a, ha with
    | 0, _ => rfl
    | 1, _ => rfl
    | 2, _ => rfl
    | 3, _ => rfl
  | n + 1 => by
    show T4 (acc R (Wn R a n) 12) = _
    rw [T4_acc hR, T4_Wn ha hR n, Nat.pow_succ, Nat.mul_comm]
theorem cop3 {u m : Nat} (h : ¬ u % 3 = 0) : Nat.gcd u (3 ^ m) = 1 := by
  have : Nat.Coprime u 3 := by
    show Nat.gcd u 3 = 1
    rw [Nat.gcd_comm, Nat.gcd_rec]
    have : u % 3 = 1 ∨ u % 3 = 2 := by omega
    rcases this with e | e <;> rw [e] <;> decide
  exact this.pow_right m
theorem odd_end {U n j u d : Nat} (hj : j ≤ n) (hU : U = 3 ^ j * u) (hd : 3 ^ n = 3 ^ j * d) (hx : j = n ∨ ¬ u % 3 = 0) : u = U / Nat.gcd U (3 ^ n) ∧ d = 3 ^ n / Nat.gcd U (3 ^ n) := by
  have hp : 0 < 3 ^ j := Nat.pow_pos (by decide)
  have hd2 : d = 3 ^ (n - j) := by
    apply Nat.eq_of_mul_eq_mul_left hp
    rw [← hd, ← Nat.pow_add]
    congr 1
    omega
  have hg : Nat.gcd U (3 ^ n) = 3 ^ j := by
    have e : Nat.gcd u d = 1 := by
      rcases hx with e | e
      · rw [hd2, e, Nat.sub_self, Nat.pow_zero, Nat.gcd_one_right]
      · rw [hd2]; exact cop3 e
    rw [hU, hd, Nat.gcd_mul_left, e, Nat.mul_one]
  rw [hg]
  constructor
  · rw [hU, Nat.mul_div_cancel_left _ hp]
  · rw [hd, Nat.mul_div_cancel_left _ hp]
theorem nI_mod3 {a : Nat} (ha : a < 2 ^ 31) : nI a - nI a / 3 * 3 = nI (a % 3) := by
  have e : nI a / 3 = nI (a / 3) := nI_div (b := 3) ha (by decide)
  have e3 : (3 : Int32).toInt = 3 := rfl
  have h1 : (nI (a / 3)).toInt = ((a / 3 : Nat) : Int) := nI_toInt (by omega)
  have h2 : (nI (a / 3) * 3).toInt = ((a / 3 : Nat) : Int) * 3 := by rw [fb_mulI (by rw [h1, e3]; omega) (by rw [h1, e3]; omega), h1, e3]
  rw [e, eq_i, fb_subI (by rw [h2, nI_toInt ha]; omega) (by rw [h2, nI_toInt ha]; omega), h2, nI_toInt ha, nI_toInt (by omega)]
  omega
theorem lN_mod {a b : Nat} (ha : a < 2 ^ 31) (hb : b < 2 ^ 31) : lN a - lN a / lN b * lN b = lN (a % b) := by
  have h := Nat.div_add_mod a b
  have h9 : a / b * b ≤ a := Nat.div_mul_le_self a b
  rw [lN_div ha hb, lN_mul, lN_sub h9]
  congr 1
  rw [Nat.mul_comm] at h
  omega
section OD
variable {scr : Option (List Int32)} {P : ba_P} {w : ba_W} {f : Nat → Nat → Int32} {l : Nat → List Int32} {q : List (List Int32)}
theorem s_odds_loop {p n k : Int32} {who : Nat} {N U : Nat} (hn : n = nI N) (hN : N < 100) (hU : U < 2 ^ 31) (h3 : 3 ^ N < 2 ^ 31) (h0 : k = 0 → P (some (.long (lN (U / Nat.gcd U (3 ^ N))))) w) (h1 : ¬ k = 0 → P (some (.long (lN (3 ^ N / Nat.gcd U (3 ^ N))))) w) :
    ba_go scr ix_X8_odds 80 [some (.ref 1), some (.int p), some (.int n), some (.int k), some (.ref who), some (.int (nI U)), some (.int (nI (3 ^ N))), some (.int 0)] [] w 0 0 P := by
  subst hn
  have fin : ∀ (j u d : Nat), u < 2 ^ 31 → d < 2 ^ 31 → u = U / Nat.gcd U (3 ^ N) → d = 3 ^ N / Nat.gcd U (3 ^ N) → ba_go scr ix_X8_odds 111 [some (.ref 1), some (.int p), some (.int (nI N)), some (.int k), some (.ref who), some (.int (nI u)), some (.int (nI d)), some (.int (nI j))] [] w 0 0 P := by
    intro j u d hu hd eu ed
    refine run_X8_odds 10 ?_
    refine And.intro (fun g => ?_) (fun g => ?_)
    · have h := h1 g
      rw [← ed, ← nI_l hd] at h
      exact h
    · have h := h0 (Classical.not_not.mp g)
      rw [← eu, ← nI_l hu] at h
      exact h
  have loop : ∀ (m j u d : Nat) (x y z : Int32), j + m = N → u < 2 ^ 31 → d < 2 ^ 31 → U = 3 ^ j * u → 3 ^ N = 3 ^ j * d → x = nI u → y = nI d → z = nI j → ba_go scr ix_X8_odds 80 [some (.ref 1), some (.int p), some (.int (nI N)), some (.int k), some (.ref who), some (.int x), some (.int y), some (.int z)] [] w 0 0 P := by
    intro m
    induction m with
    | zero =>
      intro j u d x y z hj hu hd eu ed h4 h5 h6
      subst h4; subst h5; subst h6
      have h7 : j = N := by omega
      refine run_X8_odds 3 ?_
      refine And.intro (fun _ => ?_) (fun e => absurd (by show nI N ≤ nI j; rw [h7, le_i]; omega) e)
      obtain ⟨o1, o2⟩ := odd_end (by omega) eu ed (Or.inl h7)
      exact fin j u d hu hd o1 o2
    | succ m ih =>
      intro j u d x y z hj hu hd eu ed h4 h5 h6
      subst h4; subst h5; subst h6
      refine run_X8_odds 7 ?_
      refine And.intro (fun e => absurd e (by show ¬ nI N ≤ nI j; rw [le_i, nI_toInt (by omega), nI_toInt (by omega)]; omega)) (fun _ => ?_)
      refine And.intro (by decide) ?_
      refine And.intro (fun g => ?_) (fun g => ?_)
      · have g : ¬ nI u - nI u / 3 * 3 = 0 := g
        rw [nI_mod3 hu] at g
        obtain ⟨o1, o2⟩ := odd_end (by omega) eu ed (Or.inr (fun e => g (by rw [e]; rfl)))
        exact fin j u d hu hd o1 o2
      · have g : nI u - nI u / 3 * 3 = 0 := Classical.not_not.mp g
        rw [nI_mod3 hu] at g
        have g3 : u % 3 = 0 := (nI_eq (b := 0) (by omega) (by decide)).mp g
        have hd3 : d = 3 ^ (N - j) := by
          apply Nat.eq_of_mul_eq_mul_left (Nat.pow_pos (n := j) (show 0 < 3 by decide))
          rw [← ed, ← Nat.pow_add]
          congr 1
          omega
        have hd4 : d = 3 * 3 ^ m := by rw [hd3, show N - j = m + 1 by omega, Nat.pow_succ, Nat.mul_comm]
        refine run_X8_odds 10 ?_
        refine And.intro (by decide) ?_
        refine And.intro (by decide) ?_
        refine ih (j + 1) (u / 3) (d / 3) _ _ _ (by omega) (by omega) (by omega) ?_ ?_ (nI_div (b := 3) hu (by decide)) (nI_div (b := 3) hd (by decide)) (nI_1 j)
        · rw [Nat.pow_succ, Nat.mul_assoc, show 3 * (u / 3) = u by omega]; exact eu
        · rw [Nat.pow_succ, Nat.mul_assoc, show 3 * (d / 3) = d by omega]; exact ed
  exact loop N 0 U (3 ^ N) _ _ 0 (by omega) hU h3 (by rw [Nat.pow_zero, Nat.one_mul]) (by rw [Nat.pow_zero, Nat.one_mul]) rfl rfl rfl
end OD
