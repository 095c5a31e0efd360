/-! odds -/
theorem nI_div {a b : Nat} (ha : a < 2 ^ 31) (hb : b < 2 ^ 31) : nI a / nI b = nI (a / b) := by
  have h : a / b ≤ a := Nat.div_le_self a b
  apply Int32.toInt_inj.1
  rw [Int32.toInt_div, nI_toInt ha, nI_toInt hb, nI_toInt (by omega), ← Int.ofNat_tdiv, fb_bmod (by generalize a / b = c at *; omega) (by generalize a / b = c at *; omega)]
theorem lN_div {a b : Nat} (ha : a < 2 ^ 31) (hb : b < 2 ^ 31) : lN a / lN b = lN (a / b) := by
  have h : a / b ≤ a := Nat.div_le_self a b
  apply Int64.toInt_inj.1
  rw [Int64.toInt_div, lN_toInt ha, lN_toInt hb, lN_toInt (by omega), ← Int.ofNat_tdiv, fb_bmodL (by generalize a / b = c at *; omega) (by generalize a / b = c at *; omega)]
def T4 (g : Nat → Nat) : Nat := g 0 + g 1 + g 2 + g 3
theorem T4_acc {R v : Nat → Nat} (hR : ∀ r, r < 12 → R r < 4) : T4 (acc R v 12) = 3 * T4 v := by
  have k : ∀ r, r < 12 → T4 (acc R v (r + 1)) = T4 (acc R v r) + v (r / 3) := by
    intro r hr
    have h4 := hR r hr
    have e : ∀ t, acc R v (r + 1) t = acc R v r t + (if R r = t then v (r / 3) else 0) := fun _ => rfl
    unfold T4
    rw [e 0, e 1, e 2, e 3]
    by_cases h0 : R r = 0
    · rw [if_pos h0, if_neg (by omega), if_neg (by omega), if_neg (by omega)]; omega
    · by_cases h1 : R r = 1
      · rw [if_neg h0, if_pos h1, if_neg (by omega), if_neg (by omega)]; omega
      · by_cases h2 : R r = 2
        · rw [if_neg h0, if_neg h1, if_pos h2, if_neg (by omega)]; omega
        · rw [if_neg h0, if_neg h1, if_neg h2, if_pos (by omega)]; omega
  have z : T4 (acc R v 0) = 0 := rfl
  have h0 := k 0 (by decide)
  have h1 := k 1 (by decide)
  have h2 := k 2 (by decide)
  have h3 := k 3 (by decide)
  have h4 := k 4 (by decide)
  have h5 := k 5 (by decide)
  have h6 := k 6 (by decide)
  have h7 := k 7 (by decide)
  have h8 := k 8 (by decide)
  have h9 := k 9 (by decide)
  have h10 := k 10 (by decide)
  have h11 := k 11 (by decide)
  simp only [Nat.reduceDiv, Nat.reduceAdd] at h0 h1 h2 h3 h4 h5 h6 h7 h8 h9 h10 h11
  have e : T4 v = v 0 + v 1 + v 2 + v 3 := rfl
  omega
theorem T4_Wn {R : Nat → Nat} {a : Nat} (ha : a < 4) (hR : ∀ r, r < 12 → R r < 4) : ∀ n, T4 (Wn R a n) = 3 ^ n
  | 0 => by
    match a, ha with
    | 0, _ => rfl
    | 1, _ => rfl
    | 2, _ => rfl
    | 3, _ => rfl
  | n + 1 => by
    show T4 (acc R (Wn R a n) 12) = _
    rw [T4_acc hR, T4_Wn ha hR n, Nat.pow_succ, Nat.mul_comm]
theorem cop3 {u m : Nat} (h : ¬ u % 3 = 0) : Nat.gcd u (3 ^ m) = 1 := by
  have : Nat.Coprime u 3 := by
    show Nat.gcd u 3 = 1
    rw [Nat.gcd_comm, Nat.gcd_rec]
    have : u % 3 = 1 ∨ u % 3 = 2 := by omega
    rcases this with e | e <;> rw [e] <;> decide
  exact this.pow_right m
/-- what the divisions by three leave -/
theorem odd_end {U n j u d : Nat} (hj : j ≤ n) (hU : U = 3 ^ j * u) (hd : 3 ^ n = 3 ^ j * d) (hx : j = n ∨ ¬ u % 3 = 0) : u = U / Nat.gcd U (3 ^ n) ∧ d = 3 ^ n / Nat.gcd U (3 ^ n) := by
  have hp : 0 < 3 ^ j := Nat.pow_pos (by decide)
  have hd2 : d = 3 ^ (n - j) := by
    apply Nat.eq_of_mul_eq_mul_left hp
    rw [← hd, ← Nat.pow_add]
    congr 1
    omega
  have hg : Nat.gcd U (3 ^ n) = 3 ^ j := by
    have e : Nat.gcd u d = 1 := by
      rcases hx with e | e
      · rw [hd2, e, Nat.sub_self, Nat.pow_zero, Nat.gcd_one_right]
      · rw [hd2]; exact cop3 e
    rw [hU, hd, Nat.gcd_mul_left, e, Nat.mul_one]
  rw [hg]
  constructor
  · rw [hU, Nat.mul_div_cancel_left _ hp]
  · rw [hd, Nat.mul_div_cancel_left _ hp]
theorem nI_mod3 {a : Nat} (ha : a < 2 ^ 31) : nI a - nI a / 3 * 3 = nI (a % 3) := by
  have e : nI a / 3 = nI (a / 3) := nI_div (b := 3) ha (by decide)
  have e3 : (3 : Int32).toInt = 3 := rfl
  have h1 : (nI (a / 3)).toInt = ((a / 3 : Nat) : Int) := nI_toInt (by omega)
  have h2 : (nI (a / 3) * 3).toInt = ((a / 3 : Nat) : Int) * 3 := by rw [fb_mulI (by rw [h1, e3]; omega) (by rw [h1, e3]; omega), h1, e3]
  rw [e, eq_i, fb_subI (by rw [h2, nI_toInt ha]; omega) (by rw [h2, nI_toInt ha]; omega), h2, nI_toInt ha, nI_toInt (by omega)]
  omega
theorem lN_mod {a b : Nat} (ha : a < 2 ^ 31) (hb : b < 2 ^ 31) : lN a - lN a / lN b * lN b = lN (a % b) := by
  have h := Nat.div_add_mod a b
  have h9 : a / b * b ≤ a := Nat.div_mul_le_self a b
  rw [lN_div ha hb, lN_mul, lN_sub h9]
  congr 1
  rw [Nat.mul_comm] at h
  omega
section OD
variable {scr : Option (List Int32)} {P : ba_P} {w : ba_W} {f : Nat → Nat → Int32} {l : Nat → List Int32} {q : Nat → List Int64}
theorem inv_wq {A B : List Int32} (hI : Inv f l q) (hA : A.length = 4) (hB : B.length = 4) : Inv f (wq l A B) q := by
  obtain ⟨⟨⟨hn1, hn2, hn3⟩, hL, hE, hR⟩, hPp, hD, hM, hS⟩ := id hI
  exact ⟨⟨⟨hn1, hn2, hn3⟩, ⟨⟨hL.1.1, hL.1.2.1, hA, hB⟩, hL.2.1, hL.2.2.1, hL.2.2.2.1, hL.2.2.2.2.1, hL.2.2.2.2.2.1, hL.2.2.2.2.2.2⟩, hE, hR⟩, hPp, hD, hM, hS⟩
theorem inv_wz {A' B' : List Int64} (hI : Inv f l q) (hA' : A'.length = 4) (hB' : B'.length = 4) : Inv f l (wz q A' B') := by
  obtain ⟨⟨⟨hn1, hn2, hn3⟩, hL, hE, hR⟩, hPp, hD, hM, hS⟩ := id hI
  exact ⟨⟨⟨hn1, hn2, hn3⟩, ⟨hL.1, hL.2.1, hL.2.2.1, hL.2.2.2.1, hL.2.2.2.2.1, ⟨hL.2.2.2.2.2.1.1, hL.2.2.2.2.2.1.2.1, hL.2.2.2.2.2.1.2.2.1, hA', hB'⟩, hL.2.2.2.2.2.2⟩, hE, hR⟩, hPp, hD, hM, hS⟩
theorem r_share {u d : Nat} {k : Int32} {ux : Int64} (hux : ux = lN u) (hu : u < 2 ^ 31) (hd0 : 0 < d) (hd : d < 2 ^ 31) (h0 : k = 0 → P (some (.long (lN (u / Nat.gcd u d)))) w) (h1 : ¬ k = 0 → P (some (.long (lN (d / Nat.gcd u d)))) w) :
    ba_go scr ix_X9_share 0 [some (.long ux), none, some (.long (lN d)), none, some (.int k), none, none, none, none, none, none] [] w 0 0 P := by
  subst hux
  have loop : ∀ (b y x : Nat) (z1 z2 : Option Value), y < b → x < 2 ^ 31 → y < 2 ^ 31 → ¬ (x = 0 ∧ y = 0) → Nat.gcd x y = Nat.gcd u d → ba_go scr ix_X9_share 6 [some (.long (lN u)), none, some (.long (lN d)), none, some (.int k), some (.long (lN x)), none, some (.long (lN y)), none, z1, z2] [] w 0 0 P := by
    intro b
    induction b with
    | zero => intro y x z1 z2 h; omega
    | succ b ih =>
      intro y x z1 z2 h hx hy hne hg
      refine run_X9_share 4 ?_
      have e0 : lg_cmp (lN y) (Int64.ofNat ((0 : Fin 2) : Nat)) = 0 ↔ y = 0 := by
        rw [lg_cmp_eq]
        exact lN_eq (b := 0) hy (by decide)
      refine And.intro (fun c => ?_) (fun c => ?_)
      · have c : y = 0 := e0.mp c
        subst c
        rw [Nat.gcd_zero_right] at hg
        have hx0 : ¬ x = 0 := fun e => hne ⟨e, rfl⟩
        have hxx : ¬ lN x = 0 := fun e => hx0 ((lN_eq (b := 0) hx (by decide)).mp e)
        refine run_X9_share 2 ?_
        refine And.intro (fun g => ?_) (fun g => ?_)
        · have g : ¬ k = 0 := g
          refine run_X9_share 4 ?_
          refine And.intro hxx ?_
          have h3 := h1 g
          rw [← hg, ← lN_div hd hx] at h3
          exact h3
        · have g : k = 0 := Classical.not_not.mp g
          refine run_X9_share 5 ?_
          refine And.intro hxx ?_
          have h3 := h0 g
          rw [← hg, ← lN_div hu hx] at h3
          exact h3
      · have c : ¬ y = 0 := fun e => c (e0.mpr e)
        have hyy : ¬ lN y = 0 := fun e => c ((lN_eq (b := 0) hy (by decide)).mp e)
        have hm : x % y < y := Nat.mod_lt _ (by omega)
        refine run_X9_share 9 ?_
        refine And.intro hyy ?_
        have h3 := ih (x % y) y (some (.long (lN (x % y)))) none (by omega) hy (by omega) (fun e => c e.1) (by rw [← hg, Nat.gcd_comm, ← Nat.gcd_rec, Nat.gcd_comm])
        rw [← lN_mod hx hy] at h3
        exact h3
  refine run_X9_share 4 ?_
  exact loop (d + 1) d u none none (by omega) hu hd (by omega) rfl
/-- the class's divisions -/
theorem s_odds_loop {p n k : Int32} {who : Nat} {N U : Nat} (hn : n = nI N) (hN : N < 100) (hU : U < 2 ^ 31) (h3 : 3 ^ N < 2 ^ 31) (h0 : k = 0 → P (some (.long (lN (U / Nat.gcd U (3 ^ N))))) w) (h1 : ¬ k = 0 → P (some (.long (lN (3 ^ N / Nat.gcd U (3 ^ N))))) w) :
    ba_go scr ix_X8_odds 80 [some (.ref 1), some (.int p), some (.int n), some (.int k), some (.ref who), some (.int (nI U)), some (.int (nI (3 ^ N))), some (.int 0)] [] w 0 0 P := by
  subst hn
  have fin : ∀ (j u d : Nat), u < 2 ^ 31 → d < 2 ^ 31 → u = U / Nat.gcd U (3 ^ N) → d = 3 ^ N / Nat.gcd U (3 ^ N) → ba_go scr ix_X8_odds 111 [some (.ref 1), some (.int p), some (.int (nI N)), some (.int k), some (.ref who), some (.int (nI u)), some (.int (nI d)), some (.int (nI j))] [] w 0 0 P := by
    intro j u d hu hd eu ed
    refine run_X8_odds 10 ?_
    refine And.intro (fun g => ?_) (fun g => ?_)
    · have h := h1 g
      rw [← ed, ← nI_l hd] at h
      exact h
    · have h := h0 (Classical.not_not.mp g)
      rw [← eu, ← nI_l hu] at h
      exact h
  have loop : ∀ (m j u d : Nat) (x y z : Int32), j + m = N → u < 2 ^ 31 → d < 2 ^ 31 → U = 3 ^ j * u → 3 ^ N = 3 ^ j * d → x = nI u → y = nI d → z = nI j → ba_go scr ix_X8_odds 80 [some (.ref 1), some (.int p), some (.int (nI N)), some (.int k), some (.ref who), some (.int x), some (.int y), some (.int z)] [] w 0 0 P := by
    intro m
    induction m with
    | zero =>
      intro j u d x y z hj hu hd eu ed h4 h5 h6
      subst h4; subst h5; subst h6
      have h7 : j = N := by omega
      refine run_X8_odds 3 ?_
      refine And.intro (fun _ => ?_) (fun e => absurd (by show nI N ≤ nI j; rw [h7, le_i]; omega) e)
      obtain ⟨o1, o2⟩ := odd_end (by omega) eu ed (Or.inl h7)
      exact fin j u d hu hd o1 o2
    | succ m ih =>
      intro j u d x y z hj hu hd eu ed h4 h5 h6
      subst h4; subst h5; subst h6
      refine run_X8_odds 7 ?_
      refine And.intro (fun e => absurd e (by show ¬ nI N ≤ nI j; rw [le_i, nI_toInt (by omega), nI_toInt (by omega)]; omega)) (fun _ => ?_)
      refine And.intro (by decide) ?_
      refine And.intro (fun g => ?_) (fun g => ?_)
      · have g : ¬ nI u - nI u / 3 * 3 = 0 := g
        rw [nI_mod3 hu] at g
        obtain ⟨o1, o2⟩ := odd_end (by omega) eu ed (Or.inr (fun e => g (by rw [e]; rfl)))
        exact fin j u d hu hd o1 o2
      · have g : nI u - nI u / 3 * 3 = 0 := Classical.not_not.mp g
        rw [nI_mod3 hu] at g
        have g3 : u % 3 = 0 := (nI_eq (b := 0) (by omega) (by decide)).mp g
        have hd3 : d = 3 ^ (N - j) := by
          apply Nat.eq_of_mul_eq_mul_left (Nat.pow_pos (n := j) (show 0 < 3 by decide))
          rw [← ed, ← Nat.pow_add]
          congr 1
          omega
        have hd4 : d = 3 * 3 ^ m := by rw [hd3, show N - j = m + 1 by omega, Nat.pow_succ, Nat.mul_comm]
        refine run_X8_odds 10 ?_
        refine And.intro (by decide) ?_
        refine And.intro (by decide) ?_
        refine ih (j + 1) (u / 3) (d / 3) _ _ _ (by omega) (by omega) (by omega) ?_ ?_ (nI_div (b := 3) hu (by decide)) (nI_div (b := 3) hd (by decide)) (nI_1 j)
        · rw [Nat.pow_succ, Nat.mul_assoc, show 3 * (u / 3) = u by omega]; exact eu
        · rw [Nat.pow_succ, Nat.mul_assoc, show 3 * (d / 3) = d by omega]; exact ed
  exact loop N 0 U (3 ^ N) _ _ 0 (by omega) hU h3 (by rw [Nat.pow_zero, Nat.one_mul]) (by rw [Nat.pow_zero, Nat.one_mul]) rfl rfl rfl
theorem both_odds {p n k : Int32} (hI : Inv f l q) : bothJ scr ix_X8_odds ix_X9_odds [some (.ref 1), some (.int p), some (.int n), some (.int k), none, none, none, none] [some (.ref 43), some (.int p), some (.int n), some (.int k), none, none, none] f l q := by
  intro P hP
  obtain ⟨⟨⟨hn1, hn2, hn3⟩, hL, hE, hR⟩, hPp, hD, hM, hS⟩ := id hI
  have e44 : l 44 = l 5 := hE.1.2
  have bad : ¬ ((0 ≤ p.toInt ∧ p.toInt < (f 2 3).toInt) ∧ (0 ≤ n.toInt ∧ n.toInt ≤ 9) ∧ 0 ≤ k.toInt ∧ k.toInt ≤ 1) → P (some (.long (-9223372036854775808))) (wW f l q) := by
    intro h
    refine hP _ f l q (fun P2 h2 => ?_)
    refine run_X9_odds 60 ?_
    repeat (first | refine And.intro (fun e => absurd e (by decide)) (fun e => ?_) | refine And.intro (fun e => ?_) (fun e => absurd e (by decide)) | refine Exists.intro _ (And.intro rfl ?_) | refine And.intro rfl ?_)
    refine r_noPerson (by rw [hn3]; exact hn1) (fun g1 g2 => ?_) (fun g1 => ?_)
    · repeat (first | refine And.intro (fun e => absurd e (by decide)) (fun e => ?_) | refine And.intro (fun e => ?_) (fun e => absurd e (by decide)) | refine Exists.intro _ (And.intro rfl ?_) | refine And.intro rfl ?_)
      refine s_in (x := n.toInt) (a := 0) (b := 9) l64 rfl rfl (fun g3 g4 => ?_) (fun g3 => ?_)
      · repeat (first | refine And.intro (fun e => absurd e (by decide)) (fun e => ?_) | refine And.intro (fun e => ?_) (fun e => absurd e (by decide)) | refine Exists.intro _ (And.intro rfl ?_) | refine And.intro rfl ?_)
        refine s_in (x := k.toInt) (a := 0) (b := 1) l64 rfl rfl (fun g5 g6 => absurd ⟨⟨g1, by rw [← hn3]; exact g2⟩, ⟨g3, g4⟩, g5, g6⟩ h) (fun g5 => ?_)
        repeat (first | refine And.intro (fun e => absurd e (by decide)) (fun e => ?_) | refine And.intro (fun e => ?_) (fun e => absurd e (by decide)) | refine Exists.intro _ (And.intro rfl ?_) | refine And.intro rfl ?_)
        refine r_lost ?_
        exact h2 f l q hI
      · repeat (first | refine And.intro (fun e => absurd e (by decide)) (fun e => ?_) | refine And.intro (fun e => ?_) (fun e => absurd e (by decide)) | refine Exists.intro _ (And.intro rfl ?_) | refine And.intro rfl ?_)
        refine r_lost ?_
        exact h2 f l q hI
    · repeat (first | refine And.intro (fun e => absurd e (by decide)) (fun e => ?_) | refine And.intro (fun e => ?_) (fun e => absurd e (by decide)) | refine Exists.intro _ (And.intro rfl ?_) | refine And.intro rfl ?_)
      refine r_lost ?_
      exact h2 f l q hI
  refine run_X8_odds 17 ?_
  repeat (first | refine And.intro (fun e => absurd e (by decide)) (fun e => ?_) | refine And.intro (fun e => ?_) (fun e => absurd e (by decide)) | refine Exists.intro _ (And.intro rfl ?_) | refine And.intro rfl ?_)
  refine s_personOf (b := 2) (Or.inl rfl) hn2 (fun c d => ?_) (fun c => ?_)
  · obtain ⟨⟨k1, k2, k3⟩, k4, k5, k6, k7⟩ := pfacts hI c d
    obtain ⟨-, m5, m6, m7, m8⟩ := plens hI
    have hat := people_at (f := f) (l := l) (q := q) k1
    repeat (first | refine And.intro (fun e => absurd e (by decide)) (fun e => ?_) | refine And.intro (fun e => ?_) (fun e => absurd e (by decide)) | refine Exists.intro _ (And.intro rfl ?_) | refine And.intro rfl ?_)
    refine s_within (a := 0) (b := 9) rfl rfl (fun c1 c2 => ?_) (fun c1 => ?_)
    · repeat (first | refine And.intro (fun e => absurd e (by decide)) (fun e => ?_) | refine And.intro (fun e => ?_) (fun e => absurd e (by decide)) | refine Exists.intro _ (And.intro rfl ?_) | refine And.intro rfl ?_)
      refine s_within (a := 0) (b := 1) rfl rfl (fun c3 c4 => ?_) (fun c3 => ?_)
      · obtain ⟨N, rfl, hN⟩ := nI_ex c1
        obtain ⟨a, ea, ha⟩ := nI_ex k3.2.2.1.1
        have ha4 : a < 4 := by have := k3.2.2.1.2; omega
        have hRn : ∀ r, r < 12 → rn (l 5) r < 4 := fun r hr => by
          have h1 := hR.1 r hr
          have h2 := ix_i h1.1
          show ((l 5).getD r 0).toNatClampNeg < 4
          omega
        have hT : T4 (Wn (rn (l 5)) a N) = 3 ^ N := T4_Wn ha4 hRn N
        have h39 : 3 ^ N ≤ 3 ^ 9 := Nat.pow_le_pow_right (by decide) (by omega)
        have h39 : 3 ^ N ≤ 19683 := h39
        have hTe : T4 (Wn (rn (l 5)) a N) = Wn (rn (l 5)) a N 0 + Wn (rn (l 5)) a N 1 + Wn (rn (l 5)) a N 2 + Wn (rn (l 5)) a N 3 := rfl
        obtain ⟨U, hU⟩ : ∃ U, U = Wn (rn (l 5)) a N 0 + Wn (rn (l 5)) a N 2 := ⟨_, rfl⟩
        have hUb : U < 2 ^ 31 := by omega
        have s1 : ss (fun i => if i % 2 = 0 then 1 else 0) (Wn (rn (l 5)) a N) 4 = U := by rw [hU]; simp [ss]
        have s2 : ss (fun _ => 1) (Wn (rn (l 5)) a N) 4 = 3 ^ N := by rw [← hT, hTe]; simp [ss]
        refine And.intro (fun _ => ?_) (fun e => absurd (by decide) e)
        refine run_X8_odds 20 ?_
        refine Exists.intro _ (And.intro (rfl) ?_)
        refine Exists.intro _ (And.intro (rfl) ?_)
        refine Exists.intro _ (And.intro (fld_of hat rfl) ?_)
        rw [ea]
        refine And.intro rfl (s_rowsTo (c := fun i => if i % 2 = 0 then 1 else 0) ha4 (by omega) (fun i hi => ?_) hL.1.2.2.1 hL.1.2.2.2 hL.1.2.1 hR.1 (fun B hB => ?_))
        · exact (by decide +kernel : ∀ i : Fin 4, ((5 : Int32) >>> (nI i.1 &&& 31)) &&& 1 = nI (if i.1 % 2 = 0 then 1 else 0)) ⟨i, hi⟩
        · rw [s1]
          refine Exists.intro _ (And.intro (rfl) ?_)
          refine Exists.intro _ (And.intro (rfl) ?_)
          refine Exists.intro _ (And.intro (fld_of (people_at (f := f) (l := wq l (r4 (Wn (rn (l 5)) a N)) B) (q := q) k1) rfl) ?_)
          rw [ea]
          refine And.intro rfl (s_rowsTo (l := wq l (r4 (Wn (rn (l 5)) a N)) B) (c := fun _ => 1) ha4 (by omega) (fun i hi => ?_) rfl hB hL.1.2.1 hR.1 (fun B2 hB2 => ?_))
          · exact (by decide +kernel : ∀ i : Fin 4, ((15 : Int32) >>> (nI i.1 &&& 31)) &&& 1 = nI 1) ⟨i, hi⟩
          · have e5 : (wq l (r4 (Wn (rn (l 5)) a N)) B) 5 = l 5 := rfl
            rw [e5, s2]
            have hI2 := inv_wq (A := r4 (Wn (rn (l 5)) a N)) (B := B2) (inv_wq (A := r4 (Wn (rn (l 5)) a N)) (B := B) hI rfl hB) rfl hB2
            obtain ⟨G, hG⟩ : ∃ G, G = wq (wq l (r4 (Wn (rn (l 5)) a N)) B) (r4 (Wn (rn (l 5)) a N)) B2 := ⟨_, rfl⟩
            rw [← hG] at hI2 ⊢
            have g44 : G 44 = l 5 := by rw [hG]; exact e44
            have g47 : G 47 = l 47 := by rw [hG]; rfl
            have ref : ∀ (P2 : ba_P) (v : Int64), (k = 0 → v = lN (U / Nat.gcd U (3 ^ N))) → (¬ k = 0 → v = lN (3 ^ N / Nat.gcd U (3 ^ N))) → (∀ f2 l2 q2, Inv f2 l2 q2 → P2 (some (.long v)) (wW f2 l2 q2)) → ba_go scr ix_X9_odds 0 [some (.ref 43), some (.int p), some (.int (nI N)), some (.int k), none, none, none] [] (wW f G q) 0 0 P2 := by
              intro P2 v v0 v1 h2
              have a47 : ∀ xs, ba_ldI xs (wW f G q) 48 p = some (nI a) := fun xs => by
                rw [ldI_of (l := l 47) (by rw [← g47]; rfl) c (by rw [m7]; exact k2), k6, ea]
              refine run_X9_odds 27 ?_
              repeat (first | refine And.intro (fun e => absurd e (by decide)) (fun e => ?_) | refine And.intro (fun e => ?_) (fun e => absurd e (by decide)) | refine Exists.intro _ (And.intro rfl ?_) | refine And.intro rfl ?_)
              refine r_noPerson (by rw [hn3]; exact hn1) (fun g1 g2 => ?_) (fun g1 => absurd ⟨c, by rw [hn3]; exact d⟩ g1)
              repeat (first | refine And.intro (fun e => absurd e (by decide)) (fun e => ?_) | refine And.intro (fun e => ?_) (fun e => absurd e (by decide)) | refine Exists.intro _ (And.intro rfl ?_) | refine And.intro rfl ?_)
              refine s_in (x := (nI N).toInt) (a := 0) (b := 9) l64 rfl rfl (fun g3 g4 => ?_) (fun g3 => absurd ⟨c1, c2⟩ g3)
              repeat (first | refine And.intro (fun e => absurd e (by decide)) (fun e => ?_) | refine And.intro (fun e => ?_) (fun e => absurd e (by decide)) | refine Exists.intro _ (And.intro rfl ?_) | refine And.intro rfl ?_)
              refine s_in (x := k.toInt) (a := 0) (b := 1) l64 rfl rfl (fun g5 g6 => ?_) (fun g5 => absurd ⟨c3, c4⟩ g5)
              refine And.intro (fun _ => ?_) (fun e => absurd (by decide) e)
              refine Exists.intro _ (And.intro (rfl) ?_)
              refine Exists.intro _ (And.intro (a47 _) ?_)
              refine And.intro rfl (r_countWays ha4 (by omega) hL.2.2.2.2.2.1.2.2.2.1 hL.2.2.2.2.2.1.2.2.2.2 (by rw [g44]; exact hL.1.2.1) (by rw [g44]; exact hR.1) (fun B' hB' => ?_))
              rw [g44]
              have rest : ba_go scr ix_X9_odds 71 [some (.ref 43), some (.int p), some (.int (nI N)), some (.int k), some (.long (lN (3 ^ N))), none, some (.int (nI N))] [] (wW f G (wz q (j4 (Wn (rn (l 5)) a N)) B')) 0 0 P2 := by
                refine run_X9_odds 40 ?_
                repeat (first | refine And.intro (fun e => absurd e (by decide)) (fun e => ?_) | refine And.intro (fun e => ?_) (fun e => absurd e (by decide)) | refine Exists.intro _ (And.intro rfl ?_) | refine And.intro rfl ?_)
                have eU : lN (Wn (rn (l 5)) a N 0) + lN (Wn (rn (l 5)) a N 2) = lN U := by rw [lN_add, hU]
                refine r_share eU hUb (Nat.pow_pos (by decide)) (by omega) (fun e => ?_) (fun e => ?_)
                · have h3 := h2 _ _ _ (inv_wz (A' := j4 (Wn (rn (l 5)) a N)) (B' := B') hI2 rfl hB')
                  rw [v0 e] at h3
                  exact h3
                · have h3 := h2 _ _ _ (inv_wz (A' := j4 (Wn (rn (l 5)) a N)) (B' := B') hI2 rfl hB')
                  rw [v1 e] at h3
                  exact h3
              have pows : ∀ (m j : Nat) (x : Int32) (y : Int64), j + m = N → x = nI j → y = lN (3 ^ j) → ba_go scr ix_X9_odds 51 [some (.ref 43), some (.int p), some (.int (nI N)), some (.int k), some (.long y), none, some (.int x)] [] (wW f G (wz q (j4 (Wn (rn (l 5)) a N)) B')) 0 0 P2 := by
                intro m
                induction m with
                | zero =>
                  intro j x y hj h4 h5
                  subst h4; subst h5
                  have h6 : j = N := by omega
                  subst h6
                  refine run_X9_odds 3 ?_
                  refine And.intro (fun _ => ?_) (fun e => absurd (by show nI j ≤ nI j; rw [le_i]; omega) e)
                  exact rest
                | succ m ih =>
                  intro j x y hj h4 h5
                  subst h4; subst h5
                  refine run_X9_odds 9 ?_
                  refine And.intro (fun e => absurd e (by show ¬ nI N ≤ nI j; rw [le_i, nI_toInt (by omega), nI_toInt (by omega)]; omega)) (fun _ => ?_)
                  exact ih (j + 1) _ _ (by omega) (nI_1 j) (by rw [Nat.pow_succ]; exact lN_mul (3 ^ j) 3)
              exact pows N 0 0 1 (by omega) rfl rfl
            refine s_odds_loop (N := N) rfl (by omega) hUb (by omega) (fun e => ?_) (fun e => ?_)
            · exact hP _ _ _ _ (fun P2 h2 => ref P2 _ (fun _ => rfl) (fun h => absurd e h) h2)
            · exact hP _ _ _ _ (fun P2 h2 => ref P2 _ (fun h => absurd h e) (fun _ => rfl) h2)
      · repeat (first | refine And.intro (fun e => absurd e (by decide)) (fun e => ?_) | refine And.intro (fun e => ?_) (fun e => absurd e (by decide)) | refine Exists.intro _ (And.intro rfl ?_) | refine And.intro rfl ?_)
        refine run_X8_odds 2 ?_
        exact bad (fun e => c3 e.2.2)
    · repeat (first | refine And.intro (fun e => absurd e (by decide)) (fun e => ?_) | refine And.intro (fun e => ?_) (fun e => absurd e (by decide)) | refine Exists.intro _ (And.intro rfl ?_) | refine And.intro rfl ?_)
      exact bad (fun e => c1 e.2.1)
  · repeat (first | refine And.intro (fun e => absurd e (by decide)) (fun e => ?_) | refine And.intro (fun e => ?_) (fun e => absurd e (by decide)) | refine Exists.intro _ (And.intro rfl ?_) | refine And.intro rfl ?_)
    exact bad (fun e => c e.1)
end OD
