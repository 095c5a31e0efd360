/-! the law's rows of stamps -/
/-- what a mark becomes by a row of n stamps, the first one its highest figure -/
def bc (g : Nat → Nat → Nat) : Nat → Nat → Nat → Nat
  | 0, _, m => m
  | k + 1, row, m => bc g k row (g (row / 3 ^ k % 3) m)
theorem p3 (k : Nat) : 0 < 3 ^ k := Nat.pow_pos (by decide)
theorem bc_mod (g : Nat → Nat → Nat) : ∀ (k row c m : Nat), bc g k (row + c * 3 ^ k) m = bc g k row m
  | 0, _, _, _ => rfl
  | k + 1, row, c, m => by
    have e : c * 3 ^ (k + 1) = (3 * c) * 3 ^ k := by rw [Nat.pow_succ, Nat.mul_comm (3 ^ k) 3, ← Nat.mul_assoc, Nat.mul_comm c 3]
    show bc g k (row + c * 3 ^ (k + 1)) (g ((row + c * 3 ^ (k + 1)) / 3 ^ k % 3) m) = bc g k row (g (row / 3 ^ k % 3) m)
    rw [e, bc_mod g k row (3 * c), Nat.add_mul_div_right _ _ (p3 k), Nat.add_mul_mod_self_left]
/-- the first stamp, then the rest -/
theorem bc_cons (g : Nat → Nat → Nat) {k s row m : Nat} (hs : s < 3) (hr : row < 3 ^ k) : bc g (k + 1) (s * 3 ^ k + row) m = bc g k row (g s m) := by
  show bc g k (s * 3 ^ k + row) (g ((s * 3 ^ k + row) / 3 ^ k % 3) m) = _
  rw [Nat.add_comm (s * 3 ^ k) row, bc_mod, Nat.add_mul_div_right _ _ (p3 k), Nat.div_eq_of_lt hr, Nat.zero_add, Nat.mod_eq_of_lt hs]
/-- the rest, then the last stamp -/
theorem bc_last (g : Nat → Nat → Nat) : ∀ (k row m : Nat), bc g (k + 1) row m = g (row % 3) (bc g k (row / 3) m)
  | 0, row, m => by
    show g (row / 3 ^ 0 % 3) m = _
    rw [Nat.pow_zero, Nat.div_one]
    rfl
  | k + 1, row, m => by
    show bc g (k + 1) row (g (row / 3 ^ (k + 1) % 3) m) = g (row % 3) (bc g k (row / 3) (g (row / 3 / 3 ^ k % 3) m))
    rw [bc_last g k, Nat.div_div_eq_div_mul, Nat.pow_succ, Nat.mul_comm (3 ^ k) 3]
theorem bc_lt {g : Nat → Nat → Nat} (hg : ∀ s m, s < 3 → m < 4 → g s m < 4) : ∀ (k row m : Nat), m < 4 → bc g k row m < 4
  | 0, _, _, h => h
  | k + 1, row, m, h => bc_lt hg k row _ (hg _ _ (Nat.mod_lt _ (by decide)) h)
/-- a set is hit by some row just when it can be reached -/
theorem bc_Wt (g : Nat → Nat → Nat) (T : Nat → Bool) : ∀ (k m : Nat), Wt g T k m = true ↔ ∃ row, row < 3 ^ k ∧ T (bc g k row m) = true
  | 0, m => by
    constructor
    · intro h
      exact ⟨0, by decide, h⟩
    · rintro ⟨row, -, h⟩
      exact h
  | k + 1, m => by
    rw [Wt_s]
    constructor
    · rintro ⟨s, hs, h⟩
      obtain ⟨row, hr, h2⟩ := (bc_Wt g T k (g s m)).mp h
      refine ⟨s * 3 ^ k + row, ?_, by rw [bc_cons g hs hr]; exact h2⟩
      have : s * 3 ^ k ≤ 2 * 3 ^ k := Nat.mul_le_mul_right _ (by omega)
      rw [Nat.pow_succ]
      omega
    · rintro ⟨row, hr, h⟩
      have h3 := p3 k
      have hq : row / 3 ^ k < 3 := by rw [Nat.div_lt_iff_lt_mul h3, Nat.mul_comm, ← Nat.pow_succ]; exact hr
      have hm : row % 3 ^ k < 3 ^ k := Nat.mod_lt _ h3
      refine ⟨row / 3 ^ k, hq, (bc_Wt g T k _).mpr ⟨row % 3 ^ k, hm, ?_⟩⟩
      rw [← bc_cons g hq hm, Nat.mul_comm, Nat.div_add_mod]
      exact h
def fwv (d : Nat) : Int32 := if d = 4 then -9 else nI d
section LC
variable {scr : Option (List Int32)} {P : ba_P} {w : ba_W} {f : Nat → Nat → Int32} {l : Nat → List Int32} {q : List (List Int32)}
/-- the law's people hold the class's rules -/
def WR (l : Nat → List Int32) : Prop := (l 42).length = 22 ∧ (l 5).length = 12 ∧ rv (l 5) ∧ ∀ i, i < 12 → (l 42).getD (4 + i) 0 = (l 5).getD i 0
theorem WR.rule (h : WR l) {m s : Nat} (hm : m < 4) (hs : s < 3) : (l 42).getD (4 + (3 * m + s)) 0 = nI (gs (l 5) s m) := by
  rw [h.2.2.2 _ (by omega)]
  unfold gs rn
  have h1 := h.2.2.1 (3 * m + s) (by omega)
  have h2 := ix_i h1.1
  rw [eq_i, nI_toInt (by omega)]
  omega
theorem s_Lr {m s : Nat} {x y : Int32} (h : WR l) (hx : x = nI m) (hy : y = nI s) (hm : m < 4) (hs : s < 3) (hP : P (some (.int (nI (gs (l 5) s m)))) (wW f l q)) : ba_go scr ix_L_rule 0 [some (.ref 43), some (.int x), some (.int y)] [] (wW f l q) 0 0 P := by
  refine s_Lrule h.1 hx hy hm hs ?_
  rw [h.rule hm hs]
  exact hP
theorem s_Lbecomes {m N row : Nat} {x y z : Int32} (h : WR l) (hx : x = nI m) (hy : y = nI N) (hz : z = nI row) (hm : m < 4) (hN : N < 10) (hrow : row < 2 ^ 31) (hP : P (some (.int (nI (bc (gs (l 5)) N row m)))) (wW f l q)) : ba_go scr ix_L_becomes 0 [some (.ref 43), some (.int x), some (.int y), some (.int z), none, none, none] [] (wW f l q) 0 0 P := by
  subst hx; subst hy; subst hz
  have hg := gs_all h.2.2.1
  have p39 : ∀ k, k < 10 → 3 ^ k < 2 ^ 31 := fun k hk => Nat.lt_of_le_of_lt (Nat.pow_le_pow_right (by decide) (show k ≤ 9 by omega)) (by decide)
  have walk : ∀ (k j its : Nat) (x y z : Int32), j + k = N → its < 4 → x = nI its → y = nI (3 ^ (k - 1)) → z = nI j → bc (gs (l 5)) k row its = bc (gs (l 5)) N row m → ba_go scr ix_L_becomes 30 [some (.ref 43), some (.int (nI m)), some (.int (nI N)), some (.int (nI row)), some (.int x), some (.int y), some (.int z)] [] (wW f l q) 0 0 P := by
    intro k
    induction k with
    | zero =>
      intro j its x y z h1 hi h2 h3 h4 h5
      subst h2; subst h3; subst h4
      have e : j = N := by omega
      refine run_L_becomes 6 ?_
      refine And.intro (fun _ => ?_) (fun e2 => absurd (by show nI N ≤ nI j; rw [e, le_i]; omega) e2)
      have h5 : its = bc (gs (l 5)) N row m := h5
      rw [← h5] at hP
      exact hP
    | succ k ih =>
      intro j its x y z h1 hi h2 h3 h4 h5
      subst h2; subst h3; subst h4
      have hk : 3 ^ (k + 1 - 1) = 3 ^ k := rfl
      rw [hk]
      have hp := p39 k (by omega)
      have h0 := p3 k
      have hq : row / 3 ^ k ≤ row := Nat.div_le_self _ _
      have e1 : nI row / nI (3 ^ k) - nI row / nI (3 ^ k) / nI 3 * nI 3 = nI (row / 3 ^ k % 3) := by
        rw [nI_div hrow hp, nI_mod (by omega) (by decide)]
      have hm3 : row / 3 ^ k % 3 < 3 := Nat.mod_lt _ (by decide)
      refine run_L_becomes 11 ?_
      refine And.intro (fun e => absurd e (by show ¬ nI N ≤ nI j; rw [le_i, nI_toInt (by omega), nI_toInt (by omega)]; omega)) (fun _ => ?_)
      refine And.intro (fun e => ?_) ?_
      · have e : nI (3 ^ k) = nI 0 := e
        rw [nI_eq hp (by decide)] at e
        omega
      refine And.intro (by decide) ?_
      refine And.intro rfl (s_Lr h rfl e1 hi hm3 ?_)
      have nx := ih (j + 1) (gs (l 5) (row / 3 ^ k % 3) its)
      refine run_L_becomes 4 ?_
      refine And.intro (fun g => ?_) (fun g => ?_)
      · have g : nI (3 ^ k) ≤ nI 1 := g
        rw [le_i, nI_toInt hp, nI_toInt (by decide)] at g
        have k0 : k = 0 := by
          cases k with
          | zero => rfl
          | succ k =>
            have := p3 k
            rw [Nat.pow_succ] at g
            omega
        subst k0
        refine run_L_becomes 4 ?_
        exact nx _ _ _ (by omega) (hg _ _ hm3 hi) rfl rfl (nI_1 j) h5
      · have g : ¬ nI (3 ^ k) ≤ nI 1 := g
        rw [le_i, nI_toInt hp, nI_toInt (by decide)] at g
        have k0 : k = k - 1 + 1 := by
          cases k with
          | zero => exact absurd (by decide) g
          | succ k => rfl
        have e3 : nI (3 ^ k) / nI 3 = nI (3 ^ (k - 1)) := by
          rw [nI_div hp (by decide)]
          congr 1
          rw [k0, Nat.pow_succ, Nat.add_sub_cancel]
          omega
        refine run_L_becomes 7 ?_
        refine And.intro (by decide) ?_
        exact nx _ _ _ (by omega) (hg _ _ hm3 hi) rfl e3 (nI_1 j) h5
  have pows : ∀ (k j : Nat) (y z : Int32), j + k = N → 1 ≤ j → y = nI (3 ^ (j - 1)) → z = nI j → ba_go scr ix_L_becomes 9 [some (.ref 43), some (.int (nI m)), some (.int (nI N)), some (.int (nI row)), some (.int (nI m)), some (.int y), some (.int z)] [] (wW f l q) 0 0 P := by
    intro k
    induction k with
    | zero =>
      intro j y z h1 h0 h2 h3
      subst h2; subst h3
      have e : j = N := by omega
      refine run_L_becomes 5 ?_
      refine And.intro (fun _ => ?_) (fun e2 => absurd (by show nI N ≤ nI j; rw [e, le_i]; omega) e2)
      rw [e]
      exact walk N 0 m _ _ _ (by omega) hm rfl rfl rfl rfl
    | succ k ih =>
      intro j y z h1 h0 h2 h3
      subst h2; subst h3
      refine run_L_becomes 9 ?_
      refine And.intro (fun e => absurd e (by show ¬ nI N ≤ nI j; rw [le_i, nI_toInt (by omega), nI_toInt (by omega)]; omega)) (fun _ => ?_)
      refine ih (j + 1) _ _ (by omega) (by omega) ?_ (nI_1 j)
      show nI (3 ^ (j - 1)) * nI 3 = nI (3 ^ (j + 1 - 1))
      rw [nI_mul, ← Nat.pow_succ]
      congr 2
      omega
  refine run_L_becomes 6 ?_
  by_cases h0 : N = 0
  · subst h0
    refine run_L_becomes 5 ?_
    refine And.intro (fun _ => ?_) (fun e2 => absurd (by decide) e2)
    exact walk 0 0 m _ _ _ rfl hm rfl rfl rfl rfl
  · exact pows (N - 1) 1 1 1 (by omega) (by decide) rfl rfl
theorem s_Lfewest {T : Nat → Bool} {a : Nat} {x mk : Int32} (h : WR l) (hx : x = nI a) (hmk : mk = B6 T) (ha : a < 4) (hP : P (some (.int (fwv (Ds (gs (l 5)) T a)))) (wW f l q)) : ba_go scr ix_L_fewest 0 [some (.ref 43), some (.int x), some (.int mk), none, none] [] (wW f l q) 0 0 P := by
  subst hx; subst hmk
  have hg := gs_all h.2.2.1
  have p39 : ∀ k, k < 10 → 3 ^ k < 2 ^ 31 := fun k hk => Nat.lt_of_le_of_lt (Nat.pow_le_pow_right (by decide) (show k ≤ 9 by omega)) (by decide)
  have outer : ∀ (m k : Nat) (x : Int32) (z : Option Value), k + m = 4 → x = nI k → (∀ j, j < k → Wt (gs (l 5)) T j a = false) → ba_go scr ix_L_fewest 2 [some (.ref 43), some (.int (nI a)), some (.int (B6 T)), some (.int x), z] [] (wW f l q) 0 0 P := by
    intro m
    induction m with
    | zero =>
      intro k x z h1 h2 h3
      subst h2
      have h4 : k = 4 := by omega
      subst h4
      refine run_L_fewest 6 ?_
      refine And.intro (fun _ => ?_) (fun e => absurd (by decide) e)
      have e : Ds (gs (l 5)) T a = 4 := ds_eq4 h3
      rw [e] at hP
      exact hP
    | succ m ih =>
      intro k x z h1 h2 h3
      subst h2
      have hp := p39 k (by omega)
      have inner : ∀ (m' r : Nat) (y : Int32), r + m' = 3 ^ k → y = nI r → (∀ r', r' < r → T (bc (gs (l 5)) k r' a) = false) → ba_go scr ix_L_fewest 10 [some (.ref 43), some (.int (nI a)), some (.int (B6 T)), some (.int (nI k)), some (.int y)] [] (wW f l q) 0 0 P := by
        intro m'
        induction m' with
        | zero =>
          intro r y g1 g2 g3
          subst g2
          have e : r = 3 ^ k := by omega
          refine run_L_fewest 3 ?_
          refine And.intro rfl (s_Lpower rfl (by omega) ?_)
          refine run_L_fewest 3 ?_
          refine And.intro (fun _ => ?_) (fun e2 => absurd (by show nI (3 ^ k) ≤ nI r; rw [e, le_i]; omega) e2)
          refine ih (k + 1) _ _ (by omega) (nI_1 k) (lt_s h3 ?_)
          cases hw : Wt (gs (l 5)) T k a with
          | false => rfl
          | true =>
            obtain ⟨row, h4, h5⟩ := (bc_Wt _ _ _ _).mp hw
            rw [g3 row (by omega)] at h5
            exact absurd h5 (by decide)
        | succ m' ih' =>
          intro r y g1 g2 g3
          subst g2
          have hb := bc_lt hg k r a ha
          refine run_L_fewest 3 ?_
          refine And.intro rfl (s_Lpower rfl (by omega) ?_)
          refine run_L_fewest 7 ?_
          refine And.intro (fun e2 => absurd e2 (by show ¬ nI (3 ^ k) ≤ nI r; rw [le_i, nI_toInt (by omega), nI_toInt (by omega)]; omega)) (fun _ => ?_)
          refine And.intro rfl (s_Lbecomes h rfl rfl rfl ha (by omega) (by omega) ?_)
          have eb := B6_bit T (p := bc (gs (l 5)) k r a) (by omega)
          refine run_L_fewest 5 ?_
          refine And.intro (fun c => ?_) (fun c => ?_)
          · have c : ¬ (B6 T >>> (nI (bc (gs (l 5)) k r a) &&& 31)) &&& Int32.ofInt 1 = 1 := c
            rw [eb] at c
            refine run_L_fewest 2 ?_
            refine ih' (r + 1) _ (by omega) (nI_1 r) (lt_s g3 ?_)
            cases ht : T (bc (gs (l 5)) k r a) with
            | false => rfl
            | true => rw [ht] at c; exact absurd rfl c
          · have c : (B6 T >>> (nI (bc (gs (l 5)) k r a) &&& 31)) &&& Int32.ofInt 1 = 1 := Classical.not_not.mp c
            rw [eb] at c
            have ht : T (bc (gs (l 5)) k r a) = true := by
              cases ht : T (bc (gs (l 5)) k r a) with
              | true => rfl
              | false => rw [ht] at c; exact absurd c (by decide)
            have e : Ds (gs (l 5)) T a = k := ds_eq (by omega) h3 ((bc_Wt _ _ _ _).mpr ⟨r, by omega, ht⟩)
            rw [e] at hP
            have e4 : fwv k = nI k := if_neg (by omega)
            rw [e4] at hP
            refine run_L_fewest 2 ?_
            exact hP
      refine run_L_fewest 5 ?_
      refine And.intro (fun e => absurd e (by show ¬ (4 : Int32) ≤ nI k; rw [le_i, nI_toInt (by omega), show (4 : Int32).toInt = 4 from rfl]; omega)) (fun _ => ?_)
      exact inner (3 ^ k) 0 0 (by omega) rfl (fun r' hr => absurd hr (by omega))
  refine run_L_fewest 2 ?_
  exact outer 4 0 0 none rfl rfl (fun j hj => absurd hj (by omega))
end LC
