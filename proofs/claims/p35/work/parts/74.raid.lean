/-! the law: raids by all sets from the last one back -/
theorem high_bit : ∀ (n : Fin 7) (j : Fin 64), 2 ^ n.1 ≤ j.1 → ∃ x : Fin 6, n.1 ≤ x.1 ∧ bset j.1 x.1 = true := by decide +kernel
def bbt (val : Nat → Nat) (v : Nat) : Option Nat → Bool
  | none => true
  | some b => decide (val v ≤ val b)
theorem bdn_s {ok : Nat → Bool} {val : Nat → Nat} {k j : Nat} : bdn ok val (k + 1) j = (if ok j && bbt val j (bdn ok val k (j + 1)) then some j else bdn ok val k (j + 1)) := by
  show (if ok j && (match bdn ok val k (j + 1) with | none => true | some b => decide (val j ≤ val b)) then some j else bdn ok val k (j + 1)) = _
  cases bdn ok val k (j + 1) <;> rfl
section LR
variable {scr : Option (List Int32)} {P : ba_P} {w : ba_W} {f : Nat → Nat → Int32} {l : Nat → List Int32} {q : List (List Int32)}
variable {n e N o k c z : Nat} {g x1 : Int32}
theorem SS.dpE {l : Nat → List Int32} (h : SS f l n) {p : Nat} (hp : p < n) : Ds (gs (l 5)) RT (px l p / 8 % 4) = dp f l p := by
  show _ = Ds (gs (l 5)) RT (mn f p)
  rw [h.mnE hp]
theorem okc_iff {W : Nat → Bool} {j : Nat} : okc f l W k j = true ↔ (∀ x, x < 6 → bset j x = true → W x = true ∧ ¬ dp f l x = 4) ∧ c6 (fun x => W x && !bset j x) ≤ k := by
  unfold okc
  rw [Bool.and_eq_true, decide_eq_true_iff, decide_eq_true_iff, bset_sub]
  constructor
  · rintro ⟨h1, h2⟩
    refine ⟨fun x hx hb => ?_, h2⟩
    have h3 := h1 x hx hb
    unfold able at h3
    rw [Bool.and_eq_true] at h3
    exact ⟨h3.1, fun e => by rw [e] at h3; exact absurd h3.2 (by decide)⟩
  · rintro ⟨h1, h2⟩
    refine ⟨fun x hx hb => ?_, h2⟩
    obtain ⟨a, b⟩ := h1 x hx hb
    unfold able
    rw [a, decide_eq_false b]
    rfl
theorem dt_le (hp : IvP f) {p : Nat} (h : p < 6) : dt f l p ≤ 80 := Nat.le_trans (Nat.mul_le_mul dp_le (tn_le hp h).1) (by decide)
theorem smi_le (hp : IvP f) {Y : Nat → Bool} : ∀ i, i ≤ 6 → smi (dt f l) Y i ≤ 80 * i
  | 0, _ => Nat.le_refl _
  | i + 1, h => by
    show smi (dt f l) Y i + (if Y i then dt f l i else 0) ≤ _
    have h1 := smi_le hp (Y := Y) i (by omega)
    have h2 := dt_le (l := l) hp (show i < 6 by omega)
    split <;> omega
/-- the ink for a set -/
theorem r_ink {W : Nat → Bool} {bs ls : Int32} {j : Nat} (hc : c ≤ 1000) (hz : z ≤ 20000) (hS : SS f l n) (hj : j < 64)
    (K1 : (∀ p, p < n → bset j p = true → ¬ dp f l p = 4) → ba_go scr ix_L_law 861 (LL n e g x1 N [some (.int (nI o)), some (.int (B6 W)), some (.int (nI k)), some (.int bs), some (.int ls), some (.int (nI j)), some (.int (nI (smi (dt f l) (bset j) n))), none, none, none, none]) [] (wW f l q) c z P)
    (K0 : (∃ p, p < n ∧ bset j p = true ∧ dp f l p = 4) → ba_go scr ix_L_law 861 (LL n e g x1 N [some (.int (nI o)), some (.int (B6 W)), some (.int (nI k)), some (.int bs), some (.int ls), some (.int (nI j)), some (.int (-9)), none, none, none, none]) [] (wW f l q) c z P) :
    ∀ (m i : Nat) (x y : Int32), i + m = n → x = nI i → y = nI (smi (dt f l) (bset j) i) → (∀ p, p < i → bset j p = true → ¬ dp f l p = 4) → ba_go scr ix_L_law 791 (LL n e g x1 N [some (.int (nI o)), some (.int (B6 W)), some (.int (nI k)), some (.int bs), some (.int ls), some (.int (nI j)), some (.int y), some (.int x), none, none, none]) [] (wW f l q) c z P := by
  have hn6 := hS.n6
  have hIv := hS.1.2.2.2
  intro m
  induction m with
  | zero =>
    intro i x y hi hx hy hd
    subst hx; subst hy
    have e4 : i = n := by omega
    subst e4
    refine run_L3 3 ?_
    refine And.intro (fun _ => ?_) (fun e2 => absurd (by show nI i ≤ nI i; rw [le_i]; omega) e2)
    refine ba_le.weak ?_ (K1 hd)
    repeat (first | exact le_0 | refine le_s ?_ | refine le_n ?_)
  | succ m ih =>
    intro i x y hi hx hy hd
    subst hx; subst hy
    have hsb := smi_le (l := l) hIv (Y := bset j) i (by omega)
    obtain ⟨⟨h1, h2, -⟩, -⟩ := hS.2.2.2 i (by omega)
    have hm4 : px l i / 8 % 4 < 4 := Nat.mod_lt _ (by decide)
    have eb := B6_bit (bset j) (p := i) (by omega)
    rw [← bset_B6 hj] at eb
    have es : smi (dt f l) (bset j) (i + 1) = smi (dt f l) (bset j) i + (if bset j i then dt f l i else 0) := rfl
    refine run_L3 12 ?_
    refine And.intro (fun e2 => absurd e2 (by show ¬ nI n ≤ nI i; rw [le_i, nI_toInt (by omega), nI_toInt (by omega)]; omega)) (fun _ => ?_)
    refine And.intro (fun e2 => absurd e2 (by show ¬ nI (smi (dt f l) (bset j) i) < 0; rw [lt_i, zi, nI_toInt (by omega)]; omega)) (fun _ => ?_)
    have on : ∀ d : Nat, d ≤ 4 → (smi (dt f l) (bset j) (i + 1) = smi (dt f l) (bset j) i + d * ty (px l i)) → (bset j i = true → ¬ dp f l i = 4) → ba_go scr ix_L_law 829 (LL n e g x1 N [some (.int (nI o)), some (.int (B6 W)), some (.int (nI k)), some (.int bs), some (.int ls), some (.int (nI j)), some (.int (nI (smi (dt f l) (bset j) i))), some (.int (nI i)), none, none, none]) [.int (nI d)] (wW f l q) c z P := by
      intro d hd4 he hne
      refine run_L3 3 ?_
      refine And.intro (fun _ => ?_) (fun e2 => absurd (by show 0 ≤ nI d; rw [le_i, zi, nI_toInt (by omega)]; omega) e2)
      refine run_L3 5 ?_
      refine And.intro (cz0 hc hz) (s_Ltakes hS.2.1.1 rfl (by omega) h1 h2 ?_)
      refine run_L3 5 ?_
      refine ba_le.weak ?_ (ih (i + 1) (nI i + Int32.ofInt 1) (nI (smi (dt f l) (bset j) i) + nI d * nI (ty (px l i))) (by omega) (nI_1 i) (by rw [he, nI_mul, nI_add]) (fun p hp hb => ?_))
      · repeat (first | exact le_0 | refine le_s ?_ | refine le_n ?_)
      · by_cases e : p = i
        · subst e; exact hne hb
        · exact hd p (by omega) hb
    refine And.intro (fun d => ?_) (fun d => ?_)
    · have d : ¬ (nI j >>> (nI i &&& 31)) &&& Int32.ofInt 1 = 1 := d
      rw [eb] at d
      have hb : bset j i = false := by
        cases hb : bset j i with
        | false => rfl
        | true => rw [hb] at d; exact absurd rfl d
      refine run_L3 1 ?_
      exact on 0 (by decide) (by rw [es, hb, Nat.zero_mul]; rfl) (fun h => by rw [hb] at h; exact absurd h (by decide))
    · have d : (nI j >>> (nI i &&& 31)) &&& Int32.ofInt 1 = 1 := Classical.not_not.mp d
      rw [eb] at d
      have hb : bset j i = true := by
        cases hb : bset j i with
        | true => rfl
        | false => rw [hb] at d; exact absurd d (by decide)
      refine run_L3 4 ?_
      refine And.intro (cz0 hc hz) (s_Lmark hS.2.1.1 rfl (by omega) h1 h2 ?_)
      refine run_L3 2 ?_
      refine And.intro (cz0 hc hz) (s_Lfewest (T := RT) hS.wr rfl (by decide +kernel) hm4 ?_)
      rw [hS.dpE (show i < n by omega)]
      have hd4 : dp f l i ≤ 4 := dp_le
      by_cases h4 : dp f l i = 4
      · rw [h4]
        refine run_L3 4 ?_
        refine And.intro (fun e2 => absurd e2 (by decide)) (fun _ => ?_)
        refine run_L3 5 ?_
        have last : ∀ x : Int32, x = nI (i + 1) → ba_go scr ix_L_law 791 (LL n e g x1 N [some (.int (nI o)), some (.int (B6 W)), some (.int (nI k)), some (.int bs), some (.int ls), some (.int (nI j)), some (.int (-9)), some (.int x), none, none, none]) [] (wW f l q) c z P := by
          intro x hx
          subst hx
          have K := K0 ⟨i, by omega, hb, h4⟩
          refine run_L3 3 ?_
          refine And.intro (fun _ => ?_) (fun _ => ?_)
          · refine ba_le.weak ?_ K
            repeat (first | exact le_0 | refine le_s ?_ | refine le_n ?_)
          · refine run_L3 2 ?_
            refine And.intro (fun _ => ?_) (fun e2 => absurd (by decide) e2)
            refine ba_le.weak ?_ K
            repeat (first | exact le_0 | refine le_s ?_ | refine le_n ?_)
        refine ba_le.weak ?_ (last (nI i + Int32.ofInt 1) (nI_1 i))
        repeat (first | exact le_0 | refine le_s ?_ | refine le_n ?_)
      · have e5 : fwv (dp f l i) = nI (dp f l i) := if_neg h4
        rw [e5]
        refine run_L3 1 ?_
        refine on (dp f l i) hd4 ?_ (fun _ => h4)
        rw [es, hb, if_pos rfl]
        show _ + dp f l i * tn f i = _
        rw [hS.tnE (show i < n by omega)]
def rval (f : Nat → Nat → Int32) (l : Nat → List Int32) (n : Nat) : Nat → Nat := fun j => smi (dt f l) (bset j) n
theorem r_sets (hc : c ≤ 1000) (hz : z ≤ 20000) (hS : SS f l n) (ho : o < 2) (hk : k ≤ 6)
    (K : ba_go scr ix_L_law 919 (LL n e g x1 N [some (.int (nI o)), some (.int (B6 (lw l n (1 - o)))), some (.int (nI k)), some (.int (bcode (bdn (okc f l (lw l n (1 - o)) k) (rval f l n) (2 ^ n) 0))), some (.int (bink (-9) (rval f l n) (bdn (okc f l (lw l n (1 - o)) k) (rval f l n) (2 ^ n) 0))), none, none, none, none, none, none]) [] (wW f l q) c z P) :
    ∀ (r : Nat) (x b y : Int32), r ≤ 2 ^ n → x = vL r → b = bcode (bdn (okc f l (lw l n (1 - o)) k) (rval f l n) (2 ^ n - r) r) → y = bink (-9) (rval f l n) (bdn (okc f l (lw l n (1 - o)) k) (rval f l n) (2 ^ n - r) r) →
      ba_go scr ix_L_law 750 (LL n e g x1 N [some (.int (nI o)), some (.int (B6 (lw l n (1 - o)))), some (.int (nI k)), some (.int b), some (.int y), some (.int x), none, none, none, none, none]) [] (wW f l q) c z P := by
  have hn6 := hS.n6
  have hIv := hS.1.2.2.2
  have h64 : 2 ^ n ≤ 64 := Nat.pow_le_pow_right (n := 2) (by decide) hn6.2
  obtain ⟨W, hW⟩ : ∃ W, W = lw l n (1 - o) := ⟨_, rfl⟩
  have hWn : ∀ x, n ≤ x → W x = false := by rw [hW]; exact lw_n
  rw [← hW] at K ⊢
  obtain ⟨ok, hok⟩ : ∃ ok, ok = okc f l W k := ⟨_, rfl⟩
  obtain ⟨val, hval⟩ : ∃ val, val = rval f l n := ⟨_, rfl⟩
  rw [← hok, ← hval] at K ⊢
  have vb : ∀ j, val j ≤ 480 := fun j => by
    rw [hval]
    have := smi_le (l := l) hIv (Y := bset j) n hn6.2
    show smi (dt f l) (bset j) n ≤ 480
    omega
  intro r
  induction r with
  | zero =>
    intro x b y hr hx hb hy
    subst hx; subst hb; subst hy
    refine run_L3 2 ?_
    refine And.intro (fun _ => ?_) (fun e2 => absurd (by decide) e2)
    refine ba_le.weak ?_ K
    repeat (first | exact le_0 | refine le_s ?_ | refine le_n ?_)
  | succ r ih =>
    intro x b y hr hx hb hy
    have hx : x = nI r := hx
    have hr64 : r < 64 := by omega
    obtain ⟨B, hB⟩ : ∃ B, B = bdn ok val (2 ^ n - (r + 1)) (r + 1) := ⟨_, rfl⟩
    have eB : bdn ok val (2 ^ n - r) r = (if ok r && bbt val r B then some r else B) := by
      rw [hB, ← bdn_s, show (2 ^ n - (r + 1)) + 1 = 2 ^ n - r by omega]
    have hBlt : ∀ b, B = some b → b < 64 := fun b h => by
      have h2 := bdn_isb (ok := ok) (val := val) (2 ^ n - (r + 1)) (r + 1)
      rw [← hB, h] at h2
      have := h2.1.2.1
      omega
    rw [← hB] at hb hy
    subst hx
    -- nothing better
    have worse : ∀ ink : Int32, bdn ok val (2 ^ n - r) r = B → ba_go scr ix_L_law 882 (LL n e g x1 N [some (.int (nI o)), some (.int (B6 W)), some (.int (nI k)), some (.int b), some (.int y), some (.int (nI r)), some (.int ink), none, none, none, none]) [] (wW f l q) c z P := by
      intro ink h
      refine run_L3 4 ?_
      refine And.intro (fun _ => ?_) (fun e2 => absurd rfl e2)
      refine run_L3 4 ?_
      refine And.intro (fun _ => ?_) (fun e2 => absurd rfl e2)
      refine run_L3 4 ?_
      refine ba_le.weak ?_ (ih (nI r + Int32.ofInt (-1)) b y (by omega) (vL_dec r) (by rw [h]; exact hb) (by rw [h]; exact hy))
      repeat (first | exact le_0 | refine le_s ?_ | refine le_n ?_)
    have better : bdn ok val (2 ^ n - r) r = some r → ba_go scr ix_L_law 878 (LL n e g x1 N [some (.int (nI o)), some (.int (B6 W)), some (.int (nI k)), some (.int b), some (.int y), some (.int (nI r)), some (.int (nI (val r))), none, none, none, none]) [] (wW f l q) c z P := by
      intro h
      refine run_L3 5 ?_
      refine And.intro (fun e2 => absurd e2 (by decide)) (fun _ => ?_)
      refine run_L3 5 ?_
      refine And.intro (fun e2 => absurd e2 (by decide)) (fun _ => ?_)
      refine run_L3 5 ?_
      refine ba_le.weak ?_ (ih (nI r + Int32.ofInt (-1)) (nI r) (nI (val r)) (by omega) (vL_dec r) (by rw [h]; rfl) (by rw [h]; rfl))
      repeat (first | exact le_0 | refine le_s ?_ | refine le_n ?_)
    have none9 : ok r = false → ba_go scr ix_L_law 861 (LL n e g x1 N [some (.int (nI o)), some (.int (B6 W)), some (.int (nI k)), some (.int b), some (.int y), some (.int (nI r)), some (.int (-9)), none, none, none, none]) [] (wW f l q) c z P := by
      intro h
      refine run_L3 2 ?_
      refine And.intro (fun _ => ?_) (fun e2 => absurd (by decide) e2)
      exact worse (-9) (by rw [eB, h]; rfl)
    have some9 : ok r = true → ba_go scr ix_L_law 861 (LL n e g x1 N [some (.int (nI o)), some (.int (B6 W)), some (.int (nI k)), some (.int b), some (.int y), some (.int (nI r)), some (.int (nI (val r))), none, none, none, none]) [] (wW f l q) c z P := by
      intro h
      have v1 := vb r
      refine run_L3 4 ?_
      refine And.intro (fun e2 => absurd e2 (by show ¬ nI (val r) < 0; rw [lt_i, zi, nI_toInt (by omega)]; omega)) (fun _ => ?_)
      cases hBc : B with
      | none =>
        rw [hBc] at hb
        subst hb
        refine And.intro (fun _ => ?_) (fun e2 => absurd (by decide) e2)
        exact better (by rw [eB, h, hBc]; rfl)
      | some b' =>
        have hlt := hBlt b' hBc
        have v2 := vb b'
        rw [hBc] at hb hy
        have hb : b = nI b' := hb
        have hy : y = nI (val b') := hy
        refine And.intro (fun e2 => ?_) (fun _ => ?_)
        · exfalso
          have e2 : b < 0 := e2
          rw [hb, lt_i, zi, nI_toInt (by omega)] at e2
          omega
        · refine run_L3 3 ?_
          refine And.intro (fun d => ?_) (fun d => ?_)
          · have d : y < nI (val r) := d
            rw [hy, lt_i, nI_toInt (by omega), nI_toInt (by omega)] at d
            refine worse _ ?_
            rw [eB, h, hBc]
            show (if (true && decide (val r ≤ val b')) = true then some r else some b') = some b'
            rw [decide_eq_false (show ¬ val r ≤ val b' by omega)]
            rfl
          · have d : ¬ y < nI (val r) := d
            rw [hy, lt_i, nI_toInt (by omega), nI_toInt (by omega)] at d
            refine better ?_
            rw [eB, h, hBc]
            show (if (true && decide (val r ≤ val b')) = true then some r else some b') = some r
            rw [decide_eq_true (show val r ≤ val b' by omega)]
            rfl
    have ez : (nI r &&& (B6 W ^^^ Int32.ofInt (-1)) = 0) ↔ B6 (fun x => bset r x && !W x) = 0 := by
      show (nI r &&& (B6 W ^^^ -1) = 0) ↔ _
      rw [bset_B6 hr64, B6_not]
    -- may not
    have mayNot : ok r = false → ba_go scr ix_L_law 784 (LL n e g x1 N [some (.int (nI o)), some (.int (B6 W)), some (.int (nI k)), some (.int b), some (.int y), some (.int (nI r)), none, none, none, none, none]) [] (wW f l q) c z P := by
      intro h
      refine run_L3 9 ?_
      refine And.intro (fun e2 => absurd e2 (by show ¬ nI n ≤ nI 0; rw [le_i, nI_toInt (by omega), nI_toInt (by decide)]; omega)) (fun _ => ?_)
      refine And.intro (fun _ => ?_) (fun e2 => absurd (by decide) e2)
      refine ba_le.weak ?_ (none9 h)
      repeat (first | exact le_0 | refine le_s ?_ | refine le_n ?_)
    refine run_L3 8 ?_
    refine And.intro (fun e2 => absurd e2 (by show ¬ nI r < 0; rw [lt_i, zi, nI_toInt (by omega)]; omega)) (fun _ => ?_)
    refine And.intro (fun d => ?_) (fun d => ?_)
    · have d : ¬ B6 (fun x => bset r x && !W x) = 0 := fun e2 => d (ez.mpr e2)
      refine mayNot ?_
      cases h : ok r with
      | false => rfl
      | true =>
        rw [hok, okc_iff] at h
        exact absurd (bset_sub.mpr (fun x hx hbx => (h.1 x hx hbx).1)) d
    · have d : B6 (fun x => bset r x && !W x) = 0 := ez.mp (Classical.not_not.mp d)
      refine run_L3 6 ?_
      refine And.intro (cz0 hc hz) (s_Lbits (g := fun x => W x && !bset r x) (by show B6 W &&& (nI r ^^^ -1) = _; rw [bset_B6 hr64, B6_not]) ?_)
      have hc6 := c6_le (fun x => W x && !bset r x)
      refine run_L3 2 ?_
      refine And.intro (fun d2 => ?_) (fun d2 => ?_)
      · have d2 : nI k < nI (c6 (fun x => W x && !bset r x)) := d2
        rw [lt_i, nI_toInt (by omega), nI_toInt (by omega)] at d2
        refine mayNot ?_
        cases h : ok r with
        | false => rfl
        | true =>
          rw [hok, okc_iff] at h
          exact absurd h.2 (by omega)
      · have d2 : ¬ nI k < nI (c6 (fun x => W x && !bset r x)) := d2
        rw [lt_i, nI_toInt (by omega), nI_toInt (by omega)] at d2
        refine run_L3 5 ?_
        refine r_ink (W := W) hc hz hS hr64 (fun hall => ?_) (fun hex => ?_) n 0 0 0 (Nat.zero_add n) rfl rfl (fun p hp => absurd hp (by omega))
        · have s := some9 (by
            rw [hok, okc_iff]
            refine ⟨fun x hx hbx => ?_, by omega⟩
            have hw := bset_sub.mp d x hx hbx
            refine ⟨hw, hall x ?_ hbx⟩
            by_cases e2 : x < n
            · exact e2
            · rw [hWn x (by omega)] at hw; exact absurd hw (by decide))
          have ev : val r = smi (dt f l) (bset r) n := by rw [hval]; rfl
          rw [ev] at s
          exact s
        · obtain ⟨p, hp, hbp, h4⟩ := hex
          refine none9 ?_
          cases h : ok r with
          | false => rfl
          | true =>
            rw [hok, okc_iff] at h
            exact absurd h4 (h.1 p (by omega) hbp).2
theorem r_left (hc : c ≤ 1000) (hz : z ≤ 20000) (hS : SS f l n) (ho : o < 2)
    (K : ba_go scr ix_L_law 955 (LL n e g x1 N [some (.int (nI o)), none, none, none, none, none, none, none, none, none, none]) [] (wW f l q) c z P) :
    ∀ (m k : Nat) (x : Int32), k + m = 7 → x = nI k → ba_go scr ix_L_law 731 (LL n e g x1 N [some (.int (nI o)), some (.int (B6 (lw l n (1 - o)))), some (.int x), none, none, none, none, none, none, none, none]) [] (wW f l q) c z P := by
  have hn6 := hS.n6
  have h64 : 2 ^ n ≤ 64 := Nat.pow_le_pow_right (n := 2) (by decide) hn6.2
  have h1n : 0 < 2 ^ n := Nat.pow_pos (by decide)
  intro m
  induction m with
  | zero =>
    intro k x hk hx
    subst hx
    have e7 : k = 7 := by omega
    subst e7
    refine run_L3 3 ?_
    refine And.intro (fun _ => ?_) (fun e2 => absurd (by decide) e2)
    refine ba_le.weak ?_ K
    repeat (first | exact le_0 | refine le_s ?_ | refine le_n ?_)
  | succ m ih =>
    intro k x hk hx
    subst hx
    refine run_L3 9 ?_
    refine And.intro (fun e2 => absurd e2 (by show ¬ nI 7 ≤ nI k; rw [le_i, nI_toInt (by omega), nI_toInt (by omega)]; omega)) (fun _ => ?_)
    have eW : wo f 2 n (1 - nI o) = lw l n (1 - o) := by
      rw [show (1 : Int32) - nI o = nI (1 - o) from nI_sub (a := 1) (by omega) (by decide)]
      exact hS.woE (by omega)
    have eR : rbest f l n (1 - nI o) k = bdn (okc f l (lw l n (1 - o)) k) (rval f l n) (2 ^ n) 0 := by
      unfold rbest
      rw [eW]
      refine (bdn_bst h64 (fun j h1 h2 => ?_)).symm
      cases h : okc f l (lw l n (1 - o)) k j with
      | false => rfl
      | true =>
        rw [okc_iff] at h
        obtain ⟨x, hx, hb⟩ := high_bit ⟨n, by omega⟩ ⟨j, h2⟩ h1
        have hw := (h.1 x.1 x.2 hb).1
        rw [lw_n x.1 hx] at hw
        exact absurd hw (by decide)
    have eV : (fun j => smi (dt f l) (bset j) n) = rval f l n := rfl
    refine r_sets hc hz hS ho (by omega) ?_ (2 ^ n) _ _ _ (Nat.le_refl _) ?_ (by rw [Nat.sub_self]; rfl) (by rw [Nat.sub_self]; rfl)
    · rw [← eR]
      refine run_L3 5 ?_
      refine And.intro (cz0 hc hz) (c_raid hS.1 rfl ho rfl (by omega) (Or.inl rfl) (fun _ => ?_) (fun e2 => absurd e2 (by decide)))
      rw [eV]
      refine run_L3 7 ?_
      refine And.intro (fun e2 => absurd rfl e2) (fun _ => ?_)
      refine And.intro (cz0 hc hz) (c_raid hS.1 rfl ho rfl (by omega) (Or.inr rfl) (fun e2 => absurd e2 (by decide)) (fun _ => ?_))
      refine run_L3 2 ?_
      refine And.intro (fun _ => ?_) (fun e2 => absurd rfl e2)
      refine run_L3 2 ?_
      refine ba_le.weak ?_ (ih (k + 1) (nI k + Int32.ofInt 1) (by omega) (nI_1 k))
      repeat (first | exact le_0 | refine le_s ?_ | refine le_n ?_)
    · show nI (2 ^ n - 1) = vL (2 ^ n)
      generalize 2 ^ n = T at *
      cases T with
      | zero => omega
      | succ T => rfl
theorem r_raid (hc : c ≤ 1000) (hz : z ≤ 20000) (hS : SS f l n)
    (K : ba_go scr ix_L_law 961 (LL n e g x1 N [none, none, none, none, none, none, none, none, none, none, none]) [] (wW f l q) c z P) :
    ∀ (m o : Nat) (x : Int32), o + m = 2 → x = nI o → ba_go scr ix_L_law 712 (LL n e g x1 N [some (.int x), none, none, none, none, none, none, none, none, none, none]) [] (wW f l q) c z P := by
  intro m
  induction m with
  | zero =>
    intro o x ho hx
    subst hx
    have e7 : o = 2 := by omega
    subst e7
    refine run_L3 3 ?_
    refine And.intro (fun _ => ?_) (fun e2 => absurd (by decide) e2)
    refine ba_le.weak ?_ K
    repeat (first | exact le_0 | refine le_s ?_ | refine le_n ?_)
  | succ m ih =>
    intro o x ho hx
    subst hx
    have e1 : Int32.ofInt 1 - nI o = nI (1 - o) := nI_sub (a := 1) (by omega) (by decide)
    refine run_L3 8 ?_
    refine And.intro (fun e2 => absurd e2 (by show ¬ nI 2 ≤ nI o; rw [le_i, nI_toInt (by omega), nI_toInt (by omega)]; omega)) (fun _ => ?_)
    refine And.intro (cz0 hc hz) (s_Lwork hS.lq e1 (by omega) ?_)
    refine run_L3 3 ?_
    refine r_left hc hz hS (by omega) ?_ 7 0 0 rfl rfl
    refine run_L3 2 ?_
    exact ih (o + 1) _ (by omega) (nI_1 o)
end LR
