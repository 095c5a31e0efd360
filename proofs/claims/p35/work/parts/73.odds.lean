/-! the law: from every mark; odds -/
section LX
variable {scr : Option (List Int32)} {P : ba_P} {w : ba_W} {f : Nat → Nat → Int32} {l : Nat → List Int32} {q : List (List Int32)}
variable {n e N a c z : Nat} {g x1 : Int32}
theorem w_from {C Z : Nat} (hC : C ≤ 990) (hZ : Z ≤ 19000) (hN : N < 10)
    (K : ∀ l q c z, SS f l n → c ≤ C → z ≤ Z → ba_go scr ix_L_law 550 (LL n e g x1 N [none, none, none, none, none, none, none, none, none, none, none]) [] (wW f l q) c z P) :
    ∀ (m a : Nat) (x : Int32) (l : Nat → List Int32) (q : List (List Int32)) (c z : Nat), a + m = 4 → x = nI a → SS f l n → c + 3 * m ≤ C → z + 27 * m ≤ Z → ba_go scr ix_L_law 144 (LL n e g x1 N [some (.int x), none, none, none, none, none, none, none, none, none, none]) [] (wW f l q) c z P := by
  intro m
  induction m with
  | zero =>
    intro a x l q c z ha hx hS hc hz
    subst hx
    have e4 : a = 4 := by omega
    subst e4
    refine run_L0 3 ?_
    refine And.intro (fun _ => ?_) (fun e2 => absurd (by decide) e2)
    refine ba_le.weak ?_ (K l q c z hS (by omega) (by omega))
    repeat (first | exact le_0 | refine le_s ?_ | refine le_n ?_)
  | succ m ih =>
    intro a x l q c z ha hx hS hc hz
    subst hx
    refine run_L0 5 ?_
    refine And.intro (fun e2 => absurd e2 (by show ¬ (4 : Int32) ≤ nI a; rw [le_i, nI_toInt (by omega), show (4 : Int32).toInt = 4 from rfl]; omega)) (fun _ => ?_)
    refine t_to (c := c) (z := z) (by omega) (by omega) (by omega) hN (fun l hS => ?_) 4 0 0 l rfl rfl hS
    refine run_L0 2 ?_
    refine v_stamps (C := c + 3) (Z := z + 27) (by omega) (by omega) hS (by omega) (fun q c z hc hz => ?_) 3 0 0 q c z rfl rfl (by omega) (by omega)
    refine run_L1 2 ?_
    exact ih (a + 1) _ l q c z (by omega) (nI_1 a) hS (by omega) (by omega)
theorem x_count {p : Nat} (hc : c ≤ 1000) (hz : z ≤ 20000) (hS : SS f l n) (hp : p < n) (hN : N < 10)
    (K : ba_go scr ix_L_law 611 (LL n e g x1 N [some (.int (nI p)), some (.long (lN (cnt (fun row => decide (bc (gs (l 5)) N row (px l p / 8 % 4) % 2 = 0)) (3 ^ N)))), none, none, none, none, none, none, none, none, none]) [] (wW f l q) c z P) :
    ∀ (r : Nat) (x : Int32) (M : Nat), r ≤ 3 ^ N → x = vL r → M + cnt (fun row => decide (bc (gs (l 5)) N row (px l p / 8 % 4) % 2 = 0)) r = cnt (fun row => decide (bc (gs (l 5)) N row (px l p / 8 % 4) % 2 = 0)) (3 ^ N) →
      ba_go scr ix_L_law 571 (LL n e g x1 N [some (.int (nI p)), some (.long (lN M)), none, some (.int x), none, none, none, none, none, none, none]) [] (wW f l q) c z P := by
  have hpN := p39 (k := N) hN
  obtain ⟨⟨h1, h2, -⟩, -⟩ := hS.2.2.2 p hp
  have hm4 : px l p / 8 % 4 < 4 := Nat.mod_lt _ (by decide)
  have hn6 := hS.n6
  intro r
  induction r with
  | zero =>
    intro x M hr hx hM
    subst hx
    have hM : M + 0 = _ := hM
    rw [Nat.add_zero] at hM
    subst hM
    refine run_L2 2 ?_
    refine And.intro (fun _ => ?_) (fun e2 => absurd (by decide) e2)
    refine ba_le.weak ?_ K
    repeat (first | exact le_0 | refine le_s ?_ | refine le_n ?_)
  | succ r ih =>
    intro x M hr hx hM
    have hx : x = nI r := hx
    subst hx
    have hb := bc_lt (gs_all hS.wr.2.2.1) N r (px l p / 8 % 4) hm4
    have es : cnt (fun row => decide (bc (gs (l 5)) N row (px l p / 8 % 4) % 2 = 0)) (r + 1) = cnt (fun row => decide (bc (gs (l 5)) N row (px l p / 8 % 4) % 2 = 0)) r + (if decide (bc (gs (l 5)) N r (px l p / 8 % 4) % 2 = 0) then 1 else 0) := rfl
    refine run_L2 7 ?_
    refine And.intro (fun e2 => absurd e2 (by show ¬ nI r < 0; rw [lt_i, zi, nI_toInt (by omega)]; omega)) (fun _ => ?_)
    refine And.intro (cz0 hc hz) (s_Lmark hS.2.1.1 rfl (by omega) h1 h2 ?_)
    refine run_L2 3 ?_
    refine And.intro (cz0 hc hz) (s_Lbecomes hS.wr rfl rfl rfl hm4 hN (by omega) ?_)
    refine run_L2 3 ?_
    refine And.intro (by decide) ?_
    have er := rem2 hb
    refine And.intro (fun d => ?_) (fun d => ?_)
    · have d : ¬ nI (bc (gs (l 5)) N r (px l p / 8 % 4)) - nI (bc (gs (l 5)) N r (px l p / 8 % 4)) / Int32.ofInt 2 * Int32.ofInt 2 = nI 0 := d
      rw [er, nI_eq (by omega) (by decide)] at d
      rw [decide_eq_false d, if_neg (by decide)] at es
      refine run_L2 5 ?_
      have t := ih _ M (by omega) (vL_dec r) (by omega)
      have eM : lN M + Int64.ofNat 0 = lN M := lN_add M 0
      rw [← eM] at t
      exact t
    · have d : nI (bc (gs (l 5)) N r (px l p / 8 % 4)) - nI (bc (gs (l 5)) N r (px l p / 8 % 4)) / Int32.ofInt 2 * Int32.ofInt 2 = nI 0 := Classical.not_not.mp d
      rw [er, nI_eq (by omega) (by decide)] at d
      rw [decide_eq_true d, if_pos rfl] at es
      refine run_L2 6 ?_
      have t := ih _ (M + 1) (by omega) (vL_dec r) (by omega)
      have eM : lN M + Int64.ofNat 1 = lN (M + 1) := lN_add M 1
      rw [← eM] at t
      exact t
theorem x_odds (hN : N ≤ 6) (hc : c ≤ 1000) (hz : z ≤ 20000)
    (K : ∀ l, SS f l n → ba_go scr ix_L_law 709 (LL n e g x1 N [none, none, none, none, none, none, none, none, none, none, none]) [] (wW f l q) c z P) :
    ∀ (m p : Nat) (x : Int32) (l : Nat → List Int32), p + m = n → x = nI p → SS f l n → ba_go scr ix_L_law 553 (LL n e g x1 N [some (.int x), none, none, none, none, none, none, none, none, none, none]) [] (wW f l q) c z P := by
  intro m
  induction m with
  | zero =>
    intro p x l hp hx hS
    subst hx
    have e4 : p = n := by omega
    subst e4
    refine run_L2 3 ?_
    refine And.intro (fun _ => ?_) (fun e2 => absurd (by show nI p ≤ nI p; rw [le_i]; omega) e2)
    refine ba_le.weak ?_ (K l hS)
    repeat (first | exact le_0 | refine le_s ?_ | refine le_n ?_)
  | succ m ih =>
    intro p x l hp hx hS
    subst hx
    have hn6 := hS.n6
    have h36 : 3 ^ N ≤ 729 := Nat.pow_le_pow_right (by decide) hN
    have h0 := p3 N
    obtain ⟨T, hT⟩ : ∃ T, T = cnt (fun row => decide (bc (gs (l 5)) N row (px l p / 8 % 4) % 2 = 0)) (3 ^ N) := ⟨_, rfl⟩
    have hTl : T ≤ 3 ^ N := by rw [hT]; exact cnt_le _
    have hU : Un f l p N = T := by
      have hm4 : px l p / 8 % 4 < 4 := Nat.mod_lt _ (by decide)
      show Wn (rn (l 5)) (mn f p) N 0 + Wn (rn (l 5)) (mn f p) N 2 = T
      rw [hS.mnE (show p < n by omega), hT, cnt_even hS.wr.2.2.1 hm4]
    obtain ⟨o1, o2, o3, o4⟩ := odds_ok (U := T) (n := N)
    have hua : T / Nat.gcd T (3 ^ N) ≤ T := Nat.div_le_self _ _
    have hda : 3 ^ N / Nat.gcd T (3 ^ N) ≤ 3 ^ N := Nat.div_le_self _ _
    have m1 : T / Nat.gcd T (3 ^ N) * 3 ^ N ≤ 729 * 729 := Nat.mul_le_mul (by omega) h36
    generalize hu : T / Nat.gcd T (3 ^ N) = u at *
    generalize hd : 3 ^ N / Nat.gcd T (3 ^ N) = d at *
    refine run_L2 7 ?_
    refine And.intro (fun e2 => absurd e2 (by show ¬ nI n ≤ nI p; rw [le_i, nI_toInt (by omega), nI_toInt (by omega)]; omega)) (fun _ => ?_)
    refine And.intro (cz0 hc hz) (s_Lpower rfl (by omega) ?_)
    refine run_L2 3 ?_
    refine x_count (p := p) hc hz hS (by omega) (by omega) ?_ (3 ^ N) _ 0 (Nat.le_refl _) ?_ (Nat.zero_add _)
    · rw [← hT]
      refine run_L2 5 ?_
      refine And.intro (cz0 hc hz) (c_odds hS.1 rfl (by omega) rfl (by omega) (Or.inl rfl) (fun X Y X2 Y2 hX hY hX2 hY2 => ?_))
      rw [if_pos (show Int32.ofInt 0 = 0 by decide), hU, hu]
      have hS2 := (hS.wqE hX hY).wqE hX2 hY2
      refine run_L2 6 ?_
      have hU2 : Un f (wq (wq l X Y) X2 Y2) p N = T := hU
      refine And.intro (cz0 hc hz) (c_odds hS2.1 rfl (by omega) rfl (by omega) (Or.inr rfl) (fun X3 Y3 X4 Y4 hX3 hY3 hX4 hY4 => ?_))
      rw [if_neg (show ¬ Int32.ofInt 1 = 0 by decide), hU2, hd]
      have hS3 := (hS2.wqE hX3 hY3).wqE hX4 hY4
      generalize wq (wq (wq (wq l X Y) X2 Y2) X3 Y3) X4 Y4 = l' at *
      have fin : ∀ L9, ba_le (LL n e g x1 N [some (.int (nI p)), none, none, none, none, none, none, none, none, none, none]) L9 → ba_go scr ix_L_law 703 L9 [] (wW f l' q) c z P := by
        intro L9 hle
        refine ba_le.weak hle ?_
        refine run_L2 2 ?_
        exact ih (p + 1) _ l' (by omega) (nI_1 p) hS3
      refine run_L2 5 ?_
      refine And.intro (fun e2 => ?_) (fun _ => ?_)
      · have e2 : lg_cmp (lN d) (lN 1) < 0 := e2
        rw [lg_cmp_lt, lN_lt (by omega) (by decide)] at e2
        omega
      refine run_L2 3 ?_
      refine And.intro (cz0 hc hz) (s_Lpower rfl (by omega) ?_)
      refine run_L2 7 ?_
      refine And.intro (fun e2 => ?_) (fun _ => ?_)
      · have e2 : ¬ lg_cmp (lN u * (nI (3 ^ N)).toInt64) (lN T * lN d) = 0 := e2
        rw [lg_cmp_eq, nI_l (by omega), lN_mul, lN_mul, o2] at e2
        exact absurd rfl e2
      refine run_L2 4 ?_
      have pos : ¬ u = 0 → ba_go scr ix_L_law 672 (LL n e g x1 N [some (.int (nI p)), some (.long (lN T)), none, some (.long (lN u)), none, some (.long (lN d)), none, none, none, none, none]) [] (wW f l' q) c z P := by
        intro hu0
        refine run_L2 4 ?_
        refine And.intro (fun e2 => ?_) (fun _ => ?_)
        · have e2 : lg_cmp (lN u) (lN 0) ≤ 0 := e2
          rw [lg_cmp_le, lN_le (by omega) (by decide)] at e2
          omega
        refine run_L2 6 ?_
        refine And.intro (by decide) ?_
        refine And.intro (fun _ => fin _ (by repeat (first | exact le_0 | refine le_s ?_ | refine le_n ?_))) (fun e2 => ?_)
        have e2 : lg_cmp (lN u - lN u / lN 3 * lN 3) (lN 0) = 0 := Classical.not_not.mp e2
        rw [lg_cmp_eq, lN_mod (by omega) (by decide), lN_eq (by omega) (by decide)] at e2
        refine run_L2 6 ?_
        refine And.intro (by decide) ?_
        refine And.intro (fun _ => fin _ (by repeat (first | exact le_0 | refine le_s ?_ | refine le_n ?_))) (fun e3 => ?_)
        have e3 : lg_cmp (lN d - lN d / lN 3 * lN 3) (lN 0) = 0 := Classical.not_not.mp e3
        rw [lg_cmp_eq, lN_mod (by omega) (by decide), lN_eq (by omega) (by decide)] at e3
        exact absurd ⟨e2, e3⟩ o4
      refine And.intro (fun e2 => ?_) (fun e2 => ?_)
      · have e2 : ¬ lg_cmp (lN u) (lN 0) = 0 := e2
        rw [lg_cmp_eq, lN_eq (by omega) (by decide)] at e2
        exact pos e2
      · have e2 : lg_cmp (lN u) (lN 0) = 0 := Classical.not_not.mp e2
        rw [lg_cmp_eq, lN_eq (by omega) (by decide)] at e2
        have d1 := o3 e2
        refine run_L2 4 ?_
        refine And.intro (fun e3 => ?_) (fun _ => ?_)
        · have e3 : ¬ lg_cmp (lN d) (lN 1) = 0 := e3
          rw [lg_cmp_eq, lN_eq (by omega) (by decide)] at e3
          exact absurd d1 e3
        refine run_L2 4 ?_
        refine And.intro (fun _ => fin _ (by repeat (first | exact le_0 | refine le_s ?_ | refine le_n ?_))) (fun e3 => ?_)
        exfalso
        have e3 : ¬ lg_cmp (lN u) (lN 0) ≤ 0 := e3
        rw [lg_cmp_le, lN_le (by omega) (by decide)] at e3
        omega
    · show nI (3 ^ N) - nI 1 = vL (3 ^ N)
      rw [nI_sub (by omega) (by omega)]
      generalize 3 ^ N = T at *
      cases T with
      | zero => omega
      | succ T => rfl
end LX
