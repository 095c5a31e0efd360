/-! war: what a text is, the class's look at it -/
def dg (m : Int) (c : Int32) : Bool := decide (48 ≤ c.toInt ∧ c.toInt ≤ 48 + m)
def kd (c : Int32) : Int32 := if c = 112 then 0 else if c = 99 then 1 else if c = 103 then 2 else -9
def Gp (s : Nat) (c : Int32) : Bool := if s = 0 then decide (c = 59) else if s = 1 then !decide (kd c = -9) else if s = 2 then dg 1 c else if s = 3 then dg 3 c else dg 9 c
def Gb (t : Nat) (c : Int32) : Bool := if t = 0 then decide (c = 119) else if t < 5 then dg 9 c else if t < 17 then dg 3 c else (decide ((t - 17) / 5 < 6) && Gp ((t - 17) % 5) c)
def upto (C : Nat → Int32) (t : Nat) : Prop := ∀ s, s < t → Gb s (C s) = true
def whl (n : Nat) : Prop := 27 ≤ n ∧ (n - 17) % 5 = 0
def fb (C : Nat → Int32) (n e : Nat) : Prop := upto C e ∧ ((e < n ∧ Gb e (C e) = false) ∨ (e = n ∧ ¬ whl n))
theorem fb_un {C : Nat → Int32} {n e e' : Nat} (h : fb C n e) (h' : fb C n e') : e = e' := by
  rcases Nat.lt_trichotomy e e' with g | g | g
  · exfalso
    have h1 := h'.1 e g
    rcases h.2 with r | r
    · rw [r.2] at h1; exact absurd h1 (by decide)
    · rcases h'.2 with r' | r' <;> omega
  · exact g
  · exfalso
    have h1 := h.1 e' g
    rcases h'.2 with r | r
    · rw [r.2] at h1; exact absurd h1 (by decide)
    · rcases h.2 with r' | r' <;> omega
theorem fb_no {C : Nat → Int32} {n e : Nat} (h : fb C n e) : ¬ (upto C n ∧ whl n) := fun g => by
  rcases h.2 with r | r
  · have h1 := g.1 e r.1
    rw [r.2] at h1
    exact absurd h1 (by decide)
  · exact r.2 g.2
theorem fb_mk {C : Nat → Int32} {n t : Nat} (ht : t ≤ n) (hu : upto C t) (hb : ¬ (t < n ∧ Gb t (C t) = true)) (hw : ¬ whl t) : fb C n t := by
  refine ⟨hu, ?_⟩
  by_cases h : t < n
  · refine Or.inl ⟨h, ?_⟩
    cases hG : Gb t (C t) with
    | false => rfl
    | true => exact absurd ⟨h, hG⟩ hb
  · have e : t = n := by omega
    subst e
    exact Or.inr ⟨rfl, hw⟩
theorem upto_s {C : Nat → Int32} {t : Nat} (h : upto C t) (hg : Gb t (C t) = true) : upto C (t + 1) := lt_s h hg
theorem nI_sub {a b : Nat} (h : b ≤ a) (ha : a < 2 ^ 31) : nI a - nI b = nI (a - b) := by
  rw [eq_i, fb_subI (by rw [nI_toInt ha, nI_toInt (by omega)]; omega) (by rw [nI_toInt ha, nI_toInt (by omega)]; omega), nI_toInt ha, nI_toInt (by omega), nI_toInt (by omega)]
  omega
theorem nI_mod5 {a : Nat} (ha : a < 2 ^ 31) : nI a - nI a / 5 * 5 = nI (a % 5) := by
  have e : nI a / 5 = nI (a / 5) := nI_div (b := 5) ha (by decide)
  have e3 : (5 : Int32).toInt = 5 := rfl
  have h1 : (nI (a / 5)).toInt = ((a / 5 : Nat) : Int) := nI_toInt (by omega)
  have h2 : (nI (a / 5) * 5).toInt = ((a / 5 : Nat) : Int) * 5 := by rw [fb_mulI (by rw [h1, e3]; omega) (by rw [h1, e3]; omega), h1, e3]
  rw [e, eq_i, fb_subI (by rw [h2, nI_toInt ha]; omega) (by rw [h2, nI_toInt ha]; omega), h2, nI_toInt ha, nI_toInt (by omega)]
  omega
theorem lsw3 {x : Int} {k : Nat → Prop} {d t u v : Nat} {a b c : Int} (h1 : x = a → k t) (h2 : ¬ x = a → x = b → k u) (h3 : ¬ x = a → ¬ x = b → x = c → k v) (h4 : ¬ x = a → ¬ x = b → ¬ x = c → k d) : ba_lsw x k d [(a, t), (b, u), (c, v)] := ⟨h1, fun e => ⟨h2 e, fun g => ⟨h3 e g, h4 e g⟩⟩⟩
section WA
variable {scr : Option (List Int32)} {P : ba_P} {w : ba_W} {f : Nat → Nat → Int32} {l : Nat → List Int32} {q : List (List Int32)}
theorem s_isDigit {c m : Int32} {mi : Int} (hm : ((Int8.ofInt 48).toInt32 + m).toInt = 48 + mi) (h1 : dg mi c = true → P (some (.int 1)) w) (h0 : dg mi c = false → P (some (.int 0)) w) : ba_go scr ix_X6_isDigit 0 [some (.int c), some (.int m)] [] w 0 0 P := by
  refine run_X6_isDigit 20 ?_
  refine And.intro rfl (s_within (a := 48) (b := 48 + mi) rfl hm (fun a b => ?_) (fun a => ?_))
  · exact And.intro rfl (h1 (decide_eq_true ⟨a, b⟩))
  · exact And.intro rfl (h0 (decide_eq_false a))
theorem s_kindOf {c : Int32} (hP : P (some (.int (kd c))) w) : ba_go scr ix_X6_kindOf 0 [some (.int c)] [] w 0 0 P := by
  have i99 : (99 : Int32).toInt = 99 := rfl
  have i103 : (103 : Int32).toInt = 103 := rfl
  have i112 : (112 : Int32).toInt = 112 := rfl
  refine run_X6_kindOf 2 ?_
  refine (show ba_lsw c.toInt (fun t => ba_go scr ix_X6_kindOf t [some (.int c)] [] w 0 0 P) 42 [(99, 38), (103, 40), (112, 36)] from ?_)
  refine lsw3 (fun e => ?_) (fun e e2 => ?_) (fun e e2 e3 => ?_) (fun e e2 e3 => ?_)
  · have hc : c = 99 := by rw [eq_i, i99]; exact e
    have hk : kd c = 1 := by rw [hc]; decide
    rw [hk] at hP
    refine run_X6_kindOf 5 ?_
    exact hP
  · have hc : c = 103 := by rw [eq_i, i103]; exact e2
    have hk : kd c = 2 := by rw [hc]; decide
    rw [hk] at hP
    refine run_X6_kindOf 5 ?_
    exact hP
  · have hc : c = 112 := by rw [eq_i, i112]; exact e3
    have hk : kd c = 0 := by rw [hc]; decide
    rw [hk] at hP
    refine run_X6_kindOf 5 ?_
    exact hP
  · have hk : kd c = -9 := by
      unfold kd
      rw [if_neg (fun g => e3 (by rw [g]; rfl)), if_neg (fun g => e (by rw [g]; rfl)), if_neg (fun g => e2 (by rw [g]; rfl))]
    rw [hk] at hP
    refine run_X6_kindOf 5 ?_
    exact hP
theorem s_goesOnPerson {s : Nat} {c x : Int32} (hs : s < 5) (hx : x = nI s) (h1 : Gp s c = true → P (some (.int 1)) w) (h0 : Gp s c = false → P (some (.int 0)) w) : ba_go scr ix_X6_goesOnPerson 0 [some (.int x), some (.int c)] [] w 0 0 P := by
  subst hx
  have m9 : (-9 : Int32) = (Int8.ofInt (-9)).toInt32 := by decide
  have e59 : (59 : Int32) = (Int8.ofInt 59).toInt32 := by decide
  refine run_X6_goesOnPerson 30 ?_
  refine And.intro (fun g => ?_) (ba_sw_mk _ _ (fun j t hj he => ?_))
  · have g : (nI s).toInt < 1 ∨ 4 < (nI s).toInt := g
    rw [nI_toInt (by omega)] at g
    have hs0 : s = 0 := by omega
    subst hs0
    have hG : Gp 0 c = decide (c = 59) := rfl
    rw [hG, e59] at h1 h0
    refine And.intro (fun d => ?_) (fun d => ?_)
    · have d : ¬ c = (Int8.ofInt 59).toInt32 := d
      exact And.intro rfl (h0 (decide_eq_false d))
    · have d : c = (Int8.ofInt 59).toInt32 := Classical.not_not.mp d
      exact And.intro rfl (h1 (decide_eq_true d))
  · have he : (nI s).toInt = 1 + (j : Int) := he
    rw [nI_toInt (by omega)] at he
    have hj : [32, 47, 53, 59][j]? = some t := hj
    match j, hj with
    | 0, hj =>
      cases hj
      have hs1 : s = 1 := by omega
      subst hs1
      have hG : Gp 1 c = !decide (kd c = -9) := rfl
      rw [hG, m9] at h1 h0
      refine And.intro rfl (s_kindOf ?_)
      refine And.intro (fun d => ?_) (fun d => ?_)
      · have d : kd c = (Int8.ofInt (-9)).toInt32 := d
        exact And.intro rfl (h0 (by rw [decide_eq_true d]; rfl))
      · have d : ¬ kd c = (Int8.ofInt (-9)).toInt32 := d
        exact And.intro rfl (h1 (by rw [decide_eq_false d]; rfl))
    | 1, hj =>
      cases hj
      have hs1 : s = 2 := by omega
      subst hs1
      refine And.intro rfl (s_isDigit (mi := 1) rfl (fun d => ?_) (fun d => ?_))
      · exact And.intro rfl (h1 d)
      · exact And.intro rfl (h0 d)
    | 2, hj =>
      cases hj
      have hs1 : s = 3 := by omega
      subst hs1
      refine And.intro rfl (s_isDigit (mi := 3) rfl (fun d => ?_) (fun d => ?_))
      · exact And.intro rfl (h1 d)
      · exact And.intro rfl (h0 d)
    | 3, hj =>
      cases hj
      have hs1 : s = 4 := by omega
      subst hs1
      refine And.intro rfl (s_isDigit (mi := 9) rfl (fun d => ?_) (fun d => ?_))
      · exact And.intro rfl (h1 d)
      · exact And.intro rfl (h0 d)
    | j + 4, hj => exact absurd (List.getElem?_eq_some_iff.mp hj).1 (by show ¬ j + 4 < 4; omega)
theorem s_peopleIn {n : Nat} {x : Int32} (hx : x = nI n) (hn : 17 ≤ n) (hn2 : n < 1000) (hP : P (some (.int (nI ((n - 17) / 5)))) w) : ba_go scr ix_X6_peopleIn 0 [some (.int x)] [] w 0 0 P := by
  subst hx
  have e : (nI n - (Int8.ofInt 17).toInt32) / Int32.ofInt 5 = nI ((n - 17) / 5) := by
    show (nI n - nI 17) / nI 5 = _
    rw [nI_sub hn (by omega), nI_div (by omega) (by decide)]
  rw [← e] at hP
  refine run_X6_peopleIn 20 ?_
  refine And.intro (by decide) ?_
  exact hP
theorem s_goesOn {t : Nat} {c x : Int32} (hx : x = nI t) (ht : t < 1000) (h1 : Gb t c = true → P (some (.int 1)) w) (h0 : Gb t c = false → P (some (.int 0)) w) : ba_go scr ix_X6_goesOn 0 [some (.int x), some (.int c)] [] w 0 0 P := by
  subst hx
  have e119 : (119 : Int32) = (Int8.ofInt 119).toInt32 := by decide
  have e17 : ((Int8.ofInt 17).toInt32).toInt = 17 := by decide
  have e5 : (Int32.ofInt 5).toInt = 5 := rfl
  unfold Gb at h1 h0
  refine run_X6_goesOn 2 ?_
  refine And.intro (fun c0 => ?_) (fun c0 => ?_)
  · have c0 : ¬ nI t = 0 := c0
    have t0 : ¬ t = 0 := fun e => c0 (by rw [e]; rfl)
    rw [if_neg t0] at h1 h0
    refine run_X6_goesOn 3 ?_
    refine And.intro (fun c1 => ?_) (fun c1 => ?_)
    · have c1 : Int32.ofInt 5 ≤ nI t := c1
      rw [le_i, nI_toInt (by omega), e5] at c1
      rw [if_neg (by omega)] at h1 h0
      refine run_X6_goesOn 3 ?_
      refine And.intro (fun c2 => ?_) (fun c2 => ?_)
      · have c2 : (Int8.ofInt 17).toInt32 ≤ nI t := c2
        rw [le_i, nI_toInt (by omega), e17] at c2
        rw [if_neg (by omega)] at h1 h0
        refine run_X6_goesOn 2 ?_
        refine And.intro rfl (s_peopleIn rfl (by omega) ht ?_)
        refine run_X6_goesOn 2 ?_
        refine And.intro (fun c3 => ?_) (fun c3 => ?_)
        · have c3 : (Int8.ofInt 6).toInt32 ≤ nI ((t - 17) / 5) := c3
          rw [le_i, nI_toInt (by omega), show ((Int8.ofInt 6).toInt32).toInt = 6 by decide] at c3
          rw [decide_eq_false (by omega)] at h0
          refine run_X6_goesOn 3 ?_
          exact And.intro rfl (h0 rfl)
        · have c3 : ¬ (Int8.ofInt 6).toInt32 ≤ nI ((t - 17) / 5) := c3
          rw [le_i, nI_toInt (by omega), show ((Int8.ofInt 6).toInt32).toInt = 6 by decide] at c3
          rw [decide_eq_true (by omega), Bool.true_and] at h1 h0
          have em : (nI t - (Int8.ofInt 17).toInt32) - (nI t - (Int8.ofInt 17).toInt32) / Int32.ofInt 5 * Int32.ofInt 5 = nI ((t - 17) % 5) := by
            show (nI t - nI 17) - (nI t - nI 17) / 5 * 5 = _
            rw [nI_sub (by omega) (by omega), nI_mod5 (by omega)]
          refine run_X6_goesOn 7 ?_
          refine And.intro (by decide) ?_
          refine And.intro rfl (s_goesOnPerson (Nat.mod_lt _ (by decide)) em (fun d => ?_) (fun d => ?_))
          · refine run_X6_goesOn 5 ?_
            refine And.intro (fun e => absurd e (by decide)) (fun _ => ?_)
            exact And.intro rfl (h1 d)
          · refine run_X6_goesOn 5 ?_
            refine And.intro (fun _ => ?_) (fun e => absurd rfl e)
            exact And.intro rfl (h0 d)
      · have c2 : ¬ (Int8.ofInt 17).toInt32 ≤ nI t := c2
        rw [le_i, nI_toInt (by omega), e17] at c2
        rw [if_pos (by omega)] at h1 h0
        refine run_X6_goesOn 5 ?_
        refine And.intro rfl (s_isDigit (mi := 3) rfl (fun d => ?_) (fun d => ?_))
        · exact And.intro rfl (h1 d)
        · exact And.intro rfl (h0 d)
    · have c1 : ¬ Int32.ofInt 5 ≤ nI t := c1
      rw [le_i, nI_toInt (by omega), e5] at c1
      rw [if_pos (by omega)] at h1 h0
      refine run_X6_goesOn 5 ?_
      refine And.intro rfl (s_isDigit (mi := 9) rfl (fun d => ?_) (fun d => ?_))
      · exact And.intro rfl (h1 d)
      · exact And.intro rfl (h0 d)
  · have c0 : nI t = 0 := Classical.not_not.mp c0
    have t0 : t = 0 := by rw [eq_i, nI_toInt (by omega), zi] at c0; omega
    rw [if_pos t0, e119] at h1 h0
    refine run_X6_goesOn 8 ?_
    refine And.intro (fun d => ?_) (fun d => ?_)
    · have d : ¬ c = (Int8.ofInt 119).toInt32 := d
      exact And.intro rfl (h0 (decide_eq_false d))
    · have d : c = (Int8.ofInt 119).toInt32 := Classical.not_not.mp d
      exact And.intro rfl (h1 (decide_eq_true d))
theorem s_firstFault {k i0 n : Nat} {C : Nat → Int32} (hk4 : k < 4) (hC : (l (34 + 2 * k + 1)).length = 60) (hIN : i0 + n ≤ 60) (hCt : ∀ t, C t = (l (34 + 2 * k + 1)).getD (i0 + t) 0)
    (h1 : ∀ e, fb C n e → P (some (.int (nI e))) (wW f l q)) (h9 : upto C n → whl n → P (some (.int (-9))) (wW f l q)) :
    ba_go scr ix_X6_firstFault 0 [some (.ref (34 + 2 * k + 1)), some (.int (nI i0)), some (.int (nI n)), none] [] (wW f l q) 0 0 P := by
  have m9 : (-9 : Int32) = (Int8.ofInt (-9)).toInt32 := by decide
  have isC : ba_isC (wW f l q) (34 + 2 * k + 1) 5 = true := isC_of (sh_fld hk4).2.2.2.2
  have loop : ∀ (m t : Nat) (x : Int32), t + m = n → x = nI t → upto C t → ba_go scr ix_X6_firstFault 2 [some (.ref (34 + 2 * k + 1)), some (.int (nI i0)), some (.int (nI n)), some (.int x)] [] (wW f l q) 0 0 P := by
    intro m
    induction m with
    | zero =>
      intro t x g1 g2 hu
      subst g2
      have h4 : t = n := by omega
      subst h4
      have no : ¬ whl t → ba_go scr ix_X6_firstFault 48 [some (.ref (34 + 2 * k + 1)), some (.int (nI i0)), some (.int (nI t)), some (.int (nI t))] [] (wW f l q) 0 0 P := by
        intro hw
        refine run_X6_firstFault 8 ?_
        refine And.intro (fun _ => ?_) (fun e => absurd rfl e)
        exact h1 t ⟨hu, Or.inr ⟨rfl, hw⟩⟩
      refine run_X6_firstFault 3 ?_
      refine And.intro (fun _ => ?_) (fun e => absurd (by show nI t ≤ nI t; rw [le_i]; omega) e)
      refine run_X6_firstFault 3 ?_
      refine And.intro (fun c => ?_) (fun c => ?_)
      · have c : nI t < (Int8.ofInt 27).toInt32 := c
        rw [lt_i, nI_toInt (by omega), show ((Int8.ofInt 27).toInt32).toInt = 27 by decide] at c
        exact no (fun e => by have := e.1; omega)
      · have c : ¬ nI t < (Int8.ofInt 27).toInt32 := c
        rw [lt_i, nI_toInt (by omega), show ((Int8.ofInt 27).toInt32).toInt = 27 by decide] at c
        have em : (nI t - (Int8.ofInt 17).toInt32) - (nI t - (Int8.ofInt 17).toInt32) / Int32.ofInt 5 * Int32.ofInt 5 = nI ((t - 17) % 5) := by
          show (nI t - nI 17) - (nI t - nI 17) / 5 * 5 = _
          rw [nI_sub (by omega) (by omega), nI_mod5 (by omega)]
        refine run_X6_firstFault 6 ?_
        refine And.intro (by decide) ?_
        refine And.intro (fun d => ?_) (fun d => ?_)
        · have d : ¬ (nI t - (Int8.ofInt 17).toInt32) - (nI t - (Int8.ofInt 17).toInt32) / Int32.ofInt 5 * Int32.ofInt 5 = 0 := d
          rw [em] at d
          exact no (fun e => d (by rw [e.2]; rfl))
        · have d : (nI t - (Int8.ofInt 17).toInt32) - (nI t - (Int8.ofInt 17).toInt32) / Int32.ofInt 5 * Int32.ofInt 5 = 0 := Classical.not_not.mp d
          rw [em, eq_i, nI_toInt (by omega), zi] at d
          refine run_X6_firstFault 20 ?_
          refine And.intro (fun e => absurd e (by decide)) (fun _ => ?_)
          exact h9 hu ⟨by omega, by omega⟩
    | succ m ih =>
      intro t x g1 g2 hu
      subst g2
      refine run_X6_firstFault 10 ?_
      refine And.intro (fun e => absurd e (by show ¬ nI n ≤ nI t; rw [le_i, nI_toInt (by omega), nI_toInt (by omega)]; omega)) (fun _ => ?_)
      refine And.intro (ck rfl rfl rfl rfl isC) (s_atn (t := i0 + t) hk4 hC (nI_add i0 t) (by omega) ?_)
      rw [← hCt]
      refine And.intro rfl (s_goesOn rfl (by omega) (fun d => ?_) (fun d => ?_))
      · refine run_X6_firstFault 3 ?_
        refine And.intro (fun _ => ?_) (fun e => absurd (by decide) e)
        exact ih (t + 1) _ (by omega) (nI_1 t) (upto_s hu d)
      · refine run_X6_firstFault 5 ?_
        refine And.intro (fun e => absurd rfl e) (fun _ => ?_)
        exact h1 t ⟨hu, Or.inl ⟨by omega, d⟩⟩
  refine run_X6_firstFault 2 ?_
  exact loop n 0 0 (by omega) rfl (fun s hs => absurd hs (by omega))
end WA
