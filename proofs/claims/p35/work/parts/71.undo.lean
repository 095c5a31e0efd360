/-! the law: undoings, ways -/
theorem le_0 : ba_le [] [] := ⟨rfl, fun _ _ h => h⟩
theorem le_s {a : Option Value} {l l' : ba_L} (h : ba_le l' l) : ba_le (a :: l') (a :: l) := ⟨by simp [h.1], fun i v hv => by
  cases i with
  | zero => exact hv
  | succ i => exact h.2 i v hv⟩
theorem le_n {a : Option Value} {l l' : ba_L} (h : ba_le l' l) : ba_le (none :: l') (a :: l) := ⟨by simp [h.1], fun i v hv => by
  cases i with
  | zero => cases hv
  | succ i => exact h.2 i v hv⟩
abbrev PL : ba_P := fun v _ => v = some (.int 1)
abbrev LL (n e : Nat) (g x1 : Int32) (N : Nat) (t : List (Option Value)) : ba_L := some (.ref 0) :: some (.ref 1) :: some (.ref 43) :: some (.int (nI n)) :: some (.int (nI (2 ^ n - 1))) :: some (.int (nI e)) :: some (.int g) :: some (.int x1) :: some (.int (nI N)) :: t
theorem vL_dec (r : Nat) : nI r + Int32.ofInt (-1) = vL r := by
  cases r with
  | zero => decide
  | succ r =>
    have e1 : Int32.ofInt (-1) = -1 := by decide
    rw [e1, ← Int32.sub_eq_add_neg, nI_pred]
    rfl
theorem p39 {k : Nat} (hk : k < 10) : 3 ^ k < 20000 := Nat.lt_of_le_of_lt (Nat.pow_le_pow_right (by decide) (show k ≤ 9 by omega)) (by decide)
section LU
variable {scr : Option (List Int32)} {P : ba_P} {w : ba_W} {f : Nat → Nat → Int32} {l : Nat → List Int32} {q : List (List Int32)}
variable {n e N a t c z : Nat} {g x1 : Int32}
theorem Dt_le {l : Nat → List Int32} {t a : Nat} : Dt l t a ≤ 4 := by show Ds _ _ _ ≤ 4; exact ds_le4
/-- the least row, from the last one back -/
theorem t_best {D : Nat} (hc : c ≤ 1000) (hz : z ≤ 20000) (hS : SS f l n) (ha : a < 4) (ht : t < 4) (hD : D ≤ 3) {fw : Int32} (hfw : fw = nI D)
    (K : ba_go scr ix_L_law 227 (LL n e g x1 N [some (.int (nI a)), some (.int (nI t)), some (.int fw), some (.int (nI (lk (fun row => decide (bc (gs (l 5)) D row a = t)) (3 ^ D) 0))), none, none, none, none, none, none, none]) [] (wW f l q) c z P) :
    ∀ (r : Nat) (x y : Int32), r ≤ 3 ^ D → x = vL r → y = nI (lk (fun row => decide (bc (gs (l 5)) D row a = t)) (3 ^ D - r) r) → ba_go scr ix_L_law 192 (LL n e g x1 N [some (.int (nI a)), some (.int (nI t)), some (.int fw), some (.int y), some (.int x), none, none, none, none, none, none]) [] (wW f l q) c z P := by
  intro r
  have hpD := p39 (k := D) (by omega)
  have hlt : ∀ row, bc (gs (l 5)) D row a < 4 := fun row => bc_lt (gs_all hS.wr.2.2.1) D row a ha
  induction r with
  | zero =>
    intro x y hr hx hy
    subst hx; subst hy
    refine run_L0 2 ?_
    refine And.intro (fun _ => ?_) (fun e => absurd (by decide) e)
    refine ba_le.weak ?_ K
    repeat (first | exact le_0 | refine le_s ?_ | refine le_n ?_)
  | succ r ih =>
    intro x y hr hx hy
    have hx : x = nI r := hx
    subst hx; subst hy
    refine run_L0 7 ?_
    refine And.intro (fun e => absurd e (by show ¬ nI r < 0; rw [lt_i, zi, nI_toInt (by omega)]; omega)) (fun _ => ?_)
    refine And.intro (cz0 hc hz) (s_Lbecomes hS.wr rfl hfw rfl ha (by omega) (by omega) ?_)
    have es : 3 ^ D - r = (3 ^ D - (r + 1)) + 1 := by omega
    have el : lk (fun row => decide (bc (gs (l 5)) D row a = t)) (3 ^ D - r) r = (if decide (bc (gs (l 5)) D r a = t) then r else lk (fun row => decide (bc (gs (l 5)) D row a = t)) (3 ^ D - (r + 1)) (r + 1)) := by
      rw [es]
      rfl
    have hb := hlt r
    refine run_L0 2 ?_
    refine And.intro (fun d => ?_) (fun d => ?_)
    · have d : ¬ nI (bc (gs (l 5)) D r a) = nI t := d
      rw [nI_eq (by omega) (by omega)] at d
      rw [decide_eq_false d, if_neg (by decide)] at el
      refine run_L0 4 ?_
      exact ih _ _ (by omega) (vL_dec r) (by rw [el])
    · have d : nI (bc (gs (l 5)) D r a) = nI t := Classical.not_not.mp d
      rw [nI_eq (by omega) (by omega)] at d
      rw [decide_eq_true d, if_pos rfl] at el
      refine run_L0 5 ?_
      exact ih _ _ (by omega) (vL_dec r) (by rw [el])
theorem t_ways (hc : c ≤ 1000) (hz : z ≤ 20000) (hS : SS f l n) (ha : a < 4) (ht : t < 4) (hN : N < 10) {fw bs : Int32}
    (K : ba_go scr ix_L_law 274 (LL n e g x1 N [some (.int (nI a)), some (.int (nI t)), some (.int fw), some (.int bs), some (.int (nI (cnt (fun row => decide (bc (gs (l 5)) N row a = t)) (3 ^ N)))), none, none, none, none, none, none]) [] (wW f l q) c z P) :
    ∀ (m r : Nat) (x y : Int32), r + m = 3 ^ N → x = nI r → y = nI (cnt (fun row => decide (bc (gs (l 5)) N row a = t)) r) → ba_go scr ix_L_law 233 (LL n e g x1 N [some (.int (nI a)), some (.int (nI t)), some (.int fw), some (.int bs), some (.int y), some (.int x), none, none, none, none, none]) [] (wW f l q) c z P := by
  have hpN := p39 (k := N) hN
  have hlt : ∀ row, bc (gs (l 5)) N row a < 4 := fun row => bc_lt (gs_all hS.wr.2.2.1) N row a ha
  intro m
  induction m with
  | zero =>
    intro r x y hr hx hy
    subst hx; subst hy
    have er : r = 3 ^ N := by omega
    refine run_L0 3 ?_
    refine And.intro (cz0 hc hz) (s_Lpower rfl (by omega) ?_)
    refine run_L0 1 ?_
    refine And.intro (fun _ => ?_) (fun e2 => absurd (by show nI (3 ^ N) ≤ nI r; rw [er, le_i]; omega) e2)
    rw [er]
    refine ba_le.weak ?_ K
    repeat (first | exact le_0 | refine le_s ?_ | refine le_n ?_)
  | succ m ih =>
    intro r x y hr hx hy
    subst hx; subst hy
    refine run_L0 3 ?_
    refine And.intro (cz0 hc hz) (s_Lpower rfl (by omega) ?_)
    refine run_L0 7 ?_
    refine And.intro (fun e2 => absurd e2 (by show ¬ nI (3 ^ N) ≤ nI r; rw [le_i, nI_toInt (by omega), nI_toInt (by omega)]; omega)) (fun _ => ?_)
    refine And.intro (cz0 hc hz) (s_Lbecomes hS.wr rfl rfl rfl ha hN (by omega) ?_)
    have el : cnt (fun row => decide (bc (gs (l 5)) N row a = t)) (r + 1) = cnt (fun row => decide (bc (gs (l 5)) N row a = t)) r + (if decide (bc (gs (l 5)) N r a = t) then 1 else 0) := rfl
    have hb := hlt r
    refine run_L0 2 ?_
    refine And.intro (fun d => ?_) (fun d => ?_)
    · have d : ¬ nI (bc (gs (l 5)) N r a) = nI t := d
      rw [nI_eq (by omega) (by omega)] at d
      rw [decide_eq_false d, if_neg (by decide)] at el
      refine run_L0 5 ?_
      exact ih (r + 1) _ _ (by omega) (nI_1 r) (by rw [el]; exact nI_add _ 0)
    · have d : nI (bc (gs (l 5)) N r a) = nI t := Classical.not_not.mp d
      rw [nI_eq (by omega) (by omega)] at d
      rw [decide_eq_true d, if_pos rfl] at el
      refine run_L0 6 ?_
      exact ih (r + 1) _ _ (by omega) (nI_1 r) (by rw [el]; exact nI_1 _)
theorem t_und (hc : c ≤ 1000) (hz : z ≤ 20000) (hS : SS f l n) (ha : a < 4) (ht : t < 4) {fw bs : Int32} (hfw : fw = fwv (Dt l t a)) (hbs : Dt l t a ≤ 3 → bs = nI (br (gs (l 5)) (Dt l t) (Dt l t a) a))
    (K : ba_go scr ix_L_law 362 (LL n e g x1 N [some (.int (nI a)), some (.int (nI t)), none, none, none, none, none, none, none, none, none]) [] (wW f l q) c z P) :
    ∀ (m k : Nat) (x : Int32) (v : Option Value), k + m = 3 → x = nI k → ba_go scr ix_L_law 308 (LL n e g x1 N [some (.int (nI a)), some (.int (nI t)), some (.int fw), some (.int bs), none, some (.int x), none, none, none, none, none]) [] (wW f l q) c z P := by
  have D4 : Dt l t a ≤ 4 := Dt_le
  obtain ⟨D, hDe⟩ : ∃ D, D = Dt l t a := ⟨_, rfl⟩
  rw [← hDe] at hfw hbs D4
  intro m
  induction m with
  | zero =>
    intro k x v hk hx
    subst hx
    have e3 : k = 3 := by omega
    subst e3
    refine run_L0 3 ?_
    refine And.intro (fun _ => ?_) (fun e2 => absurd (by decide) e2)
    refine ba_le.weak ?_ K
    repeat (first | exact le_0 | refine le_s ?_ | refine le_n ?_)
  | succ m ih =>
    intro k x v hk hx
    subst hx
    have tk' : (nI k).toInt = k := nI_toInt (by omega)
    have next : ∀ b : Int32, ba_go scr ix_L_law 351 (LL n e g x1 N [some (.int (nI a)), some (.int (nI t)), some (.int fw), some (.int bs), none, some (.int (nI k)), none, none, none, none, none]) [.int b, .int b] (wW f l q) c z P := by
      intro b
      refine run_L0 3 ?_
      refine And.intro (fun _ => ?_) (fun e2 => absurd rfl e2)
      exact ih (k + 1) _ none (by omega) (nI_1 k)
    refine run_L0 8 ?_
    refine And.intro (fun e2 => absurd e2 (by show ¬ (3 : Int32) ≤ nI k; rw [le_i, tk', show (3 : Int32).toInt = 3 from rfl]; omega)) (fun _ => ?_)
    have far : (D = 4 ∨ D ≤ k) → ba_go scr ix_L_law 324 (LL n e g x1 N [some (.int (nI a)), some (.int (nI t)), some (.int fw), some (.int bs), none, some (.int (nI k)), none, none, none, none, none]) [.int (-9)] (wW f l q) c z P := by
      intro h
      refine run_L0 3 ?_
      have hle : fw ≤ nI k := by
        rw [hfw, le_i, tk']
        unfold fwv
        by_cases h4 : D = 4
        · rw [if_pos h4, show (-9 : Int32).toInt = -9 from rfl]; omega
        · rw [if_neg h4, nI_toInt (by omega)]; omega
      refine And.intro (fun _ => ?_) (fun e2 => absurd hle e2)
      refine run_L0 1 ?_
      exact next _
    refine And.intro (cz0 hc hz) (c_undoing hS.1 rfl rfl ha ht (fun h => absurd ⟨by omega, by omega⟩ h) (fun _ h => ?_) (fun h => ?_) (fun k' hk' hlt hle => ?_))
    · rw [← hDe] at h
      exact far (by rcases h with h | h; exact Or.inl h; exact Or.inr (by rw [tk'] at h; omega))
    · exfalso
      have := congrArg Int32.toInt h
      rw [tk', show (-1 : Int32).toInt = -1 from rfl] at this
      omega
    · rw [← hDe] at hlt hle
      have hkk : k' = k := by
        have := congrArg Int32.toInt hk'
        rw [tk'] at this
        by_cases hb : k' < 2 ^ 31
        · rw [nI_toInt hb] at this; omega
        · omega
      subst hkk
      have hd := br_dig (g := gs (l 5)) (D := Dt l t) D a k' hlt
      have hb3 := br_lt (g := gs (l 5)) (D := Dt l t) D a
      have hp := p39 (k := D) (by omega)
      have hp2 := p39 (k := D - 1 - k') (by omega)
      have eb : bs = nI (br (gs (l 5)) (Dt l t) D a) := hbs hle
      have ef : fw = nI D := by rw [hfw]; unfold fwv; rw [if_neg (by omega)]
      generalize br (gs (l 5)) (Dt l t) D a = B at *
      generalize nsr (gs (l 5)) (Dt l t) (pt (gs (l 5)) (Dt l t) a k') 3 = V at *
      refine run_L0 10 ?_
      refine And.intro (fun e2 => absurd e2 (by show ¬ fw ≤ nI k'; rw [ef, le_i, tk', nI_toInt (by omega)]; omega)) (fun _ => ?_)
      have e1 : fw - Int32.ofInt 1 - nI k' = nI (D - 1 - k') := by
        rw [ef]
        show nI D - nI 1 - nI k' = _
        rw [nI_sub (by omega) (by omega), nI_sub (by omega) (by omega)]
      refine And.intro (cz0 hc hz) (s_Lpower e1 (by omega) ?_)
      refine run_L0 4 ?_
      have h0 := p3 (D - 1 - k')
      have hB : B / 3 ^ (D - 1 - k') ≤ B := Nat.div_le_self _ _
      have e2 : bs / nI (3 ^ (D - 1 - k')) - bs / nI (3 ^ (D - 1 - k')) / nI 3 * nI 3 = nI V := by
        rw [eb, nI_div (by omega) (by omega), nI_mod (by omega) (by decide), hd]
      refine And.intro (fun e3 => ?_) ?_
      · have e3 : nI (3 ^ (D - 1 - k')) = nI 0 := e3
        rw [nI_eq (by omega) (by decide)] at e3
        omega
      refine And.intro (by decide) ?_
      have h := next (nI V)
      have fin : ∀ b, b = nI V → ba_go scr ix_L_law 351 (LL n e g x1 N [some (.int (nI a)), some (.int (nI t)), some (.int fw), some (.int bs), none, some (.int (nI k')), none, none, none, none, none]) [.int b, .int (nI V)] (wW f l q) c z P := fun b hb => by rw [hb]; exact h
      exact fin _ e2
theorem t_to (hc : c ≤ 1000) (hz : z ≤ 20000) (ha : a < 4) (hN : N < 10)
    (K : ∀ l, SS f l n → ba_go scr ix_L_law 368 (LL n e g x1 N [some (.int (nI a)), none, none, none, none, none, none, none, none, none, none]) [] (wW f l q) c z P) :
    ∀ (m t : Nat) (x : Int32) (l : Nat → List Int32), t + m = 4 → x = nI t → SS f l n → ba_go scr ix_L_law 153 (LL n e g x1 N [some (.int (nI a)), some (.int x), none, none, none, none, none, none, none, none, none]) [] (wW f l q) c z P := by
  intro m
  induction m with
  | zero =>
    intro t x l ht hx hS
    subst hx
    have e4 : t = 4 := by omega
    subst e4
    refine run_L0 3 ?_
    refine And.intro (fun _ => ?_) (fun e2 => absurd (by decide) e2)
    refine ba_le.weak ?_ (K l hS)
    repeat (first | exact le_0 | refine le_s ?_ | refine le_n ?_)
  | succ m ih =>
    intro t x l ht hx hS
    subst hx
    have hpN := p39 (k := N) hN
    refine run_L0 9 ?_
    refine And.intro (fun e2 => absurd e2 (by show ¬ (4 : Int32) ≤ nI t; rw [le_i, nI_toInt (by omega), show (4 : Int32).toInt = 4 from rfl]; omega)) (fun _ => ?_)
    refine And.intro (cz0 hc hz) (s_Lfewest (T := fun x => decide (x = t)) hS.wr rfl (B6_one (by omega)) ha ?_)
    have eD : Ds (gs (l 5)) (fun x => decide (x = t)) a = Dt l t a := rfl
    rw [eD]
    have D4 : Dt l t a ≤ 4 := Dt_le
    have hws : cnt (fun row => decide (bc (gs (l 5)) N row a = t)) (3 ^ N) = Wn (rn (l 5)) a N t := cnt_Wn hS.wr.2.2.1 ha N t (by omega)
    have hcl : Wn (rn (l 5)) a N t ≤ 3 ^ N := by rw [← hws]; exact cnt_le _
    -- behind the least row
    have rest : ∀ bs : Int32, (Dt l t a ≤ 3 → bs = nI (br (gs (l 5)) (Dt l t) (Dt l t a) a)) → ba_go scr ix_L_law 227 (LL n e g x1 N [some (.int (nI a)), some (.int (nI t)), some (.int (fwv (Dt l t a))), some (.int bs), none, none, none, none, none, none, none]) [] (wW f l q) c z P := by
      intro bs hbs
      refine run_L0 4 ?_
      refine t_ways hc hz hS ha (by omega) hN ?_ (3 ^ N) 0 0 0 (by omega) rfl rfl
      rw [hws]
      refine run_L0 5 ?_
      have w1 : ba_go scr ix_L_law 283 (LL n e g x1 N [some (.int (nI a)), some (.int (nI t)), some (.int (fwv (Dt l t a))), some (.int bs), some (.int (nI (Wn (rn (l 5)) a N t))), none, none, none, none, none, none]) [.int (fwv (Dt l t a))] (wW f l q) c z P := by
        refine run_L0 7 ?_
        refine And.intro (fun e2 => absurd rfl e2) (fun _ => ?_)
        refine And.intro (cz0 hc hz) (c_ways hS.1 rfl rfl rfl ha (by omega) (by omega) (fun X Y hX hY => ?_))
        refine run_L0 2 ?_
        refine And.intro (fun _ => ?_) (fun e2 => absurd rfl e2)
        refine run_L0 2 ?_
        have hS2 := hS.wqE hX hY
        have eDt : Dt (wq l X Y) t = Dt l t := rfl
        refine ba_le.weak ?_ (t_und (e := e) (N := N) (g := g) (x1 := x1) (a := a) (t := t) (bs := bs) hc hz hS2 ha (by omega) rfl (by rw [eDt]; exact hbs) ?_ 3 0 0 none rfl rfl)
        · repeat (first | exact le_0 | refine le_s ?_ | refine le_n ?_)
        · refine run_L0 2 ?_
          exact ih (t + 1) _ _ (by omega) (nI_1 t) hS2
      refine And.intro (cz0 hc hz) (c_undoing hS.1 rfl rfl ha (by omega) (fun h => absurd ⟨by decide, by decide⟩ h) (fun _ h => ?_) (fun _ h => ?_) (fun k' hk' hlt hle => ?_))
      · have e4 : Dt l t a = 4 := by
          rcases h with h | h
          · exact h
          · have h : ((Dt l t a : Nat) : Int) ≤ -1 := h
            omega
        have e5 : fwv (Dt l t a) = -9 := by rw [e4]; rfl
        rw [e5] at w1
        rw [e5]
        exact w1
      · have e5 : fwv (Dt l t a) = nI (Dt l t a) := if_neg (by omega)
        rw [e5] at w1
        rw [e5]
        exact w1
      · exfalso
        have hk' : (-1 : Int32) = nI k' := hk'
        have := congrArg Int32.toInt hk'
        rw [nI_toInt (by omega), show (-1 : Int32).toInt = -1 from rfl] at this
        omega
    by_cases hfar : Dt l t a ≤ 3
    · have e5 : fwv (Dt l t a) = nI (Dt l t a) := if_neg (by omega)
      refine run_L0 5 ?_
      refine And.intro (fun _ => ?_) (fun e2 => absurd (by rw [e5]; show 0 ≤ nI (Dt l t a); rw [le_i, zi, nI_toInt (by omega)]; omega) e2)
      refine run_L0 2 ?_
      refine And.intro (cz0 hc hz) (s_Lpower e5 (by omega) ?_)
      have hpD := p39 (k := Dt l t a) (by omega)
      have h0 := p3 (Dt l t a)
      refine run_L0 3 ?_
      obtain ⟨b1, b2, b3⟩ := br_ok (t := t) (gs_all hS.wr.2.2.1) (Dt l t a) a ha hfar rfl
      have el : lk (fun row => decide (bc (gs (l 5)) (Dt l t a) row a = t)) (3 ^ Dt l t a) 0 = br (gs (l 5)) (Dt l t) (Dt l t a) a :=
        lk_eq (decide_eq_true b1) _ 0 (Nat.zero_le _) (by rw [Nat.zero_add]; exact b2) (fun i _ hi => decide_eq_false (b3 i hi))
      refine t_best (D := Dt l t a) hc hz hS ha (by omega) hfar e5 ?_ (3 ^ Dt l t a) _ _ (Nat.le_refl _) ?_ (by rw [Nat.sub_self]; rfl)
      · rw [el]
        exact rest _ (fun _ => rfl)
      · show nI (3 ^ Dt l t a) - nI 1 = vL (3 ^ Dt l t a)
        rw [nI_sub (by omega) (by omega)]
        generalize 3 ^ Dt l t a = T at *
        cases T with
        | zero => omega
        | succ T => rfl
    · have e4 : Dt l t a = 4 := by omega
      have e5 : fwv (Dt l t a) = -9 := by rw [e4]; rfl
      have r := rest 0 (fun h => absurd h hfar)
      rw [e5] at r
      rw [e5]
      refine run_L0 8 ?_
      refine And.intro (fun e2 => absurd e2 (by decide)) (fun _ => ?_)
      refine run_L0 2 ?_
      refine And.intro (fun _ => ?_) (fun e2 => absurd (by decide) e2)
      refine ba_le.weak ?_ r
      repeat (first | exact le_0 | refine le_s ?_ | refine le_n ?_)
end LU
