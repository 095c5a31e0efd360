/-! the law: peace by all twos put in one by one -/
def wco : Option Nat → Int32
  | none => -1
  | some w => nI w
def pkI (T : Nat → Bool) (t : Nat → Nat) (p : Nat) : Option Nat → Prop
  | none => ∀ x, x < p → T x = false
  | some w => w < p ∧ T w = true ∧ ∀ x, x < p → T x = true → t x ≤ t w
/-- the dearest of an office are put in -/
def dst (S : Nat → Bool) (t : Nat → Nat) (n k : Nat) (Y : Nat → Bool) : Prop :=
  (∀ x, Y x = true → S x = true) ∧ c6 Y = k ∧ ∃ th, (∀ x, x < 6 → Y x = true → th ≤ t x) ∧ ∀ x, x < 6 → S x = true → Y x = false → t x ≤ th
theorem dst_0 {S : Nat → Bool} {t : Nat → Nat} {n : Nat} (ht : ∀ x, x < 6 → S x = true → t x ≤ 20) : dst S t n 0 (fun _ => false) :=
  ⟨fun x h => absurd h Bool.false_ne_true, rfl, 20, fun x _ h => absurd h Bool.false_ne_true, fun x hx h _ => ht x hx h⟩
theorem dst_s {S : Nat → Bool} {t : Nat → Nat} {n k w : Nat} {Y : Nat → Bool} (h : dst S t n k Y) (hw : w < 6) (hS : S w = true) (hY : Y w = false) (hm : ∀ x, x < 6 → S x = true → Y x = false → t x ≤ t w) : dst S t n (k + 1) (fun x => Y x || decide (x = w)) := by
  obtain ⟨h1, h2, th, h3, h4⟩ := h
  refine ⟨fun x hx => ?_, by rw [c6_ins hw hY, h2], t w, fun x hx hY2 => ?_, fun x hx hS2 hY2 => ?_⟩
  · have hx : (Y x || decide (x = w)) = true := hx
    by_cases e : x = w
    · rw [e]; exact hS
    · rw [decide_eq_false e, Bool.or_false] at hx
      exact h1 x hx
  · have hY2 : (Y x || decide (x = w)) = true := hY2
    by_cases e : x = w
    · rw [e]; exact Nat.le_refl _
    · rw [decide_eq_false e, Bool.or_false] at hY2
      exact Nat.le_trans (h4 w hw hS hY) (h3 x hx hY2)
  · have hY2 : (Y x || decide (x = w)) = false := hY2
    by_cases e : x = w
    · rw [e, decide_eq_true rfl, Bool.or_true] at hY2; exact absurd hY2 (by decide)
    · rw [decide_eq_false e, Bool.or_false] at hY2
      exact hm x hx hS2 hY2
theorem dst_best {S : Nat → Bool} {t : Nat → Nat} {n k : Nat} {Y : Nat → Bool} (h : dst S t n k Y) (hn : n ≤ 6) (hSn : ∀ x, n ≤ x → S x = false) (hk : k ≤ c6 S) : mx (okS S k) (fun j => smi t (bset j) n) 64 = smi t Y 6 := by
  obtain ⟨h1, h2, th, h3, h4⟩ := h
  refine Qg_best hn hSn (fun x hx => ?_) ⟨fun x _ h => h1 x h, by omega, fun h => absurd h (by omega), fun _ => ⟨th, h3, h4⟩⟩ hk
  cases hY : Y x with
  | false => rfl
  | true => have := h1 x hY; rw [hSn x hx] at this; exact absurd this (by decide)
theorem c6_sub {Y S : Nat → Bool} (h : ∀ x, Y x = true → S x = true) : c6 Y ≤ c6 S := by
  have := c6_diff (Y := Y) (W := S) (fun x _ hx => h x hx)
  omega
section LPc
variable {scr : Option (List Int32)} {P : ba_P} {w : ba_W} {f : Nat → Nat → Int32} {l : Nat → List Int32} {q : List (List Int32)}
variable {n e N o c z : Nat} {g x1 : Int32} {G : Nat → Bool}
theorem p_who (hc : c ≤ 1000) (hz : z ≤ 20000) (hS : SS f l n) (ho : o < 2) {tw dr : Int32} (hex : ∃ x, x < n ∧ (G x && lw l n o x) = true)
    (K : ∀ w, w < n → (G w && lw l n o w) = true → (∀ x, x < n → (G x && lw l n o x) = true → tn f x ≤ tn f w) → ba_go scr ix_L_law 1082 (LL n e g x1 N [some (.int (B6 G)), some (.int tw), some (.int dr), some (.int (nI o)), some (.int (nI w)), none, none, none, none, none, none]) [] (wW f l q) c z P) :
    ∀ (m p : Nat) (x y : Int32) (ws : Option Nat), p + m = n → x = nI p → y = wco ws → pkI (fun x => G x && lw l n o x) (tn f) p ws → ba_go scr ix_L_law 1011 (LL n e g x1 N [some (.int (B6 G)), some (.int tw), some (.int dr), some (.int (nI o)), some (.int y), some (.int x), none, none, none, none, none]) [] (wW f l q) c z P := by
  have hn6 := hS.n6
  intro m
  induction m with
  | zero =>
    intro p x y ws hp hx hy hI
    subst hx; subst hy
    have e4 : p = n := by omega
    subst e4
    refine run_L4 3 ?_
    refine And.intro (fun _ => ?_) (fun e2 => absurd (by show nI p ≤ nI p; rw [le_i]; omega) e2)
    cases ws with
    | none =>
      obtain ⟨x, h1, h2⟩ := hex
      have h4 : (G x && lw l p o x) = false := hI x h1
      rw [h2] at h4
      exact absurd h4 (by decide)
    | some w =>
      refine ba_le.weak ?_ (K w hI.1 hI.2.1 hI.2.2)
      repeat (first | exact le_0 | refine le_s ?_ | refine le_n ?_)
  | succ m ih =>
    intro p x y ws hp hx hy hI
    subst hx
    obtain ⟨⟨h1, h2, -⟩, -⟩ := hS.2.2.2 p (by omega)
    have hty := ty_lt h2
    have eb := B6_bit (fun x => G x && lw l n o x) (p := p) (by omega)
    have keep2 : ∀ v : Int32, pkI (fun x => G x && lw l n o x) (tn f) (p + 1) ws → ba_go scr ix_L_law 1072 (LL n e g x1 N [some (.int (B6 G)), some (.int tw), some (.int dr), some (.int (nI o)), some (.int y), some (.int (nI p)), some (.int v), none, none, none, none]) [] (wW f l q) c z P := by
      intro v h
      refine run_L4 4 ?_
      refine ba_le.weak ?_ (ih (p + 1) (nI p + Int32.ofInt 1) y ws (by omega) (nI_1 p) hy h)
      repeat (first | exact le_0 | refine le_s ?_ | refine le_n ?_)
    have take : ∀ v : Int32, pkI (fun x => G x && lw l n o x) (tn f) (p + 1) (some p) → ba_go scr ix_L_law 1067 (LL n e g x1 N [some (.int (B6 G)), some (.int tw), some (.int dr), some (.int (nI o)), some (.int y), some (.int (nI p)), some (.int v), none, none, none, none]) [] (wW f l q) c z P := by
      intro v h
      refine run_L4 5 ?_
      refine ba_le.weak ?_ (ih (p + 1) (nI p + Int32.ofInt 1) (nI p) (some p) (by omega) (nI_1 p) rfl h)
      repeat (first | exact le_0 | refine le_s ?_ | refine le_n ?_)
    refine run_L4 7 ?_
    refine And.intro (fun e2 => absurd e2 (by show ¬ nI n ≤ nI p; rw [le_i, nI_toInt (by omega), nI_toInt (by omega)]; omega)) (fun _ => ?_)
    refine And.intro (cz0 hc hz) (s_Lwork hS.lq rfl (by omega) ?_)
    rw [← B6_int G (lw l n o)] at eb
    refine run_L4 7 ?_
    refine And.intro (fun d => ?_) (fun d => ?_)
    · have d : ¬ ((B6 G &&& B6 (lw l n o)) >>> (nI p &&& 31)) &&& Int32.ofInt 1 = 1 := d
      rw [eb] at d
      have hT : (G p && lw l n o p) = false := by
        cases hT : (G p && lw l n o p) with
        | false => rfl
        | true => rw [hT] at d; exact absurd rfl d
      refine run_L4 4 ?_
      refine And.intro (fun _ => ?_) (fun e2 => absurd rfl e2)
      refine keep2 _ ?_
      cases ws with
      | none =>
        intro x hx
        by_cases e2 : x = p
        · rw [e2]; exact hT
        · exact hI x (by omega)
      | some w =>
        refine ⟨by have := hI.1; omega, hI.2.1, fun x hx hTx => ?_⟩
        by_cases e2 : x = p
        · rw [e2] at hTx
          have hTx : (G p && lw l n o p) = true := hTx
          rw [hT] at hTx; exact absurd hTx (by decide)
        · exact hI.2.2 x (by omega) hTx
    · have d : ((B6 G &&& B6 (lw l n o)) >>> (nI p &&& 31)) &&& Int32.ofInt 1 = 1 := Classical.not_not.mp d
      rw [eb] at d
      have hT : (G p && lw l n o p) = true := by
        cases hT : (G p && lw l n o p) with
        | true => rfl
        | false => rw [hT] at d; exact absurd d (by decide)
      refine run_L4 7 ?_
      refine And.intro (fun e2 => absurd e2 (by decide)) (fun _ => ?_)
      cases ws with
      | none =>
        subst hy
        refine And.intro (fun _ => ?_) (fun e2 => absurd (by decide) e2)
        refine take _ ⟨by omega, hT, fun x hx hTx => ?_⟩
        by_cases e2 : x = p
        · rw [e2]; exact Nat.le_refl _
        · have := hI x (by omega)
          rw [this] at hTx; exact absurd hTx (by decide)
      | some w =>
        have hy' : y = nI w := hy
        have hwp := hI.1
        obtain ⟨⟨w1, w2, -⟩, -⟩ := hS.2.2.2 w (by omega)
        have htw := ty_lt w2
        refine And.intro (fun e2 => ?_) (fun _ => ?_)
        · exfalso
          have e2 : y < 0 := e2
          rw [hy', lt_i, zi, nI_toInt (by omega)] at e2
          omega
        · refine run_L4 3 ?_
          refine And.intro (cz0 hc hz) (s_Ltakes hS.2.1.1 rfl (by omega) h1 h2 ?_)
          refine run_L4 3 ?_
          refine And.intro (cz0 hc hz) (s_Ltakes hS.2.1.1 hy' (by omega) w1 w2 ?_)
          refine run_L4 1 ?_
          have tp := hS.tnE (show p < n by omega)
          have tw' := hS.tnE (show w < n by omega)
          refine And.intro (fun d3 => ?_) (fun d3 => ?_)
          · have d3 : nI (ty (px l p)) ≤ nI (ty (px l w)) := d3
            rw [le_i, nI_toInt (by omega), nI_toInt (by omega)] at d3
            refine keep2 _ ⟨by omega, hI.2.1, fun x hx hTx => ?_⟩
            by_cases e2 : x = p
            · rw [e2, tp, tw']; omega
            · exact hI.2.2 x (by omega) hTx
          · have d3 : ¬ nI (ty (px l p)) ≤ nI (ty (px l w)) := d3
            rw [le_i, nI_toInt (by omega), nI_toInt (by omega)] at d3
            refine take _ ⟨by omega, hT, fun x hx hTx => ?_⟩
            by_cases e2 : x = p
            · rw [e2]; exact Nat.le_refl _
            · have := hI.2.2 x (by omega) hTx
              rw [tw'] at this
              rw [tp]; omega
theorem p_office (hc : c ≤ 1000) (hz : z ≤ 20000) (hS : SS f l n) (ho : o < 2) {tw : Int32} {d : Nat} {x : Int32} (hx : x = nI o) (hex : ∃ x, x < n ∧ (G x && lw l n o x) = true)
    (K : ∀ w, w < n → (G w && lw l n o w) = true → (∀ x, x < n → (G x && lw l n o x) = true → tn f x ≤ tn f w) → ba_go scr ix_L_law 999 (LL n e g x1 N [some (.int (B6 (fun x => G x && !decide (x = w)))), some (.int tw), some (.int (nI (d + tn f w))), some (.int (nI (o + 1))), none, none, none, none, none, none, none]) [] (wW f l q) c z P) :
    ba_go scr ix_L_law 999 (LL n e g x1 N [some (.int (B6 G)), some (.int tw), some (.int (nI d)), some (.int x), none, none, none, none, none, none, none]) [] (wW f l q) c z P := by
  subst hx
  have hn6 := hS.n6
  refine run_L4 7 ?_
  refine And.intro (fun e2 => absurd e2 (by show ¬ nI 2 ≤ nI o; rw [le_i, nI_toInt (by omega), nI_toInt (by omega)]; omega)) (fun _ => ?_)
  refine p_who hc hz hS ho hex (fun w hw hT hm => ?_) n 0 0 (-1) none (Nat.zero_add n) rfl rfl (fun x hx => absurd hx (by omega))
  obtain ⟨⟨w1, w2, -⟩, -⟩ := hS.2.2.2 w hw
  refine run_L4 12 ?_
  refine And.intro (cz0 hc hz) (s_Ltakes hS.2.1.1 rfl (by omega) w1 w2 ?_)
  refine run_L4 4 ?_
  have eG := B6_and G (p := w) (by omega)
  have k := K w hw hT hm
  rw [← eG, hS.tnE hw, ← nI_add, ← nI_1 o] at k
  refine ba_le.weak ?_ k
  repeat (first | exact le_0 | refine le_s ?_ | refine le_n ?_)
theorem p_peace (hc : c ≤ 1000) (hz : z ≤ 20000) (hS : SS f l n)
    (K : ba_go scr ix_L_law 1138 (LL n e g x1 N [none, none, none, none, none, none, none, none, none, none, none]) [] (wW f l q) c z P) :
    ∀ (m k : Nat) (x y v : Int32) (Y0 Y1 : Nat → Bool), k + m = 7 → x = nI k → v = B6 (fun x => lw l n 2 x && !(Y0 x || Y1 x)) → y = nI (smi (tn f) Y0 6 + smi (tn f) Y1 6) → dst (lw l n 0) (tn f) n k Y0 → dst (lw l n 1) (tn f) n k Y1 →
      ba_go scr ix_L_law 974 (LL n e g x1 N [some (.int v), some (.int x), some (.int y), none, none, none, none, none, none, none, none]) [] (wW f l q) c z P := by
  have hn6 := hS.n6
  have e0 : wo f 2 n 0 = lw l n 0 := hS.woE (o := 0) (by decide)
  have e1 : wo f 2 n 1 = lw l n 1 := hS.woE (o := 1) (by decide)
  intro m
  induction m with
  | zero =>
    intro k x y v Y0 Y1 hk hx hv hy h0 h1
    have := c6_le Y0
    have := h0.2.1
    omega
  | succ m ih =>
    intro k x y v Y0 Y1 hk hx hv hy h0 h1
    subst hx; subst hv; subst hy
    obtain ⟨G, hG⟩ : ∃ G, G = (fun x => lw l n 2 x && !(Y0 x || Y1 x)) := ⟨_, rfl⟩
    rw [← hG]
    have s0 := c6_sub h0.1
    have s1 := c6_sub h1.1
    rw [h0.2.1] at s0
    rw [h1.2.1] at s1
    have g0 : ∀ x, (G x && lw l n 0 x) = (lw l n 0 x && !Y0 x) := fun x => by
      rw [hG]
      show ((lw l n 2 x && !(Y0 x || Y1 x)) && lw l n 0 x) = _
      have a := h1.1 x
      have b := lw_dis (l := l) (n := n) x
      rw [lw_2]
      revert a b
      cases lw l n 0 x <;> cases lw l n 1 x <;> cases Y0 x <;> cases Y1 x <;> decide
    have g1 : ∀ x, (G x && lw l n 1 x) = (lw l n 1 x && !Y1 x) := fun x => by
      rw [hG]
      show ((lw l n 2 x && !(Y0 x || Y1 x)) && lw l n 1 x) = _
      have a := h0.1 x
      have b := lw_dis (l := l) (n := n) x
      rw [lw_2]
      revert a b
      cases lw l n 0 x <;> cases lw l n 1 x <;> cases Y0 x <;> cases Y1 x <;> decide
    -- the end
    have fin : (k = c6 (lw l n 0) ∨ k = c6 (lw l n 1)) → ba_go scr ix_L_law 1116 (LL n e g x1 N [some (.int (B6 G)), some (.int (nI k)), some (.int (nI (smi (tn f) Y0 6 + smi (tn f) Y1 6))), none, none, none, none, none, none, none, none]) [] (wW f l q) c z P := by
      intro hkk
      have ep : ptwo f n = k := by
        unfold ptwo
        rw [e0, e1]
        omega
      refine run_L4 3 ?_
      refine And.intro (cz0 hc hz) (c_peace hS.1 (Or.inl rfl) (fun _ => ?_) (fun e2 => absurd e2 (by decide)))
      rw [ep]
      refine run_L4 5 ?_
      refine And.intro (fun e2 => absurd rfl e2) (fun _ => ?_)
      refine And.intro (cz0 hc hz) (c_peace hS.1 (Or.inr rfl) (fun e2 => absurd e2 (by decide)) (fun _ => ?_))
      rw [ep, e0, e1, dst_best h0 hn6.2 lw_n s0, dst_best h1 hn6.2 lw_n s1]
      refine run_L4 2 ?_
      refine And.intro (fun _ => ?_) (fun e2 => absurd rfl e2)
      refine ba_le.weak ?_ K
      repeat (first | exact le_0 | refine le_s ?_ | refine le_n ?_)
    have all0 : B6 (fun x => G x && lw l n 0 x) = 0 → k = c6 (lw l n 0) := by
      intro h
      rw [B6_z6] at h
      rw [← h0.2.1]
      refine c6_congr (fun x hx => ?_)
      have h2 := h x hx
      rw [g0] at h2
      have a := h0.1 x
      revert a h2
      cases lw l n 0 x <;> cases Y0 x <;> decide
    have all1 : B6 (fun x => G x && lw l n 1 x) = 0 → k = c6 (lw l n 1) := by
      intro h
      rw [B6_z6] at h
      rw [← h1.2.1]
      refine c6_congr (fun x hx => ?_)
      have h2 := h x hx
      rw [g1] at h2
      have a := h1.1 x
      revert a h2
      cases lw l n 1 x <;> cases Y1 x <;> decide
    have exo : ∀ o : Nat, ¬ B6 (fun x => G x && lw l n o x) = 0 → ∃ x, x < n ∧ (G x && lw l n o x) = true := by
      intro o h
      apply Classical.byContradiction
      intro hno
      apply h
      rw [B6_z6]
      intro x hx
      cases hb : (G x && lw l n o x) with
      | false => rfl
      | true =>
        exfalso
        apply hno
        refine ⟨x, ?_, hb⟩
        by_cases hxn : x < n
        · exact hxn
        · rw [lw_n x (by omega), Bool.and_false] at hb; exact absurd hb (by decide)
    refine run_L4 4 ?_
    refine And.intro (cz0 hc hz) (s_Lwork (o := 0) hS.lq rfl (by decide) ?_)
    refine run_L4 2 ?_
    have i0 := B6_int G (lw l n 0)
    have i1 := B6_int G (lw l n 1)
    refine And.intro (fun d => ?_) (fun d => ?_)
    · have d : B6 G &&& B6 (lw l n 0) = 0 := d
      rw [i0] at d
      exact fin (Or.inl (all0 d))
    · have d : ¬ B6 G &&& B6 (lw l n 0) = 0 := d
      rw [i0] at d
      refine run_L4 4 ?_
      refine And.intro (cz0 hc hz) (s_Lwork (o := 1) hS.lq rfl (by decide) ?_)
      refine run_L4 2 ?_
      refine And.intro (fun d2 => ?_) (fun d2 => ?_)
      · have d2 : B6 G &&& B6 (lw l n 1) = 0 := d2
        rw [i1] at d2
        exact fin (Or.inr (all1 d2))
      · have d2 : ¬ B6 G &&& B6 (lw l n 1) = 0 := d2
        rw [i1] at d2
        refine run_L4 2 ?_
        refine p_office (o := 0) hc hz hS (by decide) rfl (exo 0 d) (fun w hw hT hm => ?_)
        have hT2 := hT
        rw [g0, Bool.and_eq_true] at hT2
        have hSw := hT2.1
        have hYw : Y0 w = false := by have := hT2.2; revert this; cases Y0 w <;> decide
        have n1w : lw l n 1 w = false := by have b := lw_dis (l := l) (n := n) w; rw [hSw, Bool.true_and] at b; exact b
        have gg : ∀ x, ((G x && !decide (x = w)) && lw l n 1 x) = (G x && lw l n 1 x) := fun x => by
          by_cases ex : x = w
          · rw [ex, n1w, Bool.and_false, Bool.and_false]
          · rw [decide_eq_false ex, Bool.not_false, Bool.and_true]
        have hex1 : ∃ x, x < n ∧ ((fun x => G x && !decide (x = w)) x && lw l n 1 x) = true := by
          obtain ⟨x, a, b⟩ := exo 1 d2
          exact ⟨x, a, by show ((G x && !decide (x = w)) && lw l n 1 x) = true; rw [gg]; exact b⟩
        have h0' := dst_s h0 (w := w) (by omega) hSw hYw (fun x hx hSx hYx => by
          by_cases hxn : x < n
          · exact hm x hxn (by rw [g0, hSx, hYx]; rfl)
          · rw [lw_n x (by omega)] at hSx; exact absurd hSx (by decide))
        refine p_office (o := 1) (G := fun x => G x && !decide (x = w)) hc hz hS (by decide) rfl hex1 (fun w' hw' hT' hm' => ?_)
        have hT' : ((G w' && !decide (w' = w)) && lw l n 1 w') = true := hT'
        rw [gg, g1, Bool.and_eq_true] at hT'
        have hSw' := hT'.1
        have hYw' : Y1 w' = false := by have := hT'.2; revert this; cases Y1 w' <;> decide
        have h1' := dst_s h1 (w := w') (by omega) hSw' hYw' (fun x hx hSx hYx => by
          by_cases hxn : x < n
          · refine hm' x hxn ?_
            show ((G x && !decide (x = w)) && lw l n 1 x) = true
            rw [gg, g1, hSx, hYx]
            rfl
          · rw [lw_n x (by omega)] at hSx; exact absurd hSx (by decide))
        refine run_L4 3 ?_
        refine And.intro (fun _ => ?_) (fun e2 => absurd (by decide) e2)
        refine run_L4 2 ?_
        refine ba_le.weak ?_ (ih (k + 1) (nI k + Int32.ofInt 1) (nI (smi (tn f) Y0 6 + smi (tn f) Y1 6 + tn f w + tn f w')) (B6 (fun x => (G x && !decide (x = w)) && !decide (x = w'))) (fun x => Y0 x || decide (x = w)) (fun x => Y1 x || decide (x = w')) (by omega) (nI_1 k) ?_ ?_ h0' h1')
        · repeat (first | exact le_0 | refine le_s ?_ | refine le_n ?_)
        · refine B6_congr (fun x _ => ?_)
          rw [hG]
          show ((lw l n 2 x && !(Y0 x || Y1 x)) && !decide (x = w) && !decide (x = w')) = (lw l n 2 x && !((Y0 x || decide (x = w)) || (Y1 x || decide (x = w'))))
          cases lw l n 2 x <;> cases Y0 x <;> cases Y1 x <;> cases decide (x = w) <;> cases decide (x = w') <;> rfl
        · rw [smi_add hYw, smi_add hYw', if_pos (show w < 6 by omega), if_pos (show w' < 6 by omega)]
          congr 1
          omega
end LPc
