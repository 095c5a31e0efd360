/-! peace (2): the dearest, one after the other -/
def vL : Nat → Int32
  | 0 => -1
  | v + 1 => nI v
/-- what is taken: a part of S, and once it is full, none dearer is left -/
def Qg (S X : Nat → Bool) (t : Nat → Nat) (k : Nat) (Y : Nat → Bool) : Prop :=
  (∀ x, x < 6 → Y x = true → S x = true) ∧ c6 Y ≤ k ∧ (c6 Y < k → ∀ x, x < 6 → Y x = X x) ∧ (c6 Y = k → ∃ th, (∀ x, x < 6 → Y x = true → th ≤ t x) ∧ (∀ x, x < 6 → S x = true → Y x = false → t x ≤ th))
def Gx (S : Nat → Bool) (t : Nat → Nat) (u : Nat) : Nat → Bool := fun x => S x && decide (u ≤ t x)
def Ex (S : Nat → Bool) (t : Nat → Nat) (v p : Nat) : Nat → Bool := fun x => S x && (decide (v < t x) || (decide (t x = v) && decide (x < p)))
theorem Qg_congr {S X X' : Nat → Bool} {t : Nat → Nat} {k : Nat} {Y : Nat → Bool} (h : Qg S X t k Y) (e : ∀ x, x < 6 → X x = X' x) : Qg S X' t k Y :=
  ⟨h.1, h.2.1, fun g x hx => (h.2.2.1 g x hx).trans (e x hx), h.2.2.2⟩
theorem Ex_iff {S : Nat → Bool} {t : Nat → Nat} {v p x : Nat} : Ex S t v p x = true ↔ S x = true ∧ (v < t x ∨ (t x = v ∧ x < p)) := by
  unfold Ex
  simp
theorem Gx_iff {S : Nat → Bool} {t : Nat → Nat} {u x : Nat} : Gx S t u x = true ↔ S x = true ∧ u ≤ t x := by
  unfold Gx
  simp
theorem Qg_skip {S : Nat → Bool} {t : Nat → Nat} {v p k : Nat} {Y : Nat → Bool} (h : Qg S (Ex S t v p) t k Y) (hn : c6 Y < k → S p = true → t p = v → False) : Qg S (Ex S t v (p + 1)) t k Y := by
  refine ⟨h.1, h.2.1, fun g x hx => ?_, h.2.2.2⟩
  rw [h.2.2.1 g x hx]
  apply bool_ext
  rw [Ex_iff, Ex_iff]
  constructor
  · rintro ⟨h1, h2 | h2⟩
    · exact ⟨h1, Or.inl h2⟩
    · exact ⟨h1, Or.inr ⟨h2.1, by omega⟩⟩
  · rintro ⟨h1, h2 | h2⟩
    · exact ⟨h1, Or.inl h2⟩
    · by_cases e : x = p
      · subst e; exact (hn g h1 h2.1).elim
      · exact ⟨h1, Or.inr ⟨h2.1, by omega⟩⟩
theorem Qg_take {S : Nat → Bool} {t : Nat → Nat} {v p k : Nat} {Y : Nat → Bool} (hp : p < 6) (h : Qg S (Ex S t v p) t k Y) (hk : c6 Y < k) (hS : S p = true) (ht : t p = v) : Y p = false ∧ Qg S (Ex S t v (p + 1)) t k (fun x => Y x || decide (x = p)) := by
  have hY := h.2.2.1 hk
  have hYp : Y p = false := by
    cases e : Y p with
    | false => rfl
    | true =>
      rw [hY p hp, Ex_iff] at e
      rcases e.2 with e | e <;> omega
  have eE : ∀ x, x < 6 → (Y x || decide (x = p)) = Ex S t v (p + 1) x := fun x hx => by
    apply bool_ext
    rw [Bool.or_eq_true, decide_eq_true_iff, hY x hx, Ex_iff, Ex_iff]
    constructor
    · rintro (⟨h1, h2 | h2⟩ | h2)
      · exact ⟨h1, Or.inl h2⟩
      · exact ⟨h1, Or.inr ⟨h2.1, by omega⟩⟩
      · subst h2; exact ⟨hS, Or.inr ⟨ht, by omega⟩⟩
    · rintro ⟨h1, h2 | h2⟩
      · exact Or.inl ⟨h1, Or.inl h2⟩
      · by_cases e : x = p
        · exact Or.inr e
        · exact Or.inl ⟨h1, Or.inr ⟨h2.1, by omega⟩⟩
  refine ⟨hYp, fun x hx hh => ?_, ?_, fun _ => eE, fun _ => ⟨v, fun x hx hh => ?_, fun x hx h1 h2 => ?_⟩⟩
  · have hh : (Y x || decide (x = p)) = true := hh
    rw [eE x hx, Ex_iff] at hh
    exact hh.1
  · rw [c6_ins hp hYp]; omega
  · have hh : (Y x || decide (x = p)) = true := hh
    rw [eE x hx, Ex_iff] at hh
    rcases hh.2 with e | e <;> omega
  · have h2 : (Y x || decide (x = p)) = false := h2
    rw [eE x hx] at h2
    by_cases hlt : v < t x
    · have : Ex S t v (p + 1) x = true := Ex_iff.mpr ⟨h1, Or.inl hlt⟩
      rw [this] at h2
      exact (nomatch h2)
    · omega
/-- the greedy sum is the greatest one -/
theorem Qg_best {S : Nat → Bool} {t : Nat → Nat} {k n : Nat} {Y : Nat → Bool} (hn : n ≤ 6) (hS : ∀ x, n ≤ x → S x = false) (hY6 : ∀ x, n ≤ x → Y x = false) (h : Qg S (Gx S t 0) t k Y) (hk : k ≤ c6 S) : mx (okS S k) (fun j => smi t (bset j) n) 64 = smi t Y 6 := by
  have hfull : c6 Y = k := by
    by_cases e : c6 Y < k
    · exfalso
      have := h.2.2.1 e
      have e2 : c6 Y = c6 S := c6_congr (fun x hx => by
        rw [this x hx]
        unfold Gx
        simp)
      omega
    · have := h.2.1; omega
  obtain ⟨th, t1, t2⟩ := h.2.2.2 hfull
  have cut : ∀ P : Nat → Bool, (∀ x, x < 6 → P x = true → S x = true) → smi t P n = smi t P 6 := fun P hP => by
    have := smi_cut (t := t) (Y := fun x => P x && decide (x < n)) (n := n) (fun x hx => by rw [decide_eq_false (show ¬ x < n by omega), Bool.and_false]) (6 - n)
    rw [show n + (6 - n) = 6 by omega] at this
    rw [smi_congr (Z := fun x => P x && decide (x < n)) (fun x hx => by rw [decide_eq_true hx, Bool.and_true]), ← this]
    refine smi_congr (fun x hx => ?_)
    by_cases e : x < n
    · rw [decide_eq_true e, Bool.and_true]
    · rw [decide_eq_false e, Bool.and_false]
      cases e2 : P x with
      | false => rfl
      | true =>
        have := hP x hx e2
        rw [hS x (by omega)] at this
        exact (nomatch this)
  have okI : ∀ j, okS S k j = true → (∀ x, x < 6 → bset j x = true → S x = true) ∧ c6 (bset j) = k := fun j hj => by
    unfold okS at hj
    rw [Bool.and_eq_true, decide_eq_true_iff, decide_eq_true_iff, B6_z6] at hj
    refine ⟨fun x hx e => ?_, hj.2⟩
    have := hj.1 x hx
    rw [e, Bool.true_and] at this
    cases e3 : S x with
    | true => rfl
    | false => rw [e3] at this; exact (nomatch this)
  apply Nat.le_antisymm
  · refine mx_max (fun j hj hok => ?_)
    obtain ⟨o1, o2⟩ := okI j hok
    show smi t (bset j) n ≤ _
    rw [cut _ o1]
    have := exch (t := t) (P := bset j) (Y := Y) (th := th) t1 (fun x hx e1 e2 => t2 x hx (o1 x hx e1) e2)
    rw [hfull, o2] at this
    omega
  · have e6 : c6 (bset (v6 Y)) = c6 Y := c6_congr (bset_v6 Y)
    have hok : okS S k (v6 Y) = true := by
      unfold okS
      rw [Bool.and_eq_true, decide_eq_true_iff, decide_eq_true_iff, B6_z6]
      refine ⟨fun x hx => ?_, by rw [e6]; exact hfull⟩
      rw [bset_v6 Y x hx]
      cases e : Y x with
      | false => rfl
      | true => rw [h.1 x hx e]; rfl
    have := mx_ge (val := fun j => smi t (bset j) n) hok (n := 64) (v6_lt Y)
    have e7 : smi t (bset (v6 Y)) n = smi t Y 6 := by
      rw [smi_congr (Z := Y) (fun x hx => bset_v6 Y x (by omega))]
      exact cut Y h.1
    have this : smi t (bset (v6 Y)) n ≤ _ := this
    rw [e7] at this
    exact this
section P2
variable {scr : Option (List Int32)} {P : ba_P} {w : ba_W} {f : Nat → Nat → Int32} {l : Nat → List Int32} {q : Nat → List Int64}
theorem r_isInB {S : Nat → Bool} {p : Nat} (hp : p < 6) (h1 : S p = true → P (some (.int 1)) w) (h0 : S p = false → P (some (.int 0)) w) : ba_go scr ix_X9_isIn 0 [some (.int (B6 S)), some (.int (nI p))] [] w 0 0 P := by
  refine r_isIn (fun h => ?_) (fun h => ?_)
  · have e : ((B6 S >>> (nI p &&& 31)) &&& 1) = if S p then 1 else 0 := B6_bit S hp
    rw [e] at h
    cases hS : S p with
    | true => exact h1 hS
    | false => rw [hS] at h; exact absurd h (by decide)
  · have e : ((B6 S >>> (nI p &&& 31)) &&& 1) = if S p then 1 else 0 := B6_bit S hp
    rw [e] at h
    cases hS : S p with
    | false => exact h0 hS
    | true => rw [hS] at h; exact absurd rfl h
theorem r_dearest {n k : Nat} {t : Nat → Nat} {o : Int32} (hn : n ≤ 6) (hk6 : k ≤ 6) (hc : f 42 1 = nI n) (h45 : (l 45).length = 6) (h46 : (l 46).length = 6) (h47 : (l 47).length = 6) (h48 : (l 48).length = 6) (ht : ∀ p, p < 6 → t p ≤ 20 ∧ tk ((l 45).getD p 0) ((l 48).getD p 0) = nI (t p))
    (hP : ∀ Y : Nat → Bool, (∀ x, n ≤ x → Y x = false) → Qg (ro l n o 1) (Gx (ro l n o 1) t 0) t k Y → P (some (.int (nI (smi t Y 6)))) (wW f l q)) : ba_go scr ix_X9_dearest 0 [some (.ref 43), some (.int o), some (.int (nI k)), none, none, none, none, none] [] (wW f l q) 0 0 P := by
  obtain ⟨S, hSe⟩ : ∃ S, S = ro l n o 1 := ⟨_, rfl⟩
  rw [← hSe] at hP
  have hSn : ∀ x, n ≤ x → S x = false := fun x hx => by rw [hSe]; unfold ro; rw [decide_eq_false (show ¬ x < n by omega), Bool.false_and]
  have main : ∀ (u : Nat) (s r y : Int32) (Y : Nat → Bool) (z1 z2 : Option Value), u ≤ 21 → (∀ x, n ≤ x → Y x = false) → Qg S (Gx S t u) t k Y → s = nI (smi t Y 6) → r = nI (k - c6 Y) → y = vL u → ba_go scr ix_X9_dearest 9 [some (.ref 43), some (.int o), some (.int (nI k)), some (.int s), some (.int r), some (.int y), z1, z2] [] (wW f l q) 0 0 P := by
    intro u
    induction u with
    | zero =>
      intro s r y Y z1 z2 hu hYn hQ h1 h2 h3
      subst h1; subst h2; subst h3
      refine run_X9_dearest 4 ?_
      refine And.intro (fun _ => ?_) (fun e => absurd (by decide) e)
      exact hP Y hYn hQ
    | succ v ih =>
      intro s r y Y z1 z2 hu hYn hQ h1 h2 h3
      subst h1; subst h2; subst h3
      have ev : nI v + -1 = vL v := (by decide +kernel : ∀ v : Fin 21, nI v.1 + -1 = vL v.1) ⟨v, by omega⟩
      have inner : ∀ (m p : Nat) (s r y : Int32) (Y : Nat → Bool) (z2 : Option Value), p + m = n → (∀ x, n ≤ x → Y x = false) → Qg S (Ex S t v p) t k Y → s = nI (smi t Y 6) → r = nI (k - c6 Y) → y = nI p → ba_go scr ix_X9_dearest 17 [some (.ref 43), some (.int o), some (.int (nI k)), some (.int s), some (.int r), some (.int (nI v)), some (.int y), z2] [] (wW f l q) 0 0 P := by
        intro m
        induction m with
        | zero =>
          intro p s r y Y z2 g0 gY gQ g1 g2 g3
          subst g1; subst g2; subst g3
          have h4 : p = n := by omega
          subst h4
          refine run_X9_dearest 6 ?_
          refine Exists.intro _ (And.intro (rfl) ?_)
          rw [hc]
          refine And.intro (fun _ => ?_) (fun e => absurd (by show nI p ≤ nI p; rw [le_i]; omega) e)
          refine ih _ _ _ Y _ _ (by omega) gY (Qg_congr gQ (fun x hx => ?_)) rfl rfl ev
          apply bool_ext
          rw [Ex_iff, Gx_iff]
          constructor
          · rintro ⟨a1, a2 | a2⟩
            · exact ⟨a1, by omega⟩
            · exact ⟨a1, by omega⟩
          · rintro ⟨a1, a2⟩
            by_cases a3 : v < t x
            · exact ⟨a1, Or.inl a3⟩
            · refine ⟨a1, Or.inr ⟨by omega, ?_⟩⟩
              by_cases a4 : x < p
              · exact a4
              · rw [hSn x (by omega)] at a1; exact (nomatch a1)
        | succ m ihm =>
          intro p s r y Y z2 g0 gY gQ g1 g2 g3
          subst g1; subst g2; subst g3
          have hp6 : p < 6 := by omega
          have cY := gQ.2.1
          have skip : (c6 Y < k → S p = true → t p = v → False) → ba_go scr ix_X9_dearest 60 [some (.ref 43), some (.int o), some (.int (nI k)), some (.int (nI (smi t Y 6))), some (.int (nI (k - c6 Y))), some (.int (nI v)), some (.int (nI p)), z2] [] (wW f l q) 0 0 P := by
            intro h
            refine run_X9_dearest 16 ?_
            refine And.intro (fun _ => ?_) (fun e => absurd rfl e)
            refine And.intro (fun _ => ?_) (fun e => absurd rfl e)
            refine ihm (p + 1) _ _ _ Y _ (by omega) gY (Qg_skip gQ h) ?_ ?_ (nI_1 p)
            · exact Int32.add_zero _
            · exact Int32.sub_zero _
          refine run_X9_dearest 6 ?_
          refine Exists.intro _ (And.intro (rfl) ?_)
          rw [hc]
          refine And.intro (fun e => absurd e (by show ¬ nI n ≤ nI p; rw [le_i, nI_toInt (by omega), nI_toInt (by omega)]; omega)) (fun _ => ?_)
          refine And.intro (fun c => ?_) (fun c => ?_)
          · have c : nI (k - c6 Y) ≤ 0 := c
            rw [le_i, zi, nI_toInt (by omega)] at c
            exact skip (fun h => by omega)
          · have c : ¬ nI (k - c6 Y) ≤ 0 := c
            rw [le_i, zi, nI_toInt (by omega)] at c
            refine run_X9_dearest 7 ?_
            refine And.intro rfl (r_peopleOf (o := o) (x := 1) hn hc h46 h47 ?_)
            rw [← hSe]
            refine And.intro rfl (r_isInB hp6 (fun hS => ?_) (fun hS => ?_))
            · refine And.intro (fun e => absurd e (by decide)) (fun _ => ?_)
              refine run_X9_dearest 5 ?_
              refine And.intro rfl (r_takes (p := nI p) h48 h45 (by rw [nI_toInt (by omega)]; omega) (by rw [nI_toInt (by omega)]; omega) ?_)
              rw [nI_clamp (by omega), (ht p hp6).2]
              have h20 := (ht p hp6).1
              refine And.intro (fun d => ?_) (fun d => ?_)
              · have d : ¬ nI (t p) = nI v := d
                rw [nI_eq (by omega) (by omega)] at d
                exact skip (fun _ _ e => d e)
              · have d : nI (t p) = nI v := Classical.not_not.mp d
                rw [nI_eq (by omega) (by omega)] at d
                obtain ⟨t1, t2⟩ := Qg_take hp6 gQ (by omega) hS d
                refine run_X9_dearest 19 ?_
                refine And.intro (fun e => absurd e (by decide)) (fun _ => ?_)
                refine And.intro (fun e => absurd e (by decide)) (fun _ => ?_)
                refine ihm (p + 1) _ _ _ (fun x => Y x || decide (x = p)) _ (by omega) (fun x hx => ?_) t2 ?_ ?_ (nI_1 p)
                · rw [gY x hx, decide_eq_false (show ¬ x = p by omega)]; rfl
                · show nI (smi t Y 6) + nI v = _
                  rw [smi_add t1, if_pos hp6, d, nI_add]
                · show nI (k - c6 Y) - 1 = _
                  rw [c6_ins hp6 t1, show k - c6 Y = k - (c6 Y + 1) + 1 by omega, ← nI_1, Int32.add_sub_cancel]
            · refine And.intro (fun _ => ?_) (fun e => absurd rfl e)
              exact skip (fun _ h => by rw [hS] at h; exact (nomatch h))
      refine run_X9_dearest 4 ?_
      refine And.intro (fun e => absurd e (by show ¬ nI v < 0; rw [lt_i, zi, nI_toInt (by omega)]; omega)) (fun _ => ?_)
      refine inner n 0 _ _ _ Y _ (by omega) hYn (Qg_congr hQ (fun x hx => ?_)) rfl rfl rfl
      apply bool_ext
      rw [Ex_iff, Gx_iff]
      constructor
      · rintro ⟨a1, a2⟩; exact ⟨a1, Or.inl (by omega)⟩
      · rintro ⟨a1, a2 | a2⟩
        · exact ⟨a1, by omega⟩
        · omega
  refine run_X9_dearest 6 ?_
  have hz : c6 (fun _ => false) = 0 := rfl
  refine main 21 0 _ 20 (fun _ => false) none none (by decide) (fun _ _ => rfl) ⟨fun x _ h => (nomatch h), by omega, fun _ x hx => ?_, fun e => ⟨20, fun x _ h => (nomatch h), fun x hx _ _ => (ht x hx).1⟩⟩ rfl rfl rfl
  have : ¬ 21 ≤ t x := by have := (ht x hx).1; omega
  unfold Gx
  rw [decide_eq_false this, Bool.and_false]
end P2
