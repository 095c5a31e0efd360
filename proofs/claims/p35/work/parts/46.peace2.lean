/-! peace (2): the dearest, one after the other -/
def vL : Nat → Int32
  | 0 => -1
  | v + 1 => nI v
def Qg (S X : Nat → Bool) (t : Nat → Nat) (k : Nat) (Y : Nat → Bool) : Prop :=
  (∀ x, x < 6 → Y x = true → S x = true) ∧ c6 Y ≤ k ∧ (c6 Y < k → ∀ x, x < 6 → Y x = X x) ∧ (c6 Y = k → ∃ th, (∀ x, x < 6 → Y x = true → th ≤ t x) ∧ (∀ x, x < 6 → S x = true → Y x = false → t x ≤ th))
def Gx (S : Nat → Bool) (t : Nat → Nat) (u : Nat) : Nat → Bool := fun x => S x && decide (u ≤ t x)
def Ex (S : Nat → Bool) (t : Nat → Nat) (v p : Nat) : Nat → Bool := fun x => S x && (decide (v < t x) || (decide (t x = v) && decide (x < p)))
theorem Qg_congr {S X X' : Nat → Bool} {t : Nat → Nat} {k : Nat} {Y : Nat → Bool} (h : Qg S X t k Y) (e : ∀ x, x < 6 → X x = X' x) : Qg S X' t k Y :=
  ⟨h.1, h.2.1, fun g x hx => (h.2.2.1 g x hx).trans (e x hx), h.2.2.2⟩
theorem Ex_iff {S : Nat → Bool} {t : Nat → Nat} {v p x : Nat} : Ex S t v p x = true ↔ S x = true ∧ (v < t x ∨ (t x = v ∧ x < p)) := by
  unfold Ex
  simp
theorem Gx_iff {S : Nat → Bool} {t : Nat → Nat} {u x : Nat} : Gx S t u x = true ↔ S x = true ∧ u ≤ t x := by
  unfold Gx
  simp
theorem Qg_skip {S : Nat → Bool} {t : Nat → Nat} {v p k : Nat} {Y : Nat → Bool} (h : Qg S (Ex S t v p) t k Y) (hn : c6 Y < k → S p = true → t p = v → False) : Qg S (Ex S t v (p + 1)) t k Y := by
  refine ⟨h.1, h.2.1, fun g x hx => ?_, h.2.2.2⟩
  rw [h.2.2.1 g x hx]
  apply bool_ext
  rw [Ex_iff, Ex_iff]
  constructor
  · rintro ⟨h1, h2 | h2⟩
    · exact ⟨h1, Or.inl h2⟩
    · exact ⟨h1, Or.inr ⟨h2.1, by omega⟩⟩
  · rintro ⟨h1, h2 | h2⟩
    · exact ⟨h1, Or.inl h2⟩
    · by_cases e : x = p
      · subst e; exact (hn g h1 h2.1).elim
      · exact ⟨h1, Or.inr ⟨h2.1, by omega⟩⟩
theorem Qg_take {S : Nat → Bool} {t : Nat → Nat} {v p k : Nat} {Y : Nat → Bool} (hp : p < 6) (h : Qg S (Ex S t v p) t k Y) (hk : c6 Y < k) (hS : S p = true) (ht : t p = v) : Y p = false ∧ Qg S (Ex S t v (p + 1)) t k (fun x => Y x || decide (x = p)) := by
  have hY := h.2.2.1 hk
  have hYp : Y p = false := by
    cases e : Y p with
    | false => rfl
    | true =>
      rw [hY p hp, Ex_iff] at e
      rcases e.2 with e | e <;> omega
  have eE : ∀ x, x < 6 → (Y x || decide (x = p)) = Ex S t v (p + 1) x := fun x hx => by
    apply bool_ext
    rw [Bool.or_eq_true, decide_eq_true_iff, hY x hx, Ex_iff, Ex_iff]
    constructor
    · rintro (⟨h1, h2 | h2⟩ | h2)
      · exact ⟨h1, Or.inl h2⟩
      · exact ⟨h1, Or.inr ⟨h2.1, by omega⟩⟩
      · subst h2; exact ⟨hS, Or.inr ⟨ht, by omega⟩⟩
    · rintro ⟨h1, h2 | h2⟩
      · exact Or.inl ⟨h1, Or.inl h2⟩
      · by_cases e : x = p
        · exact Or.inr e
        · exact Or.inl ⟨h1, Or.inr ⟨h2.1, by omega⟩⟩
  refine ⟨hYp, fun x hx hh => ?_, ?_, fun _ => eE, fun _ => ⟨v, fun x hx hh => ?_, fun x hx h1 h2 => ?_⟩⟩
  · have hh : (Y x || decide (x = p)) = true := hh
    rw [eE x hx, Ex_iff] at hh
    exact hh.1
  · rw [c6_ins hp hYp]; omega
  · have hh : (Y x || decide (x = p)) = true := hh
    rw [eE x hx, Ex_iff] at hh
    rcases hh.2 with e | e <;> omega
  · have h2 : (Y x || decide (x = p)) = false := h2
    rw [eE x hx] at h2
    by_cases hlt : v < t x
    · have : Ex S t v (p + 1) x = true := Ex_iff.mpr ⟨h1, Or.inl hlt⟩
      rw [this] at h2
      exact (nomatch h2)
    · omega
theorem Qg_best {S : Nat → Bool} {t : Nat → Nat} {k n : Nat} {Y : Nat → Bool} (hn : n ≤ 6) (hS : ∀ x, n ≤ x → S x = false) (hY6 : ∀ x, n ≤ x → Y x = false) (h : Qg S (Gx S t 0) t k Y) (hk : k ≤ c6 S) : mx (okS S k) (fun j => smi t (bset j) n) 64 = smi t Y 6 := by
  have hfull : c6 Y = k := by
    by_cases e : c6 Y < k
    · exfalso
      have := h.2.2.1 e
      have e2 : c6 Y = c6 S := c6_congr (fun x hx => by
        rw [this x hx]
        unfold Gx
        simp)
      omega
    · have := h.2.1; omega
  obtain ⟨th, t1, t2⟩ := h.2.2.2 hfull
  have cut : ∀ P : Nat → Bool, (∀ x, x < 6 → P x = true → S x = true) → smi t P n = smi t P 6 := fun P hP => by
    have := smi_cut (t := t) (Y := fun x => P x && decide (x < n)) (n := n) (fun x hx => by rw [decide_eq_false (show ¬ x < n by omega), Bool.and_false]) (6 - n)
    rw [show n + (6 - n) = 6 by omega] at this
    rw [smi_congr (Z := fun x => P x && decide (x < n)) (fun x hx => by rw [decide_eq_true hx, Bool.and_true]), ← this]
    refine smi_congr (fun x hx => ?_)
    by_cases e : x < n
    · rw [decide_eq_true e, Bool.and_true]
    · rw [decide_eq_false e, Bool.and_false]
      cases e2 : P x with
      | false => rfl
      | true =>
        have := hP x hx e2
        rw [hS x (by omega)] at this
        exact (nomatch this)
  have okI : ∀ j, okS S k j = true → (∀ x, x < 6 → bset j x = true → S x = true) ∧ c6 (bset j) = k := fun j hj => by
    unfold okS at hj
    rw [Bool.and_eq_true, decide_eq_true_iff, decide_eq_true_iff, B6_z6] at hj
    refine ⟨fun x hx e => ?_, hj.2⟩
    have := hj.1 x hx
    rw [e, Bool.true_and] at this
    cases e3 : S x with
    | true => rfl
    | false => rw [e3] at this; exact (nomatch this)
  apply Nat.le_antisymm
  · refine mx_max (fun j hj hok => ?_)
    obtain ⟨o1, o2⟩ := okI j hok
    show smi t (bset j) n ≤ _
    rw [cut _ o1]
    have := exch (t := t) (P := bset j) (Y := Y) (th := th) t1 (fun x hx e1 e2 => t2 x hx (o1 x hx e1) e2)
    rw [hfull, o2] at this
    omega
  · have e6 : c6 (bset (v6 Y)) = c6 Y := c6_congr (bset_v6 Y)
    have hok : okS S k (v6 Y) = true := by
      unfold okS
      rw [Bool.and_eq_true, decide_eq_true_iff, decide_eq_true_iff, B6_z6]
      refine ⟨fun x hx => ?_, by rw [e6]; exact hfull⟩
      rw [bset_v6 Y x hx]
      cases e : Y x with
      | false => rfl
      | true => rw [h.1 x hx e]; rfl
    have := mx_ge (val := fun j => smi t (bset j) n) hok (n := 64) (v6_lt Y)
    have e7 : smi t (bset (v6 Y)) n = smi t Y 6 := by
      rw [smi_congr (Z := Y) (fun x hx => bset_v6 Y x (by omega))]
      exact cut Y h.1
    have this : smi t (bset (v6 Y)) n ≤ _ := this
    rw [e7] at this
    exact this
section P2
variable {scr : Option (List Int32)} {P : ba_P} {w : ba_W} {f : Nat → Nat → Int32} {l : Nat → List Int32} {q : List (List Int32)}
end P2
