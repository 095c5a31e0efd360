/-! what the law's people have to do with the class's -/
def PR (f : Nat → Nat → Int32) (l : Nat → List Int32) (n : Nat) : Prop := ∀ p, p < n → ((l 42).getD (16 + p) 0 = nI (px l p) ∧ px l p < 320 ∧ px l p % 4 < 3) ∧ f (9 + p) 0 = nI (px l p % 4) ∧ f (9 + p) 1 = nI (px l p / 4 % 2) ∧ f (9 + p) 2 = nI (px l p / 8 % 4) ∧ f (9 + p) 3 = nI (px l p / 32)
def SS (f : Nat → Nat → Int32) (l : Nat → List Int32) (n : Nat) : Prop := J f l n ∧ ((l 42).length = 22 ∧ (l 42).getD 0 0 = nI n ∧ (l 42).getD 1 0 = (l 3).getD 0 0 ∧ (l 42).getD 2 0 = (l 3).getD 1 0 ∧ (l 42).getD 3 0 = f 0 5) ∧ (∀ i, i < 12 → (l 42).getD (4 + i) 0 = (l 5).getD i 0) ∧ PR f l n
theorem tk_ty {x : Nat} (hx : x < 320) (h3 : x % 4 < 3) : tk (nI (x % 4)) (nI (x / 32)) = nI (ty x) := (by decide +kernel : ∀ x : Fin 320, x.1 % 4 < 3 → tk (nI (x.1 % 4)) (nI (x.1 / 32)) = nI (ty x.1)) ⟨x, hx⟩ h3
theorem ty_lt {x : Nat} (hx : x < 320) : ty x ≤ 20 := by unfold ty; split; omega; split <;> omega
section SA
variable {f F : Nat → Nat → Int32} {l L : Nat → List Int32} {n : Nat}
theorem SS.wr (h : SS f l n) : WR l := ⟨h.2.1.1, h.1.2.1.2.1, h.1.2.2.1.1, h.2.2.1⟩
theorem SS.lq (h : SS f l n) : LQ l n := ⟨h.2.1.1, h.2.1.2.1, h.1.1.2.2, fun p hp => ⟨(h.2.2.2 p hp).1.1, (h.2.2.2 p hp).1.2.1⟩⟩
theorem SS.n6 (h : SS f l n) : 2 ≤ n ∧ n ≤ 6 := h.1.1.2
theorem SS.tnE (h : SS f l n) {p : Nat} (hp : p < n) : tn f p = ty (px l p) := by
  obtain ⟨⟨h1, h2, h3⟩, e0, e1, e2, e3⟩ := h.2.2.2 p hp
  have := ty_lt h2
  show (tk (f (9 + p) 0) (f (9 + p) 3)).toNatClampNeg = ty (px l p)
  rw [e0, e3, tk_ty h2 h3, nI_clamp (by omega)]
theorem SS.mnE (h : SS f l n) {p : Nat} (hp : p < n) : mn f p = px l p / 8 % 4 := by
  obtain ⟨⟨h1, h2, h3⟩, e0, e1, e2, e3⟩ := h.2.2.2 p hp
  show (f (9 + p) 2).toNatClampNeg = _
  rw [e2, nI_clamp (by omega)]
theorem wkb_nI {m : Nat} (hm : m < 4) : wkb (nI m) = decide (m % 2 = 0) := (by decide +kernel : ∀ m : Fin 4, wkb (nI m.1) = decide (m.1 % 2 = 0)) ⟨m, hm⟩
theorem SS.woE (h : SS f l n) {o : Nat} (ho : o < 2) : wo f 2 n (nI o) = lw l n o := by
  funext p
  unfold wo pe lw
  by_cases hp : p < n
  · obtain ⟨⟨h1, h2, h3⟩, e0, e1, e2, e3⟩ := h.2.2.2 p hp
    show ((decide (p < n) && decide (f (9 + p) 1 = nI o)) && wkb (f (9 + p) 2)) = _
    rw [e1, e2, wkb_nI (Nat.mod_lt _ (by decide)), decide_eq_false (show ¬ o = 2 by omega), Bool.false_or]
    have : decide (nI (px l p / 4 % 2) = nI o) = decide (px l p / 4 % 2 = o) := by
      rw [decide_eq_decide]
      exact nI_eq (by omega) (by omega)
    rw [this]
    cases decide (p < n) <;> cases decide (px l p / 4 % 2 = o) <;> cases decide (px l p / 8 % 4 % 2 = 0) <;> rfl
  · rw [decide_eq_false hp]
    rfl
theorem lw_n {o : Nat} : ∀ x, n ≤ x → lw l n o x = false := fun x hx => by
  unfold lw
  rw [decide_eq_false (show ¬ x < n by omega)]
  rfl
theorem lw_2 : ∀ x, lw l n 2 x = (lw l n 0 x || lw l n 1 x) := fun x => by
  unfold lw
  have : px l x / 4 % 2 = 0 ∨ px l x / 4 % 2 = 1 := by omega
  rcases this with e | e <;> rw [e] <;> cases decide (x < n) <;> cases decide (px l x / 8 % 4 % 2 = 0) <;> rfl
theorem lw_dis : ∀ x, (lw l n 0 x && lw l n 1 x) = false := fun x => by
  unfold lw
  have : px l x / 4 % 2 = 0 ∨ px l x / 4 % 2 = 1 := by omega
  rcases this with e | e <;> rw [e] <;> cases decide (x < n) <;> cases decide (px l x / 8 % 4 % 2 = 0) <;> rfl
/-- what is changed elsewhere changes nothing of it -/
theorem SS.keep (h : SS f l n) (hf : ∀ x y, x = 2 ∨ x = 0 ∨ (9 ≤ x ∧ x < 15) → F x y = f x y) (h3 : L 3 = l 3) (h5 : L 5 = l 5) (h42 : L 42 = l 42) (h6 : (L 6).length = 4) (h7 : (L 7).length = 4) (h30 : (L 30).length = 8) (h31 : (L 31).length = 8) : SS F L n := by
  have ep : ∀ p, px L p = px l p := fun p => by unfold px; rw [h42]
  refine ⟨⟨⟨by rw [hf 2 3 (Or.inl rfl)]; exact h.1.1.1, h.1.1.2⟩, ⟨by rw [h3]; exact h.1.2.1.1, by rw [h5]; exact h.1.2.1.2.1, h6, h7, h30, h31⟩, by rw [h3, h5]; exact h.1.2.2.1, ?_⟩, ⟨by rw [h42]; exact h.2.1.1, by rw [h42]; exact h.2.1.2.1, by rw [h42, h3]; exact h.2.1.2.2.1, by rw [h42, h3]; exact h.2.1.2.2.2.1, by rw [h42, hf 0 5 (Or.inr (Or.inl rfl))]; exact h.2.1.2.2.2.2⟩, by rw [h42, h5]; exact h.2.2.1, fun p hp => ?_⟩
  · have k : ∀ x, 9 ≤ x → x < 15 → F x = f x := fun x a b => funext fun y => hf x y (Or.inr (Or.inr ⟨a, b⟩))
    show pv (F 9) ∧ pv (F 10) ∧ pv (F 11) ∧ pv (F 12) ∧ pv (F 13) ∧ pv (F 14)
    rw [k 9 (by decide) (by decide), k 10 (by decide) (by decide), k 11 (by decide) (by decide), k 12 (by decide) (by decide), k 13 (by decide) (by decide), k 14 (by decide) (by decide)]
    exact h.1.2.2.2
  · have n6 := h.1.1.2.2
    have k : ∀ y, F (9 + p) y = f (9 + p) y := fun y => hf (9 + p) y (Or.inr (Or.inr (by omega)))
    rw [ep, h42, k, k, k, k]
    exact h.2.2.2 p hp
theorem SS.wqE (h : SS f l n) {X Y : List Int32} (hX : X.length = 4) (hY : Y.length = 4) : SS f (wq l X Y) n :=
  h.keep (fun _ _ _ => rfl) rfl rfl rfl hX hY h.1.2.1.2.2.2.2.1 h.1.2.1.2.2.2.2.2
end SA
/-! the cheapest set, from the last one back -/
def isb (ok : Nat → Bool) (val : Nat → Nat) (lo hi : Nat) : Option Nat → Prop
  | none => ∀ j, lo ≤ j → j < hi → ok j = false
  | some b => (lo ≤ b ∧ b < hi ∧ ok b = true) ∧ (∀ j, lo ≤ j → j < hi → ok j = true → val b ≤ val j) ∧ ∀ j, lo ≤ j → j < b → ok j = true → val b < val j
theorem isb_un {ok : Nat → Bool} {val : Nat → Nat} {lo hi : Nat} : ∀ {r r' : Option Nat}, isb ok val lo hi r → isb ok val lo hi r' → r = r'
  | none, none, _, _ => rfl
  | none, some b, h, h' => by have := h b h'.1.1 h'.1.2.1; rw [h'.1.2.2] at this; exact absurd this (by decide)
  | some b, none, h, h' => by have := h' b h.1.1 h.1.2.1; rw [h.1.2.2] at this; exact absurd this (by decide)
  | some b, some b', h, h' => by
    have h1 := h.2.1 b' h'.1.1 h'.1.2.1 h'.1.2.2
    have h2 := h'.2.1 b h.1.1 h.1.2.1 h.1.2.2
    by_cases e : b < b'
    · have := h'.2.2 b h.1.1 e h.1.2.2; omega
    · by_cases e2 : b' < b
      · have := h.2.2 b' h'.1.1 e2 h'.1.2.2; omega
      · rw [show b = b' by omega]
def bdn (ok : Nat → Bool) (val : Nat → Nat) : Nat → Nat → Option Nat
  | 0, _ => none
  | k + 1, j => if ok j && (match bdn ok val k (j + 1) with | none => true | some b => decide (val j ≤ val b)) then some j else bdn ok val k (j + 1)
theorem bdn_isb {ok : Nat → Bool} {val : Nat → Nat} : ∀ (k j : Nat), isb ok val j (j + k) (bdn ok val k j)
  | 0, j => fun i h1 h2 => absurd h2 (by omega)
  | k + 1, j => by
    have ih := bdn_isb (ok := ok) (val := val) k (j + 1)
    show isb ok val j (j + (k + 1)) (if ok j && (match bdn ok val k (j + 1) with | none => true | some b => decide (val j ≤ val b)) then some j else bdn ok val k (j + 1))
    cases hj : ok j with
    | false =>
      rw [Bool.false_and, if_neg (by decide)]
      cases hr : bdn ok val k (j + 1) with
      | none =>
        rw [hr] at ih
        intro i h1 h2
        by_cases e : i = j
        · rw [e]; exact hj
        · exact ih i (by omega) (by omega)
      | some b =>
        rw [hr] at ih
        refine ⟨⟨by have := ih.1.1; omega, by have := ih.1.2.1; omega, ih.1.2.2⟩, fun i h1 h2 h3 => ?_, fun i h1 h2 h3 => ?_⟩
        · by_cases e : i = j
          · rw [e, hj] at h3; exact absurd h3 (by decide)
          · exact ih.2.1 i (by omega) (by omega) h3
        · by_cases e : i = j
          · rw [e, hj] at h3; exact absurd h3 (by decide)
          · exact ih.2.2 i (by omega) (by omega) h3
    | true =>
      rw [Bool.true_and]
      cases hr : bdn ok val k (j + 1) with
      | none =>
        rw [hr] at ih
        rw [if_pos rfl]
        refine ⟨⟨Nat.le_refl _, by omega, hj⟩, fun i h1 h2 h3 => ?_, fun i h1 h2 h3 => absurd h2 (by omega)⟩
        by_cases e : i = j
        · rw [e]; exact Nat.le_refl _
        · rw [ih i (by omega) (by omega)] at h3; exact absurd h3 (by decide)
      | some b =>
        rw [hr] at ih
        by_cases hv : val j ≤ val b
        · show isb ok val j (j + (k + 1)) (if decide (val j ≤ val b) = true then some j else some b)
          rw [decide_eq_true hv, if_pos rfl]
          refine ⟨⟨Nat.le_refl _, by omega, hj⟩, fun i h1 h2 h3 => ?_, fun i h1 h2 h3 => absurd h2 (by omega)⟩
          by_cases e : i = j
          · rw [e]; exact Nat.le_refl _
          · have := ih.2.1 i (by omega) (by omega) h3; omega
        · show isb ok val j (j + (k + 1)) (if decide (val j ≤ val b) = true then some j else some b)
          rw [decide_eq_false hv, if_neg (by decide)]
          refine ⟨⟨by have := ih.1.1; omega, by have := ih.1.2.1; omega, ih.1.2.2⟩, fun i h1 h2 h3 => ?_, fun i h1 h2 h3 => ?_⟩
          · by_cases e : i = j
            · rw [e]; omega
            · exact ih.2.1 i (by omega) (by omega) h3
          · by_cases e : i = j
            · rw [e]; omega
            · exact ih.2.2 i (by omega) (by omega) h3
theorem bst_isb {ok : Nat → Bool} {val : Nat → Nat} : ∀ (k : Nat), isb ok val 0 k (bst ok val k)
  | 0 => fun i h1 h2 => absurd h2 (by omega)
  | k + 1 => by
    have ih := bst_isb (ok := ok) (val := val) k
    show isb ok val 0 (k + 1) (if ok k && (match bst ok val k with | none => true | some b => decide (val k < val b)) then some k else bst ok val k)
    cases hj : ok k with
    | false =>
      rw [Bool.false_and, if_neg (by decide)]
      cases hr : bst ok val k with
      | none =>
        rw [hr] at ih
        intro i h1 h2
        by_cases e : i = k
        · rw [e]; exact hj
        · exact ih i (by omega) (by omega)
      | some b =>
        rw [hr] at ih
        refine ⟨⟨by omega, by have := ih.1.2.1; omega, ih.1.2.2⟩, fun i h1 h2 h3 => ?_, fun i h1 h2 h3 => ih.2.2 i h1 h2 h3⟩
        by_cases e : i = k
        · rw [e, hj] at h3; exact absurd h3 (by decide)
        · exact ih.2.1 i (by omega) (by omega) h3
    | true =>
      rw [Bool.true_and]
      cases hr : bst ok val k with
      | none =>
        rw [hr] at ih
        rw [if_pos rfl]
        refine ⟨⟨by omega, by omega, hj⟩, fun i h1 h2 h3 => ?_, fun i h1 h2 h3 => ?_⟩
        · by_cases e : i = k
          · rw [e]; exact Nat.le_refl _
          · rw [ih i (by omega) (by omega)] at h3; exact absurd h3 (by decide)
        · rw [ih i (by omega) (by omega)] at h3; exact absurd h3 (by decide)
      | some b =>
        rw [hr] at ih
        by_cases hv : val k < val b
        · show isb ok val 0 (k + 1) (if decide (val k < val b) = true then some k else some b)
          rw [decide_eq_true hv, if_pos rfl]
          refine ⟨⟨by omega, by omega, hj⟩, fun i h1 h2 h3 => ?_, fun i h1 h2 h3 => ?_⟩
          · by_cases e : i = k
            · rw [e]; exact Nat.le_refl _
            · have := ih.2.1 i (by omega) (by omega) h3; omega
          · have := ih.2.1 i (by omega) (by omega) h3; omega
        · show isb ok val 0 (k + 1) (if decide (val k < val b) = true then some k else some b)
          rw [decide_eq_false hv, if_neg (by decide)]
          refine ⟨⟨by omega, by have := ih.1.2.1; omega, ih.1.2.2⟩, fun i h1 h2 h3 => ?_, fun i h1 h2 h3 => ih.2.2 i h1 h2 h3⟩
          by_cases e : i = k
          · rw [e]; omega
          · exact ih.2.1 i (by omega) (by omega) h3
theorem bdn_bst {ok : Nat → Bool} {val : Nat → Nat} {N M : Nat} (hNM : N ≤ M) (h : ∀ j, N ≤ j → j < M → ok j = false) : bdn ok val N 0 = bst ok val M := by
  have h1 := bdn_isb (ok := ok) (val := val) N 0
  have h2 := bst_isb (ok := ok) (val := val) M
  rw [Nat.zero_add] at h1
  refine isb_un h1 ?_
  cases hr : bst ok val M with
  | none =>
    rw [hr] at h2
    exact fun j a b => h2 j a (by omega)
  | some b =>
    rw [hr] at h2
    have hb : b < N := by
      by_cases e : b < N
      · exact e
      · have := h b (by omega) h2.1.2.1
        rw [h2.1.2.2] at this
        exact absurd this (by decide)
    exact ⟨⟨h2.1.1, hb, h2.1.2.2⟩, fun j a c d => h2.2.1 j a (by omega) d, h2.2.2⟩
