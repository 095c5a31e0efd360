/-! what the class's numbers and the reference's have to do with each other between two calls -/
def col (f : Nat → Nat → Int32) (j : Nat) : List Int32 := [f 9 j, f 10 j, f 11 j, f 12 j, f 13 j, f 14 j]
def pv (g : Nat → Int32) : Prop := (0 ≤ (g 0).toInt ∧ (g 0).toInt ≤ 2) ∧ (0 ≤ (g 1).toInt ∧ (g 1).toInt ≤ 1) ∧ (0 ≤ (g 2).toInt ∧ (g 2).toInt ≤ 3) ∧ (0 ≤ (g 3).toInt ∧ (g 3).toInt ≤ 9)
def sv (lane size sz ln : Int32) (C big : List Int32) (off : Nat) : Prop :=
  (-1 ≤ lane.toInt ∧ lane.toInt ≤ 2) ∧ (0 ≤ size.toInt ∧ size.toInt ≤ 60) ∧ (lane = -1 → sz = -1 ∧ size = 0) ∧ (¬ lane = -1 → sz = size ∧ ln = lane ∧ ∀ i, i < size.toNatClampNeg → big.getD (off + i) 0 = C.getD i 0)
def IvN (f : Nat → Nat → Int32) : Prop := 0 ≤ (f 2 3).toInt ∧ (f 2 3).toInt ≤ 6 ∧ f 42 1 = f 2 3
def IvL (l : Nat → List Int32) (q : Nat → List Int64) : Prop :=
  ((l 3).length = 2 ∧ (l 5).length = 12 ∧ (l 6).length = 4 ∧ (l 7).length = 4) ∧ ((l 17).length = 2 ∧ (l 19).length = 12 ∧ (l 20).length = 4 ∧ (l 21).length = 4) ∧ ((l 30).length = 8 ∧ (l 31).length = 8) ∧ ((l 35).length = 60 ∧ (l 37).length = 60 ∧ (l 39).length = 60 ∧ (l 41).length = 60) ∧
  ((l 49).length = 2 ∧ (l 50).length = 12 ∧ (l 51).length = 6 ∧ (l 52).length = 6 ∧ (l 53).length = 6 ∧ (l 54).length = 6) ∧ ((l 55).length = 2 ∧ (l 56).length = 6 ∧ (l 57).length = 4 ∧ (q 58).length = 4 ∧ (q 59).length = 4) ∧ ((l 62).length = 4 ∧ (l 63).length = 4 ∧ (l 64).length = 240 ∧ (l 65).length = 60)
def IvE (f : Nat → Nat → Int32) (l : Nat → List Int32) : Prop := (l 43 = l 3 ∧ l 44 = l 5) ∧ (l 45 = col f 0 ∧ l 46 = col f 1 ∧ l 47 = col f 2 ∧ l 48 = col f 3) ∧ l 60 = l 30 ∧ l 61 = l 31
def rv (L : List Int32) : Prop := ∀ i, i < 12 → 0 ≤ (L.getD i 0).toInt ∧ (L.getD i 0).toInt ≤ 3
def nv (L : List Int32) : Prop := ∀ i, i < 2 → 0 ≤ (L.getD i 0).toInt ∧ (L.getD i 0).toInt ≤ 99
def IvR (l : Nat → List Int32) : Prop := rv (l 5) ∧ nv (l 3)
def IvP (f : Nat → Nat → Int32) : Prop := pv (f 9) ∧ pv (f 10) ∧ pv (f 11) ∧ pv (f 12) ∧ pv (f 13) ∧ pv (f 14)
def IvD (f : Nat → Nat → Int32) (l : Nat → List Int32) : Prop := (0 ≤ (f 29 3).toInt ∧ (f 29 3).toInt ≤ 8) ∧ f 42 22 = f 29 3 ∧ ∀ k, k < (f 29 3).toNatClampNeg → 0 ≤ ((l 30).getD k 0).toInt ∧ ((l 30).getD k 0).toInt < (f 2 3).toInt
def IvM (f : Nat → Nat → Int32) : Prop := f 42 2 = f 0 5 ∧ f 42 0 = f 0 6 ∧ f 42 29 = f 33 0
def IvS (f : Nat → Nat → Int32) (l : Nat → List Int32) : Prop :=
  sv (f 34 1) (f 34 2) ((l 62).getD 0 0) ((l 63).getD 0 0) (l 35) (l 64) 0 ∧ sv (f 36 1) (f 36 2) ((l 62).getD 1 0) ((l 63).getD 1 0) (l 37) (l 64) 60 ∧
  sv (f 38 1) (f 38 2) ((l 62).getD 2 0) ((l 63).getD 2 0) (l 39) (l 64) 120 ∧ sv (f 40 1) (f 40 2) ((l 62).getD 3 0) ((l 63).getD 3 0) (l 41) (l 64) 180
def Inv (f : Nat → Nat → Int32) (l : Nat → List Int32) (q : Nat → List Int64) : Prop := (IvN f ∧ IvL l q ∧ IvE f l ∧ IvR l) ∧ IvP f ∧ IvD f l ∧ IvM f ∧ IvS f l
theorem IvS.at {f : Nat → Nat → Int32} {l : Nat → List Int32} (h : IvS f l) {k : Nat} (hk : k < 4) : sv (f (34 + 2 * k) 1) (f (34 + 2 * k) 2) ((l 62).getD k 0) ((l 63).getD k 0) (l (34 + 2 * k + 1)) (l 64) (60 * k) := by
  match k, hk with
  | 0, _ => exact h.1
  | 1, _ => exact h.2.1
  | 2, _ => exact h.2.2.1
  | 3, _ => exact h.2.2.2
theorem IvP.at {f : Nat → Nat → Int32} (h : IvP f) {p : Nat} (hp : p < 6) : pv (f (9 + p)) := by
  match p, hp with
  | 0, _ => exact h.1
  | 1, _ => exact h.2.1
  | 2, _ => exact h.2.2.1
  | 3, _ => exact h.2.2.2.1
  | 4, _ => exact h.2.2.2.2.1
  | 5, _ => exact h.2.2.2.2.2
theorem IvL.sh {l : Nat → List Int32} {q : Nat → List Int64} (h : IvL l q) {k : Nat} (hk : k < 4) : (l (34 + 2 * k + 1)).length = 60 := by
  match k, hk with
  | 0, _ => exact h.2.2.2.1.1
  | 1, _ => exact h.2.2.2.1.2.1
  | 2, _ => exact h.2.2.2.1.2.2.1
  | 3, _ => exact h.2.2.2.1.2.2.2
theorem col_at {f : Nat → Nat → Int32} {j p : Nat} (hp : p < 6) : (col f j).getD p 0 = f (9 + p) j := by
  match p, hp with
  | 0, _ => rfl
  | 1, _ => rfl
  | 2, _ => rfl
  | 3, _ => rfl
  | 4, _ => rfl
  | 5, _ => rfl
theorem col_set {f : Nat → Nat → Int32} {j p : Nat} {v : Int32} (hp : p < 6) : (col f j).set p v = col (u2 f (9 + p) j v) j := by
  have e : ∀ a b : Nat, u2 f a b v a b = v := fun a b => by unfold u2; simp [Nat.beq_refl]
  have n : ∀ a a' : Nat, a' ≠ a → u2 f a j v a' j = f a' j := fun a a' h => by
    unfold u2
    rw [show Nat.beq a' a = false from by cases h2 : Nat.beq a' a with | false => rfl | true => exact absurd (Nat.eq_of_beq_eq_true h2) h]
    rfl
  match p, hp with
  | 0, _ => unfold col; rw [e 9 j, n 9 10 (by decide), n 9 11 (by decide), n 9 12 (by decide), n 9 13 (by decide), n 9 14 (by decide)]; rfl
  | 1, _ => unfold col; rw [e 10 j, n 10 9 (by decide), n 10 11 (by decide), n 10 12 (by decide), n 10 13 (by decide), n 10 14 (by decide)]; rfl
  | 2, _ => unfold col; rw [e 11 j, n 11 9 (by decide), n 11 10 (by decide), n 11 12 (by decide), n 11 13 (by decide), n 11 14 (by decide)]; rfl
  | 3, _ => unfold col; rw [e 12 j, n 12 9 (by decide), n 12 10 (by decide), n 12 11 (by decide), n 12 13 (by decide), n 12 14 (by decide)]; rfl
  | 4, _ => unfold col; rw [e 13 j, n 13 9 (by decide), n 13 10 (by decide), n 13 11 (by decide), n 13 12 (by decide), n 13 14 (by decide)]; rfl
  | 5, _ => unfold col; rw [e 14 j, n 14 9 (by decide), n 14 10 (by decide), n 14 11 (by decide), n 14 12 (by decide), n 14 13 (by decide)]; rfl
/-- a method of the class and the reference's: the same answer, and the worlds fit behind them -/
def both (scr : Option (List Int32)) (ixc ixr : Nat) (Lc Lr : ba_L) (f : Nat → Nat → Int32) (l : Nat → List Int32) (q : Nat → List Int64) : Prop :=
  ∀ P : ba_P, (∀ (v : Int32) (f1 : Nat → Nat → Int32) (l1 : Nat → List Int32) (q1 : Nat → List Int64), (∀ P2 : ba_P, (∀ f2 l2 q2, Inv f2 l2 q2 → P2 (some (.int v)) (wW f2 l2 q2)) → ba_go scr ixr 0 Lr [] (wW f1 l1 q1) 0 0 P2) → P (some (.int v)) (wW f1 l1 q1)) → ba_go scr ixc 0 Lc [] (wW f l q) 0 0 P
def bothJ (scr : Option (List Int32)) (ixc ixr : Nat) (Lc Lr : ba_L) (f : Nat → Nat → Int32) (l : Nat → List Int32) (q : Nat → List Int64) : Prop :=
  ∀ P : ba_P, (∀ (v : Int64) (f1 : Nat → Nat → Int32) (l1 : Nat → List Int32) (q1 : Nat → List Int64), (∀ P2 : ba_P, (∀ f2 l2 q2, Inv f2 l2 q2 → P2 (some (.long v)) (wW f2 l2 q2)) → ba_go scr ixr 0 Lr [] (wW f1 l1 q1) 0 0 P2) → P (some (.long v)) (wW f1 l1 q1)) → ba_go scr ixc 0 Lc [] (wW f l q) 0 0 P
set_option maxRecDepth 100000 in
theorem inv0 : Inv f0 l0 q0 := by
  refine ⟨⟨⟨by decide, by decide, rfl⟩, ?_, ?_, ?_⟩, ?_, ?_, ?_, ?_⟩
  · exact ⟨⟨rfl, rfl, rfl, rfl⟩, ⟨rfl, rfl, rfl, rfl⟩, ⟨rfl, rfl⟩, ⟨rfl, rfl, rfl, rfl⟩, ⟨rfl, rfl, rfl, rfl, rfl, rfl⟩, ⟨rfl, rfl, rfl, rfl, rfl⟩, ⟨rfl, rfl, rfl, rfl⟩⟩
  · exact ⟨⟨rfl, rfl⟩, ⟨rfl, rfl, rfl, rfl⟩, rfl, rfl⟩
  · refine ⟨?_, ?_⟩
    · have h : ∀ i, i < 12 → 0 ≤ ((l0 5).getD i 0).toInt ∧ ((l0 5).getD i 0).toInt ≤ 3 := by decide
      exact h
    · have h : ∀ i, i < 2 → 0 ≤ ((l0 3).getD i 0).toInt ∧ ((l0 3).getD i 0).toInt ≤ 99 := by decide
      exact h
  · unfold IvP pv; decide
  · exact ⟨⟨by decide, by decide⟩, rfl, fun k hk => absurd hk (by show ¬ k < 0; omega)⟩
  · exact ⟨rfl, rfl, rfl⟩
  · refine ⟨?_, ?_, ?_, ?_⟩ <;> exact ⟨⟨by decide, by decide⟩, ⟨by decide, by decide⟩, fun _ => ⟨rfl, rfl⟩, fun h => absurd rfl h⟩
