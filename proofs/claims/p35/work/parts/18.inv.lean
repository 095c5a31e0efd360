/-! what the class's numbers and the reference's have to do with each other between two calls -/
def col (f : Nat → Nat → Int32) (j : Nat) : List Int32 := [f 9 j, f 10 j, f 11 j, f 12 j, f 13 j, f 14 j]
def pv (g : Nat → Int32) : Prop := (0 ≤ (g 0).toInt ∧ (g 0).toInt ≤ 2) ∧ (0 ≤ (g 1).toInt ∧ (g 1).toInt ≤ 1) ∧ (0 ≤ (g 2).toInt ∧ (g 2).toInt ≤ 3) ∧ (0 ≤ (g 3).toInt ∧ (g 3).toInt ≤ 9)
def sv (lane size sz ln : Int32) (C big : List Int32) (off : Nat) : Prop :=
  (-1 ≤ lane.toInt ∧ lane.toInt ≤ 2) ∧ (0 ≤ size.toInt ∧ size.toInt ≤ 60) ∧ (lane = -1 → sz = -1 ∧ size = 0) ∧ (¬ lane = -1 → sz = size ∧ ln = lane ∧ ∀ i, i < size.toNatClampNeg → big.getD (off + i) 0 = C.getD i 0)
def rv (L : List Int32) : Prop := ∀ i, i < 12 → 0 ≤ (L.getD i 0).toInt ∧ (L.getD i 0).toInt ≤ 3
def nv (L : List Int32) : Prop := ∀ i, i < 2 → 0 ≤ (L.getD i 0).toInt ∧ (L.getD i 0).toInt ≤ 99
def IvR (l : Nat → List Int32) : Prop := rv (l 5) ∧ nv (l 3)
def IvP (f : Nat → Nat → Int32) : Prop := pv (f 9) ∧ pv (f 10) ∧ pv (f 11) ∧ pv (f 12) ∧ pv (f 13) ∧ pv (f 14)
theorem IvP.at {f : Nat → Nat → Int32} (h : IvP f) {p : Nat} (hp : p < 6) : pv (f (9 + p)) := by
  match p, hp with
  | 0, _ => exact h.1
  | 1, _ => exact h.2.1
  | 2, _ => exact h.2.2.1
  | 3, _ => exact h.2.2.2.1
  | 4, _ => exact h.2.2.2.2.1
  | 5, _ => exact h.2.2.2.2.2
theorem col_at {f : Nat → Nat → Int32} {j p : Nat} (hp : p < 6) : (col f j).getD p 0 = f (9 + p) j := by
  match p, hp with
  | 0, _ => rfl
  | 1, _ => rfl
  | 2, _ => rfl
  | 3, _ => rfl
  | 4, _ => rfl
  | 5, _ => rfl
theorem col_set {f : Nat → Nat → Int32} {j p : Nat} {v : Int32} (hp : p < 6) : (col f j).set p v = col (u2 f (9 + p) j v) j := by
  have e : ∀ a b : Nat, u2 f a b v a b = v := fun a b => by unfold u2; simp [Nat.beq_refl]
  have n : ∀ a a' : Nat, a' ≠ a → u2 f a j v a' j = f a' j := fun a a' h => by
    unfold u2
    rw [show Nat.beq a' a = false from by cases h2 : Nat.beq a' a with | false => rfl | true => exact absurd (Nat.eq_of_beq_eq_true h2) h]
    rfl
  match p, hp with
  | 0, _ => unfold col; rw [e 9 j, n 9 10 (by decide), n 9 11 (by decide), n 9 12 (by decide), n 9 13 (by decide), n 9 14 (by decide)]; rfl
  | 1, _ => unfold col; rw [e 10 j, n 10 9 (by decide), n 10 11 (by decide), n 10 12 (by decide), n 10 13 (by decide), n 10 14 (by decide)]; rfl
  | 2, _ => unfold col; rw [e 11 j, n 11 9 (by decide), n 11 10 (by decide), n 11 12 (by decide), n 11 13 (by decide), n 11 14 (by decide)]; rfl
  | 3, _ => unfold col; rw [e 12 j, n 12 9 (by decide), n 12 10 (by decide), n 12 11 (by decide), n 12 13 (by decide), n 12 14 (by decide)]; rfl
  | 4, _ => unfold col; rw [e 13 j, n 13 9 (by decide), n 13 10 (by decide), n 13 11 (by decide), n 13 12 (by decide), n 13 14 (by decide)]; rfl
  | 5, _ => unfold col; rw [e 14 j, n 14 9 (by decide), n 14 10 (by decide), n 14 11 (by decide), n 14 12 (by decide), n 14 13 (by decide)]; rfl
