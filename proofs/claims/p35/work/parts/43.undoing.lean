/-! undoing -/
def q4 (h : Nat → Int32) : List Int32 := [h 0, h 1, h 2, h 3]
theorem q4_get {h : Nat → Int32} {k : Nat} (hk : k < 4) : (q4 h).getD k 0 = h k := by
  match k, hk with
  | 0, _ => rfl
  | 1, _ => rfl
  | 2, _ => rfl
  | 3, _ => rfl
theorem q4_set {h : Nat → Int32} {k : Nat} {v : Int32} (hk : k < 4) : (q4 h).set k v = q4 (fun t => if t = k then v else h t) := by
  match k, hk with
  | 0, _ => rfl
  | 1, _ => rfl
  | 2, _ => rfl
  | 3, _ => rfl
theorem q4_congr {g h : Nat → Int32} (e : ∀ t, t < 4 → g t = h t) : q4 g = q4 h := by
  unfold q4
  rw [e 0 (by decide), e 1 (by decide), e 2 (by decide), e 3 (by decide)]
theorem q4_ext {Z : List Int32} {g : Nat → Int32} (h : Z.length = 4) (e : ∀ t, t < 4 → Z.getD t 0 = g t) : Z = q4 g := by
  match Z, h with
  | [a, b, c, d], _ =>
    have e0 : a = g 0 := e 0 (by decide)
    have e1 : b = g 1 := e 1 (by decide)
    have e2 : c = g 2 := e 2 (by decide)
    have e3 : d = g 3 := e 3 (by decide)
    rw [e0, e1, e2, e3]
    rfl
def cd (D : Nat → Nat) (far m : Nat) : Int32 := if D m ≤ far then nI (D m) else -9
def hs (g : Nat → Nat → Nat) (D : Nat → Nat) (far i : Nat) : Nat → Bool
  | 0 => false
  | s + 1 => hs g D far i s || decide (D (g s i) + 1 = far)
theorem hs_iff {g : Nat → Nat → Nat} {D : Nat → Nat} {far i : Nat} : ∀ {s : Nat}, hs g D far i s = true ↔ ∃ s', s' < s ∧ D (g s' i) + 1 = far
  | 0 => ⟨fun h => (nomatch h), fun ⟨s', h, _⟩ => absurd h (by omega)⟩
  | s + 1 => by
    show (hs g D far i s || decide (D (g s i) + 1 = far)) = true ↔ _
    rw [Bool.or_eq_true, hs_iff, decide_eq_true_iff]
    constructor
    · rintro (⟨r', h1, h2⟩ | h)
      · exact ⟨r', by omega, h2⟩
      · exact ⟨s, by omega, h⟩
    · rintro ⟨r', h1, h2⟩
      by_cases h : r' = s
      · subst h; exact Or.inr h2
      · exact Or.inl ⟨r', by omega, h2⟩
def mid (g : Nat → Nat → Nat) (D : Nat → Nat) (far i s : Nat) : Int32 := if D i < far then nI (D i) else if hs g D far i s then nI far else -9
def stf (g : Nat → Nat → Nat) (D : Nat → Nat) (far i s m : Nat) : Int32 := if m < i then cd D far m else if m = i then mid g D far i s else cd D (far - 1) m
section UN
variable {scr : Option (List Int32)} {P : ba_P} {w : ba_W} {f : Nat → Nat → Int32} {l : Nat → List Int32} {q : List (List Int32)}
end UN
