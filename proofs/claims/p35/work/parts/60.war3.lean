/-! war: the reference's reading -/
def RS (f F : Nat → Nat → Int32) (l L : Nat → List Int32) (t p : Nat) : Prop :=
  (∀ x y, ¬ (x = 42 ∧ (y = 9 ∨ y = 10)) → F x y = f x y) ∧ (∀ x, ¬ (49 ≤ x ∧ x ≤ 54) → L x = l x) ∧ ((L 49).length = 2 ∧ (L 50).length = 12 ∧ (L 51).length = 6 ∧ (L 52).length = 6 ∧ (L 53).length = 6 ∧ (L 54).length = 6) ∧ F 42 9 = nI t ∧ F 42 10 = nI p
theorem RS.at9 {f F : Nat → Nat → Int32} {l L : Nat → List Int32} {t p t' : Nat} {v : Int32} (h : RS f F l L t p) (hv : v = nI t') : RS f (u2 F 42 9 v) l L t' p := by
  refine ⟨fun x y hx => ?_, h.2.1, h.2.2.1, ?_, ?_⟩
  · by_cases e : x = 42
    · subst e
      rw [u2_nj (by omega)]
      exact h.1 _ y hx
    · rw [u2_ne e]
      exact h.1 x y hx
  · rw [u2_eq, hv]
  · rw [u2_nj (by decide)]
    exact h.2.2.2.2
theorem RS.at10 {f F : Nat → Nat → Int32} {l L : Nat → List Int32} {t p p' : Nat} {v : Int32} (h : RS f F l L t p) (hv : v = nI p') : RS f (u2 F 42 10 v) l L t p' := by
  refine ⟨fun x y hx => ?_, h.2.1, h.2.2.1, ?_, ?_⟩
  · by_cases e : x = 42
    · subst e
      rw [u2_nj (by omega)]
      exact h.1 _ y hx
    · rw [u2_ne e]
      exact h.1 x y hx
  · rw [u2_nj (by decide)]
    exact h.2.2.2.1
  · rw [u2_eq, hv]
theorem RS.put {f F : Nat → Nat → Int32} {l L : Nat → List Int32} {t p x : Nat} {X : List Int32} (h : RS f F l L t p) (hx : 49 ≤ x ∧ x ≤ 54) (hX : X.length = (L x).length) : RS f F l (u1 L x X) t p := by
  have hlen : ∀ y, (u1 L x X y).length = (L y).length := fun y => by
    by_cases e : y = x
    · subst e; rw [u1_eq, hX]
    · rw [u1_ne e]
  refine ⟨h.1, fun y hy => ?_, ?_, h.2.2.2⟩
  · rw [u1_ne (by omega)]
    exact h.2.1 y hy
  · rw [hlen, hlen, hlen, hlen, hlen, hlen]
    exact h.2.2.1
theorem dg_v {m : Int} {c : Int32} (hm : 0 ≤ m) (hm9 : m ≤ 9) : (0 ≤ (dv c).toInt ∧ (dv c).toInt ≤ m) ↔ dg m c = true := by
  have e48 : (48 : Int32).toInt = 48 := rfl
  unfold dv dg
  rw [decide_eq_true_iff]
  constructor
  · intro h
    have e : c - 48 + 48 = c := Int32.sub_add_cancel c 48
    have e2 : (c - 48 + 48).toInt = (c - 48).toInt + 48 := by rw [fb_addI (by rw [e48]; omega) (by rw [e48]; omega), e48]
    rw [e] at e2
    omega
  · intro h
    rw [fb_subI (by rw [e48]; omega) (by rw [e48]; omega), e48]
    omega
section WC
variable {scr : Option (List Int32)} {P : ba_P} {w : ba_W} {f : Nat → Nat → Int32} {l : Nat → List Int32} {q : List (List Int32)}
variable {F : Nat → Nat → Int32} {L : Nat → List Int32}
theorem Gb_ink {t : Nat} {c : Int32} (h1 : 1 ≤ t) (h5 : t < 5) : Gb t c = dg 9 c := by
  unfold Gb
  rw [if_neg (by omega), if_pos h5]
theorem Gb_rule {t : Nat} {c : Int32} (h1 : 5 ≤ t) (h5 : t < 17) : Gb t c = dg 3 c := by
  unfold Gb
  rw [if_neg (by omega), if_neg (by omega), if_pos h5]
theorem Gb_per {p s : Nat} {c : Int32} (hp : p < 6) (hs : s < 5) : Gb (17 + 5 * p + s) c = Gp s c := by
  unfold Gb
  rw [if_neg (by omega), if_neg (by omega), if_neg (by omega), decide_eq_true (by omega), Bool.true_and, show (17 + 5 * p + s - 17) % 5 = s by omega]
end WC
