/-! war -/
section WF
variable {scr : Option (List Int32)} {P : ba_P} {w : ba_W} {f : Nat → Nat → Int32} {l : Nat → List Int32} {q : List (List Int32)}
variable {F : Nat → Nat → Int32} {L : Nat → List Int32}
theorem RS.fault {t p : Nat} {v : Int32} (h : RS f F l L t p) : RS (u2 f 42 0 v) (u2 F 42 0 v) l L t p :=
  ⟨fun x y hx => u2_congr (h.1 x y hx), h.2.1, h.2.2.1, by rw [u2_nj (by decide)]; exact h.2.2.2.1, by rw [u2_nj (by decide)]; exact h.2.2.2.2⟩
end WF
