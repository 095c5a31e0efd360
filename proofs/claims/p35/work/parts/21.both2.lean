/-! method by method: the class's answer is the reference's (2): people -/
theorem ba_sw_mk {x : Int} {k : Nat → Prop} : ∀ (l : List Nat) (lo : Int), (∀ (j t : Nat), l[j]? = some t → x = lo + j → k t) → ba_sw x k lo l
  | [], _, _ => trivial
  | t :: l, lo, h => ⟨fun e => h 0 t rfl (by omega), ba_sw_mk l (lo + 1) (fun j t' ht he => h (j + 1) t' ht (by omega))⟩
section B2
variable {scr : Option (List Int32)} {P : ba_P} {w : ba_W} {f : Nat → Nat → Int32} {l : Nat → List Int32} {q : List (List Int32)}
theorem nv_set {L : List Int32} {i : Nat} {v : Int32} (h0 : 0 ≤ v.toInt) (h9 : v.toInt ≤ 99) (h : nv L) : nv (L.set i v) := by
  intro j hj
  rw [getD_set]
  split
  · exact ⟨h0, h9⟩
  · exact h j hj
theorem rv_set {L : List Int32} {i : Nat} {v : Int32} (h0 : 0 ≤ v.toInt) (h9 : v.toInt ≤ 3) (h : rv L) : rv (L.set i v) := by
  intro j hj
  rw [getD_set]
  split
  · exact ⟨h0, h9⟩
  · exact h j hj
end B2
