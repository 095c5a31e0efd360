/-! numbers (from kit/laws/COUNTS.to-paste), the cells, the small methods -/
theorem fb_rng (x : Int32) : -2147483648 ≤ x.toInt ∧ x.toInt < 2147483648 := by
  have h1 := Int32.le_toInt x
  have h2 := Int32.toInt_lt x
  omega
theorem fb_bmod {z : Int} (h1 : -2147483648 ≤ z) (h2 : z < 2147483648) : z.bmod (2 ^ 32) = z := by
  rw [Int.bmod_eq_of_le (by omega) (by omega)]
theorem fb_addI {x y : Int32} (h1 : -2147483648 ≤ x.toInt + y.toInt) (h2 : x.toInt + y.toInt < 2147483648) : (x + y).toInt = x.toInt + y.toInt := by
  rw [Int32.toInt_add, fb_bmod h1 h2]
theorem fb_subI {x y : Int32} (h1 : -2147483648 ≤ x.toInt - y.toInt) (h2 : x.toInt - y.toInt < 2147483648) : (x - y).toInt = x.toInt - y.toInt := by
  rw [Int32.toInt_sub, fb_bmod h1 h2]
theorem fb_mulI {x y : Int32} (h1 : -2147483648 ≤ x.toInt * y.toInt) (h2 : x.toInt * y.toInt < 2147483648) : (x * y).toInt = x.toInt * y.toInt := by
  rw [Int32.toInt_mul, fb_bmod h1 h2]
theorem fb_negI {x : Int32} (h : x.toInt ≠ -2147483648) : (-x).toInt = -x.toInt := by
  have := fb_rng x
  rw [Int32.toInt_neg, fb_bmod (by omega) (by omega)]
theorem fb_ofI {z : Int} (h1 : -2147483648 ≤ z) (h2 : z < 2147483648) : (Int32.ofInt z).toInt = z := by
  rw [Int32.toInt_ofInt, fb_bmod h1 h2]
theorem fb_asI (x : Int32) : Int32.ofInt x.toInt = x := Int32.ofInt_toInt x
theorem fb_rngL (x : Int64) : -9223372036854775808 ≤ x.toInt ∧ x.toInt < 9223372036854775808 := by
  have h1 := Int64.le_toInt x
  have h2 := Int64.toInt_lt x
  omega
theorem fb_bmodL {z : Int} (h1 : -9223372036854775808 ≤ z) (h2 : z < 9223372036854775808) : z.bmod (2 ^ 64) = z := by
  rw [Int.bmod_eq_of_le (by omega) (by omega)]
theorem fb_addL {x y : Int64} (h1 : -9223372036854775808 ≤ x.toInt + y.toInt) (h2 : x.toInt + y.toInt < 9223372036854775808) : (x + y).toInt = x.toInt + y.toInt := by
  rw [Int64.toInt_add, fb_bmodL h1 h2]
theorem fb_subL {x y : Int64} (h1 : -9223372036854775808 ≤ x.toInt - y.toInt) (h2 : x.toInt - y.toInt < 9223372036854775808) : (x - y).toInt = x.toInt - y.toInt := by
  rw [Int64.toInt_sub, fb_bmodL h1 h2]
theorem fb_mulL {x y : Int64} (h1 : -9223372036854775808 ≤ x.toInt * y.toInt) (h2 : x.toInt * y.toInt < 9223372036854775808) : (x * y).toInt = x.toInt * y.toInt := by
  rw [Int64.toInt_mul, fb_bmodL h1 h2]
/-! ===== cuts of what is narrow already ===== -/
theorem fb_byte {x : Int32} (h1 : -128 ≤ x.toInt) (h2 : x.toInt < 128) : x.toInt8.toInt32 = x := by
  apply Int32.toInt_inj.1
  rw [Int8.toInt_toInt32, Int32.toInt_toInt8, Int.bmod_eq_of_le (by omega) (by omega)]
theorem fb_short {x : Int32} (h1 : -32768 ≤ x.toInt) (h2 : x.toInt < 32768) : x.toInt16.toInt32 = x := by
  apply Int32.toInt_inj.1
  rw [Int16.toInt_toInt32, Int32.toInt_toInt16, Int.bmod_eq_of_le (by omega) (by omega)]
theorem fb_byte_rng (x : Int32) : -128 ≤ x.toInt8.toInt32.toInt ∧ x.toInt8.toInt32.toInt < 128 := by
  rw [Int8.toInt_toInt32]
  have h1 := Int8.le_toInt x.toInt8
  have h2 := Int8.toInt_lt x.toInt8
  omega
theorem lt_i {x y : Int32} : x < y ↔ x.toInt < y.toInt := Int32.lt_iff_toInt_lt
theorem le_i {x y : Int32} : x ≤ y ↔ x.toInt ≤ y.toInt := Int32.le_iff_toInt_le
theorem eq_i {x y : Int32} : x = y ↔ x.toInt = y.toInt := Int32.toInt_inj.symm
theorem ix_i {x : Int32} (h : 0 ≤ x.toInt) : (x.toNatClampNeg : Int) = x.toInt := by
  rw [Int32.toNatClampNeg]
  exact Int.toNat_of_nonneg h
theorem at_of {α : Type} {l : List α} {i : Int32} {d : α} (h0 : 0 ≤ i.toInt) (h : i.toInt < l.length) : ba_at l i = some (l.getD i.toNatClampNeg d) := by
  have := ix_i h0
  unfold ba_at
  rw [if_neg (by rw [lt_i]; show ¬ i.toInt < (0 : Int32).toInt; rw [show (0 : Int32).toInt = 0 from rfl]; omega)]
  rw [List.getD_eq_getElem?_getD, List.getElem?_eq_getElem (by omega)]
  rfl
theorem up_of {α : Type} {l : List α} {i : Int32} {x : α} (h0 : 0 ≤ i.toInt) (h : i.toInt < l.length) : ba_up l i x = some (l.set i.toNatClampNeg x) := by
  have := ix_i h0
  unfold ba_up
  rw [if_neg (by rw [lt_i]; show ¬ i.toInt < (0 : Int32).toInt; rw [show (0 : Int32).toInt = 0 from rfl]; omega), if_pos (by omega)]
theorem ldI_of {xs : Option (List Int32)} {w : ba_W} {j : Nat} {l : List Int32} {i : Int32} (hw : w[j]? = some (.inl (.int, .inl l))) (h0 : 0 ≤ i.toInt) (h : i.toInt < l.length) : ba_ldI xs w (j + 1) i = some (l.getD i.toNatClampNeg 0) := by
  unfold ba_ldI
  simp only [hw]
  exact at_of h0 h
theorem stI_of {w : ba_W} {j : Nat} {l : List Int32} {i x : Int32} (hw : w[j]? = some (.inl (.int, .inl l))) (h0 : 0 ≤ i.toInt) (h : i.toInt < l.length) : ba_stI w (j + 1) i x = some (w.set j (.inl (.int, .inl (l.set i.toNatClampNeg x)))) := by
  unfold ba_stI
  simp only [hw]
  rw [up_of h0 h]
  rfl
theorem fld_of {w : ba_W} {j ci k : Nat} {fs : List Value} {v : Value} (hw : w[j]? = some (.inr (ci, fs))) (hv : fs[k]? = some v) : ba_fld w (j + 1) ci k = some v := by
  unfold ba_fld
  simp only [hw, if_true]
  exact hv
theorem people_at {f : Nat → Nat → Int32} {l : Nat → List Int32} {q : List (List Int32)} {p : Nat} (hp : p < 6) : (wW f l q)[9 + p]? = some (.inr (2, [.int (f (9 + p) 0), .int (f (9 + p) 1), .int (f (9 + p) 2), .int (f (9 + p) 3)])) := by
  match p, hp with
  | 0, _ => rfl
  | 1, _ => rfl
  | 2, _ => rfl
  | 3, _ => rfl
  | 4, _ => rfl
  | 5, _ => rfl
theorem after_at {f : Nat → Nat → Int32} {l : Nat → List Int32} {q : List (List Int32)} {p : Nat} (hp : p < 6) : (wW f l q)[23 + p]? = some (.inr (2, [.int (f (23 + p) 0), .int (f (23 + p) 1), .int (f (23 + p) 2), .int (f (23 + p) 3)])) := by
  match p, hp with
  | 0, _ => rfl
  | 1, _ => rfl
  | 2, _ => rfl
  | 3, _ => rfl
  | 4, _ => rfl
  | 5, _ => rfl
theorem people_set {f : Nat → Nat → Int32} {l : Nat → List Int32} {q : List (List Int32)} {p j : Nat} {v : Int32} (hp : p < 6) (hj : j < 4) : ba_setF .int (wW f l q) (9 + p + 1) 2 j (.int v) = some (wW (u2 f (9 + p) j v) l q) := by
  match p, hp, j, hj with
  | 0, _, 0, _ => rfl
  | 0, _, 1, _ => rfl
  | 0, _, 2, _ => rfl
  | 0, _, 3, _ => rfl
  | 1, _, 0, _ => rfl
  | 1, _, 1, _ => rfl
  | 1, _, 2, _ => rfl
  | 1, _, 3, _ => rfl
  | 2, _, 0, _ => rfl
  | 2, _, 1, _ => rfl
  | 2, _, 2, _ => rfl
  | 2, _, 3, _ => rfl
  | 3, _, 0, _ => rfl
  | 3, _, 1, _ => rfl
  | 3, _, 2, _ => rfl
  | 3, _, 3, _ => rfl
  | 4, _, 0, _ => rfl
  | 4, _, 1, _ => rfl
  | 4, _, 2, _ => rfl
  | 4, _, 3, _ => rfl
  | 5, _, 0, _ => rfl
  | 5, _, 1, _ => rfl
  | 5, _, 2, _ => rfl
  | 5, _, 3, _ => rfl
theorem after_set {f : Nat → Nat → Int32} {l : Nat → List Int32} {q : List (List Int32)} {p j : Nat} {v : Int32} (hp : p < 6) (hj : j < 4) : ba_setF .int (wW f l q) (23 + p + 1) 2 j (.int v) = some (wW (u2 f (23 + p) j v) l q) := by
  match p, hp, j, hj with
  | 0, _, 0, _ => rfl
  | 0, _, 1, _ => rfl
  | 0, _, 2, _ => rfl
  | 0, _, 3, _ => rfl
  | 1, _, 0, _ => rfl
  | 1, _, 1, _ => rfl
  | 1, _, 2, _ => rfl
  | 1, _, 3, _ => rfl
  | 2, _, 0, _ => rfl
  | 2, _, 1, _ => rfl
  | 2, _, 2, _ => rfl
  | 2, _, 3, _ => rfl
  | 3, _, 0, _ => rfl
  | 3, _, 1, _ => rfl
  | 3, _, 2, _ => rfl
  | 3, _, 3, _ => rfl
  | 4, _, 0, _ => rfl
  | 4, _, 1, _ => rfl
  | 4, _, 2, _ => rfl
  | 4, _, 3, _ => rfl
  | 5, _, 0, _ => rfl
  | 5, _, 1, _ => rfl
  | 5, _, 2, _ => rfl
  | 5, _, 3, _ => rfl
section SM
variable {scr : Option (List Int32)} {P : ba_P} {w : ba_W}
theorem s_below {v bd : Int32} {bi : Int} (hb : bd.toInt = bi) (h1 : 0 ≤ v.toInt → v.toInt < bi → P (some (.int 1)) w) (h0 : ¬ (0 ≤ v.toInt ∧ v.toInt < bi) → P (some (.int 0)) w) : ba_go scr ix_X8_below 0 [some (.int v), some (.int bd)] [] w 0 0 P := by
  subst hb
  have z : (Int32.ofInt 0).toInt = 0 := rfl
  refine run_X8_below 20 ?_
  refine And.intro (fun c => ?_) (fun c => ?_)
  · simp only [lt_i, z] at c
    exact And.intro rfl (h0 (by omega))
  · simp only [lt_i, z] at c
    refine And.intro (fun d => ?_) (fun d => ?_)
    · simp only [le_i] at d
      exact And.intro rfl (h0 (by omega))
    · simp only [le_i] at d
      exact And.intro rfl (h1 (by omega) (by omega))
theorem s_within {v lo hi : Int32} {a b : Int} (ha : lo.toInt = a) (hb : hi.toInt = b) (h1 : a ≤ v.toInt → v.toInt ≤ b → P (some (.int 1)) w) (h0 : ¬ (a ≤ v.toInt ∧ v.toInt ≤ b) → P (some (.int 0)) w) : ba_go scr ix_X8_within 0 [some (.int v), some (.int lo), some (.int hi)] [] w 0 0 P := by
  subst ha; subst hb
  refine run_X8_within 20 ?_
  refine And.intro (fun c => ?_) (fun c => ?_)
  · simp only [lt_i] at c
    exact And.intro rfl (h0 (by omega))
  · simp only [lt_i] at c
    refine And.intro (fun d => ?_) (fun d => ?_)
    · simp only [lt_i] at d
      exact And.intro rfl (h0 (by omega))
    · simp only [lt_i] at d
      exact And.intro rfl (h1 (by omega) (by omega))
end SM
