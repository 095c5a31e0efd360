/-! fits -/
def fbd (g : Nat → Nat → Nat) (d : Nat → Nat) (s : Nat) : Nat → Bool
  | 0 => true
  | m + 1 => fbd g d s m && decide (g s (d m) = d (m + 1))
theorem orS3 (g : Nat → Bool) : orS g 3 = B6 (fun s => decide (s < 3) && g s) := by
  show ((0 ||| (if g 0 then (1 : Int32) <<< (nI 0 &&& 31) else 0)) ||| (if g 1 then (1 : Int32) <<< (nI 1 &&& 31) else 0)) ||| (if g 2 then (1 : Int32) <<< (nI 2 &&& 31) else 0) = b6 (decide (0 < 3) && g 0) (decide (1 < 3) && g 1) (decide (2 < 3) && g 2) (decide (3 < 3) && g 3) (decide (4 < 3) && g 4) (decide (5 < 3) && g 5)
  cases g 0 <;> cases g 1 <;> cases g 2 <;> cases g 3 <;> cases g 4 <;> cases g 5 <;> decide +kernel
theorem B6_7 (g : Nat → Bool) : B6 g &&& 7 = B6 (fun x => g x && decide (x < 3)) := (by decide +kernel : ∀ a b c d e h : Bool, b6 a b c d e h &&& 7 = b6 (a && true) (b && true) (c && true) (d && false) (e && false) (h && false)) (g 0) (g 1) (g 2) (g 3) (g 4) (g 5)
section FT
variable {scr : Option (List Int32)} {P : ba_P} {w : ba_W} {f : Nat → Nat → Int32} {l : Nat → List Int32} {q : List (List Int32)}
theorem s_atn {k t : Nat} {x : Int32} (hk : k < 4) (hl : (l (34 + 2 * k + 1)).length = 60) (hx : x = nI t) (ht : t < 60) (hP : P (some (.int ((l (34 + 2 * k + 1)).getD t 0))) (wW f l q)) : ba_go scr ix_X5_at 0 [some (.ref (34 + 2 * k + 1)), some (.int x)] [] (wW f l q) 0 0 P := by
  subst hx
  refine s_at hk hl (by rw [nI_toInt (by omega)]; omega) (by rw [nI_toInt (by omega)]; omega) ?_
  rw [nI_clamp (by omega)]
  exact hP
end FT
