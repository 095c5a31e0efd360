/-! raid (2): the reference -/
theorem ds_or {W V : Nat → Bool} : ds (fun k => W k || V k) = min (ds W) (ds V) :=
  (by decide +kernel : ∀ a b c d a' b' c' d' : Bool, (if (a || a') = true then 0 else if (b || b') = true then 1 else if (c || c') = true then 2 else if (d || d') = true then 3 else 4) = min (if a = true then 0 else if b = true then 1 else if c = true then 2 else if d = true then 3 else 4) (if a' = true then 0 else if b' = true then 1 else if c' = true then 2 else if d' = true then 3 else 4)) (W 0) (W 1) (W 2) (W 3) (V 0) (V 1) (V 2) (V 3)
theorem Wt_or {g : Nat → Nat → Nat} {T U : Nat → Bool} : ∀ (k m : Nat), Wt g (fun x => T x || U x) k m = (Wt g T k m || Wt g U k m)
  | 0, _ => rfl
  | k + 1, m => by
    show (Wt g (fun x => T x || U x) k (g 0 m) || (Wt g (fun x => T x || U x) k (g 1 m) || Wt g (fun x => T x || U x) k (g 2 m))) = ((Wt g T k (g 0 m) || (Wt g T k (g 1 m) || Wt g T k (g 2 m))) || (Wt g U k (g 0 m) || (Wt g U k (g 1 m) || Wt g U k (g 2 m))))
    rw [Wt_or k, Wt_or k, Wt_or k]
    cases Wt g T k (g 0 m) <;> cases Wt g T k (g 1 m) <;> cases Wt g T k (g 2 m) <;> cases Wt g U k (g 0 m) <;> cases Wt g U k (g 1 m) <;> cases Wt g U k (g 2 m) <;> rfl
theorem Ds_RT {g : Nat → Nat → Nat} {m : Nat} : Ds g RT m = min (Ds g (fun x => decide (x = 1)) m) (Ds g (fun x => decide (x = 3)) m) := by
  show ds (fun k => Wt g (fun x => decide (x = 1) || decide (x = 3)) k m) = _
  rw [show (fun k => Wt g (fun x => decide (x = 1) || decide (x = 3)) k m) = (fun k => Wt g (fun x => decide (x = 1)) k m || Wt g (fun x => decide (x = 3)) k m) from funext fun k => Wt_or k m]
  exact ds_or
def ab (D : Nat → Nat) (Y : Nat → Bool) : Nat → Bool
  | 0 => true
  | i + 1 => ab D Y i && (!Y i || decide (D i ≤ 3))
theorem ab_iff {D : Nat → Nat} {Y : Nat → Bool} : ∀ {n : Nat}, ab D Y n = true ↔ ∀ x, x < n → Y x = true → D x ≤ 3
  | 0 => ⟨fun _ x hx => absurd hx (by omega), fun _ => rfl⟩
  | n + 1 => by
    show (ab D Y n && (!Y n || decide (D n ≤ 3))) = true ↔ _
    rw [Bool.and_eq_true, ab_iff, Bool.or_eq_true, decide_eq_true_iff]
    constructor
    · rintro ⟨h1, h2⟩ x hx hY
      by_cases e : x = n
      · subst e
        rcases h2 with h2 | h2
        · rw [hY] at h2; exact (nomatch h2)
        · exact h2
      · exact h1 x (by omega) hY
    · intro h
      refine ⟨fun x hx => h x (by omega), ?_⟩
      cases hY : Y n with
      | true => exact Or.inr (h n (by omega) hY)
      | false => exact Or.inl rfl
section RE
variable {scr : Option (List Int32)} {P : ba_P} {w : ba_W} {f : Nat → Nat → Int32} {l : Nat → List Int32} {q : List (List Int32)}
end RE
