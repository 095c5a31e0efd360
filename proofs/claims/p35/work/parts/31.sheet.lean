/-! sheet -/
section SE
variable {scr : Option (List Int32)} {P : ba_P} {w : ba_W} {f : Nat → Nat → Int32} {l : Nat → List Int32} {q : List (List Int32)}
theorem u1_u1 {α : Type} {L : Nat → α} {i : Nat} {a b : α} : u1 (u1 L i a) i b = u1 L i b := by
  funext x
  unfold u1
  cases Nat.beq x i <;> rfl
theorem s_fill {k : Nat} (hk : k < 4) {v : Int32} (hl : (l (34 + 2 * k + 1)).length = 60) (hP : ∀ C : List Int32, C.length = 60 → (∀ j, j < 60 → C.getD j 0 = v) → P none (wW f (u1 l (34 + 2 * k + 1) C) q)) : ba_go scr ix_J7_fill_53178 0 [some (.ref (34 + 2 * k + 2)), some (.int v), none, none] [] (wW f l q) 0 0 P := by
  have loop : ∀ (m i : Nat) (C : List Int32) (x : Int32), i + m = 60 → C.length = 60 → (∀ j, j < i → C.getD j 0 = v) → x = nI i → ba_go scr ix_J7_fill_53178 5 [some (.ref (34 + 2 * k + 2)), some (.int v), some (.int x), some (.int 60)] [] (wW f (u1 l (34 + 2 * k + 1) C) q) 0 0 P := by
    intro m
    induction m with
    | zero =>
      intro i C x h1 h2 h3 h4
      subst h4
      refine run_J7_fill_53178 5 ?_
      refine And.intro (fun c => ?_) (fun c => ?_)
      · exact hP C h2 (fun j hj => h3 j (by omega))
      · exfalso
        have c : ¬ (60 : Int32) ≤ nI i := c
        rw [le_i, nI_toInt (by omega), show (60 : Int32).toInt = 60 from rfl] at c
        omega
    | succ m ih =>
      intro i C x h1 h2 h3 h4
      subst h4
      refine run_J7_fill_53178 9 ?_
      refine And.intro (fun c => ?_) (fun c => ?_)
      · exfalso
        have c : (60 : Int32) ≤ nI i := c
        rw [le_i, nI_toInt (by omega), show (60 : Int32).toInt = 60 from rfl] at c
        omega
      · have e : ba_stI (wW f (u1 l (34 + 2 * k + 1) C) q) (34 + 2 * k + 2) (nI i) v = some (wW f (u1 l (34 + 2 * k + 1) (C.set i v)) q) := by
          rw [stI_of (l := C) (by rw [(sh_fld hk).2.2.2.1, u1_eq]) (by rw [nI_toInt (by omega)]; omega) (by rw [nI_toInt (by omega), h2]; omega), nI_clamp (by omega), sh_cells hk, u1_u1]
        refine Exists.intro _ (And.intro (e) ?_)
        refine ih (i + 1) (C.set i v) _ (by omega) (by rw [List.length_set]; exact h2) (fun j hj => ?_) (nI_1 i)
        rw [getD_set]
        split
        · rfl
        · next h => exact h3 j (by have : ¬ i = j := fun e => h ⟨e, by omega⟩; omega)
  have elen : ∀ xs, ba_len xs (wW f l q) (34 + 2 * k + 2) = some 60 := by
    intro xs
    unfold ba_len
    simp only [(sh_fld hk).2.2.2.1, hl]
    rfl
  refine run_J7_fill_53178 5 ?_
  refine Exists.intro _ (And.intro (elen _) ?_)
  have h := loop 60 0 (l (34 + 2 * k + 1)) 0 rfl hl (fun j hj => absurd hj (by omega)) rfl
  rw [u1_self] at h
  exact h
theorem s_begins {k : Nat} (hk : k < 4) {a n : Int32} (hl : (l (34 + 2 * k + 1)).length = 60) (hP : ∀ C : List Int32, C.length = 60 → (∀ j, j < 60 → C.getD j 0 = 0) → P none (wW (u2 (u2 f (34 + 2 * k) 1 a) (34 + 2 * k) 2 n) (u1 l (34 + 2 * k + 1) C) q)) : ba_go scr ix_X5_begins 0 [some (.ref (34 + 2 * k + 1)), some (.int a), some (.int n)] [] (wW f l q) 0 0 P := by
  refine run_X5_begins 30 ?_
  refine Exists.intro _ (And.intro ((sh_fld hk).1) ?_)
  refine And.intro rfl (s_fill hk hl (fun C h1 h2 => ?_))
  refine Exists.intro _ (And.intro ((sh_set hk).1) ?_)
  refine Exists.intro _ (And.intro ((sh_set hk).2) ?_)
  exact hP C h1 h2
end SE
