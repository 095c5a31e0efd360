/-! night: the second war of the class -/
def nok (K O N : Nat → Int32) (I : List Int32) (p : Nat) (a : Int32) : Bool := if a = 3 then !decide (I.getD (O p).toNatClampNeg 0 = 0) else !decide ((I.getD (1 - O p).toNatClampNeg 0).toInt < (tk (K p) (N p)).toInt)
def nin (K O N : Nat → Int32) (I : List Int32) (p : Nat) (a : Int32) : List Int32 := if a = 3 then I.set (O p).toNatClampNeg (I.getD (O p).toNatClampNeg 0 - 1) else I.set (1 - O p).toNatClampNeg (I.getD (1 - O p).toNatClampNeg 0 - tk (K p) (N p))
def nmk (R M : List Int32) (p : Nat) (a : Int32) : List Int32 := M.set p (if a = 3 then 0 else rl R (M.getD p 0) a)
def ncd (M M' : List Int32) (p : Nat) (a : Int32) : Nat := if ¬ a = 3 ∧ ¬ M'.getD p 0 = M.getD p 0 then 1 else 0
def nwo (O : Nat → Int32) (n : Nat) (M : List Int32) (o : Int32) : Nat → Bool := fun p => decide (p < n) && (decide (O p = o) && wkb (M.getD p 0))
def nle (O : Nat → Int32) (n : Nat) (M : List Int32) : Nat := if c6 (nwo O n M 1) < c6 (nwo O n M 0) then 1 else 0
def mv (M : List Int32) : Prop := M.length = 6 ∧ ∀ p, p < 6 → 0 ≤ (M.getD p 0).toInt ∧ (M.getD p 0).toInt ≤ 3
def iv (I : List Int32) : Prop := I.length = 2 ∧ nv I
def kv (K O N : Nat → Int32) : Prop := ∀ p, p < 6 → (0 ≤ (K p).toInt ∧ (K p).toInt ≤ 2) ∧ (0 ≤ (O p).toInt ∧ (O p).toInt ≤ 1) ∧ (0 ≤ (N p).toInt ∧ (N p).toInt ≤ 9)
theorem iv_nin {K O N : Nat → Int32} {I : List Int32} {p : Nat} {a : Int32} (hk : kv K O N) (hp : p < 6) (hI : iv I) (ho : nok K O N I p a = true) : iv (nin K O N I p a) := by
  obtain ⟨hK, hO, hN⟩ := hk p hp
  have e1 : (1 : Int32).toInt = 1 := rfl
  have x1 := ix_i hO.1
  have x2 := ow hO.1 hO.2
  have x3 := ix_i (x := 1 - O p) (by omega)
  have t := tk_i hK hN
  unfold nin
  unfold nok at ho
  by_cases h : a = 3
  · rw [if_pos h] at ho ⊢
    have h0 := hI.2 (O p).toNatClampNeg (by omega)
    generalize I.getD (O p).toNatClampNeg 0 = v at *
    have hv : ¬ v = 0 := by simpa using ho
    rw [eq_i, zi] at hv
    have hs : (v - 1).toInt = v.toInt - 1 := by rw [fb_subI (by rw [e1]; omega) (by rw [e1]; omega), e1]
    exact ⟨by rw [List.length_set]; exact hI.1, nv_set (by omega) (by omega) hI.2⟩
  · rw [if_neg h] at ho ⊢
    have h0 := hI.2 (1 - O p).toNatClampNeg (by omega)
    generalize I.getD (1 - O p).toNatClampNeg 0 = v at *
    have hv : ¬ v.toInt < (tk (K p) (N p)).toInt := by simpa using ho
    have hs : (v - tk (K p) (N p)).toInt = v.toInt - (tk (K p) (N p)).toInt := fb_subI (by omega) (by omega)
    exact ⟨by rw [List.length_set]; exact hI.1, nv_set (by omega) (by omega) hI.2⟩
theorem mv_nmk {R M : List Int32} {p : Nat} {a : Int32} (hR : rv R) (hp : p < 6) (h0 : 0 ≤ a.toInt) (h3 : a.toInt ≤ 3) (hM : mv M) : mv (nmk R M p a) := by
  unfold nmk
  refine ⟨by rw [List.length_set]; exact hM.1, fun x hx => ?_⟩
  rw [getD_set]
  by_cases h : p = x ∧ p < M.length
  · rw [if_pos h]
    by_cases h2 : a = 3
    · rw [if_pos h2]; decide
    · rw [if_neg h2]
      have h4 : ¬ a.toInt = 3 := fun e => h2 (by rw [eq_i, e]; rfl)
      exact rl_i hR (hM.2 p hp).1 (hM.2 p hp).2 h0 (by omega)
  · rw [if_neg h]; exact hM.2 x hx
def CW (f F : Nat → Nat → Int32) (l L : Nat → List Int32) (n : Nat) (I M : List Int32) : Prop :=
  ((∀ x y, ¬ x = 15 → ¬ x = 16 → ¬ (23 ≤ x ∧ x < 29) → F x y = f x y) ∧ (∀ x, ¬ x = 17 → ¬ x = 19 → L x = l x)) ∧ (L 17 = I ∧ L 19 = l 5 ∧ F 16 3 = nI n) ∧ ∀ p, p < n → F (23 + p) 0 = f (9 + p) 0 ∧ F (23 + p) 1 = f (9 + p) 1 ∧ F (23 + p) 2 = M.getD p 0 ∧ F (23 + p) 3 = f (9 + p) 3
theorem CW.f15 {f F : Nat → Nat → Int32} {l L : Nat → List Int32} {n : Nat} {I M : List Int32} {j : Nat} {v : Int32} (h : CW f F l L n I M) : CW f (u2 F 15 j v) l L n I M := by
  refine ⟨⟨fun x y h1 h2 h3 => by rw [u2_ne h1]; exact h.1.1 x y h1 h2 h3, h.1.2⟩, ⟨h.2.1.1, h.2.1.2.1, by rw [u2_ne (by decide)]; exact h.2.1.2.2⟩, fun p hp => ?_⟩
  rw [u2_ne (by omega), u2_ne (by omega), u2_ne (by omega), u2_ne (by omega)]
  exact h.2.2 p hp
theorem CW.step {f F : Nat → Nat → Int32} {l L : Nat → List Int32} {n p : Nat} {I I' M : List Int32} {v : Int32} (h : CW f F l L n I M) (hn : n ≤ 6) (hp : p < n) (hM : M.length = 6) : CW f (u2 F (23 + p) 2 v) l (u1 L 17 I') n I' (M.set p v) := by
  refine ⟨⟨fun x y h1 h2 h3 => by rw [u2_ne (by omega)]; exact h.1.1 x y h1 h2 h3, fun x h1 h2 => by rw [u1_ne h1]; exact h.1.2 x h1 h2⟩, ⟨u1_eq, by rw [u1_ne (by decide)]; exact h.2.1.2.1, by rw [u2_ne (by omega)]; exact h.2.1.2.2⟩, fun x hx => ?_⟩
  obtain ⟨h0, h1, h2, h3⟩ := h.2.2 x hx
  by_cases e : x = p
  · subst e
    rw [u2_nj (y := 0) (by decide), u2_nj (y := 1) (by decide), u2_nj (y := 3) (by decide), u2_eq, getD_set, if_pos ⟨rfl, by omega⟩]
    exact ⟨h0, h1, rfl, h3⟩
  · rw [u2_ne (by omega), u2_ne (by omega), u2_ne (by omega), u2_ne (by omega), getD_set, if_neg (fun g => e g.1.symm)]
    exact ⟨h0, h1, h2, h3⟩
theorem CW.pvm {f F : Nat → Nat → Int32} {l L : Nat → List Int32} {n p : Nat} {I M : List Int32} (h : CW f F l L n I M) (hn : n ≤ 6) (hp : p < n) (hk : kv (fun p => f (9 + p) 0) (fun p => f (9 + p) 1) (fun p => f (9 + p) 3)) (hM : mv M) : pv (F (23 + p)) := by
  obtain ⟨h0, h1, h2, h3⟩ := h.2.2 p hp
  obtain ⟨k0, k1, k3⟩ := hk p (by omega)
  unfold pv
  rw [h0, h1, h2, h3]
  exact ⟨k0, k1, hM.2 p (by omega), k3⟩
section NI
variable {scr : Option (List Int32)} {P : ba_P} {w : ba_W} {f : Nat → Nat → Int32} {l : Nat → List Int32} {q : Nat → List Int64}
variable {F : Nat → Nat → Int32} {L : Nat → List Int32}
theorem s_becomes16 {p : Nat} (hp : p < 6) (hP : ∀ F : Nat → Nat → Int32, (∀ x y, ¬ x = 23 + p → F x y = f x y) → (F (23 + p) 0 = f (9 + p) 0 ∧ F (23 + p) 1 = f (9 + p) 1 ∧ F (23 + p) 2 = f (9 + p) 2 ∧ F (23 + p) 3 = f (9 + p) 3) → P none (wW F l q)) : ba_go scr ix_X2_becomes 0 [some (.ref (23 + p + 1)), some (.ref (9 + p + 1))] [] (wW f l q) 0 0 P := by
  refine run_X2_becomes 40 ?_
  refine Exists.intro _ (And.intro (fld_of (people_at (f := f) hp) rfl) ?_)
  refine Exists.intro _ (And.intro (after_set (f := f) hp (by decide)) ?_)
  obtain ⟨F1, h1⟩ : ∃ F1, F1 = u2 f (23 + p) 0 (f (9 + p) 0) := ⟨_, rfl⟩
  rw [← h1]
  refine Exists.intro _ (And.intro (fld_of (people_at (f := F1) hp) rfl) ?_)
  refine Exists.intro _ (And.intro (after_set (f := F1) hp (by decide)) ?_)
  obtain ⟨F2, h2⟩ : ∃ F2, F2 = u2 F1 (23 + p) 1 (F1 (9 + p) 1) := ⟨_, rfl⟩
  rw [← h2]
  refine Exists.intro _ (And.intro (fld_of (people_at (f := F2) hp) rfl) ?_)
  refine Exists.intro _ (And.intro (after_set (f := F2) hp (by decide)) ?_)
  obtain ⟨F3, h3⟩ : ∃ F3, F3 = u2 F2 (23 + p) 2 (F2 (9 + p) 2) := ⟨_, rfl⟩
  rw [← h3]
  refine Exists.intro _ (And.intro (fld_of (people_at (f := F3) hp) rfl) ?_)
  refine Exists.intro _ (And.intro (after_set (f := F3) hp (by decide)) ?_)
  have g1 : ∀ x y, ¬ x = 23 + p → F1 x y = f x y := fun x y hx => by rw [h1, u2_ne hx]
  have g2 : ∀ x y, ¬ x = 23 + p → F2 x y = f x y := fun x y hx => by rw [h2, u2_ne hx, g1 x y hx]
  have g3 : ∀ x y, ¬ x = 23 + p → F3 x y = f x y := fun x y hx => by rw [h3, u2_ne hx, g2 x y hx]
  refine hP _ (fun x y hx => by rw [u2_ne hx, g3 x y hx]) ⟨?_, ?_, ?_, ?_⟩
  · rw [u2_nj (by decide), h3, u2_nj (by decide), h2, u2_nj (by decide), h1, u2_eq]
  · rw [u2_nj (by decide), h3, u2_nj (by decide), h2, u2_eq, g1 _ _ (by omega)]
  · rw [u2_nj (by decide), h3, u2_eq, g2 _ _ (by omega)]
  · rw [u2_eq, g3 _ _ (by omega)]
theorem cpy_all {A B : List Int32} {n : Nat} (ha : A.length = n) (hb : B.length = n) : ba_cpy A B 0 0 n = A := by
  unfold ba_cpy
  rw [List.take_zero, List.nil_append, List.drop_zero, Nat.zero_add, List.take_of_length_le (by omega), List.drop_eq_nil_of_le (by omega), List.append_nil]
theorem s_wbec {n : Nat} (hn : n ≤ 6) (hc : f 2 3 = nI n) (h3 : (l 3).length = 2) (h5 : (l 5).length = 12) (h17 : (l 17).length = 2) (h19 : (l 19).length = 12) (hm : ∀ p, p < 6 → (l 47).getD p 0 = f (9 + p) 2) (hP : ∀ F L, CW f F l L n (l 3) (l 47) → P none (wW F L q)) : ba_go scr ix_X7_becomes 0 [some (.ref 17), some (.ref 3), none] [] (wW f l q) 0 0 P := by
  have c1 : ba_copy (wW f l q) 4 0 18 0 2 = some (wW f (u1 l 17 (l 3)) q) := by
    show (if _ then some ((wW f l q).set 17 (.inl (.int, .inl (ba_cpy (l 3) (l 17) 0 0 2)))) else none) = _
    rw [cpy_all h3 h17, if_pos (by rw [h3, h17]; decide)]
    rfl
  have c2 : ba_copy (wW f (u1 l 17 (l 3)) q) 6 0 20 0 12 = some (wW f (u1 (u1 l 17 (l 3)) 19 (l 5)) q) := by
    show (if _ then some ((wW f (u1 l 17 (l 3)) q).set 19 (.inl (.int, .inl (ba_cpy (l 5) (l 19) 0 0 12)))) else none) = _
    rw [cpy_all h5 h19, if_pos (by show _ ∧ _ ∧ _ ∧ _ ≤ (l 5).length ∧ _ ≤ (l 19).length; rw [h5, h19]; decide)]
    rfl
  have el : ∀ xs, ba_len xs (wW f (u1 l 17 (l 3)) q) 20 = some 12 := fun xs => by
    show some (Int32.ofNat (l 19).length) = some 12
    rw [h19]
    rfl
  have loop : ∀ (m i : Nat) (x : Int32) (F : Nat → Nat → Int32), i + m = n → x = nI i → (∀ x y, ¬ x = 16 → ¬ (23 ≤ x ∧ x < 29) → F x y = f x y) → F 16 3 = nI n → (∀ p, p < i → F (23 + p) 0 = f (9 + p) 0 ∧ F (23 + p) 1 = f (9 + p) 1 ∧ F (23 + p) 2 = f (9 + p) 2 ∧ F (23 + p) 3 = f (9 + p) 3) → ba_go scr ix_X7_becomes 35 [some (.ref 17), some (.ref 3), some (.int x)] [] (wW F (u1 (u1 l 17 (l 3)) 19 (l 5)) q) 0 0 P := by
    intro m
    induction m with
    | zero =>
      intro i x F h1 h2 g1 g2 g3
      subst h2
      have h4 : i = n := by omega
      subst h4
      refine run_X7_becomes 6 ?_
      refine Exists.intro _ (And.intro (rfl) ?_)
      rw [g2]
      refine And.intro (fun _ => ?_) (fun e => absurd (by show nI i ≤ nI i; rw [le_i]; omega) e)
      refine hP F _ ⟨⟨fun x y a b c => g1 x y b c, fun x a b => by rw [u1_ne b, u1_ne a]⟩, ⟨by rw [u1_ne (by decide), u1_eq], u1_eq, g2⟩, fun p hp => ?_⟩
      rw [hm p (by omega)]
      exact g3 p hp
    | succ m ih =>
      intro i x F h1 h2 g1 g2 g3
      subst h2
      refine run_X7_becomes 15 ?_
      refine Exists.intro _ (And.intro (rfl) ?_)
      rw [g2]
      refine And.intro (fun e => absurd e (by show ¬ nI n ≤ nI i; rw [le_i, nI_toInt (by omega), nI_toInt (by omega)]; omega)) (fun _ => ?_)
      refine Exists.intro _ (And.intro (rfl) ?_)
      refine Exists.intro _ (And.intro (ps_ldn (b := 16) (Or.inr rfl) (by omega)) ?_)
      refine Exists.intro _ (And.intro (rfl) ?_)
      refine Exists.intro _ (And.intro (ps_ldn (b := 2) (Or.inl rfl) (by omega)) ?_)
      have hat := after_at (f := F) (l := u1 (u1 l 17 (l 3)) 19 (l 5)) (q := q) (show i < 6 by omega)
      refine And.intro (ck rfl rfl rfl rfl (isC_of hat)) (s_becomes16 (f := F) (by omega) (fun F2 k1 k2 => ?_))
      refine ih (i + 1) _ F2 (by omega) (nI_1 i) (fun x y a b => by rw [k1 _ _ (by omega)]; exact g1 x y a b) (by rw [k1 _ _ (by omega)]; exact g2) (fun p hp => ?_)
      by_cases e : p = i
      · subst e
        rw [g1 (9 + p) 0 (by omega) (by omega), g1 (9 + p) 1 (by omega) (by omega), g1 (9 + p) 2 (by omega) (by omega), g1 (9 + p) 3 (by omega) (by omega)] at k2
        exact k2
      · rw [k1 _ _ (by omega), k1 _ _ (by omega), k1 _ _ (by omega), k1 _ _ (by omega)]
        exact g3 p (by omega)
  refine run_X7_becomes 19 ?_
  refine Exists.intro _ (And.intro (rfl) ?_)
  refine Exists.intro _ (And.intro (rfl) ?_)
  refine Exists.intro _ (And.intro (c1) ?_)
  refine Exists.intro _ (And.intro (rfl) ?_)
  refine Exists.intro _ (And.intro (rfl) ?_)
  refine And.intro rfl (run_X4_becomes 20 ?_)
  refine Exists.intro _ (And.intro (rfl) ?_)
  refine Exists.intro _ (And.intro (rfl) ?_)
  refine Exists.intro _ (And.intro (rfl) ?_)
  refine Exists.intro _ (And.intro (el _) ?_)
  refine Exists.intro _ (And.intro (c2) ?_)
  refine Exists.intro _ (And.intro (rfl) ?_)
  refine Exists.intro (wW (u2 f 16 3 (f 2 3)) (u1 (u1 l 17 (l 3)) 19 (l 5)) q) (And.intro rfl ?_)
  exact loop n 0 0 _ (by omega) rfl (fun x y a b => u2_ne a) (by rw [u2_eq]; exact hc) (fun p hp => absurd hp (by omega))
end NI
