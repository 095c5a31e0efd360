/-! copy -/
section CO
variable {scr : Option (List Int32)} {P : ba_P} {w : ba_W} {f : Nat → Nat → Int32} {l : Nat → List Int32} {q : Nat → List Int64}
theorem ix60b {k i x : Int32} (h1 : 0 ≤ k.toInt) (h2 : k.toInt ≤ 3) (h3 : 0 ≤ i.toInt) (h5 : 0 ≤ x.toInt) (h4 : i.toInt + x.toInt < 60) : (60 * k + i + x).toInt = 60 * k.toInt + i.toInt + x.toInt ∧ (60 * k + i + x).toNatClampNeg = 60 * k.toNatClampNeg + i.toNatClampNeg + x.toNatClampNeg := by
  have e := ix60 h1 h2 h3 (by omega)
  have e2 : (60 * k + i + x).toInt = 60 * k.toInt + i.toInt + x.toInt := by rw [fb_addI (by rw [e.1]; omega) (by rw [e.1]; omega), e.1]
  refine ⟨e2, ?_⟩
  have := ix_i h1
  have := ix_i h3
  have := ix_i h5
  have := ix_i (x := 60 * k + i + x) (by omega)
  omega
theorem r_copy2 {k o i j n : Int32} (hk : 0 ≤ k.toInt) (hk2 : k.toInt ≤ 3) (ho : 0 ≤ o.toInt) (ho2 : o.toInt ≤ 3) (hi : 0 ≤ i.toInt) (hj : 0 ≤ j.toInt) (hn : 0 ≤ n.toInt) (hin : i.toInt + n.toInt ≤ 60) (hjn : j.toInt + n.toInt ≤ 60) {L64 : List Int32} {H : List Int32} (hH : H.length = 60) (hH2 : ∀ x, x < n.toNatClampNeg → H.getD x 0 = L64.getD (60 * k.toNatClampNeg + i.toNatClampNeg + x) 0)
    (hP : ∀ Z : List Int32, Z.length = 240 → (∀ t, Z.getD t 0 = if 60 * o.toNatClampNeg + j.toNatClampNeg ≤ t ∧ t < 60 * o.toNatClampNeg + j.toNatClampNeg + n.toNatClampNeg then L64.getD (60 * k.toNatClampNeg + i.toNatClampNeg + (t - (60 * o.toNatClampNeg + j.toNatClampNeg))) 0 else L64.getD t 0) → P (some (.int n)) (wW (u2 f 42 0 0) (u1 (u1 l 65 H) 64 Z) q)) :
    ∀ (m y : Nat) (Z : List Int32) (x : Int32), y + m = n.toNatClampNeg → Z.length = 240 → (∀ t, Z.getD t 0 = if 60 * o.toNatClampNeg + j.toNatClampNeg ≤ t ∧ t < 60 * o.toNatClampNeg + j.toNatClampNeg + y then L64.getD (60 * k.toNatClampNeg + i.toNatClampNeg + (t - (60 * o.toNatClampNeg + j.toNatClampNeg))) 0 else L64.getD t 0) → x = nI y →
    ba_go scr ix_X9_copy 144 [some (.ref 43), some (.int k), some (.int i), some (.int o), some (.int j), some (.int n), some (.int x)] [] (wW f (u1 (u1 l 65 H) 64 Z) q) 0 0 P := by
  have a1 := ix_i hn
  have a2 := ix_i ho
  have a3 := ix_i hj
  intro m
  induction m with
  | zero =>
    intro y Z x h1 h2 h3 h4
    subst h4
    refine run_X9_copy 19 ?_
    refine And.intro (fun c => ?_) (fun c => ?_)
    · repeat (first | refine And.intro (fun e => absurd e (by decide)) (fun e => ?_) | refine And.intro (fun e => ?_) (fun e => absurd e (by decide)) | refine Exists.intro _ (And.intro rfl ?_) | refine And.intro rfl ?_)
      refine r_refused ?_
      exact hP Z h2 (fun t => by rw [h3 t, show y = n.toNatClampNeg by omega])
    · exfalso
      have c : ¬ n ≤ nI y := c
      rw [le_i, nI_toInt (by omega)] at c
      omega
  | succ m ih =>
    intro y Z x h1 h2 h3 h4
    subst h4
    have ey : (nI y).toInt = y := nI_toInt (by omega)
    have ec : (nI y).toNatClampNeg = y := nI_clamp (by omega)
    refine run_X9_copy 19 ?_
    refine And.intro (fun c => ?_) (fun c => ?_)
    · exfalso
      have c : n ≤ nI y := c
      rw [le_i, ey] at c
      omega
    · have e6 := ix60b (k := o) (i := j) (x := nI y) ho ho2 hj (by omega) (by rw [ey]; omega)
      rw [ey, ec] at e6
      repeat (first | refine And.intro (fun e => absurd e (by decide)) (fun e => ?_) | refine And.intro (fun e => ?_) (fun e => absurd e (by decide)) | refine Exists.intro _ (And.intro rfl ?_) | refine And.intro rfl ?_)
      have a65 : ∀ xs, ba_ldI xs (wW f (u1 (u1 l 65 H) 64 Z) q) 66 (nI y) = some (H.getD y 0) := fun xs => by
        rw [ldI_of (l := H) rfl (by omega) (by rw [hH]; omega), ec]
      refine Exists.intro _ (And.intro (a65 _) ?_)
      have e : ∀ v, ba_stI (wW f (u1 (u1 l 65 H) 64 Z) q) 65 (60 * o + j + nI y) v = some (wW f (u1 (u1 l 65 H) 64 (Z.set (60 * o.toNatClampNeg + j.toNatClampNeg + y) v)) q) := fun v => by
        rw [stI_of (l := Z) rfl (by rw [e6.1]; omega) (by rw [e6.1, h2]; omega), e6.2]
        show some (wW f (u1 (u1 (u1 l 65 H) 64 Z) 64 (Z.set (60 * o.toNatClampNeg + j.toNatClampNeg + y) v)) q) = _
        rw [u1_u1]
      refine Exists.intro _ (And.intro (e _) ?_)
      refine ih (y + 1) (Z.set (60 * o.toNatClampNeg + j.toNatClampNeg + y) (H.getD y 0)) _ (by omega) (by rw [List.length_set]; exact h2) (fun t => ?_) (nI_1 y)
      rw [getD_set, h3 t]
      by_cases h : 60 * o.toNatClampNeg + j.toNatClampNeg + y = t
      · rw [if_pos ⟨h, by rw [h2]; omega⟩, if_pos (by omega), hH2 y (by omega)]
        rw [show t - (60 * o.toNatClampNeg + j.toNatClampNeg) = y by omega]
      · rw [if_neg (fun g => h g.1)]
        by_cases g : 60 * o.toNatClampNeg + j.toNatClampNeg ≤ t ∧ t < 60 * o.toNatClampNeg + j.toNatClampNeg + y
        · rw [if_pos g, if_pos (by omega)]
        · rw [if_neg g, if_neg (by omega)]
theorem r_copy1 {k o i j n : Int32} (hk : 0 ≤ k.toInt) (hk2 : k.toInt ≤ 3) (ho : 0 ≤ o.toInt) (ho2 : o.toInt ≤ 3) (hi : 0 ≤ i.toInt) (hj : 0 ≤ j.toInt) (hn : 0 ≤ n.toInt) (hin : i.toInt + n.toInt ≤ 60) (hjn : j.toInt + n.toInt ≤ 60) (h64 : (l 64).length = 240)
    (hP : ∀ H Z : List Int32, H.length = 60 → Z.length = 240 → (∀ t, Z.getD t 0 = if 60 * o.toNatClampNeg + j.toNatClampNeg ≤ t ∧ t < 60 * o.toNatClampNeg + j.toNatClampNeg + n.toNatClampNeg then (l 64).getD (60 * k.toNatClampNeg + i.toNatClampNeg + (t - (60 * o.toNatClampNeg + j.toNatClampNeg))) 0 else (l 64).getD t 0) → P (some (.int n)) (wW (u2 f 42 0 0) (u1 (u1 l 65 H) 64 Z) q)) :
    ∀ (m y : Nat) (H : List Int32) (x : Int32), y + m = n.toNatClampNeg → H.length = 60 → (∀ t, t < y → H.getD t 0 = (l 64).getD (60 * k.toNatClampNeg + i.toNatClampNeg + t) 0) → x = nI y →
    ba_go scr ix_X9_copy 107 [some (.ref 43), some (.int k), some (.int i), some (.int o), some (.int j), some (.int n), some (.int x)] [] (wW f (u1 l 65 H) q) 0 0 P := by
  have a1 := ix_i hn
  have a2 := ix_i hk
  have a3 := ix_i hi
  intro m
  induction m with
  | zero =>
    intro y H x h1 h2 h3 h4
    subst h4
    refine run_X9_copy 5 ?_
    refine And.intro (fun c => ?_) (fun c => ?_)
    · have h := r_copy2 (f := f) (l := l) (q := q) (scr := scr) (P := P) (L64 := l 64) hk hk2 ho ho2 hi hj hn hin hjn h2 (fun t ht => h3 t (by omega)) (fun Z g1 g2 => hP H Z h2 g1 g2) n.toNatClampNeg 0 (l 64) 0 (by omega) h64 (fun t => by rw [if_neg (by omega)]) rfl
      rw [show u1 (u1 l 65 H) 64 (l 64) = u1 l 65 H from u1_self (l := u1 l 65 H) (i := 64)] at h
      exact h
    · exfalso
      have c : ¬ n ≤ nI y := c
      rw [le_i, nI_toInt (by omega)] at c
      omega
  | succ m ih =>
    intro y H x h1 h2 h3 h4
    subst h4
    have ey : (nI y).toInt = y := nI_toInt (by omega)
    have ec : (nI y).toNatClampNeg = y := nI_clamp (by omega)
    refine run_X9_copy 19 ?_
    refine And.intro (fun c => ?_) (fun c => ?_)
    · exfalso
      have c : n ≤ nI y := c
      rw [le_i, ey] at c
      omega
    · have e6 := ix60b (k := k) (i := i) (x := nI y) hk hk2 hi (by omega) (by rw [ey]; omega)
      rw [ey, ec] at e6
      repeat (first | refine And.intro (fun e => absurd e (by decide)) (fun e => ?_) | refine And.intro (fun e => ?_) (fun e => absurd e (by decide)) | refine Exists.intro _ (And.intro rfl ?_) | refine And.intro rfl ?_)
      have a64 : ∀ xs, ba_ldI xs (wW f (u1 l 65 H) q) 65 (60 * k + i + nI y) = some ((l 64).getD (60 * k.toNatClampNeg + i.toNatClampNeg + y) 0) := fun xs => by
        rw [ldI_of (l := l 64) rfl (by rw [e6.1]; omega) (by rw [e6.1, h64]; omega), e6.2]
      refine Exists.intro _ (And.intro (a64 _) ?_)
      have e : ∀ v, ba_stI (wW f (u1 l 65 H) q) 66 (nI y) v = some (wW f (u1 l 65 (H.set y v)) q) := fun v => by
        rw [stI_of (l := H) rfl (by omega) (by rw [h2]; omega), ec]
        show some (wW f (u1 (u1 l 65 H) 65 (H.set y v)) q) = _
        rw [u1_u1]
      refine Exists.intro _ (And.intro (e _) ?_)
      refine ih (y + 1) (H.set y ((l 64).getD (60 * k.toNatClampNeg + i.toNatClampNeg + y) 0)) _ (by omega) (by rw [List.length_set]; exact h2) (fun t ht => ?_) (nI_1 y)
      rw [getD_set]
      by_cases h : y = t
      · rw [if_pos ⟨h, by rw [h2]; omega⟩, h]
      · rw [if_neg (fun g => h g.1)]
        exact h3 t (by omega)
def span (a n s : Int32) : Prop := 0 ≤ a.toInt ∧ 0 ≤ n.toInt ∧ a.toInt + n.toInt ≤ s.toInt
theorem r_copy {k o i j n : Int32} (hk : 0 ≤ k.toInt) (hk2 : k.toInt ≤ 3) (ho : 0 ≤ o.toInt) (ho2 : o.toInt ≤ 3) (h62 : (l 62).length = 4) (h63 : (l 63).length = 4) (h64 : (l 64).length = 240) (h65 : (l 65).length = 60) (hs1 : ((l 62).getD k.toNatClampNeg 0).toInt ≤ 60) (hs2 : ((l 62).getD o.toNatClampNeg 0).toInt ≤ 60)
    (h1 : (((l 62).getD k.toNatClampNeg 0).toInt < 0 ∨ ((l 62).getD o.toNatClampNeg 0).toInt < 0) → P (some (.int (-11))) (wW (u2 f 42 0 1) l q))
    (h2 : 0 ≤ ((l 62).getD k.toNatClampNeg 0).toInt → 0 ≤ ((l 62).getD o.toNatClampNeg 0).toInt → ¬ (l 63).getD k.toNatClampNeg 0 = (l 63).getD o.toNatClampNeg 0 → P (some (.int (-12))) (wW (u2 f 42 0 2) l q))
    (h3 : 0 ≤ ((l 62).getD k.toNatClampNeg 0).toInt → 0 ≤ ((l 62).getD o.toNatClampNeg 0).toInt → (l 63).getD k.toNatClampNeg 0 = (l 63).getD o.toNatClampNeg 0 → ¬ (span i n ((l 62).getD k.toNatClampNeg 0) ∧ span j n ((l 62).getD o.toNatClampNeg 0)) → P (some (.int (-13))) (wW (u2 f 42 0 3) l q))
    (h0 : 0 ≤ ((l 62).getD k.toNatClampNeg 0).toInt → 0 ≤ ((l 62).getD o.toNatClampNeg 0).toInt → (l 63).getD k.toNatClampNeg 0 = (l 63).getD o.toNatClampNeg 0 → span i n ((l 62).getD k.toNatClampNeg 0) → span j n ((l 62).getD o.toNatClampNeg 0) → ∀ H Z : List Int32, H.length = 60 → Z.length = 240 → (∀ t, Z.getD t 0 = if 60 * o.toNatClampNeg + j.toNatClampNeg ≤ t ∧ t < 60 * o.toNatClampNeg + j.toNatClampNeg + n.toNatClampNeg then (l 64).getD (60 * k.toNatClampNeg + i.toNatClampNeg + (t - (60 * o.toNatClampNeg + j.toNatClampNeg))) 0 else (l 64).getD t 0) → P (some (.int n)) (wW (u2 f 42 0 0) (u1 (u1 l 65 H) 64 Z) q)) :
    ba_go scr ix_X9_copy 0 [some (.ref 43), some (.int k), some (.int i), some (.int o), some (.int j), some (.int n), none] [] (wW f l q) 0 0 P := by
  have a62 : ∀ xs, ba_ldI xs (wW f l q) 63 k = some ((l 62).getD k.toNatClampNeg 0) := fun xs => ldI_of rfl hk (by rw [h62]; omega)
  have a63 : ∀ xs, ba_ldI xs (wW f l q) 64 k = some ((l 63).getD k.toNatClampNeg 0) := fun xs => ldI_of rfl hk (by rw [h63]; omega)
  have b62 : ∀ xs, ba_ldI xs (wW f l q) 63 o = some ((l 62).getD o.toNatClampNeg 0) := fun xs => ldI_of rfl ho (by rw [h62]; omega)
  have b63 : ∀ xs, ba_ldI xs (wW f l q) 64 o = some ((l 63).getD o.toNatClampNeg 0) := fun xs => ldI_of rfl ho (by rw [h63]; omega)
  have hb := fb_rng n
  refine run_X9_copy 45 ?_
  repeat (first | refine And.intro (fun e => absurd e (by decide)) (fun e => ?_) | refine And.intro (fun e => ?_) (fun e => absurd e (by decide)) | refine Exists.intro _ (And.intro rfl ?_) | refine And.intro rfl ?_)
  refine s_noSheet (fun g1 g2 => ?_) (fun g1 => absurd ⟨hk, hk2⟩ g1)
  repeat (first | refine And.intro (fun e => absurd e (by decide)) (fun e => ?_) | refine And.intro (fun e => ?_) (fun e => absurd e (by decide)) | refine Exists.intro _ (And.intro rfl ?_) | refine And.intro rfl ?_)
  refine s_noSheet (fun g1 g2 => ?_) (fun g1 => absurd ⟨ho, ho2⟩ g1)
  repeat (first | refine And.intro (fun e => absurd e (by decide)) (fun e => ?_) | refine And.intro (fun e => ?_) (fun e => absurd e (by decide)) | refine Exists.intro _ (And.intro rfl ?_) | refine And.intro rfl ?_)
  refine Exists.intro _ (And.intro (a62 _) ?_)
  refine And.intro (fun c => ?_) (fun c => ?_)
  · have c : (l 62).getD k.toNatClampNeg 0 < 0 := c
    rw [lt_i, zi] at c
    repeat (first | refine And.intro (fun e => absurd e (by decide)) (fun e => ?_) | refine And.intro (fun e => ?_) (fun e => absurd e (by decide)) | refine Exists.intro _ (And.intro rfl ?_) | refine And.intro rfl ?_)
    refine r_failed ?_
    exact h1 (Or.inl c)
  · have c : ¬ (l 62).getD k.toNatClampNeg 0 < 0 := c
    rw [lt_i, zi] at c
    repeat (first | refine And.intro (fun e => absurd e (by decide)) (fun e => ?_) | refine And.intro (fun e => ?_) (fun e => absurd e (by decide)) | refine Exists.intro _ (And.intro rfl ?_) | refine And.intro rfl ?_)
    refine Exists.intro _ (And.intro (b62 _) ?_)
    refine And.intro (fun d => ?_) (fun d => ?_)
    · have d : 0 ≤ (l 62).getD o.toNatClampNeg 0 := d
      rw [le_i, zi] at d
      repeat (first | refine And.intro (fun e => absurd e (by decide)) (fun e => ?_) | refine And.intro (fun e => ?_) (fun e => absurd e (by decide)) | refine Exists.intro _ (And.intro rfl ?_) | refine And.intro rfl ?_)
      refine Exists.intro _ (And.intro (a63 _) ?_)
      repeat (first | refine And.intro (fun e => absurd e (by decide)) (fun e => ?_) | refine And.intro (fun e => ?_) (fun e => absurd e (by decide)) | refine Exists.intro _ (And.intro rfl ?_) | refine And.intro rfl ?_)
      refine Exists.intro _ (And.intro (b63 _) ?_)
      refine And.intro (fun eq => ?_) (fun eq => ?_)
      · repeat (first | refine And.intro (fun e => absurd e (by decide)) (fun e => ?_) | refine And.intro (fun e => ?_) (fun e => absurd e (by decide)) | refine Exists.intro _ (And.intro rfl ?_) | refine And.intro rfl ?_)
        refine Exists.intro _ (And.intro (a62 _) ?_)
        refine And.intro rfl (r_isBeyond (by rw [l64]; omega) (fun g => ?_) (fun g1 g2 g3 => ?_))
        · rw [l64] at g
          repeat (first | refine And.intro (fun e => absurd e (by decide)) (fun e => ?_) | refine And.intro (fun e => ?_) (fun e => absurd e (by decide)) | refine Exists.intro _ (And.intro rfl ?_) | refine And.intro rfl ?_)
          refine r_failed ?_
          exact h3 (by omega) d eq (fun z => g z.1)
        · rw [l64] at g2 g3
          repeat (first | refine And.intro (fun e => absurd e (by decide)) (fun e => ?_) | refine And.intro (fun e => ?_) (fun e => absurd e (by decide)) | refine Exists.intro _ (And.intro rfl ?_) | refine And.intro rfl ?_)
          refine Exists.intro _ (And.intro (b62 _) ?_)
          refine And.intro rfl (r_isBeyond (by rw [l64]; omega) (fun j1 => ?_) (fun j1 j2 j3 => ?_))
          · rw [l64] at j1
            refine And.intro (fun e => absurd e (by decide)) (fun _ => ?_)
            refine run_X9_copy 10 ?_
            repeat (first | refine And.intro (fun e => absurd e (by decide)) (fun e => ?_) | refine And.intro (fun e => ?_) (fun e => absurd e (by decide)) | refine Exists.intro _ (And.intro rfl ?_) | refine And.intro rfl ?_)
            refine r_failed ?_
            exact h3 (by omega) d eq (fun z => j1 z.2)
          · rw [l64] at j2 j3
            have a1 := ix_i g2
            have h := r_copy1 (f := f) (l := l) (q := q) (scr := scr) (P := P) hk hk2 ho ho2 g1 j1 g2 (by omega) (by omega) h64 (h0 (by omega) d eq ⟨g1, g2, g3⟩ ⟨j1, j2, j3⟩) n.toNatClampNeg 0 (l 65) 0 (by omega) h65 (fun t ht => absurd ht (by omega)) rfl
            rw [u1_self] at h
            refine And.intro (fun _ => ?_) (fun e => absurd rfl e)
            exact h
      · repeat (first | refine And.intro (fun e => absurd e (by decide)) (fun e => ?_) | refine And.intro (fun e => ?_) (fun e => absurd e (by decide)) | refine Exists.intro _ (And.intro rfl ?_) | refine And.intro rfl ?_)
        refine r_failed ?_
        exact h2 (by omega) d eq
    · have d : ¬ 0 ≤ (l 62).getD o.toNatClampNeg 0 := d
      rw [le_i, zi] at d
      repeat (first | refine And.intro (fun e => absurd e (by decide)) (fun e => ?_) | refine And.intro (fun e => ?_) (fun e => absurd e (by decide)) | refine Exists.intro _ (And.intro rfl ?_) | refine And.intro rfl ?_)
      refine r_failed ?_
      exact h1 (Or.inr (by omega))
theorem both_copy {k o i j n : Int32} (hI : Inv f l q) : both scr ix_X8_copy ix_X9_copy [some (.ref 1), some (.int k), some (.int i), some (.int o), some (.int j), some (.int n), none, none] [some (.ref 43), some (.int k), some (.int i), some (.int o), some (.int j), some (.int n), none] f l q := by
  intro P hP
  obtain ⟨⟨⟨hn1, hn2, hn3⟩, hL, hE, hR⟩, hPp, hD, hM, hS⟩ := id hI
  have una : ¬ ((0 ≤ k.toInt ∧ k.toInt < 4) ∧ (0 ≤ o.toInt ∧ o.toInt < 4)) → P (some (.int (-1))) (wW (u2 f 0 6 0) l q) := by
    intro hb
    refine hP _ _ _ _ (fun P2 h2 => ?_)
    refine run_X9_copy 80 ?_
    repeat (first | refine And.intro (fun e => absurd e (by decide)) (fun e => ?_) | refine And.intro (fun e => ?_) (fun e => absurd e (by decide)) | refine Exists.intro _ (And.intro rfl ?_) | refine And.intro rfl ?_)
    refine s_noSheet (fun g1 g2 => ?_) (fun g1 => ?_)
    · repeat (first | refine And.intro (fun e => absurd e (by decide)) (fun e => ?_) | refine And.intro (fun e => ?_) (fun e => absurd e (by decide)) | refine Exists.intro _ (And.intro rfl ?_) | refine And.intro rfl ?_)
      refine s_noSheet (fun g3 g4 => absurd ⟨⟨g1, by omega⟩, ⟨g3, by omega⟩⟩ hb) (fun g3 => ?_)
      repeat (first | refine And.intro (fun e => absurd e (by decide)) (fun e => ?_) | refine And.intro (fun e => ?_) (fun e => absurd e (by decide)) | refine Exists.intro _ (And.intro rfl ?_) | refine And.intro rfl ?_)
      refine r_refused (f := u2 f 0 6 0) ?_
      exact h2 _ _ _ (inv_fault (v := 0) hI)
    · repeat (first | refine And.intro (fun e => absurd e (by decide)) (fun e => ?_) | refine And.intro (fun e => ?_) (fun e => absurd e (by decide)) | refine Exists.intro _ (And.intro rfl ?_) | refine And.intro rfl ?_)
      refine r_refused (f := u2 f 0 6 0) ?_
      exact h2 _ _ _ (inv_fault (v := 0) hI)
  refine run_X8_copy 100 ?_
  refine Exists.intro (wW (u2 f 0 6 0) l q) (And.intro rfl ?_)
  repeat (first | refine And.intro (fun e => absurd e (by decide)) (fun e => ?_) | refine And.intro (fun e => ?_) (fun e => absurd e (by decide)) | refine Exists.intro _ (And.intro rfl ?_) | refine And.intro rfl ?_)
  refine s_sheetOf (f := u2 f 0 6 0) (fun c d => ?_) (fun c => ?_)
  · repeat (first | refine And.intro (fun e => absurd e (by decide)) (fun e => ?_) | refine And.intro (fun e => ?_) (fun e => absurd e (by decide)) | refine Exists.intro _ (And.intro rfl ?_) | refine And.intro rfl ?_)
    refine s_sheetOf (f := u2 f 0 6 0) (fun c' d' => ?_) (fun c' => ?_)
    · obtain ⟨⟨hk, hi⟩, hs, hC, h62, h63, h64, h65⟩ := sh0 hI c d
      obtain ⟨⟨ho, hi'⟩, hs', hC', -, -, -, -⟩ := sh0 hI c' d'
      obtain ⟨sv1, sv2⟩ := svf hs
      obtain ⟨sv1', sv2'⟩ := svf hs'
      have e0 : ∀ (v : Int32) (z y : Nat), ¬ z = 0 → (u2 f 0 6 v) z y = f z y := fun v z y h => u2_ne h
      have isC : ∀ f' : Nat → Nat → Int32, ba_isC (wW f' l q) (34 + 2 * k.toNatClampNeg + 1) 5 = true := fun f' => isC_of (sh_fld hk).2.2.2.2
      have isC' : ∀ f' : Nat → Nat → Int32, ba_isC (wW f' l q) (34 + 2 * o.toNatClampNeg + 1) 5 = true := fun f' => isC_of (sh_fld ho).2.2.2.2
      have sz : ((l 62).getD k.toNatClampNeg 0).toInt ≤ 60 := by
        by_cases q0 : f (34 + 2 * k.toNatClampNeg) 1 = -1
        · have := sv1.mpr q0; omega
        · rw [(sv2 q0).1]; exact hs.2.1.2
      have sz' : ((l 62).getD o.toNatClampNeg 0).toInt ≤ 60 := by
        by_cases q0 : f (34 + 2 * o.toNatClampNeg) 1 = -1
        · have := sv1'.mpr q0; omega
        · rw [(sv2' q0).1]; exact hs'.2.1.2
      have ne1 : 0 ≤ ((l 62).getD k.toNatClampNeg 0).toInt → ¬ f (34 + 2 * k.toNatClampNeg) 1 = -1 := fun g e => by have := sv1.mpr e; omega
      have ne2 : 0 ≤ ((l 62).getD o.toNatClampNeg 0).toInt → ¬ f (34 + 2 * o.toNatClampNeg) 1 = -1 := fun g e => by have := sv1'.mpr e; omega
      have bad : ∀ x : Int32, ((f (34 + 2 * k.toNatClampNeg) 1 = -1 ∨ f (34 + 2 * o.toNatClampNeg) 1 = -1) → x = 1) → (¬ f (34 + 2 * k.toNatClampNeg) 1 = -1 → ¬ f (34 + 2 * o.toNatClampNeg) 1 = -1 → ¬ f (34 + 2 * k.toNatClampNeg) 1 = f (34 + 2 * o.toNatClampNeg) 1 → x = 2) → (¬ f (34 + 2 * k.toNatClampNeg) 1 = -1 → ¬ f (34 + 2 * o.toNatClampNeg) 1 = -1 → f (34 + 2 * k.toNatClampNeg) 1 = f (34 + 2 * o.toNatClampNeg) 1 → ¬ (span i n (f (34 + 2 * k.toNatClampNeg) 2) ∧ span j n (f (34 + 2 * o.toNatClampNeg) 2)) ∧ x = 3) → P (some (.int (-10 - x))) (wW (u2 f 0 6 x) l q) := by
        intro x x1 x2 x3
        have hF := inv_fault (v := x) hI
        refine hP _ _ _ _ (fun P2 h2 => ?_)
        refine r_copy (f := u2 f 0 6 x) c (by omega) c' (by omega) h62 h63 h64 h65 sz sz' (fun g => ?_) (fun g1 g2 g3 => ?_) (fun g1 g2 g3 g4 => ?_) (fun g1 g2 g3 g4 g5 => ?_)
        · have h3 := h2 _ _ _ hF
          rw [x1 (g.imp sv1.mp sv1'.mp)] at h3 ⊢
          exact h3
        · have h3 := h2 _ _ _ hF
          rw [x2 (ne1 g1) (ne2 g2) (by rw [← (sv2 (ne1 g1)).2, ← (sv2' (ne2 g2)).2]; exact g3)] at h3 ⊢
          exact h3
        · have h3 := h2 _ _ _ hF
          rw [(x3 (ne1 g1) (ne2 g2) (by rw [← (sv2 (ne1 g1)).2, ← (sv2' (ne2 g2)).2]; exact g3)).2] at h3 ⊢
          exact h3
        · exact absurd ⟨(sv2 (ne1 g1)).1 ▸ g4, (sv2' (ne2 g2)).1 ▸ g5⟩ (x3 (ne1 g1) (ne2 g2) (by rw [← (sv2 (ne1 g1)).2, ← (sv2' (ne2 g2)).2]; exact g3)).1
      repeat (first | refine And.intro (fun e => absurd e (by decide)) (fun e => ?_) | refine And.intro (fun e => ?_) (fun e => absurd e (by decide)) | refine Exists.intro _ (And.intro rfl ?_) | refine And.intro rfl ?_)
      refine And.intro (ck rfl rfl rfl rfl (isC _)) (s_hasRow (f := u2 f 0 6 0) hk (fun g => ?_) (fun g => ?_))
      · rw [e0 _ _ _ (by omega)] at g
        repeat (first | refine And.intro (fun e => absurd e (by decide)) (fun e => ?_) | refine And.intro (fun e => ?_) (fun e => absurd e (by decide)) | refine Exists.intro _ (And.intro rfl ?_) | refine And.intro rfl ?_)
        refine And.intro (ck rfl rfl rfl rfl (isC' _)) (s_hasRow (f := u2 f 0 6 0) ho (fun g' => ?_) (fun g' => ?_))
        · rw [e0 _ _ _ (by omega)] at g'
          repeat (first | refine And.intro (fun e => absurd e (by decide)) (fun e => ?_) | refine And.intro (fun e => ?_) (fun e => absurd e (by decide)) | refine Exists.intro _ (And.intro rfl ?_) | refine And.intro rfl ?_)
          refine Exists.intro _ (And.intro ((sh_fld (f := u2 f 0 6 0) hk).2.1) ?_)
          refine Exists.intro _ (And.intro ((sh_fld (f := u2 f 0 6 0) ho).2.1) ?_)
          rw [e0 _ _ _ (by omega), e0 _ _ _ (by omega)]
          have out3 : ¬ (span i n (f (34 + 2 * k.toNatClampNeg) 2) ∧ span j n (f (34 + 2 * o.toNatClampNeg) 2)) → f (34 + 2 * k.toNatClampNeg) 1 = f (34 + 2 * o.toNatClampNeg) 1 → P (some (.int (-10 - 3))) (wW (u2 f 0 6 3) l q) := fun h1 h2 => bad 3 (fun e => (e.elim g g').elim) (fun _ _ e => absurd h2 e) (fun _ _ _ => ⟨h1, rfl⟩)
          refine And.intro (fun x => ?_) (fun x => ?_)
          · repeat (first | refine And.intro (fun e => absurd e (by decide)) (fun e => ?_) | refine And.intro (fun e => ?_) (fun e => absurd e (by decide)) | refine Exists.intro _ (And.intro rfl ?_) | refine And.intro rfl ?_)
            refine And.intro (ck rfl rfl rfl rfl (isC _)) (s_spans (f := u2 f 0 6 0) hk (by rw [e0 _ _ _ (by omega)]; exact hs.2.1.1) (by rw [e0 _ _ _ (by omega)]; exact hs.2.1.2) (fun y1 y2 y3 => ?_) (fun y => ?_))
            · rw [e0 _ _ _ (by omega)] at y3
              repeat (first | refine And.intro (fun e => absurd e (by decide)) (fun e => ?_) | refine And.intro (fun e => ?_) (fun e => absurd e (by decide)) | refine Exists.intro _ (And.intro rfl ?_) | refine And.intro rfl ?_)
              refine And.intro (ck rfl rfl rfl rfl (isC' _)) (s_spans (f := u2 f 0 6 0) ho (by rw [e0 _ _ _ (by omega)]; exact hs'.2.1.1) (by rw [e0 _ _ _ (by omega)]; exact hs'.2.1.2) (fun z1 z2 z3 => ?_) (fun z => ?_))
              · rw [e0 _ _ _ (by omega)] at z3
                repeat (first | refine And.intro (fun e => absurd e (by decide)) (fun e => ?_) | refine And.intro (fun e => ?_) (fun e => absurd e (by decide)) | refine Exists.intro _ (And.intro rfl ?_) | refine And.intro rfl ?_)
                refine Exists.intro _ (And.intro ((sh_fld (f := u2 f 0 6 0) hk).1) ?_)
                refine Exists.intro _ (And.intro ((sh_fld (f := u2 f 0 6 0) ho).1) ?_)
                have hx := ix_i y1
                have hy := ix_i z1
                have hz := ix_i y2
                have k60 := hs.2.1.2
                have o60 := hs'.2.1.2
                have b1 : i.toNatClampNeg + n.toNatClampNeg ≤ (l (34 + 2 * k.toNatClampNeg + 1)).length := by rw [hC]; omega
                have b2 : j.toNatClampNeg + n.toNatClampNeg ≤ (l (34 + 2 * o.toNatClampNeg + 1)).length := by rw [hC']; omega
                obtain ⟨C, hCe⟩ : ∃ C, C = ba_cpy (l (34 + 2 * k.toNatClampNeg + 1)) (l (34 + 2 * o.toNatClampNeg + 1)) i.toNatClampNeg j.toNatClampNeg n.toNatClampNeg := ⟨_, rfl⟩
                have C1 : C.length = 60 := by rw [hCe, ba_cpy_len _ _ _ _ _ b1 b2]; exact hC'
                have C2 : ∀ t, C.getD t 0 = if j.toNatClampNeg ≤ t ∧ t < j.toNatClampNeg + n.toNatClampNeg then (l (34 + 2 * k.toNatClampNeg + 1)).getD (i.toNatClampNeg + (t - j.toNatClampNeg)) 0 else (l (34 + 2 * o.toNatClampNeg + 1)).getD t 0 := fun t => by rw [hCe]; exact congrFun (ba_cpy_get _ _ _ _ _ b1 b2) t
                have cp : ba_copy (wW (u2 f 0 6 0) l q) (34 + 2 * k.toNatClampNeg + 2) i (34 + 2 * o.toNatClampNeg + 2) j n = some (wW (u2 f 0 6 0) (u1 l (34 + 2 * o.toNatClampNeg + 1) C) q) := by
                  unfold ba_copy
                  simp only [(sh_fld (f := u2 f 0 6 0) (l := l) (q := q) hk).2.2.2.1, (sh_fld (f := u2 f 0 6 0) (l := l) (q := q) ho).2.2.2.1]
                  rw [if_pos (by simp only [lt_i, zi]; omega), ← hCe, sh_cells ho]
                refine Exists.intro _ (And.intro (cp) ?_)
                repeat (first | refine And.intro (fun e => absurd e (by decide)) (fun e => ?_) | refine And.intro (fun e => ?_) (fun e => absurd e (by decide)) | refine Exists.intro _ (And.intro rfl ?_) | refine And.intro rfl ?_)
                obtain ⟨G, hG⟩ : ∃ G, G = u1 l (34 + 2 * o.toNatClampNeg + 1) C := ⟨_, rfl⟩
                rw [← hG]
                have gx : ∀ y, ¬ y = 34 + 2 * o.toNatClampNeg + 1 → G y = l y := fun y hy => by rw [hG]; exact u1_ne hy
                have g62 := gx 62 (by omega)
                have g63 := gx 63 (by omega)
                have g64 := gx 64 (by omega)
                have g65 := gx 65 (by omega)
                refine hP _ _ _ _ (fun P2 h2 => ?_)
                refine r_copy (f := u2 f 0 6 0) (l := G) c (by omega) c' (by omega) (by rw [g62]; exact h62) (by rw [g63]; exact h63) (by rw [g64]; exact h64) (by rw [g65]; exact h65) (by rw [g62]; exact sz) (by rw [g62]; exact sz') (fun r => ?_) (fun r1 r2 r3 => ?_) (fun r1 r2 r3 r4 => ?_) (fun r1 r2 r3 r4 r5 H Z hH hZ hZ2 => ?_)
                · rw [g62] at r
                  exact (r.elim (fun e => g (sv1.mp e)) (fun e => g' (sv1'.mp e))).elim
                · rw [g63] at r3
                  exact absurd (by rw [(sv2 g).2, (sv2' g').2]; exact x) r3
                · rw [g62] at r4
                  exact absurd ⟨⟨y1, y2, by rw [(sv2 g).1]; exact y3⟩, ⟨z1, z2, by rw [(sv2' g').1]; exact z3⟩⟩ r4
                · rw [g64] at hZ2
                  have hF := inv_fault (v := 0) hI
                  have hF2 : Inv (u2 (u2 f 0 6 0) 42 0 0) (u1 l 65 H) q := by
                    obtain ⟨⟨⟨hn1, hn2, hn3⟩, hL, hE, hR⟩, hPp, hD, hM, hS⟩ := id hF
                    exact ⟨⟨⟨hn1, hn2, hn3⟩, ⟨hL.1, hL.2.1, hL.2.2.1, hL.2.2.2.1, hL.2.2.2.2.1, hL.2.2.2.2.2.1, ⟨hL.2.2.2.2.2.2.1, hL.2.2.2.2.2.2.2.1, hL.2.2.2.2.2.2.2.2.1, hH⟩⟩, hE, hR⟩, hPp, hD, hM, hS⟩
                  refine h2 _ _ _ (inv_sh ho hF2 (fun x y hx => rfl) (fun y hx h2 h3 h4 => ?_) ?_ ?_ ?_ ?_ ?_ ?_)
                  · rw [u1_ne h4]
                    by_cases h5 : y = 65
                    · rw [h5, u1_eq, u1_eq]
                    · rw [u1_ne h5, u1_ne h5, gx y hx]
                  · rw [u1_ne (by omega), u1_ne (by omega), hG, u1_eq]; exact C1
                  · rw [u1_ne (by decide), u1_ne (by decide), g62]; exact h62
                  · rw [u1_ne (by decide), u1_ne (by decide), g63]; exact h63
                  · rw [u1_eq]; exact hZ
                  · have eA : ∀ y, (u2 (u2 f 0 6 0) 42 0 0) (34 + 2 * o.toNatClampNeg) y = f (34 + 2 * o.toNatClampNeg) y := fun y => by rw [u2_ne (by omega), u2_ne (by omega)]
                    rw [eA, eA]
                    rw [u1_ne (i := 64) (x := 62) (by decide), u1_ne (i := 65) (x := 62) (by decide), u1_ne (i := 64) (x := 63) (by decide), u1_ne (i := 65) (x := 63) (by decide), u1_ne (i := 64) (x := 34 + 2 * o.toNatClampNeg + 1) (by omega), u1_ne (i := 65) (x := 34 + 2 * o.toNatClampNeg + 1) (by omega), u1_eq, g62, g63, hG, u1_eq]
                    obtain ⟨s1, s2, s3⟩ := hs.2.2.2 g
                    obtain ⟨t1, t2, t3⟩ := hs'.2.2.2 g'
                    refine ⟨hs'.1, hs'.2.1, hs'.2.2.1, fun _ => ⟨t1, t2, fun t ht => ?_⟩⟩
                    have hzk := ix_i hs.2.1.1
                    rw [hZ2, C2]
                    by_cases h : j.toNatClampNeg ≤ t ∧ t < j.toNatClampNeg + n.toNatClampNeg
                    · rw [if_pos (by omega), if_pos h]
                      rw [show 60 * k.toNatClampNeg + i.toNatClampNeg + (60 * o.toNatClampNeg + t - (60 * o.toNatClampNeg + j.toNatClampNeg)) = 60 * k.toNatClampNeg + (i.toNatClampNeg + (t - j.toNatClampNeg)) by omega]
                      exact s3 _ (by omega)
                    · rw [if_neg (by omega), if_neg h]
                      exact t3 t ht
                  · intro j' hj' hne
                    rw [u1_ne (i := 64) (x := 62) (by decide), u1_ne (i := 65) (x := 62) (by decide), u1_ne (i := 64) (x := 63) (by decide), u1_ne (i := 65) (x := 63) (by decide), u1_eq, g62, g63]
                    refine ⟨rfl, rfl, fun t ht => ?_⟩
                    rw [hZ2, if_neg (by omega)]
                    rfl
              · rw [e0 _ _ _ (by omega)] at z
                repeat (first | refine And.intro (fun e => absurd e (by decide)) (fun e => ?_) | refine And.intro (fun e => ?_) (fun e => absurd e (by decide)) | refine Exists.intro _ (And.intro rfl ?_) | refine And.intro rfl ?_)
                refine s_stopped (f := u2 f 0 6 0) ?_
                rw [uf]
                exact out3 (fun e => z e.2) x
            · rw [e0 _ _ _ (by omega)] at y
              repeat (first | refine And.intro (fun e => absurd e (by decide)) (fun e => ?_) | refine And.intro (fun e => ?_) (fun e => absurd e (by decide)) | refine Exists.intro _ (And.intro rfl ?_) | refine And.intro rfl ?_)
              refine s_stopped (f := u2 f 0 6 0) ?_
              rw [uf]
              exact out3 (fun e => y e.1) x
          · repeat (first | refine And.intro (fun e => absurd e (by decide)) (fun e => ?_) | refine And.intro (fun e => ?_) (fun e => absurd e (by decide)) | refine Exists.intro _ (And.intro rfl ?_) | refine And.intro rfl ?_)
            refine s_stopped (f := u2 f 0 6 0) ?_
            rw [uf]
            exact bad 2 (fun e => (e.elim g g').elim) (fun _ _ _ => rfl) (fun _ _ e => absurd e x)
        · rw [e0 _ _ _ (by omega)] at g'
          repeat (first | refine And.intro (fun e => absurd e (by decide)) (fun e => ?_) | refine And.intro (fun e => ?_) (fun e => absurd e (by decide)) | refine Exists.intro _ (And.intro rfl ?_) | refine And.intro rfl ?_)
          refine s_stopped (f := u2 f 0 6 0) ?_
          rw [uf]
          exact bad 1 (fun _ => rfl) (fun _ e => absurd g' e) (fun _ e => absurd g' e)
      · rw [e0 _ _ _ (by omega)] at g
        repeat (first | refine And.intro (fun e => absurd e (by decide)) (fun e => ?_) | refine And.intro (fun e => ?_) (fun e => absurd e (by decide)) | refine Exists.intro _ (And.intro rfl ?_) | refine And.intro rfl ?_)
        refine s_stopped (f := u2 f 0 6 0) ?_
        rw [uf]
        exact bad 1 (fun _ => rfl) (fun e => absurd g e) (fun e => absurd g e)
    · repeat (first | refine And.intro (fun e => absurd e (by decide)) (fun e => ?_) | refine And.intro (fun e => ?_) (fun e => absurd e (by decide)) | refine Exists.intro _ (And.intro rfl ?_) | refine And.intro rfl ?_)
      exact una (fun e => c' e.2)
  · repeat (first | refine And.intro (fun e => absurd e (by decide)) (fun e => ?_) | refine And.intro (fun e => ?_) (fun e => absurd e (by decide)) | refine Exists.intro _ (And.intro rfl ?_) | refine And.intro rfl ?_)
    refine s_sheetOf (f := u2 f 0 6 0) (fun c' d' => ?_) (fun c' => ?_)
    · repeat (first | refine And.intro (fun e => absurd e (by decide)) (fun e => ?_) | refine And.intro (fun e => ?_) (fun e => absurd e (by decide)) | refine Exists.intro _ (And.intro rfl ?_) | refine And.intro rfl ?_)
      exact una (fun e => c e.1)
    · repeat (first | refine And.intro (fun e => absurd e (by decide)) (fun e => ?_) | refine And.intro (fun e => ?_) (fun e => absurd e (by decide)) | refine Exists.intro _ (And.intro rfl ?_) | refine And.intro rfl ?_)
      exact una (fun e => c e.1)
end CO
