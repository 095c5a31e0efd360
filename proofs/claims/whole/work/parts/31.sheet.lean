/-! sheet -/
section SE
variable {scr : Option (List Int32)} {P : ba_P} {w : ba_W} {f : Nat → Nat → Int32} {l : Nat → List Int32} {q : Nat → List Int64}
theorem u1_u1 {α : Type} {L : Nat → α} {i : Nat} {a b : α} : u1 (u1 L i a) i b = u1 L i b := by
  funext x
  unfold u1
  cases Nat.beq x i <;> rfl
theorem s_fill {k : Nat} (hk : k < 4) {v : Int32} (hl : (l (34 + 2 * k + 1)).length = 60) (hP : ∀ C : List Int32, C.length = 60 → (∀ j, j < 60 → C.getD j 0 = v) → P none (wW f (u1 l (34 + 2 * k + 1) C) q)) : ba_go scr ix_J7_fill_53178 0 [some (.ref (34 + 2 * k + 2)), some (.int v), none, none] [] (wW f l q) 0 0 P := by
  have loop : ∀ (m i : Nat) (C : List Int32) (x : Int32), i + m = 60 → C.length = 60 → (∀ j, j < i → C.getD j 0 = v) → x = nI i → ba_go scr ix_J7_fill_53178 5 [some (.ref (34 + 2 * k + 2)), some (.int v), some (.int x), some (.int 60)] [] (wW f (u1 l (34 + 2 * k + 1) C) q) 0 0 P := by
    intro m
    induction m with
    | zero =>
      intro i C x h1 h2 h3 h4
      subst h4
      refine run_J7_fill_53178 5 ?_
      refine And.intro (fun c => ?_) (fun c => ?_)
      · exact hP C h2 (fun j hj => h3 j (by omega))
      · exfalso
        have c : ¬ (60 : Int32) ≤ nI i := c
        rw [le_i, nI_toInt (by omega), show (60 : Int32).toInt = 60 from rfl] at c
        omega
    | succ m ih =>
      intro i C x h1 h2 h3 h4
      subst h4
      refine run_J7_fill_53178 9 ?_
      refine And.intro (fun c => ?_) (fun c => ?_)
      · exfalso
        have c : (60 : Int32) ≤ nI i := c
        rw [le_i, nI_toInt (by omega), show (60 : Int32).toInt = 60 from rfl] at c
        omega
      · have e : ba_stI (wW f (u1 l (34 + 2 * k + 1) C) q) (34 + 2 * k + 2) (nI i) v = some (wW f (u1 l (34 + 2 * k + 1) (C.set i v)) q) := by
          rw [stI_of (l := C) (by rw [(sh_fld hk).2.2.2.1, u1_eq]) (by rw [nI_toInt (by omega)]; omega) (by rw [nI_toInt (by omega), h2]; omega), nI_clamp (by omega), sh_cells hk, u1_u1]
        refine Exists.intro _ (And.intro (e) ?_)
        refine ih (i + 1) (C.set i v) _ (by omega) (by rw [List.length_set]; exact h2) (fun j hj => ?_) (nI_1 i)
        rw [getD_set]
        split
        · rfl
        · next h => exact h3 j (by have : ¬ i = j := fun e => h ⟨e, by omega⟩; omega)
  have elen : ∀ xs, ba_len xs (wW f l q) (34 + 2 * k + 2) = some 60 := by
    intro xs
    unfold ba_len
    simp only [(sh_fld hk).2.2.2.1, hl]
    rfl
  refine run_J7_fill_53178 5 ?_
  refine Exists.intro _ (And.intro (elen _) ?_)
  have h := loop 60 0 (l (34 + 2 * k + 1)) 0 rfl hl (fun j hj => absurd hj (by omega)) rfl
  rw [u1_self] at h
  exact h
theorem s_begins {k : Nat} (hk : k < 4) {a n : Int32} (hl : (l (34 + 2 * k + 1)).length = 60) (hP : ∀ C : List Int32, C.length = 60 → (∀ j, j < 60 → C.getD j 0 = 0) → P none (wW (u2 (u2 f (34 + 2 * k) 1 a) (34 + 2 * k) 2 n) (u1 l (34 + 2 * k + 1) C) q)) : ba_go scr ix_X5_begins 0 [some (.ref (34 + 2 * k + 1)), some (.int a), some (.int n)] [] (wW f l q) 0 0 P := by
  refine run_X5_begins 30 ?_
  refine Exists.intro _ (And.intro ((sh_fld hk).1) ?_)
  refine And.intro rfl (s_fill hk hl (fun C h1 h2 => ?_))
  refine Exists.intro _ (And.intro ((sh_set hk).1) ?_)
  refine Exists.intro _ (And.intro ((sh_set hk).2) ?_)
  exact hP C h1 h2
/-- the reference's zeros -/
theorem r_sheetloop {k : Int32} (hk : 0 ≤ k.toInt) (hk2 : k.toInt ≤ 3) {a n : Int32} (hn : 0 ≤ n.toInt) (hn2 : n.toInt ≤ 60) {L0 : List Int32} (hP : ∀ Z : List Int32, Z.length = 240 → (∀ j, Z.getD j 0 = if 60 * k.toNatClampNeg ≤ j ∧ j < 60 * k.toNatClampNeg + n.toNatClampNeg then 0 else L0.getD j 0) → P (some (.int 1)) (wW (u2 f 42 0 0) (u1 l 64 Z) q)) :
    ∀ (m i : Nat) (Z : List Int32) (x : Int32), i + m = n.toNatClampNeg → Z.length = 240 → (∀ j, Z.getD j 0 = if 60 * k.toNatClampNeg ≤ j ∧ j < 60 * k.toNatClampNeg + i then 0 else L0.getD j 0) → x = nI i → ba_go scr ix_X9_sheet 65 [some (.ref 43), some (.int k), some (.int a), some (.int n), some (.int x)] [] (wW f (u1 l 64 Z) q) 0 0 P := by
  have hx := ix_i hn
  have hy := ix_i hk
  intro m
  induction m with
  | zero =>
    intro i Z x h1 h2 h3 h4
    subst h4
    refine run_X9_sheet 20 ?_
    refine And.intro (fun c => ?_) (fun c => ?_)
    · repeat (first | refine And.intro (fun e => absurd e (by decide)) (fun e => ?_) | refine And.intro (fun e => ?_) (fun e => absurd e (by decide)) | refine Exists.intro _ (And.intro rfl ?_) | refine And.intro rfl ?_)
      refine r_refused ?_
      exact hP Z h2 (fun j => by rw [h3 j, show i = n.toNatClampNeg by omega])
    · exfalso
      have c : ¬ n ≤ nI i := c
      rw [le_i, nI_toInt (by omega)] at c
      omega
  | succ m ih =>
    intro i Z x h1 h2 h3 h4
    subst h4
    refine run_X9_sheet 14 ?_
    refine And.intro (fun c => ?_) (fun c => ?_)
    · exfalso
      have c : n ≤ nI i := c
      rw [le_i, nI_toInt (by omega)] at c
      omega
    · have e6 := ix60 (k := k) (i := nI i) hk hk2 (by rw [nI_toInt (by omega)]; omega) (by rw [nI_toInt (by omega)]; omega)
      rw [nI_toInt (by omega), nI_clamp (by omega)] at e6
      repeat (first | refine And.intro (fun e => absurd e (by decide)) (fun e => ?_) | refine And.intro (fun e => ?_) (fun e => absurd e (by decide)) | refine Exists.intro _ (And.intro rfl ?_) | refine And.intro rfl ?_)
      have e : ba_stI (wW f (u1 l 64 Z) q) 65 (60 * k + nI i) 0 = some (wW f (u1 l 64 (Z.set (60 * k.toNatClampNeg + i) 0)) q) := by
        rw [stI_of (l := Z) rfl (by rw [e6.1]; omega) (by rw [e6.1, h2]; omega), e6.2]
        show some (wW f (u1 (u1 l 64 Z) 64 (Z.set (60 * k.toNatClampNeg + i) 0)) q) = _
        rw [u1_u1]
      refine Exists.intro _ (And.intro (e) ?_)
      refine ih (i + 1) _ _ (by omega) (by rw [List.length_set]; exact h2) (fun j => ?_) (nI_1 i)
      rw [getD_set, h3 j]
      by_cases h : 60 * k.toNatClampNeg + i = j
      · rw [if_pos ⟨h, by rw [h2]; omega⟩, if_pos (by omega)]
      · rw [if_neg (fun g => h g.1)]
        by_cases g : 60 * k.toNatClampNeg ≤ j ∧ j < 60 * k.toNatClampNeg + i
        · rw [if_pos g, if_pos (by omega)]
        · rw [if_neg g, if_neg (by omega)]
theorem both_sheet {k a n : Int32} (hI : Inv f l q) : both scr ix_X8_sheet ix_X9_sheet [some (.ref 1), some (.int k), some (.int a), some (.int n), none] [some (.ref 43), some (.int k), some (.int a), some (.int n), none] f l q := by
  intro P hP
  obtain ⟨⟨⟨hn1, hn2, hn3⟩, hL, hE, hR⟩, hPp, hD, hM, hS⟩ := id hI
  have z60 : (60 : Int32).toInt = 60 := rfl
  refine run_X8_sheet 80 ?_
  refine Exists.intro (wW (u2 f 0 6 0) l q) (And.intro rfl ?_)
  repeat (first | refine And.intro (fun e => absurd e (by decide)) (fun e => ?_) | refine And.intro (fun e => ?_) (fun e => absurd e (by decide)) | refine Exists.intro _ (And.intro rfl ?_) | refine And.intro rfl ?_)
  refine s_sheetOf (f := u2 f 0 6 0) (fun c d => ?_) (fun c => ?_)
  · obtain ⟨⟨hk, hi⟩, hs, hC, h62, h63, h64, h65⟩ := sh0 hI c d
    have isC : ∀ f' : Nat → Nat → Int32, ba_isC (wW f' l q) (34 + 2 * k.toNatClampNeg + 1) 5 = true := fun f' => isC_of (sh_fld hk).2.2.2.2
    have out : (¬ (0 ≤ a.toInt ∧ a.toInt ≤ 2) ∨ 60 < n.toInt) → P (some (.int (-2))) (wW (u2 f 0 6 0) l q) := by
      intro hbad
      refine hP _ _ _ _ (fun P2 h2 => ?_)
      refine run_X9_sheet 80 ?_
      repeat (first | refine And.intro (fun e => absurd e (by decide)) (fun e => ?_) | refine And.intro (fun e => ?_) (fun e => absurd e (by decide)) | refine Exists.intro _ (And.intro rfl ?_) | refine And.intro rfl ?_)
      refine s_noSheet (fun g1 g2 => ?_) (fun g1 => absurd ⟨c, by omega⟩ g1)
      repeat (first | refine And.intro (fun e => absurd e (by decide)) (fun e => ?_) | refine And.intro (fun e => ?_) (fun e => absurd e (by decide)) | refine Exists.intro _ (And.intro rfl ?_) | refine And.intro rfl ?_)
      refine s_in (x := a.toInt) (a := 0) (b := 2) l64 rfl rfl (fun g1 g2 => ?_) (fun g1 => ?_)
      · repeat (first | refine And.intro (fun e => absurd e (by decide)) (fun e => ?_) | refine And.intro (fun e => ?_) (fun e => absurd e (by decide)) | refine Exists.intro _ (And.intro rfl ?_) | refine And.intro rfl ?_)
        refine And.intro (fun g => ?_) (fun g => ?_)
        · have g : n ≤ 60 := g
          rw [le_i, z60] at g
          omega
        · repeat (first | refine And.intro (fun e => absurd e (by decide)) (fun e => ?_) | refine And.intro (fun e => ?_) (fun e => absurd e (by decide)) | refine Exists.intro _ (And.intro rfl ?_) | refine And.intro rfl ?_)
          refine r_refused (f := u2 f 0 6 0) ?_
          exact h2 _ _ _ (inv_fault (v := 0) hI)
      · repeat (first | refine And.intro (fun e => absurd e (by decide)) (fun e => ?_) | refine And.intro (fun e => ?_) (fun e => absurd e (by decide)) | refine Exists.intro _ (And.intro rfl ?_) | refine And.intro rfl ?_)
        refine r_refused (f := u2 f 0 6 0) ?_
        exact h2 _ _ _ (inv_fault (v := 0) hI)
    repeat (first | refine And.intro (fun e => absurd e (by decide)) (fun e => ?_) | refine And.intro (fun e => ?_) (fun e => absurd e (by decide)) | refine Exists.intro _ (And.intro rfl ?_) | refine And.intro rfl ?_)
    refine s_below (bi := 3) rfl (fun c1 c2 => ?_) (fun c1 => ?_)
    · repeat (first | refine And.intro (fun e => absurd e (by decide)) (fun e => ?_) | refine And.intro (fun e => ?_) (fun e => absurd e (by decide)) | refine Exists.intro _ (And.intro rfl ?_) | refine And.intro rfl ?_)
      refine And.intro (fun g => ?_) (fun g => ?_)
      · have g : n ≤ 60 := g
        rw [le_i, z60] at g
        refine And.intro (fun j => ?_) (fun j => ?_)
        · have j : 0 ≤ n := j
          rw [le_i, zi] at j
          have hx := ix_i j
          refine And.intro (ck rfl rfl rfl rfl (isC _)) (s_begins (f := u2 f 0 6 0) hk hC (fun C hC1 hC2 => ?_))
          repeat (first | refine And.intro (fun e => absurd e (by decide)) (fun e => ?_) | refine And.intro (fun e => ?_) (fun e => absurd e (by decide)) | refine Exists.intro _ (And.intro rfl ?_) | refine And.intro rfl ?_)
          refine hP _ _ _ _ (fun P2 h2 => ?_)
          obtain ⟨F, hF⟩ : ∃ F, F = u2 (u2 (u2 f 0 6 0) (34 + 2 * k.toNatClampNeg) 1 a) (34 + 2 * k.toNatClampNeg) 2 n := ⟨_, rfl⟩
          rw [← hF]
          obtain ⟨G, hG⟩ : ∃ G, G = u1 l (34 + 2 * k.toNatClampNeg + 1) C := ⟨_, rfl⟩
          rw [← hG]
          have g62 : G 62 = l 62 := by rw [hG]; exact u1_ne (by omega)
          have g63 : G 63 = l 63 := by rw [hG]; exact u1_ne (by omega)
          have g64 : G 64 = l 64 := by rw [hG]; exact u1_ne (by omega)
          refine run_X9_sheet 26 ?_
          repeat (first | refine And.intro (fun e => absurd e (by decide)) (fun e => ?_) | refine And.intro (fun e => ?_) (fun e => absurd e (by decide)) | refine Exists.intro _ (And.intro rfl ?_) | refine And.intro rfl ?_)
          refine s_noSheet (fun g1 g2 => ?_) (fun g1 => absurd ⟨c, by omega⟩ g1)
          repeat (first | refine And.intro (fun e => absurd e (by decide)) (fun e => ?_) | refine And.intro (fun e => ?_) (fun e => absurd e (by decide)) | refine Exists.intro _ (And.intro rfl ?_) | refine And.intro rfl ?_)
          refine s_in (x := a.toInt) (a := 0) (b := 2) l64 rfl rfl (fun g1 g2 => ?_) (fun g1 => absurd ⟨c1, by omega⟩ g1)
          repeat (first | refine And.intro (fun e => absurd e (by decide)) (fun e => ?_) | refine And.intro (fun e => ?_) (fun e => absurd e (by decide)) | refine Exists.intro _ (And.intro rfl ?_) | refine And.intro rfl ?_)
          refine And.intro (fun _ => ?_) (fun e => absurd (by show n ≤ 60; rw [le_i, z60]; exact g) e)
          refine And.intro (fun _ => ?_) (fun e => absurd (by show 0 ≤ n; rw [le_i, zi]; exact j) e)
          repeat (first | refine And.intro (fun e => absurd e (by decide)) (fun e => ?_) | refine And.intro (fun e => ?_) (fun e => absurd e (by decide)) | refine Exists.intro _ (And.intro rfl ?_) | refine And.intro rfl ?_)
          refine Exists.intro (wW F (u1 G 62 ((l 62).set k.toNatClampNeg n)) q) (And.intro (by rw [stI_of (l := l 62) (by rw [← g62]; rfl) c (by rw [h62]; omega)]; rfl) ?_)
          repeat (first | refine And.intro (fun e => absurd e (by decide)) (fun e => ?_) | refine And.intro (fun e => ?_) (fun e => absurd e (by decide)) | refine Exists.intro _ (And.intro rfl ?_) | refine And.intro rfl ?_)
          refine Exists.intro (wW F (u1 (u1 G 62 ((l 62).set k.toNatClampNeg n)) 63 ((l 63).set k.toNatClampNeg a)) q) (And.intro (by rw [stI_of (l := l 63) (by rw [← g63]; rfl) c (by rw [h63]; omega)]; rfl) ?_)
          have hl0 : wW F (u1 (u1 G 62 ((l 62).set k.toNatClampNeg n)) 63 ((l 63).set k.toNatClampNeg a)) q = wW F (u1 (u1 (u1 G 62 ((l 62).set k.toNatClampNeg n)) 63 ((l 63).set k.toNatClampNeg a)) 64 (l 64)) q := by
            rw [show l 64 = (u1 (u1 G 62 ((l 62).set k.toNatClampNeg n)) 63 ((l 63).set k.toNatClampNeg a)) 64 from by rw [u1_ne (by decide), u1_ne (by decide), g64], u1_self]
          rw [hl0]
          refine r_sheetloop (L0 := l 64) c (by omega) j g (fun Z hZ1 hZ2 => ?_) n.toNatClampNeg 0 (l 64) _ (by omega) h64 (fun j' => by rw [if_neg (by omega)]) rfl
          have hFt := inv_fault (v := 0) hI
          refine h2 _ _ _ (inv_sh hk hFt (fun x y hx => ?_) (fun x hx h2 h3 h4 => ?_) ?_ ?_ ?_ ?_ ?_ ?_)
          · rw [hF]
            exact u2_congr (by rw [u2_ne hx, u2_ne hx])
          · rw [u1_ne h4, u1_ne h3, u1_ne h2, hG, u1_ne hx]
          · rw [u1_ne (by omega), u1_ne (by omega), u1_ne (by omega), hG, u1_eq]; exact hC1
          · rw [u1_ne (by decide), u1_ne (by decide), u1_eq, List.length_set]; exact h62
          · rw [u1_ne (by decide), u1_eq, List.length_set]; exact h63
          · rw [u1_eq]; exact hZ1
          · have eA : (u2 F 42 0 0) (34 + 2 * k.toNatClampNeg) 1 = a := by rw [u2_ne (by omega), hF, u2_nj (by decide), u2_eq]
            have eB : (u2 F 42 0 0) (34 + 2 * k.toNatClampNeg) 2 = n := by rw [u2_ne (by omega), hF, u2_eq]
            rw [eA, eB]
            rw [u1_ne (i := 64) (x := 62) (by decide), u1_ne (i := 63) (x := 62) (by decide), u1_eq, u1_ne (i := 64) (x := 63) (by decide), u1_eq, u1_eq, u1_ne (i := 64) (x := 34 + 2 * k.toNatClampNeg + 1) (by omega), u1_ne (i := 63) (x := 34 + 2 * k.toNatClampNeg + 1) (by omega), u1_ne (i := 62) (x := 34 + 2 * k.toNatClampNeg + 1) (by omega), hG, u1_eq]
            rw [getD_set, if_pos ⟨rfl, by rw [h62]; exact hk⟩, getD_set, if_pos ⟨rfl, by rw [h63]; exact hk⟩]
            refine ⟨⟨by omega, by omega⟩, ⟨j, g⟩, fun e => ?_, fun _ => ⟨rfl, rfl, fun i hi => ?_⟩⟩
            · rw [e, m1_i] at c1
              omega
            · rw [hZ2, if_pos (by omega), hC2 i (by omega)]
          · intro j' hj' hne
            rw [u1_ne (i := 64) (x := 62) (by decide), u1_ne (i := 63) (x := 62) (by decide), u1_eq, u1_ne (i := 64) (x := 63) (by decide), u1_eq, u1_eq]
            rw [getD_set, if_neg (fun g => hne g.1.symm), getD_set, if_neg (fun g => hne g.1.symm)]
            refine ⟨rfl, rfl, fun i hi => ?_⟩
            rw [hZ2, if_neg (by omega)]
        · have j : ¬ 0 ≤ n := j
          rw [le_i, zi] at j
          repeat (first | refine And.intro (fun e => absurd e (by decide)) (fun e => ?_) | refine And.intro (fun e => ?_) (fun e => absurd e (by decide)) | refine Exists.intro _ (And.intro rfl ?_) | refine And.intro rfl ?_)
          refine s_stopped (f := u2 f 0 6 0) ?_
          rw [uf]
          repeat (first | refine And.intro (fun e => absurd e (by decide)) (fun e => ?_) | refine And.intro (fun e => ?_) (fun e => absurd e (by decide)) | refine Exists.intro _ (And.intro rfl ?_) | refine And.intro rfl ?_)
          refine hP _ _ _ _ (fun P2 h2 => ?_)
          refine run_X9_sheet 80 ?_
          repeat (first | refine And.intro (fun e => absurd e (by decide)) (fun e => ?_) | refine And.intro (fun e => ?_) (fun e => absurd e (by decide)) | refine Exists.intro _ (And.intro rfl ?_) | refine And.intro rfl ?_)
          refine s_noSheet (fun g1 g2 => ?_) (fun g1 => absurd ⟨c, by omega⟩ g1)
          repeat (first | refine And.intro (fun e => absurd e (by decide)) (fun e => ?_) | refine And.intro (fun e => ?_) (fun e => absurd e (by decide)) | refine Exists.intro _ (And.intro rfl ?_) | refine And.intro rfl ?_)
          refine s_in (x := a.toInt) (a := 0) (b := 2) l64 rfl rfl (fun g1 g2 => ?_) (fun g1 => absurd ⟨c1, by omega⟩ g1)
          repeat (first | refine And.intro (fun e => absurd e (by decide)) (fun e => ?_) | refine And.intro (fun e => ?_) (fun e => absurd e (by decide)) | refine Exists.intro _ (And.intro rfl ?_) | refine And.intro rfl ?_)
          refine And.intro (fun _ => ?_) (fun e => absurd (by show n ≤ 60; rw [le_i, z60]; exact g) e)
          refine And.intro (fun e => absurd (by have e : 0 ≤ n := e; rw [le_i, zi] at e; exact e) j) (fun _ => ?_)
          repeat (first | refine And.intro (fun e => absurd e (by decide)) (fun e => ?_) | refine And.intro (fun e => ?_) (fun e => absurd e (by decide)) | refine Exists.intro _ (And.intro rfl ?_) | refine And.intro rfl ?_)
          refine r_failed (f := u2 f 0 6 4) ?_
          exact h2 _ _ _ (inv_fault (v := 4) hI)
      · have g : ¬ n ≤ 60 := g
        rw [le_i, z60] at g
        repeat (first | refine And.intro (fun e => absurd e (by decide)) (fun e => ?_) | refine And.intro (fun e => ?_) (fun e => absurd e (by decide)) | refine Exists.intro _ (And.intro rfl ?_) | refine And.intro rfl ?_)
        exact out (Or.inr (by omega))
    · repeat (first | refine And.intro (fun e => absurd e (by decide)) (fun e => ?_) | refine And.intro (fun e => ?_) (fun e => absurd e (by decide)) | refine Exists.intro _ (And.intro rfl ?_) | refine And.intro rfl ?_)
      exact out (Or.inl (fun g => c1 ⟨g.1, by omega⟩))
  · repeat (first | refine And.intro (fun e => absurd e (by decide)) (fun e => ?_) | refine And.intro (fun e => ?_) (fun e => absurd e (by decide)) | refine Exists.intro _ (And.intro rfl ?_) | refine And.intro rfl ?_)
    refine hP _ _ _ _ (fun P2 h2 => ?_)
    refine run_X9_sheet 80 ?_
    repeat (first | refine And.intro (fun e => absurd e (by decide)) (fun e => ?_) | refine And.intro (fun e => ?_) (fun e => absurd e (by decide)) | refine Exists.intro _ (And.intro rfl ?_) | refine And.intro rfl ?_)
    refine s_noSheet (fun g1 g2 => absurd ⟨g1, by omega⟩ c) (fun g1 => ?_)
    repeat (first | refine And.intro (fun e => absurd e (by decide)) (fun e => ?_) | refine And.intro (fun e => ?_) (fun e => absurd e (by decide)) | refine Exists.intro _ (And.intro rfl ?_) | refine And.intro rfl ?_)
    refine r_refused (f := u2 f 0 6 0) ?_
    exact h2 _ _ _ (inv_fault (v := 0) hI)
end SE
