/-! war -/
section WF
variable {scr : Option (List Int32)} {P : ba_P} {w : ba_W} {f : Nat → Nat → Int32} {l : Nat → List Int32} {q : Nat → List Int64}
variable {F : Nat → Nat → Int32} {L : Nat → List Int32}
theorem RS.fault {t p : Nat} {v : Int32} (h : RS f F l L t p) : RS (u2 f 42 0 v) (u2 F 42 0 v) l L t p :=
  ⟨fun x y hx => u2_congr (h.1 x y hx), h.2.1, h.2.2.1, by rw [u2_nj (by decide)]; exact h.2.2.2.1, by rw [u2_nj (by decide)]; exact h.2.2.2.2⟩
theorem inv_rs {t p : Nat} (hI : Inv f l q) (h : RS f F l L t p) : Inv F L q := by
  obtain ⟨⟨⟨hn1, hn2, hn3⟩, hL, hE, hR⟩, hPp, hD, hM, hS⟩ := id hI
  have hf' : ∀ x, ¬ x = 42 → F x = f x := fun x hx => funext fun y => h.1 x y (by omega)
  have e2 := hf' 2 (by omega)
  have e9 := hf' 9 (by omega)
  have e10 := hf' 10 (by omega)
  have e11 := hf' 11 (by omega)
  have e12 := hf' 12 (by omega)
  have e13 := hf' 13 (by omega)
  have e14 := hf' 14 (by omega)
  have e29 := hf' 29 (by omega)
  have e0 := hf' 0 (by omega)
  have e33 := hf' 33 (by omega)
  have e42 : ∀ y, ¬ (y = 9 ∨ y = 10) → F 42 y = f 42 y := fun y hy => h.1 42 y (by omega)
  have g : ∀ x, ¬ (49 ≤ x ∧ x ≤ 54) → L x = l x := h.2.1
  refine ⟨⟨?_, ?_, ?_, ?_⟩, ?_, ?_, ?_, ?_⟩
  · unfold IvN; rw [e2, e42 1 (by omega)]; exact ⟨hn1, hn2, hn3⟩
  · unfold IvL
    rw [g 3 (by omega), g 5 (by omega), g 6 (by omega), g 7 (by omega), g 17 (by omega), g 19 (by omega), g 20 (by omega), g 21 (by omega), g 30 (by omega), g 31 (by omega), g 35 (by omega), g 37 (by omega), g 39 (by omega), g 41 (by omega), g 55 (by omega), g 56 (by omega), g 57 (by omega), g 62 (by omega), g 63 (by omega), g 64 (by omega), g 65 (by omega)]
    exact ⟨hL.1, hL.2.1, hL.2.2.1, hL.2.2.2.1, h.2.2.1, hL.2.2.2.2.2⟩
  · unfold IvE col; rw [e9, e10, e11, e12, e13, e14, g 43 (by omega), g 3 (by omega), g 44 (by omega), g 5 (by omega), g 45 (by omega), g 46 (by omega), g 47 (by omega), g 48 (by omega), g 60 (by omega), g 30 (by omega), g 61 (by omega), g 31 (by omega)]; exact hE
  · unfold IvR; rw [g 5 (by omega), g 3 (by omega)]; exact hR
  · unfold IvP; rw [e9, e10, e11, e12, e13, e14]; exact hPp
  · unfold IvD; rw [e29, e42 22 (by omega), g 30 (by omega), e2]; exact hD
  · unfold IvM; rw [e42 2 (by omega), e42 0 (by omega), e42 29 (by omega), e0, e33]; exact hM
  · refine IvS.mk (fun j hj => ?_)
    have h1 := hS.at hj
    rw [g 62 (by omega), g 63 (by omega), g 64 (by omega), hf' (34 + 2 * j) (by omega), g (34 + 2 * j + 1) (by omega)]
    exact h1
/-- the reference, up to the sheet -/
theorem rw_start {k a i n : Int32} (hk : 0 ≤ k.toInt ∧ k.toInt < 4) (ha : 0 ≤ a.toInt ∧ a.toInt ≤ 2) (h : ba_go scr ix_X9_war 32 [some (.ref 43), some (.int k), some (.int a), some (.int i), some (.int n), none, none] [] (wW F L q) 0 0 P) :
    ba_go scr ix_X9_war 0 [some (.ref 43), some (.int k), some (.int a), some (.int i), some (.int n), none, none] [] (wW F L q) 0 0 P := by
  refine run_X9_war 9 ?_
  refine And.intro rfl (s_noSheet (fun g1 g2 => ?_) (fun g1 => absurd ⟨hk.1, by omega⟩ g1))
  refine And.intro (fun _ => ?_) (fun e => absurd rfl e)
  refine And.intro rfl (s_in (x := a.toInt) (a := 0) (b := 2) l64 rfl rfl (fun g1 g2 => ?_) (fun g1 => absurd ha g1))
  refine And.intro (fun _ => ?_) (fun e => absurd (by decide) e)
  exact h
theorem both_war {k a i n : Int32} (hI : Inv f l q) : both scr ix_X8_war ix_X9_war [some (.ref 1), some (.int k), some (.int a), some (.int i), some (.int n), none, none, none] [some (.ref 43), some (.int k), some (.int a), some (.int i), some (.int n), none, none] f l q := by
  intro P hP
  obtain ⟨⟨m3, m4⟩, m5, m6, m7, m8⟩ := plens hI
  obtain ⟨⟨⟨hn1, hn2, hn3⟩, hL, hE, hR⟩, hPp, hD, hM, hS⟩ := id hI
  have bn := fb_rng n
  have ref1 : ¬ (0 ≤ k.toInt ∧ k.toInt < 4) → P (some (.int (-1))) (wW (u2 f 0 6 0) l q) := by
    intro hb
    refine hP _ _ _ _ (fun P2 h2 => ?_)
    refine run_X9_war 60 ?_
    repeat (first | refine And.intro (fun e => absurd e (by decide)) (fun e => ?_) | refine And.intro (fun e => ?_) (fun e => absurd e (by decide)) | refine Exists.intro _ (And.intro rfl ?_) | refine And.intro rfl ?_)
    refine s_noSheet (fun g1 g2 => absurd ⟨g1, by omega⟩ hb) (fun g1 => ?_)
    repeat (first | refine And.intro (fun e => absurd e (by decide)) (fun e => ?_) | refine And.intro (fun e => ?_) (fun e => absurd e (by decide)) | refine Exists.intro _ (And.intro rfl ?_) | refine And.intro rfl ?_)
    refine r_refused (f := u2 f 0 6 0) ?_
    exact h2 _ _ _ (inv_fault (v := 0) hI)
  have ref2 : (0 ≤ k.toInt ∧ k.toInt < 4) → ¬ (0 ≤ a.toInt ∧ a.toInt ≤ 2) → P (some (.int (-2))) (wW (u2 f 0 6 0) l q) := by
    intro hk hb
    refine hP _ _ _ _ (fun P2 h2 => ?_)
    refine run_X9_war 60 ?_
    repeat (first | refine And.intro (fun e => absurd e (by decide)) (fun e => ?_) | refine And.intro (fun e => ?_) (fun e => absurd e (by decide)) | refine Exists.intro _ (And.intro rfl ?_) | refine And.intro rfl ?_)
    refine s_noSheet (fun g1 g2 => ?_) (fun g1 => absurd ⟨hk.1, by omega⟩ g1)
    repeat (first | refine And.intro (fun e => absurd e (by decide)) (fun e => ?_) | refine And.intro (fun e => ?_) (fun e => absurd e (by decide)) | refine Exists.intro _ (And.intro rfl ?_) | refine And.intro rfl ?_)
    refine s_in (x := a.toInt) (a := 0) (b := 2) l64 rfl rfl (fun g1 g2 => absurd ⟨g1, g2⟩ hb) (fun g1 => ?_)
    repeat (first | refine And.intro (fun e => absurd e (by decide)) (fun e => ?_) | refine And.intro (fun e => ?_) (fun e => absurd e (by decide)) | refine Exists.intro _ (And.intro rfl ?_) | refine And.intro rfl ?_)
    refine r_refused (f := u2 f 0 6 0) ?_
    exact h2 _ _ _ (inv_fault (v := 0) hI)
  refine run_X8_war 80 ?_
  refine Exists.intro (wW (u2 f 0 6 0) l q) (And.intro rfl ?_)
  repeat (first | refine And.intro (fun e => absurd e (by decide)) (fun e => ?_) | refine And.intro (fun e => ?_) (fun e => absurd e (by decide)) | refine Exists.intro _ (And.intro rfl ?_) | refine And.intro rfl ?_)
  refine s_sheetOf (f := u2 f 0 6 0) (fun c d => ?_) (fun c => ?_)
  · obtain ⟨⟨hk, hi⟩, hs, hC, h62, h63, h64, h65⟩ := sh0 hI c d
    obtain ⟨sv1, sv2⟩ := svf hs
    have e0 : ∀ (v : Int32) (y : Nat), (u2 f 0 6 v) (34 + 2 * k.toNatClampNeg) y = f (34 + 2 * k.toNatClampNeg) y := fun v y => u2_ne (by omega)
    have isC : ∀ f' : Nat → Nat → Int32, ba_isC (wW f' l q) (34 + 2 * k.toNatClampNeg + 1) 5 = true := fun f' => isC_of (sh_fld hk).2.2.2.2
    repeat (first | refine And.intro (fun e => absurd e (by decide)) (fun e => ?_) | refine And.intro (fun e => ?_) (fun e => absurd e (by decide)) | refine Exists.intro _ (And.intro rfl ?_) | refine And.intro rfl ?_)
    refine s_below (bi := 3) rfl (fun c1 c2 => ?_) (fun c1 => ?_)
    · refine And.intro (fun _ => ?_) (fun e => absurd (by decide) e)
      have bad : ∀ x : Int32, (f (34 + 2 * k.toNatClampNeg) 1 = -1 → x = 1) → (¬ f (34 + 2 * k.toNatClampNeg) 1 = -1 → ¬ f (34 + 2 * k.toNatClampNeg) 1 = a → x = 2) → (¬ f (34 + 2 * k.toNatClampNeg) 1 = -1 → f (34 + 2 * k.toNatClampNeg) 1 = a → n.toInt < 0 → x = 4) → (¬ f (34 + 2 * k.toNatClampNeg) 1 = -1 → f (34 + 2 * k.toNatClampNeg) 1 = a → 0 ≤ n.toInt → ¬ (0 ≤ i.toInt ∧ i.toInt + n.toInt ≤ (f (34 + 2 * k.toNatClampNeg) 2).toInt) ∧ x = 3) → P (some (.int (-10 - x))) (wW (u2 f 0 6 x) l q) := by
        intro x x1 x2 x4 x3
        refine hP _ _ _ _ (fun P2 h2 => rw_start (F := u2 f 0 6 x) ⟨c, d⟩ ⟨c1, by omega⟩ ?_)
        have h3 := h2 _ _ _ (inv_fault (v := x) hI)
        refine run_X9_war 30 ?_
        refine And.intro rfl (r_cellsBarred (f := u2 f 0 6 x) c (by omega) h62 h63 (by rw [l64]; omega) (fun g => ?_) (fun g g2 => ?_) (fun g g2 g3 => ?_) (fun g g2 g3 g4 => ?_) (fun g g2 g3 g4 g5 => ?_))
        · rw [x1 (sv1.mp g)] at h3 ⊢
          repeat (first | refine And.intro (fun e => absurd e (by decide)) (fun e => ?_) | refine And.intro (fun e => ?_) (fun e => absurd e (by decide)) | refine Exists.intro _ (And.intro rfl ?_) | refine And.intro rfl ?_)
          exact h3
        · have hne : ¬ f (34 + 2 * k.toNatClampNeg) 1 = -1 := fun e => by have := sv1.mpr e; omega
          rw [x2 hne (by rw [← (sv2 hne).2]; exact g2)] at h3 ⊢
          repeat (first | refine And.intro (fun e => absurd e (by decide)) (fun e => ?_) | refine And.intro (fun e => ?_) (fun e => absurd e (by decide)) | refine Exists.intro _ (And.intro rfl ?_) | refine And.intro rfl ?_)
          exact h3
        · have hne : ¬ f (34 + 2 * k.toNatClampNeg) 1 = -1 := fun e => by have := sv1.mpr e; omega
          rw [l64] at g3
          rw [x4 hne (by rw [← (sv2 hne).2]; exact g2) g3] at h3 ⊢
          repeat (first | refine And.intro (fun e => absurd e (by decide)) (fun e => ?_) | refine And.intro (fun e => ?_) (fun e => absurd e (by decide)) | refine Exists.intro _ (And.intro rfl ?_) | refine And.intro rfl ?_)
          exact h3
        · have hne : ¬ f (34 + 2 * k.toNatClampNeg) 1 = -1 := fun e => by have := sv1.mpr e; omega
          rw [l64] at g3
          rw [(x3 hne (by rw [← (sv2 hne).2]; exact g2) g3).2] at h3 ⊢
          repeat (first | refine And.intro (fun e => absurd e (by decide)) (fun e => ?_) | refine And.intro (fun e => ?_) (fun e => absurd e (by decide)) | refine Exists.intro _ (And.intro rfl ?_) | refine And.intro rfl ?_)
          exact h3
        · have hne : ¬ f (34 + 2 * k.toNatClampNeg) 1 = -1 := fun e => by have := sv1.mpr e; omega
          rw [l64] at g3 g5
          exact absurd ⟨g4, by rw [← (sv2 hne).1]; exact g5⟩ (x3 hne (by rw [← (sv2 hne).2]; exact g2) g3).1
      refine And.intro (ck rfl rfl rfl rfl (isC _)) (s_faultOf (f := u2 f 0 6 0) hk (by rw [e0]; exact hs.2.1.1) (by rw [e0]; exact hs.2.1.2) (fun g => ?_) (fun g g2 => ?_) (fun g g2 g3 => ?_) (fun g g2 g3 g4 => ?_) (fun g g2 g3 g4 g5 => ?_))
      · rw [e0] at g
        repeat (first | refine And.intro (fun e => absurd e (by decide)) (fun e => ?_) | refine And.intro (fun e => ?_) (fun e => absurd e (by decide)) | refine Exists.intro _ (And.intro rfl ?_) | refine And.intro rfl ?_)
        refine s_stopped (f := u2 f 0 6 0) ?_
        rw [uf]
        exact bad 1 (fun _ => rfl) (fun e => absurd g e) (fun e => absurd g e) (fun e => absurd g e)
      · rw [e0] at g g2
        repeat (first | refine And.intro (fun e => absurd e (by decide)) (fun e => ?_) | refine And.intro (fun e => ?_) (fun e => absurd e (by decide)) | refine Exists.intro _ (And.intro rfl ?_) | refine And.intro rfl ?_)
        refine s_stopped (f := u2 f 0 6 0) ?_
        rw [uf]
        exact bad 2 (fun e => absurd e g) (fun _ _ => rfl) (fun _ e => absurd e g2) (fun _ e => absurd e g2)
      · rw [e0] at g g2
        repeat (first | refine And.intro (fun e => absurd e (by decide)) (fun e => ?_) | refine And.intro (fun e => ?_) (fun e => absurd e (by decide)) | refine Exists.intro _ (And.intro rfl ?_) | refine And.intro rfl ?_)
        refine s_stopped (f := u2 f 0 6 0) ?_
        rw [uf]
        exact bad 4 (fun e => absurd e g) (fun _ e => absurd g2 e) (fun _ _ _ => rfl) (fun _ _ e => absurd e (by omega))
      · rw [e0] at g g2 g4
        repeat (first | refine And.intro (fun e => absurd e (by decide)) (fun e => ?_) | refine And.intro (fun e => ?_) (fun e => absurd e (by decide)) | refine Exists.intro _ (And.intro rfl ?_) | refine And.intro rfl ?_)
        refine s_stopped (f := u2 f 0 6 0) ?_
        rw [uf]
        exact bad 3 (fun e => absurd e g) (fun _ e => absurd g2 e) (fun _ _ e => absurd e (by omega)) (fun _ _ _ => ⟨g4, rfl⟩)
      · rw [e0] at g g2 g5
        have h60 := hs.2.1.2
        obtain ⟨s1, s2, s3⟩ := hs.2.2.2 g
        have hsz := ix_i hs.2.1.1
        obtain ⟨I0, rfl, hI0⟩ := nI_ex g4
        obtain ⟨N, rfl, hN0⟩ := nI_ex g3
        obtain ⟨K, rfl, hK0⟩ := nI_ex c
        rw [nI_clamp (by omega)] at hk hC isC s1 s2 s3 hs e0 hsz g g2 g5 h60 ⊢
        have hK4 : K < 4 := hk
        have hIN : I0 + N ≤ 60 := by omega
        obtain ⟨C, hCe⟩ : ∃ C : Nat → Int32, C = fun t => (l (34 + 2 * K + 1)).getD (I0 + t) 0 := ⟨_, rfl⟩
        have hCt : ∀ t, C t = (l (34 + 2 * K + 1)).getD (I0 + t) 0 := fun t => by rw [hCe]
        have big : ∀ t, t < N → (l 64).getD (60 * K + I0 + t) 0 = C t := fun t ht => by
          rw [Nat.add_assoc, hCt]
          exact s3 (I0 + t) (by omega)
        have hx60 : (Int8.ofInt 60).toInt32 * nI K + nI I0 = nI (60 * K + I0) := by
          show nI 60 * nI K + nI I0 = _
          rw [nI_mul, nI_add]
        have hbn : ∀ e, e ≤ 60 → ¬ nI e = (Int8.ofInt (-9)).toInt32 := fun e he h => by
          rw [eq_i, nI_toInt (by omega), show ((Int8.ofInt (-9)).toInt32).toInt = -9 by decide] at h
          omega
        -- the reference, up to its reading
        have pass : ∀ (F : Nat → Nat → Int32) (L : Nat → List Int32) (P2 : ba_P), L 62 = l 62 → L 63 = l 63 → ba_go scr ix_X9_war 52 [some (.ref 43), some (.int (nI K)), some (.int a), some (.int (nI I0)), some (.int (nI N)), some (.int 0), none] [] (wW F L q) 0 0 P2 → ba_go scr ix_X9_war 0 [some (.ref 43), some (.int (nI K)), some (.int a), some (.int (nI I0)), some (.int (nI N)), none, none] [] (wW F L q) 0 0 P2 := by
          intro F L P2 e62 e63 h
          refine rw_start ⟨c, d⟩ ⟨c1, by omega⟩ ?_
          have hb : 0 ≤ ((L 62).getD (nI K).toNatClampNeg 0).toInt := by rw [e62, nI_clamp (by omega), s1]; exact hs.2.1.1
          refine run_X9_war 10 ?_
          refine And.intro rfl (r_cellsBarred (f := F) c (by omega) (by rw [e62]; exact h62) (by rw [e63]; exact h63) (by rw [l64]; omega) (fun r => absurd hb (by omega)) (fun r r2 => absurd (by rw [e63, nI_clamp (by omega), s2]; exact g2) r2) (fun r r2 r3 => absurd r3 (by rw [l64]; omega)) (fun r r2 r3 r4 => absurd ⟨g4, by rw [l64, e62, nI_clamp (by omega), s1]; exact g5⟩ r4) (fun r r2 r3 r4 r5 => ?_))
          refine And.intro (fun _ => ?_) (fun e => absurd (by decide) e)
          exact h
        refine And.intro (fun _ => ?_) (fun e => absurd rfl e)
        refine And.intro rfl (s_firstFault (f := u2 f 0 6 0) (C := C) hK4 hC hIN hCt (fun e he => ?_) (fun hu hw => ?_))
        · have he60 : e ≤ 60 := by rcases he.2 with r | r <;> omega
          refine And.intro (fun r => absurd r (hbn e he60)) (fun _ => ?_)
          refine hP _ _ _ _ (fun P2 h2 => pass (u2 f 0 6 0) l P2 rfl rfl ?_)
          refine run_X9_war 40 ?_
          refine And.intro rfl (r_readsWar (f := u2 f 0 6 0) (C := C) hx60 h64 (by omega) big hL.2.2.2.2.1 (fun hu hw F L _ _ _ _ => absurd ⟨hu, hw⟩ (fb_no he)) (fun e' F L p he' hR2 => ?_))
          have ee := fb_un he' he
          subst ee
          refine And.intro (fun r => absurd rfl r) (fun _ => ?_)
          refine Exists.intro _ (And.intro (rfl) ?_)
          rw [hR2.2.2.2.1]
          refine And.intro rfl (r_refused ?_)
          exact h2 _ _ _ (inv_rs (inv_fault (v := 0) hI) hR2.fault)
        · obtain ⟨np, hnp⟩ : ∃ np, np = (N - 17) / 5 := ⟨_, rfl⟩
          have hN17 : 17 + 5 * np = N := by have := hw.1; have := hw.2; omega
          have hnp6 : np ≤ 6 := by
            by_cases e : np ≤ 6
            · exact e
            · exfalso
              have h1 := hu 47 (by omega)
              have h2 : Gb 47 (C 47) = false := rfl
              rw [h2] at h1
              exact absurd h1 (by decide)
          refine And.intro (fun _ => ?_) (fun e => absurd (by decide) e)
          refine Exists.intro _ (And.intro (rfl) ?_)
          refine And.intro rfl (s_peopleIn rfl (by omega) (by omega) ?_)
          rw [← hnp]
          refine And.intro rfl (s_beginsW (f := u2 f 0 6 0) (C := C) hK4 hC hCt hnp6 (by omega) hL.1.1 hL.1.2.1 (fun F1 L1 hE1 => ?_))
          obtain ⟨⟨x1, x2⟩, x3, x4, x5, x6, x7⟩ := hE1
          refine Exists.intro _ (And.intro (rfl) ?_)
          refine And.intro rfl (run_X3_clear 10 ?_)
          refine Exists.intro (wW (u2 F1 29 3 0) L1 q) (And.intro rfl ?_)
          refine Exists.intro (wW (u2 (u2 F1 29 3 0) 0 5 0) L1 q) (And.intro rfl ?_)
          obtain ⟨F3, hF3⟩ : ∃ F3, F3 = u2 (u2 F1 29 3 0) 0 5 0 := ⟨_, rfl⟩
          rw [← hF3]
          have y1 : ∀ x y, ¬ x = 0 → ¬ x = 29 → F3 x y = F1 x y := fun x y a b => by rw [hF3, u2_ne a, u2_ne b]
          have y2 : F3 2 3 = nI np := by rw [y1 2 3 (by decide) (by decide)]; exact x5
          have y3 : F3 0 5 = 0 := by rw [hF3, u2_eq]
          have y4 : F3 0 6 = 0 := by rw [hF3, u2_nj (by decide), u2_ne (by decide), x1 0 6 (by decide) (by omega), u2_eq]
          have y5 : F3 29 3 = 0 := by rw [hF3, u2_ne (by decide), u2_eq]
          have y6 : ∀ x y, ¬ x = 0 → ¬ x = 2 → ¬ (9 ≤ x ∧ x < 15) → ¬ x = 29 → F3 x y = f x y := fun x y a b c d => by rw [y1 x y a d, x1 x y b c, u2_ne a]
          refine Exists.intro _ (And.intro (rfl) ?_)
          refine Exists.intro _ (And.intro (rfl) ?_)
          rw [y2]
          refine hP _ _ _ _ (fun P2 h2 => pass F3 L1 P2 (x2 62 (by decide) (by decide)) (x2 63 (by decide) (by decide)) ?_)
          have lx : ∀ t, 6 ≤ t → L1 t = l t := fun t ht => x2 t (by omega) (by omega)
          refine run_X9_war 9 ?_
          refine And.intro rfl (r_readsWar (f := F3) (l := L1) (C := C) hx60 (by rw [lx 64 (by decide)]; exact h64) (by omega) (fun t ht => by rw [lx 64 (by decide)]; exact big t ht) (by rw [lx 49 (by decide), lx 50 (by decide), lx 51 (by decide), lx 52 (by decide), lx 53 (by decide), lx 54 (by decide)]; exact hL.2.2.2.2.1) (fun _ _ F4 L2 k1 k2 k3 k4 => ?_) (fun e F4 L2 p he _ => absurd ⟨hu, hw⟩ (fb_no he)))
          rw [← hnp] at k1 k4
          refine And.intro (fun _ => ?_) (fun e => absurd (by decide) e)
          have lz : ∀ t, ¬ (49 ≤ t ∧ t ≤ 54) → L2 t = L1 t := k1.2.1
          refine r_warTail k1 hnp6 (by rw [lz 43 (by omega), lx 43 (by decide)]; exact m3) (by rw [lz 44 (by omega), lx 44 (by decide)]; exact m4) (by rw [lz 45 (by omega), lz 46 (by omega), lz 47 (by omega), lz 48 (by omega), lx 45 (by decide), lx 46 (by decide), lx 47 (by decide), lx 48 (by decide)]; exact ⟨m5, m6, m7, m8⟩) (fun G gx g43 g44 gl ga gb => ?_)
          have z : ∀ x y, ¬ x = 42 → (u2 (u2 (u2 (u2 F4 42 1 (nI np)) 42 2 0) 42 22 0) 42 0 0) x y = F3 x y := fun x y hx => by rw [u2_ne hx, u2_ne hx, u2_ne hx, u2_ne hx, k1.1 x y (by omega)]
          refine h2 _ _ _ (inv_war (C := C) (np := np) hI hnp6 (by rw [hN17]; exact hu) (fun x y a b c d e => by rw [z x y e]; exact y6 x y a b c d) ⟨u2_eq, ?_, ?_, ?_, ?_⟩ ⟨by rw [z 0 5 (by decide)]; exact y3, by rw [z 0 6 (by decide)]; exact y4⟩ (by rw [z 2 3 (by decide)]; exact y2) (by rw [z 29 3 (by decide)]; exact y5) (fun p hp => ?_) (fun p y hp h6 => ?_) (fun x a b c => ?_) ?_ ?_ ?_ ?_ gl ?_ (fun p hp => ?_) (fun p hp => ?_))
          · rw [u2_nj (by decide), u2_nj (by decide), u2_nj (by decide), u2_eq]
          · rw [u2_nj (by decide), u2_nj (by decide), u2_eq]
          · rw [u2_nj (by decide), u2_eq]
          · rw [u2_nj (by decide), u2_nj (by decide), u2_nj (by decide), u2_nj (by decide), k1.1 42 29 (by omega), y6 42 29 (by decide) (by decide) (by omega) (by decide)]
          · rw [z (9 + p) 0 (by omega), z (9 + p) 1 (by omega), z (9 + p) 2 (by omega), z (9 + p) 3 (by omega), y1 (9 + p) 0 (by omega) (by omega), y1 (9 + p) 1 (by omega) (by omega), y1 (9 + p) 2 (by omega) (by omega), y1 (9 + p) 3 (by omega) (by omega)]
            exact x6 p hp
          · rw [z (9 + p) y (by omega), y1 (9 + p) y (by omega) (by omega), x7 p y hp h6, u2_ne (by omega)]
          · rw [gx x (by omega), lz x (by omega), x2 x a b]
          · rw [gx 3 (by omega), lz 3 (by omega)]; exact x3
          · rw [gx 5 (by omega), lz 5 (by omega)]; exact x4
          · rw [g43]; exact ⟨k1.2.2.1.1, k2⟩
          · rw [g44]; exact ⟨k1.2.2.1.2.1, k3⟩
          · rw [gx 49 (by omega), gx 50 (by omega), gx 51 (by omega), gx 52 (by omega), gx 53 (by omega), gx 54 (by omega)]; exact k1.2.2.1
          · obtain ⟨b1, b2, b3, b4⟩ := ga p hp
            rw [b1, b2, b3, b4]
            exact k4 p hp
          · obtain ⟨b1, b2, b3, b4⟩ := gb p hp
            rw [b1, b2, b3, b4, lz 45 (by omega), lz 46 (by omega), lz 47 (by omega), lz 48 (by omega), lx 45 (by decide), lx 46 (by decide), lx 47 (by decide), lx 48 (by decide)]
            exact ⟨rfl, rfl, rfl, rfl⟩
    · repeat (first | refine And.intro (fun e => absurd e (by decide)) (fun e => ?_) | refine And.intro (fun e => ?_) (fun e => absurd e (by decide)) | refine Exists.intro _ (And.intro rfl ?_) | refine And.intro rfl ?_)
      exact ref2 ⟨c, d⟩ (fun e => c1 ⟨e.1, by omega⟩)
  · repeat (first | refine And.intro (fun e => absurd e (by decide)) (fun e => ?_) | refine And.intro (fun e => ?_) (fun e => absurd e (by decide)) | refine Exists.intro _ (And.intro rfl ?_) | refine And.intro rfl ?_)
    exact ref1 c
end WF
