/-! cell, put -/
section CE
variable {scr : Option (List Int32)} {P : ba_P} {w : ba_W} {f : Nat → Nat → Int32} {l : Nat → List Int32} {q : Nat → List Int64}
theorem uf2 {f : Nat → Nat → Int32} {x y : Int32} : u2 (u2 f 42 0 x) 42 0 y = u2 f 42 0 y := by
  funext a b
  unfold u2
  cases Nat.beq a 42 <;> cases Nat.beq b 0 <;> rfl
theorem svf {lane size sz ln : Int32} {C big : List Int32} {off : Nat} (h : sv lane size sz ln C big off) : (sz.toInt < 0 ↔ lane = -1) ∧ (¬ lane = -1 → sz = size ∧ ln = lane) := by
  constructor
  · constructor
    · intro g
      by_cases q0 : lane = -1
      · exact q0
      · exfalso
        rw [(h.2.2.2 q0).1] at g
        have := h.2.1.1
        omega
    · intro g
      rw [(h.2.2.1 g).1, m1_i]
      omega
  · intro g
    exact ⟨(h.2.2.2 g).1, (h.2.2.2 g).2.1⟩
theorem ix60 {k i : Int32} (h1 : 0 ≤ k.toInt) (h2 : k.toInt ≤ 3) (h3 : 0 ≤ i.toInt) (h4 : i.toInt < 60) : (60 * k + i).toInt = 60 * k.toInt + i.toInt ∧ (60 * k + i).toNatClampNeg = 60 * k.toNatClampNeg + i.toNatClampNeg := by
  have e : (60 : Int32).toInt = 60 := rfl
  have e1 : (60 * k).toInt = 60 * k.toInt := by rw [fb_mulI (by rw [e]; omega) (by rw [e]; omega), e]
  have e2 : (60 * k + i).toInt = 60 * k.toInt + i.toInt := by rw [fb_addI (by rw [e1]; omega) (by rw [e1]; omega), e1]
  refine ⟨e2, ?_⟩
  have := ix_i h1
  have := ix_i h3
  have := ix_i (x := 60 * k + i) (by omega)
  omega
theorem r_cell {k i a : Int32} (hk : 0 ≤ k.toInt) (hk2 : k.toInt ≤ 3) (ha : 0 ≤ a.toInt ∧ a.toInt ≤ 2) (h62 : (l 62).length = 4) (h63 : (l 63).length = 4) (h64 : (l 64).length = 240) (hsz : ((l 62).getD k.toNatClampNeg 0).toInt ≤ 60)
    (h1 : ((l 62).getD k.toNatClampNeg 0).toInt < 0 → P (some (.long (-9223372036854775808))) (wW (u2 f 42 0 1) l q))
    (h2 : 0 ≤ ((l 62).getD k.toNatClampNeg 0).toInt → ¬ (l 63).getD k.toNatClampNeg 0 = a → P (some (.long (-9223372036854775808))) (wW (u2 f 42 0 2) l q))
    (h3 : 0 ≤ ((l 62).getD k.toNatClampNeg 0).toInt → (l 63).getD k.toNatClampNeg 0 = a → ¬ (0 ≤ i.toInt ∧ i.toInt < ((l 62).getD k.toNatClampNeg 0).toInt) → P (some (.long (-9223372036854775808))) (wW (u2 f 42 0 3) l q))
    (h0 : 0 ≤ ((l 62).getD k.toNatClampNeg 0).toInt → (l 63).getD k.toNatClampNeg 0 = a → 0 ≤ i.toInt → i.toInt < ((l 62).getD k.toNatClampNeg 0).toInt → P (some (.long ((l 64).getD (60 * k.toNatClampNeg + i.toNatClampNeg) 0).toInt64)) (wW (u2 f 42 0 0) l q)) :
    ba_go scr ix_X9_cell 0 [some (.ref 43), some (.int k), some (.int i), some (.int a)] [] (wW f l q) 0 0 P := by
  have a62 : ∀ xs f', ba_ldI xs (wW f' l q) 63 k = some ((l 62).getD k.toNatClampNeg 0) := fun xs f' => ldI_of rfl hk (by rw [h62]; omega)
  have a63 : ∀ xs f', ba_ldI xs (wW f' l q) 64 k = some ((l 63).getD k.toNatClampNeg 0) := fun xs f' => ldI_of rfl hk (by rw [h63]; omega)
  have rest : ∀ m : Nat, 60 ≤ m → (0 ≤ ((l 62).getD k.toNatClampNeg 0).toInt → (l 63).getD k.toNatClampNeg 0 = a) → ba_wp (ba_go scr) none mo_X9_cell mo_X9_cell_r m ix_X9_cell 53 [some (.ref 43), some (.int k), some (.int i), some (.int a)] [] (wW (u2 f 42 0 0) l q) 0 0 P := by
    intro m hm ht
    obtain ⟨m, rfl⟩ : ∃ j, m = j + 60 := ⟨m - 60, by omega⟩
    refine And.intro rfl (r_noCell (f := u2 f 42 0 0) hk hk2 h62 (fun g => ?_) (fun g g2 => ?_) (fun g g2 g3 => ?_))
    · repeat (first | refine And.intro (fun e => absurd e (by decide)) (fun e => ?_) | refine And.intro (fun e => ?_) (fun e => absurd e (by decide)) | refine Exists.intro _ (And.intro rfl ?_) | refine And.intro rfl ?_)
      refine r_noCell (f := u2 f 42 0 0) hk hk2 h62 (fun g' => ?_) (fun g' => absurd g (by omega)) (fun g' => absurd g (by omega))
      repeat (first | refine And.intro (fun e => absurd e (by decide)) (fun e => ?_) | refine And.intro (fun e => ?_) (fun e => absurd e (by decide)) | refine Exists.intro _ (And.intro rfl ?_) | refine And.intro rfl ?_)
      refine r_failedLong (f := u2 f 42 0 0) ?_
      rw [uf2]
      exact h1 g
    · repeat (first | refine And.intro (fun e => absurd e (by decide)) (fun e => ?_) | refine And.intro (fun e => ?_) (fun e => absurd e (by decide)) | refine Exists.intro _ (And.intro rfl ?_) | refine And.intro rfl ?_)
      refine r_noCell (f := u2 f 42 0 0) hk hk2 h62 (fun g' => absurd g (by omega)) (fun g' _ => ?_) (fun g' g3 g4 => absurd ⟨g3, g4⟩ g2)
      repeat (first | refine And.intro (fun e => absurd e (by decide)) (fun e => ?_) | refine And.intro (fun e => ?_) (fun e => absurd e (by decide)) | refine Exists.intro _ (And.intro rfl ?_) | refine And.intro rfl ?_)
      refine r_failedLong (f := u2 f 42 0 0) ?_
      rw [uf2]
      exact h3 g (ht g) g2
    · repeat (first | refine And.intro (fun e => absurd e (by decide)) (fun e => ?_) | refine And.intro (fun e => ?_) (fun e => absurd e (by decide)) | refine Exists.intro _ (And.intro rfl ?_) | refine And.intro rfl ?_)
      have e6 := ix60 (k := k) (i := i) hk hk2 g2 (by omega)
      refine Exists.intro _ (And.intro (ldI_of rfl (by show 0 ≤ (60 * k + i).toInt; rw [e6.1]; omega) (by show (60 * k + i).toInt < _; rw [h64, e6.1]; omega)) ?_)
      have h9 := h0 g (ht g) g2 g3
      rw [← e6.2] at h9
      exact h9
  refine run_X9_cell 100 ?_
  refine Exists.intro (wW (u2 f 42 0 0) l q) (And.intro rfl ?_)
  repeat (first | refine And.intro (fun e => absurd e (by decide)) (fun e => ?_) | refine And.intro (fun e => ?_) (fun e => absurd e (by decide)) | refine Exists.intro _ (And.intro rfl ?_) | refine And.intro rfl ?_)
  refine s_noSheet (fun g1 g2 => ?_) (fun g1 => absurd ⟨hk, hk2⟩ g1)
  repeat (first | refine And.intro (fun e => absurd e (by decide)) (fun e => ?_) | refine And.intro (fun e => ?_) (fun e => absurd e (by decide)) | refine Exists.intro _ (And.intro rfl ?_) | refine And.intro rfl ?_)
  refine s_in (x := a.toInt) (a := 0) (b := 2) l64 rfl rfl (fun g1 g2 => ?_) (fun g1 => absurd ha g1)
  repeat (first | refine And.intro (fun e => absurd e (by decide)) (fun e => ?_) | refine And.intro (fun e => ?_) (fun e => absurd e (by decide)) | refine Exists.intro _ (And.intro rfl ?_) | refine And.intro rfl ?_)
  refine Exists.intro _ (And.intro (a62 _ _) ?_)
  refine And.intro (fun c => ?_) (fun c => ?_)
  · have c : (l 62).getD k.toNatClampNeg 0 < 0 := c
    rw [lt_i, zi] at c
    exact rest _ (by decide) (fun g => absurd g (by omega))
  · have c : ¬ (l 62).getD k.toNatClampNeg 0 < 0 := c
    rw [lt_i, zi] at c
    repeat (first | refine And.intro (fun e => absurd e (by decide)) (fun e => ?_) | refine And.intro (fun e => ?_) (fun e => absurd e (by decide)) | refine Exists.intro _ (And.intro rfl ?_) | refine And.intro rfl ?_)
    refine Exists.intro _ (And.intro (a63 _ _) ?_)
    refine And.intro (fun d => ?_) (fun d => ?_)
    · exact rest _ (by decide) (fun g => d)
    · repeat (first | refine And.intro (fun e => absurd e (by decide)) (fun e => ?_) | refine And.intro (fun e => ?_) (fun e => absurd e (by decide)) | refine Exists.intro _ (And.intro rfl ?_) | refine And.intro rfl ?_)
      refine r_failedLong (f := u2 f 42 0 0) ?_
      rw [uf2]
      exact h2 (by omega) d
theorem both_cell {k i a : Int32} (hI : Inv f l q) : bothJ scr ix_X8_cell ix_X9_cell [some (.ref 1), some (.int k), some (.int i), some (.int a), none, none] [some (.ref 43), some (.int k), some (.int i), some (.int a)] f l q := by
  intro P hP
  obtain ⟨⟨⟨hn1, hn2, hn3⟩, hL, hE, hR⟩, hPp, hD, hM, hS⟩ := id hI
  refine run_X8_cell 80 ?_
  refine Exists.intro (wW (u2 f 0 6 0) l q) (And.intro rfl ?_)
  repeat (first | refine And.intro (fun e => absurd e (by decide)) (fun e => ?_) | refine And.intro (fun e => ?_) (fun e => absurd e (by decide)) | refine Exists.intro _ (And.intro rfl ?_) | refine And.intro rfl ?_)
  refine s_sheetOf (f := u2 f 0 6 0) (fun c d => ?_) (fun c => ?_)
  · obtain ⟨⟨hk, hi⟩, hs, hC, h62, h63, h64, h65⟩ := sh0 hI c d
    obtain ⟨sv1, sv2⟩ := svf hs
    have e0 : ∀ (v : Int32) (y : Nat), (u2 f 0 6 v) (34 + 2 * k.toNatClampNeg) y = f (34 + 2 * k.toNatClampNeg) y := fun v y => u2_ne (by omega)
    have isC : ∀ f' : Nat → Nat → Int32, ba_isC (wW f' l q) (34 + 2 * k.toNatClampNeg + 1) 5 = true := fun f' => isC_of (sh_fld hk).2.2.2.2
    have sz60 : ((l 62).getD k.toNatClampNeg 0).toInt ≤ 60 := by
      by_cases q0 : f (34 + 2 * k.toNatClampNeg) 1 = -1
      · have := sv1.mpr q0; omega
      · rw [(sv2 q0).1]; exact hs.2.1.2
    repeat (first | refine And.intro (fun e => absurd e (by decide)) (fun e => ?_) | refine And.intro (fun e => ?_) (fun e => absurd e (by decide)) | refine Exists.intro _ (And.intro rfl ?_) | refine And.intro rfl ?_)
    refine s_below (bi := 3) rfl (fun c1 c2 => ?_) (fun c1 => ?_)
    · have lost : ∀ x : Int32, (f (34 + 2 * k.toNatClampNeg) 1 = -1 → x = 1) → (¬ f (34 + 2 * k.toNatClampNeg) 1 = -1 → ¬ f (34 + 2 * k.toNatClampNeg) 1 = a → x = 2) → (¬ f (34 + 2 * k.toNatClampNeg) 1 = -1 → f (34 + 2 * k.toNatClampNeg) 1 = a → ¬ (0 ≤ i.toInt ∧ i.toInt < (f (34 + 2 * k.toNatClampNeg) 2).toInt) ∧ x = 3) → P (some (.long (-9223372036854775808))) (wW (u2 f 0 6 x) l q) := by
        intro x x1 x2 x3
        refine hP _ _ _ _ (fun P2 h2 => ?_)
        refine r_cell (f := u2 f 0 6 x) c (by omega) ⟨c1, by omega⟩ h62 h63 h64 sz60 (fun g => ?_) (fun g g2 => ?_) (fun g g2 g3 => ?_) (fun g g2 g3 g4 => ?_)
        · have h3 := h2 _ _ _ (inv_fault (v := x) hI)
          rw [x1 (sv1.mp g)] at h3 ⊢
          exact h3
        · have hne : ¬ f (34 + 2 * k.toNatClampNeg) 1 = -1 := fun e => by have := sv1.mpr e; omega
          have h3 := h2 _ _ _ (inv_fault (v := x) hI)
          rw [x2 hne (by rw [← (sv2 hne).2]; exact g2)] at h3 ⊢
          exact h3
        · have hne : ¬ f (34 + 2 * k.toNatClampNeg) 1 = -1 := fun e => by have := sv1.mpr e; omega
          have h3 := h2 _ _ _ (inv_fault (v := x) hI)
          rw [(x3 hne (by rw [← (sv2 hne).2]; exact g2)).2] at h3 ⊢
          exact h3
        · have hne : ¬ f (34 + 2 * k.toNatClampNeg) 1 = -1 := fun e => by have := sv1.mpr e; omega
          exact absurd ⟨g3, by rw [← (sv2 hne).1]; exact g4⟩ (x3 hne (by rw [← (sv2 hne).2]; exact g2)).1
      have z1 : (1 : Int32).toInt = 1 := rfl
      repeat (first | refine And.intro (fun e => absurd e (by decide)) (fun e => ?_) | refine And.intro (fun e => ?_) (fun e => absurd e (by decide)) | refine Exists.intro _ (And.intro rfl ?_) | refine And.intro rfl ?_)
      refine And.intro (ck rfl rfl rfl rfl (isC _)) (s_faultOf (f := u2 f 0 6 0) hk (n := 1) (by rw [e0]; exact hs.2.1.1) (by rw [e0]; exact hs.2.1.2) (fun g => ?_) (fun g g2 => ?_) (fun g g2 g3 => absurd g3 (by decide)) (fun g g2 g3 g4 => ?_) (fun g g2 g3 g4 g5 => ?_))
      · rw [e0] at g
        repeat (first | refine And.intro (fun e => absurd e (by decide)) (fun e => ?_) | refine And.intro (fun e => ?_) (fun e => absurd e (by decide)) | refine Exists.intro _ (And.intro rfl ?_) | refine And.intro rfl ?_)
        exact lost 1 (fun _ => rfl) (fun e => absurd g e) (fun e => absurd g e)
      · rw [e0] at g g2
        repeat (first | refine And.intro (fun e => absurd e (by decide)) (fun e => ?_) | refine And.intro (fun e => ?_) (fun e => absurd e (by decide)) | refine Exists.intro _ (And.intro rfl ?_) | refine And.intro rfl ?_)
        exact lost 2 (fun e => absurd e g) (fun _ _ => rfl) (fun _ e => absurd e g2)
      · rw [e0] at g g2 g4
        repeat (first | refine And.intro (fun e => absurd e (by decide)) (fun e => ?_) | refine And.intro (fun e => ?_) (fun e => absurd e (by decide)) | refine Exists.intro _ (And.intro rfl ?_) | refine And.intro rfl ?_)
        exact lost 3 (fun e => absurd e g) (fun _ e => absurd g2 e) (fun _ _ => ⟨fun e => g4 ⟨e.1, by rw [z1]; omega⟩, rfl⟩)
      · rw [e0] at g g2 g5
        rw [z1] at g5
        have := hs.2.1.2
        repeat (first | refine And.intro (fun e => absurd e (by decide)) (fun e => ?_) | refine And.intro (fun e => ?_) (fun e => absurd e (by decide)) | refine Exists.intro _ (And.intro rfl ?_) | refine And.intro rfl ?_)
        refine And.intro (ck rfl rfl rfl rfl (isC _)) (s_at (f := u2 f 0 6 0) hk hC g4 (by omega) ?_)
        repeat (first | refine And.intro (fun e => absurd e (by decide)) (fun e => ?_) | refine And.intro (fun e => ?_) (fun e => absurd e (by decide)) | refine Exists.intro _ (And.intro rfl ?_) | refine And.intro rfl ?_)
        refine hP _ _ _ _ (fun P2 h2 => ?_)
        refine r_cell (f := u2 f 0 6 0) c (by omega) ⟨c1, by omega⟩ h62 h63 h64 sz60 (fun j => absurd (sv1.mp j) g) (fun j j2 => absurd (by rw [(sv2 g).2]; exact g2) j2) (fun j j2 j3 => absurd ⟨g4, by rw [(sv2 g).1]; omega⟩ j3) (fun j j2 j3 j4 => ?_)
        have h3 := h2 _ _ _ (inv_fault (v := 0) hI)
        have hy := ix_i g4
        have hz := ix_i hs.2.1.1
        have ec := (hs.2.2.2 g).2.2 i.toNatClampNeg (by omega)
        rw [ec]
        exact h3
    · repeat (first | refine And.intro (fun e => absurd e (by decide)) (fun e => ?_) | refine And.intro (fun e => ?_) (fun e => absurd e (by decide)) | refine Exists.intro _ (And.intro rfl ?_) | refine And.intro rfl ?_)
      refine hP _ _ _ _ (fun P2 h2 => ?_)
      refine run_X9_cell 100 ?_
      refine Exists.intro (wW (u2 (u2 f 0 6 0) 42 0 0) l q) (And.intro rfl ?_)
      repeat (first | refine And.intro (fun e => absurd e (by decide)) (fun e => ?_) | refine And.intro (fun e => ?_) (fun e => absurd e (by decide)) | refine Exists.intro _ (And.intro rfl ?_) | refine And.intro rfl ?_)
      refine s_noSheet (fun g1 g2 => ?_) (fun g1 => absurd ⟨c, by omega⟩ g1)
      repeat (first | refine And.intro (fun e => absurd e (by decide)) (fun e => ?_) | refine And.intro (fun e => ?_) (fun e => absurd e (by decide)) | refine Exists.intro _ (And.intro rfl ?_) | refine And.intro rfl ?_)
      refine s_in (x := a.toInt) (a := 0) (b := 2) l64 rfl rfl (fun g1 g2 => absurd ⟨g1, by omega⟩ c1) (fun g1 => ?_)
      repeat (first | refine And.intro (fun e => absurd e (by decide)) (fun e => ?_) | refine And.intro (fun e => ?_) (fun e => absurd e (by decide)) | refine Exists.intro _ (And.intro rfl ?_) | refine And.intro rfl ?_)
      refine r_lost ?_
      exact h2 _ _ _ (inv_fault (v := 0) hI)
  · repeat (first | refine And.intro (fun e => absurd e (by decide)) (fun e => ?_) | refine And.intro (fun e => ?_) (fun e => absurd e (by decide)) | refine Exists.intro _ (And.intro rfl ?_) | refine And.intro rfl ?_)
    refine hP _ _ _ _ (fun P2 h2 => ?_)
    refine run_X9_cell 100 ?_
    refine Exists.intro (wW (u2 (u2 f 0 6 0) 42 0 0) l q) (And.intro rfl ?_)
    repeat (first | refine And.intro (fun e => absurd e (by decide)) (fun e => ?_) | refine And.intro (fun e => ?_) (fun e => absurd e (by decide)) | refine Exists.intro _ (And.intro rfl ?_) | refine And.intro rfl ?_)
    refine s_noSheet (fun g1 g2 => absurd ⟨g1, by omega⟩ c) (fun g1 => ?_)
    repeat (first | refine And.intro (fun e => absurd e (by decide)) (fun e => ?_) | refine And.intro (fun e => ?_) (fun e => absurd e (by decide)) | refine Exists.intro _ (And.intro rfl ?_) | refine And.intro rfl ?_)
    refine r_lost ?_
    exact h2 _ _ _ (inv_fault (v := 0) hI)
end CE
