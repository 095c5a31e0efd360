/-! put, sheet -/
section PU
variable {scr : Option (List Int32)} {P : ba_P} {w : ba_W} {f : Nat → Nat → Int32} {l : Nat → List Int32} {q : Nat → List Int64}
def ct (a v : Int32) : Int32 := if a = 0 then v.toInt8.toInt32 else if a = 1 then v.toInt16.toInt32 else v
theorem ct0 {a v : Int32} (h : ¬ ¬ a = 0) : ct a v = v.toInt8.toInt32 := by unfold ct; rw [if_pos (Classical.not_not.mp h)]
theorem ct1 {a v : Int32} (h : ¬ a = 0) (h1 : ¬ ¬ a = 1) : ct a v = v.toInt16.toInt32 := by unfold ct; rw [if_neg h, if_pos (Classical.not_not.mp h1)]
theorem ct2 {a v : Int32} (h : ¬ a = 0) (h1 : ¬ a = 1) : ct a v = v := by unfold ct; rw [if_neg h, if_neg h1]
theorem s_cbecome {k : Nat} (hk : k < 4) {i v : Int32} (hl : (l (34 + 2 * k + 1)).length = 60) (h0 : 0 ≤ i.toInt) (h1 : i.toInt < 60) (hP : P none (wW f (u1 l (34 + 2 * k + 1) ((l (34 + 2 * k + 1)).set i.toNatClampNeg (ct (f (34 + 2 * k) 1) v))) q)) : ba_go scr ix_X5_become 0 [some (.ref (34 + 2 * k + 1)), some (.int i), some (.int v)] [] (wW f l q) 0 0 P := by
  have st : ∀ x, ba_stI (wW f l q) (34 + 2 * k + 2) i x = some (wW f (u1 l (34 + 2 * k + 1) ((l (34 + 2 * k + 1)).set i.toNatClampNeg x)) q) := fun x => by
    rw [← sh_cells hk]
    exact stI_of (sh_fld hk).2.2.2.1 h0 (by rw [hl]; exact h1)
  refine run_X5_become 60 ?_
  refine Exists.intro _ (And.intro ((sh_fld hk).2.1) ?_)
  refine And.intro (fun c => ?_) (fun c => ?_)
  · refine Exists.intro _ (And.intro ((sh_fld hk).2.1) ?_)
    refine And.intro (fun d => ?_) (fun d => ?_)
    · refine Exists.intro _ (And.intro ((sh_fld hk).1) ?_)
      refine Exists.intro _ (And.intro (st _) ?_)
      have e : ct (f (34 + 2 * k) 1) v = v := ct2 c d
      rw [e] at hP
      exact hP
    · refine Exists.intro _ (And.intro ((sh_fld hk).1) ?_)
      refine Exists.intro _ (And.intro (st _) ?_)
      have e : ct (f (34 + 2 * k) 1) v = v.toInt16.toInt32 := ct1 c d
      rw [e] at hP
      exact hP
  · refine Exists.intro _ (And.intro ((sh_fld hk).1) ?_)
    refine Exists.intro _ (And.intro (st _) ?_)
    have e : ct (f (34 + 2 * k) 1) v = v.toInt8.toInt32 := ct0 c
    rw [e] at hP
    exact hP
theorem both_put {k i v : Int32} (hI : Inv f l q) : both scr ix_X8_put ix_X9_put [some (.ref 1), some (.int k), some (.int i), some (.int v), none, none] [some (.ref 43), some (.int k), some (.int i), some (.int v)] f l q := by
  intro P hP
  obtain ⟨⟨⟨hn1, hn2, hn3⟩, hL, hE, hR⟩, hPp, hD, hM, hS⟩ := id hI
  refine run_X8_put 80 ?_
  refine Exists.intro (wW (u2 f 0 6 0) l q) (And.intro rfl ?_)
  repeat (first | refine And.intro (fun e => absurd e (by decide)) (fun e => ?_) | refine And.intro (fun e => ?_) (fun e => absurd e (by decide)) | refine Exists.intro _ (And.intro rfl ?_) | refine And.intro rfl ?_)
  refine s_sheetOf (f := u2 f 0 6 0) (fun c d => ?_) (fun c => ?_)
  · obtain ⟨⟨hk, hi⟩, hs, hC, h62, h63, h64, h65⟩ := sh0 hI c d
    obtain ⟨sv1, sv2⟩ := svf hs
    have e0 : ∀ (v : Int32) (y : Nat), (u2 f 0 6 v) (34 + 2 * k.toNatClampNeg) y = f (34 + 2 * k.toNatClampNeg) y := fun v y => u2_ne (by omega)
    have isC : ∀ f' : Nat → Nat → Int32, ba_isC (wW f' l q) (34 + 2 * k.toNatClampNeg + 1) 5 = true := fun f' => isC_of (sh_fld hk).2.2.2.2
    have z1 : (1 : Int32).toInt = 1 := rfl
    have bad : ∀ x : Int32, (f (34 + 2 * k.toNatClampNeg) 1 = -1 → x = 1) → (¬ f (34 + 2 * k.toNatClampNeg) 1 = -1 → ¬ (0 ≤ i.toInt ∧ i.toInt < (f (34 + 2 * k.toNatClampNeg) 2).toInt) ∧ x = 3) → P (some (.int (-10 - x))) (wW (u2 f 0 6 x) l q) := by
      intro x x1 x3
      refine hP _ _ _ _ (fun P2 h2 => ?_)
      refine run_X9_put 80 ?_
      repeat (first | refine And.intro (fun e => absurd e (by decide)) (fun e => ?_) | refine And.intro (fun e => ?_) (fun e => absurd e (by decide)) | refine Exists.intro _ (And.intro rfl ?_) | refine And.intro rfl ?_)
      refine s_noSheet (fun g1 g2 => ?_) (fun g1 => absurd ⟨c, by omega⟩ g1)
      repeat (first | refine And.intro (fun e => absurd e (by decide)) (fun e => ?_) | refine And.intro (fun e => ?_) (fun e => absurd e (by decide)) | refine Exists.intro _ (And.intro rfl ?_) | refine And.intro rfl ?_)
      refine r_noCell (f := u2 f 0 6 x) c (by omega) h62 (fun g => ?_) (fun g g2 => ?_) (fun g g2 g3 => ?_)
      · repeat (first | refine And.intro (fun e => absurd e (by decide)) (fun e => ?_) | refine And.intro (fun e => ?_) (fun e => absurd e (by decide)) | refine Exists.intro _ (And.intro rfl ?_) | refine And.intro rfl ?_)
        refine r_noCell (f := u2 f 0 6 x) c (by omega) h62 (fun g' => ?_) (fun g' => absurd g (by omega)) (fun g' => absurd g (by omega))
        repeat (first | refine And.intro (fun e => absurd e (by decide)) (fun e => ?_) | refine And.intro (fun e => ?_) (fun e => absurd e (by decide)) | refine Exists.intro _ (And.intro rfl ?_) | refine And.intro rfl ?_)
        refine r_failed (f := u2 f 0 6 x) ?_
        have h3 := h2 _ _ _ (inv_fault (v := x) hI)
        rw [x1 (sv1.mp g)] at h3 ⊢
        exact h3
      · repeat (first | refine And.intro (fun e => absurd e (by decide)) (fun e => ?_) | refine And.intro (fun e => ?_) (fun e => absurd e (by decide)) | refine Exists.intro _ (And.intro rfl ?_) | refine And.intro rfl ?_)
        refine r_noCell (f := u2 f 0 6 x) c (by omega) h62 (fun g' => absurd g (by omega)) (fun g' _ => ?_) (fun g' g3 g4 => absurd ⟨g3, g4⟩ g2)
        repeat (first | refine And.intro (fun e => absurd e (by decide)) (fun e => ?_) | refine And.intro (fun e => ?_) (fun e => absurd e (by decide)) | refine Exists.intro _ (And.intro rfl ?_) | refine And.intro rfl ?_)
        refine r_failed (f := u2 f 0 6 x) ?_
        have hne : ¬ f (34 + 2 * k.toNatClampNeg) 1 = -1 := fun e => by have := sv1.mpr e; omega
        have h3 := h2 _ _ _ (inv_fault (v := x) hI)
        rw [(x3 hne).2] at h3 ⊢
        exact h3
      · have hne : ¬ f (34 + 2 * k.toNatClampNeg) 1 = -1 := fun e => by have := sv1.mpr e; omega
        exact absurd ⟨g2, by rw [← (sv2 hne).1]; exact g3⟩ (x3 hne).1
    repeat (first | refine And.intro (fun e => absurd e (by decide)) (fun e => ?_) | refine And.intro (fun e => ?_) (fun e => absurd e (by decide)) | refine Exists.intro _ (And.intro rfl ?_) | refine And.intro rfl ?_)
    refine Exists.intro _ (And.intro ((sh_fld (f := u2 f 0 6 0) hk).2.1) ?_)
    refine And.intro (ck rfl rfl rfl rfl (isC _)) (s_faultOf (f := u2 f 0 6 0) hk (n := 1) (by rw [e0]; exact hs.2.1.1) (by rw [e0]; exact hs.2.1.2) (fun g => ?_) (fun g g2 => absurd rfl g2) (fun g g2 g3 => absurd g3 (by decide)) (fun g g2 g3 g4 => ?_) (fun g g2 g3 g4 g5 => ?_))
    · rw [e0] at g
      repeat (first | refine And.intro (fun e => absurd e (by decide)) (fun e => ?_) | refine And.intro (fun e => ?_) (fun e => absurd e (by decide)) | refine Exists.intro _ (And.intro rfl ?_) | refine And.intro rfl ?_)
      refine s_stopped (f := u2 f 0 6 0) ?_
      rw [uf]
      exact bad 1 (fun _ => rfl) (fun e => absurd g e)
    · rw [e0] at g g4
      repeat (first | refine And.intro (fun e => absurd e (by decide)) (fun e => ?_) | refine And.intro (fun e => ?_) (fun e => absurd e (by decide)) | refine Exists.intro _ (And.intro rfl ?_) | refine And.intro rfl ?_)
      refine s_stopped (f := u2 f 0 6 0) ?_
      rw [uf]
      exact bad 3 (fun e => absurd e g) (fun _ => ⟨fun e => g4 ⟨e.1, by rw [z1]; omega⟩, rfl⟩)
    · rw [e0] at g g5
      rw [z1] at g5
      have h60 := hs.2.1.2
      have hy := ix_i g4
      have hz := ix_i hs.2.1.1
      obtain ⟨s1, s2, s3⟩ := hs.2.2.2 g
      have e6 := ix60 (k := k) (i := i) c (by omega) g4 (by omega)
      repeat (first | refine And.intro (fun e => absurd e (by decide)) (fun e => ?_) | refine And.intro (fun e => ?_) (fun e => absurd e (by decide)) | refine Exists.intro _ (And.intro rfl ?_) | refine And.intro rfl ?_)
      refine And.intro (ck rfl rfl rfl rfl (isC _)) (s_cbecome (f := u2 f 0 6 0) hk hC g4 (by omega) ?_)
      rw [e0]
      repeat (first | refine And.intro (fun e => absurd e (by decide)) (fun e => ?_) | refine And.intro (fun e => ?_) (fun e => absurd e (by decide)) | refine Exists.intro _ (And.intro rfl ?_) | refine And.intro rfl ?_)
      refine hP _ _ _ _ (fun P2 h2 => ?_)
      -- the reference
      have fin : ∀ x : Int32, x = ct (f (34 + 2 * k.toNatClampNeg) 1) v → P2 (some (.int 1)) (wW (u2 (u2 f 0 6 0) 42 0 0) (u1 (u1 l (34 + 2 * k.toNatClampNeg + 1) ((l (34 + 2 * k.toNatClampNeg + 1)).set i.toNatClampNeg (ct (f (34 + 2 * k.toNatClampNeg) 1) v))) 64 ((l 64).set (60 * k.toNatClampNeg + i.toNatClampNeg) x)) q) := by
        intro x hx
        subst hx
        have hF := inv_fault (v := 0) hI
        refine h2 _ _ _ (inv_sh hk hF (fun x y hx => rfl) (fun x hx h2 h3 h4 => by rw [u1_ne h4, u1_ne hx]) ?_ ?_ ?_ ?_ ?_ ?_)
        · rw [u1_ne (by omega), u1_eq, List.length_set]; exact hC
        · rw [u1_ne (by decide), u1_ne (by omega)]; exact h62
        · rw [u1_ne (by decide), u1_ne (by omega)]; exact h63
        · rw [u1_eq, List.length_set]; exact h64
        · have eA : ∀ y, (u2 (u2 f 0 6 0) 42 0 0) (34 + 2 * k.toNatClampNeg) y = f (34 + 2 * k.toNatClampNeg) y := fun y => by rw [u2_ne (by omega), u2_ne (by omega)]
          rw [eA, eA]
          rw [u1_ne (i := 64) (x := 62) (by decide), u1_ne (x := 62) (by omega), u1_ne (i := 64) (x := 63) (by decide), u1_ne (x := 63) (by omega), u1_ne (i := 64) (x := 34 + 2 * k.toNatClampNeg + 1) (by omega), u1_eq, u1_eq]
          refine ⟨hs.1, hs.2.1, hs.2.2.1, fun _ => ⟨s1, s2, fun j hj => ?_⟩⟩
          rw [getD_set, getD_set]
          by_cases h : i.toNatClampNeg = j
          · rw [if_pos ⟨by omega, by rw [h64]; omega⟩, if_pos ⟨h, by rw [hC]; omega⟩]
          · rw [if_neg (by omega), if_neg (by omega)]
            exact s3 j hj
        · intro j hj hne
          rw [u1_ne (i := 64) (x := 62) (by decide), u1_ne (x := 62) (by omega), u1_ne (i := 64) (x := 63) (by decide), u1_ne (x := 63) (by omega), u1_eq]
          refine ⟨rfl, rfl, fun i' hi' => ?_⟩
          rw [getD_set, if_neg (by omega)]
      have st : ∀ x, ba_stI (wW (u2 f 0 6 0) (u1 l (34 + 2 * k.toNatClampNeg + 1) ((l (34 + 2 * k.toNatClampNeg + 1)).set i.toNatClampNeg (ct (f (34 + 2 * k.toNatClampNeg) 1) v))) q) 65 (60 * k + i) x = some (wW (u2 f 0 6 0) (u1 (u1 l (34 + 2 * k.toNatClampNeg + 1) ((l (34 + 2 * k.toNatClampNeg + 1)).set i.toNatClampNeg (ct (f (34 + 2 * k.toNatClampNeg) 1) v))) 64 ((l 64).set (60 * k.toNatClampNeg + i.toNatClampNeg) x)) q) := by
        intro x
        have eL : (u1 l (34 + 2 * k.toNatClampNeg + 1) ((l (34 + 2 * k.toNatClampNeg + 1)).set i.toNatClampNeg (ct (f (34 + 2 * k.toNatClampNeg) 1) v))) 64 = l 64 := u1_ne (by omega)
        rw [← e6.2, ← eL]
        exact (stI_of rfl (by rw [e6.1]; omega) (by rw [eL, h64, e6.1]; omega)).trans rfl
      have a62 : ∀ xs, ba_ldI xs (wW (u2 f 0 6 0) (u1 l (34 + 2 * k.toNatClampNeg + 1) ((l (34 + 2 * k.toNatClampNeg + 1)).set i.toNatClampNeg (ct (f (34 + 2 * k.toNatClampNeg) 1) v))) q) 64 k = some ((l 63).getD k.toNatClampNeg 0) := by
        intro xs
        have eL : (u1 l (34 + 2 * k.toNatClampNeg + 1) ((l (34 + 2 * k.toNatClampNeg + 1)).set i.toNatClampNeg (ct (f (34 + 2 * k.toNatClampNeg) 1) v))) 63 = l 63 := u1_ne (by omega)
        rw [← eL]
        exact ldI_of rfl c (by rw [eL, h63]; omega)
      have eL2 : (u1 l (34 + 2 * k.toNatClampNeg + 1) ((l (34 + 2 * k.toNatClampNeg + 1)).set i.toNatClampNeg (ct (f (34 + 2 * k.toNatClampNeg) 1) v))) 62 = l 62 := u1_ne (by omega)
      refine run_X9_put 80 ?_
      repeat (first | refine And.intro (fun e => absurd e (by decide)) (fun e => ?_) | refine And.intro (fun e => ?_) (fun e => absurd e (by decide)) | refine Exists.intro _ (And.intro rfl ?_) | refine And.intro rfl ?_)
      refine s_noSheet (fun g1 g2 => ?_) (fun g1 => absurd ⟨c, by omega⟩ g1)
      repeat (first | refine And.intro (fun e => absurd e (by decide)) (fun e => ?_) | refine And.intro (fun e => ?_) (fun e => absurd e (by decide)) | refine Exists.intro _ (And.intro rfl ?_) | refine And.intro rfl ?_)
      refine r_noCell (f := u2 f 0 6 0) c (by omega) (by rw [eL2]; exact h62) (fun j => absurd (by rw [eL2] at j; exact sv1.mp j) g) (fun j j2 => absurd ⟨g4, by rw [eL2, s1]; omega⟩ j2) (fun j j2 j3 => ?_)
      repeat (first | refine And.intro (fun e => absurd e (by decide)) (fun e => ?_) | refine And.intro (fun e => ?_) (fun e => absurd e (by decide)) | refine Exists.intro _ (And.intro rfl ?_) | refine And.intro rfl ?_)
      refine Exists.intro _ (And.intro (a62 _) ?_)
      rw [s2]
      refine And.intro (fun j4 => ?_) (fun j4 => ?_)
      · repeat (first | refine And.intro (fun e => absurd e (by decide)) (fun e => ?_) | refine And.intro (fun e => ?_) (fun e => absurd e (by decide)) | refine Exists.intro _ (And.intro rfl ?_) | refine And.intro rfl ?_)
        refine Exists.intro _ (And.intro (a62 _) ?_)
        rw [s2]
        refine And.intro (fun j5 => ?_) (fun j5 => ?_)
        · repeat (first | refine And.intro (fun e => absurd e (by decide)) (fun e => ?_) | refine And.intro (fun e => ?_) (fun e => absurd e (by decide)) | refine Exists.intro _ (And.intro rfl ?_) | refine And.intro rfl ?_)
          refine Exists.intro _ (And.intro (st _) ?_)
          repeat (first | refine And.intro (fun e => absurd e (by decide)) (fun e => ?_) | refine And.intro (fun e => ?_) (fun e => absurd e (by decide)) | refine Exists.intro _ (And.intro rfl ?_) | refine And.intro rfl ?_)
          refine r_refused (f := u2 f 0 6 0) ?_
          exact fin _ (ct2 j4 j5).symm
        · repeat (first | refine And.intro (fun e => absurd e (by decide)) (fun e => ?_) | refine And.intro (fun e => ?_) (fun e => absurd e (by decide)) | refine Exists.intro _ (And.intro rfl ?_) | refine And.intro rfl ?_)
          refine Exists.intro _ (And.intro (st _) ?_)
          repeat (first | refine And.intro (fun e => absurd e (by decide)) (fun e => ?_) | refine And.intro (fun e => ?_) (fun e => absurd e (by decide)) | refine Exists.intro _ (And.intro rfl ?_) | refine And.intro rfl ?_)
          refine r_refused (f := u2 f 0 6 0) ?_
          exact fin _ (ct1 j4 j5).symm
      · repeat (first | refine And.intro (fun e => absurd e (by decide)) (fun e => ?_) | refine And.intro (fun e => ?_) (fun e => absurd e (by decide)) | refine Exists.intro _ (And.intro rfl ?_) | refine And.intro rfl ?_)
        refine Exists.intro _ (And.intro (st _) ?_)
        repeat (first | refine And.intro (fun e => absurd e (by decide)) (fun e => ?_) | refine And.intro (fun e => ?_) (fun e => absurd e (by decide)) | refine Exists.intro _ (And.intro rfl ?_) | refine And.intro rfl ?_)
        refine r_refused (f := u2 f 0 6 0) ?_
        exact fin _ (ct0 j4).symm
  · repeat (first | refine And.intro (fun e => absurd e (by decide)) (fun e => ?_) | refine And.intro (fun e => ?_) (fun e => absurd e (by decide)) | refine Exists.intro _ (And.intro rfl ?_) | refine And.intro rfl ?_)
    refine hP _ _ _ _ (fun P2 h2 => ?_)
    refine run_X9_put 80 ?_
    repeat (first | refine And.intro (fun e => absurd e (by decide)) (fun e => ?_) | refine And.intro (fun e => ?_) (fun e => absurd e (by decide)) | refine Exists.intro _ (And.intro rfl ?_) | refine And.intro rfl ?_)
    refine s_noSheet (fun g1 g2 => absurd ⟨g1, by omega⟩ c) (fun g1 => ?_)
    repeat (first | refine And.intro (fun e => absurd e (by decide)) (fun e => ?_) | refine And.intro (fun e => ?_) (fun e => absurd e (by decide)) | refine Exists.intro _ (And.intro rfl ?_) | refine And.intro rfl ?_)
    refine r_refused (f := u2 f 0 6 0) ?_
    exact h2 _ _ _ (inv_fault (v := 0) hI)
end PU
