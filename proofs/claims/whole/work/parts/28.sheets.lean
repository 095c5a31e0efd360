/-! sheets: how the invariant is kept -/
section SH
variable {scr : Option (List Int32)} {P : ba_P} {w : ba_W} {f : Nat → Nat → Int32} {l : Nat → List Int32} {q : Nat → List Int64}
theorem IvS.mk {f : Nat → Nat → Int32} {l : Nat → List Int32} (h : ∀ k, k < 4 → sv (f (34 + 2 * k) 1) (f (34 + 2 * k) 2) ((l 62).getD k 0) ((l 63).getD k 0) (l (34 + 2 * k + 1)) (l 64) (60 * k)) : IvS f l :=
  ⟨h 0 (by decide), h 1 (by decide), h 2 (by decide), h 3 (by decide)⟩
theorem inv_sh {k : Nat} (hk : k < 4) {f' : Nat → Nat → Int32} {l' : Nat → List Int32} (hI : Inv f l q) (hf : ∀ x y, ¬ x = 34 + 2 * k → f' x y = f x y) (hl : ∀ x, ¬ x = 34 + 2 * k + 1 → ¬ x = 62 → ¬ x = 63 → ¬ x = 64 → l' x = l x)
    (hC : (l' (34 + 2 * k + 1)).length = 60) (h62 : (l' 62).length = 4) (h63 : (l' 63).length = 4) (h64 : (l' 64).length = 240) (hs : sv (f' (34 + 2 * k) 1) (f' (34 + 2 * k) 2) ((l' 62).getD k 0) ((l' 63).getD k 0) (l' (34 + 2 * k + 1)) (l' 64) (60 * k))
    (ho : ∀ j, j < 4 → ¬ j = k → (l' 62).getD j 0 = (l 62).getD j 0 ∧ (l' 63).getD j 0 = (l 63).getD j 0 ∧ ∀ i, i < 60 → (l' 64).getD (60 * j + i) 0 = (l 64).getD (60 * j + i) 0) : Inv f' l' q := by
  obtain ⟨⟨⟨hn1, hn2, hn3⟩, hL, hE, hR⟩, hPp, hD, hM, hS⟩ := id hI
  have hf' : ∀ x, ¬ x = 34 + 2 * k → f' x = f x := fun x hx => funext fun y => hf x y hx
  have hlen : ∀ x, (l' x).length = (l x).length := by
    intro x
    by_cases h1 : x = 34 + 2 * k + 1
    · subst h1; rw [hC, hL.sh hk]
    · by_cases h2 : x = 62
      · subst h2; rw [h62]; exact hL.2.2.2.2.2.2.1.symm
      · by_cases h3 : x = 63
        · subst h3; rw [h63]; exact hL.2.2.2.2.2.2.2.1.symm
        · by_cases h4 : x = 64
          · subst h4; rw [h64]; exact hL.2.2.2.2.2.2.2.2.1.symm
          · rw [hl x h1 h2 h3 h4]
  have e2 := hf' 2 (by omega)
  have e42 := hf' 42 (by omega)
  have e9 := hf' 9 (by omega)
  have e10 := hf' 10 (by omega)
  have e11 := hf' 11 (by omega)
  have e12 := hf' 12 (by omega)
  have e13 := hf' 13 (by omega)
  have e14 := hf' 14 (by omega)
  have e29 := hf' 29 (by omega)
  have e0 := hf' 0 (by omega)
  have e33 := hf' 33 (by omega)
  have g : ∀ x, x < 34 ∨ (42 ≤ x ∧ x < 62) → l' x = l x := fun x hx => hl x (by omega) (by omega) (by omega) (by omega)
  refine ⟨⟨?_, ?_, ?_, ?_⟩, ?_, ?_, ?_, ?_⟩
  · unfold IvN; rw [e2, e42]; exact ⟨hn1, hn2, hn3⟩
  · unfold IvL; simp only [hlen]; exact hL
  · unfold IvE col; rw [e9, e10, e11, e12, e13, e14, g 43 (by omega), g 3 (by omega), g 44 (by omega), g 5 (by omega), g 45 (by omega), g 46 (by omega), g 47 (by omega), g 48 (by omega), g 60 (by omega), g 30 (by omega), g 61 (by omega), g 31 (by omega)]; exact hE
  · unfold IvR; rw [g 5 (by omega), g 3 (by omega)]; exact hR
  · unfold IvP; rw [e9, e10, e11, e12, e13, e14]; exact hPp
  · unfold IvD; rw [e29, e42, g 30 (by omega), e2]; exact hD
  · unfold IvM; rw [e42, e0, e33]; exact hM
  · refine IvS.mk (fun j hj => ?_)
    by_cases h : j = k
    · subst h; exact hs
    · have h1 := hS.at hj
      obtain ⟨o1, o2, o3⟩ := ho j hj h
      rw [o1, o2, hf' (34 + 2 * j) (by omega), hl (34 + 2 * j + 1) (by omega) (by omega) (by omega) (by omega)]
      refine ⟨h1.1, h1.2.1, h1.2.2.1, fun hne => ?_⟩
      obtain ⟨a1, a2, a3⟩ := h1.2.2.2 hne
      refine ⟨a1, a2, fun i hi => ?_⟩
      have := ix_i h1.2.1.1
      have := h1.2.1.2
      rw [o3 i (by omega)]
      exact a3 i hi
theorem u2_congr {F G : Nat → Nat → Int32} {i j : Nat} {v : Int32} {x y : Nat} (h : F x y = G x y) : u2 F i j v x y = u2 G i j v x y := by
  unfold u2
  rw [h]
theorem u2_eq {F : Nat → Nat → Int32} {i j : Nat} {v : Int32} : u2 F i j v i j = v := by
  unfold u2
  rw [Nat.beq_refl, Nat.beq_refl]
  rfl
theorem u2_nj {F : Nat → Nat → Int32} {i j x y : Nat} {v : Int32} (h : ¬ y = j) : u2 F i j v x y = F x y := by
  unfold u2
  rw [show Nat.beq y j = false from by cases h2 : Nat.beq y j with | false => rfl | true => exact absurd (Nat.eq_of_beq_eq_true h2) h]
  cases Nat.beq x i <;> rfl
theorem u1_eq {α : Type} {L : Nat → α} {i : Nat} {v : α} : u1 L i v i = v := by
  unfold u1
  rw [Nat.beq_refl]
  rfl
theorem u1_ne {α : Type} {L : Nat → α} {i x : Nat} {v : α} (h : ¬ x = i) : u1 L i v x = L x := by
  unfold u1
  rw [show Nat.beq x i = false from by cases h2 : Nat.beq x i with | false => rfl | true => exact absurd (Nat.eq_of_beq_eq_true h2) h]
  rfl
theorem sh0 (hI : Inv f l q) {k : Int32} (h0 : 0 ≤ k.toInt) (h1 : k.toInt < 4) : (k.toNatClampNeg < 4 ∧ (k.toNatClampNeg : Int) = k.toInt) ∧ sv (f (34 + 2 * k.toNatClampNeg) 1) (f (34 + 2 * k.toNatClampNeg) 2) ((l 62).getD k.toNatClampNeg 0) ((l 63).getD k.toNatClampNeg 0) (l (34 + 2 * k.toNatClampNeg + 1)) (l 64) (60 * k.toNatClampNeg) ∧ (l (34 + 2 * k.toNatClampNeg + 1)).length = 60 ∧ (l 62).length = 4 ∧ (l 63).length = 4 ∧ (l 64).length = 240 ∧ (l 65).length = 60 := by
  obtain ⟨⟨⟨hn1, hn2, hn3⟩, hL, hE, hR⟩, hPp, hD, hM, hS⟩ := id hI
  have hi := ix_i h0
  have hk : k.toNatClampNeg < 4 := by omega
  exact ⟨⟨hk, hi⟩, hS.at hk, hL.sh hk, hL.2.2.2.2.2.2.1, hL.2.2.2.2.2.2.2.1, hL.2.2.2.2.2.2.2.2.1, hL.2.2.2.2.2.2.2.2.2⟩
theorem m1_i : (-1 : Int32).toInt = -1 := rfl
theorem both_lose {k : Int32} (hI : Inv f l q) : both scr ix_X8_lose ix_X9_lose [some (.ref 1), some (.int k), none, none] [some (.ref 43), some (.int k), none] f l q := by
  intro P hP
  obtain ⟨⟨⟨hn1, hn2, hn3⟩, hL, hE, hR⟩, hPp, hD, hM, hS⟩ := id hI
  refine run_X8_lose 60 ?_
  repeat (first | refine And.intro (fun e => absurd e (by decide)) (fun e => ?_) | refine And.intro (fun e => ?_) (fun e => absurd e (by decide)) | refine Exists.intro _ (And.intro rfl ?_) | refine And.intro rfl ?_)
  refine s_sheetOf (fun c d => ?_) (fun c => ?_)
  · obtain ⟨⟨hk, hi⟩, hs, hC, h62, h63, h64, h65⟩ := sh0 hI c d
    have a62 : ∀ xs f' l', (l' : Nat → List Int32) 62 = l 62 → ba_ldI xs (wW f' l' q) 63 k = some ((l 62).getD k.toNatClampNeg 0) := fun xs f' l' e => by rw [← e]; exact ldI_of rfl c (by rw [e, h62]; omega)
    have isC : ∀ f' : Nat → Nat → Int32, ba_isC (wW f' l q) (34 + 2 * k.toNatClampNeg + 1) 5 = true := fun f' => isC_of (sh_fld hk).2.2.2.2
    have fin : ∀ (v : Int32), (f (34 + 2 * k.toNatClampNeg) 1 = -1 → v = 0) → (¬ f (34 + 2 * k.toNatClampNeg) 1 = -1 → v = 1) → P (some (.int v)) (wW (u2 (u2 f (34 + 2 * k.toNatClampNeg) 1 (-1)) (34 + 2 * k.toNatClampNeg) 2 0) l q) := by
      intro v v0 v1
      refine hP _ _ _ _ (fun P2 h2 => ?_)
      have hinv : Inv (u2 (u2 f (34 + 2 * k.toNatClampNeg) 1 (-1)) (34 + 2 * k.toNatClampNeg) 2 0) (u1 l 62 ((l 62).set k.toNatClampNeg (-1))) q := by
        refine inv_sh hk hI (fun x y hx => by rw [u2_ne hx, u2_ne hx]) (fun x _ hx _ _ => u1_ne hx) ?_ ?_ ?_ ?_ ?_ ?_
        · rw [u1_ne (by omega)]; exact hC
        · rw [u1_eq, List.length_set]; exact h62
        · exact h63
        · exact h64
        · have e1 : (u2 (u2 f (34 + 2 * k.toNatClampNeg) 1 (-1)) (34 + 2 * k.toNatClampNeg) 2 0) (34 + 2 * k.toNatClampNeg) 1 = -1 := by rw [u2_nj (by decide), u2_eq]
          have e2 : (u2 (u2 f (34 + 2 * k.toNatClampNeg) 1 (-1)) (34 + 2 * k.toNatClampNeg) 2 0) (34 + 2 * k.toNatClampNeg) 2 = 0 := u2_eq
          rw [e1, e2, u1_eq, getD_set, if_pos ⟨rfl, by rw [h62]; exact hk⟩]
          exact ⟨⟨by decide, by decide⟩, ⟨by decide, by decide⟩, fun _ => ⟨rfl, rfl⟩, fun g => absurd rfl g⟩
        · intro j hj hne
          refine ⟨?_, rfl, fun i _ => rfl⟩
          rw [u1_eq, getD_set, if_neg (fun g => hne g.1.symm)]
      have hsz : (l 62).getD k.toNatClampNeg 0 = -1 ↔ f (34 + 2 * k.toNatClampNeg) 1 = -1 := by
        constructor
        · intro g
          by_cases q0 : f (34 + 2 * k.toNatClampNeg) 1 = -1
          · exact q0
          · exfalso
            have := (hs.2.2.2 q0).1
            rw [this] at g
            have h9 := hs.2.1.1
            rw [g, m1_i] at h9
            omega
        · intro g; exact (hs.2.2.1 g).1
      refine run_X9_lose 60 ?_
      repeat (first | refine And.intro (fun e => absurd e (by decide)) (fun e => ?_) | refine And.intro (fun e => ?_) (fun e => absurd e (by decide)) | refine Exists.intro _ (And.intro rfl ?_) | refine And.intro rfl ?_)
      refine s_noSheet (fun g1 g2 => ?_) (fun g1 => absurd ⟨c, by omega⟩ g1)
      repeat (first | refine And.intro (fun e => absurd e (by decide)) (fun e => ?_) | refine And.intro (fun e => ?_) (fun e => absurd e (by decide)) | refine Exists.intro _ (And.intro rfl ?_) | refine And.intro rfl ?_)
      refine Exists.intro _ (And.intro (a62 _ _ l rfl) ?_)
      refine And.intro (fun g => ?_) (fun g => ?_)
      · have g : 0 ≤ (l 62).getD k.toNatClampNeg 0 := g
        rw [le_i, zi] at g
        have hne : ¬ f (34 + 2 * k.toNatClampNeg) 1 = -1 := fun e => by rw [← hsz] at e; rw [e, m1_i] at g; omega
        repeat (first | refine And.intro (fun e => absurd e (by decide)) (fun e => ?_) | refine And.intro (fun e => ?_) (fun e => absurd e (by decide)) | refine Exists.intro _ (And.intro rfl ?_) | refine And.intro rfl ?_)
        refine Exists.intro (wW (u2 (u2 f (34 + 2 * k.toNatClampNeg) 1 (-1)) (34 + 2 * k.toNatClampNeg) 2 0) (u1 l 62 ((l 62).set k.toNatClampNeg (-1))) q) (And.intro ((stI_of rfl c (by rw [h62]; omega)).trans rfl) ?_)
        have h3 := h2 _ _ _ hinv
        rw [v1 hne] at h3
        exact h3
      · have g : ¬ 0 ≤ (l 62).getD k.toNatClampNeg 0 := g
        rw [le_i, zi] at g
        have he : f (34 + 2 * k.toNatClampNeg) 1 = -1 := by
          by_cases q0 : f (34 + 2 * k.toNatClampNeg) 1 = -1
          · exact q0
          · exfalso
            have h9 := (hs.2.2.2 q0).1
            rw [h9] at g
            exact g hs.2.1.1
        repeat (first | refine And.intro (fun e => absurd e (by decide)) (fun e => ?_) | refine And.intro (fun e => ?_) (fun e => absurd e (by decide)) | refine Exists.intro _ (And.intro rfl ?_) | refine And.intro rfl ?_)
        refine Exists.intro (wW (u2 (u2 f (34 + 2 * k.toNatClampNeg) 1 (-1)) (34 + 2 * k.toNatClampNeg) 2 0) (u1 l 62 ((l 62).set k.toNatClampNeg (-1))) q) (And.intro ((stI_of rfl c (by rw [h62]; omega)).trans rfl) ?_)
        have h3 := h2 _ _ _ hinv
        rw [v0 he] at h3
        exact h3
    repeat (first | refine And.intro (fun e => absurd e (by decide)) (fun e => ?_) | refine And.intro (fun e => ?_) (fun e => absurd e (by decide)) | refine Exists.intro _ (And.intro rfl ?_) | refine And.intro rfl ?_)
    refine And.intro (ck rfl rfl rfl rfl (isC f)) (s_hasRow hk (fun g => ?_) (fun g => ?_))
    · repeat (first | refine And.intro (fun e => absurd e (by decide)) (fun e => ?_) | refine And.intro (fun e => ?_) (fun e => absurd e (by decide)) | refine Exists.intro _ (And.intro rfl ?_) | refine And.intro rfl ?_)
      refine And.intro (ck rfl rfl rfl rfl (isC f)) ?_
      refine run_X5_loses 30 ?_
      refine Exists.intro _ (And.intro ((sh_set hk).1) ?_)
      refine Exists.intro _ (And.intro ((sh_set hk).2) ?_)
      exact fin 1 (fun e => absurd e g) (fun _ => rfl)
    · repeat (first | refine And.intro (fun e => absurd e (by decide)) (fun e => ?_) | refine And.intro (fun e => ?_) (fun e => absurd e (by decide)) | refine Exists.intro _ (And.intro rfl ?_) | refine And.intro rfl ?_)
      refine And.intro (ck rfl rfl rfl rfl (isC f)) ?_
      refine run_X5_loses 30 ?_
      refine Exists.intro _ (And.intro ((sh_set hk).1) ?_)
      refine Exists.intro _ (And.intro ((sh_set hk).2) ?_)
      exact fin 0 (fun _ => rfl) (fun e => absurd g e)
  · repeat (first | refine And.intro (fun e => absurd e (by decide)) (fun e => ?_) | refine And.intro (fun e => ?_) (fun e => absurd e (by decide)) | refine Exists.intro _ (And.intro rfl ?_) | refine And.intro rfl ?_)
    refine hP _ f l q (fun P2 h2 => ?_)
    refine run_X9_lose 60 ?_
    repeat (first | refine And.intro (fun e => absurd e (by decide)) (fun e => ?_) | refine And.intro (fun e => ?_) (fun e => absurd e (by decide)) | refine Exists.intro _ (And.intro rfl ?_) | refine And.intro rfl ?_)
    refine s_noSheet (fun g1 g2 => absurd ⟨g1, by omega⟩ c) (fun g1 => ?_)
    repeat (first | refine And.intro (fun e => absurd e (by decide)) (fun e => ?_) | refine And.intro (fun e => ?_) (fun e => absurd e (by decide)) | refine Exists.intro _ (And.intro rfl ?_) | refine And.intro rfl ?_)
    exact h2 f l q hI
end SH
