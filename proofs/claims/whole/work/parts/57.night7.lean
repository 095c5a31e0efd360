/-! night -/
section N7
variable {scr : Option (List Int32)} {P : ba_P} {w : ba_W} {f : Nat → Nat → Int32} {l : Nat → List Int32} {q : Nat → List Int64}
variable {F : Nat → Nat → Int32} {L : Nat → List Int32}
theorem inv_fr (hI : Inv f l q) (hF : ∀ x y, ¬ x = 15 → ¬ x = 16 → ¬ (23 ≤ x ∧ x < 29) → F x y = f x y) (hL' : ∀ x, ¬ x = 17 → ¬ x = 19 → ¬ x = 55 → ¬ x = 56 → L x = l x) (hlen : ∀ x, (L x).length = (l x).length) : Inv F L q := by
  obtain ⟨⟨⟨hn1, hn2, hn3⟩, hL, hE, hR⟩, hPp, hD, hM, hS⟩ := id hI
  have hf' : ∀ x, ¬ x = 15 → ¬ x = 16 → ¬ (23 ≤ x ∧ x < 29) → F x = f x := fun x h1 h2 h3 => funext fun y => hF x y h1 h2 h3
  have e2 := hf' 2 (by omega) (by omega) (by omega)
  have e42 := hf' 42 (by omega) (by omega) (by omega)
  have e9 := hf' 9 (by omega) (by omega) (by omega)
  have e10 := hf' 10 (by omega) (by omega) (by omega)
  have e11 := hf' 11 (by omega) (by omega) (by omega)
  have e12 := hf' 12 (by omega) (by omega) (by omega)
  have e13 := hf' 13 (by omega) (by omega) (by omega)
  have e14 := hf' 14 (by omega) (by omega) (by omega)
  have e29 := hf' 29 (by omega) (by omega) (by omega)
  have e0 := hf' 0 (by omega) (by omega) (by omega)
  have e33 := hf' 33 (by omega) (by omega) (by omega)
  have g : ∀ x, ¬ (x = 17 ∨ x = 19 ∨ x = 55 ∨ x = 56) → L x = l x := fun x hx => hL' x (by omega) (by omega) (by omega) (by omega)
  refine ⟨⟨?_, ?_, ?_, ?_⟩, ?_, ?_, ?_, ?_⟩
  · unfold IvN; rw [e2, e42]; exact ⟨hn1, hn2, hn3⟩
  · unfold IvL; simp only [hlen]; exact hL
  · unfold IvE col; rw [e9, e10, e11, e12, e13, e14, g 43 (by omega), g 3 (by omega), g 44 (by omega), g 5 (by omega), g 45 (by omega), g 46 (by omega), g 47 (by omega), g 48 (by omega), g 60 (by omega), g 30 (by omega), g 61 (by omega), g 31 (by omega)]; exact hE
  · unfold IvR; rw [g 5 (by omega), g 3 (by omega)]; exact hR
  · unfold IvP; rw [e9, e10, e11, e12, e13, e14]; exact hPp
  · unfold IvD; rw [e29, e42, g 30 (by omega), e2]; exact hD
  · unfold IvM; rw [e42, e0, e33]; exact hM
  · refine IvS.mk (fun j hj => ?_)
    have h1 := hS.at hj
    rw [g 62 (by omega), g 63 (by omega), g 64 (by omega), hf' (34 + 2 * j) (by omega) (by omega) (by omega), g (34 + 2 * j + 1) (by omega)]
    exact h1
theorem kv_inv (hI : Inv f l q) : kv (fun p => f (9 + p) 0) (fun p => f (9 + p) 1) (fun p => f (9 + p) 3) ∧ iv (l 3) ∧ mv (l 47) ∧ ∀ p, p < 6 → (l 45).getD p 0 = f (9 + p) 0 ∧ (l 46).getD p 0 = f (9 + p) 1 ∧ (l 47).getD p 0 = f (9 + p) 2 ∧ (l 48).getD p 0 = f (9 + p) 3 := by
  obtain ⟨-, m5, m6, m7, m8⟩ := plens hI
  obtain ⟨⟨⟨hn1, hn2, hn3⟩, hL, hE, hR⟩, hPp, hD, hM, hS⟩ := id hI
  have e : ∀ p, p < 6 → (l 45).getD p 0 = f (9 + p) 0 ∧ (l 46).getD p 0 = f (9 + p) 1 ∧ (l 47).getD p 0 = f (9 + p) 2 ∧ (l 48).getD p 0 = f (9 + p) 3 := fun p hp => by
    refine ⟨?_, ?_, ?_, ?_⟩
    · rw [hE.2.1.1, col_at hp]
    · rw [hE.2.1.2.1, col_at hp]
    · rw [hE.2.1.2.2.1, col_at hp]
    · rw [hE.2.1.2.2.2, col_at hp]
  refine ⟨fun p hp => ?_, ⟨hL.1.1, hR.2⟩, ⟨m7, fun p hp => ?_⟩, e⟩
  · have h := hPp.at hp
    exact ⟨h.1, h.2.1, h.2.2.2⟩
  · rw [(e p hp).2.2.1]
    exact (hPp.at hp).2.2.1
theorem list6 {A B : List Int32} (hA : A.length = 6) (hB : B.length = 6) (h : ∀ p, p < 6 → A.getD p 0 = B.getD p 0) : A = B := by
  apply List.ext_getElem?
  intro j
  by_cases hj : j < 6
  · have := h j hj
    rw [List.getD_eq_getElem?_getD, List.getD_eq_getElem?_getD, List.getElem?_eq_getElem (by omega), List.getElem?_eq_getElem (by omega)] at this
    rw [List.getElem?_eq_getElem (by omega), List.getElem?_eq_getElem (by omega)]
    exact congrArg some this
  · rw [List.getElem?_eq_none (by omega), List.getElem?_eq_none (by omega)]
/-- the reference, up to the sheet -/
theorem rn_start {k a i n b : Int32} {m : Nat} (hm : m ≤ 6) (hc : F 42 1 = nI m) (hk : 0 ≤ k.toInt ∧ k.toInt < 4) (ha : 0 ≤ a.toInt ∧ a.toInt ≤ 2) (hn : 0 ≤ n.toInt ∧ n.toInt ≤ 20) (hb : (0 ≤ b.toInt ∧ b.toInt ≤ 4) ∨ (10 ≤ b.toInt ∧ b.toInt ≤ 15)) (h : ¬ m = 0 → ba_go scr ix_X9_night 87 [some (.ref 43), some (.int k), some (.int a), some (.int i), some (.int n), some (.int b), none, none] [] (wW F L q) 0 0 P) (hz : m = 0 → P (some (.int (-3))) (wW (u2 F 42 0 0) L q)) :
    ba_go scr ix_X9_night 0 [some (.ref 43), some (.int k), some (.int a), some (.int i), some (.int n), some (.int b), none, none] [] (wW F L q) 0 0 P := by
  have h73 : ba_go scr ix_X9_night 73 [some (.ref 43), some (.int k), some (.int a), some (.int i), some (.int n), some (.int b), none, none] [] (wW F L q) 0 0 P := by
    refine run_X9_night 3 ?_
    refine Exists.intro _ (And.intro (rfl) ?_)
    refine And.intro (fun c => ?_) (fun c => ?_)
    · have c : ¬ F 42 1 = 0 := c
      exact h (fun e => c (by rw [hc, e]; rfl))
    · have c : F 42 1 = 0 := Classical.not_not.mp c
      refine run_X9_night 10 ?_
      refine And.intro rfl (r_refused ?_)
      refine hz ?_
      rw [hc, eq_i, nI_toInt (by omega), zi] at c
      omega
  refine run_X9_night 20 ?_
  refine And.intro rfl (s_noSheet (fun g1 g2 => ?_) (fun g1 => absurd ⟨hk.1, by omega⟩ g1))
  refine And.intro (fun _ => ?_) (fun e => absurd rfl e)
  refine And.intro rfl (s_in (x := a.toInt) (a := 0) (b := 2) l64 rfl rfl (fun g1 g2 => ?_) (fun g1 => absurd ha g1))
  refine And.intro (fun e => absurd e (by decide)) (fun _ => ?_)
  refine And.intro rfl (s_in (x := n.toInt) (a := 0) (b := 20) l64 rfl rfl (fun g1 g2 => ?_) (fun g1 => absurd hn g1))
  refine And.intro (fun e => absurd e (by decide)) (fun _ => ?_)
  refine And.intro rfl (s_in (x := b.toInt) (a := 0) (b := 4) l64 rfl rfl (fun g1 g2 => ?_) (fun g1 => ?_))
  · refine run_X9_night 1 ?_
    refine And.intro (fun _ => ?_) (fun e => absurd (by decide) e)
    exact h73
  · refine run_X9_night 7 ?_
    refine And.intro (fun e => absurd rfl e) (fun _ => ?_)
    refine And.intro rfl (s_in (x := b.toInt) (a := 10) (b := 15) l64 rfl rfl (fun g3 g4 => ?_) (fun g3 => absurd hb (fun e => e.elim g1 g3)))
    refine And.intro (fun _ => ?_) (fun e => absurd (by decide) e)
    exact h73
theorem inv_night {m : Nat} {I M I' M' Y Z : List Int32} {G' : Nat → List Int32} (hI : Inv f l q) (hW : CW (u2 f 0 6 0) F l L m I M) (hI2 : I.length = 2) (hW2 : RW (u1 (u1 L 55 (L 43)) 56 Y) G' I' M') (hY : Y.length = 6) (hY2 : ∀ p, p < m → Y.getD p 0 = (L 47).getD p 0) (z1 : Z.length = 6) (z2 : ∀ p, p < m → Z.getD p 0 = (G' 56).getD p 0) (z3 : ∀ p, m ≤ p → Z.getD p 0 = (G' 47).getD p 0) (hM : ∀ x, m ≤ x → M'.getD x 0 = (l 47).getD x 0) : Inv (u2 F 42 0 0) (u1 (u1 G' 43 (G' 55)) 47 Z) q := by
  obtain ⟨-, m5, m6, m7, m8⟩ := plens hI
  have hL := hI.1.2.1
  have hE := hI.1.2.2.1
  have hF := inv_fault (v := 0) hI
  have x47 : L 47 = l 47 := hW.1.2 47 (by decide) (by decide)
  have x43 : L 43 = l 43 := hW.1.2 43 (by decide) (by decide)
  have g56 : G' 56 = Y := by rw [hW2.2.2 56 (by decide) (by decide), u1_eq]
  have g55 : G' 55 = l 43 := by rw [hW2.2.2 55 (by decide) (by decide), u1_ne (by decide), u1_eq, x43]
  have gx : ∀ x, ¬ x = 43 → ¬ x = 47 → ¬ x = 55 → ¬ x = 56 → G' x = L x := fun x a b c d => by rw [hW2.2.2 x a b, u1_ne d, u1_ne c]
  have hZ : Z = l 47 := list6 z1 m7 (fun p hp => by
    by_cases h : p < m
    · rw [z2 p h, g56, hY2 p h, x47]
    · rw [z3 p (by omega), hW2.2.1, hM p (by omega)])
  refine inv_fr hF (fun x y a b c => u2_congr (hW.1.1 x y a b c)) (fun x a b c d => ?_) (fun x => ?_)
  · by_cases h : x = 47
    · rw [h, u1_eq, hZ]
    · rw [u1_ne h]
      by_cases h2 : x = 43
      · rw [h2, u1_eq, g55]
      · rw [u1_ne h2, gx x h2 h c d, hW.1.2 x a b]
  · by_cases h : x = 47
    · rw [h, u1_eq, hZ]
    · rw [u1_ne h]
      by_cases h2 : x = 43
      · rw [h2, u1_eq, g55]
      · rw [u1_ne h2]
        by_cases h3 : x = 55
        · rw [h3, g55, hE.1.1, hL.1.1]
          exact hL.2.2.2.2.2.1.1.symm
        · by_cases h4 : x = 56
          · rw [h4, g56, hY]
            exact hL.2.2.2.2.2.1.2.1.symm
          · rw [gx x h2 h h3 h4]
            by_cases h5 : x = 17
            · rw [h5, hW.2.1.1, hI2]
              exact hL.2.1.1.symm
            · by_cases h6 : x = 19
              · rw [h6, hW.2.1.2.1, hL.1.2.1]
                exact hL.2.1.2.1.symm
              · rw [hW.1.2 x h5 h6]
/-- the reference behind its pairs -/
theorem rn_rest {m N FR : Nat} {I M : List Int32} {IS MS : Nat → List Int32} {ch ld : Nat → Nat} {pp : Nat → Nat} {aa : Nat → Int32} {k a i b val : Int32} (hI : Inv f l q) (hm : m ≤ 6) (hc : F 42 1 = nI m) (hW : CW (u2 f 0 6 0) F l L m I M) (hI2 : I.length = 2) (hxf : (Int8.ofInt 60).toInt32 * k + i = nI FR) (hN : N ≤ 20) (hFR : FR + 2 * N ≤ 240)
    (hq : nq (l 5) (fun p => (u2 f 0 6 0) (9 + p) 0) (fun p => (u2 f 0 6 0) (9 + p) 1) (fun p => (u2 f 0 6 0) (9 + p) 3) m pp aa IS MS ch ld) (q1 : IS 0 = l 3) (q2 : MS 0 = l 47) (q3 : ch 0 = 0) (q4 : ld 0 = 0)
    (hpp : ∀ j, j < N → pp j < m ∧ (0 ≤ (aa j).toInt ∧ (aa j).toInt ≤ 3) ∧ (l 64).getD (FR + 2 * j) 0 = nI (pp j) ∧ (l 64).getD (FR + 2 * j + 1) 0 = aa j) (hb : (0 ≤ b.toInt ∧ b.toInt ≤ 4) ∨ (10 ≤ b.toInt ∧ b.toInt ≤ 15))
    (v1 : (∀ j, j < N → nok (fun p => (u2 f 0 6 0) (9 + p) 0) (fun p => (u2 f 0 6 0) (9 + p) 1) (fun p => (u2 f 0 6 0) (9 + p) 3) (IS j) (pp j) (aa j) = true) → val = if b = 1 then -9 else nan (fun p => (u2 f 0 6 0) (9 + p) 1) m (IS N) (MS N) (ch N) (ld N) b)
    (v0 : ∀ j, j < N → (∀ t, t < j → nok (fun p => (u2 f 0 6 0) (9 + p) 0) (fun p => (u2 f 0 6 0) (9 + p) 1) (fun p => (u2 f 0 6 0) (9 + p) 3) (IS t) (pp t) (aa t) = true) → nok (fun p => (u2 f 0 6 0) (9 + p) 0) (fun p => (u2 f 0 6 0) (9 + p) 1) (fun p => (u2 f 0 6 0) (9 + p) 3) (IS j) (pp j) (aa j) = false → val = if b = 1 then nI j else -100 - nI j)
    (h2 : ∀ f2 l2 q2, Inv f2 l2 q2 → P (some (.int val)) (wW f2 l2 q2)) :
    ba_go scr ix_X9_night 137 [some (.ref 43), some (.int k), some (.int a), some (.int i), some (.int (nI N)), some (.int b), some (.int 0), none] [] (wW F L q) 0 0 P := by
  obtain ⟨⟨m3, m4⟩, m5, m6, m7, m8⟩ := plens hI
  obtain ⟨kv1, iv1, mv1, ke⟩ := kv_inv hI
  have hL := hI.1.2.1
  have hE := hI.1.2.2.1
  have hR := hI.1.2.2.2
  have ef : ∀ y, (fun p => (u2 f 0 6 0) (9 + p) y) = fun p => f (9 + p) y := fun y => funext fun p => u2_ne (by omega)
  have x : ∀ t, ¬ t = 17 → ¬ t = 19 → L t = l t := hW.1.2
  refine run_X9_night 11 ?_
  refine And.intro rfl (r_keepAll hm hc (by rw [x 43 (by decide) (by decide)]; exact m3) (by rw [x 47 (by decide) (by decide)]; exact m7) (by rw [x 55 (by decide) (by decide)]; exact hL.2.2.2.2.2.1.1) (by rw [x 56 (by decide) (by decide)]; exact hL.2.2.2.2.2.1.2.1) (fun Y hY hY2 => ?_))
  obtain ⟨G, hG⟩ : ∃ G, G = u1 (u1 L 55 (L 43)) 56 Y := ⟨_, rfl⟩
  rw [← hG]
  have gx : ∀ t, ¬ t = 17 → ¬ t = 19 → ¬ t = 55 → ¬ t = 56 → G t = l t := fun t a b c d => by rw [hG, u1_ne d, u1_ne c, x t a b]
  have g43 := gx 43 (by decide) (by decide) (by decide) (by decide)
  have g44 := gx 44 (by decide) (by decide) (by decide) (by decide)
  have g45 := gx 45 (by decide) (by decide) (by decide) (by decide)
  have g46 := gx 46 (by decide) (by decide) (by decide) (by decide)
  have g47 := gx 47 (by decide) (by decide) (by decide) (by decide)
  have g48 := gx 48 (by decide) (by decide) (by decide) (by decide)
  have g64 := gx 64 (by decide) (by decide) (by decide) (by decide)
  have e44 : G 44 = l 5 := by rw [g44, hE.1.2]
  have fin : ∀ (I' M' : List Int32) (G' : Nat → List Int32), RW G G' I' M' → I'.length = 2 → M'.length = 6 → (∀ x, m ≤ x → M'.getD x 0 = (l 47).getD x 0) → ba_go scr ix_X9_night 155 [some (.ref 43), some (.int k), some (.int a), some (.int i), some (.int (nI N)), some (.int b), some (.int 0), none] [.int val] (wW F G' q) 0 0 P := by
    intro I' M' G' hW2 a1 a2 a3
    have w55 : G' 55 = L 43 := by rw [hW2.2.2 55 (by decide) (by decide), hG, u1_ne (by decide), u1_eq]
    have w56 : G' 56 = Y := by rw [hW2.2.2 56 (by decide) (by decide), hG, u1_eq]
    refine run_X9_night 30 ?_
    refine And.intro rfl (r_bringBack hm hc (by rw [hW2.1]; exact a1) (by rw [hW2.2.1]; exact a2) (by rw [w55, x 43 (by decide) (by decide)]; exact m3) (by rw [w56]; exact hY) (fun Z z1 z2 z3 => ?_))
    refine And.intro rfl (r_refused ?_)
    rw [hG] at hW2
    exact h2 _ _ _ (inv_night hI hW hI2 hW2 hY hY2 z1 z2 z3 a3)
  have hp6 : ∀ j, j < N → pp j < 6 := fun j hj => by have := (hpp j hj).1; omega
  have kv2 : kv (fun p => (u2 f 0 6 0) (9 + p) 0) (fun p => (u2 f 0 6 0) (9 + p) 1) (fun p => (u2 f 0 6 0) (9 + p) 3) := by rw [ef, ef, ef]; exact kv1
  refine And.intro rfl (r_nightBy (n := m) (N := N) (FR := FR) (K := fun p => (u2 f 0 6 0) (9 + p) 0) (O := fun p => (u2 f 0 6 0) (9 + p) 1) (Q := fun p => (u2 f 0 6 0) (9 + p) 3) (pp := pp) (aa := aa) (I := IS) (M := MS) (ch := ch) (ld := ld) hxf hm hc hN hFR (by rw [g64]; exact hL.2.2.2.2.2.2.2.2.1) (by rw [g44]; exact m4) (by rw [g45]; exact m5) (by rw [g46]; exact m6) (by rw [g48]; exact m8) (by rw [e44]; exact hR.1) kv2 (by rw [g43, hE.1.1]; exact iv1) (by rw [g47]; exact mv1) (fun p hp => ?_) (by rw [e44]; exact hq) (by rw [q1, g43, hE.1.1]) (by rw [q2, g47]) q3 q4 (fun j hj => by rw [g64]; exact hpp j hj) hb (fun ho G' hW2 => ?_) (fun j hj ho hno G' hW2 => ?_))
  · rw [g45, g46, g48, u2_ne (by omega), u2_ne (by omega), u2_ne (by omega)]
    exact ⟨(ke p hp).1, (ke p hp).2.1, (ke p hp).2.2.2⟩
  · rw [← v1 ho]
    exact fin _ _ G' hW2 (nq_iv hq kv2 (by rw [q1]; exact iv1) N hp6 ho).1 (nq_mv hq hR.1 (by rw [q2]; exact mv1) N (fun t ht => ⟨hp6 t ht, (hpp t ht).2.1⟩)).1 (fun x hx => by rw [nq_same hq N (fun t ht => (hpp t ht).1) x hx, q2])
  · rw [← v0 j hj ho hno]
    exact fin _ _ G' hW2 (nq_iv hq kv2 (by rw [q1]; exact iv1) j (fun t ht => hp6 t (by omega)) ho).1 (nq_mv hq hR.1 (by rw [q2]; exact mv1) j (fun t ht => ⟨hp6 t (by omega), (hpp t (by omega)).2.1⟩)).1 (fun x hx => by rw [nq_same hq j (fun t ht => (hpp t (by omega)).1) x hx, q2])
theorem both_night {k a i n b : Int32} (hI : Inv f l q) : both scr ix_X8_night ix_X9_night [some (.ref 1), some (.int k), some (.int a), some (.int i), some (.int n), some (.int b), none, none, none] [some (.ref 43), some (.int k), some (.int a), some (.int i), some (.int n), some (.int b), none, none] f l q := by
  intro P hP
  obtain ⟨m, hm6, hc, hc2⟩ := inv_n hI
  obtain ⟨⟨m3, m4⟩, m5, m6, m7, m8⟩ := plens hI
  obtain ⟨⟨⟨hn1, hn2, hn3⟩, hL, hE, hR⟩, hPp, hD, hM, hS⟩ := id hI
  have e44 : l 44 = l 5 := hE.1.2
  have e2n : ∀ x : Int32, 0 ≤ x.toInt → x.toInt ≤ 20 → (Int32.ofInt 2 * x).toInt = 2 * x.toInt := fun x h1 h2 => by
    have e : (Int32.ofInt 2).toInt = 2 := rfl
    rw [fb_mulI (by rw [e]; omega) (by rw [e]; omega), e]
  have e2l : ∀ x : Int32, 0 ≤ x.toInt → x.toInt ≤ 20 → (Int64.ofNat 2 * x.toInt64).toInt = 2 * x.toInt := fun x h1 h2 => by
    have e : (Int64.ofNat 2).toInt = 2 := rfl
    rw [fb_mulL (by rw [e, l64]; omega) (by rw [e, l64]; omega), e, l64]
  -- what is refused before the sheet is looked at
  have ref1 : ¬ (0 ≤ k.toInt ∧ k.toInt < 4) → P (some (.int (-1))) (wW (u2 f 0 6 0) l q) := by
    intro hb
    refine hP _ _ _ _ (fun P2 h2 => ?_)
    refine run_X9_night 60 ?_
    repeat (first | refine And.intro (fun e => absurd e (by decide)) (fun e => ?_) | refine And.intro (fun e => ?_) (fun e => absurd e (by decide)) | refine Exists.intro _ (And.intro rfl ?_) | refine And.intro rfl ?_)
    refine s_noSheet (fun g1 g2 => absurd ⟨g1, by omega⟩ hb) (fun g1 => ?_)
    repeat (first | refine And.intro (fun e => absurd e (by decide)) (fun e => ?_) | refine And.intro (fun e => ?_) (fun e => absurd e (by decide)) | refine Exists.intro _ (And.intro rfl ?_) | refine And.intro rfl ?_)
    refine r_refused (f := u2 f 0 6 0) ?_
    exact h2 _ _ _ (inv_fault (v := 0) hI)
  have ref2 : (0 ≤ k.toInt ∧ k.toInt < 4) → ¬ ((0 ≤ a.toInt ∧ a.toInt ≤ 2) ∧ (0 ≤ n.toInt ∧ n.toInt ≤ 20) ∧ ((0 ≤ b.toInt ∧ b.toInt ≤ 4) ∨ (10 ≤ b.toInt ∧ b.toInt ≤ 15))) → P (some (.int (-2))) (wW (u2 f 0 6 0) l q) := by
    intro hk hb
    refine hP _ _ _ _ (fun P2 h2 => ?_)
    refine run_X9_night 60 ?_
    repeat (first | refine And.intro (fun e => absurd e (by decide)) (fun e => ?_) | refine And.intro (fun e => ?_) (fun e => absurd e (by decide)) | refine Exists.intro _ (And.intro rfl ?_) | refine And.intro rfl ?_)
    refine s_noSheet (fun g1 g2 => ?_) (fun g1 => absurd ⟨hk.1, by omega⟩ g1)
    repeat (first | refine And.intro (fun e => absurd e (by decide)) (fun e => ?_) | refine And.intro (fun e => ?_) (fun e => absurd e (by decide)) | refine Exists.intro _ (And.intro rfl ?_) | refine And.intro rfl ?_)
    refine s_in (x := a.toInt) (a := 0) (b := 2) l64 rfl rfl (fun g1 g2 => ?_) (fun g1 => ?_)
    · repeat (first | refine And.intro (fun e => absurd e (by decide)) (fun e => ?_) | refine And.intro (fun e => ?_) (fun e => absurd e (by decide)) | refine Exists.intro _ (And.intro rfl ?_) | refine And.intro rfl ?_)
      refine s_in (x := n.toInt) (a := 0) (b := 20) l64 rfl rfl (fun g3 g4 => ?_) (fun g3 => ?_)
      · repeat (first | refine And.intro (fun e => absurd e (by decide)) (fun e => ?_) | refine And.intro (fun e => ?_) (fun e => absurd e (by decide)) | refine Exists.intro _ (And.intro rfl ?_) | refine And.intro rfl ?_)
        refine s_in (x := b.toInt) (a := 0) (b := 4) l64 rfl rfl (fun g5 g6 => absurd ⟨⟨g1, g2⟩, ⟨g3, g4⟩, Or.inl ⟨g5, g6⟩⟩ hb) (fun g5 => ?_)
        repeat (first | refine And.intro (fun e => absurd e (by decide)) (fun e => ?_) | refine And.intro (fun e => ?_) (fun e => absurd e (by decide)) | refine Exists.intro _ (And.intro rfl ?_) | refine And.intro rfl ?_)
        refine s_in (x := b.toInt) (a := 10) (b := 15) l64 rfl rfl (fun g5 g6 => absurd ⟨⟨g1, g2⟩, ⟨g3, g4⟩, Or.inr ⟨g5, g6⟩⟩ hb) (fun g5 => ?_)
        repeat (first | refine And.intro (fun e => absurd e (by decide)) (fun e => ?_) | refine And.intro (fun e => ?_) (fun e => absurd e (by decide)) | refine Exists.intro _ (And.intro rfl ?_) | refine And.intro rfl ?_)
        refine r_refused (f := u2 f 0 6 0) ?_
        exact h2 _ _ _ (inv_fault (v := 0) hI)
      · repeat (first | refine And.intro (fun e => absurd e (by decide)) (fun e => ?_) | refine And.intro (fun e => ?_) (fun e => absurd e (by decide)) | refine Exists.intro _ (And.intro rfl ?_) | refine And.intro rfl ?_)
        refine r_refused (f := u2 f 0 6 0) ?_
        exact h2 _ _ _ (inv_fault (v := 0) hI)
    · repeat (first | refine And.intro (fun e => absurd e (by decide)) (fun e => ?_) | refine And.intro (fun e => ?_) (fun e => absurd e (by decide)) | refine Exists.intro _ (And.intro rfl ?_) | refine And.intro rfl ?_)
      refine r_refused (f := u2 f 0 6 0) ?_
      exact h2 _ _ _ (inv_fault (v := 0) hI)
  refine run_X8_night 80 ?_
  refine Exists.intro (wW (u2 f 0 6 0) l q) (And.intro rfl ?_)
  repeat (first | refine And.intro (fun e => absurd e (by decide)) (fun e => ?_) | refine And.intro (fun e => ?_) (fun e => absurd e (by decide)) | refine Exists.intro _ (And.intro rfl ?_) | refine And.intro rfl ?_)
  refine s_sheetOf (f := u2 f 0 6 0) (fun c d => ?_) (fun c => ?_)
  · obtain ⟨⟨hk, hi⟩, hs, hC, h62, h63, h64, h65⟩ := sh0 hI c d
    obtain ⟨sv1, sv2⟩ := svf hs
    have e0 : ∀ (v : Int32) (y : Nat), (u2 f 0 6 v) (34 + 2 * k.toNatClampNeg) y = f (34 + 2 * k.toNatClampNeg) y := fun v y => u2_ne (by omega)
    have isC : ∀ f' : Nat → Nat → Int32, ba_isC (wW f' l q) (34 + 2 * k.toNatClampNeg + 1) 5 = true := fun f' => isC_of (sh_fld hk).2.2.2.2
    repeat (first | refine And.intro (fun e => absurd e (by decide)) (fun e => ?_) | refine And.intro (fun e => ?_) (fun e => absurd e (by decide)) | refine Exists.intro _ (And.intro rfl ?_) | refine And.intro rfl ?_)
    refine s_below (bi := 3) rfl (fun c1 c2 => ?_) (fun c1 => ?_)
    · repeat (first | refine And.intro (fun e => absurd e (by decide)) (fun e => ?_) | refine And.intro (fun e => ?_) (fun e => absurd e (by decide)) | refine Exists.intro _ (And.intro rfl ?_) | refine And.intro rfl ?_)
      refine s_within (a := 0) (b := 20) rfl rfl (fun c3 c4 => ?_) (fun c3 => ?_)
      · repeat (first | refine And.intro (fun e => absurd e (by decide)) (fun e => ?_) | refine And.intro (fun e => ?_) (fun e => absurd e (by decide)) | refine Exists.intro _ (And.intro rfl ?_) | refine And.intro rfl ?_)
        refine s_isAsked (fun cb => ?_) (fun cb => ?_)
        · refine And.intro (fun _ => ?_) (fun e => absurd (by decide) e)
          refine Exists.intro _ (And.intro (rfl) ?_)
          refine And.intro rfl (s_isOn (f := u2 f 0 6 0) (b := 2) (Or.inl rfl) (fun c5 => ?_) (fun c5 => ?_))
          · have c5 : 0 < (f 2 3).toInt := c5
            have hne : ¬ m = 0 := fun e => by rw [hc, e] at c5; exact absurd c5 (by decide)
            refine And.intro (fun _ => ?_) (fun e => absurd (by decide) e)
            have bad : ∀ x : Int32, (f (34 + 2 * k.toNatClampNeg) 1 = -1 → x = 1) → (¬ f (34 + 2 * k.toNatClampNeg) 1 = -1 → ¬ f (34 + 2 * k.toNatClampNeg) 1 = a → x = 2) → (¬ f (34 + 2 * k.toNatClampNeg) 1 = -1 → f (34 + 2 * k.toNatClampNeg) 1 = a → ¬ (0 ≤ i.toInt ∧ i.toInt + 2 * n.toInt ≤ (f (34 + 2 * k.toNatClampNeg) 2).toInt) ∧ x = 3) → P (some (.int (-10 - x))) (wW (u2 f 0 6 x) l q) := by
              intro x x1 x2 x3
              refine hP _ _ _ _ (fun P2 h2 => rn_start (F := u2 f 0 6 x) (m := m) hm6 hc2 ⟨c, d⟩ ⟨c1, by omega⟩ ⟨c3, c4⟩ cb (fun _ => ?_) (fun e => absurd e hne))
              have h3 := h2 _ _ _ (inv_fault (v := x) hI)
              refine run_X9_night 30 ?_
              refine And.intro rfl (r_cellsBarred (f := u2 f 0 6 x) c (by omega) h62 h63 (by rw [e2l n c3 c4]; omega) (fun g => ?_) (fun g g2 => ?_) (fun g g2 g3 => absurd g3 (by rw [e2l n c3 c4]; omega)) (fun g g2 g3 g4 => ?_) (fun g g2 g3 g4 g5 => ?_))
              · rw [x1 (sv1.mp g)] at h3 ⊢
                repeat (first | refine And.intro (fun e => absurd e (by decide)) (fun e => ?_) | refine And.intro (fun e => ?_) (fun e => absurd e (by decide)) | refine Exists.intro _ (And.intro rfl ?_) | refine And.intro rfl ?_)
                exact h3
              · have hne : ¬ f (34 + 2 * k.toNatClampNeg) 1 = -1 := fun e => by have := sv1.mpr e; omega
                rw [x2 hne (by rw [← (sv2 hne).2]; exact g2)] at h3 ⊢
                repeat (first | refine And.intro (fun e => absurd e (by decide)) (fun e => ?_) | refine And.intro (fun e => ?_) (fun e => absurd e (by decide)) | refine Exists.intro _ (And.intro rfl ?_) | refine And.intro rfl ?_)
                exact h3
              · have hne : ¬ f (34 + 2 * k.toNatClampNeg) 1 = -1 := fun e => by have := sv1.mpr e; omega
                rw [(x3 hne (by rw [← (sv2 hne).2]; exact g2)).2] at h3 ⊢
                repeat (first | refine And.intro (fun e => absurd e (by decide)) (fun e => ?_) | refine And.intro (fun e => ?_) (fun e => absurd e (by decide)) | refine Exists.intro _ (And.intro rfl ?_) | refine And.intro rfl ?_)
                exact h3
              · have hne : ¬ f (34 + 2 * k.toNatClampNeg) 1 = -1 := fun e => by have := sv1.mpr e; omega
                rw [e2l n c3 c4] at g5
                exact absurd ⟨g4, by rw [← (sv2 hne).1]; exact g5⟩ (x3 hne (by rw [← (sv2 hne).2]; exact g2)).1
            refine And.intro (ck rfl rfl rfl rfl (isC _)) (s_faultOf (f := u2 f 0 6 0) hk (by rw [e0]; exact hs.2.1.1) (by rw [e0]; exact hs.2.1.2) (fun g => ?_) (fun g g2 => ?_) (fun g g2 g3 => absurd g3 (by rw [e2n n c3 c4]; omega)) (fun g g2 g3 g4 => ?_) (fun g g2 g3 g4 g5 => ?_))
            · rw [e0] at g
              repeat (first | refine And.intro (fun e => absurd e (by decide)) (fun e => ?_) | refine And.intro (fun e => ?_) (fun e => absurd e (by decide)) | refine Exists.intro _ (And.intro rfl ?_) | refine And.intro rfl ?_)
              refine s_stopped (f := u2 f 0 6 0) ?_
              rw [uf]
              exact bad 1 (fun _ => rfl) (fun e => absurd g e) (fun e => absurd g e)
            · rw [e0] at g g2
              repeat (first | refine And.intro (fun e => absurd e (by decide)) (fun e => ?_) | refine And.intro (fun e => ?_) (fun e => absurd e (by decide)) | refine Exists.intro _ (And.intro rfl ?_) | refine And.intro rfl ?_)
              refine s_stopped (f := u2 f 0 6 0) ?_
              rw [uf]
              exact bad 2 (fun e => absurd e g) (fun _ _ => rfl) (fun _ e => absurd e g2)
            · rw [e0] at g g2 g4
              rw [e2n n c3 c4] at g4
              repeat (first | refine And.intro (fun e => absurd e (by decide)) (fun e => ?_) | refine And.intro (fun e => ?_) (fun e => absurd e (by decide)) | refine Exists.intro _ (And.intro rfl ?_) | refine And.intro rfl ?_)
              refine s_stopped (f := u2 f 0 6 0) ?_
              rw [uf]
              exact bad 3 (fun e => absurd e g) (fun _ e => absurd g2 e) (fun _ _ => ⟨g4, rfl⟩)
            · rw [e0] at g g2 g5
              rw [e2n n c3 c4] at g5
              have h60 := hs.2.1.2
              obtain ⟨s1, s2, s3⟩ := hs.2.2.2 g
              have hsz := ix_i hs.2.1.1
              obtain ⟨I0, rfl, hI0⟩ := nI_ex g4
              obtain ⟨N, rfl, hN0⟩ := nI_ex c3
              obtain ⟨K, rfl, hK0⟩ := nI_ex c
              rw [nI_clamp (by omega)] at hk hC isC s1 s2 s3 hs e0 hsz g g2 g5 h60 ⊢
              have hK4 : K < 4 := hk
              have hIN : I0 + 2 * N ≤ 60 := by omega
              have big : ∀ t, t < 2 * N → (l 64).getD (60 * K + I0 + t) 0 = (l (34 + 2 * K + 1)).getD (I0 + t) 0 := fun t ht => by
                rw [Nat.add_assoc]
                exact s3 (I0 + t) (by omega)
              have hx60 : (Int8.ofInt 60).toInt32 * nI K + nI I0 = nI (60 * K + I0) := by
                show nI 60 * nI K + nI I0 = _
                rw [nI_mul, nI_add]
              obtain ⟨C, hCe⟩ : ∃ C : Nat → Int32, C = fun t => (l (34 + 2 * K + 1)).getD (I0 + t) 0 := ⟨_, rfl⟩
              have hCt : ∀ t, C t = (l (34 + 2 * K + 1)).getD (I0 + t) 0 := fun t => by rw [hCe]
              have pass : ∀ (F : Nat → Nat → Int32) (L : Nat → List Int32) (P2 : ba_P), F 42 1 = nI m → L 62 = l 62 → L 63 = l 63 → ba_go scr ix_X9_night 111 [some (.ref 43), some (.int (nI K)), some (.int a), some (.int (nI I0)), some (.int (nI N)), some (.int b), some (.int 0), none] [] (wW F L q) 0 0 P2 → ba_go scr ix_X9_night 0 [some (.ref 43), some (.int (nI K)), some (.int a), some (.int (nI I0)), some (.int (nI N)), some (.int b), none, none] [] (wW F L q) 0 0 P2 := by
                intro F L P2 hF e62 e63 h
                refine rn_start hm6 hF ⟨c, d⟩ ⟨c1, by omega⟩ ⟨c3, c4⟩ cb (fun _ => ?_) (fun e => absurd e hne)
                have hb : 0 ≤ ((L 62).getD (nI K).toNatClampNeg 0).toInt := by rw [e62, nI_clamp (by omega), s1]; exact hs.2.1.1
                refine run_X9_night 12 ?_
                refine And.intro rfl (r_cellsBarred (f := F) c (by omega) (by rw [e62]; exact h62) (by rw [e63]; exact h63) (by rw [e2l _ c3 c4]; omega) (fun r => absurd hb (by omega)) (fun r r2 => absurd (by rw [e63, nI_clamp (by omega), s2]; exact g2) r2) (fun r r2 r3 => absurd r3 (by rw [e2l _ c3 c4]; omega)) (fun r r2 r3 r4 => absurd ⟨g4, by rw [e2l _ c3 c4, e62, nI_clamp (by omega), s1]; exact g5⟩ r4) (fun r r2 r3 r4 r5 => ?_))
                refine And.intro (fun _ => ?_) (fun e => absurd (by decide) e)
                exact h
              obtain ⟨v, hv⟩ : ∃ v, v = pbs (pA C) (pQ C m) N 0 := ⟨_, rfl⟩
              have h3 := pbs_3 (A := pA C) (Q := pQ C m) N 0
              rw [← hv] at h3
              have badv : ¬ v = 0 → P (some (.int v)) (wW (u2 f 0 6 0) l q) := by
                intro hv0
                refine hP _ _ _ _ (fun P2 h2 => pass (u2 f 0 6 0) l P2 hc2 rfl rfl ?_)
                refine run_X9_night 30 ?_
                refine And.intro rfl (r_pairs (f := u2 f 0 6 0) (C := C) (n := m) hx60 (by omega) h64 (fun t ht => by rw [big t ht, hCt]) hm6 hc2 ?_)
                rw [← hv]
                have vn : ¬ 0 ≤ v := by rcases h3 with h | h | h <;> rw [h] <;> first | exact absurd h hv0 | decide
                refine And.intro (fun e => absurd e vn) (fun _ => ?_)
                refine And.intro rfl (r_refused (f := u2 f 0 6 0) ?_)
                exact h2 _ _ _ (inv_fault (v := 0) hI)
              refine And.intro (fun _ => ?_) (fun e => absurd rfl e)
              refine And.intro rfl (s_refusal (f := u2 f 0 6 0) (n := m) hK4 hC hIN hm6 hc ?_)
              rw [← hCe, ← hv]
              refine And.intro (fun w0 => ?_) (fun w0 => ?_)
              · have w0 : v = 0 := w0
                have hall := pbs_0 N 0 (by rw [← hv]; exact w0)
                obtain ⟨pp, hpp⟩ : ∃ pp : Nat → Nat, pp = fun t => (C (2 * t)).toNatClampNeg := ⟨_, rfl⟩
                obtain ⟨aa, haa⟩ : ∃ aa : Nat → Int32, aa = fun t => C (2 * t + 1) := ⟨_, rfl⟩
                have hpa : ∀ j, j < N → pp j < m ∧ (0 ≤ (aa j).toInt ∧ (aa j).toInt ≤ 3) ∧ C (2 * j) = nI (pp j) ∧ C (2 * j + 1) = aa j := fun j hj => by
                  obtain ⟨r1, r2⟩ := hall j (by omega) (by omega)
                  have r1 := of_decide_eq_true r1
                  have r2 := of_decide_eq_true r2
                  have r3 := ix_i r2.1
                  rw [hpp, haa]
                  refine ⟨by show (C (2 * j)).toNatClampNeg < m; omega, r1, ?_, rfl⟩
                  show C (2 * j) = nI (C (2 * j)).toNatClampNeg
                  rw [eq_i, nI_toInt (by omega)]
                  omega
                obtain ⟨kv1, iv1, mv1, ke⟩ := kv_inv hI
                have ef : ∀ y, (fun p => (u2 f 0 6 0) (9 + p) y) = fun p => f (9 + p) y := fun y => funext fun p => u2_ne (by omega)
                have kv2 : kv (fun p => (u2 f 0 6 0) (9 + p) 0) (fun p => (u2 f 0 6 0) (9 + p) 1) (fun p => (u2 f 0 6 0) (9 + p) 3) := by rw [ef, ef, ef]; exact kv1
                obtain ⟨IS, MS, ch, ld, hq, q1, q2, q3, q4⟩ := nq_ex (l 5) (fun p => (u2 f 0 6 0) (9 + p) 0) (fun p => (u2 f 0 6 0) (9 + p) 1) (fun p => (u2 f 0 6 0) (9 + p) 3) m pp aa (l 3) (l 47)
                have hp6 : ∀ j, j < N → pp j < 6 := fun j hj => by have := (hpa j hj).1; omega
                have hpl : ∀ j, j < N → pp j < m ∧ (0 ≤ (aa j).toInt ∧ (aa j).toInt ≤ 3) ∧ (l 64).getD (60 * K + I0 + 2 * j) 0 = nI (pp j) ∧ (l 64).getD (60 * K + I0 + 2 * j + 1) 0 = aa j := fun j hj => by
                  obtain ⟨r1, r2, r3, r4⟩ := hpa j hj
                  refine ⟨r1, r2, ?_, ?_⟩
                  · rw [big (2 * j) (by omega), ← hCt, r3]
                  · rw [Nat.add_assoc (60 * K + I0), big (2 * j + 1) (by omega), ← hCt, r4]
                -- the reference, from the class's last world
                have refr : ∀ (F : Nat → Nat → Int32) (L : Nat → List Int32) (I M : List Int32) (val : Int32) (P2 : ba_P), CW (u2 f 0 6 0) F l L m I M → I.length = 2 →
                    ((∀ j, j < N → nok (fun p => (u2 f 0 6 0) (9 + p) 0) (fun p => (u2 f 0 6 0) (9 + p) 1) (fun p => (u2 f 0 6 0) (9 + p) 3) (IS j) (pp j) (aa j) = true) → val = if b = 1 then -9 else nan (fun p => (u2 f 0 6 0) (9 + p) 1) m (IS N) (MS N) (ch N) (ld N) b) →
                    (∀ j, j < N → (∀ t, t < j → nok (fun p => (u2 f 0 6 0) (9 + p) 0) (fun p => (u2 f 0 6 0) (9 + p) 1) (fun p => (u2 f 0 6 0) (9 + p) 3) (IS t) (pp t) (aa t) = true) → nok (fun p => (u2 f 0 6 0) (9 + p) 0) (fun p => (u2 f 0 6 0) (9 + p) 1) (fun p => (u2 f 0 6 0) (9 + p) 3) (IS j) (pp j) (aa j) = false → val = if b = 1 then nI j else -100 - nI j) →
                    (∀ f2 l2 q2, Inv f2 l2 q2 → P2 (some (.int val)) (wW f2 l2 q2)) → ba_go scr ix_X9_night 0 [some (.ref 43), some (.int (nI K)), some (.int a), some (.int (nI I0)), some (.int (nI N)), some (.int b), none, none] [] (wW F L q) 0 0 P2 := by
                  intro F L I M val P2 hW hI2 v1 v0 h2
                  have hF42 : F 42 1 = nI m := (hW.1.1 42 1 (by decide) (by decide) (by omega)).trans hc2
                  refine pass F L P2 hF42 (hW.1.2 62 (by decide) (by decide)) (hW.1.2 63 (by decide) (by decide)) ?_
                  refine run_X9_night 11 ?_
                  refine And.intro rfl (r_pairs (f := F) (l := L) (C := C) (n := m) hx60 (by omega) (by rw [hW.1.2 64 (by decide) (by decide)]; exact h64) (fun t ht => by rw [hW.1.2 64 (by decide) (by decide), big t ht, hCt]) hm6 hF42 ?_)
                  rw [← hv, w0]
                  refine And.intro (fun _ => ?_) (fun e => absurd (by decide) e)
                  exact rn_rest hI hm6 hF42 hW hI2 hx60 (by omega) (by omega) hq q1 q2 q3 q4 hpl cb v1 v0 h2
                refine Exists.intro _ (And.intro (rfl) ?_)
                refine Exists.intro _ (And.intro (rfl) ?_)
                refine And.intro rfl (s_passes (f := u2 f 0 6 0) (n := m) (pp := pp) (aa := aa) (I := IS) (M := MS) (ch := ch) (ld := ld) hK4 hC hIN hm6 hc hL.1.1 hL.1.2.1 hL.2.1.1 hL.2.1.2.1 (fun p hp => by rw [u2_ne (by omega)]; exact (ke p hp).2.2.1) hR.1 kv2 iv1 mv1 hq q1 q2 q3 q4 (fun j hj => ?_) (fun hok F L hW w1 w2 w3 => ?_) (fun j hj hok hno F L hW w1 => ?_))
                · obtain ⟨r1, r2, r3, r4⟩ := hpa j hj
                  exact ⟨r1, r2, by rw [← hCt, r3], by rw [Nat.add_assoc I0, ← hCt, r4]⟩
                · have a1 := nq_iv hq kv2 (by rw [q1]; exact iv1) N hp6 hok
                  have a2 := nq_mv hq hR.1 (by rw [q2]; exact mv1) N (fun t ht => ⟨hp6 t ht, (hpa t ht).2.1⟩)
                  refine Exists.intro _ (And.intro (rfl) ?_)
                  refine And.intro rfl (s_answer hW hm6 a2 a1.1 cb w1 w2 w3 ?_)
                  refine hP _ _ _ _ (fun P2 h2 => refr F L _ _ _ P2 hW a1.1 (fun _ => rfl) (fun j hj _ hno => absurd (hok j hj) (by rw [hno]; decide)) h2)
                · have a1 := nq_iv hq kv2 (by rw [q1]; exact iv1) j (fun t ht => hp6 t (by omega)) hok
                  refine Exists.intro _ (And.intro (rfl) ?_)
                  refine And.intro rfl (s_answer0 (j := j) (by omega) w1 ?_)
                  refine hP _ _ _ _ (fun P2 h2 => refr F L _ _ _ P2 hW a1.1 (fun ho => absurd (ho j hj) (by rw [hno]; decide)) (fun j' hj' ho' hno' => ?_) h2)
                  have : j' = j := by
                    rcases Nat.lt_trichotomy j' j with h | h | h
                    · exact absurd (hok j' h) (by rw [hno']; decide)
                    · exact h
                    · exact absurd (ho' j h) (by rw [hno]; decide)
                  rw [this]
              · exact badv w0
          · refine And.intro (fun e => absurd rfl e) (fun _ => ?_)
            have hz : m = 0 := by
              have c5 : ¬ 0 < (f 2 3).toInt := c5
              rw [hc, nI_toInt (by omega)] at c5
              omega
            refine hP _ _ _ _ (fun P2 h2 => rn_start (F := u2 f 0 6 0) (m := m) hm6 hc2 ⟨c, d⟩ ⟨c1, by omega⟩ ⟨c3, c4⟩ cb (fun h => absurd hz h) (fun _ => h2 _ _ _ (inv_fault (v := 0) hI)))
        · repeat (first | refine And.intro (fun e => absurd e (by decide)) (fun e => ?_) | refine And.intro (fun e => ?_) (fun e => absurd e (by decide)) | refine Exists.intro _ (And.intro rfl ?_) | refine And.intro rfl ?_)
          exact ref2 ⟨c, d⟩ (fun e => cb e.2.2)
      · repeat (first | refine And.intro (fun e => absurd e (by decide)) (fun e => ?_) | refine And.intro (fun e => ?_) (fun e => absurd e (by decide)) | refine Exists.intro _ (And.intro rfl ?_) | refine And.intro rfl ?_)
        exact ref2 ⟨c, d⟩ (fun e => c3 e.2.1)
    · repeat (first | refine And.intro (fun e => absurd e (by decide)) (fun e => ?_) | refine And.intro (fun e => ?_) (fun e => absurd e (by decide)) | refine Exists.intro _ (And.intro rfl ?_) | refine And.intro rfl ?_)
      exact ref2 ⟨c, d⟩ (fun e => c1 ⟨e.1.1, by omega⟩)
  · repeat (first | refine And.intro (fun e => absurd e (by decide)) (fun e => ?_) | refine And.intro (fun e => ?_) (fun e => absurd e (by decide)) | refine Exists.intro _ (And.intro rfl ?_) | refine And.intro rfl ?_)
    exact ref1 c
end N7
