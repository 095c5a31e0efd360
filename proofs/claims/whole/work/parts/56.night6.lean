/-! night: the reference's night -/
section N6
variable {scr : Option (List Int32)} {P : ba_P} {w : ba_W} {f : Nat → Nat → Int32} {l : Nat → List Int32} {q : Nat → List Int64}
variable {G : Nat → List Int32}
theorem ro_nwo {n : Nat} {O : Nat → Int32} {o : Int32} (hO : ∀ p, p < 6 → (l 46).getD p 0 = O p) : B6 (ro l n o 1) = B6 (nwo O n (l 47) o) := by
  refine B6_congr (fun x hx => ?_)
  unfold ro nwo
  rw [hO x hx, decide_eq_false (show ¬ (1 : Int32) = 0 by decide), Bool.false_or]
/-- behind an act: changes are counted, then who leads -/
theorem rn_tail {n p : Nat} {O : Nat → Int32} {a was wr c5 c6' did x : Int32} {FR N w3 : Int32} (hn : n ≤ 6) (hc : f 42 1 = nI n) (hp : p < 6) (ha : 0 ≤ a.toInt) (ha3 : a.toInt ≤ 3) (h46 : (l 46).length = 6) (h47 : (l 47).length = 6) (hO : ∀ p, p < 6 → (l 46).getD p 0 = O p)
    (h : ba_go scr ix_X9_nightBy 13 [some (.ref 43), some (.int FR), some (.int N), some (.int w3), some (.int wr), some (.int (c5 + nI (if ¬ a = 3 ∧ ¬ (l 47).getD p 0 = was then 1 else 0))), some (.int (c6' + nI (nle O n (l 47)))), some (.int (x + 1)), some (.int (nI p)), some (.int a), some (.int was), some (.int did)] [] (wW f l q) 0 0 P) :
    ba_go scr ix_X9_nightBy 100 [some (.ref 43), some (.int FR), some (.int N), some (.int w3), some (.int wr), some (.int c5), some (.int c6'), some (.int x), some (.int (nI p)), some (.int a), some (.int was), some (.int did)] [] (wW f l q) 0 0 P := by
  have i3 : (3 : Int32).toInt = 3 := rfl
  have a47 : ∀ xs, ba_ldI xs (wW f l q) 48 (nI p) = some ((l 47).getD p 0) := fun xs => by
    rw [ldI_of (l := l 47) rfl (by rw [nI_toInt (by omega)]; omega) (by rw [nI_toInt (by omega), h47]; omega), nI_clamp (by omega)]
  obtain ⟨c0, e0⟩ : ∃ c, c = c6 (nwo O n (l 47) 0) := ⟨_, rfl⟩
  obtain ⟨c1, e1⟩ : ∃ c, c = c6 (nwo O n (l 47) 1) := ⟨_, rfl⟩
  have b0 : c0 ≤ 6 := e0 ▸ c6_le _
  have b1 : c1 ≤ 6 := e1 ▸ c6_le _
  have en : nle O n (l 47) = if c1 < c0 then 1 else 0 := by unfold nle; rw [e0, e1]
  rw [en] at h
  have lead : ba_go scr ix_X9_nightBy 128 [some (.ref 43), some (.int FR), some (.int N), some (.int w3), some (.int wr), some (.int (c5 + nI (if ¬ a = 3 ∧ ¬ (l 47).getD p 0 = was then 1 else 0))), some (.int c6'), some (.int x), some (.int (nI p)), some (.int a), some (.int was), some (.int did)] [] (wW f l q) 0 0 P := by
    obtain ⟨y, hy⟩ : ∃ y, y = c5 + nI (if ¬ a = 3 ∧ ¬ (l 47).getD p 0 = was then 1 else 0) := ⟨_, rfl⟩
    rw [← hy] at h ⊢
    refine run_X9_nightBy 12 ?_
    refine And.intro rfl (r_peopleOf (o := 0) (x := 1) hn hc h46 h47 ?_)
    rw [ro_nwo hO]
    refine And.intro rfl (r_bits ?_)
    rw [← e0]
    refine And.intro rfl (r_peopleOf (o := 1) (x := 1) hn hc h46 h47 ?_)
    rw [ro_nwo hO]
    refine And.intro rfl (r_bits ?_)
    rw [← e1]
    refine And.intro (fun c => ?_) (fun c => ?_)
    · have c : nI c0 ≤ nI c1 := c
      rw [le_i, nI_toInt (by omega), nI_toInt (by omega)] at c
      rw [if_neg (by omega)] at h
      refine run_X9_nightBy 5 ?_
      exact h
    · have c : ¬ nI c0 ≤ nI c1 := c
      rw [le_i, nI_toInt (by omega), nI_toInt (by omega)] at c
      rw [if_pos (by omega)] at h
      refine run_X9_nightBy 6 ?_
      exact h
  clear h
  refine run_X9_nightBy 4 ?_
  refine And.intro (fun c => ?_) (fun c => ?_)
  · have c : (3 : Int32) ≤ a := c
    rw [le_i, i3] at c
    have e : a = 3 := by rw [eq_i, i3]; omega
    rw [if_neg (fun g => g.1 e)] at lead
    refine run_X9_nightBy 3 ?_
    exact lead
  · have c : ¬ (3 : Int32) ≤ a := c
    rw [le_i, i3] at c
    have e : ¬ a = 3 := fun e => by rw [e, i3] at c; omega
    refine run_X9_nightBy 6 ?_
    refine Exists.intro _ (And.intro (rfl) ?_)
    refine Exists.intro _ (And.intro (a47 _) ?_)
    refine And.intro (fun d => ?_) (fun d => ?_)
    · have d : (l 47).getD p 0 = was := d
      rw [if_neg (fun g => g.2 d)] at lead
      refine run_X9_nightBy 3 ?_
      exact lead
    · have d : ¬ (l 47).getD p 0 = was := d
      rw [if_pos ⟨e, d⟩] at lead
      refine run_X9_nightBy 4 ?_
      exact lead
/-- the answer behind the loop, where no pair was wrong -/
theorem rn_end {n ch ld : Nat} {O : Nat → Int32} {I M : List Int32} {a wr FR N x7 : Int32} {z8 z9 z10 z11 : Option Value} (hn : n ≤ 6) (hc : f 42 1 = nI n) (hI : (l 43) = I) (hM : l 47 = M) (hI2 : I.length = 2) (hM6 : M.length = 6) (h46 : (l 46).length = 6) (hO : ∀ p, p < 6 → (l 46).getD p 0 = O p) (hw : wr = -9) (ha : (0 ≤ a.toInt ∧ a.toInt ≤ 4) ∨ (10 ≤ a.toInt ∧ a.toInt ≤ 15))
    (hP : P (some (.int (if a = 1 then -9 else nan O n I M ch ld a))) (wW f l q)) : ba_go scr ix_X9_nightBy 165 [some (.ref 43), some (.int FR), some (.int N), some (.int a), some (.int wr), some (.int (nI ch)), some (.int (nI ld)), some (.int x7), z8, z9, z10, z11] [] (wW f l q) 0 0 P := by
  have i1 : (1 : Int32).toInt = 1 := rfl
  have i2 : (2 : Int32).toInt = 2 := rfl
  have i3 : (3 : Int32).toInt = 3 := rfl
  have i4 : (4 : Int32).toInt = 4 := rfl
  have h10 : (10 : Int32).toInt = 10 := rfl
  refine run_X9_nightBy 3 ?_
  refine And.intro (fun c => ?_) (fun c => ?_)
  · have c : ¬ a = 1 := c
    rw [if_neg c] at hP
    refine run_X9_nightBy 2 ?_
    refine And.intro (fun _ => ?_) (fun e => absurd (by rw [hw]; decide) e)
    refine run_X9_nightBy 3 ?_
    refine And.intro (fun g => ?_) (fun g => ?_)
    · have g : a < 10 := g
      rw [lt_i, h10] at g
      obtain ⟨wk, hwk⟩ : ∃ z, z = B6 (nwo O n M 0) ||| B6 (nwo O n M 1) := ⟨_, rfl⟩
      have a43 : ∀ (xs : Option (List Int32)) (j : Nat), j < 2 → ba_ldI xs (wW f l q) 44 (nI j) = some (I.getD j 0) := fun xs j hj => by
        rw [ldI_of (l := l 43) rfl (by rw [nI_toInt (by omega)]; omega) (by rw [nI_toInt (by omega), hI, hI2]; omega), nI_clamp (by omega), hI]
      have hP2 : P (some (.int (if a = 0 then I.getD 0 0 + I.getD 1 0 else if a = 2 then wk else if a = 3 then nI ch else nI ld))) (wW f l q) := by
        unfold nan at hP
        rw [hwk]
        by_cases q0 : a = 0
        · rw [if_pos q0] at hP ⊢; exact hP
        · rw [if_neg q0] at hP ⊢
          by_cases q2 : a = 2
          · rw [if_pos q2] at hP ⊢; exact hP
          · rw [if_neg q2] at hP ⊢
            by_cases q3 : a = 3
            · rw [if_pos q3] at hP ⊢; exact hP
            · rw [if_neg q3] at hP ⊢
              have q4 : a = 4 := by
                rw [eq_i, zi] at q0
                rw [eq_i, i1] at c
                rw [eq_i, i2] at q2
                rw [eq_i, i3] at q3
                rw [eq_i, i4]
                omega
              rw [if_pos q4] at hP
              exact hP
      have rest : ba_go scr ix_X9_nightBy 231 [some (.ref 43), some (.int FR), some (.int N), some (.int a), some (.int wr), some (.int (nI ch)), some (.int (nI ld)), some (.int wk), z8, z9, z10, z11] [] (wW f l q) 0 0 P := by
        refine run_X9_nightBy 2 ?_
        refine And.intro (fun q0 => ?_) (fun q0 => ?_)
        · have q0 : ¬ a = 0 := q0
          rw [if_neg q0] at hP2
          refine run_X9_nightBy 3 ?_
          refine And.intro (fun q2 => ?_) (fun q2 => ?_)
          · have q2 : ¬ a = 2 := q2
            rw [if_neg q2] at hP2
            refine run_X9_nightBy 3 ?_
            refine And.intro (fun q3 => ?_) (fun q3 => ?_)
            · have q3 : ¬ a = 3 := q3
              rw [if_neg q3] at hP2
              refine run_X9_nightBy 4 ?_
              exact hP2
            · have q3 : a = 3 := Classical.not_not.mp q3
              rw [if_pos q3] at hP2
              refine run_X9_nightBy 4 ?_
              exact hP2
          · have q2 : a = 2 := Classical.not_not.mp q2
            rw [if_pos q2] at hP2
            refine run_X9_nightBy 4 ?_
            exact hP2
        · have q0 : a = 0 := Classical.not_not.mp q0
          rw [if_pos q0] at hP2
          refine run_X9_nightBy 14 ?_
          refine Exists.intro _ (And.intro (rfl) ?_)
          refine Exists.intro _ (And.intro (a43 _ 0 (by decide)) ?_)
          refine Exists.intro _ (And.intro (rfl) ?_)
          refine Exists.intro _ (And.intro (a43 _ 1 (by decide)) ?_)
          exact hP2
      refine run_X9_nightBy 8 ?_
      refine And.intro rfl (r_peopleOf (o := 0) (x := 1) hn hc h46 (by rw [hM]; exact hM6) ?_)
      refine And.intro rfl (r_peopleOf (o := 1) (x := 1) hn hc h46 (by rw [hM]; exact hM6) ?_)
      rw [ro_nwo hO, ro_nwo hO, hM]
      rw [hwk] at rest
      refine run_X9_nightBy 2 ?_
      exact rest
    · have g : ¬ a < 10 := g
      rw [lt_i, h10] at g
      have es : (a - 10).toInt = a.toInt - 10 := by rw [fb_subI (by rw [h10]; omega) (by rw [h10]; omega), h10]
      have ec := ix_i (x := a - 10) (by omega)
      unfold nan at hP
      rw [if_neg (fun e => by rw [e, zi] at g; omega), if_neg (fun e => by rw [e, i2] at g; omega), if_neg (fun e => by rw [e, i3] at g; omega), if_neg (fun e => by rw [e, i4] at g; omega)] at hP
      refine run_X9_nightBy 5 ?_
      refine And.intro rfl (r_noPerson (p := a - 10) (by rw [hc, nI_toInt (by omega)]; omega) (fun r1 r2 => ?_) (fun r => ?_))
      · rw [hc, nI_toInt (by omega)] at r2
        rw [if_pos r2] at hP
        have a47 : ∀ xs, ba_ldI xs (wW f l q) 48 (a - 10) = some (M.getD (a - 10).toNatClampNeg 0) := fun xs => by
          rw [ldI_of (l := l 47) rfl r1 (by rw [hM, hM6]; omega), hM]
        refine run_X9_nightBy 10 ?_
        refine And.intro (fun _ => ?_) (fun e => absurd rfl e)
        refine Exists.intro _ (And.intro (rfl) ?_)
        refine Exists.intro _ (And.intro (a47 _) ?_)
        exact hP
      · rw [hc, nI_toInt (by omega)] at r
        rw [if_neg (by omega)] at hP
        refine run_X9_nightBy 10 ?_
        refine And.intro (fun e => absurd e (by decide)) (fun _ => ?_)
        exact hP
  · have c : a = 1 := Classical.not_not.mp c
    rw [if_pos c, ← hw] at hP
    refine run_X9_nightBy 3 ?_
    exact hP
theorem r_nightBy {n N FR : Nat} {K O Q : Nat → Int32} {pp : Nat → Nat} {aa : Nat → Int32} {I M : Nat → List Int32} {ch ld : Nat → Nat} {a xf : Int32} (hxf : xf = nI FR) (hn : n ≤ 6) (hc : f 42 1 = nI n) (hN : N ≤ 20) (hFR : FR + 2 * N ≤ 240) (h64 : (l 64).length = 240)
    (h44 : (l 44).length = 12) (h45 : (l 45).length = 6) (h46 : (l 46).length = 6) (h48 : (l 48).length = 6) (hr : rv (l 44)) (hkv : kv K O Q) (hiv : iv (l 43)) (hmv : mv (l 47)) (hK : ∀ p, p < 6 → (l 45).getD p 0 = K p ∧ (l 46).getD p 0 = O p ∧ (l 48).getD p 0 = Q p)
    (hq : nq (l 44) K O Q n pp aa I M ch ld) (hI0 : I 0 = l 43) (hM0 : M 0 = l 47) (hc0 : ch 0 = 0) (hl0 : ld 0 = 0)
    (hpp : ∀ j, j < N → pp j < n ∧ (0 ≤ (aa j).toInt ∧ (aa j).toInt ≤ 3) ∧ (l 64).getD (FR + 2 * j) 0 = nI (pp j) ∧ (l 64).getD (FR + 2 * j + 1) 0 = aa j) (ha : (0 ≤ a.toInt ∧ a.toInt ≤ 4) ∨ (10 ≤ a.toInt ∧ a.toInt ≤ 15))
    (hP1 : (∀ j, j < N → nok K O Q (I j) (pp j) (aa j) = true) → ∀ G, RW l G (I N) (M N) → P (some (.int (if a = 1 then -9 else nan O n (I N) (M N) (ch N) (ld N) a))) (wW f G q))
    (hP0 : ∀ j, j < N → (∀ t, t < j → nok K O Q (I t) (pp t) (aa t) = true) → nok K O Q (I j) (pp j) (aa j) = false → ∀ G, RW l G (I j) (M j) → P (some (.int (if a = 1 then nI j else -100 - nI j))) (wW f G q)) :
    ba_go scr ix_X9_nightBy 0 [some (.ref 43), some (.int xf), some (.int (nI N)), some (.int a), none, none, none, none, none, none, none, none] [] (wW f l q) 0 0 P := by
  subst hxf
  have i3 : (3 : Int32).toInt = 3 := rfl
  have m9 : (-9 : Int32) = (Int8.ofInt (-9)).toInt32 := by decide
  have hx0 : ∀ j, nI FR + Int32.ofInt 2 * nI j = nI (FR + 2 * j) := fun j => by
    show nI FR + nI 2 * nI j = _
    rw [nI_mul, nI_add]
  have hx1 : ∀ j, nI FR + Int32.ofInt 2 * nI j + Int32.ofInt 1 = nI (FR + 2 * j + 1) := fun j => by rw [hx0]; exact nI_1 _
  have loop : ∀ (m j : Nat) (x wr : Int32) (z8 z9 z10 z11 : Option Value) (G : Nat → List Int32), j + m = N → x = nI j → wr = -9 → RW l G (I j) (M j) → (∀ t, t < j → nok K O Q (I t) (pp t) (aa t) = true) → ba_go scr ix_X9_nightBy 13 [some (.ref 43), some (.int (nI FR)), some (.int (nI N)), some (.int a), some (.int wr), some (.int (nI (ch j))), some (.int (nI (ld j))), some (.int x), z8, z9, z10, z11] [] (wW f G q) 0 0 P := by
    intro m
    induction m with
    | zero =>
      intro j x wr z8 z9 z10 z11 G g1 g2 g3 hW hok
      subst g2
      have h4 : j = N := by omega
      subst h4
      have hivj := nq_iv hq hkv (by rw [hI0]; exact hiv) j (fun t ht => by have := (hpp t (by omega)).1; omega) hok
      have hmvj := nq_mv hq hr (by rw [hM0]; exact hmv) j (fun t ht => by have := hpp t (by omega); exact ⟨by omega, this.2.1⟩)
      have e46 := hW.2.2 46 (by decide) (by decide)
      refine run_X9_nightBy 3 ?_
      refine And.intro (fun _ => ?_) (fun e => absurd (by show nI j ≤ nI j; rw [le_i]; omega) e)
      exact rn_end hn hc hW.1 hW.2.1 hivj.1 hmvj.1 (by rw [e46]; exact h46) (fun p hp => by rw [e46]; exact (hK p hp).2.1) g3 ha (hP1 hok G hW)
    | succ m ih =>
      intro j x wr z8 z9 z10 z11 G g1 g2 g3 hW hok
      subst g2
      obtain ⟨d1, d2, d3, d4⟩ := hpp j (by omega)
      have hp6 : pp j < 6 := by omega
      have hivj := nq_iv hq hkv (by rw [hI0]; exact hiv) j (fun t ht => by have := (hpp t (by omega)).1; omega) hok
      have hmvj := nq_mv hq hr (by rw [hM0]; exact hmv) j (fun t ht => by have := hpp t (by omega); exact ⟨by omega, this.2.1⟩)
      have hmvj1 := nq_mv hq hr (by rw [hM0]; exact hmv) (j + 1) (fun t ht => by have := hpp t (by omega); exact ⟨by omega, this.2.1⟩)
      have e64 := hW.2.2 64 (by decide) (by decide)
      have a64 : ∀ (xs : Option (List Int32)) (t : Nat) (y : Int32), t < 240 → y = nI t → ba_ldI xs (wW f G q) 65 y = some ((l 64).getD t 0) := fun xs t y ht hy => by
        subst hy
        rw [ldI_of (l := G 64) rfl (by rw [nI_toInt (by omega)]; omega) (by rw [nI_toInt (by omega), e64, h64]; omega), nI_clamp (by omega), e64]
      have a47 : ∀ xs, ba_ldI xs (wW f G q) 48 (nI (pp j)) = some ((M j).getD (pp j) 0) := fun xs => by
        rw [ldI_of (l := G 47) rfl (by rw [nI_toInt (by omega)]; omega) (by rw [nI_toInt (by omega), hW.2.1, hmvj.1]; omega), nI_clamp (by omega), hW.2.1]
      -- behind the act
      have no : nok K O Q (I j) (pp j) (aa j) = false → ba_go scr ix_X9_nightBy 84 [some (.ref 43), some (.int (nI FR)), some (.int (nI N)), some (.int a), some (.int wr), some (.int (nI (ch j))), some (.int (nI (ld j))), some (.int (nI j)), some (.int (nI (pp j))), some (.int (aa j)), some (.int ((M j).getD (pp j) 0)), z11] [.int 0] (wW f G q) 0 0 P := by
        intro hno
        have e46 := hW.2.2 46 (by decide) (by decide)
        have fin := hP0 j (by omega) hok hno G hW
        refine run_X9_nightBy 5 ?_
        refine And.intro (fun _ => ?_) (fun e => absurd rfl e)
        refine rn_tail (l := G) (O := O) hn hc hp6 d2.1 d2.2 (by rw [e46]; exact h46) (by rw [hW.2.1]; exact hmvj.1) (fun p hp => by rw [e46]; exact (hK p hp).2.1) ?_
        have ends : ∀ (c5 c6 x7 : Int32) (y8 y9 y10 y11 : Option Value), ba_go scr ix_X9_nightBy 165 [some (.ref 43), some (.int (nI FR)), some (.int (nI N)), some (.int a), some (.int (nI j)), some (.int c5), some (.int c6), some (.int x7), y8, y9, y10, y11] [] (wW f G q) 0 0 P := by
          intro c5 c6 x7 y8 y9 y10 y11
          refine run_X9_nightBy 10 ?_
          refine And.intro (fun c => ?_) (fun c => ?_)
          · have c : ¬ a = 1 := c
            rw [if_neg c] at fin
            refine And.intro (fun e => absurd e (by show ¬ nI j < 0; rw [lt_i, nI_toInt (by omega), zi]; omega)) (fun _ => ?_)
            exact fin
          · have c : a = 1 := Classical.not_not.mp c
            rw [if_pos c] at fin
            exact fin
        refine run_X9_nightBy 3 ?_
        refine And.intro (fun _ => ?_) (fun _ => ?_)
        · exact ends _ _ _ _ _ _ _
        · refine run_X9_nightBy 2 ?_
          refine And.intro (fun _ => ?_) (fun e => absurd (by show (0 : Int32) ≤ nI j; rw [le_i, nI_toInt (by omega), zi]; omega) e)
          exact ends _ _ _ _ _ _ _
      have yes : nok K O Q (I j) (pp j) (aa j) = true → ∀ G', RW l G' (I (j + 1)) (M (j + 1)) → ba_go scr ix_X9_nightBy 84 [some (.ref 43), some (.int (nI FR)), some (.int (nI N)), some (.int a), some (.int wr), some (.int (nI (ch j))), some (.int (nI (ld j))), some (.int (nI j)), some (.int (nI (pp j))), some (.int (aa j)), some (.int ((M j).getD (pp j) 0)), z11] [.int 1] (wW f G' q) 0 0 P := by
        intro ho G' hW'
        have e46 := hW'.2.2 46 (by decide) (by decide)
        refine run_X9_nightBy 6 ?_
        refine And.intro (fun e => absurd e (by decide)) (fun _ => ?_)
        refine rn_tail (l := G') (O := O) hn hc hp6 d2.1 d2.2 (by rw [e46]; exact h46) (by rw [hW'.2.1]; exact hmvj1.1) (fun p hp => by rw [e46]; exact (hK p hp).2.1) ?_
        have h := ih (j + 1) (nI j + 1) ((Int8.ofInt (-9)).toInt32) (some (.int (nI (pp j)))) (some (.int (aa j))) (some (.int ((M j).getD (pp j) 0))) (some (.int 1)) G' (by omega) (nI_1 j) m9.symm hW' (lt_s hok ho)
        have ec : nI (ch j) + nI (if ¬ aa j = 3 ∧ ¬ (G' 47).getD (pp j) 0 = (M j).getD (pp j) 0 then 1 else 0) = nI (ch (j + 1)) := by
          rw [hq.2.2.1 j, hW'.2.1, nI_add]
          rfl
        have el : nI (ld j) + nI (nle O n (G' 47)) = nI (ld (j + 1)) := by rw [hq.2.2.2 j, hW'.2.1, nI_add]
        rw [ec, el]
        exact h
      refine run_X9_nightBy 33 ?_
      refine And.intro (fun e => absurd e (by show ¬ nI N ≤ nI j; rw [le_i, nI_toInt (by omega), nI_toInt (by omega)]; omega)) (fun _ => ?_)
      refine And.intro (fun e => absurd e (by rw [g3]; decide)) (fun _ => ?_)
      refine Exists.intro _ (And.intro (rfl) ?_)
      refine Exists.intro _ (And.intro (a64 _ (FR + 2 * j) _ (by omega) (hx0 j)) ?_)
      rw [d3]
      refine Exists.intro _ (And.intro (rfl) ?_)
      refine Exists.intro _ (And.intro (a64 _ (FR + 2 * j + 1) _ (by omega) (hx1 j)) ?_)
      rw [d4]
      refine Exists.intro _ (And.intro (rfl) ?_)
      refine Exists.intro _ (And.intro (a47 _) ?_)
      refine And.intro (fun c => ?_) (fun c => ?_)
      · have c : ¬ aa j = 3 := c
        have c3 : ¬ (aa j).toInt = 3 := fun e => c (by rw [eq_i, e]; rfl)
        refine run_X9_nightBy 4 ?_
        refine And.intro rfl (r_str hW hp6 hivj hmvj h44 h45 h46 h48 hkv (hK _ hp6) d2.1 (by omega) (fun ho => ?_) (fun ho G' hW' => ?_))
        · exact no ho
        · rw [← hq.1 j, ← hq.2.1 j] at hW'
          exact yes ho G' hW'
      · have c : aa j = 3 := Classical.not_not.mp c
        have hq1 := hq.1 j
        have hq2 := hq.2.1 j
        rw [c] at hq1 hq2
        refine run_X9_nightBy 4 ?_
        refine And.intro rfl (r_wsh (R := l 44) hW hp6 hivj hmvj h46 hkv (hK _ hp6).2.1 (fun ho => ?_) (fun ho G' hW' => ?_))
        · exact no (by rw [c]; exact ho)
        · rw [← hq1, ← hq2] at hW'
          exact yes (by rw [c]; exact ho) G' hW'
  refine run_X9_nightBy 8 ?_
  have h := loop N 0 0 ((Int8.ofInt (-9)).toInt32) none none none none l (by omega) rfl m9.symm ⟨hI0.symm, hM0.symm, fun x _ _ => rfl⟩ (fun t ht => absurd ht (by omega))
  rw [hc0, hl0] at h
  exact h
end N6
