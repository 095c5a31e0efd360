/-! night: the class's night -/
def nq (R : List Int32) (K O N : Nat → Int32) (n : Nat) (pp : Nat → Nat) (aa : Nat → Int32) (I M : Nat → List Int32) (ch ld : Nat → Nat) : Prop :=
  (∀ j, I (j + 1) = nin K O N (I j) (pp j) (aa j)) ∧ (∀ j, M (j + 1) = nmk R (M j) (pp j) (aa j)) ∧ (∀ j, ch (j + 1) = ch j + ncd (M j) (M (j + 1)) (pp j) (aa j)) ∧ ∀ j, ld (j + 1) = ld j + nle O n (M (j + 1))
def nst (R : List Int32) (K O N : Nat → Int32) (pp : Nat → Nat) (aa : Nat → Int32) (I0 M0 : List Int32) : Nat → List Int32 × List Int32
  | 0 => (I0, M0)
  | j + 1 => (nin K O N (nst R K O N pp aa I0 M0 j).1 (pp j) (aa j), nmk R (nst R K O N pp aa I0 M0 j).2 (pp j) (aa j))
def nsum (g : Nat → Nat) : Nat → Nat
  | 0 => 0
  | j + 1 => nsum g j + g j
theorem nq_ex (R : List Int32) (K O N : Nat → Int32) (n : Nat) (pp : Nat → Nat) (aa : Nat → Int32) (I0 M0 : List Int32) : ∃ I M ch ld, nq R K O N n pp aa I M ch ld ∧ I 0 = I0 ∧ M 0 = M0 ∧ ch 0 = 0 ∧ ld 0 = 0 :=
  ⟨fun j => (nst R K O N pp aa I0 M0 j).1, fun j => (nst R K O N pp aa I0 M0 j).2, nsum (fun j => ncd (nst R K O N pp aa I0 M0 j).2 (nst R K O N pp aa I0 M0 (j + 1)).2 (pp j) (aa j)), nsum (fun j => nle O n (nst R K O N pp aa I0 M0 (j + 1)).2), ⟨fun _ => rfl, fun _ => rfl, fun _ => rfl, fun _ => rfl⟩, rfl, rfl, rfl, rfl⟩
theorem nq_iv {R : List Int32} {K O N : Nat → Int32} {n : Nat} {pp : Nat → Nat} {aa : Nat → Int32} {I M : Nat → List Int32} {ch ld : Nat → Nat} (h : nq R K O N n pp aa I M ch ld) (hk : kv K O N) (h0 : iv (I 0)) : ∀ j, (∀ t, t < j → pp t < 6) → (∀ t, t < j → nok K O N (I t) (pp t) (aa t) = true) → iv (I j) := by
  intro j
  induction j with
  | zero => intro _ _; exact h0
  | succ j ih =>
    intro h1 h2
    rw [h.1 j]
    exact iv_nin hk (h1 j (by omega)) (ih (fun t ht => h1 t (by omega)) (fun t ht => h2 t (by omega))) (h2 j (by omega))
theorem nq_mv {R : List Int32} {K O N : Nat → Int32} {n : Nat} {pp : Nat → Nat} {aa : Nat → Int32} {I M : Nat → List Int32} {ch ld : Nat → Nat} (h : nq R K O N n pp aa I M ch ld) (hR : rv R) (h0 : mv (M 0)) : ∀ j, (∀ t, t < j → pp t < 6 ∧ 0 ≤ (aa t).toInt ∧ (aa t).toInt ≤ 3) → mv (M j) := by
  intro j
  induction j with
  | zero => intro _; exact h0
  | succ j ih =>
    intro h1
    rw [h.2.1 j]
    have := h1 j (by omega)
    exact mv_nmk hR this.1 this.2.1 this.2.2 (ih (fun t ht => h1 t (by omega)))
theorem nq_same {R : List Int32} {K O N : Nat → Int32} {n : Nat} {pp : Nat → Nat} {aa : Nat → Int32} {I M : Nat → List Int32} {ch ld : Nat → Nat} (h : nq R K O N n pp aa I M ch ld) {m : Nat} : ∀ j, (∀ t, t < j → pp t < m) → ∀ x, m ≤ x → (M j).getD x 0 = (M 0).getD x 0 := by
  intro j
  induction j with
  | zero => intro _ _ _; rfl
  | succ j ih =>
    intro h1 x hx
    have := h1 j (by omega)
    rw [h.2.1 j]
    unfold nmk
    rw [getD_set, if_neg (by omega)]
    exact ih (fun t ht => h1 t (by omega)) x hx
section NP
variable {scr : Option (List Int32)} {P : ba_P} {w : ba_W} {f : Nat → Nat → Int32} {l : Nat → List Int32} {q : Nat → List Int64}
variable {F : Nat → Nat → Int32} {L : Nat → List Int32}
theorem s_passes {k i0 N n : Nat} {pp : Nat → Nat} {aa : Nat → Int32} {I M : Nat → List Int32} {ch ld : Nat → Nat} (hk4 : k < 4) (hC : (l (34 + 2 * k + 1)).length = 60) (hIN : i0 + 2 * N ≤ 60) (hn : n ≤ 6) (hn2 : f 2 3 = nI n)
    (h3 : (l 3).length = 2) (h5 : (l 5).length = 12) (h17 : (l 17).length = 2) (h19 : (l 19).length = 12) (hm : ∀ p, p < 6 → (l 47).getD p 0 = f (9 + p) 2) (hr : rv (l 5))
    (hkv : kv (fun p => f (9 + p) 0) (fun p => f (9 + p) 1) (fun p => f (9 + p) 3)) (hiv : iv (l 3)) (hmv : mv (l 47))
    (hq : nq (l 5) (fun p => f (9 + p) 0) (fun p => f (9 + p) 1) (fun p => f (9 + p) 3) n pp aa I M ch ld) (hI0 : I 0 = l 3) (hM0 : M 0 = l 47) (hc0 : ch 0 = 0) (hl0 : ld 0 = 0)
    (hpp : ∀ j, j < N → pp j < n ∧ (0 ≤ (aa j).toInt ∧ (aa j).toInt ≤ 3) ∧ (l (34 + 2 * k + 1)).getD (i0 + 2 * j) 0 = nI (pp j) ∧ (l (34 + 2 * k + 1)).getD (i0 + 2 * j + 1) 0 = aa j)
    (hP1 : (∀ j, j < N → nok (fun p => f (9 + p) 0) (fun p => f (9 + p) 1) (fun p => f (9 + p) 3) (I j) (pp j) (aa j) = true) → ∀ F L, CW f F l L n (I N) (M N) → F 15 1 = -9 → F 15 2 = nI (ch N) → F 15 3 = nI (ld N) → P none (wW F L q))
    (hP0 : ∀ j, j < N → (∀ t, t < j → nok (fun p => f (9 + p) 0) (fun p => f (9 + p) 1) (fun p => f (9 + p) 3) (I t) (pp t) (aa t) = true) → nok (fun p => f (9 + p) 0) (fun p => f (9 + p) 1) (fun p => f (9 + p) 3) (I j) (pp j) (aa j) = false → ∀ F L, CW f F l L n (I j) (M j) → F 15 1 = nI j → P none (wW F L q)) :
    ba_go scr ix_X1_passes 0 [some (.ref 16), some (.ref 3), some (.ref (34 + 2 * k + 1)), some (.int (nI i0)), some (.int (nI N)), none, none] [] (wW f l q) 0 0 P := by
  have m9 : (-9 : Int32) = (Int8.ofInt (-9)).toInt32 := by decide
  have hx0 : ∀ j, nI i0 + Int32.ofInt 2 * nI j = nI (i0 + 2 * j) := fun j => by
    show nI i0 + nI 2 * nI j = _
    rw [nI_mul, nI_add]
  have hx1 : ∀ j, nI i0 + Int32.ofInt 2 * nI j + Int32.ofInt 1 = nI (i0 + 2 * j + 1) := fun j => by rw [hx0]; exact nI_1 _
  have loop : ∀ (m j : Nat) (x : Int32) (z : Option Value) (F : Nat → Nat → Int32) (L : Nat → List Int32), j + m = N → x = nI j → CW f F l L n (I j) (M j) → (∀ t, t < j → nok (fun p => f (9 + p) 0) (fun p => f (9 + p) 1) (fun p => f (9 + p) 3) (I t) (pp t) (aa t) = true) → F 15 1 = -9 → F 15 2 = nI (ch j) → F 15 3 = nI (ld j) → ba_go scr ix_X1_passes 27 [some (.ref 16), some (.ref 3), some (.ref (34 + 2 * k + 1)), some (.int (nI i0)), some (.int (nI N)), some (.int x), z] [] (wW F L q) 0 0 P := by
    intro m
    induction m with
    | zero =>
      intro j x z F L g1 g2 hW hok w1 w2 w3
      subst g2
      have h4 : j = N := by omega
      subst h4
      refine run_X1_passes 6 ?_
      refine And.intro (fun _ => ?_) (fun e => absurd (by show nI j ≤ nI j; rw [le_i]; omega) e)
      exact hP1 hok F L hW w1 w2 w3
    | succ m ih =>
      intro j x z F L g1 g2 hW hok w1 w2 w3
      subst g2
      obtain ⟨d1, d2, d3, d4⟩ := hpp j (by omega)
      have hivj := nq_iv hq hkv (by rw [hI0]; exact hiv) j (fun t ht => by have := (hpp t (by omega)).1; omega) hok
      have hmvj := nq_mv hq hr (by rw [hM0]; exact hmv) j (fun t ht => by have := hpp t (by omega); exact ⟨by omega, this.2.1⟩)
      have hmvj1 := nq_mv hq hr (by rw [hM0]; exact hmv) (j + 1) (fun t ht => by have := hpp t (by omega); exact ⟨by omega, this.2.1⟩)
      have eC : ∀ F' L', CW f F' l L' n (I j) (M j) → L' (34 + 2 * k + 1) = l (34 + 2 * k + 1) := fun F' L' h => h.1.2 _ (by omega) (by omega)
      have isC : ∀ F' L', ba_isC (wW F' L' q) (34 + 2 * k + 1) 5 = true := fun F' L' => isC_of (sh_fld hk4).2.2.2.2
      refine run_X1_passes 32 ?_
      refine And.intro (fun e => absurd e (by show ¬ nI N ≤ nI j; rw [le_i, nI_toInt (by omega), nI_toInt (by omega)]; omega)) (fun _ => ?_)
      refine Exists.intro _ (And.intro (rfl) ?_)
      refine And.intro (fun e => absurd (w1.trans m9) e) (fun _ => ?_)
      refine Exists.intro _ (And.intro (rfl) ?_)
      refine And.intro (ck rfl rfl rfl rfl (isC _ _)) (s_atn (l := L) (t := i0 + 2 * j) hk4 (by rw [eC F L hW]; exact hC) (hx0 j) (by omega) ?_)
      rw [eC F L hW, d3]
      have hcl : (nI (pp j)).toNatClampNeg = pp j := nI_clamp (by omega)
      refine And.intro rfl (s_personOf (b := 16) (Or.inr rfl) (by rw [hW.2.1.2.2, nI_toInt (by omega)]; omega) (fun r1 r2 => ?_) (fun r => absurd ⟨by rw [nI_toInt (by omega)]; omega, by rw [hW.2.1.2.2, nI_toInt (by omega), nI_toInt (by omega)]; omega⟩ r))
      rw [hcl]
      refine And.intro (ck rfl rfl rfl rfl (isC _ _)) (s_atn (l := L) (t := i0 + 2 * j + 1) hk4 (by rw [eC F L hW]; exact hC) (hx1 j) (by omega) ?_)
      rw [eC F L hW, d4]
      refine And.intro rfl (s_acts (p := pp j) hW hn d1 hkv hivj hmvj h5 d2.1 d2.2 w2 (fun ho => ?_) (fun ho F' L' hW' v1 v2 v3 => ?_))
      · refine run_X1_passes 7 ?_
        refine And.intro (fun e => absurd rfl e) (fun _ => ?_)
        refine Exists.intro (wW (u2 F 15 1 (nI j)) L q) (And.intro rfl ?_)
        have fin := hP0 j (by omega) hok ho (u2 F 15 1 (nI j)) L hW.f15 u2_eq
        have hne : ¬ nI j = (Int8.ofInt (-9)).toInt32 := fun e => by
          rw [← m9, eq_i, nI_toInt (by omega), show (-9 : Int32).toInt = -9 from rfl] at e
          omega
        refine run_X1_passes 12 ?_
        refine And.intro (fun _ => ?_) (fun _ => ?_)
        · exact fin
        · refine Exists.intro _ (And.intro rfl ?_)
          refine And.intro (fun _ => ?_) (fun e => absurd (show u2 F 15 1 (nI j) 15 1 = _ from Classical.not_not.mp e) (by rw [u2_eq]; exact hne))
          exact fin
      · have hok' : ∀ t, t < j + 1 → nok (fun p => f (9 + p) 0) (fun p => f (9 + p) 1) (fun p => f (9 + p) 3) (I t) (pp t) (aa t) = true := lt_s hok ho
        rw [← hq.1 j, ← hq.2.1 j] at hW'
        rw [← hq.2.1 j, ← hq.2.2.1 j] at v2
        refine run_X1_passes 3 ?_
        refine And.intro (fun _ => ?_) (fun e => absurd (by decide) e)
        refine And.intro rfl (s_isLed hW' hn hmvj1 ?_)
        have hld := hq.2.2.2 j
        obtain ⟨y, hy⟩ : ∃ y, y = nle (fun p => f (9 + p) 1) n (M (j + 1)) := ⟨_, rfl⟩
        rw [← hy] at hld ⊢
        have hy2 : y = 0 ∨ y = 1 := by rw [hy]; unfold nle; split <;> omega
        rcases hy2 with h | h
        · subst h
          refine run_X1_passes 3 ?_
          refine And.intro (fun _ => ?_) (fun e => absurd rfl e)
          exact ih (j + 1) _ _ F' L' (by omega) (nI_1 j) hW' hok' (v1.trans w1) v2 (by rw [v3, w3, hld]; rfl)
        · subst h
          refine run_X1_passes 9 ?_
          refine And.intro (fun e => absurd e (by decide)) (fun _ => ?_)
          refine Exists.intro _ (And.intro (rfl) ?_)
          refine Exists.intro (wW (u2 F' 15 3 (F' 15 3 + 1)) L' q) (And.intro rfl ?_)
          exact ih (j + 1) _ _ _ L' (by omega) (nI_1 j) hW'.f15 hok' (by rw [u2_nj (by decide)]; exact v1.trans w1) (by rw [u2_nj (by decide)]; exact v2) (by rw [u2_eq, v3, w3, hld, nI_1])
  refine run_X1_passes 15 ?_
  refine Exists.intro _ (And.intro (rfl) ?_)
  refine And.intro rfl (s_wbec hn hn2 h3 h5 h17 h19 hm (fun F L hW => ?_))
  refine Exists.intro (wW (u2 F 15 1 (-9)) L q) (And.intro rfl ?_)
  refine Exists.intro (wW (u2 (u2 F 15 1 (-9)) 15 2 0) L q) (And.intro rfl ?_)
  refine Exists.intro (wW (u2 (u2 (u2 F 15 1 (-9)) 15 2 0) 15 3 0) L q) (And.intro rfl ?_)
  rw [← hI0, ← hM0] at hW
  exact loop N 0 _ _ _ L (by omega) rfl hW.f15.f15.f15 (fun t ht => absurd ht (by omega)) (by rw [u2_nj (by decide), u2_nj (by decide), u2_eq]) (by rw [u2_nj (by decide), u2_eq, hc0]; rfl) (by rw [u2_eq, hl0]; rfl)
end NP
