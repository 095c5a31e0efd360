/-! night: an act, who leads -/
theorem c6_n {g : Nat → Bool} {h : Nat → Bool} (e : ∀ x, x < 6 → g x = h x) : c6 g = c6 h := c6_congr e
section NA
variable {scr : Option (List Int32)} {P : ba_P} {w : ba_W} {f : Nat → Nat → Int32} {l : Nat → List Int32} {q : Nat → List Int64}
variable {F : Nat → Nat → Int32} {L : Nat → List Int32}
theorem s_workersN {b n : Nat} (hb : b = 2 ∨ b = 16) (hn : n ≤ 6) (hc : f b 3 = nI n) {o : Int32} (hm : ∀ p, p < n → 0 ≤ (f (b + 7 + p) 2).toInt ∧ (f (b + 7 + p) 2).toInt ≤ 3) (hP : P (some (.int (B6 (wo f b n o)))) (wW f l q)) : ba_go scr ix_X7_workersOf 0 [some (.ref (b + 1)), some (.int o), none, none] [] (wW f l q) 0 0 P := by
  have loop : ∀ (m i : Nat) (s x : Int32), i + m = n → x = nI i → s = B6 (fun y => pe f b n o y && (decide (i ≤ y) || wkb (f (b + 7 + y) 2))) → ba_go scr ix_X7_workersOf 8 [some (.ref (b + 1)), some (.int o), some (.int s), some (.int x)] [] (wW f l q) 0 0 P := by
    intro m
    induction m with
    | zero =>
      intro i s x h1 h2 h3
      subst h2; subst h3
      refine run_X7_workersOf 4 ?_
      refine Exists.intro _ (And.intro ((wr_cnt hb).1) ?_)
      rw [hc]
      refine And.intro (fun _ => ?_) (fun e => absurd (by show nI n ≤ nI i; rw [le_i, nI_toInt (by omega), nI_toInt (by omega)]; omega) e)
      refine run_X7_workersOf 2 ?_
      rw [B6_congr (h := wo f b n o) (fun y hy => by unfold wo pe; by_cases h : y < n <;> simp [h]; rw [decide_eq_false (show ¬ i ≤ y by omega)]; rfl)]
      exact hP
    | succ m ih =>
      intro i s x h1 h2 h3
      subst h2; subst h3
      refine run_X7_workersOf 10 ?_
      refine Exists.intro _ (And.intro ((wr_cnt hb).1) ?_)
      rw [hc]
      refine And.intro (fun e => absurd e (by show ¬ nI n ≤ nI i; rw [le_i, nI_toInt (by omega), nI_toInt (by omega)]; omega)) (fun _ => ?_)
      refine Exists.intro _ (And.intro ((wr_cnt hb).2.1) ?_)
      refine Exists.intro _ (And.intro (ps_ldn hb (by omega)) ?_)
      have hat := ps_at (f := f) (l := l) (q := q) hb (show i < 6 by omega)
      refine And.intro (ck rfl rfl rfl rfl (isC_of hat)) (s_isAtWork hat (hm i (by omega)).1 (hm i (by omega)).2 (fun c => ?_) (fun c => ?_))
      · have c := wkb_t c
        refine And.intro (fun _ => ?_) (fun e => absurd (by decide) e)
        refine run_X7_workersOf 2 ?_
        refine ih (i + 1) _ (nI i + 1) (by omega) (nI_1 i) (B6_congr (fun y hy => ?_))
        by_cases h : y = i
        · subst h
          simp [c]
        · have : i + 1 ≤ y ↔ i ≤ y := by omega
          simp only [this]
      · have c := wkb_f c
        refine And.intro (fun e => absurd e (by decide)) (fun _ => ?_)
        refine run_X7_workersOf 10 ?_
        refine ih (i + 1) _ (nI i + 1) (by omega) (nI_1 i) ((B6_and _ (by omega)).trans (B6_congr (fun y hy => ?_)))
        by_cases h : y = i
        · subst h
          simp [c]
        · have : i + 1 ≤ y ↔ i ≤ y := by omega
          simp [this, h]
  refine run_X7_workersOf 6 ?_
  refine And.intro (ck rfl rfl rfl rfl (by rcases hb with rfl | rfl <;> rfl)) (s_peopleOf hb hn hc ?_)
  exact loop n 0 (B6 (pe f b n o)) 0 (by omega) rfl (B6_congr (fun y hy => by simp))
theorem CW.wos {n : Nat} {I M : List Int32} {o : Int32} (h : CW f F l L n I M) : B6 (wo F 16 n o) = B6 (nwo (fun p => f (9 + p) 1) n M o) := by
  refine B6_congr (fun x hx => ?_)
  unfold wo pe nwo
  by_cases hn : x < n
  · obtain ⟨h0, h1, h2, h3⟩ := h.2.2 x hn
    have h1 : F (16 + 7 + x) 1 = f (9 + x) 1 := h1
    have h2 : F (16 + 7 + x) 2 = M.getD x 0 := h2
    rw [h1, h2, Bool.and_assoc]
  · rw [decide_eq_false hn]
    rfl
theorem CW.mk6 {n : Nat} {I M : List Int32} (h : CW f F l L n I M) (hn : n ≤ 6) (hM : mv M) : ∀ p, p < n → 0 ≤ (F (16 + 7 + p) 2).toInt ∧ (F (16 + 7 + p) 2).toInt ≤ 3 := fun p hp => by
  obtain ⟨h0, h1, h2, h3⟩ := h.2.2 p hp
  have h2 : F (16 + 7 + p) 2 = M.getD p 0 := h2
  rw [h2]
  exact hM.2 p (by omega)
theorem s_isLed {n : Nat} {I M : List Int32} (h : CW f F l L n I M) (hn : n ≤ 6) (hM : mv M) (hP : P (some (.int (nI (nle (fun p => f (9 + p) 1) n M)))) (wW F L q)) : ba_go scr ix_X1_isLed 0 [some (.ref 16)] [] (wW F L q) 0 0 P := by
  obtain ⟨c0, h0⟩ : ∃ c, c = c6 (nwo (fun p => f (9 + p) 1) n M 0) := ⟨_, rfl⟩
  obtain ⟨c1, h1⟩ : ∃ c, c = c6 (nwo (fun p => f (9 + p) 1) n M 1) := ⟨_, rfl⟩
  have b0 : c0 ≤ 6 := h0 ▸ c6_le _
  have b1 : c1 ≤ 6 := h1 ▸ c6_le _
  have e : nle (fun p => f (9 + p) 1) n M = if c1 < c0 then 1 else 0 := by unfold nle; rw [h0, h1]
  rw [e] at hP
  refine run_X1_isLed 30 ?_
  refine Exists.intro _ (And.intro (rfl) ?_)
  refine And.intro rfl (s_workersN (b := 16) (o := 0) (Or.inr rfl) hn h.2.1.2.2 (h.mk6 hn hM) ?_)
  refine And.intro rfl (s_bitCount h.wos ?_)
  rw [← h0]
  refine Exists.intro _ (And.intro (rfl) ?_)
  refine And.intro rfl (s_workersN (b := 16) (o := 1) (Or.inr rfl) hn h.2.1.2.2 (h.mk6 hn hM) ?_)
  refine And.intro rfl (s_bitCount h.wos ?_)
  rw [← h1]
  refine And.intro (fun c => ?_) (fun c => ?_)
  · have c : nI c0 ≤ nI c1 := c
    rw [le_i, nI_toInt (by omega), nI_toInt (by omega)] at c
    rw [if_neg (by omega)] at hP
    exact And.intro rfl hP
  · have c : ¬ nI c0 ≤ nI c1 := c
    rw [le_i, nI_toInt (by omega), nI_toInt (by omega)] at c
    rw [if_pos (by omega)] at hP
    exact And.intro rfl hP
theorem s_acts {n p ch : Nat} {I M : List Int32} {a : Int32} (h : CW f F l L n I M) (hn : n ≤ 6) (hp : p < n) (hk : kv (fun p => f (9 + p) 0) (fun p => f (9 + p) 1) (fun p => f (9 + p) 3)) (hI : iv I) (hM : mv M) (h5 : (l 5).length = 12) (ha0 : 0 ≤ a.toInt) (ha3 : a.toInt ≤ 3) (hch : F 15 2 = nI ch)
    (h0 : nok (fun p => f (9 + p) 0) (fun p => f (9 + p) 1) (fun p => f (9 + p) 3) I p a = false → P (some (.int 0)) (wW F L q))
    (h1 : nok (fun p => f (9 + p) 0) (fun p => f (9 + p) 1) (fun p => f (9 + p) 3) I p a = true → ∀ F' L', CW f F' l L' n (nin (fun p => f (9 + p) 0) (fun p => f (9 + p) 1) (fun p => f (9 + p) 3) I p a) (nmk (l 5) M p a) → F' 15 1 = F 15 1 → F' 15 2 = nI (ch + ncd M (nmk (l 5) M p a) p a) → F' 15 3 = F 15 3 → P (some (.int 1)) (wW F' L' q)) :
    ba_go scr ix_X1_acts 0 [some (.ref 16), some (.ref (23 + p + 1)), some (.int a), none] [] (wW F L q) 0 0 P := by
  have hp6 : p < 6 := by omega
  have hpv := h.pvm hn hp hk hM
  obtain ⟨k0, k1, k2, k3⟩ := h.2.2 p hp
  have e17 : L 17 = I := h.2.1.1
  have e19 : L 19 = l 5 := h.2.1.2.1
  refine run_X1_acts 60 ?_
  refine And.intro (fun c => ?_) (fun c => ?_)
  · have c : ¬ a = 3 := c
    have c3 : ¬ a.toInt = 3 := fun e => c (by rw [eq_i, e]; rfl)
    unfold nok nin nmk ncd at *
    simp only [if_neg c] at *
    refine Exists.intro _ (And.intro (fld_of (after_at (f := F) hp6) rfl) ?_)
    refine Exists.intro _ (And.intro (rfl) ?_)
    refine And.intro rfl (s_strikes (b := 16) (f := F) (l := L) (Or.inr rfl) hp6 (by show (L 17).length = 2; rw [e17]; exact hI.1) (by show (L 19).length = 12; rw [e19]; exact h5) hpv ha0 (by omega) (fun g => ?_) (fun g => ?_))
    · have g : ((L 17).getD (1 - F (23 + p) 1).toNatClampNeg 0).toInt < (tk (F (23 + p) 0) (F (23 + p) 3)).toInt := g
      rw [e17, k0, k1, k3] at g
      refine And.intro (fun e => absurd rfl e) (fun _ => ?_)
      refine And.intro rfl (h0 ?_)
      rw [decide_eq_true g]
      rfl
    · have g : ¬ ((L 17).getD (1 - F (23 + p) 1).toNatClampNeg 0).toInt < (tk (F (23 + p) 0) (F (23 + p) 3)).toInt := g
      rw [e17, k0, k1, k3] at g
      have h2 := h1 (by rw [decide_eq_false g]; rfl)
      refine And.intro (fun _ => ?_) (fun e => absurd (by decide) e)
      obtain ⟨F1, hF⟩ : ∃ F1, F1 = u2 F (16 + 7 + p) 2 (rl (L (16 + 3)) (F (16 + 7 + p) 2) a) := ⟨_, rfl⟩
      obtain ⟨L1, hL⟩ : ∃ L1, L1 = u1 L (16 + 1) ((L (16 + 1)).set (1 - F (16 + 7 + p) 1).toNatClampNeg ((L (16 + 1)).getD (1 - F (16 + 7 + p) 1).toNatClampNeg 0 - tk (F (16 + 7 + p) 0) (F (16 + 7 + p) 3))) := ⟨_, rfl⟩
      rw [← hF, ← hL]
      have hF : F1 = u2 F (23 + p) 2 (rl (L 19) (F (23 + p) 2) a) := hF
      have hL : L1 = u1 L 17 ((L 17).set (1 - F (23 + p) 1).toNatClampNeg ((L 17).getD (1 - F (23 + p) 1).toNatClampNeg 0 - tk (F (23 + p) 0) (F (23 + p) 3))) := hL
      rw [e19, k2] at hF
      rw [e17, k0, k1, k3] at hL
      have hs := h.step (I' := I.set (1 - f (9 + p) 1).toNatClampNeg (I.getD (1 - f (9 + p) 1).toNatClampNeg 0 - tk (f (9 + p) 0) (f (9 + p) 3))) (v := rl (l 5) (M.getD p 0) a) hn hp hM.1
      rw [← hF, ← hL] at hs
      have em : (M.set p (rl (l 5) (M.getD p 0) a)).getD p 0 = rl (l 5) (M.getD p 0) a := by rw [getD_set, if_pos ⟨rfl, by rw [hM.1]; exact hp6⟩]
      have ef : F1 (23 + p) 2 = rl (l 5) (M.getD p 0) a := by rw [hF, u2_eq]
      have o1 : F1 15 1 = F 15 1 := by rw [hF, u2_ne (by omega)]
      have o2 : F1 15 2 = F 15 2 := by rw [hF, u2_ne (by omega)]
      have o3 : F1 15 3 = F 15 3 := by rw [hF, u2_ne (by omega)]
      rw [em] at h2
      refine Exists.intro _ (And.intro (fld_of (after_at (f := F1) hp6) rfl) ?_)
      rw [ef, k2]
      refine And.intro (fun d => ?_) (fun d => ?_)
      · have d : rl (l 5) (M.getD p 0) a = M.getD p 0 := d
        refine And.intro rfl (h2 F1 L1 hs o1 ?_ o3)
        rw [o2, hch, if_neg (fun e => e.2 d)]
        rfl
      · have d : ¬ rl (l 5) (M.getD p 0) a = M.getD p 0 := d
        refine Exists.intro _ (And.intro (rfl) ?_)
        refine Exists.intro (wW (u2 F1 15 2 (F1 15 2 + 1)) L1 q) (And.intro rfl ?_)
        refine And.intro rfl (h2 _ L1 hs.f15 (by rw [u2_nj (by decide)]; exact o1) ?_ (by rw [u2_nj (by decide)]; exact o3))
        rw [u2_eq, o2, hch, if_pos ⟨c, d⟩, nI_1]
  · have c : a = 3 := Classical.not_not.mp c
    subst c
    have n3 : ncd M (nmk (l 5) M p 3) p 3 = 0 := by unfold ncd; rw [if_neg (fun e => e.1 rfl)]
    rw [n3] at h1
    unfold nok nin nmk at *
    simp only [if_true] at *
    refine Exists.intro _ (And.intro (rfl) ?_)
    refine And.intro rfl (s_washes (b := 16) (f := F) (l := L) (Or.inr rfl) hp6 (by show (L 17).length = 2; rw [e17]; exact hI.1) hpv (fun g => ?_) (fun g => ?_))
    · have g : (L 17).getD (F (23 + p) 1).toNatClampNeg 0 = 0 := g
      rw [e17, k1] at g
      refine And.intro rfl (h0 ?_)
      rw [decide_eq_true g]
      rfl
    · have g : ¬ (L 17).getD (F (23 + p) 1).toNatClampNeg 0 = 0 := g
      rw [e17, k1] at g
      have h2 := h1 (by rw [decide_eq_false g]; rfl)
      obtain ⟨F1, hF⟩ : ∃ F1, F1 = u2 F (16 + 7 + p) 2 0 := ⟨_, rfl⟩
      obtain ⟨L1, hL⟩ : ∃ L1, L1 = u1 L (16 + 1) ((L (16 + 1)).set (F (16 + 7 + p) 1).toNatClampNeg ((L (16 + 1)).getD (F (16 + 7 + p) 1).toNatClampNeg 0 - 1)) := ⟨_, rfl⟩
      rw [← hF, ← hL]
      have hF : F1 = u2 F (23 + p) 2 0 := hF
      have hL : L1 = u1 L 17 ((L 17).set (F (23 + p) 1).toNatClampNeg ((L 17).getD (F (23 + p) 1).toNatClampNeg 0 - 1)) := hL
      rw [e17, k1] at hL
      have hs := h.step (I' := I.set (f (9 + p) 1).toNatClampNeg (I.getD (f (9 + p) 1).toNatClampNeg 0 - 1)) (v := 0) hn hp hM.1
      rw [← hF, ← hL] at hs
      refine And.intro rfl (h2 F1 L1 hs (by rw [hF, u2_ne (by omega)]) (by rw [hF, u2_ne (by omega), hch]; rfl) (by rw [hF, u2_ne (by omega)]))
end NA
