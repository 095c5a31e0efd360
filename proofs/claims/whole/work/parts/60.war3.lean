/-! war: the reference's reading -/
def RS (f F : Nat → Nat → Int32) (l L : Nat → List Int32) (t p : Nat) : Prop :=
  (∀ x y, ¬ (x = 42 ∧ (y = 9 ∨ y = 10)) → F x y = f x y) ∧ (∀ x, ¬ (49 ≤ x ∧ x ≤ 54) → L x = l x) ∧ ((L 49).length = 2 ∧ (L 50).length = 12 ∧ (L 51).length = 6 ∧ (L 52).length = 6 ∧ (L 53).length = 6 ∧ (L 54).length = 6) ∧ F 42 9 = nI t ∧ F 42 10 = nI p
theorem RS.at9 {f F : Nat → Nat → Int32} {l L : Nat → List Int32} {t p t' : Nat} {v : Int32} (h : RS f F l L t p) (hv : v = nI t') : RS f (u2 F 42 9 v) l L t' p := by
  refine ⟨fun x y hx => ?_, h.2.1, h.2.2.1, ?_, ?_⟩
  · by_cases e : x = 42
    · subst e
      rw [u2_nj (by omega)]
      exact h.1 _ y hx
    · rw [u2_ne e]
      exact h.1 x y hx
  · rw [u2_eq, hv]
  · rw [u2_nj (by decide)]
    exact h.2.2.2.2
theorem RS.at10 {f F : Nat → Nat → Int32} {l L : Nat → List Int32} {t p p' : Nat} {v : Int32} (h : RS f F l L t p) (hv : v = nI p') : RS f (u2 F 42 10 v) l L t p' := by
  refine ⟨fun x y hx => ?_, h.2.1, h.2.2.1, ?_, ?_⟩
  · by_cases e : x = 42
    · subst e
      rw [u2_nj (by omega)]
      exact h.1 _ y hx
    · rw [u2_ne e]
      exact h.1 x y hx
  · rw [u2_nj (by decide)]
    exact h.2.2.2.1
  · rw [u2_eq, hv]
theorem RS.put {f F : Nat → Nat → Int32} {l L : Nat → List Int32} {t p x : Nat} {X : List Int32} (h : RS f F l L t p) (hx : 49 ≤ x ∧ x ≤ 54) (hX : X.length = (L x).length) : RS f F l (u1 L x X) t p := by
  have hlen : ∀ y, (u1 L x X y).length = (L y).length := fun y => by
    by_cases e : y = x
    · subst e; rw [u1_eq, hX]
    · rw [u1_ne e]
  refine ⟨h.1, fun y hy => ?_, ?_, h.2.2.2⟩
  · rw [u1_ne (by omega)]
    exact h.2.1 y hy
  · rw [hlen, hlen, hlen, hlen, hlen, hlen]
    exact h.2.2.1
theorem dg_v {m : Int} {c : Int32} (hm : 0 ≤ m) (hm9 : m ≤ 9) : (0 ≤ (dv c).toInt ∧ (dv c).toInt ≤ m) ↔ dg m c = true := by
  have e48 : (48 : Int32).toInt = 48 := rfl
  unfold dv dg
  rw [decide_eq_true_iff]
  constructor
  · intro h
    have e : c - 48 + 48 = c := Int32.sub_add_cancel c 48
    have e2 : (c - 48 + 48).toInt = (c - 48).toInt + 48 := by rw [fb_addI (by rw [e48]; omega) (by rw [e48]; omega), e48]
    rw [e] at e2
    omega
  · intro h
    rw [fb_subI (by rw [e48]; omega) (by rw [e48]; omega), e48]
    omega
section WC
variable {scr : Option (List Int32)} {P : ba_P} {w : ba_W} {f : Nat → Nat → Int32} {l : Nat → List Int32} {q : Nat → List Int64}
variable {F : Nat → Nat → Int32} {L : Nat → List Int32}
theorem r_codeAt {FR n t p : Nat} {C : Nat → Int32} (h64 : (l 64).length = 240) (hFR : FR + n ≤ 240) (hC : ∀ t, t < n → (l 64).getD (FR + t) 0 = C t) (ht : t < 1000) (h : RS f F l L t p) (hP : P (some (.int (if t < n then C t else -9))) (wW F L q)) : ba_go scr ix_X9_codeAt 0 [some (.ref 43), some (.int (nI FR)), some (.int (nI n))] [] (wW F L q) 0 0 P := by
  have e64 := h.2.1 64 (by omega)
  refine run_X9_codeAt 4 ?_
  refine Exists.intro _ (And.intro (rfl) ?_)
  rw [h.2.2.2.1]
  refine And.intro (fun c => ?_) (fun c => ?_)
  · have c : nI n ≤ nI t := c
    rw [le_i, nI_toInt (by omega), nI_toInt (by omega)] at c
    rw [if_neg (by omega)] at hP
    refine run_X9_codeAt 5 ?_
    exact hP
  · have c : ¬ nI n ≤ nI t := c
    rw [le_i, nI_toInt (by omega), nI_toInt (by omega)] at c
    rw [if_pos (by omega), ← hC t (by omega), ← e64] at hP
    have a64 : ∀ xs, ba_ldI xs (wW F L q) 65 (nI FR + F 42 9) = some ((L 64).getD (FR + t) 0) := fun xs => by
      rw [h.2.2.2.1, nI_add, ldI_of (l := L 64) rfl (by rw [nI_toInt (by omega)]; omega) (by rw [nI_toInt (by omega), e64, h64]; omega), nI_clamp (by omega)]
    refine run_X9_codeAt 15 ?_
    refine Exists.intro _ (And.intro (rfl) ?_)
    refine Exists.intro _ (And.intro (rfl) ?_)
    refine Exists.intro _ (And.intro (a64 _) ?_)
    exact hP
theorem r_figure {FR n t p : Nat} {C : Nat → Int32} {m : Int} {ah hi : Int32} (h64 : (l 64).length = 240) (hFR : FR + n ≤ 240) (hC : ∀ t, t < n → (l 64).getD (FR + t) 0 = C t) (ht : t < 900) (hm0 : 0 ≤ m) (hm9 : m ≤ 9) (hm : hi.toInt = m) (h : RS f F l L t p)
    (hs : 0 ≤ ah.toInt → t < n → dg m (C t) = true → ∀ F', RS f F' l L (t + 1) p → P (some (.int (dv (C t)))) (wW F' L q))
    (hf : ¬ (0 ≤ ah.toInt ∧ t < n ∧ dg m (C t) = true) → ∀ F', RS f F' l L t p → P (some (.int (-9))) (wW F' L q)) :
    ba_go scr ix_X9_figure 0 [some (.ref 43), some (.int (nI FR)), some (.int (nI n)), some (.int ah), some (.int hi), none, none] [] (wW F L q) 0 0 P := by
  have e48 : (48 : Int32) = (Int8.ofInt 48).toInt32 := by decide
  have e9 := h.2.2.2.1
  have tail : ∀ v : Int32, ((0 ≤ v.toInt ∧ v.toInt ≤ m) → P (some (.int v)) (wW (u2 F 42 9 (nI (t + 1))) L q)) → (¬ (0 ≤ v.toInt ∧ v.toInt ≤ m) → P (some (.int (-9))) (wW (u2 F 42 9 (nI t)) L q)) → ba_go scr ix_X9_figure 20 [some (.ref 43), some (.int (nI FR)), some (.int (nI n)), some (.int ah), some (.int hi), some (.int v), none] [] (wW F L q) 0 0 P := by
    intro v h1 h0
    refine run_X9_figure 6 ?_
    refine And.intro rfl (s_in (x := v.toInt) (a := 0) (b := m) l64 rfl (by rw [l64]; exact hm) (fun a b => ?_) (fun a => ?_))
    · refine run_X9_figure 20 ?_
      refine Exists.intro _ (And.intro (rfl) ?_)
      refine And.intro (fun e => absurd e (by decide)) (fun _ => ?_)
      refine Exists.intro (wW (u2 F 42 9 (F 42 9 + 1)) L q) (And.intro rfl ?_)
      rw [e9, nI_1]
      refine And.intro (fun e => absurd e (by decide)) (fun _ => ?_)
      exact h1 ⟨a, b⟩
    · refine run_X9_figure 20 ?_
      refine Exists.intro _ (And.intro (rfl) ?_)
      refine And.intro (fun _ => ?_) (fun e => absurd rfl e)
      refine Exists.intro (wW (u2 F 42 9 (F 42 9 + 0)) L q) (And.intro rfl ?_)
      rw [e9, show nI t + 0 = nI t from Int32.add_zero _]
      refine And.intro (fun _ => ?_) (fun e => absurd rfl e)
      exact h0 a
  refine run_X9_figure 2 ?_
  refine And.intro (fun c => ?_) (fun c => ?_)
  · have c : 0 ≤ ah := c
    rw [le_i, zi] at c
    refine run_X9_figure 4 ?_
    refine And.intro rfl (r_codeAt h64 hFR hC (by omega) h ?_)
    refine run_X9_figure 3 ?_
    refine tail _ (fun a => ?_) (fun a => ?_)
    · by_cases hn : t < n
      · rw [if_pos hn] at a ⊢
        have a2 := (dg_v (c := C t) hm0 hm9).mp (by unfold dv; rw [e48]; exact a)
        have h2 := hs c hn a2 _ (h.at9 (v := nI (t + 1)) rfl)
        unfold dv at h2
        rw [e48] at h2
        exact h2
      · rw [if_neg hn] at a
        exact absurd a.1 (by decide)
    · by_cases hn : t < n
      · rw [if_pos hn] at a
        exact hf (fun g => a (by have := (dg_v (c := C t) hm0 hm9).mpr g.2.2; unfold dv at this; rw [e48] at this; exact this)) _ (h.at9 (v := nI t) rfl)
      · exact hf (fun g => hn g.2.1) _ (h.at9 (v := nI t) rfl)
  · have c : ¬ 0 ≤ ah := c
    rw [le_i, zi] at c
    refine run_X9_figure 3 ?_
    refine tail _ (fun a => absurd a.1 (by decide)) (fun a => ?_)
    exact hf (fun g => c g.1) _ (h.at9 (v := nI t) rfl)
theorem Gb_ink {t : Nat} {c : Int32} (h1 : 1 ≤ t) (h5 : t < 5) : Gb t c = dg 9 c := by
  unfold Gb
  rw [if_neg (by omega), if_pos h5]
theorem Gb_rule {t : Nat} {c : Int32} (h1 : 5 ≤ t) (h5 : t < 17) : Gb t c = dg 3 c := by
  unfold Gb
  rw [if_neg (by omega), if_neg (by omega), if_pos h5]
theorem Gb_per {p s : Nat} {c : Int32} (hp : p < 6) (hs : s < 5) : Gb (17 + 5 * p + s) c = Gp s c := by
  unfold Gb
  rw [if_neg (by omega), if_neg (by omega), if_neg (by omega), decide_eq_true (by omega), Bool.true_and, show (17 + 5 * p + s - 17) % 5 = s by omega]
theorem r_readsInk {FR n o p : Nat} {C : Nat → Int32} (h64 : (l 64).length = 240) (hFR : FR + n ≤ 240) (hC : ∀ t, t < n → (l 64).getD (FR + t) 0 = C t) (ho : o < 2) (h : RS f F l L (1 + 2 * o) p) (hu : upto C (1 + 2 * o)) (hn : 1 + 2 * o ≤ n)
    (hs : upto C (3 + 2 * o) → 3 + 2 * o ≤ n → ∀ F' L', RS f F' l L' (3 + 2 * o) p → L' 49 = (L 49).set o (ik C o) → (∀ x, ¬ x = 49 → L' x = L x) → P (some (.int 1)) (wW F' L' q))
    (hf : ∀ e F' L', fb C n e → RS f F' l L' e p → P (some (.int 0)) (wW F' L' q)) :
    ba_go scr ix_X9_readsInk 0 [some (.ref 43), some (.int (nI FR)), some (.int (nI n)), some (.int (nI o)), none, none] [] (wW F L q) 0 0 P := by
  have e10 : (10 : Int32) = (Int8.ofInt 10).toInt32 := by decide
  have st : ∀ (F' : Nat → Nat → Int32) (v : Int32), ba_stI (wW F' L q) 50 (nI o) v = some (wW F' (u1 L 49 ((L 49).set o v)) q) := fun F' v => by
    rw [stI_of (l := L 49) rfl (by rw [nI_toInt (by omega)]; omega) (by rw [nI_toInt (by omega), h.2.2.1.1]; omega), nI_clamp (by omega)]
    rfl
  refine run_X9_readsInk 6 ?_
  refine And.intro rfl (r_figure (m := 9) h64 hFR hC (by omega) (by decide) (by decide) (by decide) h (fun a1 a2 a3 F1 k1 => ?_) (fun a1 F1 k1 => ?_))
  · have u1' := upto_s hu (by rw [Gb_ink (by omega) (by omega)]; exact a3)
    have d1 := (dg_v (c := C (1 + 2 * o)) (by decide) (by decide)).mpr a3
    refine run_X9_readsInk 7 ?_
    refine And.intro rfl (r_figure (m := 9) h64 hFR hC (by omega) (by decide) (by decide) (by decide) k1 (fun b1 b2 b3 F2 k2 => ?_) (fun b1 F2 k2 => ?_))
    · have u2' := upto_s u1' (by rw [Gb_ink (by omega) (by omega)]; exact b3)
      have d2 := (dg_v (c := C (1 + 2 * o + 1)) (by decide) (by decide)).mpr b3
      refine run_X9_readsInk 20 ?_
      refine Exists.intro _ (And.intro (rfl) ?_)
      refine Exists.intro _ (And.intro (st _ _) ?_)
      refine And.intro (fun e => absurd e (by show ¬ dv (C (1 + 2 * o + 1)) < 0; rw [lt_i, zi]; omega)) (fun _ => ?_)
      refine And.intro rfl ?_
      refine hs (by rw [show 3 + 2 * o = 1 + 2 * o + 1 + 1 by omega]; exact u2') (by omega) F2 _ (by rw [show 3 + 2 * o = 1 + 2 * o + 1 + 1 by omega]; exact k2.put (by omega) (by rw [List.length_set])) ?_ (fun x hx => u1_ne hx)
      rw [u1_eq]
      unfold ik
      rw [e10, show 2 + 2 * o = 1 + 2 * o + 1 by omega]
    · refine run_X9_readsInk 20 ?_
      refine Exists.intro _ (And.intro (rfl) ?_)
      refine Exists.intro _ (And.intro (st _ _) ?_)
      refine And.intro (fun _ => ?_) (fun e => absurd (by decide) e)
      refine And.intro rfl ?_
      exact hf _ F2 _ (fb_mk (by omega) u1' (fun g => b1 ⟨d1.1, g.1, by rw [← Gb_ink (t := 1 + 2 * o + 1) (by omega) (by omega)]; exact g.2⟩) (fun g => by have := g.1; omega)) (k2.put (by omega) (by rw [List.length_set]))
  · refine run_X9_readsInk 7 ?_
    refine And.intro rfl (r_figure (m := 9) h64 hFR hC (by omega) (by decide) (by decide) (by decide) k1 (fun b1 b2 b3 F2 k2 => absurd b1 (by decide)) (fun b1 F2 k2 => ?_))
    refine run_X9_readsInk 20 ?_
    refine Exists.intro _ (And.intro (rfl) ?_)
    refine Exists.intro _ (And.intro (st _ _) ?_)
    refine And.intro (fun _ => ?_) (fun e => absurd (by decide) e)
    refine And.intro rfl ?_
    exact hf _ F2 _ (fb_mk (by omega) hu (fun g => a1 ⟨by decide, g.1, by rw [← Gb_ink (t := 1 + 2 * o) (by omega) (by omega)]; exact g.2⟩) (fun g => by have := g.1; omega)) (k2.put (by omega) (by rw [List.length_set]))
theorem r_readsRules {FR n p : Nat} {C : Nat → Int32} (h64 : (l 64).length = 240) (hFR : FR + n ≤ 240) (hC : ∀ t, t < n → (l 64).getD (FR + t) 0 = C t) (h : RS f F l L 5 p) (hu : upto C 5) (hn : 5 ≤ n)
    (hs : upto C 17 → 17 ≤ n → ∀ F' L', RS f F' l L' 17 p → (∀ j, j < 12 → (L' 50).getD j 0 = dv (C (5 + j))) → (∀ x, ¬ x = 50 → L' x = L x) → P (some (.int 1)) (wW F' L' q))
    (hf : ∀ e F' L', fb C n e → RS f F' l L' e p → P (some (.int 0)) (wW F' L' q)) :
    ba_go scr ix_X9_readsRules 0 [some (.ref 43), some (.int (nI FR)), some (.int (nI n)), none, none] [] (wW F L q) 0 0 P := by
  have i12 : ((Int8.ofInt 12).toInt32).toInt = 12 := by decide
  have loop : ∀ (m r : Nat) (x : Int32) (F : Nat → Nat → Int32) (L' : Nat → List Int32), r + m = 12 → x = nI r → RS f F l L' (5 + r) p → upto C (5 + r) → 5 + r ≤ n → (∀ j, j < r → (L' 50).getD j 0 = dv (C (5 + j))) → (∀ x, ¬ x = 50 → L' x = L x) → ba_go scr ix_X9_readsRules 5 [some (.ref 43), some (.int (nI FR)), some (.int (nI n)), some (.int 1), some (.int x)] [] (wW F L' q) 0 0 P := by
    intro m
    induction m with
    | zero =>
      intro r x F L' g1 g2 k0 hu hn hc hx
      subst g2
      have h4 : r = 12 := by omega
      subst h4
      refine run_X9_readsRules 6 ?_
      refine And.intro (fun _ => ?_) (fun e => absurd (by decide) e)
      exact And.intro rfl (hs hu hn F L' k0 hc hx)
    | succ m ih =>
      intro r x F L' g1 g2 k0 hu hn hc hx
      subst g2
      have l50 := k0.2.2.1.2.1
      have st : ∀ (F' : Nat → Nat → Int32) (v : Int32), ba_stI (wW F' L' q) 51 (nI r) v = some (wW F' (u1 L' 50 ((L' 50).set r v)) q) := fun F' v => by
        rw [stI_of (l := L' 50) rfl (by rw [nI_toInt (by omega)]; omega) (by rw [nI_toInt (by omega), l50]; omega), nI_clamp (by omega)]
        rfl
      have ld : ∀ (xs : Option (List Int32)) (F' : Nat → Nat → Int32) (v : Int32), ba_ldI xs (wW F' (u1 L' 50 ((L' 50).set r v)) q) 51 (nI r) = some v := fun xs F' v => by
        rw [ldI_of (l := (L' 50).set r v) rfl (by rw [nI_toInt (by omega)]; omega) (by rw [nI_toInt (by omega), List.length_set, l50]; omega), nI_clamp (by omega), getD_set, if_pos ⟨rfl, by rw [l50]; omega⟩]
      refine run_X9_readsRules 14 ?_
      refine And.intro (fun e => absurd e (by show ¬ (Int8.ofInt 12).toInt32 ≤ nI r; rw [le_i, nI_toInt (by omega), i12]; omega)) (fun _ => ?_)
      refine And.intro (fun e => absurd e (by decide)) (fun _ => ?_)
      refine Exists.intro _ (And.intro (rfl) ?_)
      refine And.intro rfl (r_figure (m := 3) h64 hFR hC (by omega) (by decide) (by decide) (by decide) k0 (fun a1 a2 a3 F1 k1 => ?_) (fun a1 F1 k1 => ?_))
      · have d1 := (dg_v (c := C (5 + r)) (by decide) (by decide)).mpr a3
        have hu2 : upto C (5 + (r + 1)) := upto_s (t := 5 + r) hu (by rw [Gb_rule (t := 5 + r) (by omega) (by omega)]; exact a3)
        refine run_X9_readsRules 11 ?_
        refine Exists.intro _ (And.intro (st _ _) ?_)
        refine Exists.intro _ (And.intro (rfl) ?_)
        refine Exists.intro _ (And.intro (ld _ _ _) ?_)
        refine And.intro (fun e => absurd e (by show ¬ dv (C (5 + r)) < 0; rw [lt_i, zi]; omega)) (fun _ => ?_)
        refine ih (r + 1) _ F1 _ (by omega) (nI_1 r) (k1.put (by omega) (by rw [List.length_set])) hu2 (by omega) (fun j hj => ?_) (fun x e => by rw [u1_ne e]; exact hx x e)
        rw [u1_eq, getD_set]
        by_cases e : r = j
        · rw [if_pos ⟨e, by rw [l50]; omega⟩, e]
        · rw [if_neg (fun g => e g.1)]
          exact hc j (by omega)
      · refine run_X9_readsRules 10 ?_
        refine Exists.intro _ (And.intro (st _ _) ?_)
        refine Exists.intro _ (And.intro (rfl) ?_)
        refine Exists.intro _ (And.intro (ld _ _ _) ?_)
        refine And.intro (fun _ => ?_) (fun e => absurd (by decide) e)
        have fin := hf _ F1 _ (fb_mk (by omega) hu (fun g => a1 ⟨by decide, g.1, by rw [← Gb_rule (t := 5 + r) (by omega) (by omega)]; exact g.2⟩) (fun g => by have := g.1; omega)) (k1.put (x := 50) (X := (L' 50).set r (-9)) (by omega) (by rw [List.length_set]))
        refine run_X9_readsRules 12 ?_
        refine And.intro (fun _ => ?_) (fun _ => ?_)
        · exact And.intro rfl fin
        · refine And.intro (fun _ => ?_) (fun e => absurd rfl e)
          exact And.intro rfl fin
  refine run_X9_readsRules 4 ?_
  exact loop 12 0 _ F L (by omega) rfl h hu hn (fun j hj => absurd hj (by omega)) (fun x _ => rfl)
end WC
