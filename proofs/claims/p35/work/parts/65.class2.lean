/-! the class's methods, as the law calls them (2) -/
section CN
variable {scr : Option (List Int32)} {P : ba_P} {w : ba_W} {f : Nat → Nat → Int32} {l : Nat → List Int32} {q : List (List Int32)}
variable {n : Nat}
def Dt (l : Nat → List Int32) (b : Nat) : Nat → Nat := Ds (gs (l 5)) (fun x => decide (x = b))
theorem c_undoing {a b c : Int32} {A B : Nat} (hJ : J f l n) (ha : a = nI A) (hb : b = nI B) (hA : A < 4) (hB : B < 4)
    (h2 : ¬ (-1 ≤ c.toInt ∧ c.toInt ≤ 2) → P (some (.int (-2))) (wW f l q))
    (h9 : (-1 ≤ c.toInt ∧ c.toInt ≤ 2) → (Dt l B A = 4 ∨ (Dt l B A : Int) ≤ c.toInt) → P (some (.int (-9))) (wW f l q))
    (h1 : c = -1 → Dt l B A ≤ 3 → P (some (.int (nI (Dt l B A)))) (wW f l q))
    (hk : ∀ k : Nat, c = nI k → k < Dt l B A → Dt l B A ≤ 3 → P (some (.int (nI (nsr (gs (l 5)) (Dt l B) (pt (gs (l 5)) (Dt l B) A k) 3)))) (wW f l q)) :
    ba_go scr ix_X8_undoing 0 [some (.ref 1), some (.int a), some (.int b), some (.int c), none] [] (wW f l q) 0 0 P := by
  subst ha; subst hb
  have hn := hJ.num
  have tA : (nI A).toInt = A := nI_toInt (by omega)
  have tB : (nI B).toInt = B := nI_toInt (by omega)
  have hl5 := hJ.2.1.2.1
  have hr5 := hJ.2.2.1.1
  have m1 : (-1 : Int32).toInt = -1 := rfl
  refine run_X8_undoing 17 ?_
  repeat (first | refine And.intro (fun e => absurd e (by decide)) (fun e => ?_) | refine And.intro (fun e => ?_) (fun e => absurd e (by decide)) | refine Exists.intro _ (And.intro rfl ?_) | refine And.intro rfl ?_)
  refine s_isOn (b := 2) (Or.inl rfl) (fun c0 => ?_) (fun c0 => absurd hn.1 c0)
  repeat (first | refine And.intro (fun e => absurd e (by decide)) (fun e => ?_) | refine And.intro (fun e => ?_) (fun e => absurd e (by decide)) | refine Exists.intro _ (And.intro rfl ?_) | refine And.intro rfl ?_)
  refine s_below (bi := 4) rfl (fun c1 c2 => ?_) (fun c1 => absurd ⟨by omega, by omega⟩ c1)
  repeat (first | refine And.intro (fun e => absurd e (by decide)) (fun e => ?_) | refine And.intro (fun e => ?_) (fun e => absurd e (by decide)) | refine Exists.intro _ (And.intro rfl ?_) | refine And.intro rfl ?_)
  refine s_below (bi := 4) rfl (fun c3 c4 => ?_) (fun c3 => absurd ⟨by omega, by omega⟩ c3)
  repeat (first | refine And.intro (fun e => absurd e (by decide)) (fun e => ?_) | refine And.intro (fun e => ?_) (fun e => absurd e (by decide)) | refine Exists.intro _ (And.intro rfl ?_) | refine And.intro rfl ?_)
  refine s_within (a := -1) (b := 2) rfl rfl (fun c5 c6 => ?_) (fun c5 => ?_)
  · obtain ⟨D, hD'⟩ : ∃ D, D = Dt l B := ⟨_, rfl⟩
    have eD : Ds (gs (l 5)) (fun x => decide (x = B)) = D := hD'.symm
    have D4 : D A ≤ 4 := by rw [hD']; show Ds _ _ _ ≤ 4; exact ds_le4
    rw [← hD'] at h9 h1 hk
    refine And.intro (fun _ => ?_) (fun e => absurd (by decide) e)
    refine run_X8_undoing 40 ?_
    refine Exists.intro _ (And.intro (rfl) ?_)
    refine Exists.intro _ (And.intro (rfl) ?_)
    refine And.intro rfl (s_fewest (B6_one (p := B) (by omega)) hA hl5 hr5 ?_)
    rw [eD]
    by_cases hfar : D A ≤ 3
    · refine And.intro (fun e => absurd ((nI_eq (b := 4) (by omega) (by decide)).mp e) (by omega)) (fun _ => ?_)
      by_cases hcD : c.toInt < D A
      · refine And.intro (fun _ => ?_) (fun e => absurd (by show c < nI (D A); rw [lt_i, nI_toInt (by omega)]; omega) e)
        by_cases hc1 : c = -1
        · subst hc1
          refine And.intro (fun e => absurd rfl e) (fun _ => ?_)
          exact h1 rfl hfar
        · have hc0 : 0 ≤ c.toInt := by
            have : ¬ c.toInt = -1 := fun e => hc1 (by rw [eq_i, m1]; exact e)
            omega
          refine And.intro (fun _ => ?_) (fun e => absurd hc1 e)
          obtain ⟨k, rfl, hk'⟩ := nI_ex hc0
          have h3 := hk k rfl (by omega) hfar
          refine Exists.intro _ (And.intro (rfl) ?_)
          refine Exists.intro _ (And.intro (rfl) ?_)
          refine And.intro rfl (s_onWay hA hB (by omega) hl5 hr5 ?_)
          rw [eD]
          exact h3
      · refine And.intro (fun e => absurd e (by show ¬ c < nI (D A); rw [lt_i, nI_toInt (by omega)]; omega)) (fun _ => ?_)
        exact h9 ⟨c5, c6⟩ (Or.inr (by omega))
    · refine And.intro (fun _ => ?_) (fun e => absurd (by show nI (D A) = 4; rw [show D A = 4 by omega]; rfl) e)
      exact h9 ⟨c5, c6⟩ (Or.inl (by omega))
  · repeat (first | refine And.intro (fun e => absurd e (by decide)) (fun e => ?_) | refine And.intro (fun e => ?_) (fun e => absurd e (by decide)) | refine Exists.intro _ (And.intro rfl ?_) | refine And.intro rfl ?_)
    refine run_X8_undoing 2 ?_
    exact h2 c5
theorem c_undoing_to {a b c : Int32} (hJ : J f l n) (hb : ¬ (0 ≤ b.toInt ∧ b.toInt < 4)) (h2 : P (some (.int (-2))) (wW f l q)) :
    ba_go scr ix_X8_undoing 0 [some (.ref 1), some (.int a), some (.int b), some (.int c), none] [] (wW f l q) 0 0 P := by
  have hn := hJ.num
  refine run_X8_undoing 17 ?_
  repeat (first | refine And.intro (fun e => absurd e (by decide)) (fun e => ?_) | refine And.intro (fun e => ?_) (fun e => absurd e (by decide)) | refine Exists.intro _ (And.intro rfl ?_) | refine And.intro rfl ?_)
  refine s_isOn (b := 2) (Or.inl rfl) (fun c0 => ?_) (fun c0 => absurd hn.1 c0)
  repeat (first | refine And.intro (fun e => absurd e (by decide)) (fun e => ?_) | refine And.intro (fun e => ?_) (fun e => absurd e (by decide)) | refine Exists.intro _ (And.intro rfl ?_) | refine And.intro rfl ?_)
  refine s_below (bi := 4) rfl (fun c1 c2 => ?_) (fun c1 => ?_)
  · repeat (first | refine And.intro (fun e => absurd e (by decide)) (fun e => ?_) | refine And.intro (fun e => ?_) (fun e => absurd e (by decide)) | refine Exists.intro _ (And.intro rfl ?_) | refine And.intro rfl ?_)
    refine s_below (bi := 4) rfl (fun c3 c4 => absurd ⟨c3, c4⟩ hb) (fun c3 => ?_)
    repeat (first | refine And.intro (fun e => absurd e (by decide)) (fun e => ?_) | refine And.intro (fun e => ?_) (fun e => absurd e (by decide)) | refine Exists.intro _ (And.intro rfl ?_) | refine And.intro rfl ?_)
    exact h2
  · repeat (first | refine And.intro (fun e => absurd e (by decide)) (fun e => ?_) | refine And.intro (fun e => ?_) (fun e => absurd e (by decide)) | refine Exists.intro _ (And.intro rfl ?_) | refine And.intro rfl ?_)
    exact h2
theorem c_ways {a b c : Int32} {A B N : Nat} (hJ : J f l n) (ha : a = nI A) (hb : b = nI B) (hc : c = nI N) (hA : A < 4) (hB : B < 4) (hN : N ≤ 9)
    (hP : ∀ X Y : List Int32, X.length = 4 → Y.length = 4 → P (some (.int (nI (Wn (rn (l 5)) A N B)))) (wW f (wq l X Y) q)) :
    ba_go scr ix_X8_ways 0 [some (.ref 1), some (.int a), some (.int b), some (.int c)] [] (wW f l q) 0 0 P := by
  subst ha; subst hb; subst hc
  have hn := hJ.num
  have tA : (nI A).toInt = A := nI_toInt (by omega)
  have tB : (nI B).toInt = B := nI_toInt (by omega)
  have tN : (nI N).toInt = N := nI_toInt (by omega)
  refine run_X8_ways 60 ?_
  repeat (first | refine And.intro (fun e => absurd e (by decide)) (fun e => ?_) | refine And.intro (fun e => ?_) (fun e => absurd e (by decide)) | refine Exists.intro _ (And.intro rfl ?_) | refine And.intro rfl ?_)
  refine s_isOn (b := 2) (Or.inl rfl) (fun c0 => ?_) (fun c0 => absurd hn.1 c0)
  repeat (first | refine And.intro (fun e => absurd e (by decide)) (fun e => ?_) | refine And.intro (fun e => ?_) (fun e => absurd e (by decide)) | refine Exists.intro _ (And.intro rfl ?_) | refine And.intro rfl ?_)
  refine s_below (bi := 4) rfl (fun c1 c2 => ?_) (fun c1 => absurd ⟨by omega, by omega⟩ c1)
  repeat (first | refine And.intro (fun e => absurd e (by decide)) (fun e => ?_) | refine And.intro (fun e => ?_) (fun e => absurd e (by decide)) | refine Exists.intro _ (And.intro rfl ?_) | refine And.intro rfl ?_)
  refine s_below (bi := 4) rfl (fun c3 c4 => ?_) (fun c3 => absurd ⟨by omega, by omega⟩ c3)
  repeat (first | refine And.intro (fun e => absurd e (by decide)) (fun e => ?_) | refine And.intro (fun e => ?_) (fun e => absurd e (by decide)) | refine Exists.intro _ (And.intro rfl ?_) | refine And.intro rfl ?_)
  refine s_within (a := 0) (b := 9) rfl rfl (fun c5 c6 => ?_) (fun c5 => absurd ⟨by omega, by omega⟩ c5)
  repeat (first | refine And.intro (fun e => absurd e (by decide)) (fun e => ?_) | refine And.intro (fun e => ?_) (fun e => absurd e (by decide)) | refine Exists.intro _ (And.intro rfl ?_) | refine And.intro rfl ?_)
  refine s_rowsTo (c := fun i => if i = B then 1 else 0) (by omega) (by omega) (fun i hi => ?_) hJ.2.1.2.2.1 hJ.2.1.2.2.2.1 hJ.2.1.2.1 hJ.2.2.1.1 (fun Y hY => ?_)
  · exact (by decide +kernel : ∀ i b : Fin 4, (((1 : Int32) <<< (nI b.1 &&& 31)) >>> (nI i.1 &&& 31)) &&& 1 = nI (if i.1 = b.1 then 1 else 0)) ⟨i, hi⟩ ⟨B, by omega⟩
  · rw [ss_one (by omega)]
    exact hP _ _ rfl hY
theorem c_ways_n {a b c : Int32} (hJ : J f l n) (h : ¬ ((0 ≤ a.toInt ∧ a.toInt < 4) ∧ 0 ≤ c.toInt ∧ c.toInt ≤ 9)) (hb : 0 ≤ b.toInt ∧ b.toInt < 4) (h2 : P (some (.int (-2))) (wW f l q)) :
    ba_go scr ix_X8_ways 0 [some (.ref 1), some (.int a), some (.int b), some (.int c)] [] (wW f l q) 0 0 P := by
  have hn := hJ.num
  refine run_X8_ways 60 ?_
  repeat (first | refine And.intro (fun e => absurd e (by decide)) (fun e => ?_) | refine And.intro (fun e => ?_) (fun e => absurd e (by decide)) | refine Exists.intro _ (And.intro rfl ?_) | refine And.intro rfl ?_)
  refine s_isOn (b := 2) (Or.inl rfl) (fun c0 => ?_) (fun c0 => absurd hn.1 c0)
  repeat (first | refine And.intro (fun e => absurd e (by decide)) (fun e => ?_) | refine And.intro (fun e => ?_) (fun e => absurd e (by decide)) | refine Exists.intro _ (And.intro rfl ?_) | refine And.intro rfl ?_)
  refine s_below (bi := 4) rfl (fun c1 c2 => ?_) (fun c1 => ?_)
  · repeat (first | refine And.intro (fun e => absurd e (by decide)) (fun e => ?_) | refine And.intro (fun e => ?_) (fun e => absurd e (by decide)) | refine Exists.intro _ (And.intro rfl ?_) | refine And.intro rfl ?_)
    refine s_below (bi := 4) rfl (fun c3 c4 => ?_) (fun c3 => absurd hb c3)
    repeat (first | refine And.intro (fun e => absurd e (by decide)) (fun e => ?_) | refine And.intro (fun e => ?_) (fun e => absurd e (by decide)) | refine Exists.intro _ (And.intro rfl ?_) | refine And.intro rfl ?_)
    refine s_within (a := 0) (b := 9) rfl rfl (fun c5 c6 => absurd ⟨⟨c1, c2⟩, c5, c6⟩ h) (fun c5 => ?_)
    repeat (first | refine And.intro (fun e => absurd e (by decide)) (fun e => ?_) | refine And.intro (fun e => ?_) (fun e => absurd e (by decide)) | refine Exists.intro _ (And.intro rfl ?_) | refine And.intro rfl ?_)
    exact h2
  · repeat (first | refine And.intro (fun e => absurd e (by decide)) (fun e => ?_) | refine And.intro (fun e => ?_) (fun e => absurd e (by decide)) | refine Exists.intro _ (And.intro rfl ?_) | refine And.intro rfl ?_)
    exact h2
theorem c_worn {a b c : Int32} {A B : Nat} (hJ : J f l n) (ha : a = nI A) (hb : b = nI B) (hA : A < 4) (hB : B < 3) (hc : c = 0 ∨ c = 1) {t : Nat} (ht : t ≤ 3) (hne : ¬ cb (gs (l 5) B) (it (gs (l 5) B) t A) = 0) (hmin : ∀ t', t' < t → cb (gs (l 5) B) (it (gs (l 5) B) t' A) = 0)
    (h0 : c = 0 → P (some (.int (nI t))) (wW f l q)) (h1 : c = 1 → P (some (.int (nI (cb (gs (l 5) B) (it (gs (l 5) B) t A))))) (wW f l q)) :
    ba_go scr ix_X8_worn 0 [some (.ref 1), some (.int a), some (.int b), some (.int c), none] [] (wW f l q) 0 0 P := by
  subst ha; subst hb
  have hn := hJ.num
  have tA : (nI A).toInt = A := nI_toInt (by omega)
  have tB : (nI B).toInt = B := nI_toInt (by omega)
  have hl5 := hJ.2.1.2.1
  have hr5 := hJ.2.2.1.1
  have hg : ∀ x, x < 4 → gs (l 5) B x < 4 := fun x hx => gs_lt hr5 hx hB
  have hcl : ∀ j, cb (gs (l 5) B) (it (gs (l 5) B) j A) ≤ 4 := fun j => cb_le
  have hc2 : 0 ≤ c.toInt ∧ c.toInt ≤ 1 := by rcases hc with rfl | rfl <;> decide
  refine run_X8_worn 24 ?_
  repeat (first | refine And.intro (fun e => absurd e (by decide)) (fun e => ?_) | refine And.intro (fun e => ?_) (fun e => absurd e (by decide)) | refine Exists.intro _ (And.intro rfl ?_) | refine And.intro rfl ?_)
  refine s_isOn (b := 2) (Or.inl rfl) (fun c0 => ?_) (fun c0 => absurd hn.1 c0)
  repeat (first | refine And.intro (fun e => absurd e (by decide)) (fun e => ?_) | refine And.intro (fun e => ?_) (fun e => absurd e (by decide)) | refine Exists.intro _ (And.intro rfl ?_) | refine And.intro rfl ?_)
  refine s_below (bi := 4) rfl (fun c1 c2 => ?_) (fun c1 => absurd ⟨by omega, by omega⟩ c1)
  repeat (first | refine And.intro (fun e => absurd e (by decide)) (fun e => ?_) | refine And.intro (fun e => ?_) (fun e => absurd e (by decide)) | refine Exists.intro _ (And.intro rfl ?_) | refine And.intro rfl ?_)
  refine s_below (bi := 3) rfl (fun c3 c4 => ?_) (fun c3 => absurd ⟨by omega, by omega⟩ c3)
  repeat (first | refine And.intro (fun e => absurd e (by decide)) (fun e => ?_) | refine And.intro (fun e => ?_) (fun e => absurd e (by decide)) | refine Exists.intro _ (And.intro rfl ?_) | refine And.intro rfl ?_)
  refine s_within (a := 0) (b := 1) rfl rfl (fun c5 c6 => ?_) (fun c5 => absurd hc2 c5)
  have fin : ba_go scr ix_X8_worn 55 [some (.ref 1), some (.int (nI A)), some (.int (nI B)), some (.int c), some (.int (nI t))] [] (wW f l q) 0 0 P := by
    refine run_X8_worn 40 ?_
    refine And.intro (fun g => ?_) (fun g => ?_)
    · have h3 := h1 (hc.elim (fun e => absurd e g) id)
      repeat (first | refine And.intro (fun e => absurd e (by decide)) (fun e => ?_) | refine And.intro (fun e => ?_) (fun e => absurd e (by decide)) | refine Exists.intro _ (And.intro rfl ?_) | refine And.intro rfl ?_)
      refine s_struck hl5 hr5 hA hB (by omega) ?_
      refine And.intro rfl (s_comesBackBy hl5 hr5 (it_lt hg hA t) hB ?_)
      exact h3
    · exact h0 (Classical.not_not.mp g)
  have ahead : ∀ {P : ba_P}, P (some (.int (nI t))) (wW f l q) → ∀ (m j : Nat) (x : Int32), j + m = t → x = nI j → ba_go scr ix_X4_strikesAhead 2 [some (.ref 5), some (.int (nI A)), some (.int (nI B)), some (.int x)] [] (wW f l q) 0 0 P := by
    intro P hP m
    induction m with
    | zero =>
      intro j x h1 h3
      subst h3
      have h4 : j = t := by omega
      subst h4
      refine run_X4_strikesAhead 14 ?_
      refine And.intro (fun e => absurd e (by show ¬ (4 : Int32) ≤ nI j; rw [le_i, nI_toInt (by omega), show (4 : Int32).toInt = 4 from rfl]; omega)) (fun _ => ?_)
      refine And.intro rfl (s_struck hl5 hr5 hA hB (by omega) ?_)
      refine And.intro rfl (s_comesBackBy hl5 hr5 (it_lt hg hA j) hB ?_)
      refine And.intro (fun _ => ?_) (fun e => absurd (fun e2 => hne ((nI_eq (b := 0) (by have := hcl j; omega) (by decide)).mp e2)) e)
      exact hP
    | succ m ih =>
      intro j x h1 h3
      subst h3
      refine run_X4_strikesAhead 14 ?_
      refine And.intro (fun e => absurd e (by show ¬ (4 : Int32) ≤ nI j; rw [le_i, nI_toInt (by omega), show (4 : Int32).toInt = 4 from rfl]; omega)) (fun _ => ?_)
      refine And.intro rfl (s_struck hl5 hr5 hA hB (by omega) ?_)
      refine And.intro rfl (s_comesBackBy hl5 hr5 (it_lt hg hA j) hB ?_)
      rw [hmin j (by omega)]
      refine And.intro (fun e => absurd rfl e) (fun _ => ?_)
      exact ih (j + 1) _ (by omega) (nI_1 j)
  refine And.intro (fun _ => ?_) (fun e => absurd (by decide) e)
  refine Exists.intro _ (And.intro (rfl) ?_)
  refine Exists.intro _ (And.intro (rfl) ?_)
  refine And.intro rfl ?_
  refine run_X4_strikesAhead 2 ?_
  exact ahead fin t 0 0 (by omega) rfl
theorem c_worn_mark {a b c : Int32} (hJ : J f l n) (ha : ¬ (0 ≤ a.toInt ∧ a.toInt < 4)) (h2 : P (some (.int (-2))) (wW f l q)) :
    ba_go scr ix_X8_worn 0 [some (.ref 1), some (.int a), some (.int b), some (.int c), none] [] (wW f l q) 0 0 P := by
  have hn := hJ.num
  refine run_X8_worn 24 ?_
  repeat (first | refine And.intro (fun e => absurd e (by decide)) (fun e => ?_) | refine And.intro (fun e => ?_) (fun e => absurd e (by decide)) | refine Exists.intro _ (And.intro rfl ?_) | refine And.intro rfl ?_)
  refine s_isOn (b := 2) (Or.inl rfl) (fun c0 => ?_) (fun c0 => absurd hn.1 c0)
  repeat (first | refine And.intro (fun e => absurd e (by decide)) (fun e => ?_) | refine And.intro (fun e => ?_) (fun e => absurd e (by decide)) | refine Exists.intro _ (And.intro rfl ?_) | refine And.intro rfl ?_)
  refine s_below (bi := 4) rfl (fun c1 c2 => absurd ⟨c1, c2⟩ ha) (fun c1 => ?_)
  repeat (first | refine And.intro (fun e => absurd e (by decide)) (fun e => ?_) | refine And.intro (fun e => ?_) (fun e => absurd e (by decide)) | refine Exists.intro _ (And.intro rfl ?_) | refine And.intro rfl ?_)
  exact h2
def rbest (f : Nat → Nat → Int32) (l : Nat → List Int32) (n : Nat) (o : Int32) (k : Nat) : Option Nat := bst (okc f l (wo f 2 n o) k) (fun j => smi (dt f l) (bset j) n) 64
theorem c_raid {a b c : Int32} {A k : Nat} (hJ : J f l n) (ha : a = nI A) (hA : A < 2) (hb : b = nI k) (hk : k ≤ 6) (hc : c = 0 ∨ c = 1)
    (h0 : c = 0 → P (some (.int (bink (-9) (fun j => smi (dt f l) (bset j) n) (rbest f l n (1 - nI A) k)))) (wW f l q)) (h1 : c = 1 → P (some (.int (bcode (rbest f l n (1 - nI A) k)))) (wW f l q)) :
    ba_go scr ix_X8_raid 0 [some (.ref 1), some (.int a), some (.int b), some (.int c), none] [] (wW f l q) 0 0 P := by
  subst ha; subst hb
  have hn := hJ.num
  have hn6 := hJ.1.2.2
  have hcn := hJ.1.1
  have tA : (nI A).toInt = A := nI_toInt (by omega)
  have tk' : (nI k).toInt = k := nI_toInt (by omega)
  have hl5 := hJ.2.1.2.1
  have hr5 := hJ.2.2.1.1
  have m9 : (-9 : Int32).toInt = -9 := rfl
  have hc2 : 0 ≤ c.toInt ∧ c.toInt ≤ 1 := by rcases hc with rfl | rfl <;> decide
  refine run_X8_raid 18 ?_
  repeat (first | refine And.intro (fun e => absurd e (by decide)) (fun e => ?_) | refine And.intro (fun e => ?_) (fun e => absurd e (by decide)) | refine Exists.intro _ (And.intro rfl ?_) | refine And.intro rfl ?_)
  refine s_isOn (b := 2) (Or.inl rfl) (fun c0 => ?_) (fun c0 => absurd hn.1 c0)
  repeat (first | refine And.intro (fun e => absurd e (by decide)) (fun e => ?_) | refine And.intro (fun e => ?_) (fun e => absurd e (by decide)) | refine Exists.intro _ (And.intro rfl ?_) | refine And.intro rfl ?_)
  refine s_below (bi := 2) rfl (fun c1 c2 => ?_) (fun c1 => absurd ⟨by omega, by omega⟩ c1)
  repeat (first | refine And.intro (fun e => absurd e (by decide)) (fun e => ?_) | refine And.intro (fun e => ?_) (fun e => absurd e (by decide)) | refine Exists.intro _ (And.intro rfl ?_) | refine And.intro rfl ?_)
  refine s_within (a := 0) (b := 6) rfl rfl (fun c3 c4 => ?_) (fun c3 => absurd ⟨by omega, by omega⟩ c3)
  repeat (first | refine And.intro (fun e => absurd e (by decide)) (fun e => ?_) | refine And.intro (fun e => ?_) (fun e => absurd e (by decide)) | refine Exists.intro _ (And.intro rfl ?_) | refine And.intro rfl ?_)
  refine s_within (a := 0) (b := 1) rfl rfl (fun c5 c6' => ?_) (fun c5 => absurd hc2 c5)
  refine And.intro (fun _ => ?_) (fun e => absurd (by decide) e)
  refine run_X8_raid 40 ?_
  refine Exists.intro _ (And.intro (rfl) ?_)
  refine And.intro rfl (s_cheapest (k := k) hk hn6 hcn hJ.2.2.2 hJ.mk2 hl5 hr5 ?_)
  obtain ⟨B, hB⟩ : ∃ B, B = rbest f l n (1 - nI A) k := ⟨_, rfl⟩
  have eB : bst (okc f l (wo f 2 n (Int32.ofInt 1 - nI A)) k) (fun j => smi (dt f l) (bset j) n) 64 = B := hB.symm
  rw [eB]
  rw [← hB] at h0 h1
  cases hb : B with
  | none =>
    rw [hb] at h0 h1
    refine And.intro (fun e => absurd rfl e) (fun _ => ?_)
    rcases hc with e | e
    · exact h0 e
    · exact h1 e
  | some b =>
    rw [hb] at h0 h1
    have hlt : b < 64 := bst_lt (by rw [← hb, hB]; rfl)
    refine And.intro (fun _ => ?_) (fun e => ?_)
    · refine And.intro (fun g => ?_) (fun g => ?_)
      · exact h1 (hc.elim (fun e => absurd e g) id)
      · have h3 := h0 (Classical.not_not.mp g)
        refine Exists.intro _ (And.intro (rfl) ?_)
        refine And.intro rfl (s_raidInk (bset_B6 hlt) hn6 hcn hJ.2.2.2 hl5 hr5 ?_)
        exact h3
    · exfalso
      have e : ¬ ¬ nI b = -9 := e
      have := congrArg Int32.toInt (Classical.not_not.mp e)
      rw [nI_toInt (by omega), m9] at this
      omega
theorem c_raid_out {a b c : Int32} (hJ : J f l n) (h : ¬ ((0 ≤ a.toInt ∧ a.toInt < 2) ∧ 0 ≤ b.toInt ∧ b.toInt ≤ 6)) (h2 : P (some (.int (-2))) (wW f l q)) :
    ba_go scr ix_X8_raid 0 [some (.ref 1), some (.int a), some (.int b), some (.int c), none] [] (wW f l q) 0 0 P := by
  have hn := hJ.num
  refine run_X8_raid 18 ?_
  repeat (first | refine And.intro (fun e => absurd e (by decide)) (fun e => ?_) | refine And.intro (fun e => ?_) (fun e => absurd e (by decide)) | refine Exists.intro _ (And.intro rfl ?_) | refine And.intro rfl ?_)
  refine s_isOn (b := 2) (Or.inl rfl) (fun c0 => ?_) (fun c0 => absurd hn.1 c0)
  repeat (first | refine And.intro (fun e => absurd e (by decide)) (fun e => ?_) | refine And.intro (fun e => ?_) (fun e => absurd e (by decide)) | refine Exists.intro _ (And.intro rfl ?_) | refine And.intro rfl ?_)
  refine s_below (bi := 2) rfl (fun c1 c2 => ?_) (fun c1 => ?_)
  · repeat (first | refine And.intro (fun e => absurd e (by decide)) (fun e => ?_) | refine And.intro (fun e => ?_) (fun e => absurd e (by decide)) | refine Exists.intro _ (And.intro rfl ?_) | refine And.intro rfl ?_)
    refine s_within (a := 0) (b := 6) rfl rfl (fun c3 c4 => absurd ⟨⟨c1, c2⟩, c3, c4⟩ h) (fun c3 => ?_)
    repeat (first | refine And.intro (fun e => absurd e (by decide)) (fun e => ?_) | refine And.intro (fun e => ?_) (fun e => absurd e (by decide)) | refine Exists.intro _ (And.intro rfl ?_) | refine And.intro rfl ?_)
    exact h2
  · repeat (first | refine And.intro (fun e => absurd e (by decide)) (fun e => ?_) | refine And.intro (fun e => ?_) (fun e => absurd e (by decide)) | refine Exists.intro _ (And.intro rfl ?_) | refine And.intro rfl ?_)
    exact h2
def ptwo (f : Nat → Nat → Int32) (n : Nat) : Nat := min (c6 (wo f 2 n 0)) (c6 (wo f 2 n 1))
theorem c_peace {a : Int32} (hJ : J f l n) (hc : a = 0 ∨ a = 1)
    (h0 : a = 0 → P (some (.int (nI (ptwo f n)))) (wW f l q)) (h1 : a = 1 → P (some (.int (nI (mx (okS (wo f 2 n 0) (ptwo f n)) (fun j => smi (tn f) (bset j) n) 64 + mx (okS (wo f 2 n 1) (ptwo f n)) (fun j => smi (tn f) (bset j) n) 64)))) (wW f l q)) :
    ba_go scr ix_X8_peace 0 [some (.ref 1), some (.int a), none, none, none] [] (wW f l q) 0 0 P := by
  have hn := hJ.num
  have hn6 := hJ.1.2.2
  have hcn := hJ.1.1
  have b0 := c6_le (wo f 2 n 0)
  have b1 := c6_le (wo f 2 n 1)
  have hc2 : 0 ≤ a.toInt ∧ a.toInt ≤ 1 := by rcases hc with rfl | rfl <;> decide
  obtain ⟨k, hk⟩ : ∃ k, k = ptwo f n := ⟨_, rfl⟩
  rw [← hk] at h0 h1
  have hk' : k = min (c6 (wo f 2 n 0)) (c6 (wo f 2 n 1)) := hk
  refine run_X8_peace 9 ?_
  repeat (first | refine And.intro (fun e => absurd e (by decide)) (fun e => ?_) | refine And.intro (fun e => ?_) (fun e => absurd e (by decide)) | refine Exists.intro _ (And.intro rfl ?_) | refine And.intro rfl ?_)
  refine s_isOn (b := 2) (Or.inl rfl) (fun c0 => ?_) (fun c0 => absurd hn.1 c0)
  repeat (first | refine And.intro (fun e => absurd e (by decide)) (fun e => ?_) | refine And.intro (fun e => ?_) (fun e => absurd e (by decide)) | refine Exists.intro _ (And.intro rfl ?_) | refine And.intro rfl ?_)
  refine s_within (a := 0) (b := 1) rfl rfl (fun c5 c6' => ?_) (fun c5 => absurd hc2 c5)
  refine And.intro (fun _ => ?_) (fun e => absurd (by decide) e)
  refine run_X8_peace 40 ?_
  refine Exists.intro _ (And.intro (rfl) ?_)
  refine And.intro rfl (s_workersOf (o := 0) (Or.inl rfl) hn6 hcn hJ.mk2 ?_)
  refine Exists.intro _ (And.intro (rfl) ?_)
  refine And.intro rfl (s_workersOf (o := 1) (Or.inl rfl) hn6 hcn hJ.mk2 ?_)
  refine And.intro rfl (s_bitCount rfl ?_)
  refine And.intro rfl (s_bitCount rfl ?_)
  have ek : (if nI (c6 (wo f 2 n 1)) < nI (c6 (wo f 2 n 0)) then nI (c6 (wo f 2 n 1)) else nI (c6 (wo f 2 n 0))) = nI k := by
    by_cases h : c6 (wo f 2 n 1) < c6 (wo f 2 n 0)
    · rw [if_pos (by rw [lt_i, nI_toInt (by omega), nI_toInt (by omega)]; omega), hk', Nat.min_eq_right (by omega)]
    · rw [if_neg (by rw [lt_i, nI_toInt (by omega), nI_toInt (by omega)]; omega), hk', Nat.min_eq_left (by omega)]
  refine And.intro rfl ?_
  rw [ek]
  refine And.intro (fun g => ?_) (fun g => ?_)
  · have h3 := h1 (hc.elim (fun e => absurd e g) id)
    refine Exists.intro _ (And.intro (rfl) ?_)
    refine And.intro rfl (s_mostTakes (k := k) (by omega) hn6 hcn hJ.2.2.2 wo_n ?_)
    refine Exists.intro _ (And.intro (rfl) ?_)
    refine And.intro rfl (s_mostTakes (k := k) (by omega) hn6 hcn hJ.2.2.2 wo_n ?_)
    rw [← nI_add] at h3
    exact h3
  · exact h0 (Classical.not_not.mp g)
theorem c_peace_out {a : Int32} (hJ : J f l n) (h : ¬ (0 ≤ a.toInt ∧ a.toInt ≤ 1)) (h2 : P (some (.int (-2))) (wW f l q)) :
    ba_go scr ix_X8_peace 0 [some (.ref 1), some (.int a), none, none, none] [] (wW f l q) 0 0 P := by
  have hn := hJ.num
  refine run_X8_peace 9 ?_
  repeat (first | refine And.intro (fun e => absurd e (by decide)) (fun e => ?_) | refine And.intro (fun e => ?_) (fun e => absurd e (by decide)) | refine Exists.intro _ (And.intro rfl ?_) | refine And.intro rfl ?_)
  refine s_isOn (b := 2) (Or.inl rfl) (fun c0 => ?_) (fun c0 => absurd hn.1 c0)
  repeat (first | refine And.intro (fun e => absurd e (by decide)) (fun e => ?_) | refine And.intro (fun e => ?_) (fun e => absurd e (by decide)) | refine Exists.intro _ (And.intro rfl ?_) | refine And.intro rfl ?_)
  refine s_within (a := 0) (b := 1) rfl rfl (fun c5 c6' => absurd ⟨c5, c6'⟩ h) (fun c5 => ?_)
  repeat (first | refine And.intro (fun e => absurd e (by decide)) (fun e => ?_) | refine And.intro (fun e => ?_) (fun e => absurd e (by decide)) | refine Exists.intro _ (And.intro rfl ?_) | refine And.intro rfl ?_)
  refine run_X8_peace 2 ?_
  exact h2
theorem c_necks {p : Int32} {p' N : Nat} (hJ : J f l n) (hp : p = nI p') (hpn : p' < n) (hc : f 29 3 = nI N) (hN : N ≤ 8) (hd : ∀ k, k < N → 0 ≤ ((l 30).getD k 0).toInt ∧ ((l 30).getD k 0).toInt < (n : Int))
    (hP : ∀ F : Nat → Nat → Int32, (∀ x y, ¬ x = 32 → F x y = f x y) → P (some (.int (orS (fun v => sob (Tn f p' v) (l 30) (l 31) N) 10))) (wW F l q)) :
    ba_go scr ix_X8_necks 0 [some (.ref 1), some (.int p), none] [] (wW f l q) 0 0 P := by
  have hn := hJ.num
  obtain ⟨h6, hpv⟩ := hJ.per hpn
  obtain ⟨e, t⟩ := pcl hp h6
  subst hp
  refine run_X8_necks 30 ?_
  repeat (first | refine And.intro (fun e => absurd e (by decide)) (fun e => ?_) | refine And.intro (fun e => ?_) (fun e => absurd e (by decide)) | refine Exists.intro _ (And.intro rfl ?_) | refine And.intro rfl ?_)
  refine s_personOf (b := 2) (Or.inl rfl) hn.2.1 (fun c d => ?_) (fun c => absurd ⟨by omega, by omega⟩ c)
  rw [e]
  repeat (first | refine And.intro (fun e => absurd e (by decide)) (fun e => ?_) | refine And.intro (fun e => ?_) (fun e => absurd e (by decide)) | refine Exists.intro _ (And.intro rfl ?_) | refine And.intro rfl ?_)
  exact s_necksOf hN hc h6 hn.2.1 hJ.2.1.2.2.2.2.1 hJ.2.1.2.2.2.2.2 (fun k hk => by rw [hn.2.2]; exact hd k hk) hP
theorem c_necks_who {p : Int32} (hJ : J f l n) (hp : ¬ (0 ≤ p.toInt ∧ p.toInt < (n : Int))) (h0 : P (some (.int (-1))) (wW f l q)) : ba_go scr ix_X8_necks 0 [some (.ref 1), some (.int p), none] [] (wW f l q) 0 0 P := by
  have hn := hJ.num
  refine run_X8_necks 30 ?_
  repeat (first | refine And.intro (fun e => absurd e (by decide)) (fun e => ?_) | refine And.intro (fun e => ?_) (fun e => absurd e (by decide)) | refine Exists.intro _ (And.intro rfl ?_) | refine And.intro rfl ?_)
  refine s_personOf (b := 2) (Or.inl rfl) hn.2.1 (fun c d => absurd ⟨c, by omega⟩ hp) (fun c => ?_)
  repeat (first | refine And.intro (fun e => absurd e (by decide)) (fun e => ?_) | refine And.intro (fun e => ?_) (fun e => absurd e (by decide)) | refine Exists.intro _ (And.intro rfl ?_) | refine And.intro rfl ?_)
  exact h0
theorem c_kinds {p : Int32} {p' N : Nat} (hJ : J f l n) (hp : p = nI p') (hpn : p' < n) (hc : f 29 3 = nI N) (hN : N ≤ 8) (hd : ∀ k, k < N → 0 ≤ ((l 30).getD k 0).toInt ∧ ((l 30).getD k 0).toInt < (n : Int))
    (hP : ∀ F : Nat → Nat → Int32, (∀ x y, ¬ x = 32 → F x y = f x y) → P (some (.int (orS (fun v => sob (Tk f p' v) (l 30) (l 31) N) 3))) (wW F l q)) :
    ba_go scr ix_X8_kinds 0 [some (.ref 1), some (.int p), none] [] (wW f l q) 0 0 P := by
  have hn := hJ.num
  obtain ⟨h6, hpv⟩ := hJ.per hpn
  obtain ⟨e, t⟩ := pcl hp h6
  subst hp
  refine run_X8_kinds 30 ?_
  repeat (first | refine And.intro (fun e => absurd e (by decide)) (fun e => ?_) | refine And.intro (fun e => ?_) (fun e => absurd e (by decide)) | refine Exists.intro _ (And.intro rfl ?_) | refine And.intro rfl ?_)
  refine s_personOf (b := 2) (Or.inl rfl) hn.2.1 (fun c d => ?_) (fun c => absurd ⟨by omega, by omega⟩ c)
  rw [e]
  repeat (first | refine And.intro (fun e => absurd e (by decide)) (fun e => ?_) | refine And.intro (fun e => ?_) (fun e => absurd e (by decide)) | refine Exists.intro _ (And.intro rfl ?_) | refine And.intro rfl ?_)
  exact s_kindsOf hN hc h6 hn.2.1 hJ.2.1.2.2.2.2.1 hJ.2.1.2.2.2.2.2 (fun k hk => by rw [hn.2.2]; exact hd k hk) hP
theorem c_kinds_who {p : Int32} (hJ : J f l n) (hp : ¬ (0 ≤ p.toInt ∧ p.toInt < (n : Int))) (h0 : P (some (.int (-1))) (wW f l q)) : ba_go scr ix_X8_kinds 0 [some (.ref 1), some (.int p), none] [] (wW f l q) 0 0 P := by
  have hn := hJ.num
  refine run_X8_kinds 30 ?_
  repeat (first | refine And.intro (fun e => absurd e (by decide)) (fun e => ?_) | refine And.intro (fun e => ?_) (fun e => absurd e (by decide)) | refine Exists.intro _ (And.intro rfl ?_) | refine And.intro rfl ?_)
  refine s_personOf (b := 2) (Or.inl rfl) hn.2.1 (fun c d => absurd ⟨c, by omega⟩ hp) (fun c => ?_)
  repeat (first | refine And.intro (fun e => absurd e (by decide)) (fun e => ?_) | refine And.intro (fun e => ?_) (fun e => absurd e (by decide)) | refine Exists.intro _ (And.intro rfl ?_) | refine And.intro rfl ?_)
  exact h0
def Un (f : Nat → Nat → Int32) (l : Nat → List Int32) (p N : Nat) : Nat := Wn (rn (l 5)) (mn f p) N 0 + Wn (rn (l 5)) (mn f p) N 2
theorem c_odds {p m k : Int32} {p' N : Nat} (hJ : J f l n) (hp : p = nI p') (hpn : p' < n) (hm : m = nI N) (hN : N ≤ 9) (hk : k = 0 ∨ k = 1)
    (hP : ∀ X Y X2 Y2 : List Int32, X.length = 4 → Y.length = 4 → X2.length = 4 → Y2.length = 4 → P (some (.long (if k = 0 then lN (Un f l p' N / Nat.gcd (Un f l p' N) (3 ^ N)) else lN (3 ^ N / Nat.gcd (Un f l p' N) (3 ^ N))))) (wW f (wq (wq l X Y) X2 Y2) q)) :
    ba_go scr ix_X8_odds 0 [some (.ref 1), some (.int p), some (.int m), some (.int k), none, none, none, none] [] (wW f l q) 0 0 P := by
  have hn := hJ.num
  obtain ⟨h6, hpv⟩ := hJ.per hpn
  obtain ⟨e, t⟩ := pcl hp h6
  subst e
  subst hm
  have tN : (nI N).toInt = N := nI_toInt (by omega)
  have hk2 : 0 ≤ k.toInt ∧ k.toInt ≤ 1 := by rcases hk with rfl | rfl <;> decide
  have hr5 := hJ.2.2.1.1
  have hl5 := hJ.2.1.2.1
  have hat := people_at (f := f) (l := l) (q := q) h6
  obtain ⟨ha4, ea⟩ := mn_lt (f := f) hJ.2.2.2 h6
  obtain ⟨a, hae⟩ : ∃ a, a = mn f p.toNatClampNeg := ⟨_, rfl⟩
  obtain ⟨U, hU⟩ : ∃ U, U = Un f l p.toNatClampNeg N := ⟨_, rfl⟩
  rw [← hU] at hP
  have hU : U = Wn (rn (l 5)) (mn f p.toNatClampNeg) N 0 + Wn (rn (l 5)) (mn f p.toNatClampNeg) N 2 := hU
  rw [← hae] at ha4 ea hU
  have hRn : ∀ r, r < 12 → rn (l 5) r < 4 := fun r hr => by
    have h1 := hr5 r hr
    have h2 := ix_i h1.1
    show ((l 5).getD r 0).toNatClampNeg < 4
    omega
  have hT : T4 (Wn (rn (l 5)) a N) = 3 ^ N := T4_Wn ha4 hRn N
  have h39 : 3 ^ N ≤ 3 ^ 9 := Nat.pow_le_pow_right (by decide) (by omega)
  have h39 : 3 ^ N ≤ 19683 := h39
  have hTe : T4 (Wn (rn (l 5)) a N) = Wn (rn (l 5)) a N 0 + Wn (rn (l 5)) a N 1 + Wn (rn (l 5)) a N 2 + Wn (rn (l 5)) a N 3 := rfl
  have hUb : U < 2 ^ 31 := by omega
  have s1 : ss (fun i => if i % 2 = 0 then 1 else 0) (Wn (rn (l 5)) a N) 4 = U := by rw [hU]; simp [ss]
  have s2 : ss (fun _ => 1) (Wn (rn (l 5)) a N) 4 = 3 ^ N := by rw [← hT, hTe]; simp [ss]
  refine run_X8_odds 17 ?_
  repeat (first | refine And.intro (fun e => absurd e (by decide)) (fun e => ?_) | refine And.intro (fun e => ?_) (fun e => absurd e (by decide)) | refine Exists.intro _ (And.intro rfl ?_) | refine And.intro rfl ?_)
  refine s_personOf (b := 2) (Or.inl rfl) hn.2.1 (fun c d => ?_) (fun c => absurd ⟨by omega, by omega⟩ c)
  repeat (first | refine And.intro (fun e => absurd e (by decide)) (fun e => ?_) | refine And.intro (fun e => ?_) (fun e => absurd e (by decide)) | refine Exists.intro _ (And.intro rfl ?_) | refine And.intro rfl ?_)
  refine s_within (a := 0) (b := 9) rfl rfl (fun c1 c2 => ?_) (fun c1 => absurd ⟨by omega, by omega⟩ c1)
  repeat (first | refine And.intro (fun e => absurd e (by decide)) (fun e => ?_) | refine And.intro (fun e => ?_) (fun e => absurd e (by decide)) | refine Exists.intro _ (And.intro rfl ?_) | refine And.intro rfl ?_)
  refine s_within (a := 0) (b := 1) rfl rfl (fun c3 c4 => ?_) (fun c3 => absurd hk2 c3)
  refine And.intro (fun _ => ?_) (fun e => absurd (by decide) e)
  refine run_X8_odds 20 ?_
  refine Exists.intro _ (And.intro (rfl) ?_)
  refine Exists.intro _ (And.intro (rfl) ?_)
  refine Exists.intro _ (And.intro (fld_of hat rfl) ?_)
  rw [ea]
  refine And.intro rfl (s_rowsTo (c := fun i => if i % 2 = 0 then 1 else 0) ha4 (by omega) (fun i hi => ?_) hJ.2.1.2.2.1 hJ.2.1.2.2.2.1 hl5 hr5 (fun B hB => ?_))
  · exact (by decide +kernel : ∀ i : Fin 4, ((5 : Int32) >>> (nI i.1 &&& 31)) &&& 1 = nI (if i.1 % 2 = 0 then 1 else 0)) ⟨i, hi⟩
  · rw [s1]
    refine Exists.intro _ (And.intro (rfl) ?_)
    refine Exists.intro _ (And.intro (rfl) ?_)
    refine Exists.intro _ (And.intro (fld_of (people_at (f := f) (l := wq l (r4 (Wn (rn (l 5)) a N)) B) (q := q) h6) rfl) ?_)
    rw [ea]
    refine And.intro rfl (s_rowsTo (l := wq l (r4 (Wn (rn (l 5)) a N)) B) (c := fun _ => 1) ha4 (by omega) (fun i hi => ?_) rfl hB hl5 hr5 (fun B2 hB2 => ?_))
    · exact (by decide +kernel : ∀ i : Fin 4, ((15 : Int32) >>> (nI i.1 &&& 31)) &&& 1 = nI 1) ⟨i, hi⟩
    · have e5 : (wq l (r4 (Wn (rn (l 5)) a N)) B) 5 = l 5 := rfl
      rw [e5, s2]
      have h3 := hP (r4 (Wn (rn (l 5)) a N)) B (r4 (Wn (rn (l 5)) a N)) B2 rfl hB rfl hB2
      refine s_odds_loop (N := N) rfl (by omega) hUb (by omega) (fun e => ?_) (fun e => ?_)
      · rw [if_pos e] at h3; exact h3
      · rw [if_neg e] at h3; exact h3
theorem c_odds_out {p m k : Int32} (hJ : J f l n) (h : ¬ ((0 ≤ p.toInt ∧ p.toInt < (n : Int)) ∧ (0 ≤ m.toInt ∧ m.toInt ≤ 9) ∧ 0 ≤ k.toInt ∧ k.toInt ≤ 1)) (h0 : P (some (.long (-9223372036854775808))) (wW f l q)) :
    ba_go scr ix_X8_odds 0 [some (.ref 1), some (.int p), some (.int m), some (.int k), none, none, none, none] [] (wW f l q) 0 0 P := by
  have hn := hJ.num
  refine run_X8_odds 30 ?_
  repeat (first | refine And.intro (fun e => absurd e (by decide)) (fun e => ?_) | refine And.intro (fun e => ?_) (fun e => absurd e (by decide)) | refine Exists.intro _ (And.intro rfl ?_) | refine And.intro rfl ?_)
  refine s_personOf (b := 2) (Or.inl rfl) hn.2.1 (fun c d => ?_) (fun c => ?_)
  · repeat (first | refine And.intro (fun e => absurd e (by decide)) (fun e => ?_) | refine And.intro (fun e => ?_) (fun e => absurd e (by decide)) | refine Exists.intro _ (And.intro rfl ?_) | refine And.intro rfl ?_)
    refine s_within (a := 0) (b := 9) rfl rfl (fun c1 c2 => ?_) (fun c1 => ?_)
    · repeat (first | refine And.intro (fun e => absurd e (by decide)) (fun e => ?_) | refine And.intro (fun e => ?_) (fun e => absurd e (by decide)) | refine Exists.intro _ (And.intro rfl ?_) | refine And.intro rfl ?_)
      refine s_within (a := 0) (b := 1) rfl rfl (fun c3 c4 => absurd ⟨⟨c, by omega⟩, ⟨c1, c2⟩, c3, c4⟩ h) (fun c3 => ?_)
      repeat (first | refine And.intro (fun e => absurd e (by decide)) (fun e => ?_) | refine And.intro (fun e => ?_) (fun e => absurd e (by decide)) | refine Exists.intro _ (And.intro rfl ?_) | refine And.intro rfl ?_)
      exact h0
    · repeat (first | refine And.intro (fun e => absurd e (by decide)) (fun e => ?_) | refine And.intro (fun e => ?_) (fun e => absurd e (by decide)) | refine Exists.intro _ (And.intro rfl ?_) | refine And.intro rfl ?_)
      exact h0
  · repeat (first | refine And.intro (fun e => absurd e (by decide)) (fun e => ?_) | refine And.intro (fun e => ?_) (fun e => absurd e (by decide)) | refine Exists.intro _ (And.intro rfl ?_) | refine And.intro rfl ?_)
    exact h0
theorem c_many2 (h : P (some (.int (f 0 5))) (wW f l q)) : ba_go scr ix_X8_many 0 [some (.ref 1), some (.int 2)] [] (wW f l q) 0 0 P := by
  refine run_X8_many 60 ?_
  refine And.intro (fun g => absurd g (by decide)) (ba_sw_mk _ _ (fun j t hj he => ?_))
  have he : (2 : Int) = 0 + (j : Int) := he
  have hj : [32, 40, 61, 66][j]? = some t := hj
  have : j = 2 := by omega
  subst this
  cases hj
  repeat (first | refine And.intro (fun e => absurd e (by decide)) (fun e => ?_) | refine And.intro (fun e => ?_) (fun e => absurd e (by decide)) | refine Exists.intro _ (And.intro rfl ?_) | refine And.intro rfl ?_)
  exact h
theorem c_many3 (h : P (some (.int (f 29 3))) (wW f l q)) : ba_go scr ix_X8_many 0 [some (.ref 1), some (.int 3)] [] (wW f l q) 0 0 P := by
  refine run_X8_many 60 ?_
  refine And.intro (fun g => absurd g (by decide)) (ba_sw_mk _ _ (fun j t hj he => ?_))
  have he : (3 : Int) = 0 + (j : Int) := he
  have hj : [32, 40, 61, 66][j]? = some t := hj
  have : j = 3 := by omega
  subst this
  cases hj
  repeat (first | refine And.intro (fun e => absurd e (by decide)) (fun e => ?_) | refine And.intro (fun e => ?_) (fun e => absurd e (by decide)) | refine Exists.intro _ (And.intro rfl ?_) | refine And.intro rfl ?_)
  exact h
theorem c_ofPerson {p a : Int32} {p' i : Nat} (hJ : J f l n) (hp : p = nI p') (hpn : p' < n) (ha : a.toInt = (i : Int)) (hi : i < 4) (hP : P (some (.int (f (9 + p') i))) (wW f l q)) :
    ba_go scr ix_X8_ofPerson 0 [some (.ref 1), some (.int p), some (.int a), none] [] (wW f l q) 0 0 P := by
  have hn := hJ.num
  obtain ⟨h6, hpv⟩ := hJ.per hpn
  obtain ⟨e, t⟩ := pcl hp h6
  subst e
  have hat := people_at (f := f) (l := l) (q := q) h6
  refine run_X8_ofPerson 60 ?_
  repeat (first | refine And.intro (fun e => absurd e (by decide)) (fun e => ?_) | refine And.intro (fun e => ?_) (fun e => absurd e (by decide)) | refine Exists.intro _ (And.intro rfl ?_) | refine And.intro rfl ?_)
  refine s_personOf (b := 2) (Or.inl rfl) hn.2.1 (fun c d => ?_) (fun c => absurd ⟨by omega, by omega⟩ c)
  repeat (first | refine And.intro (fun e => absurd e (by decide)) (fun e => ?_) | refine And.intro (fun e => ?_) (fun e => absurd e (by decide)) | refine Exists.intro _ (And.intro rfl ?_) | refine And.intro rfl ?_)
  refine And.intro (fun g => absurd g (by omega)) (ba_sw_mk _ _ (fun j t hj he => ?_))
  have he : a.toInt = 0 + (j : Int) := he
  have hj : [56, 61, 66, 71, 76, 81][j]? = some t := hj
  have : j = i := by omega
  subst this
  match j, hi, hj with
  | 0, _, hj =>
    cases hj
    refine Exists.intro _ (And.intro (fld_of hat rfl) ?_)
    exact hP
  | 1, _, hj =>
    cases hj
    refine Exists.intro _ (And.intro (fld_of hat rfl) ?_)
    exact hP
  | 2, _, hj =>
    cases hj
    refine Exists.intro _ (And.intro (fld_of hat rfl) ?_)
    exact hP
  | 3, _, hj =>
    cases hj
    refine Exists.intro _ (And.intro (fld_of hat rfl) ?_)
    exact hP
end CN
