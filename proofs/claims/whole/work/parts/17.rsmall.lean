/-! the small methods of the reference -/
theorem l64 {x : Int32} : x.toInt64.toInt = x.toInt := Int32.toInt_toInt64 x
section SR
variable {scr : Option (List Int32)} {P : ba_P} {w : ba_W} {f : Nat → Nat → Int32} {l : Nat → List Int32} {q : Nat → List Int64}
theorem r_noPerson {p : Int32} (hn : 0 ≤ (f 42 1).toInt) (h1 : 0 ≤ p.toInt → p.toInt < (f 42 1).toInt → P (some (.int 0)) (wW f l q)) (h0 : ¬ (0 ≤ p.toInt ∧ p.toInt < (f 42 1).toInt) → P (some (.int 1)) (wW f l q)) : ba_go scr ix_X9_noPerson 0 [some (.ref 43), some (.int p)] [] (wW f l q) 0 0 P := by
  have hb := fb_rng (f 42 1)
  have e1 : (Int64.ofNat 1).toInt = 1 := rfl
  refine run_X9_noPerson 30 ?_
  refine Exists.intro _ (And.intro rfl ?_)
  refine And.intro rfl (s_in (x := p.toInt) (a := 0) (b := (f 42 1).toInt - 1) l64 rfl (by
    show ((f 42 1).toInt64 - Int64.ofNat 1).toInt = _
    rw [fb_subL (by rw [l64, e1]; omega) (by rw [l64, e1]; omega), l64, e1]) (fun c d => ?_) (fun c => ?_))
  · refine And.intro (fun e => ?_) (fun e => absurd e (by decide))
    exact And.intro rfl (h1 c (by omega))
  · refine And.intro (fun e => absurd e (by decide)) (fun e => ?_)
    exact And.intro rfl (h0 (by omega))
theorem r_takes {p : Int32} (hl : (l 48).length = 6) (hl2 : (l 45).length = 6) (hp : 0 ≤ p.toInt) (hp2 : p.toInt < 6) (hP : P (some (.int (tk ((l 45).getD p.toNatClampNeg 0) ((l 48).getD p.toNatClampNeg 0)))) (wW f l q)) : ba_go scr ix_X9_takes 0 [some (.ref 43), some (.int p), none] [] (wW f l q) 0 0 P := by
  have a8 : ∀ xs, ba_ldI xs (wW f l q) 49 p = some ((l 48).getD p.toNatClampNeg 0) := fun xs => ldI_of rfl hp (by rw [hl]; exact hp2)
  have a5 : ∀ xs, ba_ldI xs (wW f l q) 46 p = some ((l 45).getD p.toNatClampNeg 0) := fun xs => ldI_of rfl hp (by rw [hl2]; exact hp2)
  generalize (l 45).getD p.toNatClampNeg 0 = k at *
  generalize (l 48).getD p.toNatClampNeg 0 = n at *
  refine run_X9_takes 60 ?_
  refine Exists.intro _ (And.intro rfl ?_)
  refine Exists.intro _ (And.intro (a8 _) ?_)
  refine Exists.intro _ (And.intro rfl ?_)
  refine Exists.intro _ (And.intro (a5 _) ?_)
  refine And.intro (fun c => ?_) (fun c => ?_)
  · refine Exists.intro _ (And.intro rfl ?_)
    refine Exists.intro _ (And.intro (a5 _) ?_)
    refine And.intro (fun d => ?_) (fun d => ?_)
    · have d : ¬ k = 1 := d
      have e : tk k n = 2 * (n + 1) := by unfold tk; rw [if_neg c, if_neg d]
      rw [e] at hP
      exact hP
    · have d : k = 1 := Classical.not_not.mp d
      have e : tk k n = n + 1 := by unfold tk; rw [if_neg c, if_pos d]
      rw [e] at hP
      exact hP
  · refine Exists.intro _ (And.intro rfl ?_)
    refine Exists.intro _ (And.intro (a8 _) ?_)
    have c : k = 0 := Classical.not_not.mp c
    have e : tk k n = n := by unfold tk; rw [if_pos c]
    rw [e] at hP
    exact hP
theorem r_works {m : Int32} (h1 : wk m → P (some (.int 1)) w) (h0 : ¬ wk m → P (some (.int 0)) w) : ba_go scr ix_X9_works 0 [some (.int m)] [] w 0 0 P := by
  refine run_X9_works 30 ?_
  refine And.intro (fun c => ?_) (fun c => ?_)
  · exact And.intro rfl (h1 (Or.inl c))
  · refine And.intro (fun d => ?_) (fun d => ?_)
    · exact And.intro rfl (h0 (fun e => e.elim c d))
    · exact And.intro rfl (h1 (Or.inr (Classical.not_not.mp d)))
theorem r_becomes {m s : Int32} (hl : (l 44).length = 12) (hm : 0 ≤ m.toInt) (hm2 : m.toInt ≤ 3) (hs : 0 ≤ s.toInt) (hs2 : s.toInt ≤ 2) (hP : P (some (.int (rl (l 44) m s))) (wW f l q)) : ba_go scr ix_X9_becomes 0 [some (.ref 43), some (.int m), some (.int s)] [] (wW f l q) 0 0 P := by
  have hi := idx3 hm hm2 hs hs2
  have e : (Int32.ofInt 3 * m + s) = m * 3 + s := by rw [Int32.mul_comm]; rfl
  refine run_X9_becomes 30 ?_
  refine Exists.intro _ (And.intro rfl ?_)
  refine Exists.intro _ (And.intro (ldI_of rfl (by show 0 ≤ (Int32.ofInt 3 * m + s).toInt; rw [e]; omega) (by show (Int32.ofInt 3 * m + s).toInt < _; rw [hl, e]; omega)) ?_)
  have hP : P (some (.int ((l 44).getD (Int32.ofInt 3 * m + s).toNatClampNeg 0))) (wW f l q) := by rw [e]; exact hP
  exact hP
theorem r_refused {v : Int32} (hP : P (some (.int v)) (wW (u2 f 42 0 0) l q)) : ba_go scr ix_X9_refused 0 [some (.ref 43), some (.int v)] [] (wW f l q) 0 0 P := by
  refine run_X9_refused 30 ?_
  refine Exists.intro _ (And.intro rfl ?_)
  exact hP
theorem r_failed {v : Int32} (hP : P (some (.int (-10 - v))) (wW (u2 f 42 0 v) l q)) : ba_go scr ix_X9_failed 0 [some (.ref 43), some (.int v)] [] (wW f l q) 0 0 P := by
  refine run_X9_failed 30 ?_
  refine Exists.intro _ (And.intro rfl ?_)
  exact hP
theorem r_lost (hP : P (some (.long (-9223372036854775808))) w) : ba_go scr ix_X9_lost 0 [] [] w 0 0 P := by
  refine run_X9_lost 30 ?_
  exact hP
theorem r_failedLong {v : Int32} (hP : P (some (.long (-9223372036854775808))) (wW (u2 f 42 0 v) l q)) : ba_go scr ix_X9_failedLong 0 [some (.ref 43), some (.int v)] [] (wW f l q) 0 0 P := by
  refine run_X9_failedLong 30 ?_
  refine Exists.intro _ (And.intro rfl ?_)
  refine And.intro rfl (r_lost ?_)
  exact hP
theorem r_isBeyond {i a : Int32} {n : Int64} (hn : n.toInt ≤ 2147483648) (h1 : ¬ (0 ≤ i.toInt ∧ 0 ≤ n.toInt ∧ i.toInt + n.toInt ≤ a.toInt) → P (some (.int 1)) w) (h0 : 0 ≤ i.toInt → 0 ≤ n.toInt → i.toInt + n.toInt ≤ a.toInt → P (some (.int 0)) w) : ba_go scr ix_X9_isBeyond 0 [some (.int i), some (.long n), none, some (.int a)] [] w 0 0 P := by
  have z : (0 : Int32).toInt = 0 := rfl
  have z2 : (Int64.ofNat ((0 : Fin 2) : Nat)).toInt = 0 := rfl
  have hb := fb_rng i
  refine run_X9_isBeyond 30 ?_
  refine And.intro (fun c => ?_) (fun c => ?_)
  · simp only [lt_i, z] at c
    exact And.intro rfl (h1 (by omega))
  · simp only [lt_i, z] at c
    refine And.intro (fun d => ?_) (fun d => ?_)
    · have d : ¬ 0 ≤ lg_cmp n (Int64.ofNat ((0 : Fin 2) : Nat)) := by simp only [lt_i] at d; rw [le_i]; exact Int.not_le.mpr d
      simp only [lg_cmp_ge, Int64.le_iff_toInt_le, z2] at d
      exact And.intro rfl (h1 (by omega))
    · have d : 0 ≤ lg_cmp n (Int64.ofNat ((0 : Fin 2) : Nat)) := by simp only [lt_i] at d; rw [le_i]; exact Int.not_lt.mp d
      simp only [lg_cmp_ge, Int64.le_iff_toInt_le, z2] at d
      have e : (i.toInt64 + n).toInt = i.toInt + n.toInt := by rw [fb_addL (by rw [l64]; omega) (by rw [l64]; omega), l64]
      refine And.intro (fun g => ?_) (fun g => ?_)
      · simp only [lg_cmp_le, Int64.le_iff_toInt_le, e, l64] at g
        exact And.intro rfl (h0 (by omega) (by omega) g)
      · simp only [lg_cmp_le, Int64.le_iff_toInt_le, e, l64] at g
        exact And.intro rfl (h1 (by omega))
theorem r_isIn {s p : Int32} (h1 : ((s >>> (p &&& 31)) &&& 1) = 1 → P (some (.int 1)) w) (h0 : ¬ ((s >>> (p &&& 31)) &&& 1) = 1 → P (some (.int 0)) w) : ba_go scr ix_X9_isIn 0 [some (.int s), some (.int p)] [] w 0 0 P := by
  refine run_X9_isIn 30 ?_
  refine And.intro (fun c => ?_) (fun c => ?_)
  · exact And.intro rfl (h0 c)
  · exact And.intro rfl (h1 (Classical.not_not.mp c))
/-- what taking cells of a sheet is refused with -/
theorem r_cellsBarred {k a i : Int32} {n : Int64} (hk : 0 ≤ k.toInt) (hk2 : k.toInt ≤ 3) (hl : (l 62).length = 4) (hl2 : (l 63).length = 4) (hn : n.toInt ≤ 2147483648)
    (h1 : ((l 62).getD k.toNatClampNeg 0).toInt < 0 → P (some (.int (-11))) (wW (u2 f 42 0 1) l q)) (h2 : 0 ≤ ((l 62).getD k.toNatClampNeg 0).toInt → ¬ (l 63).getD k.toNatClampNeg 0 = a → P (some (.int (-12))) (wW (u2 f 42 0 2) l q))
    (h4 : 0 ≤ ((l 62).getD k.toNatClampNeg 0).toInt → (l 63).getD k.toNatClampNeg 0 = a → n.toInt < 0 → P (some (.int (-14))) (wW (u2 f 42 0 4) l q))
    (h3 : 0 ≤ ((l 62).getD k.toNatClampNeg 0).toInt → (l 63).getD k.toNatClampNeg 0 = a → 0 ≤ n.toInt → ¬ (0 ≤ i.toInt ∧ i.toInt + n.toInt ≤ ((l 62).getD k.toNatClampNeg 0).toInt) → P (some (.int (-13))) (wW (u2 f 42 0 3) l q))
    (h0 : 0 ≤ ((l 62).getD k.toNatClampNeg 0).toInt → (l 63).getD k.toNatClampNeg 0 = a → 0 ≤ n.toInt → 0 ≤ i.toInt → i.toInt + n.toInt ≤ ((l 62).getD k.toNatClampNeg 0).toInt → P (some (.int 0)) (wW f l q)) :
    ba_go scr ix_X9_cellsBarred 0 [some (.ref 43), some (.int k), some (.int a), some (.int i), some (.long n), none] [] (wW f l q) 0 0 P := by
  have z : (0 : Int32).toInt = 0 := rfl
  have z2 : (Int64.ofNat ((0 : Fin 2) : Nat)).toInt = 0 := rfl
  have a62 : ∀ xs, ba_ldI xs (wW f l q) 63 k = some ((l 62).getD k.toNatClampNeg 0) := fun xs => ldI_of rfl hk (by rw [hl]; omega)
  have a63 : ∀ xs, ba_ldI xs (wW f l q) 64 k = some ((l 63).getD k.toNatClampNeg 0) := fun xs => ldI_of rfl hk (by rw [hl2]; omega)
  generalize (l 62).getD k.toNatClampNeg 0 = s at *
  generalize (l 63).getD k.toNatClampNeg 0 = t at *
  have rest : ∀ m : Nat, 60 ≤ m → (0 ≤ s.toInt → t = a) → ba_wp (ba_go scr) none mo_X9_cellsBarred mo_X9_cellsBarred_r m ix_X9_cellsBarred 25 [some (.ref 43), some (.int k), some (.int a), some (.int i), some (.long n), none] [] (wW f l q) 0 0 P := by
    intro m hm ht
    obtain ⟨m, rfl⟩ : ∃ j, m = j + 60 := ⟨m - 60, by omega⟩
    refine Exists.intro _ (And.intro rfl ?_)
    refine Exists.intro _ (And.intro (a62 _) ?_)
    refine And.intro (fun c => ?_) (fun c => ?_)
    · simp only [le_i, z] at c
      refine And.intro (fun d => ?_) (fun d => ?_)
      · simp only [lg_cmp_ge, Int64.le_iff_toInt_le, z2] at d
        refine Exists.intro _ (And.intro rfl ?_)
        refine Exists.intro _ (And.intro (a62 _) ?_)
        refine And.intro rfl (r_isBeyond hn (fun g => ?_) (fun g1 g2 g3 => ?_))
        · refine And.intro (fun e => absurd e (by decide)) (fun e => ?_)
          exact And.intro rfl (r_failed (h3 c (ht c) d (by omega)))
        · refine And.intro (fun e => ?_) (fun e => absurd e (by decide))
          exact h0 c (ht c) d g1 g3
      · simp only [lg_cmp_ge, Int64.le_iff_toInt_le, z2] at d
        exact And.intro rfl (r_failed (h4 c (ht c) (by omega)))
    · simp only [le_i, z] at c
      exact And.intro rfl (r_failed (h1 (by omega)))
  refine run_X9_cellsBarred 80 ?_
  refine Exists.intro _ (And.intro rfl ?_)
  refine Exists.intro _ (And.intro (a62 _) ?_)
  refine And.intro (fun c => ?_) (fun c => ?_)
  · simp only [lt_i, z] at c
    exact rest 75 (by omega) (fun g => absurd g (by omega))
  · simp only [lt_i, z] at c
    refine Exists.intro _ (And.intro rfl ?_)
    refine Exists.intro _ (And.intro (a63 _) ?_)
    refine And.intro (fun d => ?_) (fun d => ?_)
    · exact rest 69 (by omega) (fun g => d)
    · exact And.intro rfl (r_failed (h2 (by omega) d))
theorem r_noCell {k i : Int32} (hk : 0 ≤ k.toInt) (hk2 : k.toInt ≤ 3) (hl : (l 62).length = 4) (h1 : ((l 62).getD k.toNatClampNeg 0).toInt < 0 → P (some (.int 1)) (wW f l q)) (h3 : 0 ≤ ((l 62).getD k.toNatClampNeg 0).toInt → ¬ (0 ≤ i.toInt ∧ i.toInt < ((l 62).getD k.toNatClampNeg 0).toInt) → P (some (.int 3)) (wW f l q)) (h0 : 0 ≤ ((l 62).getD k.toNatClampNeg 0).toInt → 0 ≤ i.toInt → i.toInt < ((l 62).getD k.toNatClampNeg 0).toInt → P (some (.int 0)) (wW f l q)) :
    ba_go scr ix_X9_noCell 0 [some (.ref 43), some (.int k), some (.int i)] [] (wW f l q) 0 0 P := by
  have z : (0 : Int32).toInt = 0 := rfl
  have e1 : (Int64.ofNat 1).toInt = 1 := rfl
  have a62 : ∀ xs, ba_ldI xs (wW f l q) 63 k = some ((l 62).getD k.toNatClampNeg 0) := fun xs => ldI_of rfl hk (by rw [hl]; omega)
  generalize (l 62).getD k.toNatClampNeg 0 = s at *
  have hb := fb_rng s
  refine run_X9_noCell 40 ?_
  refine Exists.intro _ (And.intro rfl ?_)
  refine Exists.intro _ (And.intro (a62 _) ?_)
  refine And.intro (fun c => ?_) (fun c => ?_)
  · simp only [le_i, z] at c
    refine Exists.intro _ (And.intro rfl ?_)
    refine Exists.intro _ (And.intro (a62 _) ?_)
    refine And.intro rfl (s_in (x := i.toInt) (a := 0) (b := s.toInt - 1) l64 rfl (by
      show (s.toInt64 - Int64.ofNat 1).toInt = _
      rw [fb_subL (by rw [l64, e1]; omega) (by rw [l64, e1]; omega), l64, e1]) (fun g d => ?_) (fun g => ?_))
    · refine And.intro (fun e => absurd e (by decide)) (fun e => ?_)
      exact h0 c g (by omega)
    · refine And.intro (fun e => ?_) (fun e => absurd e (by decide))
      exact h3 c (by omega)
  · simp only [le_i, z] at c
    exact h1 (by omega)
end SR
