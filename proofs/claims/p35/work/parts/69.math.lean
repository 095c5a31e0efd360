/-! what the law counts, as pure numbers -/
/-- the least one, looked for from the last one back -/
def lk (ok : Nat → Bool) : Nat → Nat → Nat
  | 0, _ => 0
  | k + 1, j => if ok j then j else lk ok k (j + 1)
theorem lk_eq {ok : Nat → Bool} {b : Nat} (hb : ok b = true) : ∀ (k j : Nat), j ≤ b → b < j + k → (∀ i, j ≤ i → i < b → ok i = false) → lk ok k j = b
  | 0, j, h1, h2, _ => by omega
  | k + 1, j, h1, h2, h3 => by
    show (if ok j then j else lk ok k (j + 1)) = b
    by_cases e : j = b
    · rw [e, if_pos hb]
    · rw [h3 j (Nat.le_refl _) (by omega), if_neg (by decide)]
      exact lk_eq hb k (j + 1) (by omega) (by omega) (fun i g1 g2 => h3 i (by omega) g2)
def cnt (ok : Nat → Bool) : Nat → Nat
  | 0 => 0
  | r + 1 => cnt ok r + (if ok r then 1 else 0)
theorem cnt_le {ok : Nat → Bool} : ∀ n, cnt ok n ≤ n
  | 0 => Nat.le_refl _
  | n + 1 => by
    show cnt ok n + (if ok n then 1 else 0) ≤ n + 1
    have := cnt_le (ok := ok) n
    split <;> omega
theorem cnt_congr {ok ok' : Nat → Bool} : ∀ n, (∀ i, i < n → ok i = ok' i) → cnt ok n = cnt ok' n
  | 0, _ => rfl
  | n + 1, h => by
    show cnt ok n + (if ok n then 1 else 0) = cnt ok' n + (if ok' n then 1 else 0)
    rw [cnt_congr n (fun i hi => h i (by omega)), h n (by omega)]
def smh (h b : Nat → Nat) : Nat → Nat
  | 0 => 0
  | i + 1 => smh h b i + h (b i)
theorem cnt3 {ok : Nat → Bool} {h b : Nat → Nat} (e : ∀ i, (if ok (3 * i) then 1 else 0) + (if ok (3 * i + 1) then 1 else 0) + (if ok (3 * i + 2) then 1 else 0) = h (b i)) : ∀ k, cnt ok (3 * k) = smh h b k
  | 0 => rfl
  | k + 1 => by
    show cnt ok (3 * k + 3) = smh h b k + h (b k)
    rw [← cnt3 e k, ← e k]
    show cnt ok (3 * k) + _ + _ + _ = _
    omega
theorem smh_4 {h b : Nat → Nat} : ∀ k, (∀ i, i < k → b i < 4) → smh h b k = h 0 * cnt (fun i => decide (b i = 0)) k + h 1 * cnt (fun i => decide (b i = 1)) k + h 2 * cnt (fun i => decide (b i = 2)) k + h 3 * cnt (fun i => decide (b i = 3)) k
  | 0, _ => by simp [smh, cnt]
  | k + 1, hb => by
    have hk := hb k (by omega)
    have ih := smh_4 (h := h) k (fun i hi => hb i (by omega))
    have s : ∀ m, cnt (fun i => decide (b i = m)) (k + 1) = cnt (fun i => decide (b i = m)) k + (if decide (b k = m) = true then 1 else 0) := fun _ => rfl
    show smh h b k + h (b k) = _
    rw [ih, s 0, s 1, s 2, s 3]
    rcases (by omega : b k = 0 ∨ b k = 1 ∨ b k = 2 ∨ b k = 3) with e | e | e | e <;> rw [e] <;> simp [Nat.mul_add] <;> omega
def h3 (R : Nat → Nat) (t m : Nat) : Nat := (if R (3 * m) = t then 1 else 0) + (if R (3 * m + 1) = t then 1 else 0) + (if R (3 * m + 2) = t then 1 else 0)
theorem acc_h3 {R v : Nat → Nat} {t : Nat} : acc R v 12 t = h3 R t 0 * v 0 + h3 R t 1 * v 1 + h3 R t 2 * v 2 + h3 R t 3 * v 3 := by
  have i (c : Prop) [Decidable c] (x : Nat) : (if c then x else 0) = (if c then 1 else 0) * x := by split <;> simp
  simp only [acc, h3, Nat.add_mul]
  rw [i (R 0 = t), i (R 1 = t), i (R 2 = t), i (R 3 = t), i (R 4 = t), i (R 5 = t), i (R 6 = t), i (R 7 = t), i (R 8 = t), i (R 9 = t), i (R 10 = t), i (R 11 = t)]
  simp only [Nat.reduceDiv, Nat.reduceMul, Nat.reduceAdd]
  omega
/-- the rows that come to a mark are as many as the class's -/
theorem cnt_Wn {L : List Int32} (hr : rv L) {a : Nat} (ha : a < 4) : ∀ (N t : Nat), t < 4 → cnt (fun row => decide (bc (gs L) N row a = t)) (3 ^ N) = Wn (rn L) a N t
  | 0, t, _ => by
    show 0 + (if decide (a = t) then 1 else 0) = (if t = a then 1 else 0)
    by_cases e : a = t
    · rw [decide_eq_true e, if_pos rfl, if_pos e.symm]
    · rw [decide_eq_false e, if_neg (by decide), if_neg (fun g => e g.symm)]
  | N + 1, t, ht => by
    have hg := gs_all hr
    show _ = acc (rn L) (Wn (rn L) a N) 12 t
    rw [acc_h3, ← cnt_Wn hr ha N 0 (by decide), ← cnt_Wn hr ha N 1 (by decide), ← cnt_Wn hr ha N 2 (by decide), ← cnt_Wn hr ha N 3 (by decide)]
    rw [← smh_4 (h := h3 (rn L) t) (b := fun row => bc (gs L) N row a) (3 ^ N) (fun i _ => bc_lt hg N i a ha)]
    rw [show 3 ^ (N + 1) = 3 * 3 ^ N by rw [Nat.pow_succ, Nat.mul_comm]]
    refine cnt3 (fun i => ?_) (3 ^ N)
    have f0 : bc (gs L) (N + 1) (3 * i) a = rn L (3 * bc (gs L) N i a) := by rw [bc_last, show 3 * i % 3 = 0 by omega, show 3 * i / 3 = i by omega]; rfl
    have f1 : bc (gs L) (N + 1) (3 * i + 1) a = rn L (3 * bc (gs L) N i a + 1) := by rw [bc_last, show (3 * i + 1) % 3 = 1 by omega, show (3 * i + 1) / 3 = i by omega]; rfl
    have f2 : bc (gs L) (N + 1) (3 * i + 2) a = rn L (3 * bc (gs L) N i a + 2) := by rw [bc_last, show (3 * i + 2) % 3 = 2 by omega, show (3 * i + 2) / 3 = i by omega]; rfl
    show (if decide (bc (gs L) (N + 1) (3 * i) a = t) then 1 else 0) + (if decide (bc (gs L) (N + 1) (3 * i + 1) a = t) then 1 else 0) + (if decide (bc (gs L) (N + 1) (3 * i + 2) a = t) then 1 else 0) = h3 (rn L) t (bc (gs L) N i a)
    rw [f0, f1, f2]
    unfold h3
    simp only [decide_eq_true_eq]
theorem cnt_even {L : List Int32} (hr : rv L) {a : Nat} (ha : a < 4) (N : Nat) : cnt (fun row => decide (bc (gs L) N row a % 2 = 0)) (3 ^ N) = Wn (rn L) a N 0 + Wn (rn L) a N 2 := by
  have hg := gs_all hr
  rw [← cnt_Wn hr ha N 0 (by decide), ← cnt_Wn hr ha N 2 (by decide)]
  have k : ∀ n, cnt (fun row => decide (bc (gs L) N row a % 2 = 0)) n = cnt (fun row => decide (bc (gs L) N row a = 0)) n + cnt (fun row => decide (bc (gs L) N row a = 2)) n := by
    intro n
    induction n with
    | zero => rfl
    | succ n ih =>
      show cnt _ n + (if decide (bc (gs L) N n a % 2 = 0) then 1 else 0) = (cnt _ n + (if decide (bc (gs L) N n a = 0) then 1 else 0)) + (cnt _ n + (if decide (bc (gs L) N n a = 2) then 1 else 0))
      rw [ih]
      have := bc_lt hg N n a ha
      rcases (by omega : bc (gs L) N n a = 0 ∨ bc (gs L) N n a = 1 ∨ bc (gs L) N n a = 2 ∨ bc (gs L) N n a = 3) with e | e | e | e <;> rw [e] <;> simp <;> omega
  exact k _
/-- the odds as the law holds them -/
theorem odds_ok {U n : Nat} : 0 < 3 ^ n / Nat.gcd U (3 ^ n) ∧ U / Nat.gcd U (3 ^ n) * 3 ^ n = U * (3 ^ n / Nat.gcd U (3 ^ n)) ∧ (U / Nat.gcd U (3 ^ n) = 0 → 3 ^ n / Nat.gcd U (3 ^ n) = 1) ∧ ¬ (U / Nat.gcd U (3 ^ n) % 3 = 0 ∧ 3 ^ n / Nat.gcd U (3 ^ n) % 3 = 0) := by
  have h3 := p3 n
  have hg : 0 < Nat.gcd U (3 ^ n) := Nat.gcd_pos_of_pos_right _ h3
  obtain ⟨u, hu⟩ := Nat.gcd_dvd_left U (3 ^ n)
  obtain ⟨d, hd⟩ := Nat.gcd_dvd_right U (3 ^ n)
  have eu : U / Nat.gcd U (3 ^ n) = u := by
    conv => lhs; lhs; rw [hu]
    rw [Nat.mul_div_cancel_left _ hg]
  have ed : 3 ^ n / Nat.gcd U (3 ^ n) = d := by
    conv => lhs; lhs; rw [hd]
    rw [Nat.mul_div_cancel_left _ hg]
  rw [eu, ed]
  generalize hG : Nat.gcd U (3 ^ n) = G at *
  have hd0 : 0 < d := by
    rcases Nat.eq_zero_or_pos d with e | e
    · rw [e, Nat.mul_zero] at hd; omega
    · exact e
  refine ⟨hd0, ?_, fun e => ?_, fun ⟨e1, e2⟩ => ?_⟩
  · rw [hu, hd, ← Nat.mul_assoc, Nat.mul_comm u G]
  · rw [e, Nat.mul_zero] at hu
    rw [hu, Nat.gcd_zero_left] at hG
    rw [← hG] at hd
    exact (Nat.eq_of_mul_eq_mul_left h3 (by rw [Nat.mul_one]; exact hd)).symm
  · have h1 : G * 3 ∣ U := by rw [hu]; exact Nat.mul_dvd_mul_left G (Nat.dvd_of_mod_eq_zero e1)
    have h2 : G * 3 ∣ 3 ^ n := by rw [hd]; exact Nat.mul_dvd_mul_left G (Nat.dvd_of_mod_eq_zero e2)
    have h4 := Nat.le_of_dvd (by rw [hG]; exact hg) (Nat.dvd_gcd h1 h2)
    rw [hG] at h4
    omega
/-! undoing: the first of the shortest rows -/
def br (g : Nat → Nat → Nat) (D : Nat → Nat) : Nat → Nat → Nat
  | 0, _ => 0
  | e + 1, a => nsr g D a 3 * 3 ^ e + br g D e (g (nsr g D a 3) a)
theorem br_ok {g : Nat → Nat → Nat} {t : Nat} (hg : ∀ s m, s < 3 → m < 4 → g s m < 4) : ∀ (e a : Nat), a < 4 → e ≤ 3 → Ds g (fun x => decide (x = t)) a = e → bc g e (br g (Ds g (fun x => decide (x = t))) e a) a = t ∧ br g (Ds g (fun x => decide (x = t))) e a < 3 ^ e ∧ ∀ row, row < br g (Ds g (fun x => decide (x = t))) e a → ¬ bc g e row a = t
  | 0, a, ha, _, hD => by
    obtain ⟨j, h1, h2⟩ := (Ds_le (k := 0) (by decide)).mp (Nat.le_of_eq hD)
    have : j = 0 := by omega
    subst this
    exact ⟨of_decide_eq_true h2, Nat.zero_lt_one, fun row hr => absurd hr (Nat.not_lt_zero _)⟩
  | e + 1, a, ha, he, hD => by
    obtain ⟨D, hDe⟩ : ∃ D, D = Ds g (fun x => decide (x = t)) := ⟨_, rfl⟩
    have hp : ∀ s, s < 3 → e ≤ D (g s a) := fun s hs => by
      have := Ds_pred (g := g) (T := fun x => decide (x = t)) (m := a) hs
      rw [← hDe] at this hD
      omega
    have hx : ∃ s, s < 3 ∧ D (g s a) = e := by
      obtain ⟨s, hs, h⟩ := Ds_succ (g := g) (T := fun x => decide (x = t)) (m := a) (by omega) (by omega)
      rw [← hDe] at h hD
      exact ⟨s, hs, by omega⟩
    obtain ⟨n1, n2⟩ := nsr_first hp hx
    have n3 : nsr g D a 3 < 3 := nsr3
    have ih := br_ok hg e (g (nsr g D a 3) a) (hg _ _ n3 ha) (by omega) (by rw [← hDe]; exact n2)
    rw [← hDe] at ih ⊢
    obtain ⟨i1, i2, i3⟩ := ih
    have eb : br g D (e + 1) a = nsr g D a 3 * 3 ^ e + br g D e (g (nsr g D a 3) a) := rfl
    generalize nsr g D a 3 = s at *
    generalize br g D e (g s a) = b at *
    have hs3 : s * 3 ^ e ≤ 2 * 3 ^ e := Nat.mul_le_mul_right _ (by omega)
    have h3 := p3 e
    rw [eb]
    refine ⟨by rw [bc_cons g n3 i2]; exact i1, by rw [Nat.pow_succ]; omega, fun row hr h => ?_⟩
    have hrow : row < 3 ^ (e + 1) := by rw [Nat.pow_succ]; omega
    have hq : row / 3 ^ e < 3 := by rw [Nat.div_lt_iff_lt_mul h3, Nat.mul_comm, ← Nat.pow_succ]; exact hrow
    have hm : row % 3 ^ e < 3 ^ e := Nat.mod_lt _ h3
    have er : row = row / 3 ^ e * 3 ^ e + row % 3 ^ e := by rw [Nat.mul_comm, Nat.div_add_mod]
    rw [er, bc_cons g hq hm] at h
    generalize hqq : row / 3 ^ e = q at *
    generalize row % 3 ^ e = r at *
    by_cases hqs : q = s
    · subst hqs
      exact i3 r (by omega) h
    · by_cases hlt : q < s
      · have hle : D (g q a) ≤ e := by
          rw [hDe]
          exact (Ds_le (by omega)).mpr ⟨e, Nat.le_refl _, (bc_Wt _ _ _ _).mpr ⟨r, hm, decide_eq_true h⟩⟩
        have hq' := hp q hq
        have hDq : D (g q a) = e := by omega
        rw [n1] at hlt
        match q, hq with
        | 0, _ => rw [if_pos hDq] at hlt; omega
        | 1, _ =>
          by_cases e0 : D (g 0 a) = e
          · rw [if_pos e0] at hlt; omega
          · rw [if_neg e0, if_pos hDq] at hlt; omega
        | 2, _ =>
          by_cases e0 : D (g 0 a) = e
          · rw [if_pos e0] at hlt; omega
          · rw [if_neg e0] at hlt
            split at hlt <;> omega
      · have : s * 3 ^ e + 3 ^ e ≤ q * 3 ^ e := by rw [← Nat.succ_mul]; exact Nat.mul_le_mul_right _ (by omega)
        omega
theorem pt_s {g : Nat → Nat → Nat} {D : Nat → Nat} {a : Nat} : ∀ k, pt g D (g (nsr g D a 3) a) k = pt g D a (k + 1)
  | 0 => rfl
  | k + 1 => by
    show g (nsr g D (pt g D (g (nsr g D a 3) a) k) 3) (pt g D (g (nsr g D a 3) a) k) = _
    rw [pt_s k]
    rfl
theorem br_lt {g : Nat → Nat → Nat} {D : Nat → Nat} : ∀ (e a : Nat), br g D e a < 3 ^ e
  | 0, _ => Nat.zero_lt_one
  | e + 1, a => by
    show nsr g D a 3 * 3 ^ e + br g D e (g (nsr g D a 3) a) < 3 ^ (e + 1)
    have := br_lt (g := g) (D := D) e (g (nsr g D a 3) a)
    have n3 : nsr g D a 3 < 3 := nsr3
    have : nsr g D a 3 * 3 ^ e ≤ 2 * 3 ^ e := Nat.mul_le_mul_right _ (by omega)
    rw [Nat.pow_succ]
    omega
theorem br_dig {g : Nat → Nat → Nat} {D : Nat → Nat} : ∀ (e a k : Nat), k < e → br g D e a / 3 ^ (e - 1 - k) % 3 = nsr g D (pt g D a k) 3
  | 0, _, _, h => absurd h (Nat.not_lt_zero _)
  | e + 1, a, 0, _ => by
    show (nsr g D a 3 * 3 ^ e + br g D e (g (nsr g D a 3) a)) / 3 ^ e % 3 = nsr g D a 3
    have n3 : nsr g D a 3 < 3 := nsr3
    rw [Nat.add_comm, Nat.add_mul_div_right _ _ (p3 e), Nat.div_eq_of_lt (br_lt e _), Nat.zero_add, Nat.mod_eq_of_lt n3]
  | e + 1, a, k + 1, h => by
    rw [← pt_s k, ← br_dig e (g (nsr g D a 3) a) k (by omega)]
    show (nsr g D a 3 * 3 ^ e + br g D e (g (nsr g D a 3) a)) / 3 ^ (e + 1 - 1 - (k + 1)) % 3 = _
    have e1 : e + 1 - 1 - (k + 1) = e - 1 - k := by omega
    have e2 : 3 ^ e = 3 * 3 ^ k * 3 ^ (e - 1 - k) := by
      rw [Nat.mul_assoc, ← Nat.pow_add, Nat.mul_comm, ← Nat.pow_succ]
      congr 1
      omega
    rw [e1]
    conv => lhs; lhs; lhs; lhs; rw [e2]
    rw [Nat.add_comm, ← Nat.mul_assoc, Nat.add_mul_div_right _ _ (p3 _), ← Nat.mul_assoc, Nat.mul_comm (nsr g D a 3) 3, Nat.mul_assoc, Nat.add_mul_mod_self_left]
