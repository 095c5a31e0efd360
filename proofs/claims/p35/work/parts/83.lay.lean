/-! the law: a war, by cells, its text to the first sheet -/
def ltr (k : Nat) : Int32 := if k = 0 then 112 else if k = 1 then 99 else 103
def B0 (f F : Nat → Nat → Int32) (l L : Nat → List Int32) (n : Nat) : Prop := (∀ x y, ¬ x = 0 → F x y = f x y) ∧ (∀ x, ¬ x = 35 → ¬ x = 42 → L x = l x) ∧ ((L 35).length = 60 ∧ (L 42).length = 22) ∧ (L 42).getD 0 0 = nI n ∧ (L 42).getD 3 0 = 0 ∧ (L 35).getD 0 0 = nI 119
def Wi (L : Nat → List Int32) : Prop := ∀ x, x < 2 → ∃ A, A < 100 ∧ (L 42).getD (1 + x) 0 = nI A
def Ti (L : Nat → List Int32) (k : Nat) : Prop := ∀ x, x < k → ∃ A, A < 100 ∧ (L 42).getD (1 + x) 0 = nI A ∧ (L 35).getD (1 + 2 * x) 0 = nI (48 + A / 10) ∧ (L 35).getD (2 + 2 * x) 0 = nI (48 + A % 10)
def Tu (L : Nat → List Int32) (k : Nat) : Prop := ∀ i, i < k → ∃ V, V < 4 ∧ (L 42).getD (4 + i) 0 = nI V ∧ (L 35).getD (5 + i) 0 = nI (48 + V)
def Tp (L : Nat → List Int32) (k : Nat) : Prop := ∀ p, p < k → ∃ x, x < 320 ∧ x % 4 < 3 ∧ (L 42).getD (16 + p) 0 = nI x ∧ (L 35).getD (17 + 5 * p) 0 = nI 59 ∧ (L 35).getD (17 + 5 * p + 1) 0 = ltr (x % 4) ∧ (L 35).getD (17 + 5 * p + 2) 0 = nI (48 + x / 4 % 2) ∧ (L 35).getD (17 + 5 * p + 3) 0 = nI (48 + x / 8 % 4) ∧ (L 35).getD (17 + 5 * p + 4) 0 = nI (48 + x / 32)
section LL1
variable {f F : Nat → Nat → Int32} {l L : Nat → List Int32} {n k I : Nat} {v : Int32}
theorem B0.put (h : B0 f F l L n) (hI : ¬ I = 0) : B0 f (u2 F 0 6 0) l (u1 L 35 ((L 35).set I v)) n := by
  obtain ⟨h1, h2, ⟨h3, h4⟩, h5, h6, h7⟩ := h
  refine ⟨fun x y hx => by rw [u2_ne hx]; exact h1 x y hx, fun x hx hy => by rw [u1_ne hx]; exact h2 x hx hy, ⟨by rw [u1_eq, List.length_set]; exact h3, by rw [u1_ne (by decide)]; exact h4⟩, by rw [u1_ne (by decide)]; exact h5, by rw [u1_ne (by decide)]; exact h6, by rw [u1_eq, g_ne hI]; exact h7⟩
theorem B0.w (h : B0 f F l L n) (hI : 4 ≤ I) : B0 f F l (u1 L 42 ((L 42).set I v)) n := by
  obtain ⟨h1, h2, ⟨h3, h4⟩, h5, h6, h7⟩ := h
  refine ⟨h1, fun x hx hy => by rw [u1_ne hy]; exact h2 x hx hy, ⟨by rw [u1_ne (by decide)]; exact h3, by rw [u1_eq, List.length_set]; exact h4⟩, by rw [u1_eq, g_ne (by omega)]; exact h5, by rw [u1_eq, g_ne (by omega)]; exact h6, by rw [u1_ne (by decide)]; exact h7⟩
theorem Wi.put (h : Wi L) : Wi (u1 L 35 ((L 35).set I v)) := fun x hx => by rw [u1_ne (by decide)]; exact h x hx
theorem Ti.put (h : Ti L k) (hk : k ≤ 2) (hI : 1 + 2 * k ≤ I) : Ti (u1 L 35 ((L 35).set I v)) k := fun x hx => by
  rw [u1_ne (i := 35) (x := 42) (by decide), u1_eq, g_ne (by omega), g_ne (by omega)]
  exact h x hx
theorem Ti.w (h : Ti L k) (hk : k ≤ 2) (hI : 4 ≤ I) : Ti (u1 L 42 ((L 42).set I v)) k := fun x hx => by
  rw [u1_ne (i := 42) (x := 35) (by decide), u1_eq, g_ne (by omega)]
  exact h x hx
theorem Tu.put (h : Tu L k) (hk : k ≤ 12) (hI : 5 + k ≤ I) : Tu (u1 L 35 ((L 35).set I v)) k := fun x hx => by
  rw [u1_ne (i := 35) (x := 42) (by decide), u1_eq, g_ne (by omega)]
  exact h x hx
theorem Tu.w (h : Tu L k) (hk : k ≤ 12) (hI : 4 + k ≤ I) : Tu (u1 L 42 ((L 42).set I v)) k := fun x hx => by
  rw [u1_ne (i := 42) (x := 35) (by decide), u1_eq, g_ne (by omega)]
  exact h x hx
theorem Tp.put (h : Tp L k) (hk : k ≤ 6) (hI : 17 + 5 * k ≤ I) : Tp (u1 L 35 ((L 35).set I v)) k := fun x hx => by
  rw [u1_ne (i := 35) (x := 42) (by decide), u1_eq, g_ne (by omega), g_ne (by omega), g_ne (by omega), g_ne (by omega), g_ne (by omega)]
  exact h x hx
theorem Tp.w (h : Tp L k) (hk : k ≤ 6) (hI : 16 + k ≤ I) : Tp (u1 L 42 ((L 42).set I v)) k := fun x hx => by
  rw [u1_ne (i := 42) (x := 35) (by decide), u1_eq, g_ne (by omega)]
  exact h x hx
theorem Ti.s {A : Nat} (h : Ti L k) (hA : A < 100) (h1 : (L 42).getD (1 + k) 0 = nI A) (h2 : (L 35).getD (1 + 2 * k) 0 = nI (48 + A / 10)) (h3 : (L 35).getD (2 + 2 * k) 0 = nI (48 + A % 10)) : Ti L (k + 1) := fun x hx => by
  by_cases e : x = k
  · subst e; exact ⟨A, hA, h1, h2, h3⟩
  · exact h x (by omega)
theorem Tu.s {V : Nat} (h : Tu L k) (hV : V < 4) (h1 : (L 42).getD (4 + k) 0 = nI V) (h2 : (L 35).getD (5 + k) 0 = nI (48 + V)) : Tu L (k + 1) := fun x hx => by
  by_cases e : x = k
  · subst e; exact ⟨V, hV, h1, h2⟩
  · exact h x (by omega)
theorem Tp.s {x : Nat} (h : Tp L k) (hx : x < 320 ∧ x % 4 < 3 ∧ (L 42).getD (16 + k) 0 = nI x ∧ (L 35).getD (17 + 5 * k) 0 = nI 59 ∧ (L 35).getD (17 + 5 * k + 1) 0 = ltr (x % 4) ∧ (L 35).getD (17 + 5 * k + 2) 0 = nI (48 + x / 4 % 2) ∧ (L 35).getD (17 + 5 * k + 3) 0 = nI (48 + x / 8 % 4) ∧ (L 35).getD (17 + 5 * k + 4) 0 = nI (48 + x / 32)) : Tp L (k + 1) := fun y hy => by
  by_cases e : y = k
  · subst e; exact ⟨x, hx⟩
  · exact h y (by omega)
end LL1
theorem dg_nI {m d : Nat} (hd : d ≤ m) (hm : m < 10) : dg (m : Int) (nI (48 + d)) = true := by
  unfold dg
  rw [decide_eq_true_iff, nI_toInt (by omega)]
  omega
theorem dv_nI {d : Nat} (hd : d < 100) : dv (nI (48 + d)) = nI d := by
  show nI (48 + d) - nI 48 = nI d
  rw [nI_sub (by omega) (by omega)]
  congr 1
  omega
theorem kd_ltr {k : Nat} (hk : k < 3) : kd (ltr k) = nI k := (by decide +kernel : ∀ k : Fin 3, kd (ltr k.1) = nI k.1) ⟨k, hk⟩
/-- the text is a war's -/
theorem lay_upto {f F : Nat → Nat → Int32} {l L : Nat → List Int32} {n : Nat} (h : B0 f F l L n) (hi : Ti L 2) (hr : Tu L 12) (hp : Tp L n) (hn : n ≤ 6) : upto (fun t => (L 35).getD (0 + t) 0) (17 + 5 * n) := by
  intro t ht
  show Gb t ((L 35).getD (0 + t) 0) = true
  rw [Nat.zero_add]
  unfold Gb
  by_cases t0 : t = 0
  · rw [if_pos t0, t0, h.2.2.2.2.2]
    rfl
  · rw [if_neg t0]
    by_cases t5 : t < 5
    · rw [if_pos t5]
      rcases (by omega : t = 1 ∨ t = 2 ∨ t = 3 ∨ t = 4) with e | e | e | e <;> subst e
      · obtain ⟨A, hA, -, a1, -⟩ := hi 0 (by decide)
        rw [show (1 : Nat) = 1 + 2 * 0 by omega, a1]; exact dg_nI (m := 9) (by omega) (by decide)
      · obtain ⟨A, hA, -, -, a2⟩ := hi 0 (by decide)
        rw [show (2 : Nat) = 2 + 2 * 0 by omega, a2]; exact dg_nI (m := 9) (by omega) (by decide)
      · obtain ⟨A, hA, -, a1, -⟩ := hi 1 (by decide)
        rw [show (3 : Nat) = 1 + 2 * 1 by omega, a1]; exact dg_nI (m := 9) (by omega) (by decide)
      · obtain ⟨A, hA, -, -, a2⟩ := hi 1 (by decide)
        rw [show (4 : Nat) = 2 + 2 * 1 by omega, a2]; exact dg_nI (m := 9) (by omega) (by decide)
    · rw [if_neg t5]
      by_cases t17 : t < 17
      · rw [if_pos t17]
        obtain ⟨V, hV, -, a1⟩ := hr (t - 5) (by omega)
        rw [show t = 5 + (t - 5) by omega, a1]
        exact dg_nI (m := 3) (by omega) (by decide)
      · rw [if_neg t17]
        obtain ⟨x, x1, x2, -, s0, s1, s2, s3, s4⟩ := hp ((t - 17) / 5) (by omega)
        have hq : t = 17 + 5 * ((t - 17) / 5) + (t - 17) % 5 := by omega
        have hp6 : decide ((t - 17) / 5 < 6) = true := decide_eq_true (by omega)
        rw [hp6, Bool.true_and]
        unfold Gp
        rcases (by omega : (t - 17) % 5 = 0 ∨ (t - 17) % 5 = 1 ∨ (t - 17) % 5 = 2 ∨ (t - 17) % 5 = 3 ∨ (t - 17) % 5 = 4) with e | e | e | e | e
        · rw [e] at hq ⊢
          rw [if_pos rfl]
          rw [show t = 17 + 5 * ((t - 17) / 5) by omega, s0]
          rfl
        · rw [e] at hq ⊢
          rw [if_neg (by decide), if_pos rfl]
          rw [hq, s1, kd_ltr x2, decide_eq_false (fun e2 => by
            have := congrArg Int32.toInt e2
            rw [nI_toInt (by omega), show (-9 : Int32).toInt = -9 from rfl] at this
            omega)]
          rfl
        · rw [e] at hq ⊢
          rw [if_neg (by decide), if_neg (by decide), if_pos rfl]
          rw [hq, s2]
          exact dg_nI (m := 1) (by omega) (by decide)
        · rw [e] at hq ⊢
          rw [if_neg (by decide), if_neg (by decide), if_neg (by decide), if_pos rfl]
          rw [hq, s3]
          exact dg_nI (m := 3) (by omega) (by decide)
        · rw [e] at hq ⊢
          rw [if_neg (by decide), if_neg (by decide), if_neg (by decide), if_neg (by decide)]
          rw [hq, s4]
          exact dg_nI (m := 9) (by omega) (by decide)
/-- behind the war -/
theorem lay_SS {f F F1 : Nat → Nat → Int32} {l L L1 : Nat → List Int32} {n : Nat} (h : B0 f F l L n) (hi : Ti L 2) (hr : Tu L 12) (hp : Tp L n) (hn2 : 2 ≤ n) (hn : n ≤ 6) (hIv : IvP f) (hl : (l 6).length = 4 ∧ (l 7).length = 4 ∧ (l 30).length = 8 ∧ (l 31).length = 8)
    (hE : CE (fun t => (L 35).getD (0 + t) 0) (u2 F 0 6 0) F1 L L1 n) : SS (u2 (u2 F1 29 3 0) 0 5 0) L1 n ∧ (u2 (u2 F1 29 3 0) 0 5 0) 29 3 = nI 0 := by
  obtain ⟨⟨c1, c2⟩, ⟨c3, c4⟩, ⟨c5, c6⟩, c7, c8, c9⟩ := hE
  obtain ⟨b1, b2, ⟨b3, b4⟩, b5, b6, b7⟩ := h
  obtain ⟨F3, hF3⟩ : ∃ F3, F3 = u2 (u2 F1 29 3 0) 0 5 0 := ⟨_, rfl⟩
  rw [← hF3]
  have y1 : ∀ x y, ¬ x = 0 → ¬ x = 29 → F3 x y = F1 x y := fun x y a b => by rw [hF3, u2_ne a, u2_ne b]
  have y5 : F3 0 5 = 0 := by rw [hF3, u2_eq]
  have y29 : F3 29 3 = nI 0 := by rw [hF3, u2_ne (by decide), u2_eq]; rfl
  have x42 : L1 42 = L 42 := c2 42 (by decide) (by decide)
  have ink : ∀ o, o < 2 → ∃ A, A < 100 ∧ (L1 3).getD o 0 = nI A ∧ (L1 42).getD (1 + o) 0 = nI A := fun o ho => by
    obtain ⟨A, hA, a0, a1, a2⟩ := hi o ho
    refine ⟨A, hA, ?_, by rw [x42]; exact a0⟩
    rw [c4 o ho]
    show 10 * dv ((L 35).getD (0 + (1 + 2 * o)) 0) + dv ((L 35).getD (0 + (2 + 2 * o)) 0) = nI A
    rw [Nat.zero_add, Nat.zero_add, a1, a2, dv_nI (by omega), dv_nI (by omega)]
    show nI 10 * nI (A / 10) + nI (A % 10) = nI A
    rw [nI_mul, nI_add, Nat.div_add_mod]
  have rul : ∀ i, i < 12 → ∃ V, V < 4 ∧ (L1 5).getD i 0 = nI V ∧ (L1 42).getD (4 + i) 0 = nI V := fun i hi12 => by
    obtain ⟨V, hV, v1, v2⟩ := hr i hi12
    refine ⟨V, hV, ?_, by rw [x42]; exact v1⟩
    rw [c6 i hi12]
    show dv ((L 35).getD (0 + (5 + i)) 0) = nI V
    rw [Nat.zero_add, v2, dv_nI (by omega)]
  have per : ∀ p, p < n → ∃ x, x < 320 ∧ x % 4 < 3 ∧ (L1 42).getD (16 + p) 0 = nI x ∧ F3 (9 + p) 0 = nI (x % 4) ∧ F3 (9 + p) 1 = nI (x / 4 % 2) ∧ F3 (9 + p) 2 = nI (x / 8 % 4) ∧ F3 (9 + p) 3 = nI (x / 32) := fun p hpn => by
    obtain ⟨x, x1, x2, x3, s0, s1, s2, s3, s4⟩ := hp p hpn
    obtain ⟨d0, d1, d2, d3⟩ := c8 p hpn
    have z : ∀ y, F3 (9 + p) y = F1 (9 + p) y := fun y => y1 _ _ (by omega) (by omega)
    refine ⟨x, x1, x2, by rw [x42]; exact x3, ?_, ?_, ?_, ?_⟩
    · rw [z, d0]
      show kd ((L 35).getD (0 + (17 + 5 * p + 1)) 0) = _
      rw [Nat.zero_add, s1, kd_ltr x2]
    · rw [z, d1]
      show dv ((L 35).getD (0 + (17 + 5 * p + 2)) 0) = _
      rw [Nat.zero_add, s2, dv_nI (by omega)]
    · rw [z, d2]
      show dv ((L 35).getD (0 + (17 + 5 * p + 3)) 0) = _
      rw [Nat.zero_add, s3, dv_nI (by omega)]
    · rw [z, d3]
      show dv ((L 35).getD (0 + (17 + 5 * p + 4)) 0) = _
      rw [Nat.zero_add, s4, dv_nI (by omega)]
  have hpv : ∀ p, p < 6 → pv (F3 (9 + p)) := fun p hp6 => by
    by_cases e : p < n
    · obtain ⟨x, x1, x2, x3, k0, k1, k2, k3⟩ := per p e
      show (0 ≤ (F3 (9 + p) 0).toInt ∧ (F3 (9 + p) 0).toInt ≤ 2) ∧ (0 ≤ (F3 (9 + p) 1).toInt ∧ (F3 (9 + p) 1).toInt ≤ 1) ∧ (0 ≤ (F3 (9 + p) 2).toInt ∧ (F3 (9 + p) 2).toInt ≤ 3) ∧ (0 ≤ (F3 (9 + p) 3).toInt ∧ (F3 (9 + p) 3).toInt ≤ 9)
      rw [k0, k1, k2, k3, nI_toInt (by omega), nI_toInt (by omega), nI_toInt (by omega), nI_toInt (by omega)]
      omega
    · have : F3 (9 + p) = f (9 + p) := funext fun y => by rw [y1 _ _ (by omega) (by omega), c9 p y (by omega) hp6, u2_ne (by omega), b1 _ _ (by omega)]
      rw [this]
      exact hIv.at hp6
  have lx : ∀ x, ¬ x = 3 → ¬ x = 5 → ¬ x = 35 → ¬ x = 42 → L1 x = l x := fun x a b c d => by rw [c2 x a b, b2 x c d]
  refine ⟨⟨⟨⟨by rw [y1 2 3 (by decide) (by decide)]; exact c7, hn2, hn⟩, ⟨c3, c5, by rw [lx 6 (by decide) (by decide) (by decide) (by decide)]; exact hl.1, by rw [lx 7 (by decide) (by decide) (by decide) (by decide)]; exact hl.2.1, by rw [lx 30 (by decide) (by decide) (by decide) (by decide)]; exact hl.2.2.1, by rw [lx 31 (by decide) (by decide) (by decide) (by decide)]; exact hl.2.2.2⟩, ⟨fun i hi12 => ?_, fun o ho => ?_⟩, ⟨hpv 0 (by decide), hpv 1 (by decide), hpv 2 (by decide), hpv 3 (by decide), hpv 4 (by decide), hpv 5 (by decide)⟩⟩, ⟨by rw [x42]; exact b4, by rw [x42]; exact b5, ?_, ?_, by rw [x42, b6, y5]⟩, fun i hi12 => ?_, fun p hpn => ?_⟩, y29⟩
  · obtain ⟨V, hV, v1, v2⟩ := rul i hi12
    rw [v1, nI_toInt (by omega)]
    omega
  · obtain ⟨A, hA, a1, a2⟩ := ink o ho
    rw [a1, nI_toInt (by omega)]
    omega
  · obtain ⟨A, hA, a1, a2⟩ := ink 0 (by decide)
    rw [a1]; exact a2
  · obtain ⟨A, hA, a1, a2⟩ := ink 1 (by decide)
    rw [a1]; exact a2
  · obtain ⟨V, hV, v1, v2⟩ := rul i hi12
    rw [v1, v2]
  · obtain ⟨x, x1, x2, x3, k0, k1, k2, k3⟩ := per p hpn
    have ep : px L1 p = x := by unfold px; rw [x3, nI_clamp (by omega)]
    rw [ep]
    exact ⟨⟨x3, x1, x2⟩, k0, k1, k2, k3⟩
