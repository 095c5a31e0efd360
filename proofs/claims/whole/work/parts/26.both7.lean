/-! method by method: the class's answer is the reference's (7) -/
section B7
variable {scr : Option (List Int32)} {P : ba_P} {w : ba_W} {f : Nat → Nat → Int32} {l : Nat → List Int32} {q : Nat → List Int64}
theorem n10 : ¬ (1 : Int32).toInt = 0 := by rw [show (1 : Int32).toInt = 1 from rfl]; omega
theorem n20 : ¬ (2 : Int32).toInt = 0 := by rw [show (2 : Int32).toInt = 2 from rfl]; omega
theorem n21 : ¬ (2 : Int32).toInt = 1 := by rw [show (2 : Int32).toInt = 2 from rfl]; omega
theorem y00 : (0 : Int32).toInt = 0 := rfl
theorem y11 : (1 : Int32).toInt = 1 := rfl
theorem s_leaves2 {v : Int32} (t : Int32) (ht : 31 * f 33 0 + v = t) (hP : P none (wW (u2 f 33 0 t) l q)) : ba_go scr ix_X0_leaves 0 [some (.ref 34), some (.int v)] [] (wW f l q) 0 0 P := by
  subst ht
  exact s_leaves hP
theorem r_traced2 {v : Int32} (t : Int32) (ht : 31 * f 42 29 + v = t) (hP : P none (wW (u2 f 42 29 t) l q)) : ba_go scr ix_X9_traced 0 [some (.ref 43), some (.int v)] [] (wW f l q) 0 0 P := by
  subst ht
  exact r_traced hP
theorem s_plain {a : Nat} {n : Int32} (ha : ∀ f' : Nat → Nat → Int32, (∀ b, ¬ b = 33 → f' b = f b) → ba_fld (wW f' l q) (a + 1) 2 3 = some (.int n)) (t : Int32) (ht : 31 * f 33 0 + 1 = t) (hP : P (some (.int n)) (wW (u2 f 33 0 t) l q)) : ba_go scr ix_X0_plainTelling 0 [some (.ref 34), some (.ref (a + 1))] [] (wW f l q) 0 0 P := by
  refine run_X0_plainTelling 30 ?_
  repeat (first | refine And.intro (fun e => absurd e (by decide)) (fun e => ?_) | refine And.intro (fun e => ?_) (fun e => absurd e (by decide)) | refine Exists.intro _ (And.intro rfl ?_) | refine And.intro rfl ?_)
  refine s_leaves2 t ht ?_
  refine Exists.intro _ (And.intro (ha _ (fun b hb => by funext j; exact u2_ne hb)) ?_)
  exact hP
theorem lsw2 {x : Int} {k : Nat → Prop} {d t u : Nat} {a b : Int} (h1 : x = a → k t) (h2 : ¬ x = a → x = b → k u) (h3 : ¬ x = a → ¬ x = b → k d) : ba_lsw x k d [(a, t), (b, u)] := ⟨h1, fun e => ⟨h2 e, h3 e⟩⟩
theorem s_telling {a : Nat} {k o m n : Int32} (h : (wW f l q)[a]? = some (.inr (2, [.int k, .int o, .int m, .int n]))) (h0 : k.toInt = 0 → ∀ Q : ba_P, (∀ r w, P (some (.int r)) w → Q (some (.int r)) w) → ba_go scr ix_X0_plainTelling 0 [some (.ref 34), some (.ref (a + 1))] [] (wW f l q) 0 0 Q) (h1 : k.toInt = 1 → ∀ Q : ba_P, (∀ r w, P (some (.int r)) w → Q (some (.int r)) w) → ba_go scr ix_X0_clerkTelling 0 [some (.ref 34), some (.ref (a + 1))] [] (wW f l q) 0 0 Q)
    (h2 : ¬ k.toInt = 0 → ¬ k.toInt = 1 → ∀ Q : ba_P, (∀ r w, P (some (.int r)) w → Q (some (.int r)) w) → ba_go scr ix_X0_generalTelling 0 [some (.ref 34), some (.ref (a + 1))] [] (wW f l q) 0 0 Q) : ba_go scr ix_X0_telling 0 [some (.ref 34), some (.ref (a + 1))] [] (wW f l q) 0 0 P := by
  refine run_X0_telling 30 ?_
  refine Exists.intro _ (And.intro (fld_of h rfl) ?_)
  refine (show ba_lsw k.toInt (fun t => ba_wp (ba_go scr) none mo_X0_telling mo_X0_telling_r 27 ix_X0_telling t [some (.ref 34), some (.ref (a + 1))] [] (wW f l q) 0 0 P) 44 [(0, 32), (1, 38)] from ?_)
  refine lsw2 (fun e => ?_) (fun e e0 => ?_) (fun e e0 => ?_)
  · repeat (first | refine And.intro (fun e => absurd e (by decide)) (fun e => ?_) | refine And.intro (fun e => ?_) (fun e => absurd e (by decide)) | refine Exists.intro _ (And.intro rfl ?_) | refine And.intro rfl ?_)
    exact h0 e _ (fun r w hp => hp)
  · repeat (first | refine And.intro (fun e => absurd e (by decide)) (fun e => ?_) | refine And.intro (fun e => ?_) (fun e => absurd e (by decide)) | refine Exists.intro _ (And.intro rfl ?_) | refine And.intro rfl ?_)
    exact h1 e0 _ (fun r w hp => hp)
  · repeat (first | refine And.intro (fun e => absurd e (by decide)) (fun e => ?_) | refine And.intro (fun e => ?_) (fun e => absurd e (by decide)) | refine Exists.intro _ (And.intro rfl ?_) | refine And.intro rfl ?_)
    exact h2 e e0 _ (fun r w hp => hp)
theorem both_tell {p : Int32} (hI : Inv f l q) : both scr ix_X8_tell ix_X9_tell [some (.ref 1), some (.int p), none] [some (.ref 43), some (.int p), none, none] f l q := by
  intro P hP
  obtain ⟨⟨⟨hn1, hn2, hn3⟩, hL, hE, hR⟩, hPp, hD, hM, hS⟩ := id hI
  obtain ⟨-, m5, m6, m7, m8⟩ := plens hI
  refine run_X8_tell 60 ?_
  repeat (first | refine And.intro (fun e => absurd e (by decide)) (fun e => ?_) | refine And.intro (fun e => ?_) (fun e => absurd e (by decide)) | refine Exists.intro _ (And.intro rfl ?_) | refine And.intro rfl ?_)
  refine s_personOf (b := 2) (Or.inl rfl) hn2 (fun c d => ?_) (fun c => ?_)
  · obtain ⟨⟨k1, k2, k3⟩, k4, k5, k6, k7⟩ := pfacts hI c d
    have hat := people_at (f := f) (l := l) (q := q) k1
    have hn : ∀ f1 : Nat → Nat → Int32, f1 (9 + p.toNatClampNeg) = f (9 + p.toNatClampNeg) → ∀ f' : Nat → Nat → Int32, (∀ b, ¬ b = 33 → f' b = f1 b) → ba_fld (wW f' l q) (9 + p.toNatClampNeg + 1) 2 3 = some (.int (f (9 + p.toNatClampNeg) 3)) := by
      intro f1 h1 f' hf
      have e := hf (9 + p.toNatClampNeg) (by omega)
      rw [← h1, ← e]
      exact fld_of (people_at k1) rfl
    have un : ∀ (f1 : Nat → Nat → Int32) (v : Int32), (u2 f1 33 0 v) (9 + p.toNatClampNeg) = f1 (9 + p.toNatClampNeg) := fun f1 v => by funext j; exact u2_ne (by omega)
    -- the reference, by kind
    have start : ∀ (t : Int32) (P2 : ba_P), ba_wp (ba_go scr) none mo_X9_tell mo_X9_tell_r 60 ix_X9_tell 10 [some (.ref 43), some (.int p), none, none] [] (wW (u2 f 33 0 t) l q) 0 0 P2 → ba_go scr ix_X9_tell 0 [some (.ref 43), some (.int p), none, none] [] (wW (u2 f 33 0 t) l q) 0 0 P2 := by
      intro t P2 h
      refine run_X9_tell 64 ?_
      repeat (first | refine And.intro (fun e => absurd e (by decide)) (fun e => ?_) | refine And.intro (fun e => ?_) (fun e => absurd e (by decide)) | refine Exists.intro _ (And.intro rfl ?_) | refine And.intro rfl ?_)
      refine r_noPerson (f := u2 f 33 0 t) (by show 0 ≤ (f 42 1).toInt; rw [hn3]; exact hn1) (fun g1 g2 => ?_) (fun g1 => absurd ⟨c, by show _ < (f 42 1).toInt; rw [hn3]; exact d⟩ g1)
      first | refine And.intro (fun e => absurd e (by decide)) (fun e => ?_) | refine And.intro (fun e => ?_) (fun e => absurd e (by decide))
      exact h
    have fin : ∀ (t y : Int32) (P2 : ba_P) (r : Int32), (∀ f2 l2 q2, Inv f2 l2 q2 → P2 (some (.int r)) (wW f2 l2 q2)) → y = t → P2 (some (.int r)) (wW (u2 (u2 f 33 0 t) 42 29 y) l q) := by
      intro t y P2 r h2 hy
      subst hy
      exact h2 _ _ _ (inv_trace hI)
    have tt : ∀ t : Int32, (u2 f 33 0 t) 42 29 = f 33 0 := fun t => hM.2.2
    have uu : ∀ (f1 : Nat → Nat → Int32) (x y : Int32), u2 (u2 f1 33 0 x) 33 0 y = u2 f1 33 0 y := fun f1 x y => by
      funext a b
      unfold u2
      cases Nat.beq a 33 <;> cases Nat.beq b 0 <;> rfl
    have uv : ∀ (f1 : Nat → Nat → Int32) (x y : Int32), u2 (u2 f1 42 29 x) 42 29 y = u2 f1 42 29 y := fun f1 x y => by
      funext a b
      unfold u2
      cases Nat.beq a 42 <;> cases Nat.beq b 29 <;> rfl
    repeat (first | refine And.intro (fun e => absurd e (by decide)) (fun e => ?_) | refine And.intro (fun e => ?_) (fun e => absurd e (by decide)) | refine Exists.intro _ (And.intro rfl ?_) | refine And.intro rfl ?_)
    refine s_telling hat (fun e Q hQ => ?_) (fun e Q hQ => ?_) (fun e0 e Q hQ => ?_)
    · have hk0 : f (9 + p.toNatClampNeg) 0 = 0 := by rw [eq_i]; exact e
      have k4' := k4.trans hk0
      obtain ⟨t1, h1⟩ : ∃ t, 31 * f 33 0 + 1 = t := ⟨_, rfl⟩
      repeat (first | refine And.intro (fun e => absurd e (by decide)) (fun e => ?_) | refine And.intro (fun e => ?_) (fun e => absurd e (by decide)) | refine Exists.intro _ (And.intro rfl ?_) | refine And.intro rfl ?_)
      refine s_plain (hn f rfl) t1 h1 ?_
      refine hQ _ _ (hP _ _ _ _ (fun P2 h2 => start _ P2 ?_))
      repeat (first | refine And.intro (fun e => absurd e (by decide)) (fun e => ?_) | refine And.intro (fun e => ?_) (fun e => absurd e (by decide)) | refine Exists.intro _ (And.intro rfl ?_) | refine And.intro rfl ?_)
      refine Exists.intro _ (And.intro (ldI_of rfl c (by rw [m5]; exact k2)) ?_)
      rw [k4']
      repeat (first | refine And.intro (fun e => absurd e (by decide)) (fun e => ?_) | refine And.intro (fun e => ?_) (fun e => absurd e (by decide)) | refine Exists.intro _ (And.intro rfl ?_) | refine And.intro rfl ?_)
      refine r_traced2 (f := u2 f 33 0 t1) t1 (by rw [tt]; exact h1) ?_
      repeat (first | refine And.intro (fun e => absurd e (by decide)) (fun e => ?_) | refine And.intro (fun e => ?_) (fun e => absurd e (by decide)) | refine Exists.intro _ (And.intro rfl ?_) | refine And.intro rfl ?_)
      refine Exists.intro _ (And.intro (ldI_of rfl c (by rw [m8]; exact k2)) ?_)
      rw [k7]
      repeat (first | refine And.intro (fun e => absurd e (by decide)) (fun e => ?_) | refine And.intro (fun e => ?_) (fun e => absurd e (by decide)) | refine Exists.intro _ (And.intro rfl ?_) | refine And.intro rfl ?_)
      exact fin _ _ P2 _ h2 rfl
    · have hk0 : f (9 + p.toNatClampNeg) 0 = 1 := by rw [eq_i]; exact e
      have k4' := k4.trans hk0
      obtain ⟨t1, h1⟩ : ∃ t, 31 * f 33 0 + 2 = t := ⟨_, rfl⟩
      obtain ⟨t2, g2⟩ : ∃ t, 31 * t1 + 1 = t := ⟨_, rfl⟩
      repeat (first | refine And.intro (fun e => absurd e (by decide)) (fun e => ?_) | refine And.intro (fun e => ?_) (fun e => absurd e (by decide)) | refine Exists.intro _ (And.intro rfl ?_) | refine And.intro rfl ?_)
      refine run_X0_clerkTelling 30 ?_
      repeat (first | refine And.intro (fun e => absurd e (by decide)) (fun e => ?_) | refine And.intro (fun e => ?_) (fun e => absurd e (by decide)) | refine Exists.intro _ (And.intro rfl ?_) | refine And.intro rfl ?_)
      refine s_leaves2 t1 h1 ?_
      repeat (first | refine And.intro (fun e => absurd e (by decide)) (fun e => ?_) | refine And.intro (fun e => ?_) (fun e => absurd e (by decide)) | refine Exists.intro _ (And.intro rfl ?_) | refine And.intro rfl ?_)
      refine s_plain (hn _ (un _ _)) t2 g2 ?_
      repeat (first | refine And.intro (fun e => absurd e (by decide)) (fun e => ?_) | refine And.intro (fun e => ?_) (fun e => absurd e (by decide)) | refine Exists.intro _ (And.intro rfl ?_) | refine And.intro rfl ?_)
      rw [uu]
      refine hQ _ _ (hP _ _ _ _ (fun P2 h2 => start _ P2 ?_))
      repeat (first | refine And.intro (fun e => absurd e (by decide)) (fun e => ?_) | refine And.intro (fun e => ?_) (fun e => absurd e (by decide)) | refine Exists.intro _ (And.intro rfl ?_) | refine And.intro rfl ?_)
      refine Exists.intro _ (And.intro (ldI_of rfl c (by rw [m5]; exact k2)) ?_)
      rw [k4']
      repeat (first | refine And.intro (fun e => absurd e (by decide)) (fun e => ?_) | refine And.intro (fun e => ?_) (fun e => absurd e (by decide)) | refine Exists.intro _ (And.intro rfl ?_) | refine And.intro rfl ?_)
      refine r_traced2 (f := u2 f 33 0 t2) t1 (by rw [tt]; exact h1) ?_
      repeat (first | refine And.intro (fun e => absurd e (by decide)) (fun e => ?_) | refine And.intro (fun e => ?_) (fun e => absurd e (by decide)) | refine Exists.intro _ (And.intro rfl ?_) | refine And.intro rfl ?_)
      refine r_traced2 (f := u2 (u2 f 33 0 t2) 42 29 t1) t2 g2 ?_
      rw [uv]
      repeat (first | refine And.intro (fun e => absurd e (by decide)) (fun e => ?_) | refine And.intro (fun e => ?_) (fun e => absurd e (by decide)) | refine Exists.intro _ (And.intro rfl ?_) | refine And.intro rfl ?_)
      refine Exists.intro _ (And.intro (ldI_of rfl c (by rw [m8]; exact k2)) ?_)
      rw [k7]
      repeat (first | refine And.intro (fun e => absurd e (by decide)) (fun e => ?_) | refine And.intro (fun e => ?_) (fun e => absurd e (by decide)) | refine Exists.intro _ (And.intro rfl ?_) | refine And.intro rfl ?_)
      exact fin _ _ P2 _ h2 rfl
    · have hk0 : f (9 + p.toNatClampNeg) 0 = 2 := by
        rcases three k3.1.1 k3.1.2 with hk | hk | hk
        · exact absurd (by rw [hk]; rfl) e0
        · exact absurd (by rw [hk]; rfl) e
        · exact hk
      have k4' := k4.trans hk0
      obtain ⟨t1, h1⟩ : ∃ t, 31 * f 33 0 + 3 = t := ⟨_, rfl⟩
      obtain ⟨t2, g2⟩ : ∃ t, 31 * t1 + 2 = t := ⟨_, rfl⟩
      obtain ⟨t3, g3⟩ : ∃ t, 31 * t2 + 1 = t := ⟨_, rfl⟩
      obtain ⟨t4, g4⟩ : ∃ t, 31 * t3 + 1 = t := ⟨_, rfl⟩
      repeat (first | refine And.intro (fun e => absurd e (by decide)) (fun e => ?_) | refine And.intro (fun e => ?_) (fun e => absurd e (by decide)) | refine Exists.intro _ (And.intro rfl ?_) | refine And.intro rfl ?_)
      refine run_X0_generalTelling 30 ?_
      repeat (first | refine And.intro (fun e => absurd e (by decide)) (fun e => ?_) | refine And.intro (fun e => ?_) (fun e => absurd e (by decide)) | refine Exists.intro _ (And.intro rfl ?_) | refine And.intro rfl ?_)
      refine s_leaves2 t1 h1 ?_
      repeat (first | refine And.intro (fun e => absurd e (by decide)) (fun e => ?_) | refine And.intro (fun e => ?_) (fun e => absurd e (by decide)) | refine Exists.intro _ (And.intro rfl ?_) | refine And.intro rfl ?_)
      refine run_X0_clerkTelling 30 ?_
      repeat (first | refine And.intro (fun e => absurd e (by decide)) (fun e => ?_) | refine And.intro (fun e => ?_) (fun e => absurd e (by decide)) | refine Exists.intro _ (And.intro rfl ?_) | refine And.intro rfl ?_)
      refine s_leaves2 (f := u2 f 33 0 t1) t2 g2 ?_
      rw [uu]
      repeat (first | refine And.intro (fun e => absurd e (by decide)) (fun e => ?_) | refine And.intro (fun e => ?_) (fun e => absurd e (by decide)) | refine Exists.intro _ (And.intro rfl ?_) | refine And.intro rfl ?_)
      refine s_plain (hn _ (un _ _)) t3 g3 ?_
      rw [uu]
      repeat (first | refine And.intro (fun e => absurd e (by decide)) (fun e => ?_) | refine And.intro (fun e => ?_) (fun e => absurd e (by decide)) | refine Exists.intro _ (And.intro rfl ?_) | refine And.intro rfl ?_)
      refine s_plain (hn _ (un _ _)) t4 g4 ?_
      rw [uu]
      repeat (first | refine And.intro (fun e => absurd e (by decide)) (fun e => ?_) | refine And.intro (fun e => ?_) (fun e => absurd e (by decide)) | refine Exists.intro _ (And.intro rfl ?_) | refine And.intro rfl ?_)
      have e2 : (f (9 + p.toNatClampNeg) 3 + 100) + f (9 + p.toNatClampNeg) 3 = 2 * f (9 + p.toNatClampNeg) 3 + 100 := by
        generalize f (9 + p.toNatClampNeg) 3 = n
        have e : (2 : Int32) * n = n + n := by rw [show (2 : Int32) = 1 + 1 from rfl, Int32.add_mul, Int32.one_mul]
        rw [e, Int32.add_assoc, Int32.add_comm 100 n, ← Int32.add_assoc]
      obtain ⟨r, hr⟩ : ∃ r, (f (9 + p.toNatClampNeg) 3 + 100) + f (9 + p.toNatClampNeg) 3 = r := ⟨_, rfl⟩
      have hPr : ∀ x : Int32, x = r → Q (some (.int x)) (wW (u2 f 33 0 t4) l q) := by
        intro x hx
        subst hx
        refine hQ _ _ (hP _ _ _ _ (fun P2 h2 => start _ P2 ?_))
        repeat (first | refine And.intro (fun e => absurd e (by decide)) (fun e => ?_) | refine And.intro (fun e => ?_) (fun e => absurd e (by decide)) | refine Exists.intro _ (And.intro rfl ?_) | refine And.intro rfl ?_)
        refine Exists.intro _ (And.intro (ldI_of rfl c (by rw [m5]; exact k2)) ?_)
        rw [k4']
        repeat (first | refine And.intro (fun e => absurd e (by decide)) (fun e => ?_) | refine And.intro (fun e => ?_) (fun e => absurd e (by decide)) | refine Exists.intro _ (And.intro rfl ?_) | refine And.intro rfl ?_)
        refine r_traced2 (f := u2 f 33 0 t4) t1 (by rw [tt]; exact h1) ?_
        repeat (first | refine And.intro (fun e => absurd e (by decide)) (fun e => ?_) | refine And.intro (fun e => ?_) (fun e => absurd e (by decide)) | refine Exists.intro _ (And.intro rfl ?_) | refine And.intro rfl ?_)
        refine r_traced2 (f := u2 (u2 f 33 0 t4) 42 29 t1) t2 g2 ?_
        rw [uv]
        repeat (first | refine And.intro (fun e => absurd e (by decide)) (fun e => ?_) | refine And.intro (fun e => ?_) (fun e => absurd e (by decide)) | refine Exists.intro _ (And.intro rfl ?_) | refine And.intro rfl ?_)
        refine r_traced2 (f := u2 (u2 f 33 0 t4) 42 29 t2) t3 g3 ?_
        rw [uv]
        repeat (first | refine And.intro (fun e => absurd e (by decide)) (fun e => ?_) | refine And.intro (fun e => ?_) (fun e => absurd e (by decide)) | refine Exists.intro _ (And.intro rfl ?_) | refine And.intro rfl ?_)
        refine r_traced2 (f := u2 (u2 f 33 0 t4) 42 29 t3) t4 g4 ?_
        rw [uv]
        repeat (first | refine And.intro (fun e => absurd e (by decide)) (fun e => ?_) | refine And.intro (fun e => ?_) (fun e => absurd e (by decide)) | refine Exists.intro _ (And.intro rfl ?_) | refine And.intro rfl ?_)
        refine Exists.intro _ (And.intro (ldI_of rfl c (by rw [m8]; exact k2)) ?_)
        rw [k7]
        repeat (first | refine And.intro (fun e => absurd e (by decide)) (fun e => ?_) | refine And.intro (fun e => ?_) (fun e => absurd e (by decide)) | refine Exists.intro _ (And.intro rfl ?_) | refine And.intro rfl ?_)
        have h5 := fin t4 t4 P2 _ h2 rfl
        rw [← hr, e2] at h5
        exact h5
      exact hPr _ hr
  · repeat (first | refine And.intro (fun e => absurd e (by decide)) (fun e => ?_) | refine And.intro (fun e => ?_) (fun e => absurd e (by decide)) | refine Exists.intro _ (And.intro rfl ?_) | refine And.intro rfl ?_)
    refine hP _ f l q (fun P2 h2 => ?_)
    refine run_X9_tell 60 ?_
    repeat (first | refine And.intro (fun e => absurd e (by decide)) (fun e => ?_) | refine And.intro (fun e => ?_) (fun e => absurd e (by decide)) | refine Exists.intro _ (And.intro rfl ?_) | refine And.intro rfl ?_)
    refine r_noPerson (by rw [hn3]; exact hn1) (fun g1 g2 => absurd ⟨g1, by rw [← hn3]; exact g2⟩ c) (fun g1 => ?_)
    repeat (first | refine And.intro (fun e => absurd e (by decide)) (fun e => ?_) | refine And.intro (fun e => ?_) (fun e => absurd e (by decide)) | refine Exists.intro _ (And.intro rfl ?_) | refine And.intro rfl ?_)
    exact h2 f l q hI
end B7
