/-! the law: a rule, a neck, strikes, a washing, ink, by cells -/
theorem g_ne {L : List Int32} {i j : Nat} {v : Int32} (h : ¬ i = j) : (L.set i v).getD j 0 = L.getD j 0 := by rw [getD_set, if_neg (fun e => h e.1)]
theorem g_eq {L : List Int32} {i : Nat} {v : Int32} (h : i < L.length) : (L.set i v).getD i 0 = v := by rw [getD_set, if_pos ⟨rfl, h⟩]
section LJ
variable {scr : Option (List Int32)} {P : ba_P} {w : ba_W} {f : Nat → Nat → Int32} {l : Nat → List Int32} {q : List (List Int32)}
variable {n : Nat} {g : Int32}
abbrev GL (g : Int32) (t : List (Option Value)) : ba_L := some (.ref 1) :: some (.ref 43) :: some (.int g) :: t
theorem SS.inkE (h : SS f l n) {j : Nat} (hj : j < 2) : (l 42).getD (1 + j) 0 = (l 3).getD j 0 := by
  match j, hj with
  | 0, _ => exact h.2.1.2.2.1
  | 1, _ => exact h.2.1.2.2.2.1
theorem SS.inkB (h : SS f l n) {j : Nat} (hj : j < 2) : 0 ≤ ((l 3).getD j 0).toInt ∧ ((l 3).getD j 0).toInt ≤ 99 := h.1.2.2.1.2 j hj
theorem SS.ruleV (h : SS f l n) {i : Nat} (hi : i < 12) : ∃ V, V < 4 ∧ (l 5).getD i 0 = nI V := by
  have h1 := h.1.2.2.1.1 i hi
  obtain ⟨V, hV, hV2⟩ := nI_ex h1.1
  exact ⟨V, by omega, hV⟩
/-- a rule and a neck are told anew -/
theorem g_rule (hS : SS f l n)
    (K : ∀ F L, SS F L n → F 29 3 = f 29 3 → ba_go scr ix_L_goOn 145 (GL g [none, none, none, none, some (.int 1), none, none, none, none, none]) [] (wW F L q) 0 0 P) :
    ba_go scr ix_L_goOn 0 (GL g [none, none, none, none, none, none, none, none, none, none]) [] (wW f l q) 0 0 P := by
  have hn6 := hS.n6
  have h22 := hS.2.1.1
  have w0 := hS.2.1.2.1
  have l5 := hS.1.2.1.2.1
  have e0 := ldW (f := f) (q := q) h22 (i := 0) (by decide) (x := Int32.ofInt 0) rfl
  rw [w0] at e0
  refine run_L_goOn 3 ?_
  refine And.intro rfl (s_Llow (m := 12) rfl (by decide) (by decide) (fun at_ hat => ?_))
  have eat := ldW (f := f) (q := q) h22 (i := 4 + at_) (by omega) (nI_add 4 at_)
  rw [hS.2.2.1 at_ hat] at eat
  -- behind rule, whom, neck
  have last : ∀ V k U : Nat, V < 4 → k < n → U < 10 → ba_go scr ix_L_goOn 70 (GL g [some (.int (nI at_)), some (.int (nI V)), some (.int (nI k)), none, none, none, none, none, none, none]) [.int (nI U)] (wW f l q) 0 0 P := by
    intro V k U hV hk hU
    obtain ⟨⟨h1, h2, h3⟩, b0, b1, b2, b3⟩ := hS.2.2.2 k hk
    have ea : 3 * (at_ / 3) + at_ % 3 = at_ := Nat.div_add_mod at_ 3
    obtain ⟨L1, hL1⟩ : ∃ L1, L1 = u1 l 5 ((l 5).set at_ (nI V)) := ⟨_, rfl⟩
    have x42 : L1 42 = l 42 := by rw [hL1]; exact u1_ne (by decide)
    have x5 : L1 5 = (l 5).set at_ (nI V) := by rw [hL1]; exact u1_eq
    have x3 : L1 3 = l 3 := by rw [hL1]; exact u1_ne (by decide)
    have x6 : L1 6 = l 6 := by rw [hL1]; exact u1_ne (by decide)
    have x7 : L1 7 = l 7 := by rw [hL1]; exact u1_ne (by decide)
    have x30 : L1 30 = l 30 := by rw [hL1]; exact u1_ne (by decide)
    have x31 : L1 31 = l 31 := by rw [hL1]; exact u1_ne (by decide)
    have hr5 : rv (L1 5) := by rw [x5]; exact rv_set (by rw [nI_toInt (by omega)]; omega) (by rw [nI_toInt (by omega)]; omega) hS.1.2.2.1.1
    have hJ1 : J f L1 n := ⟨hS.1.1, ⟨by rw [x3]; exact hS.1.2.1.1, by rw [x5, List.length_set]; exact l5, by rw [x6]; exact hS.1.2.1.2.2.1, by rw [x7]; exact hS.1.2.1.2.2.2.1, by rw [x30]; exact hS.1.2.1.2.2.2.2.1, by rw [x31]; exact hS.1.2.1.2.2.2.2.2⟩, ⟨hr5, by rw [x3]; exact hS.1.2.2.1.2⟩, hS.1.2.2.2⟩
    have ed : nI at_ / Int32.ofInt 3 = nI (at_ / 3) := nI_div (b := 3) (by omega) (by decide)
    have em : nI at_ - nI at_ / Int32.ofInt 3 * Int32.ofInt 3 = nI (at_ % 3) := nI_mod (b := 3) (by omega) (by decide)
    refine run_L_goOn 10 ?_
    refine And.intro (by decide) ?_
    refine And.intro (by decide) ?_
    refine And.intro rfl (c_decree (A := at_ / 3) (B := at_ % 3) hS.1 ed em rfl (by omega) (by omega) hV ?_)
    rw [ea, ← hL1]
    have eat1 := ldW (f := f) (l := L1) (q := q) (by rw [x42]; exact h22) (i := 4 + at_) (by omega) (nI_add 4 at_)
    rw [x42, hS.2.2.1 at_ hat] at eat1
    refine run_L_goOn 10 ?_
    refine Exists.intro _ (And.intro (eat1 _) ?_)
    refine And.intro (fun e2 => absurd rfl e2) (fun _ => ?_)
    refine And.intro rfl (c_starch (V := U) hJ1 rfl hk rfl (by omega) ?_)
    refine run_L_goOn 3 ?_
    refine And.intro rfl (s_Lneck (l := L1) (by rw [x42]; exact h22) rfl (by omega) (by rw [x42]; exact h1) h2 ?_)
    rw [b3]
    refine run_L_goOn 26 ?_
    refine And.intro (fun e2 => absurd rfl e2) (fun _ => ?_)
    have s1 := stW (f := u2 f (9 + k) 3 (nI U)) (l := L1) (q := q) (by rw [x42]; exact h22) (i := 4 + at_) (v := nI V) (by omega) (nI_add 4 at_)
    refine Exists.intro _ (And.intro (s1) ?_)
    rw [x42]
    obtain ⟨L2, hL2⟩ : ∃ L2, L2 = u1 L1 42 ((l 42).set (4 + at_) (nI V)) := ⟨_, rfl⟩
    rw [← hL2]
    have y42 : L2 42 = (l 42).set (4 + at_) (nI V) := by rw [hL2]; exact u1_eq
    have ek := ldW (f := u2 f (9 + k) 3 (nI U)) (l := L2) (q := q) (by rw [y42, List.length_set]; exact h22) (i := 16 + k) (by omega) (nI_add 16 k)
    rw [y42, g_ne (by omega), h1] at ek
    refine Exists.intro _ (And.intro (ek _) ?_)
    have en := px_sn (u := U) h2 hU
    have s2 := stW (f := u2 f (9 + k) 3 (nI U)) (l := L2) (q := q) (by rw [y42, List.length_set]; exact h22) (i := 16 + k) (v := nI (px l k % 32 + 32 * U)) (by omega) (nI_add 16 k)
    rw [← en] at s2
    refine Exists.intro _ (And.intro (s2) ?_)
    rw [en, y42]
    have z42 : (u1 L2 42 (((l 42).set (4 + at_) (nI V)).set (16 + k) (nI (px l k % 32 + 32 * U)))) 42 = ((l 42).set (4 + at_) (nI V)).set (16 + k) (nI (px l k % 32 + 32 * U)) := u1_eq
    have zz : ∀ x, ¬ x = 42 → (u1 L2 42 (((l 42).set (4 + at_) (nI V)).set (16 + k) (nI (px l k % 32 + 32 * U)))) x = L1 x := fun x hx => by rw [u1_ne hx, hL2, u1_ne hx]
    refine ba_le.weak ?_ (K _ _ (hS.mk1 (k := k) (x := px l k % 32 + 32 * U) hk (by omega) (by omega) (fun a b ha _ => u2_ne ha) ?_ ?_ ?_ ?_ ?_ ?_ ?_ ?_ ?_ ?_ ?_ ?_ ?_ ?_ ?_ ?_ ?_ ?_ ?_ (fun p hp hne => ?_)) (u2_ne (by omega)))
    · repeat (first | exact le_0 | refine le_s ?_ | refine le_n ?_)
    · rw [u2_nj (by decide), b0]; congr 1; omega
    · rw [u2_nj (by decide), b1]; congr 1; omega
    · rw [u2_nj (by decide), b2]; congr 1; omega
    · rw [u2_eq]; congr 1; omega
    · rw [zz 6 (by decide), x6]
    · rw [zz 7 (by decide), x7]
    · rw [zz 30 (by decide), x30]
    · rw [zz 31 (by decide), x31]
    · rw [zz 5 (by decide), x5, List.length_set]; exact l5
    · rw [zz 5 (by decide)]; exact hr5
    · rw [zz 3 (by decide), x3]; exact hS.1.2.1.1
    · rw [zz 3 (by decide), x3]; exact hS.1.2.2.1.2
    · rw [z42, List.length_set, List.length_set]; exact h22
    · rw [z42, g_ne (by omega), g_ne (by omega)]; exact w0
    · rw [z42, g_ne (by omega), g_ne (by omega), zz 3 (by decide), x3]; exact hS.2.1.2.2.1
    · rw [z42, g_ne (by omega), g_ne (by omega), zz 3 (by decide), x3]; exact hS.2.1.2.2.2.1
    · rw [z42, g_ne (by omega), g_ne (by omega), u2_ne (by omega)]; exact hS.2.1.2.2.2.2
    · intro i hi
      rw [z42, g_ne (by omega), zz 5 (by decide), x5]
      by_cases e : at_ = i
      · subst e
        rw [g_eq (by omega), g_eq (by omega)]
      · rw [g_ne (by omega), g_ne e]
        exact hS.2.2.1 i hi
    · rw [z42, g_eq (by rw [List.length_set]; omega)]
    · rw [z42, g_ne (by omega), g_ne (by omega)]
  have who : ∀ V : Nat, V < 4 → ba_go scr ix_L_goOn 29 (GL g [some (.int (nI at_)), none, none, none, none, none, none, none, none, none]) [.int (nI V)] (wW f l q) 0 0 P := by
    intro V hV
    refine run_L_goOn 8 ?_
    refine Exists.intro _ (And.intro (e0 _) ?_)
    refine And.intro rfl (s_Llow (m := n) rfl (by omega) (by omega) (fun k hk => ?_))
    obtain ⟨⟨h1, h2, h3⟩, -⟩ := hS.2.2.2 k hk
    refine run_L_goOn 7 ?_
    refine And.intro (fun _ => ?_) (fun _ => ?_)
    · refine run_L_goOn 5 ?_
      refine And.intro rfl (s_Llow (m := 10) rfl (by decide) (by decide) (fun U hU => ?_))
      exact last V k U hV hk hU
    · refine run_L_goOn 3 ?_
      refine And.intro rfl (s_Lneck h22 rfl (by omega) h1 h2 ?_)
      refine run_L_goOn 1 ?_
      exact last V k (px l k / 32) hV hk (by omega)
  refine run_L_goOn 7 ?_
  refine And.intro (fun _ => ?_) (fun _ => ?_)
  · obtain ⟨V, hV, eV⟩ := and_nI (g >>> ((Int8.ofInt 6).toInt32 &&& 31)) (c := 3) (by decide)
    have t := who V (by omega)
    rw [← eV] at t
    refine run_L_goOn 5 ?_
    exact t
  · obtain ⟨V, hV, eV⟩ := hS.ruleV hat
    have t := who V hV
    rw [← eV] at t
    refine run_L_goOn 6 ?_
    refine Exists.intro _ (And.intro (eat _) ?_)
    exact t
/-- a strike -/
theorem g_strike (hS : SS f l n)
    (K : ∀ F L p, p < n → SS F L n → F 29 3 = f 29 3 → ba_go scr ix_L_goOn 232 (GL g [none, none, none, none, some (.int 1), some (.int (nI p)), none, none, none, none]) [] (wW F L q) 0 0 P) :
    ba_go scr ix_L_goOn 145 (GL g [none, none, none, none, some (.int 1), none, none, none, none, none]) [] (wW f l q) 0 0 P := by
  have hn6 := hS.n6
  have h22 := hS.2.1.1
  have w0 := hS.2.1.2.1
  have e0 := ldW (f := f) (q := q) h22 (i := 0) (by decide) (x := Int32.ofInt 0) rfl
  rw [w0] at e0
  refine run_L_goOn 7 ?_
  refine Exists.intro _ (And.intro (e0 _) ?_)
  refine And.intro rfl (s_Llow (m := n) rfl (by omega) (by omega) (fun p hp => ?_))
  obtain ⟨⟨h1, h2, h3⟩, b0, b1, b2, b3⟩ := hS.2.2.2 p hp
  refine run_L_goOn 6 ?_
  refine And.intro rfl (s_Llow (m := 3) rfl (by decide) (by decide) (fun S hS3 => ?_))
  obtain ⟨x, hx⟩ : ∃ x, x = px l p := ⟨_, rfl⟩
  rw [← hx] at h1 h2 h3 b0 b1 b2 b3
  have ht := ty_lt h2
  have ho : x / 4 % 2 = 0 ∨ x / 4 % 2 = 1 := by omega
  have hm4 : x / 8 % 4 < 4 := Nat.mod_lt _ (by decide)
  have hG : gs (l 5) S (x / 8 % 4) < 4 := gs_lt hS.wr.2.2.1 hm4 hS3
  have eb : (l 42).getD (2 - x / 4 % 2) 0 = (l 3).getD (1 - x / 4 % 2) 0 := by
    rw [← hS.inkE (show 1 - x / 4 % 2 < 2 by omega)]
    congr 1
    omega
  have hib := hS.inkB (show 1 - x / 4 % 2 < 2 by omega)
  have e1o : (1 - f (9 + p) 1).toNatClampNeg = 1 - x / 4 % 2 := by
    rw [b1, show (1 : Int32) - nI (x / 4 % 2) = nI (1 - x / 4 % 2) from nI_sub (a := 1) (by omega) (by decide), nI_clamp (by omega)]
  have etk : tk (f (9 + p) 0) (f (9 + p) 3) = nI (ty x) := by rw [b0, b3, tk_ty h2 h3]
  have e3' : ∀ F : Nat → Nat → Int32, ∀ L : Nat → List Int32, (L 42).length = 22 → ∀ xs, ba_ldI xs (wW F L q) 43 (Int32.ofInt 3) = some ((L 42).getD 3 0) := fun F L hl => ldW hl (i := 3) (by decide) rfl
  refine run_L_goOn 5 ?_
  refine And.intro rfl (s_Ldoes (b := 2 - x / 4 % 2) (ink := ty x) (nm := gs (l 5) S (x / 8 % 4)) hS.wr rfl rfl (by omega) (by omega) h1 h2 (if_neg (by omega)).symm (if_neg (by omega)).symm (if_neg (by omega)).symm (fun hlt => ?_) (fun hge => ?_))
  · -- no ink
    have s3 := stW (f := f) (q := q) h22 (i := 3) (v := (l 42).getD 3 0 + 0) (by decide) (x := Int32.ofInt 3) rfl
    have es : u1 l 42 ((l 42).set 3 ((l 42).getD 3 0 + 0)) = l := by
      rw [show (l 42).getD 3 0 + 0 = (l 42).getD 3 0 from Int32.add_zero _, set_self, u1_self]
    rw [es] at s3
    refine run_L_goOn 7 ?_
    refine Exists.intro _ (And.intro (e3' _ _ h22 _) ?_)
    refine And.intro (fun _ => ?_) (fun e2 => absurd rfl e2)
    refine run_L_goOn 3 ?_
    refine Exists.intro _ (And.intro (s3) ?_)
    refine run_L_goOn 6 ?_
    refine And.intro (fun e2 => absurd e2 (by decide)) (fun _ => ?_)
    refine And.intro rfl (c_strike (S := S) hS.1 rfl hp rfl hS3 (fun _ => ?_) (fun g2 => absurd (by rw [e1o, etk, ← eb, nI_toInt (by omega)]; exact hlt) g2))
    refine run_L_goOn 2 ?_
    refine And.intro (fun _ => ?_) (fun e2 => absurd rfl e2)
    refine run_L_goOn 5 ?_
    refine And.intro (fun e2 => absurd rfl e2) (fun _ => ?_)
    refine ba_le.weak ?_ (K f l p hp hS rfl)
    repeat (first | exact le_0 | refine le_s ?_ | refine le_n ?_)
  · -- struck
    rw [eb] at hge ⊢
    obtain ⟨W1, hW1⟩ : ∃ W1, W1 = ((l 42).set (2 - x / 4 % 2) ((l 3).getD (1 - x / 4 % 2) 0 - nI (ty x))).set (16 + p) (nI (pm x (gs (l 5) S (x / 8 % 4)))) := ⟨_, rfl⟩
    rw [← hW1]
    have lW1 : W1.length = 22 := by rw [hW1, List.length_set, List.length_set]; exact h22
    have w13 : W1.getD 3 0 = f 0 5 := by rw [hW1, g_ne (by omega), g_ne (by omega)]; exact hS.2.1.2.2.2.2
    obtain ⟨L1, hL1⟩ : ∃ L1, L1 = u1 l 42 W1 := ⟨_, rfl⟩
    have x42 : L1 42 = W1 := by rw [hL1]; exact u1_eq
    rw [← hL1]
    have s3 := stW (f := f) (l := L1) (q := q) (by rw [x42]; exact lW1) (i := 3) (v := (L1 42).getD 3 0 + 1) (by decide) (x := Int32.ofInt 3) rfl
    rw [x42, w13] at s3
    have e31 := e3' f L1 (by rw [x42]; exact lW1)
    rw [x42, w13] at e31
    refine run_L_goOn 7 ?_
    refine Exists.intro _ (And.intro (e31 _) ?_)
    refine And.intro (fun e2 => absurd e2 (by decide)) (fun _ => ?_)
    refine run_L_goOn 4 ?_
    refine Exists.intro _ (And.intro (s3) ?_)
    obtain ⟨L2, hL2⟩ : ∃ L2, L2 = u1 L1 42 (W1.set 3 (f 0 5 + 1)) := ⟨_, rfl⟩
    rw [← hL2]
    have y42 : L2 42 = W1.set 3 (f 0 5 + 1) := by rw [hL2]; exact u1_eq
    have yy : ∀ a, ¬ a = 42 → L2 a = l a := fun a ha => by rw [hL2, u1_ne ha, hL1, u1_ne ha]
    have hJ2 : J f L2 n := ⟨hS.1.1, by rw [yy 3 (by decide), yy 5 (by decide), yy 6 (by decide), yy 7 (by decide), yy 30 (by decide), yy 31 (by decide)]; exact hS.1.2.1, by rw [yy 3 (by decide), yy 5 (by decide)]; exact hS.1.2.2.1, hS.1.2.2.2⟩
    refine run_L_goOn 6 ?_
    refine And.intro (fun e2 => absurd e2 (by decide)) (fun _ => ?_)
    have hge2 : ¬ ((l 3).getD (1 - x / 4 % 2) 0).toInt < ty x := hge
    refine And.intro rfl (c_strike (S := S) hJ2 rfl hp rfl hS3 (fun g2 => absurd (by rw [yy 3 (by decide), e1o, etk, nI_toInt (by omega)] at g2; exact g2) hge2) (fun _ => ?_))
    rw [yy 3 (by decide), yy 5 (by decide), e1o, etk, b2, rl_gs hS.wr.2.2.1 hm4 hS3]
    obtain ⟨M, hM⟩ : ∃ M, M = gs (l 5) S (x / 8 % 4) := ⟨_, rfl⟩
    rw [← hM] at hG hW1 ⊢
    obtain ⟨F, hF⟩ : ∃ F, F = u2 (u2 f (9 + p) 2 (nI M)) 0 5 (f 0 5 + 1) := ⟨_, rfl⟩
    rw [← hF]
    obtain ⟨L3, hL3⟩ : ∃ L3, L3 = u1 L2 3 ((l 3).set (1 - x / 4 % 2) ((l 3).getD (1 - x / 4 % 2) 0 - nI (ty x))) := ⟨_, rfl⟩
    rw [← hL3]
    have z42 : L3 42 = W1.set 3 (f 0 5 + 1) := by rw [hL3, u1_ne (by decide)]; exact y42
    have z3 : L3 3 = (l 3).set (1 - x / 4 % 2) ((l 3).getD (1 - x / 4 % 2) 0 - nI (ty x)) := by rw [hL3]; exact u1_eq
    have zz : ∀ a, ¬ a = 42 → ¬ a = 3 → L3 a = l a := fun a ha hb => by rw [hL3, u1_ne hb]; exact yy a ha
    have wx : (L3 42).getD (16 + p) 0 = nI (pm x M) := by rw [z42, g_ne (by omega), hW1, g_eq (by rw [List.length_set]; omega)]
    have hpm : pm x M < 320 ∧ pm x M % 4 = x % 4 ∧ pm x M / 4 % 2 = x / 4 % 2 ∧ pm x M / 8 % 4 = M ∧ pm x M / 32 = x / 32 := by unfold pm; omega
    obtain ⟨m1, m2, m3, m4, m5⟩ := hpm
    have fv : ((l 3).getD (1 - x / 4 % 2) 0 - nI (ty x)).toInt = ((l 3).getD (1 - x / 4 % 2) 0).toInt - ty x := by
      rw [fb_subI (by rw [nI_toInt (by omega)]; omega) (by rw [nI_toInt (by omega)]; omega), nI_toInt (by omega)]
    have l3 := hS.1.2.1.1
    have hSS : SS F L3 n := by
      refine hS.mk1 (k := p) (x := pm x M) hp m1 (by omega) (fun a b ha hb => by rw [hF, u2_ne hb, u2_ne ha]) ?_ ?_ ?_ ?_ ?_ ?_ ?_ ?_ ?_ ?_ ?_ ?_ ?_ ?_ ?_ ?_ ?_ ?_ wx (fun p' hp' hne => ?_)
      · rw [hF, u2_ne (by omega), u2_nj (by decide), b0, m2]
      · rw [hF, u2_ne (by omega), u2_nj (by decide), b1, m3]
      · rw [hF, u2_ne (by omega), u2_eq, m4]
      · rw [hF, u2_ne (by omega), u2_nj (by decide), b3, m5]
      · exact zz 6 (by decide) (by decide)
      · exact zz 7 (by decide) (by decide)
      · exact zz 30 (by decide) (by decide)
      · exact zz 31 (by decide) (by decide)
      · rw [zz 5 (by decide) (by decide)]; exact hS.1.2.1.2.1
      · rw [zz 5 (by decide) (by decide)]; exact hS.wr.2.2.1
      · rw [z3, List.length_set]; exact l3
      · rw [z3]; exact nv_set (by omega) (by omega) hS.1.2.2.1.2
      · rw [z42, List.length_set]; exact lW1
      · rw [z42, g_ne (by omega), hW1, g_ne (by omega), g_ne (by omega)]; exact w0
      · rw [z42, z3, g_ne (by omega), hW1, g_ne (by omega)]
        rcases ho with e | e
        · rw [e, g_ne (by omega), g_ne (by omega)]; exact hS.2.1.2.2.1
        · rw [e, g_eq (by omega), g_eq (by omega)]
      · rw [z42, z3, g_ne (by omega), hW1, g_ne (by omega)]
        rcases ho with e | e
        · rw [e, g_eq (by omega), g_eq (by omega)]
        · rw [e, g_ne (by omega), g_ne (by omega)]; exact hS.2.1.2.2.2.1
      · rw [z42, g_eq (by omega), hF, u2_eq]
      · intro i hi
        rw [z42, g_ne (by omega), hW1, g_ne (by omega), g_ne (by omega), zz 5 (by decide) (by decide)]
        exact hS.2.2.1 i hi
      · rw [z42, g_ne (by omega), hW1, g_ne (by omega), g_ne (by omega)]
    refine run_L_goOn 5 ?_
    refine And.intro (fun e2 => absurd e2 (by decide)) (fun _ => ?_)
    refine And.intro rfl (s_Lmark (l := L3) hSS.2.1.1 rfl (by omega) wx m1 ?_)
    rw [m4]
    refine run_L_goOn 5 ?_
    refine And.intro (fun e2 => absurd rfl e2) (fun _ => ?_)
    refine ba_le.weak ?_ (K F L3 p hp hSS (by rw [hF, u2_ne (by omega), u2_ne (by omega)]))
    repeat (first | exact le_0 | refine le_s ?_ | refine le_n ?_)
end LJ
