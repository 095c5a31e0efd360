/-! the law: a washing, ink, by cells -/
section LK
variable {scr : Option (List Int32)} {P : ba_P} {w : ba_W} {f : Nat → Nat → Int32} {l : Nat → List Int32} {q : List (List Int32)}
variable {n : Nat} {g : Int32}
theorem g_wash {p : Nat} (hS : SS f l n) (hp : p < n)
    (K : ∀ F L, SS F L n → F 29 3 = f 29 3 → ba_go scr ix_L_goOn 291 (GL g [none, none, none, none, some (.int 1), none, none, none, none, none]) [] (wW F L q) 0 0 P) :
    ba_go scr ix_L_goOn 232 (GL g [none, none, none, none, some (.int 1), some (.int (nI p)), none, none, none, none]) [] (wW f l q) 0 0 P := by
  have hn6 := hS.n6
  have h22 := hS.2.1.1
  have w0 := hS.2.1.2.1
  obtain ⟨⟨h1, h2, h3⟩, b0, b1, b2, b3⟩ := hS.2.2.2 p hp
  obtain ⟨x, hx⟩ : ∃ x, x = px l p := ⟨_, rfl⟩
  rw [← hx] at h1 h2 h3 b0 b1 b2 b3
  have ho : x / 4 % 2 = 0 ∨ x / 4 % 2 = 1 := by omega
  have hm4 : x / 8 % 4 < 4 := Nat.mod_lt _ (by decide)
  have eb : (l 42).getD (1 + x / 4 % 2) 0 = (l 3).getD (x / 4 % 2) 0 := hS.inkE (by omega)
  have hib := hS.inkB (show x / 4 % 2 < 2 by omega)
  have eo : (f (9 + p) 1).toNatClampNeg = x / 4 % 2 := by rw [b1, nI_clamp (by omega)]
  refine run_L_goOn 6 ?_
  refine And.intro (fun _ => ?_) (fun _ => ?_)
  · refine ba_le.weak ?_ (K f l hS rfl)
    repeat (first | exact le_0 | refine le_s ?_ | refine le_n ?_)
  refine run_L_goOn 3 ?_
  refine And.intro rfl (s_Lmark h22 rfl (by omega) h1 h2 ?_)
  refine run_L_goOn 5 ?_
  refine And.intro rfl (s_Ldoes (S := 3) (b := 1 + x / 4 % 2) (ink := 1) (nm := 0) hS.wr rfl rfl (by omega) (by decide) h1 h2 rfl rfl rfl (fun hlt => ?_) (fun hge => ?_))
  · rw [eb] at hlt
    have hz : (l 3).getD (x / 4 % 2) 0 = 0 := by
      rw [eq_i, zi]
      have : ((l 3).getD (x / 4 % 2) 0).toInt < 1 := hlt
      omega
    refine run_L_goOn 6 ?_
    refine And.intro (fun e2 => absurd e2 (by decide)) (fun _ => ?_)
    refine And.intro rfl (c_wash hS.1 rfl hp (fun _ => ?_) (fun g2 => absurd (by rw [eo]; exact hz) g2))
    refine run_L_goOn 2 ?_
    refine And.intro (fun _ => ?_) (fun e2 => absurd rfl e2)
    refine run_L_goOn 5 ?_
    refine And.intro (fun e2 => absurd rfl e2) (fun _ => ?_)
    refine ba_le.weak ?_ (K f l hS rfl)
    repeat (first | exact le_0 | refine le_s ?_ | refine le_n ?_)
  · rw [eb] at hge ⊢
    have hge1 : 1 ≤ ((l 3).getD (x / 4 % 2) 0).toInt := by
      have : ¬ ((l 3).getD (x / 4 % 2) 0).toInt < 1 := hge
      omega
    obtain ⟨W1, hW1⟩ : ∃ W1, W1 = ((l 42).set (1 + x / 4 % 2) ((l 3).getD (x / 4 % 2) 0 - nI 1)).set (16 + p) (nI (pm x 0)) := ⟨_, rfl⟩
    rw [← hW1]
    have lW1 : W1.length = 22 := by rw [hW1, List.length_set, List.length_set]; exact h22
    obtain ⟨L2, hL2⟩ : ∃ L2, L2 = u1 l 42 W1 := ⟨_, rfl⟩
    rw [← hL2]
    have y42 : L2 42 = W1 := by rw [hL2]; exact u1_eq
    have yy : ∀ a, ¬ a = 42 → L2 a = l a := fun a ha => by rw [hL2, u1_ne ha]
    have hJ2 : J f L2 n := ⟨hS.1.1, by rw [yy 3 (by decide), yy 5 (by decide), yy 6 (by decide), yy 7 (by decide), yy 30 (by decide), yy 31 (by decide)]; exact hS.1.2.1, by rw [yy 3 (by decide), yy 5 (by decide)]; exact hS.1.2.2.1, hS.1.2.2.2⟩
    refine run_L_goOn 6 ?_
    refine And.intro (fun e2 => absurd e2 (by decide)) (fun _ => ?_)
    refine And.intro rfl (c_wash hJ2 rfl hp (fun g2 => ?_) (fun _ => ?_))
    · exfalso
      rw [yy 3 (by decide), eo] at g2
      rw [g2, zi] at hge1
      omega
    rw [yy 3 (by decide), eo, b2]
    obtain ⟨F, hF⟩ : ∃ F, F = u2 f (9 + p) 2 0 := ⟨_, rfl⟩
    rw [← hF]
    obtain ⟨L3, hL3⟩ : ∃ L3, L3 = u1 L2 3 ((l 3).set (x / 4 % 2) ((l 3).getD (x / 4 % 2) 0 - 1)) := ⟨_, rfl⟩
    rw [← hL3]
    have z42 : L3 42 = W1 := by rw [hL3, u1_ne (by decide)]; exact y42
    have z3 : L3 3 = (l 3).set (x / 4 % 2) ((l 3).getD (x / 4 % 2) 0 - nI 1) := by rw [hL3]; exact u1_eq
    have zz : ∀ a, ¬ a = 42 → ¬ a = 3 → L3 a = l a := fun a ha hb => by rw [hL3, u1_ne hb]; exact yy a ha
    have hpm : pm x 0 < 320 ∧ pm x 0 % 4 = x % 4 ∧ pm x 0 / 4 % 2 = x / 4 % 2 ∧ pm x 0 / 8 % 4 = 0 ∧ pm x 0 / 32 = x / 32 := by unfold pm; omega
    obtain ⟨m1, m2, m3, m4, m5⟩ := hpm
    have t1 : (nI 1).toInt = 1 := rfl
    have fv : ((l 3).getD (x / 4 % 2) 0 - nI 1).toInt = ((l 3).getD (x / 4 % 2) 0).toInt - 1 := by
      rw [fb_subI (by rw [t1]; omega) (by rw [t1]; omega), t1]
    have l3 := hS.1.2.1.1
    have hSS : SS F L3 n := by
      refine hS.mk1 (k := p) (x := pm x 0) hp m1 (by omega) (fun a b ha hb => by rw [hF, u2_ne ha]) ?_ ?_ ?_ ?_ ?_ ?_ ?_ ?_ ?_ ?_ ?_ ?_ ?_ ?_ ?_ ?_ ?_ ?_ ?_ (fun p' hp' hne => ?_)
      · rw [hF, u2_nj (by decide), b0, m2]
      · rw [hF, u2_nj (by decide), b1, m3]
      · rw [hF, u2_eq, m4]; rfl
      · rw [hF, u2_nj (by decide), b3, m5]
      · exact zz 6 (by decide) (by decide)
      · exact zz 7 (by decide) (by decide)
      · exact zz 30 (by decide) (by decide)
      · exact zz 31 (by decide) (by decide)
      · rw [zz 5 (by decide) (by decide)]; exact hS.1.2.1.2.1
      · rw [zz 5 (by decide) (by decide)]; exact hS.wr.2.2.1
      · rw [z3, List.length_set]; exact l3
      · rw [z3]; exact nv_set (by omega) (by omega) hS.1.2.2.1.2
      · rw [z42]; exact lW1
      · rw [z42, hW1, g_ne (by omega), g_ne (by omega)]; exact w0
      · rw [z42, z3, hW1, g_ne (by omega)]
        rcases ho with e | e
        · rw [e, g_eq (by omega), g_eq (by omega)]
        · rw [e, g_ne (by omega), g_ne (by omega)]; exact hS.2.1.2.2.1
      · rw [z42, z3, hW1, g_ne (by omega)]
        rcases ho with e | e
        · rw [e, g_ne (by omega), g_ne (by omega)]; exact hS.2.1.2.2.2.1
        · rw [e, g_eq (by omega), g_eq (by omega)]
      · rw [z42, hW1, g_ne (by omega), g_ne (by omega), hF, u2_ne (by omega)]; exact hS.2.1.2.2.2.2
      · intro i hi
        rw [z42, hW1, g_ne (by omega), g_ne (by omega), zz 5 (by decide) (by decide)]
        exact hS.2.2.1 i hi
      · rw [z42, hW1, g_eq (by rw [List.length_set]; omega)]
      · rw [z42, hW1, g_ne (by omega), g_ne (by omega)]
    refine run_L_goOn 4 ?_
    refine And.intro (fun e2 => absurd e2 (by decide)) (fun _ => ?_)
    refine run_L_goOn 4 ?_
    refine And.intro (fun e2 => absurd rfl e2) (fun _ => ?_)
    refine ba_le.weak ?_ (K F L3 hSS (by rw [hF, u2_ne (by omega)]))
    repeat (first | exact le_0 | refine le_s ?_ | refine le_n ?_)
set_option maxRecDepth 10000 in
theorem g_ink (hS : SS f l n) (K : ∀ F L, SS F L n → F 29 3 = f 29 3 → P (some (.int 1)) (wW F L q)) :
    ba_go scr ix_L_goOn 291 (GL g [none, none, none, none, some (.int 1), none, none, none, none, none]) [] (wW f l q) 0 0 P := by
  have hn6 := hS.n6
  have h22 := hS.2.1.1
  have w0 := hS.2.1.2.1
  refine run_L_goOn 6 ?_
  refine And.intro (fun _ => ?_) (fun _ => ?_)
  · refine run_L_goOn 2 ?_
    exact And.intro rfl (K f l hS rfl)
  obtain ⟨o, ho, eo⟩ := and_nI (g >>> ((Int8.ofInt 26).toInt32 &&& 31)) (c := 1) (by decide)
  have eW := hS.inkE (show o < 2 by omega)
  have hib := hS.inkB (show o < 2 by omega)
  have main : ba_go scr ix_L_goOn 308 (GL g [none, none, none, none, some (.int 1), none, none, none, some (.int (nI o)), none]) [] (wW f l q) 0 0 P := by
    refine run_L_goOn 6 ?_
    refine And.intro rfl (s_Llow (m := 99) rfl (by decide) (by decide) (fun r hr => ?_))
    have em : Int32.ofInt 1 + nI r = nI (1 + r) := nI_add 1 r
    obtain ⟨m, hm⟩ : ∃ m, m = 1 + r := ⟨_, rfl⟩
    rw [← hm] at em
    have tm : (nI m).toInt = m := nI_toInt (by omega)
    have go : ba_go scr ix_L_goOn 320 (GL g [none, none, none, none, some (.int 1), none, none, none, some (.int (nI o)), some (.int (nI m))]) [] (wW f l q) 0 0 P := by
      have ew := ldW (f := f) (q := q) h22 (i := 1 + o) (by omega) (nI_add 1 o)
      rw [eW] at ew
      have es : ((l 3).getD o 0 + nI m).toInt = ((l 3).getD o 0).toInt + m := by rw [fb_addI (by omega) (by omega), tm]
      have z99 : (99 : Int32).toInt = 99 := rfl
      obtain ⟨mn, hmn⟩ : ∃ mn, mn = (if ((l 3).getD o 0 + nI m) < 99 then ((l 3).getD o 0 + nI m) else 99) := ⟨_, rfl⟩
      have hmb : 0 ≤ mn.toInt ∧ mn.toInt ≤ 99 := by
        rw [hmn]
        split
        · next h => rw [lt_i, z99] at h; omega
        · rw [z99]; omega
      have store : ∀ v : Int32, v = mn → ba_go scr ix_L_goOn 353 (GL g [none, none, none, none, some (.int 1), none, none, none, some (.int (nI o)), some (.int (nI m))]) [.int v, .int (nI 1 + nI o), .ref 43] (wW f l q) 0 0 P := by
        intro v hv
        subst hv
        have sw := stW (f := f) (q := q) h22 (i := 1 + o) (v := v) (by omega) (nI_add 1 o)
        obtain ⟨L2, hL2⟩ : ∃ L2, L2 = u1 l 42 ((l 42).set (1 + o) v) := ⟨_, rfl⟩
        rw [← hL2] at sw
        have y42 : L2 42 = (l 42).set (1 + o) v := by rw [hL2]; exact u1_eq
        have yy : ∀ a, ¬ a = 42 → L2 a = l a := fun a ha => by rw [hL2, u1_ne ha]
        have hJ2 : J f L2 n := ⟨hS.1.1, by rw [yy 3 (by decide), yy 5 (by decide), yy 6 (by decide), yy 7 (by decide), yy 30 (by decide), yy 31 (by decide)]; exact hS.1.2.1, by rw [yy 3 (by decide), yy 5 (by decide)]; exact hS.1.2.2.1, hS.1.2.2.2⟩
        refine run_L_goOn 7 ?_
        refine Exists.intro _ (And.intro (sw) ?_)
        refine And.intro (fun e2 => absurd e2 (by decide)) (fun _ => ?_)
        refine And.intro rfl (c_fetches (o := o) (m := m) hJ2 rfl (by omega) rfl (by omega) (by omega) (fun mn' hmn' => ?_))
        rw [yy 3 (by decide), ← hmn] at hmn'
        subst hmn'
        rw [yy 3 (by decide)]
        obtain ⟨L3, hL3⟩ : ∃ L3, L3 = u1 L2 3 ((l 3).set o mn') := ⟨_, rfl⟩
        rw [← hL3]
        have z42 : L3 42 = (l 42).set (1 + o) mn' := by rw [hL3, u1_ne (by decide)]; exact y42
        have z3 : L3 3 = (l 3).set o mn' := by rw [hL3]; exact u1_eq
        have zz : ∀ a, ¬ a = 42 → ¬ a = 3 → L3 a = l a := fun a ha hb => by rw [hL3, u1_ne hb]; exact yy a ha
        have l3 := hS.1.2.1.1
        obtain ⟨⟨h1, h2, h3⟩, b0, b1, b2, b3⟩ := hS.2.2.2 0 (by omega)
        have ho2 : o = 0 ∨ o = 1 := by omega
        have hSS : SS f L3 n := by
          refine hS.mk1 (k := 0) (x := px l 0) (by omega) h2 h3 (fun _ _ _ _ => rfl) b0 b1 b2 b3 ?_ ?_ ?_ ?_ ?_ ?_ ?_ ?_ ?_ ?_ ?_ ?_ ?_ ?_ ?_ (fun p' hp' hne => ?_)
          · exact zz 6 (by decide) (by decide)
          · exact zz 7 (by decide) (by decide)
          · exact zz 30 (by decide) (by decide)
          · exact zz 31 (by decide) (by decide)
          · rw [zz 5 (by decide) (by decide)]; exact hS.1.2.1.2.1
          · rw [zz 5 (by decide) (by decide)]; exact hS.wr.2.2.1
          · rw [z3, List.length_set]; exact l3
          · rw [z3]; exact nv_set hmb.1 hmb.2 hS.1.2.2.1.2
          · rw [z42, List.length_set]; exact h22
          · rw [z42, g_ne (by omega)]; exact w0
          · rw [z42, z3]
            rcases ho2 with e | e
            · rw [e, g_eq (by omega), g_eq (by omega)]
            · rw [e, g_ne (by omega), g_ne (by omega)]; exact hS.2.1.2.2.1
          · rw [z42, z3]
            rcases ho2 with e | e
            · rw [e, g_ne (by omega), g_ne (by omega)]; exact hS.2.1.2.2.2.1
            · rw [e, g_eq (by omega), g_eq (by omega)]
          · rw [z42, g_ne (by omega)]; exact hS.2.1.2.2.2.2
          · intro i hi
            rw [z42, g_ne (by omega), zz 5 (by decide) (by decide)]
            exact hS.2.2.1 i hi
          · rw [z42, g_ne (by omega)]; exact h1
          · rw [z42, g_ne (by omega)]
        have ew3 := ldW (f := f) (l := L3) (q := q) hSS.2.1.1 (i := 1 + o) (by omega) (nI_add 1 o)
        rw [z42, g_eq (by omega)] at ew3
        refine run_L_goOn 11 ?_
        refine Exists.intro _ (And.intro (ew3 _) ?_)
        refine And.intro (fun e2 => absurd rfl e2) (fun _ => ?_)
        exact And.intro rfl (K f L3 hSS rfl)
      refine run_L_goOn 13 ?_
      refine Exists.intro _ (And.intro (ew _) ?_)
      refine And.intro (fun d => ?_) (fun d => ?_)
      · have d : (l 3).getD o 0 + nI m ≤ nI 99 := d
        rw [le_i, es, nI_toInt (by decide)] at d
        refine run_L_goOn 7 ?_
        refine Exists.intro _ (And.intro (ew _) ?_)
        refine store _ ?_
        rw [hmn]
        by_cases h : ((l 3).getD o 0 + nI m) < 99
        · rw [if_pos h]
        · rw [if_neg h]
          rw [lt_i, es, z99] at h
          show (l 3).getD o 0 + nI m = 99
          rw [eq_i, es, z99]
          omega
      · have d : ¬ (l 3).getD o 0 + nI m ≤ nI 99 := d
        rw [le_i, es, nI_toInt (by decide)] at d
        refine run_L_goOn 2 ?_
        refine store _ ?_
        rw [hmn, if_neg (by rw [lt_i, es, z99]; omega)]
        rfl
    rw [← em] at go
    refine run_L_goOn 2 ?_
    exact go
  rw [← eo] at main
  refine run_L_goOn 6 ?_
  exact main
theorem s_LgoOn (hS : SS f l n) (K : ∀ F L, SS F L n → F 29 3 = f 29 3 → P (some (.int 1)) (wW F L q)) :
    ba_go scr ix_L_goOn 0 (GL g [none, none, none, none, none, none, none, none, none, none]) [] (wW f l q) 0 0 P := by
  refine g_rule hS (fun F1 L1 hS1 e1 => ?_)
  refine g_strike hS1 (fun F2 L2 p hp hS2 e2 => ?_)
  refine g_wash hS2 hp (fun F3 L3 hS3 e3 => ?_)
  exact g_ink hS3 (fun F4 L4 hS4 e4 => K F4 L4 hS4 (by rw [e4, e3, e2, e1]))
end LK
