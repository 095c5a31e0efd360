/-! necks, kinds (2) -/
section SK
variable {scr : Option (List Int32)} {P : ba_P} {w : ba_W} {f : Nat → Nat → Int32} {l : Nat → List Int32} {q : Nat → List Int64}
theorem set_45 {X : List Int32} : (wW f l q).set 45 (.inl (.int, .inl X)) = wW f (u1 l 45 X) q := rfl
theorem set_48 {X : List Int32} : (wW f l q).set 48 (.inl (.int, .inl X)) = wW f (u1 l 48 X) q := rfl
def Tr (l : Nat → List Int32) : Nat → Int32 := fun x => tk ((l 45).getD x 0) ((l 48).getD x 0)
theorem r_areSo {N : Nat} (hN : N ≤ 8) (hc : f 42 22 = nI N) (h45 : (l 45).length = 6) (h48 : (l 48).length = 6) (h60 : (l 60).length = 8) (h61 : (l 61).length = 8) (hd : ∀ k, k < N → 0 ≤ ((l 60).getD k 0).toInt ∧ ((l 60).getD k 0).toInt < 6)
    (h1 : sob (Tr l) (l 60) (l 61) N = true → P (some (.int 1)) (wW f l q)) (h0 : sob (Tr l) (l 60) (l 61) N = false → P (some (.int 0)) (wW f l q)) : ba_go scr ix_X9_areSo 0 [some (.ref 43), none, none] [] (wW f l q) 0 0 P := by
  have loop : ∀ (m k : Nat) (x y : Int32), k + m = N → x = nI k → y = (if sob (Tr l) (l 60) (l 61) k then 1 else 0) → ba_go scr ix_X9_areSo 4 [some (.ref 43), some (.int y), some (.int x)] [] (wW f l q) 0 0 P := by
    intro m
    induction m with
    | zero =>
      intro k x y e1 e2 e3
      subst e2; subst e3
      have h4 : k = N := by omega
      subst h4
      refine run_X9_areSo 6 ?_
      refine Exists.intro _ (And.intro (rfl) ?_)
      rw [hc]
      refine And.intro (fun _ => ?_) (fun e => absurd (by show nI k ≤ nI k; rw [le_i]; omega) e)
      cases h : sob (Tr l) (l 60) (l 61) k with
      | true => exact And.intro rfl (h1 h)
      | false => exact And.intro rfl (h0 h)
    | succ m ih =>
      intro k x y e1 e2 e3
      subst e2; subst e3
      have hdk := hd k (by omega)
      obtain ⟨y, hy⟩ : ∃ y, y = (l 60).getD k 0 := ⟨_, rfl⟩
      rw [← hy] at hdk
      have hyc := ix_i hdk.1
      have a60 : ∀ xs, ba_ldI xs (wW f l q) 61 (nI k) = some y := fun xs => by
        rw [ldI_of (l := l 60) rfl (by rw [nI_toInt (by omega)]; omega) (by rw [nI_toInt (by omega), h60]; omega), nI_clamp (by omega), hy]
      have a61 : ∀ xs, ba_ldI xs (wW f l q) 62 (nI k) = some ((l 61).getD k 0) := fun xs => by
        rw [ldI_of (l := l 61) rfl (by rw [nI_toInt (by omega)]; omega) (by rw [nI_toInt (by omega), h61]; omega), nI_clamp (by omega)]
      have es : sob (Tr l) (l 60) (l 61) (k + 1) = (sob (Tr l) (l 60) (l 61) k && decide (Tr l y.toNatClampNeg = (l 61).getD k 0)) := by
        show (sob (Tr l) (l 60) (l 61) k && _) = _
        rw [← hy]
      have no : ∀ z : Int32, sob (Tr l) (l 60) (l 61) (k + 1) = false → ba_go scr ix_X9_areSo 39 [some (.ref 43), some (.int z), some (.int (nI k))] [] (wW f l q) 0 0 P := by
        intro z hz
        refine run_X9_areSo 4 ?_
        exact ih (k + 1) _ _ (by omega) (nI_1 k) (by rw [hz]; rfl)
      refine run_X9_areSo 6 ?_
      refine Exists.intro _ (And.intro (rfl) ?_)
      rw [hc]
      refine And.intro (fun e => absurd e (by show ¬ nI N ≤ nI k; rw [le_i, nI_toInt (by omega), nI_toInt (by omega)]; omega)) (fun _ => ?_)
      cases h : sob (Tr l) (l 60) (l 61) k with
      | false =>
        refine And.intro (fun _ => ?_) (fun e => absurd rfl e)
        exact no 0 (by rw [es, h]; rfl)
      | true =>
        refine And.intro (fun e => absurd e (by decide)) (fun _ => ?_)
        refine run_X9_areSo 11 ?_
        refine Exists.intro _ (And.intro (rfl) ?_)
        refine Exists.intro _ (And.intro (a60 _) ?_)
        refine And.intro rfl (r_takes h48 h45 hdk.1 hdk.2 ?_)
        refine Exists.intro _ (And.intro (rfl) ?_)
        refine Exists.intro _ (And.intro (a61 _) ?_)
        refine And.intro (fun c => ?_) (fun c => ?_)
        · have c : ¬ Tr l y.toNatClampNeg = (l 61).getD k 0 := c
          exact no 1 (by rw [es, h, decide_eq_false c]; rfl)
        · have c : Tr l y.toNatClampNeg = (l 61).getD k 0 := Classical.not_not.mp c
          refine run_X9_areSo 5 ?_
          exact ih (k + 1) _ _ (by omega) (nI_1 k) (by rw [es, h, decide_eq_true c]; rfl)
  refine run_X9_areSo 4 ?_
  exact loop N 0 0 1 (by omega) rfl rfl
def Tn (f : Nat → Nat → Int32) (p v : Nat) : Nat → Int32 := fun x => if x = p then tk (f (9 + p) 0) (nI v) else tk (f (9 + x) 0) (f (9 + x) 3)
theorem s_necksOf {N p : Nat} (hN : N ≤ 8) (hc : f 29 3 = nI N) (hp : p < 6) (hn2 : (f 2 3).toInt ≤ 6) (h30 : (l 30).length = 8) (h31 : (l 31).length = 8) (hd : ∀ k, k < N → 0 ≤ ((l 30).getD k 0).toInt ∧ ((l 30).getD k 0).toInt < (f 2 3).toInt)
    (hP : ∀ F : Nat → Nat → Int32, (∀ x y, ¬ x = 32 → F x y = f x y) → P (some (.int (orS (fun v => sob (Tn f p v) (l 30) (l 31) N) 10))) (wW F l q)) : ba_go scr ix_X3_necksOf 0 [some (.ref 30), some (.ref 3), some (.int (nI p)), some (.ref (9 + p + 1)), none, none] [] (wW f l q) 0 0 P := by
  have loop : ∀ (m v : Nat) (s x : Int32) (F : Nat → Nat → Int32), (∀ x y, ¬ x = 32 → F x y = f x y) → F 32 0 = f (9 + p) 0 → v + m = 10 → x = nI v → s = orS (fun v => sob (Tn f p v) (l 30) (l 31) N) v → ba_go scr ix_X3_necksOf 14 [some (.ref 30), some (.ref 3), some (.int (nI p)), some (.ref (9 + p + 1)), some (.int s), some (.int x)] [] (wW F l q) 0 0 P := by
    intro m
    induction m with
    | zero =>
      intro v s x F hF hK e1 e2 e3
      subst e2; subst e3
      have h4 : v = 10 := by omega
      subst h4
      refine run_X3_necksOf 5 ?_
      refine And.intro (fun _ => ?_) (fun e => absurd (by decide) e)
      exact hP F hF
    | succ m ih =>
      intro v s x F hF hK e1 e2 e3
      subst e2; subst e3
      have hT : ∀ k, k < N → Tw (u2 F 32 3 (nI v)) p ((l 30).getD k 0).toNatClampNeg = Tn f p v ((l 30).getD k 0).toNatClampNeg := by
        intro k hk
        have h1 := hd k hk
        have h2 := ix_i h1.1
        generalize ((l 30).getD k 0).toNatClampNeg = x at *
        unfold Tw Tn
        by_cases h : x = p
        · rw [if_pos h, if_pos h]
          rw [u2_nj (by decide), u2_eq, hK]
        · rw [if_neg h, if_neg h, u2_ne (by omega), u2_ne (by omega), hF _ _ (by omega), hF _ _ (by omega)]
      have hg := sob_congr (B := l 31) hT
      refine run_X3_necksOf 13 ?_
      refine And.intro (fun e => absurd e (by show ¬ (9 : Int32) < nI v; rw [lt_i, nI_toInt (by omega), show (9 : Int32).toInt = 9 from rfl]; omega)) (fun _ => ?_)
      refine Exists.intro _ (And.intro (rfl) ?_)
      refine Exists.intro (wW (u2 F 32 3 (nI v)) l q) (And.intro rfl ?_)
      have hstep : orS (fun v => sob (Tn f p v) (l 30) (l 31) N) (v + 1) = (orS (fun v => sob (Tn f p v) (l 30) (l 31) N) v ||| (if sob (Tn f p v) (l 30) (l 31) N then (1 : Int32) <<< (nI v &&& 31) else 0)) := rfl
      refine And.intro rfl (s_areSo (f := u2 F 32 3 (nI v)) hN (by rw [u2_ne (by decide), hF _ _ (by decide)]; exact hc) hp (by rw [u2_ne (by decide), hF _ _ (by decide)]; exact hn2) h30 h31 (by rw [u2_ne (by decide), hF _ _ (by decide)]; exact hd) (fun g => ?_) (fun g => ?_))
      · rw [hg] at g
        rw [g] at hstep
        refine And.intro (fun e => absurd e (by decide)) (fun _ => ?_)
        refine run_X3_necksOf 8 ?_
        exact ih (v + 1) _ _ _ (fun x y hx => by rw [u2_ne hx, hF _ _ hx]) (by rw [u2_nj (by decide)]; exact hK) (by omega) (nI_1 v) hstep.symm
      · rw [hg] at g
        rw [g] at hstep
        refine And.intro (fun _ => ?_) (fun e => absurd rfl e)
        refine run_X3_necksOf 5 ?_
        exact ih (v + 1) _ _ _ (fun x y hx => by rw [u2_ne hx, hF _ _ hx]) (by rw [u2_nj (by decide)]; exact hK) (by omega) (nI_1 v) hstep.symm
  refine run_X3_necksOf 8 ?_
  refine Exists.intro _ (And.intro (rfl) ?_)
  refine And.intro rfl (s_becomes32 hp (fun F h1 h2 h3 => ?_))
  exact loop 10 0 0 0 F h1 h2 rfl rfl rfl
theorem r_necks {N p : Nat} (hN : N ≤ 8) (hc : f 42 22 = nI N) (hn0 : 0 ≤ (f 42 1).toInt) (hp0 : (p : Int) < (f 42 1).toInt) (hp : p < 6) (h45 : (l 45).length = 6) (h48 : (l 48).length = 6) (h60 : (l 60).length = 8) (h61 : (l 61).length = 8) (hd : ∀ k, k < N → 0 ≤ ((l 60).getD k 0).toInt ∧ ((l 60).getD k 0).toInt < 6)
    (hP : P (some (.int (orS (fun v => sob (Tr (u1 l 48 ((l 48).set p (nI v)))) (l 60) (l 61) N) 10))) (wW f l q)) : ba_go scr ix_X9_necks 0 [some (.ref 43), some (.int (nI p)), none, none, none] [] (wW f l q) 0 0 P := by
  have st : ∀ (y v : Int32), ba_stI (wW f (u1 l 48 ((l 48).set p y)) q) 49 (nI p) v = some (wW f (u1 l 48 ((l 48).set p v)) q) := fun y v => by
    rw [stI_of (l := (l 48).set p y) rfl (by rw [nI_toInt (by omega)]; omega) (by rw [nI_toInt (by omega), List.length_set, h48]; omega), nI_clamp (by omega), List.set_set, set_48, u1_u1]
  have loop : ∀ (m v : Nat) (s x y : Int32), v + m = 10 → x = nI v → s = orS (fun v => sob (Tr (u1 l 48 ((l 48).set p (nI v)))) (l 60) (l 61) N) v → ba_go scr ix_X9_necks 22 [some (.ref 43), some (.int (nI p)), some (.int ((l 48).getD p 0)), some (.int s), some (.int x)] [] (wW f (u1 l 48 ((l 48).set p y)) q) 0 0 P := by
    intro m
    induction m with
    | zero =>
      intro v s x y e1 e2 e3
      subst e2; subst e3
      have h4 : v = 10 := by omega
      subst h4
      refine run_X9_necks 10 ?_
      refine And.intro (fun _ => ?_) (fun e => absurd (by decide) e)
      refine Exists.intro _ (And.intro (rfl) ?_)
      refine Exists.intro _ (And.intro (st _ _) ?_)
      rw [set_self, u1_self]
      exact hP
    | succ m ih =>
      intro v s x y e1 e2 e3
      subst e2; subst e3
      refine run_X9_necks 12 ?_
      refine And.intro (fun e => absurd e (by show ¬ (10 : Int32) ≤ nI v; rw [le_i, nI_toInt (by omega), show (10 : Int32).toInt = 10 from rfl]; omega)) (fun _ => ?_)
      refine Exists.intro _ (And.intro (rfl) ?_)
      refine Exists.intro _ (And.intro (st _ _) ?_)
      have hstep : orS (fun v => sob (Tr (u1 l 48 ((l 48).set p (nI v)))) (l 60) (l 61) N) (v + 1) = (orS (fun v => sob (Tr (u1 l 48 ((l 48).set p (nI v)))) (l 60) (l 61) N) v ||| (if sob (Tr (u1 l 48 ((l 48).set p (nI v)))) (l 60) (l 61) N then (1 : Int32) <<< (nI v &&& 31) else 0)) := rfl
      refine And.intro rfl (r_areSo (l := u1 l 48 ((l 48).set p (nI v))) hN hc h45 (by show ((l 48).set p (nI v)).length = 6; rw [List.length_set]; exact h48) h60 h61 hd (fun g => ?_) (fun g => ?_))
      · have g : sob (Tr (u1 l 48 ((l 48).set p (nI v)))) (l 60) (l 61) N = true := g
        rw [g] at hstep
        refine And.intro (fun e => absurd e (by decide)) (fun _ => ?_)
        refine run_X9_necks 8 ?_
        exact ih (v + 1) _ _ _ (by omega) (nI_1 v) hstep.symm
      · have g : sob (Tr (u1 l 48 ((l 48).set p (nI v)))) (l 60) (l 61) N = false := g
        rw [g] at hstep
        refine And.intro (fun _ => ?_) (fun e => absurd rfl e)
        refine run_X9_necks 5 ?_
        exact ih (v + 1) _ _ _ (by omega) (nI_1 v) hstep.symm
  have a0 : ∀ xs, ba_ldI xs (wW f l q) 49 (nI p) = some ((l 48).getD p 0) := fun xs => by
    rw [ldI_of (l := l 48) rfl (by rw [nI_toInt (by omega)]; omega) (by rw [nI_toInt (by omega), h48]; omega), nI_clamp (by omega)]
  refine run_X9_necks 13 ?_
  repeat (first | refine And.intro (fun e => absurd e (by decide)) (fun e => ?_) | refine And.intro (fun e => ?_) (fun e => absurd e (by decide)) | refine Exists.intro _ (And.intro rfl ?_) | refine And.intro rfl ?_)
  refine r_noPerson hn0 (fun g1 g2 => ?_) (fun g1 => absurd ⟨by rw [nI_toInt (by omega)]; omega, by rw [nI_toInt (by omega)]; exact hp0⟩ g1)
  refine And.intro (fun _ => ?_) (fun e => absurd rfl e)
  refine Exists.intro _ (And.intro (rfl) ?_)
  refine Exists.intro _ (And.intro (a0 _) ?_)
  have h := loop 10 0 0 0 ((l 48).getD p 0) rfl rfl rfl
  rw [set_self, u1_self] at h
  exact h
theorem both_necks {p : Int32} (hI : Inv f l q) : both scr ix_X8_necks ix_X9_necks [some (.ref 1), some (.int p), none] [some (.ref 43), some (.int p), none, none, none] f l q := by
  intro P hP
  obtain ⟨⟨⟨hn1, hn2, hn3⟩, hL, hE, hR⟩, hPp, hD, hM, hS⟩ := id hI
  obtain ⟨N, hN, hN2⟩ := nI_ex hD.1.1
  have hNb : N ≤ 8 := by have := hD.1.2; omega
  refine run_X8_necks 30 ?_
  repeat (first | refine And.intro (fun e => absurd e (by decide)) (fun e => ?_) | refine And.intro (fun e => ?_) (fun e => absurd e (by decide)) | refine Exists.intro _ (And.intro rfl ?_) | refine And.intro rfl ?_)
  refine s_personOf (b := 2) (Or.inl rfl) hn2 (fun c d => ?_) (fun c => ?_)
  · obtain ⟨⟨k1, k2, k3⟩, k4, k5, k6, k7⟩ := pfacts hI c d
    obtain ⟨-, m5, m6, m7, m8⟩ := plens hI
    obtain ⟨p, rfl, hp⟩ := nI_ex c
    have hcl : (nI p).toNatClampNeg = p := nI_clamp (by omega)
    rw [hcl] at k1 k3 k4 k5 k6 k7 ⊢
    have hd : ∀ k, k < N → 0 ≤ ((l 30).getD k 0).toInt ∧ ((l 30).getD k 0).toInt < (f 2 3).toInt := fun k hk => hD.2.2 k (by rw [hN, nI_clamp (by omega)]; exact hk)
    repeat (first | refine And.intro (fun e => absurd e (by decide)) (fun e => ?_) | refine And.intro (fun e => ?_) (fun e => absurd e (by decide)) | refine Exists.intro _ (And.intro rfl ?_) | refine And.intro rfl ?_)
    refine s_necksOf hNb hN k1 hn2 hL.2.2.1.1 hL.2.2.1.2 hd (fun F hF => ?_)
    have hIF := inv_32 hI hF
    have e60 : l 60 = l 30 := hE.2.2.1
    have e61 : l 61 = l 31 := hE.2.2.2
    refine hP _ _ _ _ (fun P2 h2 => ?_)
    refine r_necks hNb (by rw [hF _ _ (by decide), hD.2.1]; exact hN) (by rw [hF _ _ (by decide), hn3]; exact hn1) (by rw [hF _ _ (by decide), hn3]; omega) k1 m5 m8 (by rw [e60]; exact hL.2.2.1.1) (by rw [e61]; exact hL.2.2.1.2) (by rw [e60]; exact fun k hk => ⟨(hd k hk).1, by have := (hd k hk).2; omega⟩) ?_
    rw [e60, e61]
    have eo : orS (fun v => sob (Tr (u1 l 48 ((l 48).set p (nI v)))) (l 30) (l 31) N) 10 = orS (fun v => sob (Tn f p v) (l 30) (l 31) N) 10 := by
      refine orS_congr (fun v hv => sob_congr (fun k hk => ?_))
      have h1 := hd k hk
      have h2 := ix_i h1.1
      generalize ((l 30).getD k 0).toNatClampNeg = x at *
      show tk ((l 45).getD x 0) (((l 48).set p (nI v)).getD x 0) = (if x = p then _ else _)
      rw [hE.2.1.1, hE.2.1.2.2.2, getD_set, col_at (by omega), col_at (by omega)]
      by_cases h : x = p
      · rw [if_pos h, if_pos ⟨h.symm, by show p < 6; exact k1⟩, h]
      · rw [if_neg h, if_neg (fun g => h g.1.symm)]
    rw [eo]
    exact h2 _ _ _ hIF
  · repeat (first | refine And.intro (fun e => absurd e (by decide)) (fun e => ?_) | refine And.intro (fun e => ?_) (fun e => absurd e (by decide)) | refine Exists.intro _ (And.intro rfl ?_) | refine And.intro rfl ?_)
    refine hP _ f l q (fun P2 h2 => ?_)
    refine run_X9_necks 30 ?_
    repeat (first | refine And.intro (fun e => absurd e (by decide)) (fun e => ?_) | refine And.intro (fun e => ?_) (fun e => absurd e (by decide)) | refine Exists.intro _ (And.intro rfl ?_) | refine And.intro rfl ?_)
    refine r_noPerson (by rw [hn3]; exact hn1) (fun g1 g2 => absurd ⟨g1, by rw [← hn3]; exact g2⟩ c) (fun g1 => ?_)
    repeat (first | refine And.intro (fun e => absurd e (by decide)) (fun e => ?_) | refine And.intro (fun e => ?_) (fun e => absurd e (by decide)) | refine Exists.intro _ (And.intro rfl ?_) | refine And.intro rfl ?_)
    exact h2 f l q hI
def Tk (f : Nat → Nat → Int32) (p v : Nat) : Nat → Int32 := fun x => if x = p then tk (nI v) (f (9 + p) 3) else tk (f (9 + x) 0) (f (9 + x) 3)
theorem s_kindsOf {N p : Nat} (hN : N ≤ 8) (hc : f 29 3 = nI N) (hp : p < 6) (hn2 : (f 2 3).toInt ≤ 6) (h30 : (l 30).length = 8) (h31 : (l 31).length = 8) (hd : ∀ k, k < N → 0 ≤ ((l 30).getD k 0).toInt ∧ ((l 30).getD k 0).toInt < (f 2 3).toInt)
    (hP : ∀ F : Nat → Nat → Int32, (∀ x y, ¬ x = 32 → F x y = f x y) → P (some (.int (orS (fun v => sob (Tk f p v) (l 30) (l 31) N) 3))) (wW F l q)) : ba_go scr ix_X3_kindsOf 0 [some (.ref 30), some (.ref 3), some (.int (nI p)), some (.ref (9 + p + 1)), none, none] [] (wW f l q) 0 0 P := by
  have loop : ∀ (m v : Nat) (s x : Int32) (F : Nat → Nat → Int32), (∀ x y, ¬ x = 32 → F x y = f x y) → F 32 3 = f (9 + p) 3 → v + m = 3 → x = nI v → s = orS (fun v => sob (Tk f p v) (l 30) (l 31) N) v → ba_go scr ix_X3_kindsOf 14 [some (.ref 30), some (.ref 3), some (.int (nI p)), some (.ref (9 + p + 1)), some (.int s), some (.int x)] [] (wW F l q) 0 0 P := by
    intro m
    induction m with
    | zero =>
      intro v s x F hF hK e1 e2 e3
      subst e2; subst e3
      have h4 : v = 3 := by omega
      subst h4
      refine run_X3_kindsOf 5 ?_
      refine And.intro (fun _ => ?_) (fun e => absurd (by decide) e)
      exact hP F hF
    | succ m ih =>
      intro v s x F hF hK e1 e2 e3
      subst e2; subst e3
      have hT : ∀ k, k < N → Tw (u2 F 32 0 (nI v)) p ((l 30).getD k 0).toNatClampNeg = Tk f p v ((l 30).getD k 0).toNatClampNeg := by
        intro k hk
        have h1 := hd k hk
        have h2 := ix_i h1.1
        generalize ((l 30).getD k 0).toNatClampNeg = x at *
        unfold Tw Tk
        by_cases h : x = p
        · rw [if_pos h, if_pos h]
          rw [u2_eq, u2_nj (by decide), hK]
        · rw [if_neg h, if_neg h, u2_ne (by omega), u2_ne (by omega), hF _ _ (by omega), hF _ _ (by omega)]
      have hg := sob_congr (B := l 31) hT
      refine run_X3_kindsOf 13 ?_
      refine And.intro (fun e => absurd e (by show ¬ (3 : Int32) ≤ nI v; rw [le_i, nI_toInt (by omega), show (3 : Int32).toInt = 3 from rfl]; omega)) (fun _ => ?_)
      refine Exists.intro _ (And.intro (rfl) ?_)
      refine Exists.intro (wW (u2 F 32 0 (nI v)) l q) (And.intro rfl ?_)
      have hstep : orS (fun v => sob (Tk f p v) (l 30) (l 31) N) (v + 1) = (orS (fun v => sob (Tk f p v) (l 30) (l 31) N) v ||| (if sob (Tk f p v) (l 30) (l 31) N then (1 : Int32) <<< (nI v &&& 31) else 0)) := rfl
      refine And.intro rfl (s_areSo (f := u2 F 32 0 (nI v)) hN (by rw [u2_ne (by decide), hF _ _ (by decide)]; exact hc) hp (by rw [u2_ne (by decide), hF _ _ (by decide)]; exact hn2) h30 h31 (by rw [u2_ne (by decide), hF _ _ (by decide)]; exact hd) (fun g => ?_) (fun g => ?_))
      · rw [hg] at g
        rw [g] at hstep
        refine And.intro (fun e => absurd e (by decide)) (fun _ => ?_)
        refine run_X3_kindsOf 8 ?_
        exact ih (v + 1) _ _ _ (fun x y hx => by rw [u2_ne hx, hF _ _ hx]) (by rw [u2_nj (by decide)]; exact hK) (by omega) (nI_1 v) hstep.symm
      · rw [hg] at g
        rw [g] at hstep
        refine And.intro (fun _ => ?_) (fun e => absurd rfl e)
        refine run_X3_kindsOf 5 ?_
        exact ih (v + 1) _ _ _ (fun x y hx => by rw [u2_ne hx, hF _ _ hx]) (by rw [u2_nj (by decide)]; exact hK) (by omega) (nI_1 v) hstep.symm
  refine run_X3_kindsOf 8 ?_
  refine Exists.intro _ (And.intro (rfl) ?_)
  refine And.intro rfl (s_becomes32 hp (fun F h1 h2 h3 => ?_))
  exact loop 3 0 0 0 F h1 h3 rfl rfl rfl
theorem r_kinds {N p : Nat} (hN : N ≤ 8) (hc : f 42 22 = nI N) (hn0 : 0 ≤ (f 42 1).toInt) (hp0 : (p : Int) < (f 42 1).toInt) (hp : p < 6) (h45 : (l 45).length = 6) (h48 : (l 48).length = 6) (h60 : (l 60).length = 8) (h61 : (l 61).length = 8) (hd : ∀ k, k < N → 0 ≤ ((l 60).getD k 0).toInt ∧ ((l 60).getD k 0).toInt < 6)
    (hP : P (some (.int (orS (fun v => sob (Tr (u1 l 45 ((l 45).set p (nI v)))) (l 60) (l 61) N) 3))) (wW f l q)) : ba_go scr ix_X9_kinds 0 [some (.ref 43), some (.int (nI p)), none, none, none] [] (wW f l q) 0 0 P := by
  have st : ∀ (y v : Int32), ba_stI (wW f (u1 l 45 ((l 45).set p y)) q) 46 (nI p) v = some (wW f (u1 l 45 ((l 45).set p v)) q) := fun y v => by
    rw [stI_of (l := (l 45).set p y) rfl (by rw [nI_toInt (by omega)]; omega) (by rw [nI_toInt (by omega), List.length_set, h45]; omega), nI_clamp (by omega), List.set_set, set_45, u1_u1]
  have loop : ∀ (m v : Nat) (s x y : Int32), v + m = 3 → x = nI v → s = orS (fun v => sob (Tr (u1 l 45 ((l 45).set p (nI v)))) (l 60) (l 61) N) v → ba_go scr ix_X9_kinds 22 [some (.ref 43), some (.int (nI p)), some (.int ((l 45).getD p 0)), some (.int s), some (.int x)] [] (wW f (u1 l 45 ((l 45).set p y)) q) 0 0 P := by
    intro m
    induction m with
    | zero =>
      intro v s x y e1 e2 e3
      subst e2; subst e3
      have h4 : v = 3 := by omega
      subst h4
      refine run_X9_kinds 10 ?_
      refine And.intro (fun _ => ?_) (fun e => absurd (by decide) e)
      refine Exists.intro _ (And.intro (rfl) ?_)
      refine Exists.intro _ (And.intro (st _ _) ?_)
      rw [set_self, u1_self]
      exact hP
    | succ m ih =>
      intro v s x y e1 e2 e3
      subst e2; subst e3
      refine run_X9_kinds 12 ?_
      refine And.intro (fun e => absurd e (by show ¬ (3 : Int32) ≤ nI v; rw [le_i, nI_toInt (by omega), show (3 : Int32).toInt = 3 from rfl]; omega)) (fun _ => ?_)
      refine Exists.intro _ (And.intro (rfl) ?_)
      refine Exists.intro _ (And.intro (st _ _) ?_)
      have hstep : orS (fun v => sob (Tr (u1 l 45 ((l 45).set p (nI v)))) (l 60) (l 61) N) (v + 1) = (orS (fun v => sob (Tr (u1 l 45 ((l 45).set p (nI v)))) (l 60) (l 61) N) v ||| (if sob (Tr (u1 l 45 ((l 45).set p (nI v)))) (l 60) (l 61) N then (1 : Int32) <<< (nI v &&& 31) else 0)) := rfl
      refine And.intro rfl (r_areSo (l := u1 l 45 ((l 45).set p (nI v))) hN hc (by show ((l 45).set p (nI v)).length = 6; rw [List.length_set]; exact h45) h48 h60 h61 hd (fun g => ?_) (fun g => ?_))
      · have g : sob (Tr (u1 l 45 ((l 45).set p (nI v)))) (l 60) (l 61) N = true := g
        rw [g] at hstep
        refine And.intro (fun e => absurd e (by decide)) (fun _ => ?_)
        refine run_X9_kinds 8 ?_
        exact ih (v + 1) _ _ _ (by omega) (nI_1 v) hstep.symm
      · have g : sob (Tr (u1 l 45 ((l 45).set p (nI v)))) (l 60) (l 61) N = false := g
        rw [g] at hstep
        refine And.intro (fun _ => ?_) (fun e => absurd rfl e)
        refine run_X9_kinds 5 ?_
        exact ih (v + 1) _ _ _ (by omega) (nI_1 v) hstep.symm
  have a0 : ∀ xs, ba_ldI xs (wW f l q) 46 (nI p) = some ((l 45).getD p 0) := fun xs => by
    rw [ldI_of (l := l 45) rfl (by rw [nI_toInt (by omega)]; omega) (by rw [nI_toInt (by omega), h45]; omega), nI_clamp (by omega)]
  refine run_X9_kinds 13 ?_
  repeat (first | refine And.intro (fun e => absurd e (by decide)) (fun e => ?_) | refine And.intro (fun e => ?_) (fun e => absurd e (by decide)) | refine Exists.intro _ (And.intro rfl ?_) | refine And.intro rfl ?_)
  refine r_noPerson hn0 (fun g1 g2 => ?_) (fun g1 => absurd ⟨by rw [nI_toInt (by omega)]; omega, by rw [nI_toInt (by omega)]; exact hp0⟩ g1)
  refine And.intro (fun _ => ?_) (fun e => absurd rfl e)
  refine Exists.intro _ (And.intro (rfl) ?_)
  refine Exists.intro _ (And.intro (a0 _) ?_)
  have h := loop 3 0 0 0 ((l 45).getD p 0) rfl rfl rfl
  rw [set_self, u1_self] at h
  exact h
theorem both_kinds {p : Int32} (hI : Inv f l q) : both scr ix_X8_kinds ix_X9_kinds [some (.ref 1), some (.int p), none] [some (.ref 43), some (.int p), none, none, none] f l q := by
  intro P hP
  obtain ⟨⟨⟨hn1, hn2, hn3⟩, hL, hE, hR⟩, hPp, hD, hM, hS⟩ := id hI
  obtain ⟨N, hN, hN2⟩ := nI_ex hD.1.1
  have hNb : N ≤ 8 := by have := hD.1.2; omega
  refine run_X8_kinds 30 ?_
  repeat (first | refine And.intro (fun e => absurd e (by decide)) (fun e => ?_) | refine And.intro (fun e => ?_) (fun e => absurd e (by decide)) | refine Exists.intro _ (And.intro rfl ?_) | refine And.intro rfl ?_)
  refine s_personOf (b := 2) (Or.inl rfl) hn2 (fun c d => ?_) (fun c => ?_)
  · obtain ⟨⟨k1, k2, k3⟩, k4, k5, k6, k7⟩ := pfacts hI c d
    obtain ⟨-, m5, m6, m7, m8⟩ := plens hI
    obtain ⟨p, rfl, hp⟩ := nI_ex c
    have hcl : (nI p).toNatClampNeg = p := nI_clamp (by omega)
    rw [hcl] at k1 k3 k4 k5 k6 k7 ⊢
    have hd : ∀ k, k < N → 0 ≤ ((l 30).getD k 0).toInt ∧ ((l 30).getD k 0).toInt < (f 2 3).toInt := fun k hk => hD.2.2 k (by rw [hN, nI_clamp (by omega)]; exact hk)
    repeat (first | refine And.intro (fun e => absurd e (by decide)) (fun e => ?_) | refine And.intro (fun e => ?_) (fun e => absurd e (by decide)) | refine Exists.intro _ (And.intro rfl ?_) | refine And.intro rfl ?_)
    refine s_kindsOf hNb hN k1 hn2 hL.2.2.1.1 hL.2.2.1.2 hd (fun F hF => ?_)
    have hIF := inv_32 hI hF
    have e60 : l 60 = l 30 := hE.2.2.1
    have e61 : l 61 = l 31 := hE.2.2.2
    refine hP _ _ _ _ (fun P2 h2 => ?_)
    refine r_kinds hNb (by rw [hF _ _ (by decide), hD.2.1]; exact hN) (by rw [hF _ _ (by decide), hn3]; exact hn1) (by rw [hF _ _ (by decide), hn3]; omega) k1 m5 m8 (by rw [e60]; exact hL.2.2.1.1) (by rw [e61]; exact hL.2.2.1.2) (by rw [e60]; exact fun k hk => ⟨(hd k hk).1, by have := (hd k hk).2; omega⟩) ?_
    rw [e60, e61]
    have eo : orS (fun v => sob (Tr (u1 l 45 ((l 45).set p (nI v)))) (l 30) (l 31) N) 3 = orS (fun v => sob (Tk f p v) (l 30) (l 31) N) 3 := by
      refine orS_congr (fun v hv => sob_congr (fun k hk => ?_))
      have h1 := hd k hk
      have h2 := ix_i h1.1
      generalize ((l 30).getD k 0).toNatClampNeg = x at *
      show tk (((l 45).set p (nI v)).getD x 0) ((l 48).getD x 0) = (if x = p then _ else _)
      rw [hE.2.1.1, hE.2.1.2.2.2, getD_set, col_at (by omega), col_at (by omega)]
      by_cases h : x = p
      · rw [if_pos h, if_pos ⟨h.symm, by show p < 6; exact k1⟩, h]
      · rw [if_neg h, if_neg (fun g => h g.1.symm)]
    rw [eo]
    exact h2 _ _ _ hIF
  · repeat (first | refine And.intro (fun e => absurd e (by decide)) (fun e => ?_) | refine And.intro (fun e => ?_) (fun e => absurd e (by decide)) | refine Exists.intro _ (And.intro rfl ?_) | refine And.intro rfl ?_)
    refine hP _ f l q (fun P2 h2 => ?_)
    refine run_X9_kinds 30 ?_
    repeat (first | refine And.intro (fun e => absurd e (by decide)) (fun e => ?_) | refine And.intro (fun e => ?_) (fun e => absurd e (by decide)) | refine Exists.intro _ (And.intro rfl ?_) | refine And.intro rfl ?_)
    refine r_noPerson (by rw [hn3]; exact hn1) (fun g1 g2 => absurd ⟨g1, by rw [← hn3]; exact g2⟩ c) (fun g1 => ?_)
    repeat (first | refine And.intro (fun e => absurd e (by decide)) (fun e => ?_) | refine And.intro (fun e => ?_) (fun e => absurd e (by decide)) | refine Exists.intro _ (And.intro rfl ?_) | refine And.intro rfl ?_)
    exact h2 f l q hI
end SK
