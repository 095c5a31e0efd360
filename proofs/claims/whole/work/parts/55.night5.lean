/-! night: the reference's keeping, acts, pairs -/
theorem set2 {X Z : List Int32} (hX : X.length = 2) (hZ : Z.length = 2) : (X.set 0 (Z.getD 0 0)).set 1 (Z.getD 1 0) = Z := by
  match X, Z, hX, hZ with
  | [a, b], [c, d], _, _ => rfl
def RW (l G : Nat → List Int32) (I M : List Int32) : Prop := G 43 = I ∧ G 47 = M ∧ ∀ x, ¬ x = 43 → ¬ x = 47 → G x = l x
section N5
variable {scr : Option (List Int32)} {P : ba_P} {w : ba_W} {f : Nat → Nat → Int32} {l : Nat → List Int32} {q : Nat → List Int64}
variable {G : Nat → List Int32}
theorem set_43 {X : List Int32} : (wW f l q).set 43 (.inl (.int, .inl X)) = wW f (u1 l 43 X) q := rfl
theorem set_47 {X : List Int32} : (wW f l q).set 47 (.inl (.int, .inl X)) = wW f (u1 l 47 X) q := rfl
theorem set_55 {X : List Int32} : (wW f l q).set 55 (.inl (.int, .inl X)) = wW f (u1 l 55 X) q := rfl
theorem set_56 {X : List Int32} : (wW f l q).set 56 (.inl (.int, .inl X)) = wW f (u1 l 56 X) q := rfl
theorem r_keepAll {n : Nat} (hn : n ≤ 6) (hc : f 42 1 = nI n) (h43 : (l 43).length = 2) (h47 : (l 47).length = 6) (h55 : (l 55).length = 2) (h56 : (l 56).length = 6) (hP : ∀ Y : List Int32, Y.length = 6 → (∀ p, p < n → Y.getD p 0 = (l 47).getD p 0) → P none (wW f (u1 (u1 l 55 (l 43)) 56 Y) q)) : ba_go scr ix_X9_keepAll 0 [some (.ref 43), none] [] (wW f l q) 0 0 P := by
  have a43 : ∀ (xs : Option (List Int32)) (X : List Int32) (j : Nat), j < 2 → ba_ldI xs (wW f (u1 l 55 X) q) 44 (nI j) = some ((l 43).getD j 0) := fun xs X j hj => by
    rw [ldI_of (l := l 43) rfl (by rw [nI_toInt (by omega)]; omega) (by rw [nI_toInt (by omega), h43]; omega), nI_clamp (by omega)]
  have a0 := fun xs => a43 xs (l 55) 0 (by decide)
  rw [u1_self] at a0
  have st : ∀ (X : List Int32) (j : Nat) (v : Int32), X.length = 2 → j < 2 → ba_stI (wW f (u1 l 55 X) q) 56 (nI j) v = some (wW f (u1 l 55 (X.set j v)) q) := fun X j v hX hj => by
    rw [stI_of (l := X) rfl (by rw [nI_toInt (by omega)]; omega) (by rw [nI_toInt (by omega), hX]; omega), nI_clamp (by omega), set_55, u1_u1]
  have st0 := fun v => st (l 55) 0 v h55 (by decide)
  rw [u1_self] at st0
  have loop : ∀ (m i : Nat) (x : Int32) (Y : List Int32), i + m = n → x = nI i → Y.length = 6 → (∀ p, p < i → Y.getD p 0 = (l 47).getD p 0) → ba_go scr ix_X9_keepAll 26 [some (.ref 43), some (.int x)] [] (wW f (u1 (u1 l 55 (l 43)) 56 Y) q) 0 0 P := by
    intro m
    induction m with
    | zero =>
      intro i x Y g1 g2 g3 g4
      subst g2
      have h4 : i = n := by omega
      subst h4
      refine run_X9_keepAll 6 ?_
      refine Exists.intro _ (And.intro (rfl) ?_)
      rw [hc]
      refine And.intro (fun _ => ?_) (fun e => absurd (by show nI i ≤ nI i; rw [le_i]; omega) e)
      exact hP Y g3 g4
    | succ m ih =>
      intro i x Y g1 g2 g3 g4
      subst g2
      have a47 : ∀ xs, ba_ldI xs (wW f (u1 (u1 l 55 (l 43)) 56 Y) q) 48 (nI i) = some ((l 47).getD i 0) := fun xs => by
        rw [ldI_of (l := l 47) rfl (by rw [nI_toInt (by omega)]; omega) (by rw [nI_toInt (by omega), h47]; omega), nI_clamp (by omega)]
      have s56 : ∀ v, ba_stI (wW f (u1 (u1 l 55 (l 43)) 56 Y) q) 57 (nI i) v = some (wW f (u1 (u1 l 55 (l 43)) 56 (Y.set i v)) q) := fun v => by
        rw [stI_of (l := Y) rfl (by rw [nI_toInt (by omega)]; omega) (by rw [nI_toInt (by omega), g3]; omega), nI_clamp (by omega), set_56, u1_u1]
      refine run_X9_keepAll 14 ?_
      refine Exists.intro _ (And.intro (rfl) ?_)
      rw [hc]
      refine And.intro (fun e => absurd e (by show ¬ nI n ≤ nI i; rw [le_i, nI_toInt (by omega), nI_toInt (by omega)]; omega)) (fun _ => ?_)
      refine Exists.intro _ (And.intro (rfl) ?_)
      refine Exists.intro _ (And.intro (rfl) ?_)
      refine Exists.intro _ (And.intro (a47 _) ?_)
      refine Exists.intro _ (And.intro (s56 _) ?_)
      refine ih (i + 1) _ _ (by omega) (nI_1 i) (by rw [List.length_set]; exact g3) (fun p hp => ?_)
      rw [getD_set]
      by_cases h : i = p
      · rw [if_pos ⟨h, by omega⟩, h]
      · rw [if_neg (fun e => h e.1)]
        exact g4 p (by omega)
  refine run_X9_keepAll 18 ?_
  refine Exists.intro _ (And.intro (rfl) ?_)
  refine Exists.intro _ (And.intro (rfl) ?_)
  refine Exists.intro _ (And.intro (a0 _) ?_)
  refine Exists.intro _ (And.intro (st0 _) ?_)
  refine Exists.intro _ (And.intro (rfl) ?_)
  refine Exists.intro _ (And.intro (rfl) ?_)
  refine Exists.intro _ (And.intro (a43 _ _ 1 (by decide)) ?_)
  refine Exists.intro _ (And.intro (st _ 1 _ (by rw [List.length_set]; exact h55) (by decide)) ?_)
  rw [set2 h55 h43]
  have h := loop n 0 0 (l 56) (by omega) rfl h56 (fun p hp => absurd hp (by omega))
  rw [show u1 (u1 l 55 (l 43)) 56 (l 56) = u1 l 55 (l 43) from u1_self (l := u1 l 55 (l 43)) (i := 56)] at h
  exact h
theorem r_bringBack {n : Nat} (hn : n ≤ 6) (hc : f 42 1 = nI n) (h43 : (l 43).length = 2) (h47 : (l 47).length = 6) (h55 : (l 55).length = 2) (h56 : (l 56).length = 6) (hP : ∀ Y : List Int32, Y.length = 6 → (∀ p, p < n → Y.getD p 0 = (l 56).getD p 0) → (∀ p, n ≤ p → Y.getD p 0 = (l 47).getD p 0) → P none (wW f (u1 (u1 l 43 (l 55)) 47 Y) q)) : ba_go scr ix_X9_bringBack 0 [some (.ref 43), none] [] (wW f l q) 0 0 P := by
  have a43 : ∀ (xs : Option (List Int32)) (X : List Int32) (j : Nat), j < 2 → ba_ldI xs (wW f (u1 l 43 X) q) 56 (nI j) = some ((l 55).getD j 0) := fun xs X j hj => by
    rw [ldI_of (l := l 55) rfl (by rw [nI_toInt (by omega)]; omega) (by rw [nI_toInt (by omega), h55]; omega), nI_clamp (by omega)]
  have a0 := fun xs => a43 xs (l 43) 0 (by decide)
  rw [u1_self] at a0
  have st : ∀ (X : List Int32) (j : Nat) (v : Int32), X.length = 2 → j < 2 → ba_stI (wW f (u1 l 43 X) q) 44 (nI j) v = some (wW f (u1 l 43 (X.set j v)) q) := fun X j v hX hj => by
    rw [stI_of (l := X) rfl (by rw [nI_toInt (by omega)]; omega) (by rw [nI_toInt (by omega), hX]; omega), nI_clamp (by omega), set_43, u1_u1]
  have st0 := fun v => st (l 43) 0 v h43 (by decide)
  rw [u1_self] at st0
  have loop : ∀ (m i : Nat) (x : Int32) (Y : List Int32), i + m = n → x = nI i → Y.length = 6 → (∀ p, p < i → Y.getD p 0 = (l 56).getD p 0) → (∀ p, i ≤ p → Y.getD p 0 = (l 47).getD p 0) → ba_go scr ix_X9_bringBack 26 [some (.ref 43), some (.int x)] [] (wW f (u1 (u1 l 43 (l 55)) 47 Y) q) 0 0 P := by
    intro m
    induction m with
    | zero =>
      intro i x Y g1 g2 g3 g4 g5
      subst g2
      have h4 : i = n := by omega
      subst h4
      refine run_X9_bringBack 6 ?_
      refine Exists.intro _ (And.intro (rfl) ?_)
      rw [hc]
      refine And.intro (fun _ => ?_) (fun e => absurd (by show nI i ≤ nI i; rw [le_i]; omega) e)
      exact hP Y g3 g4 g5
    | succ m ih =>
      intro i x Y g1 g2 g3 g4 g5
      subst g2
      have a56 : ∀ xs, ba_ldI xs (wW f (u1 (u1 l 43 (l 55)) 47 Y) q) 57 (nI i) = some ((l 56).getD i 0) := fun xs => by
        rw [ldI_of (l := l 56) rfl (by rw [nI_toInt (by omega)]; omega) (by rw [nI_toInt (by omega), h56]; omega), nI_clamp (by omega)]
      have s47 : ∀ v, ba_stI (wW f (u1 (u1 l 43 (l 55)) 47 Y) q) 48 (nI i) v = some (wW f (u1 (u1 l 43 (l 55)) 47 (Y.set i v)) q) := fun v => by
        rw [stI_of (l := Y) rfl (by rw [nI_toInt (by omega)]; omega) (by rw [nI_toInt (by omega), g3]; omega), nI_clamp (by omega), set_47, u1_u1]
      refine run_X9_bringBack 14 ?_
      refine Exists.intro _ (And.intro (rfl) ?_)
      rw [hc]
      refine And.intro (fun e => absurd e (by show ¬ nI n ≤ nI i; rw [le_i, nI_toInt (by omega), nI_toInt (by omega)]; omega)) (fun _ => ?_)
      refine Exists.intro _ (And.intro (rfl) ?_)
      refine Exists.intro _ (And.intro (rfl) ?_)
      refine Exists.intro _ (And.intro (a56 _) ?_)
      refine Exists.intro _ (And.intro (s47 _) ?_)
      refine ih (i + 1) _ _ (by omega) (nI_1 i) (by rw [List.length_set]; exact g3) (fun p hp => ?_) (fun p hp => ?_)
      · rw [getD_set]
        by_cases h : i = p
        · rw [if_pos ⟨h, by omega⟩, h]
        · rw [if_neg (fun e => h e.1)]
          exact g4 p (by omega)
      · rw [getD_set, if_neg (by omega)]
        exact g5 p (by omega)
  refine run_X9_bringBack 18 ?_
  refine Exists.intro _ (And.intro (rfl) ?_)
  refine Exists.intro _ (And.intro (rfl) ?_)
  refine Exists.intro _ (And.intro (a0 _) ?_)
  refine Exists.intro _ (And.intro (st0 _) ?_)
  refine Exists.intro _ (And.intro (rfl) ?_)
  refine Exists.intro _ (And.intro (rfl) ?_)
  refine Exists.intro _ (And.intro (a43 _ _ 1 (by decide)) ?_)
  refine Exists.intro _ (And.intro (st _ 1 _ (by rw [List.length_set]; exact h43) (by decide)) ?_)
  rw [set2 h43 h55]
  have h := loop n 0 0 (l 47) (by omega) rfl h47 (fun p hp => absurd hp (by omega)) (fun p hp => rfl)
  rw [show u1 (u1 l 43 (l 55)) 47 (l 47) = u1 l 43 (l 55) from u1_self (l := u1 l 43 (l 55)) (i := 47)] at h
  exact h
theorem r_pairs {FR N n : Nat} {C : Nat → Int32} {xf : Int32} (hxf : xf = nI FR) (hIN : FR + 2 * N ≤ 240) (h64 : (l 64).length = 240) (hC : ∀ t, t < 2 * N → (l 64).getD (FR + t) 0 = C t) (hn : n ≤ 6) (hn2 : f 42 1 = nI n)
    (hP : P (some (.int (pbs (pA C) (pQ C n) N 0))) (wW f l q)) : ba_go scr ix_X9_pairsBarred 0 [some (.ref 43), some (.int xf), some (.int (nI N)), none] [] (wW f l q) 0 0 P := by
  subst hxf
  have hx0 : ∀ j, nI FR + Int32.ofInt 2 * nI j = nI (FR + 2 * j) := fun j => by
    show nI FR + nI 2 * nI j = _
    rw [nI_mul, nI_add]
  have hx1 : ∀ j, nI FR + Int32.ofInt 2 * nI j + Int32.ofInt 1 = nI (FR + (2 * j + 1)) := fun j => by rw [hx0]; exact nI_1 _
  have a64 : ∀ (xs : Option (List Int32)) (t : Nat) (y : Int32), t < 2 * N → y = nI (FR + t) → ba_ldI xs (wW f l q) 65 y = some (C t) := fun xs t y ht hy => by
    subst hy
    rw [ldI_of (l := l 64) rfl (by rw [nI_toInt (by omega)]; omega) (by rw [nI_toInt (by omega), h64]; omega), nI_clamp (by omega), hC t ht]
  have loop : ∀ (m j : Nat) (x : Int32), j + m = N → x = nI j → P (some (.int (pbs (pA C) (pQ C n) m j))) (wW f l q) → ba_go scr ix_X9_pairsBarred 2 [some (.ref 43), some (.int (nI FR)), some (.int (nI N)), some (.int x)] [] (wW f l q) 0 0 P := by
    intro m
    induction m with
    | zero =>
      intro j x g1 g2 h
      subst g2
      have h4 : j = N := by omega
      subst h4
      refine run_X9_pairsBarred 6 ?_
      refine And.intro (fun _ => ?_) (fun e => absurd (by show nI j ≤ nI j; rw [le_i]; omega) e)
      exact h
    | succ m ih =>
      intro j x g1 g2 h
      subst g2
      have h : P (some (.int (if pA C j then (if pQ C n j then pbs (pA C) (pQ C n) m (j + 1) else -1) else -2))) (wW f l q) := h
      have eA : pA C j = decide (0 ≤ (C (2 * j + 1)).toInt ∧ (C (2 * j + 1)).toInt ≤ 3) := rfl
      have eQ : pQ C n j = decide (0 ≤ (C (2 * j)).toInt ∧ (C (2 * j)).toInt < n) := rfl
      rw [eA, eQ] at h
      refine run_X9_pairsBarred 17 ?_
      refine And.intro (fun e => absurd e (by show ¬ nI N ≤ nI j; rw [le_i, nI_toInt (by omega), nI_toInt (by omega)]; omega)) (fun _ => ?_)
      refine Exists.intro _ (And.intro (rfl) ?_)
      refine Exists.intro _ (And.intro (a64 _ (2 * j + 1) _ (by omega) (hx1 j)) ?_)
      refine And.intro rfl (s_in (x := (C (2 * j + 1)).toInt) (a := 0) (b := 3) l64 rfl rfl (fun c d => ?_) (fun c => ?_))
      · rw [decide_eq_true (And.intro c d)] at h
        refine run_X9_pairsBarred 11 ?_
        refine And.intro (fun _ => ?_) (fun e => absurd (by decide) e)
        refine Exists.intro _ (And.intro (rfl) ?_)
        refine Exists.intro _ (And.intro (a64 _ (2 * j) _ (by omega) (hx0 j)) ?_)
        refine And.intro rfl (r_noPerson (by rw [hn2, nI_toInt (by omega)]; omega) (fun r1 r2 => ?_) (fun r => ?_))
        · rw [hn2, nI_toInt (by omega)] at r2
          rw [decide_eq_true (And.intro r1 r2)] at h
          refine run_X9_pairsBarred 3 ?_
          refine And.intro (fun _ => ?_) (fun e => absurd rfl e)
          exact ih (j + 1) _ (by omega) (nI_1 j) h
        · rw [hn2, nI_toInt (by omega)] at r
          rw [decide_eq_false r] at h
          refine run_X9_pairsBarred 4 ?_
          refine And.intro (fun e => absurd e (by decide)) (fun _ => ?_)
          exact h
      · rw [decide_eq_false c] at h
        refine run_X9_pairsBarred 4 ?_
        refine And.intro (fun e => absurd rfl e) (fun _ => ?_)
        exact h
  refine run_X9_pairsBarred 2 ?_
  exact loop N 0 0 (by omega) rfl hP
theorem r_str {K O N : Nat → Int32} {I M : List Int32} {p : Nat} {a : Int32} (hW : RW l G I M) (hp : p < 6) (hI : iv I) (hM : mv M) (h44 : (l 44).length = 12) (h45 : (l 45).length = 6) (h46 : (l 46).length = 6) (h48 : (l 48).length = 6) (hk : kv K O N) (hK : (l 45).getD p 0 = K p ∧ (l 46).getD p 0 = O p ∧ (l 48).getD p 0 = N p) (ha : 0 ≤ a.toInt) (ha2 : a.toInt ≤ 2)
    (h0 : nok K O N I p a = false → P (some (.int 0)) (wW f G q)) (h1 : nok K O N I p a = true → ∀ G', RW l G' (nin K O N I p a) (nmk (l 44) M p a) → P (some (.int 1)) (wW f G' q)) :
    ba_go scr ix_X9_struck 0 [some (.ref 43), some (.int (nI p)), some (.int a), none, none] [] (wW f G q) 0 0 P := by
  have hX : (nI p).toNatClampNeg = p := nI_clamp (by omega)
  have hX0 : (nI p).toInt = p := nI_toInt (by omega)
  have a3 : ¬ a = 3 := fun e => by rw [e, show (3 : Int32).toInt = 3 from rfl] at ha2; omega
  obtain ⟨e43, e47, eo⟩ := hW
  have e44 := eo 44 (by decide) (by decide)
  have e45 := eo 45 (by decide) (by decide)
  have e46 := eo 46 (by decide) (by decide)
  have e48 := eo 48 (by decide) (by decide)
  obtain ⟨k0, k1, k3⟩ := hK
  obtain ⟨v0, v1, v3⟩ := hk p hp
  unfold nok nin nmk at *
  simp only [if_neg a3] at *
  refine r_struck (l := G) (by omega) (by omega) (by rw [e43]; exact hI.1) (by rw [e44]; exact h44) (by rw [e45]; exact h45) (by rw [e46]; exact h46) (by rw [e47]; exact hM.1) (by rw [e48]; exact h48) (by rw [e46, hX, k1]; exact v1) (by rw [e47, hX]; exact hM.2 p hp) ha ha2 (fun g => ?_) (fun g => ?_)
  · rw [hX, e43, e46, e45, e48, k0, k1, k3] at g
    exact h0 (by rw [decide_eq_true g]; rfl)
  · rw [hX, e43, e46, e45, e48, k0, k1, k3] at g
    rw [hX]
    refine h1 (by rw [decide_eq_false g]; rfl) _ ⟨?_, ?_, fun x hx hy => ?_⟩
    · rw [u1_ne (by decide), u1_eq, e43, e46, e45, e48, k0, k1, k3]
    · rw [u1_eq, e47, e44]
    · rw [u1_ne hy, u1_ne hx, eo x hx hy]
theorem r_wsh {K O N : Nat → Int32} {I M : List Int32} {p : Nat} {R : List Int32} (hW : RW l G I M) (hp : p < 6) (hI : iv I) (hM : mv M) (h46 : (l 46).length = 6) (hk : kv K O N) (hK : (l 46).getD p 0 = O p)
    (h0 : nok K O N I p 3 = false → P (some (.int 0)) (wW f G q)) (h1 : nok K O N I p 3 = true → ∀ G', RW l G' (nin K O N I p 3) (nmk R M p 3) → P (some (.int 1)) (wW f G' q)) :
    ba_go scr ix_X9_washed 0 [some (.ref 43), some (.int (nI p)), none] [] (wW f G q) 0 0 P := by
  have hX : (nI p).toNatClampNeg = p := nI_clamp (by omega)
  have hX0 : (nI p).toInt = p := nI_toInt (by omega)
  obtain ⟨e43, e47, eo⟩ := hW
  have e46 := eo 46 (by decide) (by decide)
  obtain ⟨v0, v1, v3⟩ := hk p hp
  have hxo := ix_i v1.1
  have hv := hI.2 (O p).toNatClampNeg (by omega)
  unfold nok nin nmk at *
  simp only [if_true] at *
  refine r_washed (l := G) (by omega) (by omega) (by rw [e43]; exact hI.1) (by rw [e46]; exact h46) (by rw [e47]; exact hM.1) (by rw [e46, hX, hK]; exact v1) (fun g => ?_) (fun g => ?_)
  · rw [hX, e43, e46, hK] at g
    exact h0 (by rw [decide_eq_true (show I.getD (O p).toNatClampNeg 0 = 0 by rw [eq_i, zi]; omega)]; rfl)
  · rw [hX, e43, e46, hK] at g
    rw [hX]
    refine h1 (by rw [decide_eq_false (show ¬ I.getD (O p).toNatClampNeg 0 = 0 by rw [eq_i, zi]; omega)]; rfl) _ ⟨?_, ?_, fun x hx hy => ?_⟩
    · rw [u1_ne (by decide), u1_eq, e43, e46, hK]
    · rw [u1_eq, e47]
    · rw [u1_ne hy, u1_ne hx, eo x hx hy]
end N5
