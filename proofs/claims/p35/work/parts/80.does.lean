/-! the law: acts -/
section LI
variable {scr : Option (List Int32)} {P : ba_P} {w : ba_W} {f : Nat → Nat → Int32} {l : Nat → List Int32} {q : List (List Int32)}
variable {n : Nat}
/-- one person changed, and what goes with it -/
theorem SS.mk1 {F : Nat → Nat → Int32} {L : Nat → List Int32} {k x : Nat} (h : SS f l n) (hk : k < n) (hx : x < 320) (hx3 : x % 4 < 3) (hF : ∀ a b, ¬ a = 9 + k → ¬ a = 0 → F a b = f a b) (k0 : F (9 + k) 0 = nI (x % 4)) (k1 : F (9 + k) 1 = nI (x / 4 % 2)) (k2 : F (9 + k) 2 = nI (x / 8 % 4)) (k3 : F (9 + k) 3 = nI (x / 32))
    (h6 : L 6 = l 6) (h7 : L 7 = l 7) (h30 : L 30 = l 30) (h31 : L 31 = l 31) (r1 : (L 5).length = 12) (r2 : rv (L 5)) (i1 : (L 3).length = 2) (i2 : nv (L 3)) (w1 : (L 42).length = 22) (w0 : (L 42).getD 0 0 = nI n) (wa : (L 42).getD 1 0 = (L 3).getD 0 0) (wb : (L 42).getD 2 0 = (L 3).getD 1 0) (ws : (L 42).getD 3 0 = F 0 5)
    (wr : ∀ i, i < 12 → (L 42).getD (4 + i) 0 = (L 5).getD i 0) (wk : (L 42).getD (16 + k) 0 = nI x) (wo : ∀ p, p < n → ¬ p = k → (L 42).getD (16 + p) 0 = (l 42).getD (16 + p) 0) : SS F L n := by
  have n6 := h.n6
  have hpv : ∀ p, p < 6 → pv (F (9 + p)) := fun p hp => by
    by_cases e : p = k
    · subst e
      show (0 ≤ (F (9 + p) 0).toInt ∧ (F (9 + p) 0).toInt ≤ 2) ∧ (0 ≤ (F (9 + p) 1).toInt ∧ (F (9 + p) 1).toInt ≤ 1) ∧ (0 ≤ (F (9 + p) 2).toInt ∧ (F (9 + p) 2).toInt ≤ 3) ∧ (0 ≤ (F (9 + p) 3).toInt ∧ (F (9 + p) 3).toInt ≤ 9)
      rw [k0, k1, k2, k3, nI_toInt (by omega), nI_toInt (by omega), nI_toInt (by omega), nI_toInt (by omega)]
      omega
    · have : F (9 + p) = f (9 + p) := funext fun b => hF _ b (by omega) (by omega)
      rw [this]
      exact h.1.2.2.2.at hp
  refine ⟨⟨⟨by rw [hF 2 3 (by omega) (by omega)]; exact h.1.1.1, h.1.1.2⟩, ⟨i1, r1, by rw [h6]; exact h.1.2.1.2.2.1, by rw [h7]; exact h.1.2.1.2.2.2.1, by rw [h30]; exact h.1.2.1.2.2.2.2.1, by rw [h31]; exact h.1.2.1.2.2.2.2.2⟩, ⟨r2, i2⟩, ⟨hpv 0 (by decide), hpv 1 (by decide), hpv 2 (by decide), hpv 3 (by decide), hpv 4 (by decide), hpv 5 (by decide)⟩⟩, ⟨w1, w0, wa, wb, ws⟩, wr, fun p hp => ?_⟩
  by_cases e : p = k
  · subst e
    have ep : px L p = x := by unfold px; rw [wk, nI_clamp (by omega)]
    rw [ep]
    exact ⟨⟨wk, hx, hx3⟩, k0, k1, k2, k3⟩
  · have ep : px L p = px l p := by unfold px; rw [wo p hp e]
    rw [ep, wo p hp e, hF _ _ (by omega) (by omega), hF _ _ (by omega) (by omega), hF _ _ (by omega) (by omega), hF _ _ (by omega) (by omega)]
    exact h.2.2.2 p hp
theorem WR.set {b : Nat} {v : Int32} (h : WR l) (hb : b < 4 ∨ 16 ≤ b) : WR (u1 l 42 ((l 42).set b v)) := by
  refine ⟨by rw [u1_eq, List.length_set]; exact h.1, h.2.1, h.2.2.1, fun i hi => ?_⟩
  rw [u1_eq, getD_set, if_neg (by omega)]
  exact h.2.2.2 i hi
/-- an act: struck (by < 3), or washed (3) -/
theorem s_Ldoes {p S x b ink nm : Nat} {y a : Int32} (h : WR l) (hy : y = nI p) (ha : a = nI S) (hp : p < 6) (hS : S < 4) (hx : (l 42).getD (16 + p) 0 = nI x) (hx3 : x < 320)
    (hb : b = if S = 3 then 1 + x / 4 % 2 else 2 - x / 4 % 2) (hi : ink = if S = 3 then 1 else ty x) (hm : nm = if S = 3 then 0 else gs (l 5) S (x / 8 % 4))
    (h0 : ((l 42).getD b 0).toInt < ink → P (some (.int 0)) (wW f l q))
    (h1 : ¬ ((l 42).getD b 0).toInt < ink → P (some (.int 1)) (wW f (u1 l 42 (((l 42).set b ((l 42).getD b 0 - nI ink)).set (16 + p) (nI (pm x nm)))) q)) :
    ba_go scr ix_L_does 0 [some (.ref 43), some (.int y), some (.int a), none, none] [] (wW f l q) 0 0 P := by
  subst hy; subst ha
  have h22 := h.1
  have ht := ty_lt hx3
  have hm4 : x / 8 % 4 < 4 := Nat.mod_lt _ (by decide)
  have hb3 : 1 ≤ b ∧ b < 3 := by rw [hb]; split <;> omega
  have hi21 : ink < 100 := by rw [hi]; split <;> omega
  have hnm : nm < 4 := by
    rw [hm]
    split
    · decide
    · exact gs_lt h.2.2.1 hm4 (by omega)
  have ew := ldW (f := f) (q := q) h22 (i := b) (by omega) rfl
  have sw := stW (f := f) (q := q) h22 (i := b) (v := (l 42).getD b 0 - nI ink) (by omega) rfl
  have hW2 := h.set (b := b) (v := (l 42).getD b 0 - nI ink) (Or.inl (by omega))
  have hx2 : ((u1 l 42 ((l 42).set b ((l 42).getD b 0 - nI ink))) 42).getD (16 + p) 0 = nI x := by rw [u1_eq, getD_set, if_neg (by omega)]; exact hx
  -- behind ink and place
  have last : ba_go scr ix_L_does 37 [some (.ref 43), some (.int (nI p)), some (.int (nI S)), some (.int (nI b)), none] [.int (nI ink)] (wW f l q) 0 0 P := by
    refine run_L_does 6 ?_
    refine Exists.intro _ (And.intro (ew _) ?_)
    refine And.intro (fun d => ?_) (fun d => ?_)
    · have d : nI ink ≤ (l 42).getD b 0 := d
      rw [le_i, nI_toInt (by omega)] at d
      have h2 := h1 (by omega)
      refine run_L_does 7 ?_
      refine Exists.intro _ (And.intro (ew _) ?_)
      refine Exists.intro _ (And.intro (sw) ?_)
      have tail : ba_go scr ix_L_does 78 [some (.ref 43), some (.int (nI p)), some (.int (nI S)), some (.int (nI b)), some (.int (nI ink))] [.int (nI nm), .int (nI p), .ref 43] (wW f (u1 l 42 ((l 42).set b ((l 42).getD b 0 - nI ink))) q) 0 0 P := by
        refine run_L_does 1 ?_
        refine And.intro rfl (s_Lmarks hW2.1 rfl rfl hp hnm hx2 hx3 ?_)
        refine run_L_does 2 ?_
        refine And.intro rfl ?_
        have e : u1 (u1 l 42 ((l 42).set b ((l 42).getD b 0 - nI ink))) 42 (((u1 l 42 ((l 42).set b ((l 42).getD b 0 - nI ink))) 42).set (16 + p) (nI (pm x nm))) = u1 l 42 (((l 42).set b ((l 42).getD b 0 - nI ink)).set (16 + p) (nI (pm x nm))) := by
          rw [u1_eq, u1_u1]
        rw [e]
        exact h2
      refine run_L_does 5 ?_
      by_cases e3 : S = 3
      · rw [if_pos e3] at hm
        subst hm
        refine And.intro (fun d2 => absurd (by show nI S = nI 3; rw [e3]) d2) (fun _ => ?_)
        refine run_L_does 2 ?_
        exact tail
      · rw [if_neg e3] at hm
        refine And.intro (fun _ => ?_) (fun d2 => ?_)
        · refine run_L_does 4 ?_
          refine And.intro rfl (s_Lmark hW2.1 rfl hp hx2 hx3 ?_)
          refine run_L_does 2 ?_
          refine And.intro rfl (s_Lr hW2 rfl rfl hm4 (by omega) ?_)
          have t := tail
          rw [hm] at t
          exact t
        · exfalso
          have d2 : nI S = nI 3 := Classical.not_not.mp d2
          rw [nI_eq (by omega) (by decide)] at d2
          exact e3 d2
    · have d : ¬ nI ink ≤ (l 42).getD b 0 := d
      rw [le_i, nI_toInt (by omega)] at d
      refine run_L_does 2 ?_
      exact And.intro rfl (h0 (by omega))
  refine run_L_does 3 ?_
  by_cases e3 : S = 3
  · rw [if_pos e3] at hb hi
    refine And.intro (fun d2 => absurd (by show nI S = nI 3; rw [e3]) d2) (fun _ => ?_)
    refine run_L_does 4 ?_
    refine And.intro rfl (s_Loffice h22 rfl hp hx hx3 ?_)
    have go : ba_go scr ix_L_does 22 [some (.ref 43), some (.int (nI p)), some (.int (nI S)), none, none] [.int (nI b)] (wW f l q) 0 0 P := by
      refine run_L_does 4 ?_
      refine And.intro (fun d2 => absurd (by show nI S = nI 3; rw [e3]) d2) (fun _ => ?_)
      refine run_L_does 2 ?_
      rw [hi] at last
      exact last
    have eb : Int32.ofInt 1 + nI (x / 4 % 2) = nI b := by rw [hb]; exact nI_add 1 (x / 4 % 2)
    rw [← eb] at go
    refine run_L_does 2 ?_
    exact go
  · rw [if_neg e3] at hb hi
    refine And.intro (fun _ => ?_) (fun d2 => ?_)
    · refine run_L_does 4 ?_
      refine And.intro rfl (s_Loffice h22 rfl hp hx hx3 ?_)
      have go : ba_go scr ix_L_does 22 [some (.ref 43), some (.int (nI p)), some (.int (nI S)), none, none] [.int (nI b)] (wW f l q) 0 0 P := by
        refine run_L_does 4 ?_
        refine And.intro (fun _ => ?_) (fun d2 => ?_)
        · refine run_L_does 3 ?_
          refine And.intro rfl (s_Ltakes h22 rfl hp hx hx3 ?_)
          rw [hi] at last
          exact last
        · exfalso
          have d2 : nI S = nI 3 := Classical.not_not.mp d2
          rw [nI_eq (by omega) (by decide)] at d2
          exact e3 d2
      have eb : Int32.ofInt 2 - nI (x / 4 % 2) = nI b := by rw [hb]; exact nI_sub (a := 2) (by omega) (by decide)
      rw [← eb] at go
      refine run_L_does 1 ?_
      exact go
    · exfalso
      have d2 : nI S = nI 3 := Classical.not_not.mp d2
      rw [nI_eq (by omega) (by decide)] at d2
      exact e3 d2
end LI
