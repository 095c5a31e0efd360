/-! the law: a war is laid -/
def AL (f F : Nat → Nat → Int32) (l L : Nat → List Int32) (n p : Nat) : Prop := B0 f F l L n ∧ Ti L 2 ∧ Tu L 12 ∧ Tp L p
def PT (L : Nat → List Int32) (p x s : Nat) : Prop := (L 42).getD (16 + p) 0 = nI x ∧ (0 < s → (L 35).getD (17 + 5 * p) 0 = nI 59) ∧ (1 < s → (L 35).getD (17 + 5 * p + 1) 0 = ltr (x % 4)) ∧ (2 < s → (L 35).getD (17 + 5 * p + 2) 0 = nI (48 + x / 4 % 2)) ∧ (3 < s → (L 35).getD (17 + 5 * p + 3) 0 = nI (48 + x / 8 % 4)) ∧ (4 < s → (L 35).getD (17 + 5 * p + 4) 0 = nI (48 + x / 32))
def ptv (x s : Nat) : Int32 := if s = 0 then nI 59 else if s = 1 then ltr (x % 4) else if s = 2 then nI (48 + x / 4 % 2) else if s = 3 then nI (48 + x / 8 % 4) else nI (48 + x / 32)
theorem cd_mk {k o m u : Nat} (hk : k < 3) (ho : o < 2) (hm : m < 4) (hu : u < 10) : ((nI k ||| (nI o <<< (Int32.ofInt 2 &&& 31))) ||| (nI m <<< (Int32.ofInt 3 &&& 31))) ||| (nI u <<< (Int32.ofInt 5 &&& 31)) = nI (k + 4 * o + 8 * m + 32 * u) := (by decide +kernel : ∀ (k : Fin 3) (o : Fin 2) (m : Fin 4) (u : Fin 10), ((nI k.1 ||| (nI o.1 <<< (Int32.ofInt 2 &&& 31))) ||| (nI m.1 <<< (Int32.ofInt 3 &&& 31))) ||| (nI u.1 <<< (Int32.ofInt 5 &&& 31)) = nI (k.1 + 4 * o.1 + 8 * m.1 + 32 * u.1)) ⟨k, hk⟩ ⟨o, ho⟩ ⟨m, hm⟩ ⟨u, hu⟩
theorem ptv_b {x s : Nat} (hx : x < 320) (h3 : x % 4 < 3) : -128 ≤ (ptv x s).toInt ∧ (ptv x s).toInt < 128 := by
  unfold ptv
  split
  · decide
  · split
    · exact (by decide +kernel : ∀ k : Fin 3, -128 ≤ (ltr k.1).toInt ∧ (ltr k.1).toInt < 128) ⟨x % 4, h3⟩
    · split
      · rw [nI_toInt (by omega)]; omega
      · split
        · rw [nI_toInt (by omega)]; omega
        · rw [nI_toInt (by omega)]; omega
section LM
variable {scr : Option (List Int32)} {P : ba_P} {w : ba_W} {f : Nat → Nat → Int32} {l : Nat → List Int32} {q : List (List Int32)}
variable {F : Nat → Nat → Int32} {L : Nat → List Int32} {n p x s : Nat} {sc : List Int32}
theorem AL.put {I : Nat} {v : Int32} (h : AL f F l L n p) (hp : p ≤ 6) (hI : 17 + 5 * p ≤ I) : AL f (u2 F 0 6 0) l (u1 L 35 ((L 35).set I v)) n p :=
  ⟨h.1.put (by omega), h.2.1.put (by decide) (by omega), h.2.2.1.put (by decide) (by omega), h.2.2.2.put hp (by omega)⟩
theorem AL.ww {I : Nat} {v : Int32} (h : AL f F l L n p) (hp : p ≤ 6) (hI : 16 + p ≤ I) : AL f F l (u1 L 42 ((L 42).set I v)) n p :=
  ⟨h.1.w (by omega), h.2.1.w (by decide) (by omega), h.2.2.1.w (by decide) (by omega), h.2.2.2.w hp hI⟩
theorem PT.put (h : PT L p x s) (hs : s < 5) (hp : p < 6) (hl : (L 35).length = 60) : PT (u1 L 35 ((L 35).set (17 + 5 * p + s) (ptv x s))) p x (s + 1) := by
  obtain ⟨h1, t0, t1, t2, t3, t4⟩ := h
  have e : (u1 L 35 ((L 35).set (17 + 5 * p + s) (ptv x s))) 35 = (L 35).set (17 + 5 * p + s) (ptv x s) := u1_eq
  refine ⟨by rw [u1_ne (by decide)]; exact h1, fun g => ?_, fun g => ?_, fun g => ?_, fun g => ?_, fun g => ?_⟩ <;> rw [e]
  · by_cases es : s = 0
    · subst es; rw [Nat.add_zero, g_eq (by omega)]; rfl
    · rw [g_ne (by omega)]; exact t0 (by omega)
  · by_cases es : s = 1
    · subst es; rw [g_eq (by omega)]; rfl
    · rw [g_ne (by omega)]; exact t1 (by omega)
  · by_cases es : s = 2
    · subst es; rw [g_eq (by omega)]; rfl
    · rw [g_ne (by omega)]; exact t2 (by omega)
  · by_cases es : s = 3
    · subst es; rw [g_eq (by omega)]; rfl
    · rw [g_ne (by omega)]; exact t3 (by omega)
  · by_cases es : s = 4
    · subst es; rw [g_eq (by omega)]; rfl
    · omega
theorem c_put0 {i v : Int32} {I : Nat} (hi : i = nI I) (hI : I < 60) (hC : (L 35).length = 60) (h1 : F 34 1 = 0) (h2 : F 34 2 = 60) (hv0 : -128 ≤ v.toInt) (hv1 : v.toInt < 128)
    (hP : P (some (.int 1)) (wW (u2 F 0 6 0) (u1 L 35 ((L 35).set I v)) q)) : ba_go scr ix_X8_put 0 [some (.ref 1), some (.int 0), some (.int i), some (.int v), none, none] [] (wW F L q) 0 0 P :=
  c_put (K := 0) rfl (by decide) (by decide) hi hI hC h1 h2 hv0 hv1 hP
abbrev YL (t : List (Option Value)) : ba_L := some (.ref 1) :: some (.ref 43) :: some (.ref 0) :: some (.int 0) :: some (.int 6) :: t
/-- one of five cells of a person -/
theorem y_cell {i v : Int32} (hA : AL f F l L n p) (hT : PT L p x s) (hp : p < 6) (hs : s < 5) (hx : x < 320) (h3 : x % 4 < 3) (h1 : f 34 1 = 0) (h2 : f 34 2 = 60) (hi : i = nI (17 + 5 * p + s)) (hv : v = ptv x s)
    (K : ∀ F' L', AL f F' l L' n p → PT L' p x (s + 1) → P (some (.int 1)) (wW F' L' q)) : ba_go scr ix_X8_put 0 [some (.ref 1), some (.int 0), some (.int i), some (.int v), none, none] [] (wW F L q) 0 0 P := by
  subst hv
  obtain ⟨b1, b2⟩ := ptv_b (s := s) hx h3
  refine c_put0 hi (by omega) hA.1.2.2.1.1 (by rw [hA.1.1 34 1 (by decide)]; exact h1) (by rw [hA.1.1 34 2 (by decide)]; exact h2) b1 b2 ?_
  exact K _ _ (hA.put (by omega) (by omega)) (hT.put hs hp hA.1.2.2.1.1)
set_option maxRecDepth 10000 in
theorem y_people (hsc : sc.length ≤ 3072) (h1 : f 34 1 = 0) (h2 : f 34 2 = 60) (hn2 : 2 ≤ n) (hn6 : n ≤ 6) (hIv : IvP f) (hl : (l 6).length = 4 ∧ (l 7).length = 4 ∧ (l 30).length = 8 ∧ (l 31).length = 8) (hl2 : (l 3).length = 2 ∧ (l 5).length = 12)
    (K : ∀ F L, SS F L n → F 29 3 = nI 0 → P (some (.int (nI n))) (wW F L q)) :
    ∀ (m p : Nat) (x y : Int32) (F : Nat → Nat → Int32) (L : Nat → List Int32), p + m = n → x = nI (17 + 5 * p) → y = nI p → AL f F l L n p → ba_go (some sc) ix_L_lay 271 (YL [none, some (.int 1), some (.int x), some (.int y), none, none, none, none, none]) [] (wW F L q) 0 0 P := by
  intro m
  induction m with
  | zero =>
    intro p x y F L hp hx hy hA
    subst hx; subst hy
    have e4 : p = n := by omega
    subst e4
    have e0 := ldW (f := F) (l := L) (q := q) hA.1.2.2.1.2 (i := 0) (by decide) (x := Int32.ofInt 0) rfl
    rw [hA.1.2.2.2.1] at e0
    refine run_L_lay 13 ?_
    refine Exists.intro _ (And.intro (e0 _) ?_)
    refine And.intro (fun _ => ?_) (fun e2 => absurd (by show nI p ≤ nI p; rw [le_i]; omega) e2)
    refine And.intro (fun e2 => absurd e2 (by decide)) (fun _ => ?_)
    refine And.intro rfl (c_war (K := 0) (np := p) (C := fun t => (L 35).getD (0 + t) 0) rfl (by decide) (by decide) rfl rfl hn2 hn6 hA.1.2.2.1.1 (fun _ => rfl) (by rw [hA.1.1 _ _ (by decide)]; exact h1) (by rw [hA.1.1 _ _ (by decide)]; exact h2) (lay_upto hA.1 hA.2.1 hA.2.2.1 hA.2.2.2 hn6) (by rw [hA.1.2.1 3 (by decide) (by decide)]; exact hl2.1) (by rw [hA.1.2.1 5 (by decide) (by decide)]; exact hl2.2) (fun F1 L1 hE => ?_))
    obtain ⟨s1, s2⟩ := lay_SS hA.1 hA.2.1 hA.2.2.1 hA.2.2.2 hn2 hn6 hIv hl hE
    refine run_L_lay 2 ?_
    exact K _ _ s1 s2
  | succ m ih =>
    intro p x y F L hp hx hy hA
    subst hx; subst hy
    have hp6 : p < 6 := by omega
    have e0 := ldW (f := F) (l := L) (q := q) hA.1.2.2.1.2 (i := 0) (by decide) (x := Int32.ofInt 0) rfl
    rw [hA.1.2.2.2.1] at e0
    have ei : (0 : Int32) + Int32.ofInt 2 + nI p / Int32.ofInt 2 = nI (2 + p / 2) := by
      rw [show nI p / Int32.ofInt 2 = nI (p / 2) from nI_div (b := 2) (by omega) (by decide)]
      exact nI_add 2 (p / 2)
    refine run_L_lay 14 ?_
    refine Exists.intro _ (And.intro (e0 _) ?_)
    refine And.intro (fun e2 => absurd e2 (by show ¬ nI n ≤ nI p; rw [le_i, nI_toInt (by omega), nI_toInt (by omega)]; omega)) (fun _ => ?_)
    refine And.intro (by decide) ?_
    refine And.intro rfl (s_Lcell ei hsc (by omega) (fun cv0 => ?_))
    refine run_L_lay 10 ?_
    refine And.intro (by decide) ?_
    obtain ⟨cv, hcv⟩ : ∃ cv, cv = cv0 >>> (((Int8.ofInt 14).toInt32 * (nI p - nI p / Int32.ofInt 2 * Int32.ofInt 2)) &&& 31) := ⟨_, rfl⟩
    have kindK : ∀ k, k < 3 → ba_go (some sc) ix_L_lay 307 (YL [none, some (.int 1), some (.int (nI (17 + 5 * p))), some (.int (nI p)), some (.int cv), none, none, none, none]) [.int (nI k)] (wW F L q) 0 0 P := by
      intro k hk
      obtain ⟨o, ho, eo⟩ := and_nI (cv >>> (Int32.ofInt 2 &&& 31)) (c := 1) (by decide)
      obtain ⟨mk, hmk, emk⟩ := and_nI (cv >>> (Int32.ofInt 3 &&& 31)) (c := 3) (by decide)
      have neckK : ba_go (some sc) ix_L_lay 325 (YL [none, some (.int 1), some (.int (nI (17 + 5 * p))), some (.int (nI p)), some (.int cv), some (.int (nI k)), some (.int (nI o)), some (.int (nI mk)), none]) [] (wW F L q) 0 0 P := by
        refine run_L_lay 5 ?_
        refine And.intro rfl (s_Llow (m := 10) rfl (by decide) (by decide) (fun u hu => ?_))
        have em := cd_mk hk (show o < 2 by omega) (show mk < 4 by omega) hu
        obtain ⟨cx, hcx⟩ : ∃ cx, cx = k + 4 * o + 8 * mk + 32 * u := ⟨_, rfl⟩
        rw [← hcx] at em
        have c1 : cx < 320 := by omega
        have c2 : cx % 4 = k := by omega
        have c3 : cx / 4 % 2 = o := by omega
        have c4 : cx / 8 % 4 = mk := by omega
        have c5 : cx / 32 = u := by omega
        have st := stW (f := F) (l := L) (q := q) hA.1.2.2.1.2 (i := 16 + p) (v := nI cx) (by omega) (nI_add 16 p)
        rw [← em] at st
        refine run_L_lay 19 ?_
        refine Exists.intro _ (And.intro (st) ?_)
        rw [em]
        have hA1 := hA.ww (I := 16 + p) (v := nI cx) (by omega) (Nat.le_refl _)
        have hT1 : PT (u1 L 42 ((L 42).set (16 + p) (nI cx))) p cx 0 := ⟨by rw [u1_eq, g_eq (by rw [hA.1.2.2.1.2]; omega)], fun h => absurd h (by decide), fun h => absurd h (by decide), fun h => absurd h (by decide), fun h => absurd h (by decide), fun h => absurd h (by decide)⟩
        generalize u1 L 42 ((L 42).set (16 + p) (nI cx)) = L1 at *
        refine run_L_lay 7 ?_
        refine And.intro (fun e2 => absurd e2 (by decide)) (fun _ => ?_)
        refine And.intro rfl (y_cell hA1 hT1 hp6 (by decide) c1 (by omega) h1 h2 rfl rfl (fun F2 L2 hA2 hT2 => ?_))
        have lkK : ba_go (some sc) ix_L_lay 407 (YL [none, some (.int 1), some (.int (nI (17 + 5 * p))), some (.int (nI p)), some (.int cv), some (.int (nI k)), some (.int (nI o)), some (.int (nI mk)), some (.int (nI u))]) [.int (ltr k), .int (nI (17 + 5 * p + 1)), .int 0, .ref 1] (wW F2 L2 q) 0 0 P := by
          refine run_L_lay 1 ?_
          refine And.intro rfl (y_cell hA2 hT2 hp6 (by decide) c1 (by omega) h1 h2 rfl (by rw [← c2]; rfl) (fun F3 L3 hA3 hT3 => ?_))
          refine run_L_lay 11 ?_
          refine And.intro (fun e2 => absurd rfl e2) (fun _ => ?_)
          refine And.intro rfl (y_cell hA3 hT3 hp6 (by decide) c1 (by omega) h1 h2 (nI_add (17 + 5 * p) 2) (by rw [← c3]; exact nI_add 48 _) (fun F4 L4 hA4 hT4 => ?_))
          refine run_L_lay 11 ?_
          refine And.intro (fun e2 => absurd rfl e2) (fun _ => ?_)
          refine And.intro rfl (y_cell hA4 hT4 hp6 (by decide) c1 (by omega) h1 h2 (nI_add (17 + 5 * p) 3) (by rw [← c4]; exact nI_add 48 _) (fun F5 L5 hA5 hT5 => ?_))
          refine run_L_lay 11 ?_
          refine And.intro (fun e2 => absurd rfl e2) (fun _ => ?_)
          refine And.intro rfl (y_cell hA5 hT5 hp6 (by decide) c1 (by omega) h1 h2 (nI_add (17 + 5 * p) 4) (by rw [← c5]; exact nI_add 48 _) (fun F6 L6 hA6 hT6 => ?_))
          have hTp : Tp L6 (p + 1) := hA6.2.2.2.s ⟨c1, by omega, hT6.1, hT6.2.1 (by decide), hT6.2.2.1 (by decide), hT6.2.2.2.1 (by decide), hT6.2.2.2.2.1 (by decide), hT6.2.2.2.2.2 (by decide)⟩
          refine run_L_lay 8 ?_
          refine And.intro (fun e2 => absurd rfl e2) (fun _ => ?_)
          refine ba_le.weak ?_ (ih (p + 1) (nI (17 + 5 * p) + Int32.ofInt 5) (nI p + Int32.ofInt 1) F6 L6 (by omega) (nI_add (17 + 5 * p) 5) (nI_1 p) ⟨hA6.1, hA6.2.1, hA6.2.2.1, hTp⟩)
          repeat (first | exact le_0 | refine le_s ?_ | refine le_n ?_)
        have ep1 : nI (17 + 5 * p) + Int32.ofInt 1 = nI (17 + 5 * p + 1) := nI_1 (17 + 5 * p)
        rw [← ep1] at lkK
        refine run_L_lay 9 ?_
        refine And.intro (fun e2 => absurd rfl e2) (fun _ => ?_)
        rcases (by omega : k = 0 ∨ k = 1 ∨ k = 2) with e | e | e <;> subst e
        · refine And.intro (fun e2 => absurd rfl e2) (fun _ => ?_)
          refine run_L_lay 2 ?_
          exact lkK
        · refine And.intro (fun _ => ?_) (fun e2 => absurd (by decide) e2)
          refine run_L_lay 3 ?_
          refine And.intro (fun e2 => absurd rfl e2) (fun _ => ?_)
          refine run_L_lay 2 ?_
          exact lkK
        · refine And.intro (fun _ => ?_) (fun e2 => absurd (by decide) e2)
          refine run_L_lay 3 ?_
          refine And.intro (fun _ => ?_) (fun e2 => absurd (by decide) e2)
          refine run_L_lay 1 ?_
          exact lkK
      rw [← eo, ← emk] at neckK
      refine run_L_lay 13 ?_
      exact neckK
    rw [hcv] at kindK
    refine And.intro rfl (s_Llow (m := 3) rfl (by decide) (by decide) (fun k hk => ?_))
    exact kindK k hk
end LM
