/-! the class's methods, as the law calls them -/
def J (f : Nat → Nat → Int32) (l : Nat → List Int32) (n : Nat) : Prop := (f 2 3 = nI n ∧ 2 ≤ n ∧ n ≤ 6) ∧ ((l 3).length = 2 ∧ (l 5).length = 12 ∧ (l 6).length = 4 ∧ (l 7).length = 4 ∧ (l 30).length = 8 ∧ (l 31).length = 8) ∧ (rv (l 5) ∧ nv (l 3)) ∧ IvP f
section CM
variable {scr : Option (List Int32)} {P : ba_P} {w : ba_W} {f : Nat → Nat → Int32} {l : Nat → List Int32} {q : List (List Int32)}
variable {n : Nat}
theorem J.num (h : J f l n) : 0 < (f 2 3).toInt ∧ (f 2 3).toInt ≤ 6 ∧ (f 2 3).toInt = n := by
  obtain ⟨⟨h1, h2, h3⟩, -⟩ := h
  rw [h1, nI_toInt (by omega)]
  omega
theorem J.mk2 (h : J f l n) : ∀ p, p < 6 → 0 ≤ (f (2 + 7 + p) 2).toInt ∧ (f (2 + 7 + p) 2).toInt ≤ 3 := fun p hp => by
  have h1 := h.2.2.2.at hp
  show 0 ≤ (f (9 + p) 2).toInt ∧ (f (9 + p) 2).toInt ≤ 3
  exact h1.2.2.1
theorem J.per (h : J f l n) {p : Nat} (hp : p < n) : p < 6 ∧ pv (f (9 + p)) := by
  have h6 := h.1.2.2
  exact ⟨by omega, h.2.2.2.at (by omega)⟩
theorem pcl {p : Int32} {k : Nat} (hp : p = nI k) (hk : k < 6) : p.toNatClampNeg = k ∧ p.toInt = k := by
  subst hp
  exact ⟨nI_clamp (by omega), nI_toInt (by omega)⟩
theorem c_sheet {k a m : Int32} {K : Nat} (eK : k.toNatClampNeg = K) (hk0 : 0 ≤ k.toInt) (hk4 : k.toInt < 4) (ha : 0 ≤ a.toInt) (ha3 : a.toInt < 3) (hm : 0 ≤ m.toInt) (hm6 : m.toInt ≤ 60) (hC : (l (34 + 2 * K + 1)).length = 60)
    (hP : ∀ C : List Int32, C.length = 60 → P (some (.int 1)) (wW (u2 (u2 (u2 f 0 6 0) (34 + 2 * K) 1 a) (34 + 2 * K) 2 m) (u1 l (34 + 2 * K + 1) C) q)) : ba_go scr ix_X8_sheet 0 [some (.ref 1), some (.int k), some (.int a), some (.int m), none] [] (wW f l q) 0 0 P := by
  subst eK
  have z60 : (60 : Int32).toInt = 60 := rfl
  refine run_X8_sheet 80 ?_
  refine Exists.intro (wW (u2 f 0 6 0) l q) (And.intro rfl ?_)
  repeat (first | refine And.intro (fun e => absurd e (by decide)) (fun e => ?_) | refine And.intro (fun e => ?_) (fun e => absurd e (by decide)) | refine Exists.intro _ (And.intro rfl ?_) | refine And.intro rfl ?_)
  refine s_sheetOf (f := u2 f 0 6 0) (fun c d => ?_) (fun c => absurd ⟨hk0, hk4⟩ c)
  have hi := ix_i hk0
  have hk : k.toNatClampNeg < 4 := by omega
  have isC : ∀ f' : Nat → Nat → Int32, ba_isC (wW f' l q) (34 + 2 * k.toNatClampNeg + 1) 5 = true := fun f' => isC_of (sh_fld hk).2.2.2.2
  repeat (first | refine And.intro (fun e => absurd e (by decide)) (fun e => ?_) | refine And.intro (fun e => ?_) (fun e => absurd e (by decide)) | refine Exists.intro _ (And.intro rfl ?_) | refine And.intro rfl ?_)
  refine s_below (bi := 3) rfl (fun c1 c2 => ?_) (fun c1 => absurd ⟨ha, ha3⟩ c1)
  repeat (first | refine And.intro (fun e => absurd e (by decide)) (fun e => ?_) | refine And.intro (fun e => ?_) (fun e => absurd e (by decide)) | refine Exists.intro _ (And.intro rfl ?_) | refine And.intro rfl ?_)
  refine And.intro (fun g => ?_) (fun g => absurd (show m ≤ 60 by rw [le_i, z60]; exact hm6) g)
  refine And.intro (fun j => ?_) (fun j => absurd (show 0 ≤ m by rw [le_i, zi]; exact hm) j)
  refine And.intro (ck rfl rfl rfl rfl (isC _)) (s_begins (f := u2 f 0 6 0) hk hC (fun C hC1 hC2 => ?_))
  repeat (first | refine And.intro (fun e => absurd e (by decide)) (fun e => ?_) | refine And.intro (fun e => ?_) (fun e => absurd e (by decide)) | refine Exists.intro _ (And.intro rfl ?_) | refine And.intro rfl ?_)
  exact hP C hC1
theorem c_put {k i v : Int32} {K I : Nat} (eK : k.toNatClampNeg = K) (hk0 : 0 ≤ k.toInt) (hk4 : k.toInt < 4) (hi : i = nI I) (hI : I < 60) (hC : (l (34 + 2 * K + 1)).length = 60) (h1 : f (34 + 2 * K) 1 = 0) (h2 : f (34 + 2 * K) 2 = 60) (hv0 : -128 ≤ v.toInt) (hv1 : v.toInt < 128)
    (hP : P (some (.int 1)) (wW (u2 f 0 6 0) (u1 l (34 + 2 * K + 1) ((l (34 + 2 * K + 1)).set I v)) q)) : ba_go scr ix_X8_put 0 [some (.ref 1), some (.int k), some (.int i), some (.int v), none, none] [] (wW f l q) 0 0 P := by
  subst eK
  have eI : i.toNatClampNeg = I := by rw [hi, nI_clamp (by omega)]
  have tI : i.toInt = I := by rw [hi, nI_toInt (by omega)]
  subst eI
  have hx := ix_i hk0
  have hk : k.toNatClampNeg < 4 := by omega
  have z60 : (60 : Int32).toInt = 60 := rfl
  have z1 : (1 : Int32).toInt = 1 := rfl
  have e0 : ∀ (v : Int32) (y : Nat), (u2 f 0 6 v) (34 + 2 * k.toNatClampNeg) y = f (34 + 2 * k.toNatClampNeg) y := fun v y => u2_ne (by omega)
  have isC : ∀ f' : Nat → Nat → Int32, ba_isC (wW f' l q) (34 + 2 * k.toNatClampNeg + 1) 5 = true := fun f' => isC_of (sh_fld hk).2.2.2.2
  refine run_X8_put 80 ?_
  refine Exists.intro (wW (u2 f 0 6 0) l q) (And.intro rfl ?_)
  repeat (first | refine And.intro (fun e => absurd e (by decide)) (fun e => ?_) | refine And.intro (fun e => ?_) (fun e => absurd e (by decide)) | refine Exists.intro _ (And.intro rfl ?_) | refine And.intro rfl ?_)
  refine s_sheetOf (f := u2 f 0 6 0) (fun c d => ?_) (fun c => absurd ⟨hk0, hk4⟩ c)
  repeat (first | refine And.intro (fun e => absurd e (by decide)) (fun e => ?_) | refine And.intro (fun e => ?_) (fun e => absurd e (by decide)) | refine Exists.intro _ (And.intro rfl ?_) | refine And.intro rfl ?_)
  refine Exists.intro _ (And.intro ((sh_fld (f := u2 f 0 6 0) hk).2.1) ?_)
  refine And.intro (ck rfl rfl rfl rfl (isC _)) (s_faultOf (f := u2 f 0 6 0) hk (n := 1) (by rw [e0, h2, z60]; omega) (by rw [e0, h2, z60]; omega) (fun g => absurd g (by rw [e0, h1]; decide)) (fun g g2 => absurd rfl g2) (fun g g2 g3 => absurd g3 (by decide)) (fun g g2 g3 g4 => absurd ⟨by rw [tI]; omega, by rw [e0, h2, z60, tI, z1]; omega⟩ g4) (fun g g2 g3 g4 g5 => ?_))
  repeat (first | refine And.intro (fun e => absurd e (by decide)) (fun e => ?_) | refine And.intro (fun e => ?_) (fun e => absurd e (by decide)) | refine Exists.intro _ (And.intro rfl ?_) | refine And.intro rfl ?_)
  refine And.intro (ck rfl rfl rfl rfl (isC _)) (s_cbecome (f := u2 f 0 6 0) hk hC g4 (by omega) ?_)
  rw [e0, h1, show ct 0 v = v from by unfold ct; rw [if_pos rfl]; exact fb_byte hv0 hv1]
  repeat (first | refine And.intro (fun e => absurd e (by decide)) (fun e => ?_) | refine And.intro (fun e => ?_) (fun e => absurd e (by decide)) | refine Exists.intro _ (And.intro rfl ?_) | refine And.intro rfl ?_)
  exact hP
theorem c_war {k i m : Int32} {K np : Nat} {C : Nat → Int32} (eK : k.toNatClampNeg = K) (hk0 : 0 ≤ k.toInt) (hk4 : k.toInt < 4) (hi : i = nI 0) (hm : m = nI (17 + 5 * np)) (hn2 : 2 ≤ np) (hn6 : np ≤ 6) (hC : (l (34 + 2 * K + 1)).length = 60) (hCt : ∀ t, C t = (l (34 + 2 * K + 1)).getD (0 + t) 0) (h1 : f (34 + 2 * K) 1 = 0) (h2 : f (34 + 2 * K) 2 = 60) (hu : upto C (17 + 5 * np)) (h3 : (l 3).length = 2) (h5 : (l 5).length = 12)
    (hP : ∀ F1 L1, CE C (u2 f 0 6 0) F1 l L1 np → P (some (.int (nI np))) (wW (u2 (u2 F1 29 3 0) 0 5 0) L1 q)) : ba_go scr ix_X8_war 0 [some (.ref 1), some (.int k), some (.int 0), some (.int i), some (.int m), none, none, none] [] (wW f l q) 0 0 P := by
  subst eK
  subst hi
  subst hm
  have hx := ix_i hk0
  have hk : k.toNatClampNeg < 4 := by omega
  have z60 : (60 : Int32).toInt = 60 := rfl
  have e0 : ∀ (v : Int32) (y : Nat), (u2 f 0 6 v) (34 + 2 * k.toNatClampNeg) y = f (34 + 2 * k.toNatClampNeg) y := fun v y => u2_ne (by omega)
  have isC : ∀ f' : Nat → Nat → Int32, ba_isC (wW f' l q) (34 + 2 * k.toNatClampNeg + 1) 5 = true := fun f' => isC_of (sh_fld hk).2.2.2.2
  have tN : (nI (17 + 5 * np)).toInt = 17 + 5 * np := by rw [nI_toInt (by omega)]; omega
  have t0 : (nI 0).toInt = 0 := rfl
  refine run_X8_war 80 ?_
  refine Exists.intro (wW (u2 f 0 6 0) l q) (And.intro rfl ?_)
  repeat (first | refine And.intro (fun e => absurd e (by decide)) (fun e => ?_) | refine And.intro (fun e => ?_) (fun e => absurd e (by decide)) | refine Exists.intro _ (And.intro rfl ?_) | refine And.intro rfl ?_)
  refine s_sheetOf (f := u2 f 0 6 0) (fun c d => ?_) (fun c => absurd ⟨hk0, hk4⟩ c)
  repeat (first | refine And.intro (fun e => absurd e (by decide)) (fun e => ?_) | refine And.intro (fun e => ?_) (fun e => absurd e (by decide)) | refine Exists.intro _ (And.intro rfl ?_) | refine And.intro rfl ?_)
  refine s_below (bi := 3) rfl (fun c1 c2 => ?_) (fun c1 => absurd ⟨by decide, by decide⟩ c1)
  refine And.intro (fun _ => ?_) (fun e => absurd (by decide) e)
  refine And.intro (ck rfl rfl rfl rfl (isC _)) (s_faultOf (f := u2 f 0 6 0) hk (by rw [e0, h2, z60]; omega) (by rw [e0, h2, z60]; omega) (fun g => absurd g (by rw [e0, h1]; decide)) (fun g g2 => absurd (by rw [e0, h1]) g2) (fun g g2 g3 => absurd g3 (by rw [tN]; omega)) (fun g g2 g3 g4 => absurd ⟨by rw [t0]; omega, by rw [e0, h2, z60, tN, t0]; omega⟩ g4) (fun g g2 g3 g4 g5 => ?_))
  refine And.intro (fun _ => ?_) (fun e => absurd rfl e)
  refine And.intro rfl (s_firstFault (f := u2 f 0 6 0) (C := C) hk hC (by omega) hCt (fun e he => absurd ⟨hu, by constructor <;> omega⟩ (fb_no he)) (fun hu hw => ?_))
  refine And.intro (fun _ => ?_) (fun e => absurd (by decide) e)
  refine Exists.intro _ (And.intro (rfl) ?_)
  refine And.intro rfl (s_peopleIn rfl (by omega) (by omega) ?_)
  rw [show (17 + 5 * np - 17) / 5 = np by omega]
  refine And.intro rfl (s_beginsW (f := u2 f 0 6 0) (C := C) hk hC hCt hn6 (by omega) h3 h5 (fun F1 L1 hE1 => ?_))
  have x5 := hE1.2.2.2.1
  have hP2 := hP F1 L1 hE1
  refine Exists.intro _ (And.intro (rfl) ?_)
  refine And.intro rfl (run_X3_clear 10 ?_)
  refine Exists.intro (wW (u2 F1 29 3 0) L1 q) (And.intro rfl ?_)
  refine Exists.intro (wW (u2 (u2 F1 29 3 0) 0 5 0) L1 q) (And.intro rfl ?_)
  obtain ⟨F3, hF3⟩ : ∃ F3, F3 = u2 (u2 F1 29 3 0) 0 5 0 := ⟨_, rfl⟩
  rw [← hF3] at hP2 ⊢
  have y2 : F3 2 3 = nI np := by rw [hF3, u2_ne (by decide), u2_ne (by decide)]; exact x5
  refine Exists.intro _ (And.intro (rfl) ?_)
  refine Exists.intro _ (And.intro (rfl) ?_)
  rw [y2]
  exact hP2
theorem c_decree {a b v : Int32} {A B V : Nat} (hJ : J f l n) (ha : a = nI A) (hb : b = nI B) (hv : v = nI V) (hA : A < 4) (hB : B < 3) (hV : V < 4) (hP : P (some (.int ((l 5).getD (3 * A + B) 0))) (wW f (u1 l 5 ((l 5).set (3 * A + B) (nI V))) q)) : ba_go scr ix_X8_decree 0 [some (.ref 1), some (.int a), some (.int b), some (.int v), none] [] (wW f l q) 0 0 P := by
  subst ha; subst hb; subst hv
  have hn := hJ.num
  have tA : (nI A).toInt = A := nI_toInt (by omega)
  have tB : (nI B).toInt = B := nI_toInt (by omega)
  have tV : (nI V).toInt = V := nI_toInt (by omega)
  have hi := idx3 (m := nI A) (s := nI B) (by omega) (by omega) (by omega) (by omega)
  have hcl : (nI A * 3 + nI B).toNatClampNeg = 3 * A + B := by
    have := ix_i (x := nI A * 3 + nI B) (by omega)
    omega
  refine run_X8_decree 60 ?_
  repeat (first | refine And.intro (fun e => absurd e (by decide)) (fun e => ?_) | refine And.intro (fun e => ?_) (fun e => absurd e (by decide)) | refine Exists.intro _ (And.intro rfl ?_) | refine And.intro rfl ?_)
  refine s_isOn (b := 2) (Or.inl rfl) (fun c => ?_) (fun c => absurd hn.1 c)
  repeat (first | refine And.intro (fun e => absurd e (by decide)) (fun e => ?_) | refine And.intro (fun e => ?_) (fun e => absurd e (by decide)) | refine Exists.intro _ (And.intro rfl ?_) | refine And.intro rfl ?_)
  refine s_below (bi := 4) rfl (fun c1 c2 => ?_) (fun c1 => absurd ⟨by omega, by omega⟩ c1)
  repeat (first | refine And.intro (fun e => absurd e (by decide)) (fun e => ?_) | refine And.intro (fun e => ?_) (fun e => absurd e (by decide)) | refine Exists.intro _ (And.intro rfl ?_) | refine And.intro rfl ?_)
  refine s_below (bi := 3) rfl (fun d1 d2 => ?_) (fun d1 => absurd ⟨by omega, by omega⟩ d1)
  repeat (first | refine And.intro (fun e => absurd e (by decide)) (fun e => ?_) | refine And.intro (fun e => ?_) (fun e => absurd e (by decide)) | refine Exists.intro _ (And.intro rfl ?_) | refine And.intro rfl ?_)
  refine s_below (bi := 4) rfl (fun e1 e2 => ?_) (fun e1 => absurd ⟨by omega, by omega⟩ e1)
  repeat (first | refine And.intro (fun e => absurd e (by decide)) (fun e => ?_) | refine And.intro (fun e => ?_) (fun e => absurd e (by decide)) | refine Exists.intro _ (And.intro rfl ?_) | refine And.intro rfl ?_)
  refine s_after (b := 2) (Or.inl rfl) hJ.2.1.2.1 c1 (by omega) d1 (by omega) ?_
  repeat (first | refine And.intro (fun e => absurd e (by decide)) (fun e => ?_) | refine And.intro (fun e => ?_) (fun e => absurd e (by decide)) | refine Exists.intro _ (And.intro rfl ?_) | refine And.intro rfl ?_)
  refine s_become (b := 2) (Or.inl rfl) hJ.2.1.2.1 c1 (by omega) d1 (by omega) ?_
  repeat (first | refine And.intro (fun e => absurd e (by decide)) (fun e => ?_) | refine And.intro (fun e => ?_) (fun e => absurd e (by decide)) | refine Exists.intro _ (And.intro rfl ?_) | refine And.intro rfl ?_)
  have e : rl (l (2 + 3)) (nI A) (nI B) = (l 5).getD (3 * A + B) 0 := by unfold rl; rw [hcl]
  rw [e, hcl]
  exact hP
theorem c_starch {p v : Int32} {p' V : Nat} (hJ : J f l n) (hp : p = nI p') (hpn : p' < n) (hv : v = nI V) (hV : V ≤ 9) (hP : P (some (.int (f (9 + p') 3))) (wW (u2 f (9 + p') 3 (nI V)) l q)) : ba_go scr ix_X8_starch 0 [some (.ref 1), some (.int p), some (.int v), none, none] [] (wW f l q) 0 0 P := by
  have hn := hJ.num
  obtain ⟨h6, hpv⟩ := hJ.per hpn
  obtain ⟨e, t⟩ := pcl hp h6
  subst e
  subst hv
  have tV : (nI V).toInt = V := nI_toInt (by omega)
  refine run_X8_starch 60 ?_
  repeat (first | refine And.intro (fun e => absurd e (by decide)) (fun e => ?_) | refine And.intro (fun e => ?_) (fun e => absurd e (by decide)) | refine Exists.intro _ (And.intro rfl ?_) | refine And.intro rfl ?_)
  refine s_personOf (b := 2) (Or.inl rfl) hn.2.1 (fun c d => ?_) (fun c => absurd ⟨by omega, by omega⟩ c)
  repeat (first | refine And.intro (fun e => absurd e (by decide)) (fun e => ?_) | refine And.intro (fun e => ?_) (fun e => absurd e (by decide)) | refine Exists.intro _ (And.intro rfl ?_) | refine And.intro rfl ?_)
  refine s_within (a := 0) (b := 9) rfl rfl (fun c1 c2 => ?_) (fun c1 => absurd ⟨by omega, by omega⟩ c1)
  repeat (first | refine And.intro (fun e => absurd e (by decide)) (fun e => ?_) | refine And.intro (fun e => ?_) (fun e => absurd e (by decide)) | refine Exists.intro _ (And.intro rfl ?_) | refine And.intro rfl ?_)
  refine Exists.intro _ (And.intro (fld_of (people_at h6) rfl) ?_)
  refine Exists.intro _ (And.intro (people_set h6 (by decide)) ?_)
  exact hP
theorem c_strike {p s : Int32} {p' S : Nat} (hJ : J f l n) (hp : p = nI p') (hpn : p' < n) (hs : s = nI S) (hS : S < 3)
    (h0 : ((l 3).getD (1 - f (9 + p') 1).toNatClampNeg 0).toInt < (tk (f (9 + p') 0) (f (9 + p') 3)).toInt → P (some (.int (-3))) (wW f l q))
    (h1 : ¬ ((l 3).getD (1 - f (9 + p') 1).toNatClampNeg 0).toInt < (tk (f (9 + p') 0) (f (9 + p') 3)).toInt → P (some (.int (rl (l 5) (f (9 + p') 2) (nI S)))) (wW (u2 (u2 f (9 + p') 2 (rl (l 5) (f (9 + p') 2) (nI S))) 0 5 (f 0 5 + 1)) (u1 l 3 ((l 3).set (1 - f (9 + p') 1).toNatClampNeg ((l 3).getD (1 - f (9 + p') 1).toNatClampNeg 0 - tk (f (9 + p') 0) (f (9 + p') 3)))) q)) :
    ba_go scr ix_X8_strike 0 [some (.ref 1), some (.int p), some (.int s), none] [] (wW f l q) 0 0 P := by
  have hn := hJ.num
  obtain ⟨h6, hpv⟩ := hJ.per hpn
  obtain ⟨e, t⟩ := pcl hp h6
  subst e
  subst hs
  have tS : (nI S).toInt = S := nI_toInt (by omega)
  refine run_X8_strike 60 ?_
  repeat (first | refine And.intro (fun e => absurd e (by decide)) (fun e => ?_) | refine And.intro (fun e => ?_) (fun e => absurd e (by decide)) | refine Exists.intro _ (And.intro rfl ?_) | refine And.intro rfl ?_)
  refine s_personOf (b := 2) (Or.inl rfl) hn.2.1 (fun c d => ?_) (fun c => absurd ⟨by omega, by omega⟩ c)
  repeat (first | refine And.intro (fun e => absurd e (by decide)) (fun e => ?_) | refine And.intro (fun e => ?_) (fun e => absurd e (by decide)) | refine Exists.intro _ (And.intro rfl ?_) | refine And.intro rfl ?_)
  refine s_below (bi := 3) rfl (fun c1 c2 => ?_) (fun c1 => absurd ⟨by omega, by omega⟩ c1)
  repeat (first | refine And.intro (fun e => absurd e (by decide)) (fun e => ?_) | refine And.intro (fun e => ?_) (fun e => absurd e (by decide)) | refine Exists.intro _ (And.intro rfl ?_) | refine And.intro rfl ?_)
  refine s_strikes (b := 2) (Or.inl rfl) h6 hJ.2.1.1 hJ.2.1.2.1 hpv (by omega) (by omega) (fun g => ?_) (fun g => ?_)
  · repeat (first | refine And.intro (fun e => absurd e (by decide)) (fun e => ?_) | refine And.intro (fun e => ?_) (fun e => absurd e (by decide)) | refine Exists.intro _ (And.intro rfl ?_) | refine And.intro rfl ?_)
    exact h0 g
  · have h2 := h1 g
    repeat (first | refine And.intro (fun e => absurd e (by decide)) (fun e => ?_) | refine And.intro (fun e => ?_) (fun e => absurd e (by decide)) | refine Exists.intro _ (And.intro rfl ?_) | refine And.intro rfl ?_)
    have ea : (u2 (u2 f (2 + 7 + p.toNatClampNeg) 2 (rl (l (2 + 3)) (f (2 + 7 + p.toNatClampNeg) 2) (nI S))) 0 5 ((u2 f (2 + 7 + p.toNatClampNeg) 2 (rl (l (2 + 3)) (f (2 + 7 + p.toNatClampNeg) 2) (nI S))) 0 5 + 1)) (9 + p.toNatClampNeg) 2 = rl (l 5) (f (9 + p.toNatClampNeg) 2) (nI S) := by
      rw [u2_ne (by omega)]
      show (u2 f (9 + p.toNatClampNeg) 2 _) (9 + p.toNatClampNeg) 2 = _
      rw [u2_eq]
    have eb : (u2 f (2 + 7 + p.toNatClampNeg) 2 (rl (l (2 + 3)) (f (2 + 7 + p.toNatClampNeg) 2) (nI S))) 0 5 = f 0 5 := u2_ne (by omega)
    refine Exists.intro _ (And.intro (fld_of (people_at (f := u2 (u2 f (2 + 7 + p.toNatClampNeg) 2 (rl (l (2 + 3)) (f (2 + 7 + p.toNatClampNeg) 2) (nI S))) 0 5 ((u2 f (2 + 7 + p.toNatClampNeg) 2 (rl (l (2 + 3)) (f (2 + 7 + p.toNatClampNeg) 2) (nI S))) 0 5 + 1)) (l := u1 l (2 + 1) ((l (2 + 1)).set (1 - f (2 + 7 + p.toNatClampNeg) 1).toNatClampNeg ((l (2 + 1)).getD (1 - f (2 + 7 + p.toNatClampNeg) 1).toNatClampNeg 0 - tk (f (2 + 7 + p.toNatClampNeg) 0) (f (2 + 7 + p.toNatClampNeg) 3)))) (q := q) h6) rfl) ?_)
    rw [ea]
    have fin : ∀ z, z = f 0 5 → P (some (.int (rl (l 5) (f (9 + p.toNatClampNeg) 2) (nI S)))) (wW (u2 (u2 f (9 + p.toNatClampNeg) 2 (rl (l 5) (f (9 + p.toNatClampNeg) 2) (nI S))) 0 5 (z + 1)) (u1 l 3 ((l 3).set (1 - f (9 + p.toNatClampNeg) 1).toNatClampNeg ((l 3).getD (1 - f (9 + p.toNatClampNeg) 1).toNatClampNeg 0 - tk (f (9 + p.toNatClampNeg) 0) (f (9 + p.toNatClampNeg) 3)))) q) := fun z hz => by rw [hz]; exact h2
    exact fin _ eb
theorem c_wash {p : Int32} {p' : Nat} (hJ : J f l n) (hp : p = nI p') (hpn : p' < n)
    (h0 : (l 3).getD (f (9 + p') 1).toNatClampNeg 0 = 0 → P (some (.int (-3))) (wW f l q))
    (h1 : ¬ (l 3).getD (f (9 + p') 1).toNatClampNeg 0 = 0 → P (some (.int (f (9 + p') 2))) (wW (u2 f (9 + p') 2 0) (u1 l 3 ((l 3).set (f (9 + p') 1).toNatClampNeg ((l 3).getD (f (9 + p') 1).toNatClampNeg 0 - 1))) q)) :
    ba_go scr ix_X8_wash 0 [some (.ref 1), some (.int p), none, none] [] (wW f l q) 0 0 P := by
  have hn := hJ.num
  obtain ⟨h6, hpv⟩ := hJ.per hpn
  obtain ⟨e, t⟩ := pcl hp h6
  subst e
  refine run_X8_wash 60 ?_
  repeat (first | refine And.intro (fun e => absurd e (by decide)) (fun e => ?_) | refine And.intro (fun e => ?_) (fun e => absurd e (by decide)) | refine Exists.intro _ (And.intro rfl ?_) | refine And.intro rfl ?_)
  refine s_personOf (b := 2) (Or.inl rfl) hn.2.1 (fun c d => ?_) (fun c => absurd ⟨by omega, by omega⟩ c)
  repeat (first | refine And.intro (fun e => absurd e (by decide)) (fun e => ?_) | refine And.intro (fun e => ?_) (fun e => absurd e (by decide)) | refine Exists.intro _ (And.intro rfl ?_) | refine And.intro rfl ?_)
  refine Exists.intro _ (And.intro (fld_of (people_at h6) rfl) ?_)
  repeat (first | refine And.intro (fun e => absurd e (by decide)) (fun e => ?_) | refine And.intro (fun e => ?_) (fun e => absurd e (by decide)) | refine Exists.intro _ (And.intro rfl ?_) | refine And.intro rfl ?_)
  refine s_washes (b := 2) (Or.inl rfl) h6 hJ.2.1.1 hpv (fun g => ?_) (fun g => ?_)
  · repeat (first | refine And.intro (fun e => absurd e (by decide)) (fun e => ?_) | refine And.intro (fun e => ?_) (fun e => absurd e (by decide)) | refine Exists.intro _ (And.intro rfl ?_) | refine And.intro rfl ?_)
    exact h0 g
  · repeat (first | refine And.intro (fun e => absurd e (by decide)) (fun e => ?_) | refine And.intro (fun e => ?_) (fun e => absurd e (by decide)) | refine Exists.intro _ (And.intro rfl ?_) | refine And.intro rfl ?_)
    exact h1 g
theorem c_fetches {a b : Int32} {o m : Nat} (hJ : J f l n) (ha : a = nI o) (ho : o < 2) (hb : b = nI m) (hm1 : 1 ≤ m) (hm : m ≤ 99)
    (hP : ∀ mn : Int32, mn = (if ((l 3).getD o 0 + nI m) < 99 then ((l 3).getD o 0 + nI m) else 99) → P (some (.int mn)) (wW f (u1 l 3 ((l 3).set o mn)) q)) :
    ba_go scr ix_X8_fetches 0 [some (.ref 1), some (.int a), some (.int b)] [] (wW f l q) 0 0 P := by
  have hn := hJ.num
  obtain ⟨e, t⟩ := pcl ha (by omega)
  subst e
  subst hb
  have tm : (nI m).toInt = m := nI_toInt (by omega)
  have hl3 := hJ.2.1.1
  refine run_X8_fetches 60 ?_
  repeat (first | refine And.intro (fun e => absurd e (by decide)) (fun e => ?_) | refine And.intro (fun e => ?_) (fun e => absurd e (by decide)) | refine Exists.intro _ (And.intro rfl ?_) | refine And.intro rfl ?_)
  refine s_isOn (b := 2) (Or.inl rfl) (fun c => ?_) (fun c => absurd hn.1 c)
  repeat (first | refine And.intro (fun e => absurd e (by decide)) (fun e => ?_) | refine And.intro (fun e => ?_) (fun e => absurd e (by decide)) | refine Exists.intro _ (And.intro rfl ?_) | refine And.intro rfl ?_)
  refine s_below (bi := 2) rfl (fun c1 c2 => ?_) (fun c1 => absurd ⟨by omega, by omega⟩ c1)
  repeat (first | refine And.intro (fun e => absurd e (by decide)) (fun e => ?_) | refine And.intro (fun e => ?_) (fun e => absurd e (by decide)) | refine Exists.intro _ (And.intro rfl ?_) | refine And.intro rfl ?_)
  refine s_within (a := 1) (b := 99) rfl rfl (fun d1 d2 => ?_) (fun d1 => absurd ⟨by omega, by omega⟩ d1)
  obtain ⟨mn, hmn⟩ : ∃ mn, mn = (if ((l 3).getD a.toNatClampNeg 0 + nI m) < 99 then ((l 3).getD a.toNatClampNeg 0 + nI m) else 99) := ⟨_, rfl⟩
  have hP2 := hP mn hmn
  have hw : ∀ y, y = mn → ba_stI (wW f l q) 4 a y = some (wW f (u1 l 3 ((l 3).set a.toNatClampNeg mn)) q) := fun y hy => by
    subst hy
    exact (stI_of rfl c1 (by rw [hl3]; omega)).trans rfl
  have eg : ((l 3).set a.toNatClampNeg mn).getD a.toNatClampNeg 0 = mn := by rw [getD_set, if_pos ⟨rfl, by omega⟩]
  repeat (first | refine And.intro (fun e => absurd e (by decide)) (fun e => ?_) | refine And.intro (fun e => ?_) (fun e => absurd e (by decide)) | refine Exists.intro _ (And.intro rfl ?_) | refine And.intro rfl ?_)
  refine Exists.intro _ (And.intro (ldI_of rfl c1 (by rw [hl3]; omega)) ?_)
  repeat (first | refine And.intro (fun e => absurd e (by decide)) (fun e => ?_) | refine And.intro (fun e => ?_) (fun e => absurd e (by decide)) | refine Exists.intro _ (And.intro rfl ?_) | refine And.intro rfl ?_)
  refine Exists.intro _ (And.intro (hw _ hmn.symm) ?_)
  repeat (first | refine And.intro (fun e => absurd e (by decide)) (fun e => ?_) | refine And.intro (fun e => ?_) (fun e => absurd e (by decide)) | refine Exists.intro _ (And.intro rfl ?_) | refine And.intro rfl ?_)
  refine Exists.intro _ (And.intro (ldI_of rfl c1 (by show a.toInt < ((List.set _ _ _).length : Nat); rw [List.length_set, hl3]; omega)) ?_)
  have eg2 : (u1 l 3 ((l 3).set a.toNatClampNeg mn) 3).getD a.toNatClampNeg 0 = mn := eg
  rw [eg2]
  exact hP2
theorem c_back {a : Int32} {k N : Nat} (ha : a = nI k) (hc : f 29 3 = nI N) (hN : N ≤ 8) (hk : k < 100) (h1 : k ≤ N → P (some (.int (nI (N - k)))) (wW (u2 f 29 3 (nI (N - k))) l q)) (h0 : N < k → P (some (.int (-2))) (wW f l q)) : ba_go scr ix_X8_back 0 [some (.ref 1), some (.int a)] [] (wW f l q) 0 0 P := by
  subst ha
  have tk' : (nI k).toInt = k := nI_toInt (by omega)
  have tN : (f 29 3).toInt = N := by rw [hc, nI_toInt (by omega)]
  refine run_X8_back 60 ?_
  repeat (first | refine And.intro (fun e => absurd e (by decide)) (fun e => ?_) | refine And.intro (fun e => ?_) (fun e => absurd e (by decide)) | refine Exists.intro _ (And.intro rfl ?_) | refine And.intro rfl ?_)
  refine s_within (a := 0) (b := (f 29 3).toInt) rfl rfl (fun c1 c2 => ?_) (fun c1 => ?_)
  · have h2 := h1 (by omega)
    have es : f 29 3 - nI k = nI (N - k) := by rw [hc, nI_sub (by omega) (by omega)]
    repeat (first | refine And.intro (fun e => absurd e (by decide)) (fun e => ?_) | refine And.intro (fun e => ?_) (fun e => absurd e (by decide)) | refine Exists.intro _ (And.intro rfl ?_) | refine And.intro rfl ?_)
    have fin : ∀ z, z = nI (N - k) → P (some (.int z)) (wW (u2 f 29 3 z) l q) := fun z hz => by rw [hz]; exact h2
    exact fin _ es
  · repeat (first | refine And.intro (fun e => absurd e (by decide)) (fun e => ?_) | refine And.intro (fun e => ?_) (fun e => absurd e (by decide)) | refine Exists.intro _ (And.intro rfl ?_) | refine And.intro rfl ?_)
    exact h0 (by omega)
theorem c_reading {p a : Int32} {p' v N : Nat} (hJ : J f l n) (hp : p = nI p') (hpn : p' < n) (ha : a = nI v) (hv : v ≤ 20) (hc : f 29 3 = nI N)
    (h1 : N < 8 → P (some (.int (nI N))) (wW (u2 f 29 3 (nI (N + 1))) (u1 (u1 l 30 ((l 30).set N (nI p'))) 31 ((l 31).set N (nI v))) q)) (h0 : N = 8 → P (some (.int (-4))) (wW f l q)) (hN : N ≤ 8) : ba_go scr ix_X8_reading 0 [some (.ref 1), some (.int p), some (.int a)] [] (wW f l q) 0 0 P := by
  have hn := hJ.num
  obtain ⟨h6, hpv⟩ := hJ.per hpn
  obtain ⟨e, t⟩ := pcl hp h6
  subst ha
  have tv : (nI v).toInt = v := nI_toInt (by omega)
  have z8 : (8 : Int32).toInt = 8 := rfl
  have tN : (nI N).toInt = N := nI_toInt (by omega)
  refine run_X8_reading 60 ?_
  repeat (first | refine And.intro (fun e => absurd e (by decide)) (fun e => ?_) | refine And.intro (fun e => ?_) (fun e => absurd e (by decide)) | refine Exists.intro _ (And.intro rfl ?_) | refine And.intro rfl ?_)
  refine s_personOf (b := 2) (Or.inl rfl) hn.2.1 (fun c d => ?_) (fun c => absurd ⟨by omega, by omega⟩ c)
  repeat (first | refine And.intro (fun e => absurd e (by decide)) (fun e => ?_) | refine And.intro (fun e => ?_) (fun e => absurd e (by decide)) | refine Exists.intro _ (And.intro rfl ?_) | refine And.intro rfl ?_)
  refine s_within (a := 0) (b := 20) rfl rfl (fun c1 c2 => ?_) (fun c1 => absurd ⟨by omega, by omega⟩ c1)
  repeat (first | refine And.intro (fun e => absurd e (by decide)) (fun e => ?_) | refine And.intro (fun e => ?_) (fun e => absurd e (by decide)) | refine Exists.intro _ (And.intro rfl ?_) | refine And.intro rfl ?_)
  refine run_X3_add 5 ?_
  repeat (first | refine And.intro (fun e => absurd e (by decide)) (fun e => ?_) | refine And.intro (fun e => ?_) (fun e => absurd e (by decide)) | refine Exists.intro _ (And.intro rfl ?_) | refine And.intro rfl ?_)
  refine And.intro (fun g => ?_) (fun g => ?_)
  · have g : f 29 3 < 8 := g
    rw [lt_i, z8, hc, tN] at g
    have h2 := h1 (by omega)
    have l30 := hJ.2.1.2.2.2.2.1
    have l31 := hJ.2.1.2.2.2.2.2
    have hcN : (nI N).toNatClampNeg = N := nI_clamp (by omega)
    subst hp
    refine run_X3_add 60 ?_
    repeat (first | refine And.intro (fun e => absurd e (by decide)) (fun e => ?_) | refine And.intro (fun e => ?_) (fun e => absurd e (by decide)) | refine Exists.intro _ (And.intro rfl ?_) | refine And.intro rfl ?_)
    refine Exists.intro (wW f (u1 l 30 ((l 30).set N (nI p'))) q) (And.intro (by rw [hc, stI_of (l := l 30) rfl (by omega) (by omega), hcN]; rfl) ?_)
    repeat (first | refine And.intro (fun e => absurd e (by decide)) (fun e => ?_) | refine And.intro (fun e => ?_) (fun e => absurd e (by decide)) | refine Exists.intro _ (And.intro rfl ?_) | refine And.intro rfl ?_)
    refine Exists.intro (wW f (u1 (u1 l 30 ((l 30).set N (nI p'))) 31 ((l 31).set N (nI v))) q) (And.intro (by rw [hc, stI_of (l := l 31) rfl (by omega) (by omega), hcN]; rfl) ?_)
    repeat (first | refine And.intro (fun e => absurd e (by decide)) (fun e => ?_) | refine And.intro (fun e => ?_) (fun e => absurd e (by decide)) | refine Exists.intro _ (And.intro rfl ?_) | refine And.intro rfl ?_)
    have fin : ∀ z, z = nI (N + 1) → P (some (.int (z - 1))) (wW (u2 f 29 3 z) (u1 (u1 l 30 ((l 30).set N (nI p'))) 31 ((l 31).set N (nI v))) q) := fun z hz => by
      rw [hz, show nI (N + 1) - 1 = nI (N + 1) - nI 1 from rfl, nI_sub (by omega) (by omega), Nat.add_sub_cancel]
      exact h2
    exact fin _ (by rw [hc]; exact nI_1 N)
  · have g : ¬ f 29 3 < 8 := g
    rw [lt_i, z8, hc, tN] at g
    refine run_X3_add 60 ?_
    repeat (first | refine And.intro (fun e => absurd e (by decide)) (fun e => ?_) | refine And.intro (fun e => ?_) (fun e => absurd e (by decide)) | refine Exists.intro _ (And.intro rfl ?_) | refine And.intro rfl ?_)
    exact h0 (by omega)
theorem c_reading_who {p a : Int32} (hJ : J f l n) (hp : p = nI n) (h0 : P (some (.int (-1))) (wW f l q)) : ba_go scr ix_X8_reading 0 [some (.ref 1), some (.int p), some (.int a)] [] (wW f l q) 0 0 P := by
  have hn := hJ.num
  have h6 := hJ.1.2.2
  have t : p.toInt = n := by rw [hp, nI_toInt (by omega)]
  refine run_X8_reading 60 ?_
  repeat (first | refine And.intro (fun e => absurd e (by decide)) (fun e => ?_) | refine And.intro (fun e => ?_) (fun e => absurd e (by decide)) | refine Exists.intro _ (And.intro rfl ?_) | refine And.intro rfl ?_)
  refine s_personOf (b := 2) (Or.inl rfl) hn.2.1 (fun c d => absurd d (by omega)) (fun c => ?_)
  repeat (first | refine And.intro (fun e => absurd e (by decide)) (fun e => ?_) | refine And.intro (fun e => ?_) (fun e => absurd e (by decide)) | refine Exists.intro _ (And.intro rfl ?_) | refine And.intro rfl ?_)
  exact h0
theorem c_reading_out {a : Int32} (hJ : J f l n) (ha : ¬ (0 ≤ a.toInt ∧ a.toInt ≤ 20)) (h0 : P (some (.int (-2))) (wW f l q)) : ba_go scr ix_X8_reading 0 [some (.ref 1), some (.int 0), some (.int a)] [] (wW f l q) 0 0 P := by
  have hn := hJ.num
  refine run_X8_reading 60 ?_
  repeat (first | refine And.intro (fun e => absurd e (by decide)) (fun e => ?_) | refine And.intro (fun e => ?_) (fun e => absurd e (by decide)) | refine Exists.intro _ (And.intro rfl ?_) | refine And.intro rfl ?_)
  refine s_personOf (b := 2) (Or.inl rfl) hn.2.1 (fun c d => ?_) (fun c => absurd ⟨by decide, by rw [show (0 : Int32).toInt = 0 from rfl]; exact hn.1⟩ c)
  repeat (first | refine And.intro (fun e => absurd e (by decide)) (fun e => ?_) | refine And.intro (fun e => ?_) (fun e => absurd e (by decide)) | refine Exists.intro _ (And.intro rfl ?_) | refine And.intro rfl ?_)
  refine s_within (a := 0) (b := 20) rfl rfl (fun c1 c2 => absurd ⟨c1, c2⟩ ha) (fun c1 => ?_)
  repeat (first | refine And.intro (fun e => absurd e (by decide)) (fun e => ?_) | refine And.intro (fun e => ?_) (fun e => absurd e (by decide)) | refine Exists.intro _ (And.intro rfl ?_) | refine And.intro rfl ?_)
  exact h0
end CM
