/-! the law: what is checked at the end of an era -/
section LG
variable {scr : Option (List Int32)} {P : ba_P} {w : ba_W} {f : Nat → Nat → Int32} {l : Nat → List Int32} {q : List (List Int32)}
variable {n e N c z p R : Nat} {g x1 : Int32} {rd : Nat → Nat} {A : List Int32}
theorem SS.f32 (h : SS f l n) {F : Nat → Nat → Int32} (hF : ∀ x y, ¬ x = 32 → F x y = f x y) : SS F l n :=
  h.keep (fun x y hx => hF x y (by omega)) rfl rfl rfl h.1.2.1.2.2.1 h.1.2.1.2.2.2.1 h.1.2.1.2.2.2.2.1 h.1.2.1.2.2.2.2.2
theorem SS.f29 (h : SS f l n) {v : Int32} : SS (u2 f 29 3 v) l n :=
  h.keep (fun x y hx => u2_ne (by omega)) rfl rfl rfl h.1.2.1.2.2.1 h.1.2.1.2.2.2.1 h.1.2.1.2.2.2.2.1 h.1.2.1.2.2.2.2.2
theorem SS.rdb (h : SS f l n) (hD : RD f l R rd) (hrd : rdv rd R n) : ∀ k, k < R → 0 ≤ ((l 30).getD k 0).toInt ∧ ((l 30).getD k 0).toInt < (n : Int) := fun k hk => by
  have h6 := h.n6
  have := (hrd k hk).2.1
  rw [(hD.2 k hk).1, nI_toInt (by omega)]
  omega
theorem g_check (hc : c ≤ 1000) (hz : z ≤ 20000) (hS : SS f l n) (hp : p < n) (hR : R ≤ 5) (hD : RD f l R rd) (hrd : rdv rd R n)
    (K : ∀ F x, SS F l n → F 29 3 = nI 0 → x = nI (e + 1) → ba_go scr ix_L_law 56 [some (.ref 0), some (.ref 1), some (.ref 43), some (.int (nI n)), some (.int (nI (2 ^ n - 1))), some (.int x), none, none, none, none, none, none, none, none, none, none, none, none, none, none] [] (wW F l q) c z P) :
    ba_go scr ix_L_law 1500 (LL n e g x1 N [none, none, none, some (.int (nI p)), some (.int (nI (px l p))), some (.int (nI R)), none, some (.int (orS (nkc l p rd R) 10)), some (.int (orS (kkc l p rd R) 3)), none, none]) [] (wW f l q) c z P := by
  have hn6 := hS.n6
  have tn' : (nI n).toInt = n := nI_toInt (by omega)
  obtain ⟨⟨a1, a2, a3⟩, -⟩ := hS.2.2.2 p hp
  -- necks
  refine run_L7 3 ?_
  refine And.intro (cz0 hc hz) (c_necks hS.1 rfl hp hD.1 (by omega) (hS.rdb hD hrd) (fun F1 hF1 => ?_))
  rw [hS.necksE hp hD hrd]
  have hS1 := hS.f32 hF1
  have hD1 : RD F1 l R rd := ⟨by rw [hF1 29 3 (by decide)]; exact hD.1, hD.2⟩
  refine run_L7 5 ?_
  refine And.intro (fun e2 => absurd rfl e2) (fun _ => ?_)
  refine And.intro (cz0 hc hz) (c_necks_who hS1.1 (by rw [tn']; omega) ?_)
  refine run_L7 5 ?_
  refine And.intro (fun e2 => absurd rfl e2) (fun _ => ?_)
  refine And.intro (cz0 hc hz) (c_kinds hS1.1 rfl hp hD1.1 (by omega) (hS1.rdb hD1 hrd) (fun F2 hF2 => ?_))
  rw [hS1.kindsE hp hD1 hrd]
  have hS2 := hS1.f32 hF2
  have hD2 : RD F2 l R rd := ⟨by rw [hF2 29 3 (by decide)]; exact hD1.1, hD1.2⟩
  obtain ⟨-, b0, b1, b2, b3⟩ := hS2.2.2.2 p hp
  refine run_L7 5 ?_
  refine And.intro (fun e2 => absurd rfl e2) (fun _ => ?_)
  refine And.intro (cz0 hc hz) (c_kinds_who hS2.1 (by show ¬ (0 ≤ (-1 : Int) ∧ (-1 : Int) < _); omega) ?_)
  refine run_L7 5 ?_
  refine And.intro (fun e2 => absurd rfl e2) (fun _ => ?_)
  refine And.intro (cz0 hc hz) (c_many3 ?_)
  rw [hD2.1]
  refine run_L7 6 ?_
  refine And.intro (fun e2 => absurd rfl e2) (fun _ => ?_)
  refine And.intro (cz0 hc hz) (c_ofPerson (i := 0) hS2.1 rfl hp (by rfl) (by decide) ?_)
  rw [b0]
  refine run_L7 8 ?_
  refine And.intro (fun e2 => absurd (px_k a2).symm e2) (fun _ => ?_)
  refine And.intro (cz0 hc hz) (c_ofPerson (i := 3) hS2.1 rfl hp (by rfl) (by decide) ?_)
  rw [b3]
  refine run_L7 3 ?_
  refine And.intro (cz0 hc hz) (s_Lneck hS2.2.1.1 rfl (by omega) a1 a2 ?_)
  refine run_L7 5 ?_
  refine And.intro (fun e2 => absurd rfl e2) (fun _ => ?_)
  refine And.intro (cz0 hc hz) (c_ofPerson (i := 2) hS2.1 rfl hp (by rfl) (by decide) ?_)
  rw [b2]
  refine run_L7 3 ?_
  refine And.intro (cz0 hc hz) (s_Lmark hS2.2.1.1 rfl (by omega) a1 a2 ?_)
  refine run_L7 6 ?_
  refine And.intro (fun e2 => absurd rfl e2) (fun _ => ?_)
  refine And.intro (cz0 hc hz) (c_back (k := R + 1) (nI_1 R) hD2.1 (by omega) (by omega) (fun h => absurd h (by omega)) (fun _ => ?_))
  refine run_L7 5 ?_
  refine And.intro (fun e2 => absurd rfl e2) (fun _ => ?_)
  refine And.intro (cz0 hc hz) (c_back (k := R) rfl hD2.1 (by omega) (by omega) (fun _ => ?_) (fun h => absurd h (by omega)))
  rw [Nat.sub_self]
  have hS3 := hS2.f29 (v := nI 0)
  have z3 : (u2 F2 29 3 (nI 0)) 29 3 = nI 0 := u2_eq
  have hD3 : RD (u2 F2 29 3 (nI 0)) l 0 rd := ⟨z3, fun k hk => absurd hk (by omega)⟩
  have hrd3 : rdv rd 0 n := fun k hk => absurd hk (by omega)
  generalize u2 F2 29 3 (nI 0) = F3 at *
  refine run_L7 4 ?_
  refine And.intro (fun e2 => absurd rfl e2) (fun _ => ?_)
  refine And.intro (cz0 hc hz) (c_necks hS3.1 rfl hp hD3.1 (by omega) (hS3.rdb hD3 hrd3) (fun F4 hF4 => ?_))
  have hS4 := hS3.f32 hF4
  have z4 : F4 29 3 = nI 0 := by rw [hF4 29 3 (by decide)]; exact z3
  refine run_L7 5 ?_
  refine And.intro (fun e2 => absurd (show orS (fun _ => true) 10 = (Int16.ofInt 1023).toInt32 by decide +kernel) e2) (fun _ => ?_)
  refine And.intro (cz0 hc hz) (c_kinds (N := 0) hS4.1 rfl hp z4 (by omega) (fun k hk => absurd hk (by omega)) (fun F5 hF5 => ?_))
  have hS5 := hS4.f32 hF5
  have z5 : F5 29 3 = nI 0 := by rw [hF5 29 3 (by decide)]; exact z4
  refine run_L7 5 ?_
  refine And.intro (fun e2 => absurd (show orS (fun _ => true) 3 = (Int8.ofInt 7).toInt32 by decide +kernel) e2) (fun _ => ?_)
  refine And.intro (cz0 hc hz) (c_many2 ?_)
  have ew := ldW (f := F5) (l := l) (q := q) hS5.2.1.1 (i := 3) (by decide) (x := Int32.ofInt 3) rfl
  rw [hS5.2.1.2.2.2.2] at ew
  refine run_L7 4 ?_
  refine Exists.intro _ (And.intro (ew _) ?_)
  refine And.intro (fun _ => ?_) (fun e2 => absurd rfl e2)
  refine run_L7 2 ?_
  refine ba_le.weak ?_ (K F5 (nI e + Int32.ofInt 1) hS5 z5 (nI_1 e))
  repeat (first | exact le_0 | refine le_s ?_ | refine le_n ?_)
end LG
