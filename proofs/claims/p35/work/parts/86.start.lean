/-! the law, whole -/
def f0 : Nat → Nat → Int32 := fun i j => bif Nat.beq j 1 && (Nat.beq i 34 || (Nat.beq i 36 || (Nat.beq i 38 || Nat.beq i 40))) then -1 else 0
def l0 (i : Nat) : List Int32 := [[], [], [], List.replicate 2 0, [], List.replicate 12 0, List.replicate 4 0, List.replicate 4 0, [], [], [], [], [], [], [], [], [], List.replicate 2 0, [], List.replicate 12 0, List.replicate 4 0, List.replicate 4 0, [], [], [], [], [], [], [], [], List.replicate 8 0, List.replicate 8 0, [], [], [], List.replicate 60 0, [], List.replicate 60 0, [], List.replicate 60 0, [], List.replicate 60 0, List.replicate 22 0].getD i []
set_option maxRecDepth 100000 in
set_option maxHeartbeats 4000000 in
theorem law_start {xs : List Int32} {P : ba_P} (h : ba_go (some xs) ix_L_law 13 [some (.ref 0), some (.ref 1), some (.ref 43), none, none, none, none, none, none, none, none, none, none, none, none, none, none, none, none, none] [] (wW f0 l0 []) 43 432 P) : ba_go (some xs) ix_L_law 0 [some (.ref 0), none, none, none, none, none, none, none, none, none, none, none, none, none, none, none, none, none, none, none] [] [] 0 0 P := by
  refine run_L0 7 ?_
  repeat' (first
    | exact h
    | (refine And.intro (fun c => absurd c (by decide)) (fun _ => ?_))
    | (refine And.intro (fun _ => ?_) (fun c => absurd c (by decide)))
    | (refine And.intro rfl (run_X0_init 400 ?_))
    | (refine And.intro rfl (run_X1_init 400 ?_))
    | (refine And.intro rfl (run_X2_init 400 ?_))
    | (refine And.intro rfl (run_X3_init 400 ?_))
    | (refine And.intro rfl (run_X4_init 400 ?_))
    | (refine And.intro rfl (run_X5_init 400 ?_))
    | (refine And.intro rfl (run_X7_init 400 ?_))
    | (refine And.intro rfl (run_X8_init 400 ?_))
    | (refine And.intro rfl ?_)
    | (refine Exists.intro _ (And.intro rfl ?_)))
theorem every_n : ∀ n : Fin 7, (Int32.ofInt 1 <<< (nI n.1 &&& 31)) - Int32.ofInt 1 = nI (2 ^ n.1 - 1) := by decide +kernel
section LO
variable {scr : Option (List Int32)} {P : ba_P} {w : ba_W} {f : Nat → Nat → Int32} {l : Nat → List Int32} {q : List (List Int32)}
variable {n : Nat} {sc : List Int32}
theorem era {e c z : Nat} {g x1 : Int32} {N : Nat} (hS : SS f l n) (h0 : f 29 3 = nI 0) (he : e < 3) (hN : N < 7) (hc : c ≤ 43 + 13 * e) (hz : z ≤ 432 + 113 * e)
    (K : ∀ F L q c z x, SS F L n → F 29 3 = nI 0 → x = nI (e + 1) → c ≤ 43 + 13 * (e + 1) → z ≤ 432 + 113 * (e + 1) → ba_go scr ix_L_law 56 (LE n x) [] (wW F L q) c z P) :
    ba_go scr ix_L_law 144 (LL n e g x1 N [some (.int 0), none, none, none, none, none, none, none, none, none, none]) [] (wW f l q) c z P := by
  have hn6 := hS.n6
  refine w_from (C := c + 12) (Z := z + 108) (by omega) (by omega) (by omega) (fun l1 q1 c1 z1 hS1 hc1 hz1 => ?_) 4 0 0 l q c z rfl rfl hS (by omega) (by omega)
  have b1 : c1 ≤ 1000 := by omega
  have b2 : z1 ≤ 20000 := by omega
  refine run_L2 2 ?_
  refine x_odds (by omega) b1 b2 (fun l2 hS2 => ?_) n 0 0 l1 (Nat.zero_add n) rfl hS1
  refine run_L3 2 ?_
  refine r_raid b1 b2 hS2 ?_ 2 0 0 rfl rfl
  refine run_L4 3 ?_
  have hc := b1
  have hz := b2
  refine And.intro (cz0 hc hz) (s_Lwork (o := 2) hS2.lq rfl (by decide) ?_)
  refine run_L4 5 ?_
  have ht : ∀ (o x : Nat), x < 6 → lw l2 n o x = true → tn f x ≤ 20 := fun o x hx _ => (tn_le hS2.1.2.2.2 hx).1
  refine p_peace b1 b2 hS2 ?_ 7 0 0 0 _ (fun _ => false) (fun _ => false) rfl rfl (B6_congr (fun x _ => by cases lw l2 n 2 x <;> rfl)) rfl (dst_0 (ht 0)) (dst_0 (ht 1))
  refine d_read (by omega) (by omega) hS2 h0 (fun F L p R A rd hp hR hS3 hD hrd hA => ?_)
  refine f_both (c := c1 + 1) (z := z1 + 5) (by omega) (by omega) hS3 hp hR hA hrd ?_
  exact g_check (c := c1 + 1) (z := z1 + 5) (by omega) (by omega) hS3 hp hR hD hrd (fun F4 x hS4 h4 hx => K F4 L _ _ _ x hS4 h4 hx (by omega) (by omega))
theorem eras (hsc : sc.length ≤ 3072) (hP : ∀ w, P (some (.int 1)) w) : ∀ (m e : Nat) (x : Int32) (f : Nat → Nat → Int32) (l : Nat → List Int32) (q : List (List Int32)) (c z : Nat), e + m = 3 → x = nI e → SS f l n → f 29 3 = nI 0 → c ≤ 43 + 13 * e → z ≤ 432 + 113 * e → ba_go (some sc) ix_L_law 56 (LE n x) [] (wW f l q) c z P := by
  intro m
  induction m with
  | zero =>
    intro e x f l q c z he hx hS h0 hc hz
    subst hx
    have e3 : e = 3 := by omega
    subst e3
    refine run_L0 3 ?_
    refine And.intro (fun _ => ?_) (fun e2 => absurd (by decide) e2)
    refine run_L8 2 ?_
    exact h_full (by omega) (by omega) hP 9 0 0 f l rfl rfl hS h0
  | succ m ih =>
    intro e x f l q c z he hx hS h0 hc0 hz0
    subst hx
    have hn6 := hS.n6
    have hc : c ≤ 1000 := by omega
    have hz : z ≤ 20000 := by omega
    have main : ∀ (F : Nat → Nat → Int32) (L : Nat → List Int32), SS F L n → F 29 3 = nI 0 → ba_go (some sc) ix_L_law 106 (LE n (nI e)) [] (wW F L q) c z P := by
      intro F L hS h0
      have e1 : (Int8.ofInt 11).toInt32 + Int32.ofInt 3 * nI e = nI (11 + 3 * e) := by
        show nI 11 + nI 3 * nI e = _
        rw [nI_mul, nI_add]
      have e2 : (Int8.ofInt 12).toInt32 + Int32.ofInt 3 * nI e = nI (12 + 3 * e) := by
        show nI 12 + nI 3 * nI e = _
        rw [nI_mul, nI_add]
      refine run_L0 7 ?_
      refine And.intro (cz0 hc hz) (s_Lcell e1 hsc (by omega) (fun g => ?_))
      refine run_L0 8 ?_
      refine And.intro (cz0 hc hz) (s_Lcell e2 hsc (by omega) (fun x1 => ?_))
      refine run_L0 4 ?_
      refine And.intro (cz0 hc hz) (s_Llow (m := 7) rfl (by decide) (by decide) (fun N hN => ?_))
      refine run_L0 3 ?_
      exact era hS h0 (by omega) hN hc0 hz0 (fun F L q c z x hS' h0' hx hc' hz' => ih (e + 1) x F L q c z (by omega) hx hS' h0' hc' hz')
    refine run_L0 5 ?_
    refine And.intro (fun e2 => absurd e2 (by show ¬ nI 3 ≤ nI e; rw [le_i, nI_toInt (by decide), nI_toInt (by omega)]; omega)) (fun _ => ?_)
    refine And.intro (fun _ => main f l hS h0) (fun _ => ?_)
    have e1 : Int32.ofInt 5 + Int32.ofInt 2 * nI e = nI (5 + 2 * e) := by
      show nI 5 + nI 2 * nI e = _
      rw [nI_mul, nI_add]
    have e2 : (Int8.ofInt 6).toInt32 + Int32.ofInt 2 * nI e = nI (6 + 2 * e) := by
      show nI 6 + nI 2 * nI e = _
      rw [nI_mul, nI_add]
    refine run_L0 9 ?_
    refine And.intro (cz0 hc hz) (s_Lcell e1 hsc (by omega) (fun g1 => ?_))
    refine run_L0 1 ?_
    refine And.intro (cz0 hc hz) (s_LgoOn hS (fun F1 L1 hS1 k1 => ?_))
    refine run_L0 10 ?_
    refine And.intro (fun e2 => absurd e2 (by decide)) (fun _ => ?_)
    refine And.intro (cz0 hc hz) (s_Lcell e2 hsc (by omega) (fun g2 => ?_))
    refine run_L0 1 ?_
    refine And.intro (cz0 hc hz) (s_LgoOn hS1 (fun F2 L2 hS2 k2 => ?_))
    refine run_L0 1 ?_
    refine And.intro (fun _ => ?_) (fun e2 => absurd (by decide) e2)
    exact main F2 L2 hS2 (by rw [k2, k1]; exact h0)
end LO
theorem iv_f0 : IvP f0 := by unfold IvP pv; decide
theorem law_all {sc : List Int32} (hsc : sc.length ≤ 3072) : ba_go (some sc) ix_L_law 0 [some (.ref 0), none, none, none, none, none, none, none, none, none, none, none, none, none, none, none, none, none, none, none] [] [] 0 0 (fun v _ => v = some (.int 1)) := by
  refine law_start ?_
  have hc : 43 ≤ 1000 := by decide
  have hz : 432 ≤ 20000 := by decide
  refine run_L0 5 ?_
  refine And.intro (cz0 hc hz) (c_sheet (K := 0) rfl (by decide) (by decide) (by decide) (by decide) (by decide) (by decide) rfl (fun C hC => ?_))
  refine run_L0 8 ?_
  refine And.intro (fun e2 => absurd rfl e2) (fun _ => ?_)
  refine And.intro (cz0 hc hz) (s_Llay (f := u2 (u2 (u2 f0 0 6 0) 34 1 0) 34 2 60) (l := u1 l0 35 C) hsc rfl rfl hC rfl ?_ ⟨rfl, rfl, rfl, rfl⟩ ⟨rfl, rfl⟩ (fun n F L hS h0 => ?_))
  · have k : ∀ x, ¬ x = 0 → ¬ x = 34 → (u2 (u2 (u2 f0 0 6 0) 34 1 0) 34 2 60) x = f0 x := fun x a b => funext fun y => by rw [u2_ne b, u2_ne b, u2_ne a]
    have h := iv_f0
    show pv _ ∧ pv _ ∧ pv _ ∧ pv _ ∧ pv _ ∧ pv _
    rw [k 9 (by decide) (by decide), k 10 (by decide) (by decide), k 11 (by decide) (by decide), k 12 (by decide) (by decide), k 13 (by decide) (by decide), k 14 (by decide) (by decide)]
    exact h
  · have hn6 := hS.n6
    have e0 := ldW (f := F) (l := L) (q := []) hS.2.1.1 (i := 0) (by decide) (x := Int32.ofInt 0) rfl
    rw [hS.2.1.2.1] at e0
    have ev : (Int32.ofInt 1 <<< (nI n &&& 31)) - Int32.ofInt 1 = nI (2 ^ n - 1) := every_n ⟨n, by omega⟩
    have t := eras (P := fun v _ => v = some (.int 1)) hsc (fun _ => rfl) 3 0 0 F L [] 43 432 rfl rfl hS h0 (by decide) (by decide)
    have t2 : ∀ y, y = nI (2 ^ n - 1) → ba_go (some sc) ix_L_law 56 [some (.ref 0), some (.ref 1), some (.ref 43), some (.int (nI n)), some (.int y), some (.int 0), none, none, none, none, none, none, none, none, none, none, none, none, none, none] [] (wW F L []) 43 432 (fun v _ => v = some (.int 1)) := fun y hy => by rw [hy]; exact t
    refine run_L0 4 ?_
    refine Exists.intro _ (And.intro (e0 _) ?_)
    refine And.intro (fun _ => ?_) (fun e2 => absurd rfl e2)
    refine run_L0 12 ?_
    refine Exists.intro _ (And.intro (e0 _) ?_)
    exact t2 _ ev
