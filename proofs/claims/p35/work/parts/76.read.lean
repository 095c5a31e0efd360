/-! the law: readings -/
theorem rd_mk {a v : Nat} (ha : a < 8) (hv : v ≤ 20) : nI a ||| (nI v <<< (Int32.ofInt 3 &&& 31)) = nI (a + 8 * v) := (by decide +kernel : ∀ (a : Fin 8) (v : Fin 21), nI a.1 ||| (nI v.1 <<< (Int32.ofInt 3 &&& 31)) = nI (a.1 + 8 * v.1)) ⟨a, ha⟩ ⟨v, by omega⟩
theorem px_sk {x k : Nat} (hx : x < 320) (hk : k < 4) : (nI x &&& (Int8.ofInt (-4)).toInt32) ||| nI k = nI (x / 4 * 4 + k) := (by decide +kernel : ∀ (x : Fin 320) (k : Fin 4), (nI x.1 &&& (Int8.ofInt (-4)).toInt32) ||| nI k.1 = nI (x.1 / 4 * 4 + k.1)) ⟨x, hx⟩ ⟨k, hk⟩
theorem px_sn {x u : Nat} (hx : x < 320) (hu : u < 10) : (nI x &&& (Int8.ofInt 31).toInt32) ||| (nI u <<< (Int32.ofInt 5 &&& 31)) = nI (x % 32 + 32 * u) := (by decide +kernel : ∀ (x : Fin 320) (u : Fin 10), (nI x.1 &&& (Int8.ofInt 31).toInt32) ||| (nI u.1 <<< (Int32.ofInt 5 &&& 31)) = nI (x.1 % 32 + 32 * u.1)) ⟨x, hx⟩ ⟨u, hu⟩
section LE
variable {scr : Option (List Int32)} {P : ba_P} {w : ba_W} {f : Nat → Nat → Int32} {l : Nat → List Int32} {q : List (List Int32)}
variable {n e N c z p : Nat} {g x1 : Int32}
/-- the law's people with another number for one -/
def wp (l : Nat → List Int32) (p x : Nat) : Nat → List Int32 := u1 l 42 ((l 42).set (16 + p) (nI x))
theorem wp_42 {x : Nat} : (wp l p x) 42 = (l 42).set (16 + p) (nI x) := u1_eq
theorem wp_wp {x y : Nat} : u1 (wp l p x) 42 (((wp l p x) 42).set (16 + p) (nI y)) = wp l p y := by
  rw [wp_42]
  unfold wp
  rw [u1_u1, List.set_set]
theorem wp_self (h : (l 42).getD (16 + p) 0 = nI (px l p)) : wp l p (px l p) = l := by
  unfold wp
  rw [← h, set_self, u1_self]
theorem wp_px {x y : Nat} (hl : (l 42).length = 22) (hp : p < 6) (hx : x < 320) : px (wp l p x) y = if y = p then x else px l y := by
  unfold px
  rw [wp_42, getD_set]
  by_cases e : y = p
  · rw [if_pos ⟨by omega, by omega⟩, if_pos e, nI_clamp (by omega)]
  · rw [if_neg (fun h => e (by omega)), if_neg e]
theorem wp_lq {x : Nat} (h : LQ l n) (hp : p < n) (hx : x < 320) : LQ (wp l p x) n := by
  obtain ⟨h1, h2, h3, h4⟩ := h
  refine ⟨by rw [wp_42, List.length_set]; exact h1, by rw [wp_42, getD_set, if_neg (by omega)]; exact h2, h3, fun y hy => ?_⟩
  rw [wp_px h1 (by omega) hx, wp_42, getD_set]
  by_cases e : y = p
  · rw [if_pos ⟨by omega, by omega⟩, if_pos e]
    exact ⟨rfl, hx⟩
  · rw [if_neg (fun h => e (by omega)), if_neg e]
    exact h4 y hy
def rdv (rd : Nat → Nat) (R n : Nat) : Prop := ∀ i, i < R → rd i < 256 ∧ rd i % 8 < n ∧ rd i / 8 ≤ 20
def arr (A : List Int32) (rd : Nat → Nat) (R : Nat) : Prop := A.length = 5 ∧ ∀ i, i < R → A.getD i 0 = nI (rd i)
def RD (f : Nat → Nat → Int32) (l : Nat → List Int32) (R : Nat) (rd : Nat → Nat) : Prop := f 29 3 = nI R ∧ ∀ k, k < R → (l 30).getD k 0 = nI (rd k % 8) ∧ (l 31).getD k 0 = nI (rd k / 8)
/-- what is seen, into the array -/
theorem d_fill {R : Nat} {own : Int32} (hc : c ≤ 1000) (hz : z ≤ 20000) (hQ : LQ l n) (h20 : ∀ y, y < n → ty (px l y) ≤ 20) (hn : 2 ≤ n) (hp : p < n) (hR : R ≤ 5)
    (K : ∀ A rd, arr A rd R → rdv rd R n → ba_go scr ix_L_law 1323 (LL n e g x1 N [none, none, none, some (.int (nI p)), some (.int own), some (.int (nI R)), some (.ref (43 + q.length + 1)), none, none, none, none]) [] (wW f l (q ++ [A])) c z P) :
    ∀ (m r : Nat) (x : Int32) (A : List Int32) (rd : Nat → Nat), r + m = R → x = nI r → arr A rd r → rdv rd r n → ba_go scr ix_L_law 1230 (LL n e g x1 N [none, none, none, some (.int (nI p)), some (.int own), some (.int (nI R)), some (.ref (43 + q.length + 1)), some (.int x), none, none, none]) [] (wW f l (q ++ [A])) c z P := by
  have hn6 := hQ.2.2.1
  intro m
  induction m with
  | zero =>
    intro r x A rd hr hx hA hrd
    subst hx
    have e4 : r = R := by omega
    subst e4
    refine run_L5 3 ?_
    refine And.intro (fun _ => ?_) (fun e2 => absurd (by show nI r ≤ nI r; rw [le_i]; omega) e2)
    refine ba_le.weak ?_ (K A rd hA hrd)
    repeat (first | exact le_0 | refine le_s ?_ | refine le_n ?_)
  | succ m ih =>
    intro r x A rd hr hx hA hrd
    subst hx
    have store : ∀ (one v : Nat) (xx : Int32), one < n → v ≤ 20 → ba_go scr ix_L_law 1313 (LL n e g x1 N [none, none, none, some (.int (nI p)), some (.int own), some (.int (nI R)), some (.ref (43 + q.length + 1)), some (.int (nI r)), none, none, none]) [.int (nI v), .int (nI one), .int (nI r), .ref (43 + q.length + 1)] (wW f l (q ++ [A])) c z P := by
      intro one v xx ho hv
      have em := rd_mk (a := one) (v := v) (by omega) hv
      have st := stQ (f := f) (l := l) (q := q) (A := A) (i := r) (v := nI (one + 8 * v)) (by rw [hA.1]; omega) (by rw [hA.1]; omega) rfl
      rw [← em] at st
      refine run_L5 6 ?_
      refine Exists.intro _ (And.intro (st) ?_)
      rw [em]
      refine ih (r + 1) _ _ (fun i => if i = r then one + 8 * v else rd i) (by omega) (nI_1 r) ⟨by rw [List.length_set]; exact hA.1, fun i hi => ?_⟩ (fun i hi => ?_)
      · show _ = nI (if i = r then one + 8 * v else rd i)
        rw [getD_set]
        by_cases e : r = i
        · rw [if_pos ⟨e, by rw [hA.1]; omega⟩, if_pos e.symm]
        · rw [if_neg (fun h => e h.1), if_neg (fun h : i = r => e h.symm)]
          exact hA.2 i (by omega)
      · by_cases e : i = r
        · show (if i = r then one + 8 * v else rd i) < 256 ∧ (if i = r then one + 8 * v else rd i) % 8 < n ∧ (if i = r then one + 8 * v else rd i) / 8 ≤ 20
          rw [if_pos e]
          omega
        · show (if i = r then one + 8 * v else rd i) < 256 ∧ (if i = r then one + 8 * v else rd i) % 8 < n ∧ (if i = r then one + 8 * v else rd i) / 8 ≤ 20
          rw [if_neg e]
          exact hrd i (by omega)
    have clip : ∀ (one v : Nat), one < n → v ≤ 21 → ba_go scr ix_L_law 1290 (LL n e g x1 N [none, none, none, some (.int (nI p)), some (.int own), some (.int (nI R)), some (.ref (43 + q.length + 1)), some (.int (nI r)), none, some (.int (nI one)), none]) [.int 0, .int (nI v)] (wW f l (q ++ [A])) c z P := by
      intro one v ho hv
      have e0 : nI v + 0 = nI v := nI_add v 0
      have h : ba_go scr ix_L_law 1293 (LL n e g x1 N [none, none, none, some (.int (nI p)), some (.int own), some (.int (nI R)), some (.ref (43 + q.length + 1)), some (.int (nI r)), none, some (.int (nI one)), some (.int (nI v))]) [] (wW f l (q ++ [A])) c z P := by
        refine run_L5 6 ?_
        refine And.intro (fun d => ?_) (fun d => ?_)
        · have d : nI v ≤ nI 20 := d
          rw [le_i, nI_toInt (by omega), nI_toInt (by decide)] at d
          refine run_L5 1 ?_
          refine ba_le.weak ?_ (store one v 0 ho (by omega))
          repeat (first | exact le_0 | refine le_s ?_ | refine le_n ?_)
        · refine run_L5 2 ?_
          refine ba_le.weak ?_ (store one 20 0 ho (by omega))
          repeat (first | exact le_0 | refine le_s ?_ | refine le_n ?_)
      rw [← e0] at h
      refine run_L5 2 ?_
      exact h
    have clip1 : ∀ (one v : Nat), one < n → v ≤ 20 → ba_go scr ix_L_law 1290 (LL n e g x1 N [none, none, none, some (.int (nI p)), some (.int own), some (.int (nI R)), some (.ref (43 + q.length + 1)), some (.int (nI r)), none, some (.int (nI one)), none]) [.int 1, .int (nI v)] (wW f l (q ++ [A])) c z P := by
      intro one v ho hv
      have e0 : nI v + 1 = nI (v + 1) := nI_1 v
      have h : ba_go scr ix_L_law 1293 (LL n e g x1 N [none, none, none, some (.int (nI p)), some (.int own), some (.int (nI R)), some (.ref (43 + q.length + 1)), some (.int (nI r)), none, some (.int (nI one)), some (.int (nI (v + 1)))]) [] (wW f l (q ++ [A])) c z P := by
        refine run_L5 6 ?_
        refine And.intro (fun d => ?_) (fun d => ?_)
        · have d : nI (v + 1) ≤ nI 20 := d
          rw [le_i, nI_toInt (by omega), nI_toInt (by decide)] at d
          refine run_L5 1 ?_
          refine ba_le.weak ?_ (store one (v + 1) 0 ho (by omega))
          repeat (first | exact le_0 | refine le_s ?_ | refine le_n ?_)
        · refine run_L5 2 ?_
          refine ba_le.weak ?_ (store one 20 0 ho (by omega))
          repeat (first | exact le_0 | refine le_s ?_ | refine le_n ?_)
      rw [← e0] at h
      refine run_L5 2 ?_
      exact h
    have taken : ∀ (one : Nat) (xx : Int32), one < n → ba_go scr ix_L_law 1267 (LL n e g x1 N [none, none, none, some (.int (nI p)), some (.int own), some (.int (nI R)), some (.ref (43 + q.length + 1)), some (.int (nI r)), some (.int xx), none, none]) [.int (nI one)] (wW f l (q ++ [A])) c z P := by
      intro one xx ho
      obtain ⟨h1, h2⟩ := hQ.2.2.2 one ho
      have ht := h20 one ho
      refine run_L5 4 ?_
      refine And.intro (cz0 hc hz) (s_Ltakes hQ.1 rfl (by omega) h1 h2 ?_)
      refine run_L5 6 ?_
      refine And.intro (fun _ => ?_) (fun _ => ?_)
      · refine run_L5 1 ?_
        refine ba_le.weak ?_ (clip one (ty (px l one)) ho (by omega))
        repeat (first | exact le_0 | refine le_s ?_ | refine le_n ?_)
      · refine run_L5 2 ?_
        refine ba_le.weak ?_ (clip1 one (ty (px l one)) ho ht)
        repeat (first | exact le_0 | refine le_s ?_ | refine le_n ?_)
    refine run_L5 13 ?_
    refine And.intro (fun e2 => absurd e2 (by show ¬ nI R ≤ nI r; rw [le_i, nI_toInt (by omega), nI_toInt (by omega)]; omega)) (fun _ => ?_)
    refine And.intro (fun _ => ?_) (fun _ => ?_)
    · refine run_L5 5 ?_
      refine And.intro (cz0 hc hz) (s_Llow rfl (by omega) (by omega) (fun one ho => ?_))
      exact taken one _ ho
    · refine run_L5 2 ?_
      exact taken p _ hp
theorem d_tell {R : Nat} {rd : Nat → Nat} {A : List Int32} {own : Int32} (hc : c ≤ 1000) (hz : z ≤ 20000) (hp : p < n) (hR : R ≤ 5) (hA : arr A rd R) (hrd : rdv rd R n)
    (K : ∀ F L, SS F L n → RD F L R rd → L 42 = l 42 → ba_go scr ix_L_law 1374 (LL n e g x1 N [none, none, none, some (.int (nI p)), some (.int own), some (.int (nI R)), some (.ref (43 + q.length + 1)), none, none, none, none]) [] (wW F L (q ++ [A])) c z P) :
    ∀ (m r : Nat) (x : Int32) (F : Nat → Nat → Int32) (L : Nat → List Int32), r + m = R → x = nI r → SS F L n → RD F L r rd → L 42 = l 42 → ba_go scr ix_L_law 1335 (LL n e g x1 N [none, none, none, some (.int (nI p)), some (.int own), some (.int (nI R)), some (.ref (43 + q.length + 1)), some (.int x), none, none, none]) [] (wW F L (q ++ [A])) c z P := by
  intro m
  induction m with
  | zero =>
    intro r x F L hr hx hS hD h42
    subst hx
    have e4 : r = R := by omega
    subst e4
    refine run_L5 3 ?_
    refine And.intro (fun _ => ?_) (fun e2 => absurd (by show nI r ≤ nI r; rw [le_i]; omega) e2)
    refine ba_le.weak ?_ (K F L hS hD h42)
    repeat (first | exact le_0 | refine le_s ?_ | refine le_n ?_)
  | succ m ih =>
    intro r x F L hr hx hS hD h42
    subst hx
    obtain ⟨r1, r2, r3⟩ := hrd r (by omega)
    have hn6 := hS.n6
    have a1 : ∀ xs, ba_ldI xs (wW F L (q ++ [A])) (43 + q.length + 1) (nI r) = some (nI (rd r)) := fun xs => by
      rw [ldQ (by rw [hA.1]; decide) (i := r) (by rw [hA.1]; omega) rfl, hA.2 r (by omega)]
    refine run_L5 15 ?_
    refine And.intro (fun e2 => absurd e2 (by show ¬ nI R ≤ nI r; rw [le_i, nI_toInt (by omega), nI_toInt (by omega)]; omega)) (fun _ => ?_)
    refine Exists.intro _ (And.intro (a1 _) ?_)
    refine Exists.intro _ (And.intro (a1 _) ?_)
    have l30 := hS.1.2.1.2.2.2.2.1
    have l31 := hS.1.2.1.2.2.2.2.2
    refine And.intro (cz0 hc hz) (c_reading hS.1 (rd_p r1) r2 (rd_v r1) r3 hD.1 (fun _ => ?_) (fun h => absurd h (by omega)) (by omega))
    refine run_L5 2 ?_
    refine And.intro (fun _ => ?_) (fun e2 => absurd rfl e2)
    refine run_L5 2 ?_
    refine ih (r + 1) _ _ _ (by omega) (nI_1 r) (hS.keep (fun x y hx => u2_ne (by omega)) rfl rfl rfl hS.1.2.1.2.2.1 hS.1.2.1.2.2.2.1 ?_ ?_) ⟨u2_eq, fun k hk => ?_⟩ h42
    · show ((L 30).set _ _).length = 8
      rw [List.length_set]; exact l30
    · show ((L 31).set _ _).length = 8
      rw [List.length_set]; exact l31
    · show ((L 30).set r (nI (rd r % 8))).getD k 0 = _ ∧ ((L 31).set r (nI (rd r / 8))).getD k 0 = _
      rw [getD_set, getD_set]
      by_cases e : r = k
      · rw [if_pos ⟨e, by omega⟩, if_pos ⟨e, by omega⟩, e]
        exact ⟨rfl, rfl⟩
      · rw [if_neg (fun h => e h.1), if_neg (fun h => e h.1)]
        exact hD.2 k (by omega)
theorem d_read (hc1 : c + 1 ≤ 1000) (hz1 : z + 5 ≤ 20000) (hS : SS f l n) (h0 : f 29 3 = nI 0)
    (K : ∀ F L p R A rd, p < n → R ≤ 5 → SS F L n → RD F L R rd → rdv rd R n → arr A rd R → ba_go scr ix_L_law 1374 (LL n e g x1 N [none, none, none, some (.int (nI p)), some (.int (nI (px L p))), some (.int (nI R)), some (.ref (43 + q.length + 1)), none, none, none, none]) [] (wW F L (q ++ [A])) (c + 1) (z + 5) P) :
    ba_go scr ix_L_law 1138 (LL n e g x1 N [none, none, none, none, none, none, none, none, none, none, none]) [] (wW f l q) c z P := by
  have hn6 := hS.n6
  have hc : c ≤ 1000 := by omega
  have hz : z ≤ 20000 := by omega
  refine run_L5 5 ?_
  refine And.intro (cz0 hc hz) (s_Llow rfl (by omega) (by omega) (fun p hp => ?_))
  obtain ⟨⟨h1, h2, h3⟩, -⟩ := hS.2.2.2 p hp
  have ew := ldW (f := f) (l := l) (q := q) hS.2.1.1 (i := 16 + p) (by omega) (nI_add 16 p)
  rw [h1] at ew
  -- behind the change of one
  have on : ∀ x : Nat, x < 320 → x % 4 < 3 → ba_go scr ix_L_law 1210 (LL n e g x1 N [none, none, none, some (.int (nI p)), some (.int (nI (px l p))), none, none, none, none, none, none]) [] (wW f (wp l p x) q) c z P := by
    intro x hx hx3
    have hQ := wp_lq hS.lq hp hx
    refine run_L5 5 ?_
    refine And.intro (cz0 hc hz) (s_Llow (m := 6) rfl (by decide) (by decide) (fun R hR => ?_))
    refine run_L5 3 ?_
    refine And.intro (czn (k := 5) hc1 hz1 (by decide)) ?_
    refine go_new (k := 5) ?_
    refine run_L5 3 ?_
    refine d_fill (c := c + 1) (z := z + 5) (R := R) hc1 hz1 hQ (fun y hy => ?_) hn6.1 hp (by omega) (fun A rd hA hrd => ?_) R 0 0 _ (fun _ => 0) (Nat.zero_add R) rfl ⟨rfl, fun i hi => absurd hi (by omega)⟩ (fun i hi => absurd hi (by omega))
    · rw [wp_px hS.2.1.1 (by omega) hx]
      split
      · exact ty_lt hx
      · exact ty_lt ((hS.2.2.2 y hy).1.2.1)
    · have st := stW (f := f) (l := wp l p x) (q := q ++ [A]) hQ.1 (i := 16 + p) (v := nI (px l p)) (by omega) (nI_add 16 p)
      rw [wp_wp, wp_self h1] at st
      refine run_L5 8 ?_
      refine Exists.intro _ (And.intro (st) ?_)
      refine d_tell (l := l) (c := c + 1) (z := z + 5) hc1 hz1 hp (by omega) hA hrd (fun F L hS2 hD h42 => ?_) R 0 0 f l (Nat.zero_add R) rfl hS ⟨h0, fun k hk => absurd hk (by omega)⟩ rfl
      have ep : px L p = px l p := by unfold px; rw [h42]
      have k := K F L p R A rd hp (by omega) hS2 hD hrd hA
      rw [ep] at k
      exact k
  refine run_L5 17 ?_
  refine Exists.intro _ (And.intro (ew _) ?_)
  refine And.intro (fun _ => ?_) (fun _ => ?_)
  · refine run_L5 8 ?_
    refine And.intro (cz0 hc hz) (s_Llow (m := 10) rfl (by decide) (by decide) (fun u hu => ?_))
    refine run_L5 4 ?_
    have em := px_sn h2 hu
    have st := stW (f := f) (l := l) (q := q) hS.2.1.1 (i := 16 + p) (v := nI (px l p % 32 + 32 * u)) (by omega) (nI_add 16 p)
    rw [← em] at st
    refine Exists.intro _ (And.intro (st) ?_)
    rw [em]
    exact on (px l p % 32 + 32 * u) (by omega) (by omega)
  · refine run_L5 8 ?_
    refine And.intro (cz0 hc hz) (s_Llow (m := 3) rfl (by decide) (by decide) (fun k hk => ?_))
    refine run_L5 3 ?_
    have em := px_sk (k := k) h2 (by omega)
    have st := stW (f := f) (l := l) (q := q) hS.2.1.1 (i := 16 + p) (v := nI (px l p / 4 * 4 + k)) (by omega) (nI_add 16 p)
    rw [← em] at st
    refine Exists.intro _ (And.intro (st) ?_)
    rw [em]
    exact on (px l p / 4 * 4 + k) (by omega) (by omega)
end LE
