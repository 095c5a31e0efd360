/-! the law: what a neck, a kind could be, by what is taken -/
theorem so_sob {t rd : Nat → Nat} {T : Nat → Int32} {A B : List Int32} : ∀ (R : Nat), (∀ k, k < R → A.getD k 0 = nI (rd k % 8) ∧ B.getD k 0 = nI (rd k / 8) ∧ rd k < 256 ∧ T (rd k % 8) = nI (t (rd k % 8)) ∧ t (rd k % 8) < 100) → sob T A B R = so t rd R
  | 0, _ => rfl
  | R + 1, h => by
    show (sob T A B R && decide (T (A.getD R 0).toNatClampNeg = B.getD R 0)) = (so t rd R && decide (t (rd R % 8) = rd R / 8))
    obtain ⟨h1, h2, h3, h4, h5⟩ := h R (by omega)
    rw [so_sob R (fun k hk => h k (by omega)), h1, h2, nI_clamp (by omega), h4]
    congr 1
    rw [decide_eq_decide]
    exact nI_eq (by omega) (by omega)
def nkc (l : Nat → List Int32) (p : Nat) (rd : Nat → Nat) (R v : Nat) : Bool := so (fun y => ty (if y = p then px l p % 32 + 32 * v else px l y)) rd R
def kkc (l : Nat → List Int32) (p : Nat) (rd : Nat → Nat) (R v : Nat) : Bool := so (fun y => ty (if y = p then px l p / 4 * 4 + v else px l y)) rd R
section LF
variable {scr : Option (List Int32)} {P : ba_P} {w : ba_W} {f : Nat → Nat → Int32} {l : Nat → List Int32} {q : List (List Int32)}
variable {n e N c z p R : Nat} {g x1 : Int32} {rd : Nat → Nat} {A : List Int32}
theorem SS.TnE (h : SS f l n) (hp : p < n) {v y : Nat} (hv : v < 10) (hy : y < n) : Tn f p v y = nI (ty (if y = p then px l p % 32 + 32 * v else px l y)) := by
  obtain ⟨⟨a1, a2, a3⟩, b0, b1, b2, b3⟩ := h.2.2.2 p hp
  obtain ⟨⟨c1, c2, c3⟩, d0, d1, d2, d3⟩ := h.2.2.2 y hy
  unfold Tn
  by_cases e : y = p
  · rw [if_pos e, if_pos e, b0, ← tk_ty (x := px l p % 32 + 32 * v) (by omega) (by omega), show (px l p % 32 + 32 * v) % 4 = px l p % 4 by omega, show (px l p % 32 + 32 * v) / 32 = v by omega]
  · rw [if_neg e, if_neg e, d0, d3, tk_ty c2 c3]
theorem SS.TkE (h : SS f l n) (hp : p < n) {v y : Nat} (hv : v < 3) (hy : y < n) : Tk f p v y = nI (ty (if y = p then px l p / 4 * 4 + v else px l y)) := by
  obtain ⟨⟨a1, a2, a3⟩, b0, b1, b2, b3⟩ := h.2.2.2 p hp
  obtain ⟨⟨c1, c2, c3⟩, d0, d1, d2, d3⟩ := h.2.2.2 y hy
  unfold Tk
  by_cases e : y = p
  · rw [if_pos e, if_pos e, b3, ← tk_ty (x := px l p / 4 * 4 + v) (by omega) (by omega), show (px l p / 4 * 4 + v) % 4 = v by omega, show (px l p / 4 * 4 + v) / 32 = px l p / 32 by omega]
  · rw [if_neg e, if_neg e, d0, d3, tk_ty c2 c3]
theorem SS.necksE (h : SS f l n) (hp : p < n) (hD : RD f l R rd) (hrd : rdv rd R n) : orS (fun v => sob (Tn f p v) (l 30) (l 31) R) 10 = orS (nkc l p rd R) 10 := by
  refine orS_congr (fun v hv => so_sob R (fun k hk => ?_))
  obtain ⟨h1, h2, h3⟩ := hrd k hk
  obtain ⟨h4, h5⟩ := hD.2 k hk
  have a2 := (h.2.2.2 p hp).1.2.1
  have c2 := (h.2.2.2 (rd k % 8) h2).1.2.1
  refine ⟨h4, h5, h1, h.TnE hp hv h2, ?_⟩
  have := ty_lt (x := if rd k % 8 = p then px l p % 32 + 32 * v else px l (rd k % 8)) (by split <;> omega)
  show ty _ < 100
  omega
theorem SS.kindsE (h : SS f l n) (hp : p < n) (hD : RD f l R rd) (hrd : rdv rd R n) : orS (fun v => sob (Tk f p v) (l 30) (l 31) R) 3 = orS (kkc l p rd R) 3 := by
  refine orS_congr (fun v hv => so_sob R (fun k hk => ?_))
  obtain ⟨h1, h2, h3⟩ := hrd k hk
  obtain ⟨h4, h5⟩ := hD.2 k hk
  have a2 := (h.2.2.2 p hp).1.2.1
  have c2 := (h.2.2.2 (rd k % 8) h2).1.2.1
  refine ⟨h4, h5, h1, h.TkE hp hv h2, ?_⟩
  have := ty_lt (x := if rd k % 8 = p then px l p / 4 * 4 + v else px l (rd k % 8)) (by split <;> omega)
  show ty _ < 100
  omega
theorem f_necks (hc : c ≤ 1000) (hz : z ≤ 20000) (hS : SS f l n) (hp : p < n) (hR : R ≤ 5) (hA : arr A rd R) (hrd : rdv rd R n)
    (K : ∀ y, ba_go scr ix_L_law 1434 (LL n e g x1 N [none, none, none, some (.int (nI p)), some (.int (nI (px l p))), some (.int (nI R)), some (.ref (43 + q.length + 1)), some (.int (orS (nkc l p rd R) 10)), none, none, none]) [] (wW f (wp l p y) (q ++ [A])) c z P) :
    ∀ (m v y : Nat) (x s : Int32), v + m = 10 → x = nI v → s = orS (nkc l p rd R) v → ba_go scr ix_L_law 1380 (LL n e g x1 N [none, none, none, some (.int (nI p)), some (.int (nI (px l p))), some (.int (nI R)), some (.ref (43 + q.length + 1)), some (.int s), some (.int x), none, none]) [] (wW f (wp l p y) (q ++ [A])) c z P := by
  have hn6 := hS.n6
  obtain ⟨⟨h1, h2, h3⟩, -⟩ := hS.2.2.2 p hp
  intro m
  induction m with
  | zero =>
    intro v y x s hv hx hs
    subst hx; subst hs
    have e4 : v = 10 := by omega
    subst e4
    refine run_L6 3 ?_
    refine And.intro (fun _ => ?_) (fun e2 => absurd (by decide) e2)
    refine ba_le.weak ?_ (K y)
    repeat (first | exact le_0 | refine le_s ?_ | refine le_n ?_)
  | succ m ih =>
    intro v y x s hv hx hs
    subst hx; subst hs
    have hx' : px l p % 32 + 32 * v < 320 := by omega
    have hQ := wp_lq hS.lq hp hx'
    have em := px_sn (u := v) h2 (by omega)
    have st := stW (f := f) (l := wp l p y) (q := q ++ [A]) (by rw [wp_42, List.length_set]; exact hS.2.1.1) (i := 16 + p) (v := nI (px l p % 32 + 32 * v)) (by omega) (nI_add 16 p)
    rw [wp_wp, ← em] at st
    have et : (fun y => ty (px (wp l p (px l p % 32 + 32 * v)) y)) = (fun y => ty (if y = p then px l p % 32 + 32 * v else px l y)) := funext fun y => by rw [wp_px hS.2.1.1 (by omega) hx']
    have es : orS (nkc l p rd R) (v + 1) = (orS (nkc l p rd R) v ||| (if nkc l p rd R v then (1 : Int32) <<< (nI v &&& 31) else 0)) := rfl
    refine run_L6 20 ?_
    refine And.intro (fun e2 => absurd e2 (by show ¬ nI 10 ≤ nI v; rw [le_i, nI_toInt (by omega), nI_toInt (by omega)]; omega)) (fun _ => ?_)
    refine Exists.intro _ (And.intro (st) ?_)
    refine And.intro (cz0 hc hz) (s_LareSo (rd := rd) hQ rfl (by omega) (fun i hi => ⟨(hrd i hi).1, (hrd i hi).2.1⟩) (fun xs i hi => by rw [ldQ (by rw [hA.1]; decide) (i := i) (by rw [hA.1]; omega) rfl, hA.2 i hi]) (fun hs => ?_) (fun hs => ?_))
    · rw [et] at hs
      have hs : nkc l p rd R v = true := hs
      rw [hs, if_pos rfl] at es
      refine run_L6 1 ?_
      refine And.intro (fun e2 => absurd e2 (by decide)) (fun _ => ?_)
      refine run_L6 8 ?_
      exact ih (v + 1) _ _ _ (by omega) (nI_1 v) es.symm
    · rw [et] at hs
      have hs : nkc l p rd R v = false := hs
      rw [hs, if_neg (by decide)] at es
      refine run_L6 1 ?_
      refine And.intro (fun _ => ?_) (fun e2 => absurd rfl e2)
      refine run_L6 5 ?_
      exact ih (v + 1) _ _ _ (by omega) (nI_1 v) es.symm
theorem f_kinds (hc : c ≤ 1000) (hz : z ≤ 20000) (hS : SS f l n) (hp : p < n) (hR : R ≤ 5) (hA : arr A rd R) (hrd : rdv rd R n) {nk : Int32}
    (K : ba_go scr ix_L_law 1500 (LL n e g x1 N [none, none, none, some (.int (nI p)), some (.int (nI (px l p))), some (.int (nI R)), none, some (.int nk), some (.int (orS (kkc l p rd R) 3)), none, none]) [] (wW f l (q ++ [A])) c z P) :
    ∀ (m v y : Nat) (x s : Int32), v + m = 3 → x = nI v → s = orS (kkc l p rd R) v → ba_go scr ix_L_law 1440 (LL n e g x1 N [none, none, none, some (.int (nI p)), some (.int (nI (px l p))), some (.int (nI R)), some (.ref (43 + q.length + 1)), some (.int nk), some (.int s), some (.int x), none]) [] (wW f (wp l p y) (q ++ [A])) c z P := by
  have hn6 := hS.n6
  obtain ⟨⟨h1, h2, h3⟩, -⟩ := hS.2.2.2 p hp
  intro m
  induction m with
  | zero =>
    intro v y x s hv hx hs
    subst hx; subst hs
    have e4 : v = 3 := by omega
    subst e4
    have st := stW (f := f) (l := wp l p y) (q := q ++ [A]) (by rw [wp_42, List.length_set]; exact hS.2.1.1) (i := 16 + p) (v := nI (px l p)) (by omega) (nI_add 16 p)
    rw [wp_wp, wp_self h1] at st
    refine run_L6 9 ?_
    refine And.intro (fun _ => ?_) (fun e2 => absurd (by decide) e2)
    refine Exists.intro _ (And.intro (st) ?_)
    refine ba_le.weak ?_ K
    repeat (first | exact le_0 | refine le_s ?_ | refine le_n ?_)
  | succ m ih =>
    intro v y x s hv hx hs
    subst hx; subst hs
    have hx' : px l p / 4 * 4 + v < 320 := by omega
    have hQ := wp_lq hS.lq hp hx'
    have em := px_sk (k := v) h2 (by omega)
    have st := stW (f := f) (l := wp l p y) (q := q ++ [A]) (by rw [wp_42, List.length_set]; exact hS.2.1.1) (i := 16 + p) (v := nI (px l p / 4 * 4 + v)) (by omega) (nI_add 16 p)
    rw [wp_wp, ← em] at st
    have et : (fun y => ty (px (wp l p (px l p / 4 * 4 + v)) y)) = (fun y => ty (if y = p then px l p / 4 * 4 + v else px l y)) := funext fun y => by rw [wp_px hS.2.1.1 (by omega) hx']
    have es : orS (kkc l p rd R) (v + 1) = (orS (kkc l p rd R) v ||| (if kkc l p rd R v then (1 : Int32) <<< (nI v &&& 31) else 0)) := rfl
    refine run_L6 18 ?_
    refine And.intro (fun e2 => absurd e2 (by show ¬ nI 3 ≤ nI v; rw [le_i, nI_toInt (by omega), nI_toInt (by omega)]; omega)) (fun _ => ?_)
    refine Exists.intro _ (And.intro (st) ?_)
    refine And.intro (cz0 hc hz) (s_LareSo (rd := rd) hQ rfl (by omega) (fun i hi => ⟨(hrd i hi).1, (hrd i hi).2.1⟩) (fun xs i hi => by rw [ldQ (by rw [hA.1]; decide) (i := i) (by rw [hA.1]; omega) rfl, hA.2 i hi]) (fun hs => ?_) (fun hs => ?_))
    · rw [et] at hs
      have hs : kkc l p rd R v = true := hs
      rw [hs, if_pos rfl] at es
      refine run_L6 1 ?_
      refine And.intro (fun e2 => absurd e2 (by decide)) (fun _ => ?_)
      refine run_L6 8 ?_
      exact ih (v + 1) _ _ _ (by omega) (nI_1 v) es.symm
    · rw [et] at hs
      have hs : kkc l p rd R v = false := hs
      rw [hs, if_neg (by decide)] at es
      refine run_L6 1 ?_
      refine And.intro (fun _ => ?_) (fun e2 => absurd rfl e2)
      refine run_L6 5 ?_
      exact ih (v + 1) _ _ _ (by omega) (nI_1 v) es.symm
theorem f_both (hc : c ≤ 1000) (hz : z ≤ 20000) (hS : SS f l n) (hp : p < n) (hR : R ≤ 5) (hA : arr A rd R) (hrd : rdv rd R n)
    (K : ba_go scr ix_L_law 1500 (LL n e g x1 N [none, none, none, some (.int (nI p)), some (.int (nI (px l p))), some (.int (nI R)), none, some (.int (orS (nkc l p rd R) 10)), some (.int (orS (kkc l p rd R) 3)), none, none]) [] (wW f l (q ++ [A])) c z P) :
    ba_go scr ix_L_law 1374 (LL n e g x1 N [none, none, none, some (.int (nI p)), some (.int (nI (px l p))), some (.int (nI R)), some (.ref (43 + q.length + 1)), none, none, none, none]) [] (wW f l (q ++ [A])) c z P := by
  obtain ⟨⟨h1, h2, h3⟩, -⟩ := hS.2.2.2 p hp
  have s := f_necks (e := e) (N := N) (g := g) (x1 := x1) (P := P) (scr := scr) (q := q) hc hz hS hp hR hA hrd (fun y => by
    refine run_L6 4 ?_
    exact f_kinds hc hz hS hp hR hA hrd K 3 0 y 0 0 rfl rfl rfl) 10 0 (px l p) 0 0 rfl rfl rfl
  rw [wp_self h1] at s
  refine run_L6 4 ?_
  exact s
end LF
