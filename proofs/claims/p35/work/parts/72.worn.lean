/-! the law: wear, strike by strike -/
section LV
variable {scr : Option (List Int32)} {P : ba_P} {w : ba_W} {f : Nat → Nat → Int32} {l : Nat → List Int32} {q : List (List Int32)}
variable {n e N a c z : Nat} {g x1 : Int32} {A B : List Int32}
theorem wW_app : wW f l q = wW f l [] ++ q.map tlE := rfl
theorem wW_len : (wW f l q).length = 43 + q.length := by
  rw [wW_app, List.length_append, List.length_map]
  rfl
theorem wW_new : wW f l q ++ [tlE A] = wW f l (q ++ [A]) := by
  rw [wW_app (q := q ++ [A]), wW_app (q := q), List.map_append, List.append_assoc]
  rfl
theorem wW_last : (wW f l (q ++ [A]))[43 + q.length]? = some (tlE A) := by
  rw [← wW_new, List.getElem?_append_right (by rw [wW_len]; exact Nat.le_refl _), wW_len, Nat.sub_self]
  rfl
theorem wW_setl : (wW f l (q ++ [A])).set (43 + q.length) (tlE B) = wW f l (q ++ [B]) := by
  rw [← wW_new, ← wW_new, List.set_append_right _ _ (by rw [wW_len]; exact Nat.le_refl _), wW_len, Nat.sub_self]
  rfl
theorem ldQ {i : Nat} {x : Int32} (hA : A.length < 100) (hi : i < A.length) (hx : x = nI i) : ∀ xs, ba_ldI xs (wW f l (q ++ [A])) (43 + q.length + 1) x = some (A.getD i 0) := fun xs => by
  subst hx
  rw [ldI_of (l := A) wW_last (by rw [nI_toInt (by omega)]; omega) (by rw [nI_toInt (by omega)]; omega), nI_clamp (by omega)]
theorem stQ {i : Nat} {x v : Int32} (hA : A.length < 100) (hi : i < A.length) (hx : x = nI i) : ba_stI (wW f l (q ++ [A])) (43 + q.length + 1) x v = some (wW f l (q ++ [A.set i v])) := by
  subst hx
  rw [stI_of (l := A) wW_last (by rw [nI_toInt (by omega)]; omega) (by rw [nI_toInt (by omega)]; omega), nI_clamp (by omega)]
  exact congrArg some wW_setl
theorem go_new {mu pc k : Nat} {L : ba_L} {st : List Value} (h : ba_go scr mu pc L (.ref (43 + q.length + 1) :: st) (wW f l (q ++ [List.replicate k 0])) c z P) : ba_go scr mu pc L (.ref ((wW f l q).length + 1) :: st) (wW f l q ++ [.inl (.int, .inl (List.replicate k 0))]) c z P := by
  rw [← wW_new] at h
  rw [wW_len]
  exact h
theorem czn {c z k : Nat} (hc : c + 1 ≤ 1000) (hz : z + k ≤ 20000) (hk : k < 100) : (true && (Nat.ble (k * 4) 536870912 && (Nat.ble (c + 1) 600000 && Nat.ble (z + k) 7302250))) = true := by
  rw [Nat.ble_eq_true_of_le (show k * 4 ≤ 536870912 by omega), Nat.ble_eq_true_of_le (show c + 1 ≤ 600000 by omega), Nat.ble_eq_true_of_le (show z + k ≤ 7302250 by omega)]
  rfl
theorem v_fill {s : Nat} (hc : c ≤ 1000) (hz : z ≤ 20000) (hS : SS f l n) (ha : a < 4) (hs : s < 3)
    (K : ∀ A : List Int32, A.length = 9 → (∀ j, j < 9 → A.getD j 0 = nI (it (gs (l 5) s) j a)) → ba_go scr ix_L_law 423 (LL n e g x1 N [some (.int (nI a)), some (.int (nI s)), some (.ref (43 + q.length + 1)), none, none, none, none, none, none, none, none]) [] (wW f l (q ++ [A])) c z P) :
    ∀ (m i : Nat) (x : Int32) (A : List Int32), i + m = 9 → 1 ≤ i → x = nI i → A.length = 9 → (∀ j, j < i → A.getD j 0 = nI (it (gs (l 5) s) j a)) → ba_go scr ix_L_law 392 (LL n e g x1 N [some (.int (nI a)), some (.int (nI s)), some (.ref (43 + q.length + 1)), some (.int x), none, none, none, none, none, none, none]) [] (wW f l (q ++ [A])) c z P := by
  have hg : ∀ x, x < 4 → gs (l 5) s x < 4 := fun x hx => gs_lt hS.wr.2.2.1 hx hs
  intro m
  induction m with
  | zero =>
    intro i x A hi h1 hx hA hA2
    subst hx
    have e9 : i = 9 := by omega
    subst e9
    refine run_L1 3 ?_
    refine And.intro (fun _ => ?_) (fun e2 => absurd (by decide) e2)
    refine ba_le.weak ?_ (K A hA hA2)
    repeat (first | exact le_0 | refine le_s ?_ | refine le_n ?_)
  | succ m ih =>
    intro i x A hi h1 hx hA hA2
    subst hx
    have e1 : nI i - Int32.ofInt 1 = nI (i - 1) := by
      show nI i - nI 1 = _
      rw [nI_sub h1 (by omega)]
    refine run_L1 13 ?_
    refine And.intro (fun e2 => absurd e2 (by show ¬ (nI 9) ≤ nI i; rw [le_i, nI_toInt (by omega), nI_toInt (by omega)]; omega)) (fun _ => ?_)
    refine Exists.intro _ (And.intro (ldQ (by omega) (i := i - 1) (by omega) e1 _) ?_)
    rw [hA2 (i - 1) (by omega)]
    refine And.intro (cz0 hc hz) (s_Lr hS.wr rfl rfl (it_lt hg ha (i - 1)) hs ?_)
    refine run_L1 3 ?_
    refine Exists.intro _ (And.intro (stQ (by omega) (i := i) (by omega) rfl) ?_)
    refine ih (i + 1) _ _ (by omega) (by omega) (nI_1 i) (by rw [List.length_set]; exact hA) (fun j hj => ?_)
    rw [getD_set]
    by_cases ej : i = j
    · subst ej
      rw [if_pos ⟨rfl, by omega⟩]
      obtain ⟨k, rfl⟩ : ∃ k, i = k + 1 := ⟨i - 1, by omega⟩
      rfl
    · rw [if_neg (fun h => ej h.1)]
      exact hA2 j (by omega)
theorem v_in {s i : Nat} (hc : c ≤ 1000) (hz : z ≤ 20000) (hi : i ≤ 3) (ha : a < 4) (hg : ∀ x, x < 4 → gs (l 5) s x < 4) (hA : A.length = 9) (hA2 : ∀ j, j < 9 → A.getD j 0 = nI (it (gs (l 5) s) j a)) {b0 r0 : Int32}
    (K : ba_go scr ix_L_law 502 (LL n e g x1 N [some (.int (nI a)), some (.int (nI s)), some (.ref (43 + q.length + 1)), some (.int (if cb (gs (l 5) s) (it (gs (l 5) s) i a) = 0 then b0 else nI i)), some (.int (if cb (gs (l 5) s) (it (gs (l 5) s) i a) = 0 then r0 else nI (cb (gs (l 5) s) (it (gs (l 5) s) i a)))), some (.int (nI i)), none, none, none, none, none]) [] (wW f l (q ++ [A])) c z P) :
    ∀ (y : Nat) (x b r : Int32), y ≤ 4 → x = nI y → b = (if cbk (gs (l 5) s) (it (gs (l 5) s) i a) (4 - y) (y + 1) = 0 then b0 else nI i) → r = (if cbk (gs (l 5) s) (it (gs (l 5) s) i a) (4 - y) (y + 1) = 0 then r0 else nI (cbk (gs (l 5) s) (it (gs (l 5) s) i a) (4 - y) (y + 1))) →
      ba_go scr ix_L_law 440 (LL n e g x1 N [some (.int (nI a)), some (.int (nI s)), some (.ref (43 + q.length + 1)), some (.int b), some (.int r), some (.int (nI i)), some (.int x), none, none, none, none]) [] (wW f l (q ++ [A])) c z P := by
  intro y
  induction y with
  | zero =>
    intro x b r hy hx hb hr
    subst hx; subst hb; subst hr
    refine run_L1 2 ?_
    refine And.intro (fun _ => ?_) (fun e2 => absurd (by decide) e2)
    refine ba_le.weak ?_ K
    repeat (first | exact le_0 | refine le_s ?_ | refine le_n ?_)
  | succ y ih =>
    intro x b r hy hx hb hr
    subst hx
    have l1 := it_lt hg ha i
    have l2 := it_lt hg ha (i + (y + 1))
    have el : cbk (gs (l 5) s) (it (gs (l 5) s) i a) (4 - y) (y + 1) = (if it (gs (l 5) s) (y + 1) (it (gs (l 5) s) i a) = it (gs (l 5) s) i a then y + 1 else cbk (gs (l 5) s) (it (gs (l 5) s) i a) (4 - (y + 1)) (y + 1 + 1)) := by
      rw [show 4 - y = (4 - (y + 1)) + 1 by omega]
      rfl
    rw [it_add, Nat.add_comm (y + 1) i] at el
    generalize hC : cbk (gs (l 5) s) (it (gs (l 5) s) i a) (4 - (y + 1)) (y + 1 + 1) = C at *
    refine run_L1 11 ?_
    refine And.intro (fun e2 => absurd e2 (by show ¬ nI (y + 1) ≤ 0; rw [le_i, zi, nI_toInt (by omega)]; omega)) (fun _ => ?_)
    refine Exists.intro _ (And.intro (ldQ (by omega) (i := i) (by omega) rfl _) ?_)
    refine Exists.intro _ (And.intro (ldQ (by omega) (i := i + (y + 1)) (by omega) (nI_add i (y + 1)) _) ?_)
    rw [hA2 i (by omega), hA2 (i + (y + 1)) (by omega)]
    refine And.intro (fun d => ?_) (fun d => ?_)
    · have d : ¬ nI (it (gs (l 5) s) i a) = nI (it (gs (l 5) s) (i + (y + 1)) a) := d
      rw [nI_eq (by omega) (by omega)] at d
      rw [if_neg (fun h => d h.symm)] at el
      refine run_L1 2 ?_
      refine run_L1 2 ?_
      refine And.intro (fun _ => ?_) (fun e2 => absurd rfl e2)
      refine run_L1 4 ?_
      refine And.intro (fun _ => ?_) (fun e2 => absurd rfl e2)
      refine run_L1 4 ?_
      refine ba_le.weak ?_ (ih (nI (y + 1) + Int32.ofInt (-1)) b r (by omega) (vL_dec (y + 1)) (by rw [el]; exact hb) (by rw [el]; exact hr))
      repeat (first | exact le_0 | refine le_s ?_ | refine le_n ?_)
    · have d : nI (it (gs (l 5) s) i a) = nI (it (gs (l 5) s) (i + (y + 1)) a) := Classical.not_not.mp d
      rw [nI_eq (by omega) (by omega)] at d
      rw [if_pos d.symm] at el
      refine run_L1 3 ?_
      refine run_L1 2 ?_
      refine And.intro (fun e2 => absurd e2 (by decide)) (fun _ => ?_)
      refine run_L1 5 ?_
      refine And.intro (fun e2 => absurd e2 (by decide)) (fun _ => ?_)
      refine run_L1 5 ?_
      refine ba_le.weak ?_ (ih (nI (y + 1) + Int32.ofInt (-1)) (nI i) (nI (y + 1)) (by omega) (vL_dec (y + 1)) (by rw [el, if_neg (by omega)]) (by rw [el, if_neg (by omega)]))
      repeat (first | exact le_0 | refine le_s ?_ | refine le_n ?_)
theorem v_out {s t : Nat} (hc : c ≤ 1000) (hz : z ≤ 20000) (ha : a < 4) (ht : t ≤ 3) (hg : ∀ x, x < 4 → gs (l 5) s x < 4) (hne : ¬ cb (gs (l 5) s) (it (gs (l 5) s) t a) = 0) (hmin : ∀ t', t' < t → cb (gs (l 5) s) (it (gs (l 5) s) t' a) = 0) (hA : A.length = 9) (hA2 : ∀ j, j < 9 → A.getD j 0 = nI (it (gs (l 5) s) j a))
    (K : ba_go scr ix_L_law 508 (LL n e g x1 N [some (.int (nI a)), some (.int (nI s)), none, some (.int (nI t)), some (.int (nI (cb (gs (l 5) s) (it (gs (l 5) s) t a)))), none, none, none, none, none, none]) [] (wW f l (q ++ [A])) c z P) :
    ∀ (i : Nat) (x b r : Int32), i ≤ 4 → x = vL i → (i ≤ t → b = nI t ∧ r = nI (cb (gs (l 5) s) (it (gs (l 5) s) t a))) →
      ba_go scr ix_L_law 432 (LL n e g x1 N [some (.int (nI a)), some (.int (nI s)), some (.ref (43 + q.length + 1)), some (.int b), some (.int r), some (.int x), none, none, none, none, none]) [] (wW f l (q ++ [A])) c z P := by
  intro i
  induction i with
  | zero =>
    intro x b r hi hx hb
    subst hx
    obtain ⟨h1, h2⟩ := hb (Nat.zero_le _)
    subst h1; subst h2
    refine run_L1 2 ?_
    refine And.intro (fun _ => ?_) (fun e2 => absurd (by decide) e2)
    refine ba_le.weak ?_ K
    repeat (first | exact le_0 | refine le_s ?_ | refine le_n ?_)
  | succ i ih =>
    intro x b r hi hx hb
    have hx : x = nI i := hx
    subst hx
    refine run_L1 4 ?_
    refine And.intro (fun e2 => absurd e2 (by show ¬ nI i < 0; rw [lt_i, zi, nI_toInt (by omega)]; omega)) (fun _ => ?_)
    refine v_in (s := s) (i := i) (b0 := b) (r0 := r) hc hz (by omega) ha hg hA hA2 ?_ 4 4 b r (by decide) rfl rfl rfl
    refine run_L1 2 ?_
    refine ih _ _ _ (by omega) (vL_dec i) (fun hle => ?_)
    by_cases e : i = t
    · subst e
      rw [if_neg hne, if_neg hne]
      exact ⟨rfl, rfl⟩
    · rw [if_pos (hmin i (by omega)), if_pos (hmin i (by omega))]
      exact hb (by omega)
theorem v_stamps {C Z : Nat} (hC : C ≤ 990) (hZ : Z ≤ 19000) (hS : SS f l n) (ha : a < 4)
    (K : ∀ q c z, c ≤ C → z ≤ Z → ba_go scr ix_L_law 544 (LL n e g x1 N [some (.int (nI a)), none, none, none, none, none, none, none, none, none, none]) [] (wW f l q) c z P) :
    ∀ (m s : Nat) (x : Int32) (q : List (List Int32)) (c z : Nat), s + m = 3 → x = nI s → c + m ≤ C → z + 9 * m ≤ Z → ba_go scr ix_L_law 371 (LL n e g x1 N [some (.int (nI a)), some (.int x), none, none, none, none, none, none, none, none, none]) [] (wW f l q) c z P := by
  intro m
  induction m with
  | zero =>
    intro s x q c z hs hx hc hz
    subst hx
    have e3 : s = 3 := by omega
    subst e3
    refine run_L1 3 ?_
    refine And.intro (fun _ => ?_) (fun e2 => absurd (by decide) e2)
    refine ba_le.weak ?_ (K q c z (by omega) (by omega))
    repeat (first | exact le_0 | refine le_s ?_ | refine le_n ?_)
  | succ m ih =>
    intro s x q c z hs hx hc0 hz0
    subst hx
    have hc : c + 1 ≤ 1000 := by omega
    have hz : z + 9 ≤ 20000 := by omega
    have hg : ∀ x, x < 4 → gs (l 5) s x < 4 := fun x hx => gs_lt hS.wr.2.2.1 hx (by omega)
    obtain ⟨t, ht, hne, hmin⟩ := cb_ex hg ha
    refine run_L1 5 ?_
    refine And.intro (fun e2 => absurd e2 (by show ¬ (nI 3) ≤ nI s; rw [le_i, nI_toInt (by omega), nI_toInt (by omega)]; omega)) (fun _ => ?_)
    refine And.intro (czn (k := 9) hc hz (by decide)) ?_
    refine go_new (k := 9) ?_
    refine run_L1 7 ?_
    refine Exists.intro _ (And.intro (stQ (A := List.replicate 9 0) (i := 0) (by decide) (by decide) rfl) ?_)
    refine v_fill (s := s) (c := c + 1) (z := z + 9) hc hz hS ha (by omega) (fun A hA hA2 => ?_) 8 1 1 _ rfl (by decide) rfl rfl (fun j hj => by rw [show j = 0 by omega]; rfl)
    refine run_L1 6 ?_
    refine v_out (s := s) (t := t) (c := c + 1) (z := z + 9) hc hz ha ht hg hne hmin hA hA2 ?_ 4 3 _ _ (by decide) rfl (fun h => absurd h (by omega))
    refine run_L1 5 ?_
    refine And.intro (cz0 hc hz) (c_worn hS.1 rfl rfl ha (by omega) (Or.inl rfl) ht hne hmin (fun _ => ?_) (fun e2 => absurd e2 (by decide)))
    refine run_L1 7 ?_
    refine And.intro (fun e2 => absurd rfl e2) (fun _ => ?_)
    refine And.intro (cz0 hc hz) (c_worn hS.1 rfl rfl ha (by omega) (Or.inr rfl) ht hne hmin (fun e2 => absurd e2 (by decide)) (fun _ => ?_))
    refine run_L1 2 ?_
    refine And.intro (fun _ => ?_) (fun e2 => absurd rfl e2)
    refine run_L1 2 ?_
    refine ba_le.weak ?_ (ih (s + 1) (nI s + Int32.ofInt 1) (q ++ [A]) (c + 1) (z + 9) (by omega) (nI_1 s) (by omega) (by omega))
    repeat (first | exact le_0 | refine le_s ?_ | refine le_n ?_)
end LV
