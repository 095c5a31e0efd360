/-! raid (2): the reference -/
theorem ds_or {W V : Nat → Bool} : ds (fun k => W k || V k) = min (ds W) (ds V) :=
  (by decide +kernel : ∀ a b c d a' b' c' d' : Bool, (if (a || a') = true then 0 else if (b || b') = true then 1 else if (c || c') = true then 2 else if (d || d') = true then 3 else 4) = min (if a = true then 0 else if b = true then 1 else if c = true then 2 else if d = true then 3 else 4) (if a' = true then 0 else if b' = true then 1 else if c' = true then 2 else if d' = true then 3 else 4)) (W 0) (W 1) (W 2) (W 3) (V 0) (V 1) (V 2) (V 3)
theorem Wt_or {g : Nat → Nat → Nat} {T U : Nat → Bool} : ∀ (k m : Nat), Wt g (fun x => T x || U x) k m = (Wt g T k m || Wt g U k m)
  | 0, _ => rfl
  | k + 1, m => by
    show (Wt g (fun x => T x || U x) k (g 0 m) || (Wt g (fun x => T x || U x) k (g 1 m) || Wt g (fun x => T x || U x) k (g 2 m))) = ((Wt g T k (g 0 m) || (Wt g T k (g 1 m) || Wt g T k (g 2 m))) || (Wt g U k (g 0 m) || (Wt g U k (g 1 m) || Wt g U k (g 2 m))))
    rw [Wt_or k, Wt_or k, Wt_or k]
    cases Wt g T k (g 0 m) <;> cases Wt g T k (g 1 m) <;> cases Wt g T k (g 2 m) <;> cases Wt g U k (g 0 m) <;> cases Wt g U k (g 1 m) <;> cases Wt g U k (g 2 m) <;> rfl
theorem Ds_RT {g : Nat → Nat → Nat} {m : Nat} : Ds g RT m = min (Ds g (fun x => decide (x = 1)) m) (Ds g (fun x => decide (x = 3)) m) := by
  show ds (fun k => Wt g (fun x => decide (x = 1) || decide (x = 3)) k m) = _
  rw [show (fun k => Wt g (fun x => decide (x = 1) || decide (x = 3)) k m) = (fun k => Wt g (fun x => decide (x = 1)) k m || Wt g (fun x => decide (x = 3)) k m) from funext fun k => Wt_or k m]
  exact ds_or
def ab (D : Nat → Nat) (Y : Nat → Bool) : Nat → Bool
  | 0 => true
  | i + 1 => ab D Y i && (!Y i || decide (D i ≤ 3))
theorem ab_iff {D : Nat → Nat} {Y : Nat → Bool} : ∀ {n : Nat}, ab D Y n = true ↔ ∀ x, x < n → Y x = true → D x ≤ 3
  | 0 => ⟨fun _ x hx => absurd hx (by omega), fun _ => rfl⟩
  | n + 1 => by
    show (ab D Y n && (!Y n || decide (D n ≤ 3))) = true ↔ _
    rw [Bool.and_eq_true, ab_iff, Bool.or_eq_true, decide_eq_true_iff]
    constructor
    · rintro ⟨h1, h2⟩ x hx hY
      by_cases e : x = n
      · subst e
        rcases h2 with h2 | h2
        · rw [hY] at h2; exact (nomatch h2)
        · exact h2
      · exact h1 x (by omega) hY
    · intro h
      refine ⟨fun x hx => h x (by omega), ?_⟩
      cases hY : Y n with
      | true => exact Or.inr (h n (by omega) hY)
      | false => exact Or.inl rfl
section RE
variable {scr : Option (List Int32)} {P : ba_P} {w : ba_W} {f : Nat → Nat → Int32} {l : Nat → List Int32} {q : Nat → List Int64}
theorem r_fewestOff {p m : Nat} (hp : p < 6) (hm : m < 4) (h47 : (l 47).length = 6) (hpm : (l 47).getD p 0 = nI m) (h57 : (l 57).length = 4) (h44 : (l 44).length = 12) (hr : rv (l 44)) (hP : ∀ A : List Int32, A.length = 4 → P (some (.int (cd (Ds (gs (l 44)) RT) 3 m))) (wW f (u1 l 57 A) q)) : ba_go scr ix_X9_fewestOff 0 [some (.ref 43), some (.int (nI p)), none, none] [] (wW f l q) 0 0 P := by
  have b1 : Ds (gs (l 44)) (fun x => decide (x = 1)) m ≤ 4 := ds_le4
  have b3 : Ds (gs (l 44)) (fun x => decide (x = 3)) m ≤ 4 := ds_le4
  have eD : Ds (gs (l 44)) RT m = min (Ds (gs (l 44)) (fun x => decide (x = 1)) m) (Ds (gs (l 44)) (fun x => decide (x = 3)) m) := Ds_RT
  have a47 : ∀ (xs : Option (List Int32)) (A : List Int32), ba_ldI xs (wW f (u1 l 57 A) q) 48 (nI p) = some (nI m) := fun xs A => by
    rw [ldI_of (l := l 47) rfl (by rw [nI_toInt (by omega)]; omega) (by rw [nI_toInt (by omega), h47]; omega), nI_clamp (by omega), hpm]
  have a57 : ∀ (xs : Option (List Int32)) (h : Nat → Int32), ba_ldI xs (wW f (u1 l 57 (q4 h)) q) 58 (nI m) = some (h m) := fun xs h => by
    rw [ldI_of (l := q4 h) rfl (by rw [nI_toInt (by omega)]; omega) (by rw [nI_toInt (by omega)]; show (m : Int) < 4; omega), nI_clamp (by omega), q4_get hm]
  have hP1 := hP (q4 (cd (Ds (gs (l 44)) (fun x => decide (x = 3))) 3)) rfl
  refine run_X9_fewestOff 40 ?_
  refine And.intro rfl (r_measures (t := 1) (by decide) h57 h44 hr ?_)
  refine Exists.intro _ (And.intro (rfl) ?_)
  refine Exists.intro _ (And.intro (rfl) ?_)
  refine Exists.intro _ (And.intro (a47 _ _) ?_)
  refine Exists.intro _ (And.intro (a57 _ _) ?_)
  refine And.intro rfl (r_measures (t := 3) (l := u1 l 57 (q4 (cd (Ds (gs (l 44)) (fun x => decide (x = 1))) 3))) (by decide) rfl h44 hr ?_)
  rw [u1_u1]
  have eg : (u1 l 57 (q4 (cd (Ds (gs (l 44)) (fun x => decide (x = 1))) 3))) 44 = l 44 := rfl
  rw [eg]
  refine Exists.intro _ (And.intro (rfl) ?_)
  refine Exists.intro _ (And.intro (rfl) ?_)
  refine Exists.intro _ (And.intro (a47 _ _) ?_)
  refine Exists.intro _ (And.intro (a57 _ _) ?_)
  have cv : ∀ T, Ds (gs (l 44)) T m ≤ 3 → cd (Ds (gs (l 44)) T) 3 m = nI (Ds (gs (l 44)) T m) := fun T h => by unfold cd; rw [if_pos h]
  have cn : ∀ T, ¬ Ds (gs (l 44)) T m ≤ 3 → cd (Ds (gs (l 44)) T) 3 m = -9 := fun T h => by unfold cd; rw [if_neg h]
  by_cases d1 : Ds (gs (l 44)) (fun x => decide (x = 1)) m ≤ 3
  · rw [cv _ d1]
    refine And.intro (fun e => absurd e (by show ¬ nI _ < 0; rw [lt_i, zi, nI_toInt (by omega)]; omega)) (fun _ => ?_)
    by_cases d3 : Ds (gs (l 44)) (fun x => decide (x = 3)) m ≤ 3
    · rw [cv _ d3]
      refine And.intro (fun e => absurd e (by show ¬ nI _ < 0; rw [lt_i, zi, nI_toInt (by omega)]; omega)) (fun _ => ?_)
      rw [cv RT (by omega)] at hP1
      refine And.intro (fun c => ?_) (fun c => ?_)
      · have c : nI (Ds (gs (l 44)) (fun x => decide (x = 1)) m) ≤ nI (Ds (gs (l 44)) (fun x => decide (x = 3)) m) := c
        rw [le_i, nI_toInt (by omega), nI_toInt (by omega)] at c
        rw [show Ds (gs (l 44)) RT m = Ds (gs (l 44)) (fun x => decide (x = 1)) m by omega] at hP1
        exact hP1
      · have c : ¬ nI (Ds (gs (l 44)) (fun x => decide (x = 1)) m) ≤ nI (Ds (gs (l 44)) (fun x => decide (x = 3)) m) := c
        rw [le_i, nI_toInt (by omega), nI_toInt (by omega)] at c
        rw [show Ds (gs (l 44)) RT m = Ds (gs (l 44)) (fun x => decide (x = 3)) m by omega] at hP1
        exact hP1
    · rw [cn _ d3]
      refine And.intro (fun _ => ?_) (fun e => absurd (by decide) e)
      rw [cv RT (by omega), show Ds (gs (l 44)) RT m = Ds (gs (l 44)) (fun x => decide (x = 1)) m by omega] at hP1
      exact hP1
  · rw [cn _ d1]
    refine And.intro (fun _ => ?_) (fun e => absurd (by decide) e)
    have e : cd (Ds (gs (l 44)) RT) 3 m = cd (Ds (gs (l 44)) (fun x => decide (x = 3))) 3 m := by
      unfold cd
      rw [show Ds (gs (l 44)) RT m = Ds (gs (l 44)) (fun x => decide (x = 3)) m by omega]
    rw [e] at hP1
    exact hP1
theorem r_inkFor {n : Nat} {Y : Nat → Bool} {D t mm : Nat → Nat} {x : Int32} (hx : x = B6 Y) (hn : n ≤ 6) (hc : f 42 1 = nI n) (h45 : (l 45).length = 6) (h47 : (l 47).length = 6) (h48 : (l 48).length = 6) (h57 : (l 57).length = 4) (h44 : (l 44).length = 12) (hr : rv (l 44)) (ht : ∀ p, p < 6 → t p ≤ 20 ∧ tk ((l 45).getD p 0) ((l 48).getD p 0) = nI (t p)) (hmm : ∀ p, p < 6 → mm p < 4 ∧ (l 47).getD p 0 = nI (mm p) ∧ D p = Ds (gs (l 44)) RT (mm p))
    (hP : ∀ A : List Int32, A.length = 4 → P (some (.int (if ab D Y n then nI (smi (fun p => D p * t p) Y n) else -9))) (wW f (u1 l 57 A) q)) : ba_go scr ix_X9_inkFor 0 [some (.ref 43), some (.int x), none, none, none] [] (wW f l q) 0 0 P := by
  subst hx
  have D4 : ∀ p, p < 6 → D p ≤ 4 := fun p hp => by rw [(hmm p hp).2.2]; exact ds_le4
  have sb : ∀ (i : Nat), i ≤ 6 → smi (fun p => D p * t p) Y i ≤ 80 * i := by
    intro i
    induction i with
    | zero => intro _; exact Nat.le_refl _
    | succ i ih =>
      intro h
      show smi (fun p => D p * t p) Y i + (if Y i then D i * t i else 0) ≤ _
      have h1 := ih (by omega)
      have h2 : D i * t i ≤ 4 * 20 := Nat.mul_le_mul (D4 i (by omega)) (ht i (by omega)).1
      split <;> omega
  have loop : ∀ (m i : Nat) (s x : Int32) (z : Option Value) (A : List Int32), A.length = 4 → i + m = n → x = nI i → s = (if ab D Y i then nI (smi (fun p => D p * t p) Y i) else -9) → ba_go scr ix_X9_inkFor 4 [some (.ref 43), some (.int (B6 Y)), some (.int s), some (.int x), z] [] (wW f (u1 l 57 A) q) 0 0 P := by
    intro m
    induction m with
    | zero =>
      intro i s x z A hA h1 h2 h3
      subst h2; subst h3
      have h4 : i = n := by omega
      subst h4
      refine run_X9_inkFor 6 ?_
      refine Exists.intro _ (And.intro (rfl) ?_)
      rw [hc]
      refine And.intro (fun _ => ?_) (fun e => absurd (by show nI i ≤ nI i; rw [le_i]; omega) e)
      exact hP A hA
    | succ m ih =>
      intro i s x z A hA h1 h2 h3
      subst h2
      obtain ⟨m1, m2, m3⟩ := hmm i (by omega)
      have hb := sb i (by omega)
      have es : ab D Y (i + 1) = (ab D Y i && (!Y i || decide (D i ≤ 3))) := rfl
      have ev : smi (fun p => D p * t p) Y (i + 1) = smi (fun p => D p * t p) Y i + (if Y i then D i * t i else 0) := rfl
      -- the rest of one turn
      have rest : ∀ (few : Int32) (A : List Int32), A.length = 4 → few = (if Y i then cd D 3 i else 0) → ba_go scr ix_X9_inkFor 29 [some (.ref 43), some (.int (B6 Y)), some (.int s), some (.int (nI i)), z] [.int few] (wW f (u1 l 57 A) q) 0 0 P := by
        intro few A hA hf
        have none9 : ab D Y (i + 1) = false → ∀ z, ba_go scr ix_X9_inkFor 40 [some (.ref 43), some (.int (B6 Y)), some (.int s), some (.int (nI i)), z] [] (wW f (u1 l 57 A) q) 0 0 P := by
          intro h z
          refine run_X9_inkFor 5 ?_
          have := ih (i + 1) (-9) _ z A hA (by omega) (nI_1 i) (by rw [h]; rfl)
          exact this
        refine run_X9_inkFor 3 ?_
        cases ha : ab D Y i with
        | false =>
          rw [ha] at h3
          have h3 : s = -9 := h3
          have n9 := none9 (by rw [es, ha]; rfl)
          subst h3
          refine And.intro (fun _ => ?_) (fun e => absurd (by decide) e)
          exact n9 _
        | true =>
          rw [ha] at h3
          have h3 : s = nI (smi (fun p => D p * t p) Y i) := h3
          subst h3
          refine And.intro (fun e => absurd e (by show ¬ nI _ < 0; rw [lt_i, zi, nI_toInt (by omega)]; omega)) (fun _ => ?_)
          refine run_X9_inkFor 2 ?_
          have go45 : ∀ fw : Nat, few = nI fw → ab D Y (i + 1) = true → fw * t i = (if Y i then D i * t i else 0) → ba_go scr ix_X9_inkFor 45 [some (.ref 43), some (.int (B6 Y)), some (.int (nI (smi (fun p => D p * t p) Y i))), some (.int (nI i)), some (.int few)] [] (wW f (u1 l 57 A) q) 0 0 P := by
            intro fw h1 h2 h4
            subst h1
            refine run_X9_inkFor 10 ?_
            refine And.intro rfl (r_takes (l := u1 l 57 A) (p := nI i) h48 h45 (by rw [nI_toInt (by omega)]; omega) (by rw [nI_toInt (by omega)]; omega) ?_)
            rw [nI_clamp (by omega)]
            have et : tk ((u1 l 57 A 45).getD i 0) ((u1 l 57 A 48).getD i 0) = nI (t i) := (ht i (by omega)).2
            rw [et]
            refine ih (i + 1) _ _ _ A hA (by omega) (nI_1 i) ?_
            rw [h2, if_pos rfl, ev, ← h4]
            show nI _ + nI fw * nI (t i) = _
            rw [nI_mul, nI_add]
          cases hY : Y i with
          | false =>
            rw [hY] at hf
            have hf : few = nI 0 := hf
            refine And.intro (fun _ => ?_) (fun e => absurd (by show 0 ≤ few; rw [hf]; decide) e)
            exact go45 0 hf (by rw [es, ha, hY]; rfl) (by rw [hY, Nat.zero_mul]; rfl)
          | true =>
            rw [hY] at hf
            have hf : few = cd D 3 i := hf
            have d4 := D4 i (by omega)
            by_cases d : D i ≤ 3
            · have e : cd D 3 i = nI (D i) := by unfold cd; rw [if_pos d]
              rw [e] at hf
              refine And.intro (fun _ => ?_) (fun e => absurd (by show 0 ≤ few; rw [hf, le_i, zi, nI_toInt (by omega)]; omega) e)
              exact go45 (D i) hf (by rw [es, ha, decide_eq_true d, Bool.or_true]; rfl) (by rw [hY, if_pos rfl])
            · have e : cd D 3 i = -9 := by unfold cd; rw [if_neg d]
              rw [e] at hf
              refine And.intro (fun e => absurd e (by show ¬ 0 ≤ few; rw [hf]; decide)) (fun _ => ?_)
              exact none9 (by rw [es, ha, hY, decide_eq_false d]; rfl) _
      refine run_X9_inkFor 8 ?_
      refine Exists.intro _ (And.intro (rfl) ?_)
      rw [hc]
      refine And.intro (fun e => absurd e (by show ¬ nI n ≤ nI i; rw [le_i, nI_toInt (by omega), nI_toInt (by omega)]; omega)) (fun _ => ?_)
      refine And.intro rfl (r_isInB (show i < 6 by omega) (fun hY => ?_) (fun hY => ?_))
      · refine And.intro (fun e => absurd e (by decide)) (fun _ => ?_)
        refine run_X9_inkFor 4 ?_
        refine And.intro rfl (r_fewestOff (l := u1 l 57 A) (show i < 6 by omega) m1 h47 m2 hA h44 hr (fun A' hA' => ?_))
        rw [u1_u1]
        refine rest _ A' hA' ?_
        rw [hY, if_pos rfl]
        show cd (Ds (gs (l 44)) RT) 3 (mm i) = cd D 3 i
        unfold cd
        rw [m3]
      · refine And.intro (fun _ => ?_) (fun e => absurd rfl e)
        refine run_X9_inkFor 1 ?_
        exact rest _ A hA (by rw [hY]; rfl)
  have h := loop n 0 0 0 none (l 57) h57 (by omega) rfl rfl
  rw [u1_self] at h
  refine run_X9_inkFor 4 ?_
  exact h
end RE
