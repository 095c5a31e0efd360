/-! how far marks are -/
def ex4 (h : Nat → Bool) : Bool := h 0 || (h 1 || (h 2 || h 3))
theorem ex4_iff {h : Nat → Bool} : ex4 h = true ↔ ∃ x, x < 4 ∧ h x = true := by
  unfold ex4
  rw [Bool.or_eq_true, Bool.or_eq_true, Bool.or_eq_true]
  constructor
  · rintro (e | e | e | e)
    · exact ⟨0, by decide, e⟩
    · exact ⟨1, by decide, e⟩
    · exact ⟨2, by decide, e⟩
    · exact ⟨3, by decide, e⟩
  · rintro ⟨x, hx, e⟩
    match x, hx with
    | 0, _ => exact Or.inl e
    | 1, _ => exact Or.inr (Or.inl e)
    | 2, _ => exact Or.inr (Or.inr (Or.inl e))
    | 3, _ => exact Or.inr (Or.inr (Or.inr e))
def af (g : Nat → Nat → Nat) (S : Nat → Bool) : Nat → Nat → Bool
  | 0, _ => false
  | r + 1, x => af g S r x || (S (r / 3) && decide (x = g (r % 3) (r / 3)))
theorem af_iff {g : Nat → Nat → Nat} {S : Nat → Bool} {x : Nat} : ∀ {r : Nat}, af g S r x = true ↔ ∃ r', r' < r ∧ S (r' / 3) = true ∧ x = g (r' % 3) (r' / 3)
  | 0 => ⟨fun h => (nomatch h), fun ⟨r', h, _⟩ => absurd h (by omega)⟩
  | r + 1 => by
    show (af g S r x || (S (r / 3) && decide (x = g (r % 3) (r / 3)))) = true ↔ _
    rw [Bool.or_eq_true, af_iff, Bool.and_eq_true, decide_eq_true_iff]
    constructor
    · rintro (⟨r', h1, h2⟩ | h)
      · exact ⟨r', by omega, h2⟩
      · exact ⟨r, by omega, h⟩
    · rintro ⟨r', h1, h2⟩
      by_cases h : r' = r
      · subst h; exact Or.inr h2
      · exact Or.inl ⟨r', by omega, h2⟩
def Wt (g : Nat → Nat → Nat) (T : Nat → Bool) : Nat → Nat → Bool
  | 0, m => T m
  | k + 1, m => Wt g T k (g 0 m) || (Wt g T k (g 1 m) || Wt g T k (g 2 m))
def Rk (g : Nat → Nat → Nat) (a : Nat) : Nat → Nat → Bool
  | 0, x => decide (x = a)
  | k + 1, x => af g (Rk g a k) 12 x
theorem Wt_out {g : Nat → Nat → Nat} {T : Nat → Bool} : ∀ (k m : Nat), Wt g (Wt g T 1) k m = Wt g T (k + 1) m
  | 0, _ => rfl
  | k + 1, m => by
    show (Wt g (Wt g T 1) k (g 0 m) || (Wt g (Wt g T 1) k (g 1 m) || Wt g (Wt g T 1) k (g 2 m))) = (Wt g T (k + 1) (g 0 m) || (Wt g T (k + 1) (g 1 m) || Wt g T (k + 1) (g 2 m)))
    rw [Wt_out k, Wt_out k, Wt_out k]
theorem bool_ext {a b : Bool} (h : a = true ↔ b = true) : a = b := by
  cases a <;> cases b
  · rfl
  · exact (h.mpr rfl).symm ▸ rfl
  · exact (h.mp rfl).symm ▸ rfl
  · rfl
theorem Wt1_iff {g : Nat → Nat → Nat} {V : Nat → Bool} {m : Nat} : Wt g V 1 m = true ↔ ∃ s, s < 3 ∧ V (g s m) = true := by
  show (V (g 0 m) || (V (g 1 m) || V (g 2 m))) = true ↔ _
  rw [Bool.or_eq_true, Bool.or_eq_true]
  constructor
  · rintro (e | e | e)
    · exact ⟨0, by decide, e⟩
    · exact ⟨1, by decide, e⟩
    · exact ⟨2, by decide, e⟩
  · rintro ⟨x, hx, e⟩
    match x, hx with
    | 0, _ => exact Or.inl e
    | 1, _ => exact Or.inr (Or.inl e)
    | 2, _ => exact Or.inr (Or.inr e)
theorem af_step {g : Nat → Nat → Nat} {S V : Nat → Bool} (hg : ∀ s m, s < 3 → m < 4 → g s m < 4) : ex4 (fun x => af g S 12 x && V x) = ex4 (fun m => S m && Wt g V 1 m) := by
  apply bool_ext
  rw [ex4_iff, ex4_iff]
  constructor
  · rintro ⟨x, hx, h⟩
    rw [Bool.and_eq_true, af_iff] at h
    obtain ⟨⟨r, h1, h2, h3⟩, h4⟩ := h
    refine ⟨r / 3, by omega, ?_⟩
    rw [Bool.and_eq_true, Wt1_iff]
    exact ⟨h2, r % 3, by omega, by rw [← h3]; exact h4⟩
  · rintro ⟨m, hm, h⟩
    rw [Bool.and_eq_true, Wt1_iff] at h
    obtain ⟨h2, s, h3, h4⟩ := h
    refine ⟨g s m, hg s m h3 hm, ?_⟩
    rw [Bool.and_eq_true, af_iff]
    refine ⟨⟨3 * m + s, by omega, ?_, ?_⟩, h4⟩
    · rw [show (3 * m + s) / 3 = m by omega]; exact h2
    · rw [show (3 * m + s) / 3 = m by omega, show (3 * m + s) % 3 = s by omega]
theorem hit_eq {g : Nat → Nat → Nat} {a : Nat} (ha : a < 4) (hg : ∀ s m, s < 3 → m < 4 → g s m < 4) : ∀ (k : Nat) (V : Nat → Bool), ex4 (fun x => Rk g a k x && V x) = Wt g V k a
  | 0, V => by
    apply bool_ext
    rw [ex4_iff]
    constructor
    · rintro ⟨x, hx, h⟩
      rw [Bool.and_eq_true] at h
      have : x = a := of_decide_eq_true h.1
      subst this
      exact h.2
    · intro h
      exact ⟨a, ha, by rw [Bool.and_eq_true]; exact ⟨decide_eq_true rfl, h⟩⟩
  | k + 1, V => by
    show ex4 (fun x => af g (Rk g a k) 12 x && V x) = _
    rw [af_step hg, hit_eq ha hg k, Wt_out]
def ds (W : Nat → Bool) : Nat := if W 0 then 0 else if W 1 then 1 else if W 2 then 2 else if W 3 then 3 else 4
theorem ds_le4 {W : Nat → Bool} : ds W ≤ 4 := by
  unfold ds
  cases W 0 <;> cases W 1 <;> cases W 2 <;> cases W 3 <;> decide
theorem ds_le {W : Nat → Bool} {k : Nat} (hk : k ≤ 3) : ds W ≤ k ↔ ∃ j, j ≤ k ∧ W j = true := by
  have h0 : (∃ j, j ≤ 0 ∧ W j = true) ↔ W 0 = true := ⟨fun ⟨j, h, e⟩ => by rw [show j = 0 by omega] at e; exact e, fun e => ⟨0, by decide, e⟩⟩
  have hs : ∀ n, (∃ j, j ≤ n + 1 ∧ W j = true) ↔ (∃ j, j ≤ n ∧ W j = true) ∨ W (n + 1) = true := fun n => by
    constructor
    · rintro ⟨j, h, e⟩
      by_cases h2 : j = n + 1
      · subst h2; exact Or.inr e
      · exact Or.inl ⟨j, by omega, e⟩
    · rintro (⟨j, h, e⟩ | e)
      · exact ⟨j, by omega, e⟩
      · exact ⟨n + 1, by omega, e⟩
  have : k = 0 ∨ k = 1 ∨ k = 2 ∨ k = 3 := by omega
  unfold ds
  rcases this with rfl | rfl | rfl | rfl
  · rw [h0]
    cases W 0 <;> cases W 1 <;> cases W 2 <;> cases W 3 <;> decide
  · rw [hs, h0]
    cases W 0 <;> cases W 1 <;> cases W 2 <;> cases W 3 <;> decide
  · rw [hs, hs, h0]
    cases W 0 <;> cases W 1 <;> cases W 2 <;> cases W 3 <;> decide
  · rw [hs, hs, hs, h0]
    cases W 0 <;> cases W 1 <;> cases W 2 <;> cases W 3 <;> decide
def Ds (g : Nat → Nat → Nat) (T : Nat → Bool) (m : Nat) : Nat := ds (fun k => Wt g T k m)
theorem Ds_le {g : Nat → Nat → Nat} {T : Nat → Bool} {m k : Nat} (hk : k ≤ 3) : Ds g T m ≤ k ↔ ∃ j, j ≤ k ∧ Wt g T j m = true := ds_le hk
theorem Wt_s {g : Nat → Nat → Nat} {T : Nat → Bool} {k m : Nat} : Wt g T (k + 1) m = true ↔ ∃ s, s < 3 ∧ Wt g T k (g s m) = true := by
  show (Wt g T k (g 0 m) || (Wt g T k (g 1 m) || Wt g T k (g 2 m))) = true ↔ _
  rw [Bool.or_eq_true, Bool.or_eq_true]
  constructor
  · rintro (e | e | e)
    · exact ⟨0, by decide, e⟩
    · exact ⟨1, by decide, e⟩
    · exact ⟨2, by decide, e⟩
  · rintro ⟨x, hx, e⟩
    match x, hx with
    | 0, _ => exact Or.inl e
    | 1, _ => exact Or.inr (Or.inl e)
    | 2, _ => exact Or.inr (Or.inr e)
theorem Ds_pred {g : Nat → Nat → Nat} {T : Nat → Bool} {m s : Nat} (hs : s < 3) : Ds g T m ≤ Ds g T (g s m) + 1 := by
  have h4 : Ds g T (g s m) ≤ 4 := ds_le4
  by_cases h : Ds g T (g s m) ≤ 2
  · obtain ⟨j, h1, h2⟩ := (Ds_le (k := Ds g T (g s m)) (by omega)).mp (Nat.le_refl _)
    exact (Ds_le (by omega)).mpr ⟨j + 1, by omega, Wt_s.mpr ⟨s, hs, h2⟩⟩
  · have : Ds g T m ≤ 4 := ds_le4
    omega
theorem Ds_succ {g : Nat → Nat → Nat} {T : Nat → Bool} {m : Nat} (h0 : 0 < Ds g T m) (h3 : Ds g T m ≤ 3) : ∃ s, s < 3 ∧ Ds g T (g s m) + 1 = Ds g T m := by
  obtain ⟨j, h1, h2⟩ := (Ds_le (k := Ds g T m) h3).mp (Nat.le_refl _)
  match j, h1, h2 with
  | 0, _, h2 =>
    have := (Ds_le (g := g) (T := T) (m := m) (k := 0) (by decide)).mpr ⟨0, by decide, h2⟩
    omega
  | j + 1, h1, h2 =>
    obtain ⟨s, hs, h5⟩ := Wt_s.mp h2
    have h6 := (Ds_le (g := g) (T := T) (m := g s m) (k := j) (by omega)).mpr ⟨j, Nat.le_refl _, h5⟩
    have := Ds_pred (g := g) (T := T) (m := m) hs
    exact ⟨s, hs, by omega⟩
theorem ds_eq {W : Nat → Bool} {k : Nat} (hk : k ≤ 3) (h : ∀ j, j < k → W j = false) (hW : W k = true) : ds W = k := by
  have h1 : ds W ≤ k := (ds_le hk).mpr ⟨k, Nat.le_refl _, hW⟩
  by_cases h2 : ds W < k
  · obtain ⟨j, h3, h4⟩ := (ds_le (W := W) (k := ds W) (by omega)).mp (Nat.le_refl _)
    rw [h j (by omega)] at h4
    exact (nomatch h4)
  · omega
theorem ds_eq4 {W : Nat → Bool} (h : ∀ j, j < 4 → W j = false) : ds W = 4 := by
  have h1 : ds W ≤ 4 := ds_le4
  by_cases h2 : ds W ≤ 3
  · obtain ⟨j, h3, h4⟩ := (ds_le (W := W) (k := 3) (by omega)).mp h2
    rw [h j (by omega)] at h4
    exact (nomatch h4)
  · omega
theorem B6_one {p : Nat} (hp : p < 6) : (1 : Int32) <<< (nI p &&& 31) = B6 (fun x => decide (x = p)) := by
  match p, hp with
  | 0, _ => decide +kernel
  | 1, _ => decide +kernel
  | 2, _ => decide +kernel
  | 3, _ => decide +kernel
  | 4, _ => decide +kernel
  | 5, _ => decide +kernel
theorem B6_int (g k : Nat → Bool) : B6 g &&& B6 k = B6 (fun x => g x && k x) := by
  have h := (by decide +kernel : ∀ x y : Fin 64, nI x.1 &&& nI y.1 = nI (x.1 &&& y.1)) ⟨v6 g, v6_lt g⟩ ⟨v6 k, v6_lt k⟩
  have e : ∀ a b c d e f a' b' c' d' e' f' : Bool, ((a.toNat + 2 * b.toNat + 4 * c.toNat + 8 * d.toNat + 16 * e.toNat + 32 * f.toNat) &&& (a'.toNat + 2 * b'.toNat + 4 * c'.toNat + 8 * d'.toNat + 16 * e'.toNat + 32 * f'.toNat)) = (a && a').toNat + 2 * (b && b').toNat + 4 * (c && c').toNat + 8 * (d && d').toNat + 16 * (e && e').toNat + 32 * (f && f').toNat := by decide +kernel
  exact h.trans (congrArg nI (e _ _ _ _ _ _ _ _ _ _ _ _))
theorem B6_zero {h : Nat → Bool} (h4 : h 4 = false) (h5 : h 5 = false) : B6 h = 0 ↔ ex4 h = false := by
  unfold B6 ex4
  rw [h4, h5]
  cases h 0 <;> cases h 1 <;> cases h 2 <;> cases h 3 <;> decide +kernel
theorem af_skip {g : Nat → Nat → Nat} {S : Nat → Bool} {i x : Nat} (h : S i = false) : af g S (3 * (i + 1)) x = af g S (3 * i) x := by
  show ((af g S (3 * i) x || (S (3 * i / 3) && _)) || (S ((3 * i + 1) / 3) && _) || (S ((3 * i + 2) / 3) && _)) = _
  rw [show 3 * i / 3 = i by omega, show (3 * i + 1) / 3 = i by omega, show (3 * i + 2) / 3 = i by omega, h]
  simp
section FA
variable {scr : Option (List Int32)} {P : ba_P} {w : ba_W} {f : Nat → Nat → Int32} {l : Nat → List Int32} {q : List (List Int32)}
theorem s_allAfter {S : Nat → Bool} (h5 : (l 5).length = 12) (hr : rv (l 5)) (hP : P (some (.int (B6 (af (gs (l 5)) S 12)))) (wW f l q)) : ba_go scr ix_X4_allAfter 0 [some (.ref 5), some (.int (B6 S)), none, none, none] [] (wW f l q) 0 0 P := by
  have i3 : (3 : Int32).toInt = 3 := rfl
  have i4 : (4 : Int32).toInt = 4 := rfl
  have outer : ∀ (m i : Nat) (st x : Int32) (z : Option Value), i + m = 4 → x = nI i → st = B6 (af (gs (l 5)) S (3 * i)) → ba_go scr ix_X4_allAfter 4 [some (.ref 5), some (.int (B6 S)), some (.int st), some (.int x), z] [] (wW f l q) 0 0 P := by
    intro m
    induction m with
    | zero =>
      intro i st x z h1 h2 h3
      subst h2; subst h3
      have h4 : i = 4 := by omega
      subst h4
      refine run_X4_allAfter 5 ?_
      refine And.intro (fun _ => ?_) (fun e => absurd (by decide) e)
      exact hP
    | succ m ih =>
      intro i st x z h1 h2 h3
      subst h2; subst h3
      refine run_X4_allAfter 5 ?_
      refine And.intro (fun e => absurd e (by show ¬ (4 : Int32) ≤ nI i; rw [le_i, nI_toInt (by omega), i4]; omega)) (fun _ => ?_)
      cases hS : S i with
      | false =>
        refine run_X4_allAfter 10 ?_
        refine And.intro (fun e => absurd e (by decide)) (fun _ => ?_)
        refine And.intro (fun _ => ?_) (fun e => absurd (fun e2 => absurd ((B6_bit S (show i < 6 by omega)).symm.trans e2) (by rw [hS]; decide)) e)
        refine run_X4_allAfter 2 ?_
        exact ih (i + 1) _ _ _ (by omega) (nI_1 i) (B6_congr (fun x _ => (af_skip hS).symm))
      | true =>
        have inner : ∀ (m' j : Nat) (st y : Int32), j + m' = 3 → y = nI j → st = B6 (af (gs (l 5)) S (3 * i + j)) → ba_go scr ix_X4_allAfter 12 [some (.ref 5), some (.int (B6 S)), some (.int st), some (.int (nI i)), some (.int y)] [] (wW f l q) 0 0 P := by
          intro m'
          induction m' with
          | zero =>
            intro j st y g1 g2 g3
            subst g2; subst g3
            have h4 : j = 3 := by omega
            subst h4
            refine run_X4_allAfter 5 ?_
            refine And.intro (fun _ => ?_) (fun e => absurd (by decide) e)
            exact ih (i + 1) _ _ _ (by omega) (nI_1 i) rfl
          | succ m' ih' =>
            intro j st y g1 g2 g3
            subst g2; subst g3
            refine run_X4_allAfter 21 ?_
            refine And.intro (fun e => absurd e (by show ¬ (3 : Int32) ≤ nI j; rw [le_i, nI_toInt (by omega), i3]; omega)) (fun _ => ?_)
            refine And.intro (fun e => absurd ((B6_bit S (show i < 6 by omega)).trans (by rw [hS]; rfl)) e) (fun _ => ?_)
            have hlt := gs_lt hr (show i < 4 by omega) (show j < 3 by omega)
            refine And.intro rfl (s_aft h5 hr (by omega) (by omega) ?_)
            refine ih' (j + 1) _ _ (by omega) (nI_1 j) ((B6_or _ (by omega)).trans (B6_congr (fun x _ => ?_)))
            show _ = (af (gs (l 5)) S (3 * i + j) x || (S ((3 * i + j) / 3) && decide (x = gs (l 5) ((3 * i + j) % 3) ((3 * i + j) / 3))))
            rw [show (3 * i + j) / 3 = i by omega, show (3 * i + j) % 3 = j by omega, hS, Bool.true_and]
        exact inner 3 0 _ 0 rfl rfl rfl
  refine run_X4_allAfter 4 ?_
  exact outer 4 0 0 0 none rfl rfl rfl
theorem gs_all {L : List Int32} (hr : rv L) : ∀ s m, s < 3 → m < 4 → gs L s m < 4 := fun _ _ hs hm => gs_lt hr hm hs
theorem Rk_lt {g : Nat → Nat → Nat} {a : Nat} (ha : a < 4) (hg : ∀ s m, s < 3 → m < 4 → g s m < 4) : ∀ (k x : Nat), ¬ x < 4 → Rk g a k x = false
  | 0, x, h => decide_eq_false (fun e => h (e ▸ ha))
  | k + 1, x, h => by
    cases hh : Rk g a (k + 1) x with
    | false => rfl
    | true =>
      have h2 : af g (Rk g a k) 12 x = true := hh
      rw [af_iff] at h2
      obtain ⟨r, h3, -, h5⟩ := h2
      exact absurd (h5 ▸ hg (r % 3) (r / 3) (by omega) (by omega)) h
theorem s_fewest {T : Nat → Bool} {a : Nat} {mk : Int32} (hmk : mk = B6 T) (ha : a < 4) (h5 : (l 5).length = 12) (hr : rv (l 5)) (hP : P (some (.int (nI (Ds (gs (l 5)) T a)))) (wW f l q)) : ba_go scr ix_X4_fewest 0 [some (.ref 5), some (.int (nI a)), some (.int mk), none, none] [] (wW f l q) 0 0 P := by
  subst hmk
  have i4 : (4 : Int32).toInt = 4 := rfl
  have hg := gs_all hr
  have loop : ∀ (m k : Nat) (st x : Int32), k + m = 4 → x = nI k → st = B6 (Rk (gs (l 5)) a k) → (∀ j, j < k → Wt (gs (l 5)) T j a = false) → ba_go scr ix_X4_fewest 7 [some (.ref 5), some (.int (nI a)), some (.int (B6 T)), some (.int st), some (.int x)] [] (wW f l q) 0 0 P := by
    intro m
    induction m with
    | zero =>
      intro k st x h1 h2 h3 h4
      subst h2; subst h3
      have h4' : k = 4 := by omega
      subst h4'
      refine run_X4_fewest 5 ?_
      refine And.intro (fun _ => ?_) (fun e => absurd (by decide) e)
      have e : Ds (gs (l 5)) T a = 4 := ds_eq4 h4
      rw [e] at hP
      exact hP
    | succ m ih =>
      intro k st x h1 h2 h3 h4
      subst h2; subst h3
      refine run_X4_fewest 7 ?_
      refine And.intro (fun e => absurd e (by show ¬ (4 : Int32) ≤ nI k; rw [le_i, nI_toInt (by omega), i4]; omega)) (fun _ => ?_)
      have ez : (B6 (Rk (gs (l 5)) a k) &&& B6 T = 0) ↔ Wt (gs (l 5)) T k a = false := by
        rw [B6_int, B6_zero (by rw [Rk_lt ha hg k 4 (by decide)]; rfl) (by rw [Rk_lt ha hg k 5 (by decide)]; rfl), hit_eq ha hg]
      refine And.intro (fun c => ?_) (fun c => ?_)
      · have c := ez.mp c
        refine run_X4_fewest 6 ?_
        refine And.intro rfl (s_allAfter h5 hr ?_)
        exact ih (k + 1) _ _ (by omega) (nI_1 k) rfl (lt_s h4 c)
      · have c2 : Wt (gs (l 5)) T k a = true := by
          cases h : Wt (gs (l 5)) T k a with
          | true => rfl
          | false => exact absurd (ez.mpr h) c
        have e : Ds (gs (l 5)) T a = k := ds_eq (by omega) h4 c2
        rw [e] at hP
        refine run_X4_fewest 2 ?_
        exact hP
  refine run_X4_fewest 6 ?_
  exact loop 4 0 _ 0 rfl rfl (B6_one (by omega)) (fun j hj => absurd hj (by omega))
end FA
