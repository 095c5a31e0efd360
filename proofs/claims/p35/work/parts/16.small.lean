/-! the small methods of the class and of the reference -/
def rl (L : List Int32) (m s : Int32) : Int32 := L.getD (m * 3 + s).toNatClampNeg 0
def tk (k n : Int32) : Int32 := if k = 0 then n else if k = 1 then n + 1 else 2 * (n + 1)
def wk (m : Int32) : Prop := m = 0 ∨ m = 2
theorem idx3 {m s : Int32} (h1 : 0 ≤ m.toInt) (h2 : m.toInt ≤ 3) (h3 : 0 ≤ s.toInt) (h4 : s.toInt ≤ 2) : (m * 3 + s).toInt = m.toInt * 3 + s.toInt := by
  have e : (3 : Int32).toInt = 3 := rfl
  have e1 : (m * 3).toInt = m.toInt * 3 := by rw [fb_mulI (by rw [e]; omega) (by rw [e]; omega), e]
  rw [fb_addI (by rw [e1]; omega) (by rw [e1]; omega), e1]
theorem four {m : Int32} (h1 : 0 ≤ m.toInt) (h2 : m.toInt ≤ 3) : m = 0 ∨ m = 1 ∨ m = 2 ∨ m = 3 := by
  simp only [eq_i]
  have e0 : (0 : Int32).toInt = 0 := rfl
  have e1 : (1 : Int32).toInt = 1 := rfl
  have e2 : (2 : Int32).toInt = 2 := rfl
  have e3 : (3 : Int32).toInt = 3 := rfl
  omega
section SM2
variable {scr : Option (List Int32)} {P : ba_P} {w : ba_W} {f : Nat → Nat → Int32} {l : Nat → List Int32} {q : List (List Int32)}
theorem s_takes {a : Nat} {k o m n : Int32} (h : w[a]? = some (.inr (2, [.int k, .int o, .int m, .int n]))) (hP : P (some (.int (tk k n))) w) : ba_go scr ix_X2_takes 0 [some (.ref (a + 1))] [] w 0 0 P := by
  refine run_X2_takes 30 ?_
  refine Exists.intro _ (And.intro (fld_of h rfl) ?_)
  refine And.intro (fun c => ?_) (fun c => ?_)
  · refine Exists.intro _ (And.intro (fld_of h rfl) ?_)
    refine And.intro (fun d => ?_) (fun d => ?_)
    · refine Exists.intro _ (And.intro (fld_of h rfl) ?_)
      have d : ¬ k = 1 := d
      have e : tk k n = 2 * (n + 1) := by unfold tk; rw [if_neg c, if_neg d]
      rw [e] at hP
      exact hP
    · refine Exists.intro _ (And.intro (fld_of h rfl) ?_)
      have d : k = 1 := Classical.not_not.mp d
      have e : tk k n = n + 1 := by unfold tk; rw [if_neg c, if_pos d]
      rw [e] at hP
      exact hP
  · refine Exists.intro _ (And.intro (fld_of h rfl) ?_)
    have c : k = 0 := Classical.not_not.mp c
    have e : tk k n = n := by unfold tk; rw [if_pos c]
    rw [e] at hP
    exact hP
theorem s_isAtWork {a : Nat} {k o m n : Int32} (h : w[a]? = some (.inr (2, [.int k, .int o, .int m, .int n]))) (hm : 0 ≤ m.toInt) (hm2 : m.toInt ≤ 3) (h1 : wk m → P (some (.int 1)) w) (h0 : ¬ wk m → P (some (.int 0)) w) : ba_go scr ix_X2_isAtWork 0 [some (.ref (a + 1))] [] w 0 0 P := by
  refine run_X2_isAtWork 30 ?_
  refine Exists.intro _ (And.intro (fld_of h rfl) ?_)
  rcases four hm hm2 with rfl | rfl | rfl | rfl
  · exact And.intro (fun c => absurd c (by decide)) (fun c => And.intro rfl (h1 (Or.inl rfl)))
  · exact And.intro (fun c => And.intro rfl (h0 (by unfold wk; decide))) (fun c => absurd c (by decide))
  · exact And.intro (fun c => absurd c (by decide)) (fun c => And.intro rfl (h1 (Or.inr rfl)))
  · exact And.intro (fun c => And.intro rfl (h0 (by unfold wk; decide))) (fun c => absurd c (by decide))
theorem s_isOn {b : Nat} (hb : b = 2 ∨ b = 16) (h1 : 0 < (f b 3).toInt → P (some (.int 1)) (wW f l q)) (h0 : ¬ 0 < (f b 3).toInt → P (some (.int 0)) (wW f l q)) : ba_go scr ix_X7_isOn 0 [some (.ref (b + 1))] [] (wW f l q) 0 0 P := by
  have z : (0 : Int32).toInt = 0 := rfl
  rcases hb with rfl | rfl <;>
  · refine run_X7_isOn 30 ?_
    refine Exists.intro _ (And.intro rfl ?_)
    refine And.intro (fun c => ?_) (fun c => ?_)
    · simp only [le_i, z] at c
      exact And.intro rfl (h0 (by omega))
    · simp only [le_i, z] at c
      exact And.intro rfl (h1 (by omega))
theorem ps_at {b p : Nat} (hb : b = 2 ∨ b = 16) (hp : p < 6) : (wW f l q)[b + 7 + p]? = some (.inr (2, [.int (f (b + 7 + p) 0), .int (f (b + 7 + p) 1), .int (f (b + 7 + p) 2), .int (f (b + 7 + p) 3)])) := by
  rcases hb with rfl | rfl
  · exact people_at hp
  · exact after_at hp
theorem ps_set {b p j : Nat} {v : Int32} (hb : b = 2 ∨ b = 16) (hp : p < 6) (hj : j < 4) : ba_setF .int (wW f l q) (b + 7 + p + 1) 2 j (.int v) = some (wW (u2 f (b + 7 + p) j v) l q) := by
  rcases hb with rfl | rfl
  · exact people_set hp hj
  · exact after_set hp hj
theorem ps_ref {b p : Nat} (hb : b = 2 ∨ b = 16) (hp : p < 6) : ([some (b + 7), some (b + 8), some (b + 9), some (b + 10), some (b + 11), some (b + 12)] : List (Option Nat))[p]? = some (some (b + 7 + p)) := by
  match p, hp with
  | 0, _ => rfl
  | 1, _ => rfl
  | 2, _ => rfl
  | 3, _ => rfl
  | 4, _ => rfl
  | 5, _ => rfl
theorem ps_ld {b : Nat} (hb : b = 2 ∨ b = 16) {p : Int32} (h0 : 0 ≤ p.toInt) (h : p.toInt < 6) : ba_ldR (wW f l q) (b + 7) p = some (.ref (b + 7 + p.toNatClampNeg + 1)) := by
  have hi := ix_i h0
  have hat : ∀ L : List (Option Nat), L[p.toNatClampNeg]? = some (some (b + 7 + p.toNatClampNeg)) → (ba_at L p).map ba_rf = some (.ref (b + 7 + p.toNatClampNeg + 1)) := by
    intro L hL
    have hlt := (List.getElem?_eq_some_iff.mp hL).1
    rw [at_of (d := none) h0 (by omega), List.getD_eq_getElem?_getD, hL]
    rfl
  rcases hb with rfl | rfl
  · exact hat _ (ps_ref (b := 2) (Or.inl rfl) (by omega))
  · exact hat _ (ps_ref (b := 16) (Or.inr rfl) (by omega))
theorem s_personOf {b : Nat} (hb : b = 2 ∨ b = 16) {p : Int32} (hn : (f b 3).toInt ≤ 6) (h1 : 0 ≤ p.toInt → p.toInt < (f b 3).toInt → P (some (.ref (b + 7 + p.toNatClampNeg + 1))) (wW f l q)) (h0 : ¬ (0 ≤ p.toInt ∧ p.toInt < (f b 3).toInt) → P (some .null) (wW f l q)) : ba_go scr ix_X7_personOf 0 [some (.ref (b + 1)), some (.int p)] [] (wW f l q) 0 0 P := by
  have key : ∀ a b' : Nat, ba_fld (wW f l q) (b + 1) 6 3 = some (.int (f b 3)) ∧ ba_fld (wW f l q) (b + 1) 6 2 = some (.ref (b + 7)) := by
    intro _ _
    rcases hb with rfl | rfl <;> exact ⟨rfl, rfl⟩
  refine run_X7_personOf 30 ?_
  refine Exists.intro _ (And.intro (key 0 0).1 ?_)
  refine And.intro rfl (s_below rfl (fun c d => ?_) (fun c => ?_))
  · refine And.intro (fun e => absurd e (by decide)) (fun e => ?_)
    refine Exists.intro _ (And.intro (key 0 0).2 ?_)
    refine Exists.intro _ (And.intro (ps_ld hb c (by omega)) ?_)
    exact h1 c d
  · refine And.intro (fun e => ?_) (fun e => absurd e (by decide))
    exact h0 c
theorem s_after {b : Nat} (hb : b = 2 ∨ b = 16) {m s : Int32} (hl : (l (b + 3)).length = 12) (hm : 0 ≤ m.toInt) (hm2 : m.toInt ≤ 3) (hs : 0 ≤ s.toInt) (hs2 : s.toInt ≤ 2) (hP : P (some (.int (rl (l (b + 3)) m s))) (wW f l q)) : ba_go scr ix_X4_after 0 [some (.ref (b + 3)), some (.int m), some (.int s)] [] (wW f l q) 0 0 P := by
  have hi := idx3 hm hm2 hs hs2
  rcases hb with rfl | rfl <;>
  · refine run_X4_after 30 ?_
    refine Exists.intro _ (And.intro rfl ?_)
    refine Exists.intro _ (And.intro (ldI_of rfl (by show 0 ≤ (m * 3 + s).toInt; omega) (by show (m * 3 + s).toInt < _; rw [hl]; omega)) ?_)
    exact hP
theorem s_become {b : Nat} (hb : b = 2 ∨ b = 16) {m s v : Int32} (hl : (l (b + 3)).length = 12) (hm : 0 ≤ m.toInt) (hm2 : m.toInt ≤ 3) (hs : 0 ≤ s.toInt) (hs2 : s.toInt ≤ 2) (hP : P none (wW f (u1 l (b + 3) ((l (b + 3)).set (m * 3 + s).toNatClampNeg v)) q)) : ba_go scr ix_X4_become 0 [some (.ref (b + 3)), some (.int m), some (.int s), some (.int v)] [] (wW f l q) 0 0 P := by
  have hi := idx3 hm hm2 hs hs2
  rcases hb with rfl | rfl <;>
  · refine run_X4_become 30 ?_
    refine Exists.intro _ (And.intro rfl ?_)
    refine Exists.intro _ (And.intro (stI_of rfl (by show 0 ≤ (m * 3 + s).toInt; omega) (by show (m * 3 + s).toInt < _; rw [hl]; omega)) ?_)
    exact hP
theorem s_stopped {v : Int32} (hP : P (some (.int (-10 - v))) (wW (u2 f 0 6 v) l q)) : ba_go scr ix_X8_stopped 0 [some (.ref 1), some (.int v)] [] (wW f l q) 0 0 P := by
  refine run_X8_stopped 30 ?_
  refine Exists.intro _ (And.intro rfl ?_)
  exact hP
/-! sheets: sheet k lies at cell 34 + 2 k, its cells behind it -/
theorem sh_fld {k : Nat} (hk : k < 4) : ba_fld (wW f l q) (34 + 2 * k + 1) 5 0 = some (.ref (34 + 2 * k + 2)) ∧ ba_fld (wW f l q) (34 + 2 * k + 1) 5 1 = some (.int (f (34 + 2 * k) 1)) ∧ ba_fld (wW f l q) (34 + 2 * k + 1) 5 2 = some (.int (f (34 + 2 * k) 2)) ∧ (wW f l q)[34 + 2 * k + 1]? = some (.inl (.int, .inl (l (34 + 2 * k + 1)))) ∧ (wW f l q)[34 + 2 * k]? = some (.inr (5, [.ref (34 + 2 * k + 2), .int (f (34 + 2 * k) 1), .int (f (34 + 2 * k) 2)])) := by
  match k, hk with
  | 0, _ => exact ⟨rfl, rfl, rfl, rfl, rfl⟩
  | 1, _ => exact ⟨rfl, rfl, rfl, rfl, rfl⟩
  | 2, _ => exact ⟨rfl, rfl, rfl, rfl, rfl⟩
  | 3, _ => exact ⟨rfl, rfl, rfl, rfl, rfl⟩
theorem sh_set {k : Nat} {v : Int32} (hk : k < 4) : ba_setF .int (wW f l q) (34 + 2 * k + 1) 5 1 (.int v) = some (wW (u2 f (34 + 2 * k) 1 v) l q) ∧ ba_setF .int (wW f l q) (34 + 2 * k + 1) 5 2 (.int v) = some (wW (u2 f (34 + 2 * k) 2 v) l q) := by
  match k, hk with
  | 0, _ => exact ⟨rfl, rfl⟩
  | 1, _ => exact ⟨rfl, rfl⟩
  | 2, _ => exact ⟨rfl, rfl⟩
  | 3, _ => exact ⟨rfl, rfl⟩
theorem sh_cells {k : Nat} {L : List Int32} (hk : k < 4) : (wW f l q).set (34 + 2 * k + 1) (.inl (.int, .inl L)) = wW f (u1 l (34 + 2 * k + 1) L) q := by
  match k, hk with
  | 0, _ => rfl
  | 1, _ => rfl
  | 2, _ => rfl
  | 3, _ => rfl
theorem sh_ref {k : Nat} (hk : k < 4) : ([some 34, some 36, some 38, some 40] : List (Option Nat))[k]? = some (some (34 + 2 * k)) := by
  match k, hk with
  | 0, _ => rfl
  | 1, _ => rfl
  | 2, _ => rfl
  | 3, _ => rfl
theorem s_sheetOf {k : Int32} (h1 : 0 ≤ k.toInt → k.toInt < 4 → P (some (.ref (34 + 2 * k.toNatClampNeg + 1))) (wW f l q)) (h0 : ¬ (0 ≤ k.toInt ∧ k.toInt < 4) → P (some .null) (wW f l q)) : ba_go scr ix_X8_sheetOf 0 [some (.ref 1), some (.int k)] [] (wW f l q) 0 0 P := by
  refine run_X8_sheetOf 30 ?_
  refine And.intro rfl (s_below (bi := 4) rfl (fun c d => ?_) (fun c => ?_))
  · have hi := ix_i c
    refine And.intro (fun e => absurd e (by decide)) (fun e => ?_)
    refine Exists.intro _ (And.intro rfl ?_)
    have hat : (ba_at ([some 34, some 36, some 38, some 40] : List (Option Nat)) k).map ba_rf = some (.ref (34 + 2 * k.toNatClampNeg + 1)) := by
      rw [at_of (d := none) c (by show k.toInt < 4; exact d), List.getD_eq_getElem?_getD, sh_ref (by omega)]
      rfl
    exact Exists.intro _ (And.intro hat (h1 c d))
  · refine And.intro (fun e => ?_) (fun e => absurd e (by decide))
    exact h0 c
theorem s_hasRow {k : Nat} (hk : k < 4) (h1 : ¬ f (34 + 2 * k) 1 = -1 → P (some (.int 1)) (wW f l q)) (h0 : f (34 + 2 * k) 1 = -1 → P (some (.int 0)) (wW f l q)) : ba_go scr ix_X5_hasRow 0 [some (.ref (34 + 2 * k + 1))] [] (wW f l q) 0 0 P := by
  refine run_X5_hasRow 30 ?_
  refine Exists.intro _ (And.intro (sh_fld hk).2.1 ?_)
  refine And.intro (fun c => ?_) (fun c => ?_)
  · exact And.intro rfl (h0 c)
  · exact And.intro rfl (h1 c)
theorem s_spans {k : Nat} (hk : k < 4) {i n : Int32} (hs : 0 ≤ (f (34 + 2 * k) 2).toInt) (hs2 : (f (34 + 2 * k) 2).toInt ≤ 60) (h1 : 0 ≤ i.toInt → 0 ≤ n.toInt → i.toInt + n.toInt ≤ (f (34 + 2 * k) 2).toInt → P (some (.int 1)) (wW f l q)) (h0 : ¬ (0 ≤ i.toInt ∧ 0 ≤ n.toInt ∧ i.toInt + n.toInt ≤ (f (34 + 2 * k) 2).toInt) → P (some (.int 0)) (wW f l q)) : ba_go scr ix_X5_spans 0 [some (.ref (34 + 2 * k + 1)), some (.int i), some (.int n)] [] (wW f l q) 0 0 P := by
  refine run_X5_spans 40 ?_
  refine Exists.intro _ (And.intro (sh_fld hk).2.2.1 ?_)
  refine And.intro rfl (s_within (a := 0) rfl rfl (fun c d => ?_) (fun c => ?_))
  · refine And.intro (fun e => absurd e (by decide)) (fun e => ?_)
    refine Exists.intro _ (And.intro (sh_fld hk).2.2.1 ?_)
    refine And.intro rfl (s_within (a := 0) (b := (f (34 + 2 * k) 2).toInt - i.toInt) rfl (fb_subI (by omega) (by omega)) (fun c2 d2 => ?_) (fun c2 => ?_))
    · refine And.intro (fun e => absurd e (by decide)) (fun e => ?_)
      exact And.intro rfl (h1 c c2 (by omega))
    · refine And.intro (fun e => ?_) (fun e => absurd e (by decide))
      exact And.intro rfl (h0 (by omega))
  · refine And.intro (fun e => ?_) (fun e => absurd e (by decide))
    exact And.intro rfl (h0 (by omega))
theorem s_faultOf {k : Nat} (hk : k < 4) {a i n : Int32} (hs : 0 ≤ (f (34 + 2 * k) 2).toInt) (hs2 : (f (34 + 2 * k) 2).toInt ≤ 60) (h1 : f (34 + 2 * k) 1 = -1 → P (some (.int 1)) (wW f l q)) (h2 : ¬ f (34 + 2 * k) 1 = -1 → ¬ f (34 + 2 * k) 1 = a → P (some (.int 2)) (wW f l q)) (h4 : ¬ f (34 + 2 * k) 1 = -1 → f (34 + 2 * k) 1 = a → n.toInt < 0 → P (some (.int 4)) (wW f l q))
    (h3 : ¬ f (34 + 2 * k) 1 = -1 → f (34 + 2 * k) 1 = a → 0 ≤ n.toInt → ¬ (0 ≤ i.toInt ∧ i.toInt + n.toInt ≤ (f (34 + 2 * k) 2).toInt) → P (some (.int 3)) (wW f l q)) (h0 : ¬ f (34 + 2 * k) 1 = -1 → f (34 + 2 * k) 1 = a → 0 ≤ n.toInt → 0 ≤ i.toInt → i.toInt + n.toInt ≤ (f (34 + 2 * k) 2).toInt → P (some (.int 0)) (wW f l q)) : ba_go scr ix_X5_faultOf 0 [some (.ref (34 + 2 * k + 1)), some (.int a), some (.int i), some (.int n)] [] (wW f l q) 0 0 P := by
  have z : (0 : Int32).toInt = 0 := rfl
  refine run_X5_faultOf 40 ?_
  refine And.intro ((by match k, hk with
    | 0, _ => rfl
    | 1, _ => rfl
    | 2, _ => rfl
    | 3, _ => rfl)) (s_hasRow hk (fun c => ?_) (fun c => ?_))
  · refine And.intro (fun e => ?_) (fun e => absurd e (by decide))
    refine Exists.intro _ (And.intro (sh_fld hk).2.1 ?_)
    refine And.intro (fun d => ?_) (fun d => ?_)
    · refine And.intro (fun g => ?_) (fun g => ?_)
      · simp only [le_i, z] at g
        refine And.intro ((by match k, hk with
          | 0, _ => rfl
          | 1, _ => rfl
          | 2, _ => rfl
          | 3, _ => rfl)) (s_spans hk hs hs2 (fun a1 a2 a3 => ?_) (fun a1 => ?_))
        · refine And.intro (fun e => absurd e (by decide)) (fun e => ?_)
          exact h0 c d g a1 a3
        · refine And.intro (fun e => ?_) (fun e => absurd e (by decide))
          exact h3 c d g (by omega)
      · simp only [le_i, z] at g
        exact h4 c d (by omega)
    · exact h2 c d
  · refine And.intro (fun e => absurd e (by decide)) (fun e => ?_)
    exact h1 c
theorem s_at {k : Nat} (hk : k < 4) {i : Int32} (hl : (l (34 + 2 * k + 1)).length = 60) (hi : 0 ≤ i.toInt) (hi2 : i.toInt < 60) (hP : P (some (.int ((l (34 + 2 * k + 1)).getD i.toNatClampNeg 0))) (wW f l q)) : ba_go scr ix_X5_at 0 [some (.ref (34 + 2 * k + 1)), some (.int i)] [] (wW f l q) 0 0 P := by
  refine run_X5_at 30 ?_
  refine Exists.intro _ (And.intro (sh_fld hk).1 ?_)
  refine Exists.intro _ (And.intro (ldI_of (sh_fld hk).2.2.2.1 hi (by rw [hl]; exact hi2)) ?_)
  exact hP
end SM2
