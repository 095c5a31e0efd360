/-! in how many ways: the class's rows and the reference's -/
def acc (R : Nat → Nat) (v : Nat → Nat) : Nat → Nat → Nat
  | 0, _ => 0
  | r + 1, t => acc R v r t + (if R r = t then v (r / 3) else 0)
def Wn (R : Nat → Nat) (a : Nat) : Nat → Nat → Nat
  | 0, t => if t = a then 1 else 0
  | j + 1, t => acc R (Wn R a j) 12 t
def ss (c g : Nat → Nat) : Nat → Nat
  | 0 => 0
  | i + 1 => ss c g i + c i * g i
def r4 (g : Nat → Nat) : List Int32 := [nI (g 0), nI (g 1), nI (g 2), nI (g 3)]
def rn (L : List Int32) : Nat → Nat := fun r => (L.getD r 0).toNatClampNeg
theorem r4_get {g : Nat → Nat} {k : Nat} (hk : k < 4) : (r4 g).getD k 0 = nI (g k) := by
  match k, hk with
  | 0, _ => rfl
  | 1, _ => rfl
  | 2, _ => rfl
  | 3, _ => rfl
theorem r4_set {g : Nat → Nat} {k x : Nat} (hk : k < 4) : (r4 g).set k (nI x) = r4 (fun t => if t = k then x else g t) := by
  match k, hk with
  | 0, _ => rfl
  | 1, _ => rfl
  | 2, _ => rfl
  | 3, _ => rfl
theorem r4_congr {g h : Nat → Nat} (e : ∀ t, t < 4 → g t = h t) : r4 g = r4 h := by
  unfold r4
  rw [e 0 (by decide), e 1 (by decide), e 2 (by decide), e 3 (by decide)]
theorem nI_mul (a b : Nat) : nI a * nI b = nI (a * b) := (Int32.ofNat_mul a b).symm
theorem u1_ex {α : Type} {L : Nat → α} {i j : Nat} {a b : α} (h : ¬ i = j) : u1 (u1 L i a) j b = u1 (u1 L j b) i a := by
  funext x
  by_cases h1 : x = i
  · subst h1
    rw [u1_eq, u1_ne h, u1_eq]
  · by_cases h2 : x = j
    · subst h2
      rw [u1_eq, u1_ne h1, u1_eq]
    · rw [u1_ne h2, u1_ne h1, u1_ne h1, u1_ne h2]
def wq (l : Nat → List Int32) (A B : List Int32) : Nat → List Int32 := u1 (u1 l 7 B) 6 A
section RW
variable {scr : Option (List Int32)} {P : ba_P} {w : ba_W} {f : Nat → Nat → Int32} {l : Nat → List Int32} {q : List (List Int32)}
theorem wq_6 {A B A' : List Int32} : u1 (wq l A B) 6 A' = wq l A' B := u1_u1
theorem wq_7 {A B B' : List Int32} : u1 (wq l A B) 7 B' = wq l A B' := by
  unfold wq
  rw [u1_ex (by decide), u1_u1]
theorem set_6 {X : List Int32} : (wW f l q).set 6 (.inl (.int, .inl X)) = wW f (u1 l 6 X) q := rfl
theorem set_7 {X : List Int32} : (wW f l q).set 7 (.inl (.int, .inl X)) = wW f (u1 l 7 X) q := rfl
theorem wq_self : wq l (l 6) (l 7) = l := by
  unfold wq
  rw [show u1 l 7 (l 7) = l from u1_self, u1_self]
theorem s_fillg {c n : Nat} {v : Int32} (hn : n < 100) (hget : ∀ l', (wW f l' q)[c]? = some (.inl (.int, .inl (l' c)))) (hset : ∀ l' L, (wW f l' q).set c (.inl (.int, .inl L)) = wW f (u1 l' c L) q) (hl : (l c).length = n) (hP : P none (wW f (u1 l c (List.replicate n v)) q)) : ba_go scr ix_J7_fill_53178 0 [some (.ref (c + 1)), some (.int v), none, none] [] (wW f l q) 0 0 P := by
  have loop : ∀ (m i : Nat) (C : List Int32) (x : Int32), i + m = n → C.length = n → (∀ j, j < i → C.getD j 0 = v) → x = nI i → ba_go scr ix_J7_fill_53178 5 [some (.ref (c + 1)), some (.int v), some (.int x), some (.int (nI n))] [] (wW f (u1 l c C) q) 0 0 P := by
    intro m
    induction m with
    | zero =>
      intro i C x h1 h2 h3 h4
      subst h4
      refine run_J7_fill_53178 5 ?_
      refine And.intro (fun g => ?_) (fun g => ?_)
      · have e : C = List.replicate n v := by
          apply List.ext_getElem?
          intro j
          by_cases h : j < n
          · have := h3 j (by omega)
            rw [List.getD_eq_getElem?_getD, List.getElem?_eq_getElem (by omega)] at this
            rw [List.getElem?_replicate, if_pos h, List.getElem?_eq_getElem (by omega)]
            exact congrArg some this
          · rw [List.getElem?_eq_none (by omega), List.getElem?_eq_none (by rw [List.length_replicate]; omega)]
        rw [e]
        exact hP
      · exfalso
        have g : ¬ nI n ≤ nI i := g
        rw [le_i, nI_toInt (by omega), nI_toInt (by omega)] at g
        omega
    | succ m ih =>
      intro i C x h1 h2 h3 h4
      subst h4
      refine run_J7_fill_53178 9 ?_
      refine And.intro (fun g => ?_) (fun g => ?_)
      · exfalso
        have g : nI n ≤ nI i := g
        rw [le_i, nI_toInt (by omega), nI_toInt (by omega)] at g
        omega
      · have e : ba_stI (wW f (u1 l c C) q) (c + 1) (nI i) v = some (wW f (u1 l c (C.set i v)) q) := by
          rw [stI_of (l := C) (by rw [hget, u1_eq]) (by rw [nI_toInt (by omega)]; omega) (by rw [nI_toInt (by omega), h2]; omega), nI_clamp (by omega), hset, u1_u1]
        refine Exists.intro _ (And.intro (e) ?_)
        refine ih (i + 1) (C.set i v) _ (by omega) (by rw [List.length_set]; exact h2) (fun j hj => ?_) (nI_1 i)
        rw [getD_set]
        split
        · rfl
        · next h => exact h3 j (by have : ¬ i = j := fun e => h ⟨e, by omega⟩; omega)
  have elen : ∀ xs, ba_len xs (wW f l q) (c + 1) = some (nI n) := by
    intro xs
    unfold ba_len
    simp only [hget, hl]
    rfl
  refine run_J7_fill_53178 5 ?_
  refine Exists.intro _ (And.intro (elen _) ?_)
  have h := loop n 0 (l c) 0 (by omega) hl (fun j hj => absurd hj (by omega)) rfl
  rw [u1_self] at h
  exact h
theorem s_lengthen {v : Nat → Nat} {B : List Int32} (hB : B.length = 4) (h5 : (l 5).length = 12) (hr : rv (l 5)) (hP : P none (wW f (wq l (r4 (acc (rn (l 5)) v 12)) (r4 (acc (rn (l 5)) v 12))) q)) :
    ba_go scr ix_X4_lengthenRows 0 [some (.ref 5), none, none] [] (wW f (wq l (r4 v) B) q) 0 0 P := by
  have outer : ∀ (m i : Nat) (x : Int32) (z : Option Value), i + m = 4 → x = nI i → ba_go scr ix_X4_lengthenRows 10 [some (.ref 5), some (.int x), z] [] (wW f (wq l (r4 v) (r4 (acc (rn (l 5)) v (3 * i)))) q) 0 0 P := by
    intro m
    induction m with
    | zero =>
      intro i x z h1 h2
      subst h2
      have h4 : i = 4 := by omega
      subst h4
      refine run_X4_lengthenRows 12 ?_
      refine And.intro (fun _ => ?_) (fun e => absurd (by decide) e)
      refine Exists.intro _ (And.intro (rfl) ?_)
      refine Exists.intro _ (And.intro (rfl) ?_)
      have e : ba_copy (wW f (wq l (r4 v) (r4 (acc (rn (l 5)) v (3 * 4)))) q) 8 0 7 0 4 = some (wW f (u1 (wq l (r4 v) (r4 (acc (rn (l 5)) v (3 * 4)))) 6 (r4 (acc (rn (l 5)) v (3 * 4)))) q) := rfl
      rw [wq_6] at e
      refine Exists.intro _ (And.intro (e) ?_)
      exact hP
    | succ m ih =>
      intro i x z h1 h2
      subst h2
      have inner : ∀ (m' j : Nat) (y : Int32), j + m' = 3 → y = nI j → ba_go scr ix_X4_lengthenRows 17 [some (.ref 5), some (.int (nI i)), some (.int y)] [] (wW f (wq l (r4 v) (r4 (acc (rn (l 5)) v (3 * i + j)))) q) 0 0 P := by
        intro m'
        induction m' with
        | zero =>
          intro j y h1 h2
          subst h2
          have h4 : j = 3 := by omega
          subst h4
          refine run_X4_lengthenRows 5 ?_
          repeat (first | refine And.intro (fun e => absurd e (by decide)) (fun e => ?_) | refine And.intro (fun e => ?_) (fun e => absurd e (by decide)) | refine Exists.intro _ (And.intro rfl ?_) | refine And.intro rfl ?_)
          exact ih (i + 1) _ _ (by omega) (nI_1 i)
        | succ m' ih' =>
          intro j y h1' h2
          subst h2
          have hidx := idx3 (m := nI i) (s := nI j) (by rw [nI_toInt (by omega)]; omega) (by rw [nI_toInt (by omega)]; omega) (by rw [nI_toInt (by omega)]; omega) (by rw [nI_toInt (by omega)]; omega)
          rw [nI_toInt (by omega), nI_toInt (by omega)] at hidx
          have hcl : (nI i * 3 + nI j).toNatClampNeg = 3 * i + j := by
            have := ix_i (x := nI i * 3 + nI j) (by omega)
            omega
          have hv := hr (3 * i + j) (by omega)
          obtain ⟨R, hR⟩ : ∃ R, R = (l 5).getD (3 * i + j) 0 := ⟨_, rfl⟩
          rw [← hR] at hv
          have hx := ix_i hv.1
          have eR : rn (l 5) (3 * i + j) = R.toNatClampNeg := by rw [hR]; rfl
          refine run_X4_lengthenRows 19 ?_
          refine And.intro (fun e => absurd e (by show ¬ (3 : Int32) ≤ nI j; rw [le_i, nI_toInt (by omega), show (3 : Int32).toInt = 3 from rfl]; omega)) (fun _ => ?_)
          repeat (first | refine And.intro (fun e => absurd e (by decide)) (fun e => ?_) | refine And.intro (fun e => ?_) (fun e => absurd e (by decide)) | refine Exists.intro _ (And.intro rfl ?_) | refine And.intro rfl ?_)
          refine s_after (b := 2) (Or.inl rfl) (l := wq l (r4 v) (r4 (acc (rn (l 5)) v (3 * i + j)))) h5 (by rw [nI_toInt (by omega)]; omega) (by rw [nI_toInt (by omega)]; omega) (by rw [nI_toInt (by omega)]; omega) (by rw [nI_toInt (by omega)]; omega) ?_
          have e : rl ((wq l (r4 v) (r4 (acc (rn (l 5)) v (3 * i + j)))) (2 + 3)) (nI i) (nI j) = R := by
            show (l 5).getD (nI i * 3 + nI j).toNatClampNeg 0 = R
            rw [hcl, hR]
          rw [e]
          have e1 : ∀ xs, ba_ldI xs (wW f (wq l (r4 v) (r4 (acc (rn (l 5)) v (3 * i + j)))) q) 8 R = some (nI (acc (rn (l 5)) v (3 * i + j) R.toNatClampNeg)) := fun xs => by
            rw [ldI_of (l := r4 (acc (rn (l 5)) v (3 * i + j))) rfl hv.1 (by show R.toInt < 4; omega), r4_get (by omega)]
          have e2 : ∀ xs, ba_ldI xs (wW f (wq l (r4 v) (r4 (acc (rn (l 5)) v (3 * i + j)))) q) 7 (nI i) = some (nI (v i)) := fun xs => by
            rw [ldI_of (l := r4 v) rfl (by rw [nI_toInt (by omega)]; omega) (by rw [nI_toInt (by omega)]; show (i : Int) < 4; omega), nI_clamp (by omega), r4_get (by omega)]
          have e3 : ba_stI (wW f (wq l (r4 v) (r4 (acc (rn (l 5)) v (3 * i + j)))) q) 8 R (nI (acc (rn (l 5)) v (3 * i + j) R.toNatClampNeg) + nI (v i)) = some (wW f (wq l (r4 v) (r4 (acc (rn (l 5)) v (3 * i + (j + 1))))) q) := by
            rw [stI_of (l := r4 (acc (rn (l 5)) v (3 * i + j))) rfl hv.1 (by show R.toInt < 4; omega), nI_add, r4_set (by omega)]
            rw [set_7, wq_7]
            refine congrArg (fun Z => some (wW f (wq l (r4 v) Z) q)) (r4_congr (fun t ht => ?_))
            show _ = acc (rn (l 5)) v (3 * i + j) t + (if rn (l 5) (3 * i + j) = t then v ((3 * i + j) / 3) else 0)
            rw [eR, show (3 * i + j) / 3 = i by omega]
            by_cases h : t = R.toNatClampNeg
            · rw [if_pos h, if_pos h.symm, h]
            · rw [if_neg h, if_neg (fun g => h g.symm), Nat.add_zero]
          refine Exists.intro _ (And.intro (e1 _) ?_)
          repeat (first | refine And.intro (fun e => absurd e (by decide)) (fun e => ?_) | refine And.intro (fun e => ?_) (fun e => absurd e (by decide)) | refine Exists.intro _ (And.intro rfl ?_) | refine And.intro rfl ?_)
          refine Exists.intro _ (And.intro (e2 _) ?_)
          refine Exists.intro _ (And.intro (e3) ?_)
          exact ih' (j + 1) _ (by omega) (nI_1 j)
      refine run_X4_lengthenRows 5 ?_
      refine And.intro (fun e => absurd e (by show ¬ (4 : Int32) ≤ nI i; rw [le_i, nI_toInt (by omega), show (4 : Int32).toInt = 4 from rfl]; omega)) (fun _ => ?_)
      exact inner 3 0 0 (by omega) rfl
  refine run_X4_lengthenRows 6 ?_
  repeat (first | refine And.intro (fun e => absurd e (by decide)) (fun e => ?_) | refine And.intro (fun e => ?_) (fun e => absurd e (by decide)) | refine Exists.intro _ (And.intro rfl ?_) | refine And.intro rfl ?_)
  refine s_fillg (c := 7) (n := 4) (by decide) (fun _ => rfl) (fun _ _ => rfl) hB ?_
  rw [wq_7]
  exact outer 4 0 0 none rfl rfl
theorem s_rowsTo {a n : Nat} {mk : Int32} {c : Nat → Nat} (ha : a < 4) (hn : n < 100) (hc : ∀ i, i < 4 → (mk >>> (nI i &&& 31)) &&& 1 = nI (c i)) (h6 : (l 6).length = 4) (h7 : (l 7).length = 4) (h5 : (l 5).length = 12) (hr : rv (l 5))
    (hP : ∀ B : List Int32, B.length = 4 → P (some (.int (nI (ss c (Wn (rn (l 5)) a n) 4)))) (wW f (wq l (r4 (Wn (rn (l 5)) a n)) B) q)) :
    ba_go scr ix_X4_rowsTo 0 [some (.ref 5), some (.int (nI a)), some (.int mk), some (.int (nI n)), none, none] [] (wW f l q) 0 0 P := by
  have sums : ∀ (m i : Nat) (s x : Int32) (B : List Int32), B.length = 4 → i + m = 4 → x = nI i → s = nI (ss c (Wn (rn (l 5)) a n) i) → ba_go scr ix_X4_rowsTo 40 [some (.ref 5), some (.int (nI a)), some (.int mk), some (.int (nI n)), some (.int s), some (.int x)] [] (wW f (wq l (r4 (Wn (rn (l 5)) a n)) B) q) 0 0 P := by
    intro m
    induction m with
    | zero =>
      intro i s x B hB h1 h2 h3
      subst h2; subst h3
      have h4 : i = 4 := by omega
      subst h4
      refine run_X4_rowsTo 5 ?_
      repeat (first | refine And.intro (fun e => absurd e (by decide)) (fun e => ?_) | refine And.intro (fun e => ?_) (fun e => absurd e (by decide)) | refine Exists.intro _ (And.intro rfl ?_) | refine And.intro rfl ?_)
      exact hP B hB
    | succ m ih =>
      intro i s x B hB h1 h2 h3
      subst h2; subst h3
      refine run_X4_rowsTo 18 ?_
      refine And.intro (fun e => absurd e (by show ¬ (4 : Int32) ≤ nI i; rw [le_i, nI_toInt (by omega), show (4 : Int32).toInt = 4 from rfl]; omega)) (fun _ => ?_)
      repeat (first | refine And.intro (fun e => absurd e (by decide)) (fun e => ?_) | refine And.intro (fun e => ?_) (fun e => absurd e (by decide)) | refine Exists.intro _ (And.intro rfl ?_) | refine And.intro rfl ?_)
      have e2 : ∀ xs, ba_ldI xs (wW f (wq l (r4 (Wn (rn (l 5)) a n)) B) q) 7 (nI i) = some (nI (Wn (rn (l 5)) a n i)) := fun xs => by
        rw [ldI_of (l := r4 (Wn (rn (l 5)) a n)) rfl (by rw [nI_toInt (by omega)]; omega) (by rw [nI_toInt (by omega)]; show (i : Int) < 4; omega), nI_clamp (by omega), r4_get (by omega)]
      refine Exists.intro _ (And.intro (e2 _) ?_)
      refine ih (i + 1) _ _ B hB (by omega) (nI_1 i) ?_
      show nI (ss c (Wn (rn (l 5)) a n) i) + ((mk >>> (nI i &&& 31)) &&& 1) * nI (Wn (rn (l 5)) a n i) = nI (ss c (Wn (rn (l 5)) a n) i + c i * Wn (rn (l 5)) a n i)
      rw [hc i (by omega), nI_mul, nI_add]
  have loop : ∀ (m j : Nat) (x : Int32) (B : List Int32), B.length = 4 → j + m = n → x = nI j → ba_go scr ix_X4_rowsTo 18 [some (.ref 5), some (.int (nI a)), some (.int mk), some (.int (nI n)), some (.int x), none] [] (wW f (wq l (r4 (Wn (rn (l 5)) a j)) B) q) 0 0 P := by
    intro m
    induction m with
    | zero =>
      intro j x B hB h1 h2
      subst h2
      have h4 : j = n := by omega
      subst h4
      refine run_X4_rowsTo 7 ?_
      refine And.intro (fun _ => ?_) (fun e => absurd (by show nI j ≤ nI j; rw [le_i]; omega) e)
      exact sums 4 0 0 0 B hB rfl rfl rfl
    | succ m ih =>
      intro j x B hB h1 h2
      subst h2
      refine run_X4_rowsTo 7 ?_
      refine And.intro (fun e => absurd e (by show ¬ nI n ≤ nI j; rw [le_i, nI_toInt (by omega), nI_toInt (by omega)]; omega)) (fun _ => ?_)
      refine And.intro rfl (s_lengthen hB h5 hr ?_)
      exact ih (j + 1) _ _ rfl (by omega) (nI_1 j)
  have e0 : (List.replicate 4 (0 : Int32)).set a 1 = r4 (Wn (rn (l 5)) a 0) := by
    match a, ha with
    | 0, _ => rfl
    | 1, _ => rfl
    | 2, _ => rfl
    | 3, _ => rfl
  refine run_X4_rowsTo 11 ?_
  repeat (first | refine And.intro (fun e => absurd e (by decide)) (fun e => ?_) | refine And.intro (fun e => ?_) (fun e => absurd e (by decide)) | refine Exists.intro _ (And.intro rfl ?_) | refine And.intro rfl ?_)
  refine s_fillg (c := 6) (n := 4) (by decide) (fun _ => rfl) (fun _ _ => rfl) h6 ?_
  repeat (first | refine And.intro (fun e => absurd e (by decide)) (fun e => ?_) | refine And.intro (fun e => ?_) (fun e => absurd e (by decide)) | refine Exists.intro _ (And.intro rfl ?_) | refine And.intro rfl ?_)
  have e1 : ba_stI (wW f (u1 l 6 (List.replicate 4 0)) q) 7 (nI a) 1 = some (wW f (wq l (r4 (Wn (rn (l 5)) a 0)) (l 7)) q) := by
    rw [stI_of (l := List.replicate 4 0) rfl (by rw [nI_toInt (by omega)]; omega) (by rw [nI_toInt (by omega)]; show (a : Int) < 4; omega), nI_clamp (by omega), e0]
    rw [set_6, u1_u1]
    unfold wq
    rw [show u1 l 7 (l 7) = l from u1_self]
  refine Exists.intro _ (And.intro (e1) ?_)
  exact loop n 0 0 (l 7) h7 (by omega) rfl
end RW
