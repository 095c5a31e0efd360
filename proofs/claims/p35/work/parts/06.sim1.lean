/-! the pure machine stands for the real one: the pictures -/
def ba_v (b B : Nat) : Value → Value
  | .ref 0 => .ref b
  | .ref (i + 1) => .ref (B + i)
  | .int x => .int x
  | .long x => .long x
  | .float x => .float x
  | .double x => .double x
  | .null => .null
  | .retAddr x => .retAddr x
theorem ba_v_cat (b B : Nat) (v : Value) : (ba_v b B v).category = v.category := by
  cases v with
  | ref a => cases a <;> rfl
  | _ => rfl
def ba_ea (B : Nat) : ba_A → vp_A
  | .inl l => (l.length, .inl (fun j => l.getD j 0))
  | .inr (.inl l) => (l.length, .inr (.inl (fun j => l.getD j 0)))
  | .inr (.inr l) => (l.length, .inr (.inr (.inr (.inr (fun j => (l.getD j none).map (fun i => B + i))))))
def ba_ee (b B : Nat) (cA : Nat → ClassId) (k : Nat) : ba_E → va_E
  | .inl (_, a) => .inl (cA k, ba_ea B a)
  | .inr (ci, fs) => .inr (ci, fs.map (ba_v b B))
def ba_ws (b B : Nat) (cA : Nat → ClassId) (w : ba_W) : va_W := w.mapIdx (fun k e => (B + k, ba_ee b B cA k e))
theorem ba_ws_get (b B : Nat) (cA : Nat → ClassId) (w : ba_W) (k : Nat) : (ba_ws b B cA w)[k]? = (w[k]?).map (fun e => (B + k, ba_ee b B cA k e)) := by
  unfold ba_ws
  rw [List.getElem?_mapIdx]
theorem ba_ws_at {b B : Nat} {cA : Nat → ClassId} {w : ba_W} {k : Nat} {e : ba_E} (h : w[k]? = some e) : (ba_ws b B cA w)[k]? = some (B + k, ba_ee b B cA k e) := by
  rw [ba_ws_get, h]; rfl
theorem ba_ws_len (b B : Nat) (cA : Nat → ClassId) (w : ba_W) : (ba_ws b B cA w).length = w.length := by unfold ba_ws; simp
theorem ba_ws_set (b B : Nat) (cA : Nat → ClassId) (w : ba_W) (k : Nat) (e : ba_E) : (ba_ws b B cA w).set k (B + k, ba_ee b B cA k e) = ba_ws b B cA (w.set k e) := by
  apply List.ext_getElem?
  intro j
  rw [ba_ws_get, List.getElem?_set, List.getElem?_set, ba_ws_len, ba_ws_get]
  by_cases h : k = j
  · subst h
    by_cases h2 : k < w.length
    · simp [h2]
    · simp [h2]
  · simp [h]
theorem ba_ws_app (b B : Nat) (cA : Nat → ClassId) (w : ba_W) (c : ClassId) (e : ba_E) (e' : va_E) (he : e' = ba_ee b B (fun j => if j = w.length then c else cA j) w.length e) : ba_ws b B cA w ++ [(B + w.length, e')] = ba_ws b B (fun j => if j = w.length then c else cA j) (w ++ [e]) := by
  subst he
  apply List.ext_getElem?
  intro j
  rw [ba_ws_get, List.getElem?_append, ba_ws_len, ba_ws_get, List.getElem?_append]
  by_cases h : j < w.length
  · rw [if_pos h, if_pos h]
    have hj : ¬ j = w.length := by omega
    cases w[j]? with
    | none => rfl
    | some x =>
      show some _ = some _
      congr 2
      cases x with
      | inl x => simp [ba_ee, hj]
      | inr x => rfl
  · rw [if_neg h, if_neg h]
    by_cases h2 : j = w.length
    · subst h2; simp
    · have h3 : ∃ k, j - w.length = k + 1 := ⟨j - w.length - 1, by omega⟩
      obtain ⟨k, hk⟩ := h3
      rw [hk]; rfl
theorem ba_D (b B : Nat) (cA : Nat → ClassId) (w : ba_W) : va_D (fun q => B ≤ q) (ba_ws b B cA w) := by
  refine ⟨fun i j x y hi hj hxy => ?_, fun k q hk => ?_⟩
  · rw [ba_ws_get] at hi hj
    obtain ⟨u, -, rfl⟩ := Option.map_eq_some_iff.mp hi
    obtain ⟨v, -, rfl⟩ := Option.map_eq_some_iff.mp hj
    have : B + i = B + j := hxy
    omega
  · rw [ba_ws_get] at hk
    obtain ⟨u, -, rfl⟩ := Option.map_eq_some_iff.mp hk
    exact Nat.le_add_right _ _
/-- the world w lies from B on -/
def ba_Rel (dC : Nat → ClassId) (dI : Nat → Nat → Nat) (b B : Nat) (cA : Nat → ClassId) (s : State) (H : Heap) (locs : List Loc) (w : ba_W) : Prop :=
  va_P (dC, dI) vwCl (ba_ws b B cA w) H ∧ va_S (fun q => B ≤ q) s.heap H locs ∧ ∀ k ty x, w[k]? = some (.inl (ty, x)) → ArrOfT s (cA k) ty ∧ va_RA s (cA k) ty
def ba_al (b B : Nat) (L : ba_L) : List (Nat × Value) := (List.range L.length).filterMap (fun i => (ba_get L i).map (fun v => (i, ba_v b B v)))
theorem ba_get_lt : ∀ (L : ba_L) (i : Nat) (v : Value), ba_get L i = some v → i < L.length
  | [], _, _, h => by cases h
  | _ :: _, 0, _, _ => by simp
  | _ :: l, i + 1, v, h => by have := ba_get_lt l i v h; simp; omega
theorem ba_al_mem {b B : Nat} {L : ba_L} {q : Nat × Value} : q ∈ ba_al b B L ↔ ∃ v, ba_get L q.1 = some v ∧ q.2 = ba_v b B v := by
  unfold ba_al
  rw [List.mem_filterMap]
  constructor
  · rintro ⟨i, -, h⟩
    obtain ⟨v, h1, rfl⟩ := Option.map_eq_some_iff.mp h
    exact ⟨v, h1, rfl⟩
  · rintro ⟨v, h1, h2⟩
    refine ⟨q.1, List.mem_range.mpr (ba_get_lt _ _ _ h1), ?_⟩
    rw [h1, Option.map_some, ← h2]
def ba_Lc (b B nL : Nat) (ls : Array Slot) (L : ba_L) : Prop := L.length = nL ∧ lv_has ls nL (ba_al b B L)
theorem ba_Lc.at {b B nL : Nat} {ls : Array Slot} {L : ba_L} (h : ba_Lc b B nL ls L) {i : Nat} {v : Value} (hv : ba_get L i = some v) : ls[i]? = some (.val (ba_v b B v)) := h.2.2.2 (i, ba_v b B v) (ba_al_mem.mpr ⟨v, hv, rfl⟩)
theorem ba_put_spec : ∀ (L : ba_L) (i : Nat) (v : Value) (k : ba_L → Prop), ba_put L i v k → ∃ L', k L' ∧ L'.length = L.length ∧ i < L.length ∧ ∀ j u, ba_get L' j = some u → (j = i ∧ u = v) ∨ (¬ j = i ∧ ba_get L j = some u ∧ ¬ (j + 1 = i ∧ u.category = 2))
  | [], _, _, _, h => h.elim
  | a :: l, 0, v, k, h => ⟨some v :: l, h, rfl, by simp, fun j u hj => by
      cases j with
      | zero => exact Or.inl ⟨rfl, (Option.some.inj hj).symm⟩
      | succ j => exact Or.inr ⟨by omega, hj, by omega⟩⟩
  | [a], i + 1, v, k, h => by
      cases i with
      | zero => exact h.elim
      | succ i => exact h.elim
  | a :: c :: l, 1, v, k, h => by
      have key : ∃ a', k (a' :: some v :: l) ∧ ∀ u, a' = some u → a = some u ∧ ¬ u.category = 2 := by
        cases a with
        | none => exact ⟨none, h, fun u hu => by cases hu⟩
        | some a => cases a with
          | int x => exact ⟨_, h, fun u hu => by cases hu; exact ⟨rfl, by simp [Value.category]⟩⟩
          | ref x => exact ⟨_, h, fun u hu => by cases hu; exact ⟨rfl, by simp [Value.category]⟩⟩
          | null => exact ⟨_, h, fun u hu => by cases hu; exact ⟨rfl, by simp [Value.category]⟩⟩
          | long x => exact ⟨none, h, fun u hu => by cases hu⟩
          | double x => exact ⟨none, h, fun u hu => by cases hu⟩
          | float x => exact h.elim
          | retAddr x => exact h.elim
      obtain ⟨a', h1, h2⟩ := key
      refine ⟨_, h1, rfl, by simp, fun j u hj => ?_⟩
      match j, hj with
      | 0, hj => exact Or.inr ⟨by omega, (h2 u hj).1, fun q => (h2 u hj).2 q.2⟩
      | 1, hj => exact Or.inl ⟨rfl, (Option.some.inj hj).symm⟩
      | j + 2, hj => exact Or.inr ⟨by omega, hj, by omega⟩
  | a :: c :: l, i + 2, v, k, h => by
      have h : ba_put (c :: l) (i + 1) v (fun l' => k (a :: l')) := h
      obtain ⟨L', h1, h2, h3, h4⟩ := ba_put_spec (c :: l) (i + 1) v _ h
      refine ⟨a :: L', h1, by simp [h2], by simp at h3 ⊢; omega, fun j u hj => ?_⟩
      cases j with
      | zero => exact Or.inr ⟨by omega, hj, by omega⟩
      | succ j =>
        rcases h4 j u hj with ⟨q1, q2⟩ | ⟨q1, q2, q3⟩
        · exact Or.inl ⟨by omega, q2⟩
        · exact Or.inr ⟨by omega, q2, fun z => q3 ⟨by omega, z.2⟩⟩
theorem ba_put2_spec : ∀ (L : ba_L) (i : Nat) (v : Value) (k : ba_L → Prop), ba_put2 L i v k → ∃ L', k L' ∧ L'.length = L.length ∧ i + 1 < L.length ∧ ∀ j u, ba_get L' j = some u → (j = i ∧ u = v) ∨ (¬ j = i ∧ ¬ j = i + 1 ∧ ba_get L j = some u ∧ ¬ (j + 1 = i ∧ u.category = 2))
  | [], _, _, _, h => h.elim
  | [a], 0, v, k, h => h.elim
  | a :: c :: l, 0, v, k, h => ⟨some v :: none :: l, h, rfl, by simp, fun j u hj => by
      match j, hj with
      | 0, hj => exact Or.inl ⟨rfl, (Option.some.inj hj).symm⟩
      | 1, hj => cases hj
      | j + 2, hj => exact Or.inr ⟨by omega, by omega, hj, by omega⟩⟩
  | [a], i + 1, v, k, h => by
      cases i with
      | zero => exact h.elim
      | succ i => exact h.elim
  | [a, c], 1, v, k, h => h.elim
  | a :: c :: d :: l, 1, v, k, h => by
      have key : ∃ a', k (a' :: some v :: none :: l) ∧ ∀ u, a' = some u → a = some u ∧ ¬ u.category = 2 := by
        cases a with
        | none => exact ⟨none, h, fun u hu => by cases hu⟩
        | some a => cases a with
          | int x => exact ⟨_, h, fun u hu => by cases hu; exact ⟨rfl, by simp [Value.category]⟩⟩
          | ref x => exact ⟨_, h, fun u hu => by cases hu; exact ⟨rfl, by simp [Value.category]⟩⟩
          | null => exact ⟨_, h, fun u hu => by cases hu; exact ⟨rfl, by simp [Value.category]⟩⟩
          | long x => exact ⟨none, h, fun u hu => by cases hu⟩
          | double x => exact ⟨none, h, fun u hu => by cases hu⟩
          | float x => exact h.elim
          | retAddr x => exact h.elim
      obtain ⟨a', h1, h2⟩ := key
      refine ⟨_, h1, rfl, by simp, fun j u hj => ?_⟩
      match j, hj with
      | 0, hj => exact Or.inr ⟨by omega, by omega, (h2 u hj).1, fun q => (h2 u hj).2 q.2⟩
      | 1, hj => exact Or.inl ⟨rfl, (Option.some.inj hj).symm⟩
      | 2, hj => cases hj
      | j + 3, hj => exact Or.inr ⟨by omega, by omega, hj, by omega⟩
  | a :: c :: l, i + 2, v, k, h => by
      have h : ba_put2 (c :: l) (i + 1) v (fun l' => k (a :: l')) := h
      obtain ⟨L', h1, h2, h3, h4⟩ := ba_put2_spec (c :: l) (i + 1) v _ h
      refine ⟨a :: L', h1, by simp [h2], by simp at h3 ⊢; omega, fun j u hj => ?_⟩
      cases j with
      | zero => exact Or.inr ⟨by omega, by omega, hj, by omega⟩
      | succ j =>
        rcases h4 j u hj with ⟨q1, q2⟩ | ⟨q1, q2, q3, q4⟩
        · exact Or.inl ⟨by omega, q2⟩
        · exact Or.inr ⟨by omega, by omega, q3, fun z => q4 ⟨by omega, z.2⟩⟩
theorem ba_Lc.put {b B nL : Nat} {ls ls' : Array Slot} {L L' : ba_L} {i : Nat} {v : Value} (hL : ba_Lc b B nL ls L) (hl : L'.length = L.length) (h : ∀ j u, ba_get L' j = some u → (j = i ∧ u = v) ∨ (¬ j = i ∧ ba_get L j = some u ∧ ¬ (j + 1 = i ∧ u.category = 2)))
    (hh : lv_has ls' nL ((i, ba_v b B v) :: (ba_al b B L).filter (fun q => !(q.1 == i) && !(q.1 + 1 == i && q.2.category == 2)))) : ba_Lc b B nL ls' L' := by
  refine ⟨hl.trans hL.1, hh.1, hh.2.1, fun q hq => hh.2.2 q ?_⟩
  obtain ⟨u, h1, h2⟩ := ba_al_mem.mp hq
  obtain ⟨j, x⟩ := q
  rcases h j u h1 with ⟨rfl, rfl⟩ | ⟨g1, g2, g3⟩
  · rw [show (j, x) = (j, ba_v b B u) from by rw [← h2]]; exact List.mem_cons_self
  · refine List.mem_cons_of_mem _ (List.mem_filter.mpr ⟨ba_al_mem.mpr ⟨u, g2, h2⟩, ?_⟩)
    have e : x.category = u.category := by
      have h2 : x = ba_v b B u := h2
      rw [h2, ba_v_cat]
    have g1 : ¬ j = i := g1
    have g3 : ¬ (j + 1 = i ∧ u.category = 2) := g3
    simp only [e, Bool.and_eq_true, Bool.not_eq_true', beq_eq_false_iff_ne, ne_eq, Bool.and_eq_false_imp, beq_iff_eq]
    exact ⟨g1, fun z y => g3 ⟨z, y⟩⟩
theorem ba_Lc.put2 {b B nL : Nat} {ls ls' : Array Slot} {L L' : ba_L} {i : Nat} {v : Value} (hL : ba_Lc b B nL ls L) (hl : L'.length = L.length) (h : ∀ j u, ba_get L' j = some u → (j = i ∧ u = v) ∨ (¬ j = i ∧ ¬ j = i + 1 ∧ ba_get L j = some u ∧ ¬ (j + 1 = i ∧ u.category = 2)))
    (hh : lv_has ls' nL ((i, ba_v b B v) :: (ba_al b B L).filter (fun q => !(q.1 == i) && (!(q.1 == i + 1) && !(q.1 + 1 == i && q.2.category == 2))))) : ba_Lc b B nL ls' L' := by
  refine ⟨hl.trans hL.1, hh.1, hh.2.1, fun q hq => hh.2.2 q ?_⟩
  obtain ⟨u, h1, h2⟩ := ba_al_mem.mp hq
  obtain ⟨j, x⟩ := q
  rcases h j u h1 with ⟨rfl, rfl⟩ | ⟨g1, g0, g2, g3⟩
  · rw [show (j, x) = (j, ba_v b B u) from by rw [← h2]]; exact List.mem_cons_self
  · refine List.mem_cons_of_mem _ (List.mem_filter.mpr ⟨ba_al_mem.mpr ⟨u, g2, h2⟩, ?_⟩)
    have e : x.category = u.category := by
      have h2 : x = ba_v b B u := h2
      rw [h2, ba_v_cat]
    have g1 : ¬ j = i := g1
    have g0 : ¬ j = i + 1 := g0
    have g3 : ¬ (j + 1 = i ∧ u.category = 2) := g3
    simp only [e, Bool.and_eq_true, Bool.not_eq_true', beq_eq_false_iff_ne, ne_eq, Bool.and_eq_false_imp, beq_iff_eq]
    exact ⟨g1, g0, fun z y => g3 ⟨z, y⟩⟩
/-- fewer known locals -/
def ba_le (L' L : ba_L) : Prop := L'.length = L.length ∧ ∀ i v, ba_get L' i = some v → ba_get L i = some v
theorem ba_Lc.le {b B nL : Nat} {ls : Array Slot} {L L' : ba_L} (hL : ba_Lc b B nL ls L) (h : ba_le L' L) : ba_Lc b B nL ls L' := by
  refine ⟨h.1.trans hL.1, hL.2.1, hL.2.2.1, fun q hq => hL.2.2.2 q ?_⟩
  obtain ⟨u, h1, h2⟩ := ba_al_mem.mp hq
  exact ba_al_mem.mpr ⟨u, h.2 _ _ h1, h2⟩
