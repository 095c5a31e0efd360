/-! the pure machine stands for the real one: row by row -/
def ba_isN : Jvm.Cond → Bool
  | .methodLinkNest .. => true
  | .arrayOver (.object _) => true
  | _ => false
def ba_keep (w : Jvm.Cond) : Bool := goodWord w || ba_isN w
def ba_T : List Jvm.Cond := lw_tbl.filter ba_keep
def ba_Tg : List Jvm.Cond := lw_tbl.filter goodWord
def ba_Ctx (p : Program) (s : State) (m : MethodId) (args : Array Value) (meth : Method) (c0 : Code) (M : ba_M) (dC : Nat → ClassId) (dI : Nat → Nat → Nat) (b B : Nat) (xs : Option (List Int32)) : Prop :=
  p.tables.exec = Jvm.exec ∧ c0.code = ba_code M ∧ c0.maxLocals = ba_mL M ∧ s.vm.findClass (ba_own M) = some m.cls ∧ (ba_kind M = 2 → meth.name = "<init>") ∧ (∀ w ∈ ba_T, w.before args s = true) ∧ va_K (dC, dI) vwCl [] s ∧ B ≤ s.heap.size ∧ ∀ sc, xs = some sc → va_X b sc.length (fun j => sc.getD j 0) s s.heap ∧ b < B
def ba_Cont (p : Program) (l : Launch) (e : Env) (s : State) (m : MethodId) (args : Array Value) (below : List Frame) (meth : Method) (c0 : Code) (Q : State → Prop) (M : ba_M) (dC : Nat → ClassId) (dI : Nat → Nat → Nat) (b B : Nat) (K : ba_K) : Prop :=
  ∀ (pc : Nat) (L : ba_L) (st : List Value) (w : ba_W) (c z : Nat) (cA : Nat → ClassId) (H : Heap) (locs : List Loc) (ls : Array Slot), K pc L st w c z → ba_Rel dC dI b B cA s H locs w → s.heap.size + c = B + w.length → ba_Lc b B (ba_mL M) ls L → c ≤ ba_ce M → z ≤ ba_sl M →
    W p l e (ba_room M) s m args below meth c0 H locs c z Q (F0 m pc ls (st.map (ba_v b B)))
theorem ba_W_sized {p : Program} {l : Launch} {e : Env} {R : Room} {s : State} {m : MethodId} {args : Array Value} {below : List Frame} {meth : Method} {c : Code} {H : Heap} {locs : List Loc} {cells slots : Nat} {Q : State → Prop} {g : JFrame}
    (h : H.size ≤ s.heap.size + cells → W p l e R s m args below meth c H locs cells slots Q g) : W p l e R s m args below meth c H locs cells slots Q g := by
  intro T hT X
  exact h (by rw [← hT]; exact X.heapSize) T hT X
theorem ba_clsOf {k : Nat} (h : Nat.blt k vwCl.length = true) : vwCl[k]? = some (ba_nm k, (ba_cls k).2.1, (ba_cls k).2.2) := by
  have h : k < vwCl.length := Nat.le_of_ble_eq_true h
  have e : ba_cls k = vwCl[k] := by
    unfold ba_cls
    rw [List.getD_eq_getElem?_getD, List.getElem?_eq_getElem h]; rfl
  rw [List.getElem?_eq_getElem h, ← e]; rfl
theorem ba_clsLt {k : Nat} (h : Nat.blt k vwCl.length = true) : k < 8 := by
  have h : k < vwCl.length := Nat.le_of_ble_eq_true h
  exact h
theorem ba_chkC_of {k : Nat} (h : Nat.blt k vwCl.length = true) : ba_chkC k = true := List.all_eq_true.mp ba_classes k (List.mem_range.mpr (ba_clsLt h))
theorem ba_keep_lay (C : String) (T : u_T) (j : Nat) : ba_keep (u_lay C T j) = true := by
  unfold u_lay
  split <;> rfl
/-- what the tables say of a class -/
theorem ba_clsF {k : Nat} (h : Nat.blt k vwCl.length = true) : ((∀ w ∈ u_ws (ba_nm k) (ba_cls k).2.1 (ba_cls k).2.2, w ∈ ba_T) ∧ (∀ j, j < (ba_cls k).2.2 → parseFieldDescriptor ((ba_cls k).2.1 j).2.2.1 = some (ba_ty k j))) ∧ ((∀ x, x < (ba_cls k).2.2 → ∀ y, y < (ba_cls k).2.2 → x ≠ y → ((ba_cls k).2.1 x).2.1 ≠ ((ba_cls k).2.1 y).2.1) ∧ (∀ j, j < (ba_cls k).2.2 → defaultValue (ba_ty k j) = vp_V (ba_df k) j) ∧ (ba_df k).length = (ba_cls k).2.2 ∧ Cond.instantiable (ba_nm k) (ba_cls k).2.2 ∈ ba_T ∧ Cond.initialized (ba_nm k) ∈ ba_T) := by
  have hc := ba_chkC_of h
  unfold ba_chkC at hc
  simp only [Bool.and_eq_true] at hc
  obtain ⟨h1, h2, h3, h4, h5⟩ := hc
  have h4 := fun j (hj : j < (ba_cls k).2.2) => List.all_eq_true.mp h4 j (List.mem_range.mpr hj)
  simp only [Bool.and_eq_true, decide_eq_true_eq] at h4
  refine ⟨⟨fun w hw => ?_, fun j hj => (h4 j hj).1⟩, fun x hx y hy hxy => ?_, fun j hj => (h4 j hj).2.1, Nat.eq_of_beq_eq_true h3, List.mem_filter.mpr ⟨ba_word_in h1, rfl⟩, List.mem_filter.mpr ⟨ba_word_in h2, rfl⟩⟩
  · obtain ⟨j, hj, rfl⟩ := List.mem_map.mp hw
    exact List.mem_filter.mpr ⟨ba_word_in (h4 j (List.mem_range.mp hj)).2.2, ba_keep_lay _ _ _⟩
  · have := List.all_eq_true.mp (List.all_eq_true.mp h5 x (List.mem_range.mpr hx)) y (List.mem_range.mpr hy)
    simp only [Bool.or_eq_true, decide_eq_true_eq] at this
    rcases this with q | q
    · exact absurd (Nat.eq_of_beq_eq_true q) hxy
    · exact q
theorem ba_chkF_of {M : ba_M} {i ci k pl : Nat} (h : ba_chkF M i ci k pl = true) : Nat.blt ci vwCl.length = true ∧ k < (ba_cls ci).2.2 ∧ Cond.fieldLink (ba_own M) i (ba_nm ci) ((ba_cls ci).2.1 k).2.1 ((ba_cls ci).2.1 k).2.2.1 ∈ ba_T := by
  unfold ba_chkF at h
  simp only [Bool.and_eq_true] at h
  exact ⟨h.1, Nat.le_of_ble_eq_true h.2.1, List.mem_filter.mpr ⟨ba_word_in h.2.2, rfl⟩⟩
theorem ba_at_of {α : Type} {l : List α} {i : Int32} {x : α} (h : ba_at l i = some x) : vp_in i l.length ∧ l[i.toNatClampNeg]? = some x := by
  unfold ba_at at h
  split at h
  · cases h
  · next h0 => exact ⟨fun q => q.elim h0 (fun q => absurd (List.getElem?_eq_some_iff.mp h).1 (Nat.not_lt.mpr q)), h⟩
theorem ba_up_of {α : Type} {l l' : List α} {i : Int32} {x : α} (h : ba_up l i x = some l') : vp_in i l.length ∧ i.toNatClampNeg < l.length ∧ l' = l.set i.toNatClampNeg x := by
  unfold ba_up at h
  split at h
  · cases h
  · next h0 =>
    split at h
    · next h1 => exact ⟨fun q => q.elim h0 (fun q => absurd h1 (Nat.not_lt.mpr q)), h1, (Option.some.inj h).symm⟩
    · cases h
theorem ba_set_upd (l : List Int32) (k : Nat) (x : Int32) (hk : k < l.length) : (fun j => (l.set k x).getD j 0) = upd (fun j => l.getD j 0) k x := by
  funext j
  unfold upd
  simp only [List.getD_eq_getElem?_getD]
  by_cases h : j = k
  · subst h; simp [hk]
  · rw [List.getElem?_set_ne (Ne.symm h), if_neg h]
theorem ba_set_updL (l : List Int64) (k : Nat) (x : Int64) (hk : k < l.length) : (fun j => (l.set k x).getD j 0) = vp_updL (fun j => l.getD j 0) k x := by
  funext j
  unfold vp_updL
  simp only [List.getD_eq_getElem?_getD]
  by_cases h : j = k
  · subst h; simp [hk]
  · rw [List.getElem?_set_ne (Ne.symm h), if_neg h]
theorem ba_set_upR (B : Nat) (l : List (Option Nat)) (k : Nat) (x : Nat) (hk : k < l.length) : (fun j => ((l.set k (some x)).getD j none).map (fun i => B + i)) = va_up (fun j => (l.getD j none).map (fun i => B + i)) k (some (B + x)) := by
  funext j
  unfold va_up
  simp only [List.getD_eq_getElem?_getD]
  by_cases h : j = k
  · subst h; simp [hk]
  · rw [List.getElem?_set_ne (Ne.symm h), if_neg h]
theorem ba_cpy_len (f g : List Int32) (sp dp n : Nat) (h1 : sp + n ≤ f.length) (h2 : dp + n ≤ g.length) : (ba_cpy f g sp dp n).length = g.length := by
  unfold ba_cpy
  simp
  omega
theorem ba_cpy_get (f g : List Int32) (sp dp n : Nat) (h1 : sp + n ≤ f.length) (h2 : dp + n ≤ g.length) : (fun j => (ba_cpy f g sp dp n).getD j 0) = va_cpy (fun j => f.getD j 0) (fun j => g.getD j 0) sp dp n := by
  funext j
  unfold ba_cpy va_cpy
  simp only [List.getD_eq_getElem?_getD, List.getElem?_append, List.length_append, List.length_take, List.length_drop]
  by_cases h : dp ≤ j ∧ j < dp + n
  · rw [if_pos h, if_pos (by omega), if_neg (by omega), List.getElem?_take, if_pos (by omega), List.getElem?_drop]
    rw [show sp + (j - min dp g.length) = sp + (j - dp) by omega]
  · rw [if_neg h]
    by_cases h3 : j < dp
    · rw [if_pos (by omega), if_pos (by omega), List.getElem?_take, if_pos h3]
    · rw [if_neg (by omega), List.getElem?_drop]
      rw [show dp + n + (j - (min dp g.length + min n (f.length - sp))) = j by omega]
theorem ba_Rel.cell {dC : Nat → ClassId} {dI : Nat → Nat → Nat} {b B : Nat} {cA : Nat → ClassId} {s : State} {H H1 : Heap} {locs locs1 : List Loc} {w : ba_W} {k : Nat} {e : ba_E} (hR : ba_Rel dC dI b B cA s H locs w) (hty : ∀ ty x, e = .inl (ty, x) → ∃ y, w[k]? = some (.inl (ty, y)))
    (hP : va_P (dC, dI) vwCl ((ba_ws b B cA w).set k (B + k, ba_ee b B cA k e)) H1) (hS : va_S (fun q => B ≤ q) s.heap H1 locs1) : ba_Rel dC dI b B cA s H1 locs1 (w.set k e) := by
  rw [ba_ws_set] at hP
  refine ⟨hP, hS, fun j ty x hj => ?_⟩
  rw [List.getElem?_set] at hj
  by_cases h : k = j
  · subst h
    rw [if_pos rfl] at hj
    split at hj
    · obtain ⟨y, hy⟩ := hty ty x (Option.some.inj hj)
      exact hR.2.2 k ty y hy
    · cases hj
  · rw [if_neg h] at hj
    exact hR.2.2 j ty x hj
