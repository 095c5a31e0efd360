/-! the pure machine stands for the real one: calls -/
def ba_xs (M : ba_M) (scr : Option (List Int32)) : Option (List Int32) := match Nat.beq (ba_kind M) 3 || Nat.beq (ba_ci M) 99 with
  | true => scr
  | false => none
theorem ba_xs_of {M : ba_M} {scr : Option (List Int32)} {sc : List Int32} (h : ba_xs M scr = some sc) : scr = some sc := by
  unfold ba_xs at h
  split at h
  · exact h
  · cases h
/-- how a method's frame stands at its return -/
def ba_Rt (M : ba_M) (pc : Nat) (c : Nat) : Option Value → Prop
  | some (.int x) => decode (ba_code M) pc = .ok (.ireturn, 1) ∧ (∃ ty, ba_ret M = some ty ∧ narrow ty (.int x) = .int x) ∧ (ba_kind M = 3 ∨ c = ba_ce M)
  | some (.long _) => decode (ba_code M) pc = .ok (.lreturn, 1) ∧ ba_ret M = some .long ∧ (ba_kind M = 3 ∨ c = ba_ce M)
  | some (.ref _) => decode (ba_code M) pc = .ok (.areturn, 1) ∧ (∃ C, ba_ret M = some (.object C)) ∧ (ba_kind M = 3 ∨ c = ba_ce M)
  | some .null => decode (ba_code M) pc = .ok (.areturn, 1) ∧ (∃ C, ba_ret M = some (.object C)) ∧ (ba_kind M = 3 ∨ c = ba_ce M)
  | none => decode (ba_code M) pc = .ok (.return_, 1) ∧ ba_ret M = none ∧ (ba_kind M = 3 ∨ c = ba_ce M)
  | _ => False
def ba_Ends (p : Program) (l : Launch) (e : Env) (s : State) (m : MethodId) (args : Array Value) (below : List Frame) (meth : Method) (c0 : Code) (Q : State → Prop) (M : ba_M) (dC : Nat → ClassId) (dI : Nat → Nat → Nat) (b B : Nat) (P : ba_P) : Prop :=
  ∀ (v : Option Value) (w : ba_W) (c z pc : Nat) (ls : Array Slot) (cA : Nat → ClassId) (H : Heap) (locs : List Loc), P v w → ba_Rel dC dI b B cA s H locs w → s.heap.size + c = B + w.length → c ≤ ba_ce M → z ≤ ba_sl M → ba_Rt M pc c v →
    W p l e (ba_room M) s m args below meth c0 H locs c z Q (F0 m pc ls (v.map (ba_v b B)).toList)
/-- the machine's side of a run -/
def ba_R (l : Launch) (scr : Option (List Int32)) : ba_G := fun mu pc L st w c z P =>
  ∀ (p : Program) (e : Env) (s : State) (m : MethodId) (args : Array Value) (below : List Frame) (meth : Method) (c0 : Code) (Q : State → Prop) (dC : Nat → ClassId) (dI : Nat → Nat → Nat) (b B : Nat) (cA : Nat → ClassId) (H : Heap) (locs : List Loc) (ls : Array Slot),
    ba_Ctx p s m args meth c0 (ba_tab mu) dC dI b B scr → ba_Ends p l e s m args below meth c0 Q (ba_tab mu) dC dI b B P → ba_Rel dC dI b B cA s H locs w → s.heap.size + c = B + w.length → ba_Lc b B (ba_mL (ba_tab mu)) ls L → c ≤ ba_ce (ba_tab mu) → z ≤ ba_sl (ba_tab mu) →
    W p l e (ba_room (ba_tab mu)) s m args below meth c0 H locs c z Q (F0 m pc ls (st.map (ba_v b B)))
def ba_cw (M : ba_M) : List Jvm.Cond := .code (ba_y M) (ba_code M) (ba_mL M) (ba_ret M) :: ba_Tg
def ba_Pre (xs : Option (List Int32)) (dC : Nat → ClassId) (dI : Nat → Nat → Nat) (b B : Nat) (cA : Nat → ClassId) (w : ba_W) : State → Prop := fun U =>
  U.heap.size = B + w.length ∧ va_P (dC, dI) vwCl (ba_ws b B cA w) U.heap ∧ va_K (dC, dI) vwCl [] U ∧ (∀ k ty x, w[k]? = some (.inl (ty, x)) → ArrOfT U (cA k) ty ∧ va_RA U (cA k) ty) ∧ (∀ u ∈ lw_tbl, ba_isN u = true → va_Nw u U) ∧ ∀ sc, xs = some sc → va_X b sc.length (fun j => sc.getD j 0) U U.heap ∧ b < B
def ba_Qc (dC : Nat → ClassId) (dI : Nat → Nat → Nat) (b B : Nat) (ce : Nat) (w0 : ba_W) (P : ba_P) : Array Value → State → Outcome → State → Prop := fun _ st oc t =>
  (∃ (v : Option Value) (w : ba_W) (cA : Nat → ClassId), oc = .returned (v.map (ba_v b B)) ∧ P v w ∧ va_P (dC, dI) vwCl (ba_ws b B cA w) t.heap ∧ (∀ k ty x, w[k]? = some (.inl (ty, x)) → ArrOfT t (cA k) ty ∧ va_RA t (cA k) ty) ∧ w0.length + ce = w.length) ∧ va_F (fun q => B ≤ q) st t
theorem ba_Ncases {u : Jvm.Cond} (h : ba_isN u = true) : (∃ a i y h, u = .methodLinkNest a i y h) ∨ ∃ C, u = .arrayOver (.object C) := by
  unfold ba_isN at h
  split at h
  · exact Or.inl ⟨_, _, _, _, rfl⟩
  · exact Or.inr ⟨_, rfl⟩
  · cases h
theorem ba_Nuse {u : Jvm.Cond} (h : ba_isN u = true) {s : State} {args : Array Value} (hz : va_Nw u s) : u.before args s = true := by
  rcases ba_Ncases h with ⟨a, i, y, h, rfl⟩ | ⟨C, rfl⟩
  · exact va_Nw.use rfl hz
  · exact va_AO.use hz
theorem ba_Nof {u : Jvm.Cond} (h : ba_isN u = true) {s : State} {args : Array Value} (hz : u.before args s = true) : va_Nw u s := by
  rcases ba_Ncases h with ⟨a, i, y, h, rfl⟩ | ⟨C, rfl⟩
  · exact va_Nw.of rfl hz
  · exact va_AO.of hz
theorem ba_Nmoved {u : Jvm.Cond} (h : ba_isN u = true) {s U : State} (hW : s.WarmedH U.vm) (hz : va_Nw u s) : va_Nw u U := by
  rcases ba_Ncases h with ⟨a, i, y, h, rfl⟩ | ⟨C, rfl⟩
  · exact va_Nw.warmM hW hz
  · exact va_AO.moved hW.alike hz
theorem ba_Nsame {u : Jvm.Cond} (h : ba_isN u = true) {s U : State} (hW : s.vm = U.vm) (hz : va_Nw u s) : va_Nw u U := by
  rcases ba_Ncases h with ⟨a, i, y, h, rfl⟩ | ⟨C, rfl⟩
  · exact va_Nw.same rfl hW hz
  · exact va_AO.moved (by rw [hW]; exact Vm.Alike.refl U.vm) hz
theorem ba_slots (b B : Nat) (n : Nat) : ∀ (As : List Value) (k i : Nat) (v : Value), ba_get (ba_sl1 As) i = some v → (k + i, ba_v b B v) ∈ lv_args k (As.map (ba_v b B))
  | [], _, _, _, h => by cases h
  | a :: As, k, i, v, h => by
    have one : a.category = 1 → ba_sl1 (a :: As) = some a :: ba_sl1 As := by
      intro hc; cases a <;> first | rfl | cases hc
    have two : a.category = 2 → ba_sl1 (a :: As) = some a :: none :: ba_sl1 As := by
      intro hc; cases a <;> first | rfl | cases hc
    show _ ∈ (k, ba_v b B a) :: lv_args (if (ba_v b B a).category = 2 then k + 2 else k + 1) (As.map (ba_v b B))
    rw [ba_v_cat]
    rcases lv_cat a with hc | hc
    · rw [one hc] at h
      rw [if_neg (by omega)]
      cases i with
      | zero => cases h; exact List.mem_cons_self
      | succ i => rw [show k + (i + 1) = k + 1 + i by omega]; exact List.mem_cons_of_mem _ (ba_slots b B n As (k + 1) i v h)
    · rw [two hc] at h
      rw [if_pos hc]
      match i, h with
      | 0, h => cases h; exact List.mem_cons_self
      | 1, h => cases h
      | i + 2, h => rw [show k + (i + 2) = k + 2 + i by omega]; exact List.mem_cons_of_mem _ (ba_slots b B n As (k + 2) i v h)
theorem ba_pad_get : ∀ (L : ba_L) (n i : Nat) (v : Value), ba_get (ba_pad L n) i = some v → ba_get L i = some v
  | L, 0, i, v, h => by cases L <;> exact h
  | [], n + 1, i, v, h => by
    cases i with
    | zero => cases h
    | succ i => have := ba_pad_get [] n i v h; cases this
  | a :: l, n + 1, i, v, h => by
    cases i with
    | zero => exact h
    | succ i => exact ba_pad_get l n i v h
theorem ba_pad_len : ∀ (L : ba_L) (n : Nat), L.length ≤ n → (ba_pad L n).length = n
  | [], 0, _ => rfl
  | a :: l, 0, h => by simp at h
  | [], n + 1, _ => by show (ba_pad [] n).length + 1 = n + 1; rw [ba_pad_len [] n (Nat.zero_le _)]
  | a :: l, n + 1, h => by show (ba_pad l n).length + 1 = n + 1; rw [ba_pad_len l n (by simp at h; omega)]
theorem ba_sl1_len (b B : Nat) : ∀ As : List Value, (lg_sl (As.map (ba_v b B))).length = (ba_sl1 As).length
  | [] => rfl
  | a :: As => by
    have ih := ba_sl1_len b B As
    unfold lg_sl at ih ⊢
    rw [List.map_cons, List.flatMap_cons, List.length_append, ih, ba_v_cat]
    rcases lv_cat a with hc | hc
    · rw [if_neg (by omega)]
      have : ba_sl1 (a :: As) = some a :: ba_sl1 As := by cases a <;> first | rfl | cases hc
      rw [this]; simp; omega
    · rw [if_pos hc]
      have : ba_sl1 (a :: As) = some a :: none :: ba_sl1 As := by cases a <;> first | rfl | cases hc
      rw [this]; simp; omega
theorem ba_entry (b B nL : Nat) (As : List Value) (h : (ba_sl1 As).length ≤ nL) : ba_Lc b B nL ((lg_sl (As.map (ba_v b B)) ++ List.replicate (nL - (lg_sl (As.map (ba_v b B))).length) Slot.unset).toArray) (ba_pad (ba_sl1 As) nL) := by
  have hl := lv_entry (As.map (ba_v b B)) (n := nL) (by rw [ba_sl1_len]; exact h)
  refine ⟨ba_pad_len _ _ h, hl.1, hl.2.1, fun q hq => hl.2.2 q ?_⟩
  obtain ⟨v, h1, h2⟩ := ba_al_mem.mp hq
  have := ba_slots b B 0 As 0 q.1 v (ba_pad_get _ _ _ _ h1)
  rw [Nat.zero_add, ← h2] at this
  exact this
/-- what is checked of a method that is called -/
theorem ba_chkM_of {M : ba_M} (h : ba_chkM M = true) (hk : ¬ ba_kind M = 3) : (plainName (ba_y M).cls = true ∧ Cond.code (ba_y M) (ba_code M) (ba_mL M) (ba_ret M) ∈ lw_tbl ∧ Cond.initialized (ba_y M).cls ∈ ba_T) ∧ ((ba_y M).cls ≠ "java/lang/invoke/MethodHandle" ∧ (ba_y M).cls ≠ "java/lang/invoke/VarHandle" ∧ (parseMethodDescriptor (ba_y M).desc).map (fun d => d.parameters.length) = some (ba_na M)) ∧
    (ba_kind M = 0 → Cond.static (ba_y M) ∈ ba_T) ∧ (ba_kind M = 1 → Cond.instanceMethod (ba_y M) ∈ ba_T ∧ Cond.selects (ba_y M).cls (ba_y M) (ba_y M) ∈ ba_T ∧ Nat.blt (ba_ci M) vwCl.length = true ∧ ba_nm (ba_ci M) = (ba_y M).cls) ∧ (ba_kind M = 2 → Cond.instanceMethod (ba_y M) ∈ ba_T ∧ (ba_y M).name = "<init>" ∧ ba_ret M = none) := by
  unfold ba_chkM at h
  have h0 : Nat.beq (ba_kind M) 3 = false := by
    cases e : Nat.beq (ba_kind M) 3 with
    | false => rfl
    | true => exact absurd (Nat.eq_of_beq_eq_true e) hk
  rw [h0, Bool.false_or] at h
  simp only [Bool.and_eq_true] at h
  obtain ⟨h1, h2, h3, h4, h5⟩ := h
  refine ⟨⟨h1, ba_word_in h2, List.mem_filter.mpr ⟨ba_word_in h3, rfl⟩⟩, of_decide_eq_true h4, fun k => ?_, fun k => ?_, fun k => ?_⟩
  · rw [k] at h5
    exact List.mem_filter.mpr ⟨ba_word_in h5, rfl⟩
  · rw [k] at h5
    simp only [Bool.and_eq_true, decide_eq_true_eq] at h5
    exact ⟨List.mem_filter.mpr ⟨ba_word_in h5.1, rfl⟩, List.mem_filter.mpr ⟨ba_word_in h5.2.1, rfl⟩, h5.2.2.1, h5.2.2.2⟩
  · rw [k] at h5
    simp only [Bool.and_eq_true, decide_eq_true_eq] at h5
    exact ⟨List.mem_filter.mpr ⟨ba_word_in h5.1, rfl⟩, h5.2.1, h5.2.2⟩
theorem ba_good {M : ba_M} (h : Cond.code (ba_y M) (ba_code M) (ba_mL M) (ba_ret M) ∈ lw_tbl) : GoodIn ba_T (ba_cw M) := by
  intro u hu
  rcases List.mem_cons.mp hu with rfl | hu
  · exact ⟨List.mem_filter.mpr ⟨h, rfl⟩, Or.inl rfl⟩
  · have := List.mem_filter.mp hu
    exact ⟨List.mem_filter.mpr ⟨this.1, by unfold ba_keep; rw [this.2]; rfl⟩, good_of_word this.2⟩
set_option maxHeartbeats 1000000 in
/-- a run of a method is a contract -/
theorem ba_met {l : Launch} {scr : Option (List Int32)} {mu : Nat} {As : List Value} {w : ba_W} {P : ba_P} (hchk : ba_chkM (ba_tab mu) = true) (hk : ¬ ba_kind (ba_tab mu) = 3) (hlen : (ba_sl1 As).length ≤ ba_mL (ba_tab mu)) (hR : ba_R l scr mu 0 (ba_pad (ba_sl1 As) (ba_mL (ba_tab mu))) [] w 0 0 P)
    (dC : Nat → ClassId) (dI : Nat → Nat → Nat) (b B : Nat) (cA : Nat → ClassId) : Met l (ba_y (ba_tab mu)) (ba_cw (ba_tab mu)) (ba_room (ba_tab mu)) (va_Pc (As.map (ba_v b B)) (ba_Pre scr dC dI b B cA w)) (ba_Qc dC dI b B (ba_ce (ba_tab mu)) w P) (ba_ce (ba_tab mu)) (ba_sl (ba_tab mu)) (fun q => B ≤ q) := by
  obtain ⟨⟨g1, g2, g3⟩, g4, g5, g6, g7⟩ := ba_chkM_of hchk hk
  refine Met.ofW (cc := ba_code (ba_tab mu)) (maxL := ba_mL (ba_tab mu)) (ret := ba_ret (ba_tab mu)) g1 rfl ?_
  intro p e s m args below meth c s₁ B0 hml hv
  obtain ⟨rfl, hz, hP, hK, hT, hN, hXs⟩ := hv
  have hx := B0.exec
  have hb := B0.bytes
  have hr := B0.returns
  have hts := atoms_spec (ws := ba_cw (ba_tab mu)) B0.pre
  have hlocks := B0.notSynchronized
  have hctx : ba_Ctx p s m (As.map (ba_v b B)).toArray meth c (ba_tab mu) dC dI b B scr := by
    refine ⟨hx, hb, hml, findClass_of_methodNamed B0.named, fun h2 => ?_, fun u hu => ?_, hK, by omega, hXs⟩
    · rw [(name_of_methodNamed B0.named B0.method).1]; exact (g7 h2).2.1
    · have h1 := List.mem_filter.mp hu
      have h2 := h1.2
      unfold ba_keep at h2
      rw [Bool.or_eq_true] at h2
      rcases h2 with h2 | h2
      · exact hts u (List.mem_cons_of_mem _ (List.mem_filter.mpr ⟨h1.1, h2⟩))
      · exact ba_Nuse h2 (hN u h1.1 h2)
  rw [lg_entry_eq]
  refine hR p e s m _ below meth c _ dC dI b B cA s.heap [] _ hctx ?_ ⟨hP, va_S.rf, hT⟩ (by omega) (ba_entry b B _ As hlen) (Nat.zero_le _) (Nat.zero_le _)
  intro v w' c' z' pc ls cA' H locs hp hRel hsz hc hz' hrt
  have hq : ∀ t : State, t.heap = H → s.WarmedH t.vm → c' = ba_ce (ba_tab mu) → ba_Qc dC dI b B (ba_ce (ba_tab mu)) w P (As.map (ba_v b B)).toArray s (.returned (v.map (ba_v b B))) t := by
    intro t ht hW he
    refine ⟨⟨v, w', cA', rfl, hp, by rw [ht]; exact hRel.1, fun k ty x h => ?_, by omega⟩, hRel.2.1.F ht⟩
    exact ⟨arrOfT_moved hW.alike (hRel.2.2 k ty x h).1, (hRel.2.2 k ty x h).2.moved hW.alike⟩
  have hf : ∀ q ∈ locs, B ≤ q.base := hRel.2.1.2.2
  unfold ba_Rt at hrt
  cases v with
  | none =>
    obtain ⟨hd, hret, he⟩ := hrt
    have he : c' = ba_ce (ba_tab mu) := he.elim (fun q => absurd q hk) id
    refine W.widen (k := ba_ce (ba_tab mu)) (n := ba_sl (ba_tab mu)) hc hz' ?_
    exact W.vret hx hb (by rw [hr, hret]) (fun t ht hW => hq t ht hW he) hf hd
  | some v =>
    cases v with
    | int x =>
      obtain ⟨hd, ⟨ty, hret, hn⟩, he⟩ := hrt
      have he : c' = ba_ce (ba_tab mu) := he.elim (fun q => absurd q hk) id
      refine W.widen (k := ba_ce (ba_tab mu)) (n := ba_sl (ba_tab mu)) hc hz' ?_
      exact W.zret hx hb (by rw [hr, hret]) hn (fun t ht hW => hq t ht hW he) hf hd
    | long x =>
      obtain ⟨hd, hret, he⟩ := hrt
      have he : c' = ba_ce (ba_tab mu) := he.elim (fun q => absurd q hk) id
      refine W.widen (k := ba_ce (ba_tab mu)) (n := ba_sl (ba_tab mu)) hc hz' ?_
      exact W.lret hx hb (by rw [hr, hret]) (fun t ht hW => hq t ht hW he) hf hd
    | ref a =>
      obtain ⟨hd, ⟨C, hret⟩, he⟩ := hrt
      have he : c' = ba_ce (ba_tab mu) := he.elim (fun q => absurd q hk) id
      refine W.widen (k := ba_ce (ba_tab mu)) (n := ba_sl (ba_tab mu)) hc hz' ?_
      exact W.aret hx hb (by rw [hr, hret]) (Or.inl ⟨C, rfl⟩) (by cases a with | zero => exact Or.inr ⟨_, rfl⟩ | succ a => exact Or.inr ⟨_, rfl⟩) (fun t ht hW => hq t ht hW he) hf hd
    | null =>
      obtain ⟨hd, ⟨C, hret⟩, he⟩ := hrt
      have he : c' = ba_ce (ba_tab mu) := he.elim (fun q => absurd q hk) id
      refine W.widen (k := ba_ce (ba_tab mu)) (n := ba_sl (ba_tab mu)) hc hz' ?_
      exact W.aret hx hb (by rw [hr, hret]) (Or.inl ⟨C, rfl⟩) (Or.inl rfl) (fun t ht hW => hq t ht hW he) hf hd
    | float x => exact hrt.elim
    | double x => exact hrt.elim
    | retAddr x => exact hrt.elim
theorem ba_blind (scr : Option (List Int32)) (dC : Nat → ClassId) (dI : Nat → Nat → Nat) (b B : Nat) (cA : Nat → ClassId) (w : ba_W) (av : List Value) : FrameBlind (va_Pc av (ba_Pre scr dC dI b B cA w)) := by
  intro a U g mk h
  obtain ⟨h1, h2, h3, h4, h5, h6, h7⟩ := h
  exact ⟨h1, h2, h3, va_K.moved (u := U) (U := U.calling g mk a) (Vm.Alike.refl U.vm) h4, fun k ty x hx => ⟨arrOfT_moved (u := U) (E := U.calling g mk a) (Vm.Alike.refl U.vm) (h5 k ty x hx).1, va_RA.moved (u := U) (U := U.calling g mk a) (Vm.Alike.refl U.vm) (h5 k ty x hx).2⟩, fun u hu hn => ba_Nsame hn (s := U) (U := U.calling g mk a) rfl (h6 u hu hn), fun sc hs => ⟨va_X.moved (u := U) (U := U.calling g mk a) (Vm.Alike.refl U.vm) (h7 sc hs).1, (h7 sc hs).2⟩⟩
theorem ba_goes {p : Program} {l : Launch} {e : Env} {R : Room} {s : State} {m : MethodId} {args : Array Value} {below : List Frame} {meth : Method} {c0 : Code} {H : Heap} {locs : List Loc} {c z : Nat} {Q : State → Prop} {pc : Nat} {ls : Array Slot} {rest st0 : List Value} {a : Array Value} {mc ms : Nat} {dC : Nat → ClassId} {dI : Nat → Nat → Nat} {b B : Nat} {w0 : ba_W} {P : ba_P}
    (hr : va_Run p l e R s m args below meth c0 H locs c z mc ms (F0 m pc ls st0) rest (ba_Qc dC dI b B mc w0 P a) (fun q => B ≤ q)) (hS : va_S (fun q => B ≤ q) s.heap H locs) (hsz : s.heap.size + c = B + w0.length)
    (kk : ∀ (v : Option Value) (w : ba_W) (cA : Nat → ClassId) (H1 : Heap) (locs1 : List Loc), P v w → ba_Rel dC dI b B cA s H1 locs1 w → s.heap.size + (c + mc) = B + w.length → W p l e R s m args below meth c0 H1 locs1 (c + mc) (z + ms) Q (F0 m (pc + 3) ls ((v.map (ba_v b B)).toList ++ rest))) : W p l e R s m args below meth c0 H locs c z Q (F0 m pc ls st0) := by
  intro T hT X
  obtain ⟨v0, st₀, t, T', L, h0, X', hL, e1, e2, ⟨⟨v, w, cA, hv, hp, hP, hTy, hw⟩, hF1, hF2⟩, st⟩ := hr T hT X
  cases hv
  rw [h0] at hF1 hF2
  have hvm : s.vm.Alike t.vm := by rw [← e2]; exact X'.warmed.alike
  obtain ⟨t2, a1, b1⟩ := kk v w cA T'.heap (locs ++ L) hp ⟨by rw [e1]; exact hP, ⟨Nat.le_trans hS.1 (by rw [e1]; exact hF1), fun q h1 h2 => by rw [e1, hF2 q (Nat.lt_of_lt_of_le h1 hS.1) h2]; exact hS.2.1 q h1 h2, fun q hq => by
      rcases List.mem_append.mp hq with h | h
      · exact hS.2.2 q h
      · exact hL q h⟩, fun k ty x h => ⟨arrOfT_moved hvm.symm (hTy k ty x h).1, (hTy k ty x h).2.moved hvm.symm⟩⟩ (by omega) T' rfl X'
  exact ⟨t2, st t2 a1, b1⟩
