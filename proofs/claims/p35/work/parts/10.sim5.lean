/-! the pure machine stands for the real one: one row -/
theorem ba_mapSome {α β : Type} {o : Option α} {f : α → β} {y : β} (h : o.map f = some y) : ∃ x, o = some x ∧ f x = y := by
  cases o with
  | none => cases h
  | some x => exact ⟨x, rfl, Option.some.inj h⟩
theorem ba_fld_of {w : ba_W} {a ci k : Nat} {v : Value} (h : ba_fld w a ci k = some v) : ∃ i fs, a = i + 1 ∧ w[i]? = some (.inr (ci, fs)) ∧ fs[k]? = some v := by
  unfold ba_fld at h
  split at h
  · cases h
  · next i =>
    split at h
    · next cj fs h2 =>
      split at h
      · next h3 => exact ⟨i, fs, rfl, by rw [h2, h3], h⟩
      · cases h
    · cases h
theorem ba_setF_of {ty : FieldType} {w w' : ba_W} {a ci k : Nat} {v : Value} (h : ba_setF ty w a ci k v = some w') : ∃ i fs, a = i + 1 ∧ w[i]? = some (.inr (ci, fs)) ∧ k < fs.length ∧ ba_fitv ty v = true ∧ w' = w.set i (.inr (ci, fs.set k v)) := by
  unfold ba_setF at h
  split at h
  · cases h
  · next i =>
    split at h
    · next cj fs h2 =>
      split at h
      · next h3 =>
        split at h
        · next h4 =>
          split at h
          · next h5 => exact ⟨i, fs, rfl, by rw [h2, h3], h4, h5, by rw [← Option.some.inj h, h3]⟩
          · cases h
        · cases h
      · cases h
    · cases h
theorem ba_fitv_of {ty : FieldType} {v : Value} (h : ba_fitv ty v = true) (b B : Nat) : narrow ty (ba_v b B v) = ba_v b B v ∧ fits ty (ba_v b B v) = true := by
  unfold ba_fitv at h
  split at h
  · exact ⟨rfl, rfl⟩
  · next a => cases a <;> exact ⟨rfl, rfl⟩
  · next a => cases a <;> exact ⟨rfl, rfl⟩
  · cases h
theorem ba_ldI_of {xs : Option (List Int32)} {w : ba_W} {a : Nat} {i x : Int32} (h : ba_ldI xs w a i = some x) : (∃ sc, a = 0 ∧ xs = some sc ∧ ba_at sc i = some x) ∨ ∃ j l, a = j + 1 ∧ w[j]? = some (.inl (.int, .inl l)) ∧ ba_at l i = some x := by
  unfold ba_ldI at h
  split at h
  · split at h
    · next sc => exact Or.inl ⟨sc, rfl, rfl, h⟩
    · cases h
  · next j =>
    split at h
    · next l h2 => exact Or.inr ⟨j, l, rfl, h2, h⟩
    · cases h
theorem ba_ldJ_of {w : ba_W} {a : Nat} {i : Int32} {x : Int64} (h : ba_ldJ w a i = some x) : ∃ j l, a = j + 1 ∧ w[j]? = some (.inl (.long, .inr (.inl l))) ∧ ba_at l i = some x := by
  unfold ba_ldJ at h
  split at h
  · cases h
  · next j =>
    split at h
    · next l h2 => exact ⟨j, l, rfl, h2, h⟩
    · cases h
theorem ba_ldR_of {w : ba_W} {a : Nat} {i : Int32} {v : Value} (h : ba_ldR w a i = some v) : ∃ j C l o, a = j + 1 ∧ w[j]? = some (.inl (.object C, .inr (.inr l))) ∧ ba_at l i = some o ∧ v = ba_rf o := by
  unfold ba_ldR at h
  split at h
  · cases h
  · next j =>
    split at h
    · next C l h2 =>
      obtain ⟨o, h3, h4⟩ := ba_mapSome h
      exact ⟨j, C, l, o, rfl, h2, h3, h4.symm⟩
    · cases h
theorem ba_stI_of {w w' : ba_W} {a : Nat} {i x : Int32} (h : ba_stI w a i x = some w') : ∃ j l, a = j + 1 ∧ w[j]? = some (.inl (.int, .inl l)) ∧ vp_in i l.length ∧ i.toNatClampNeg < l.length ∧ w' = w.set j (.inl (.int, .inl (l.set i.toNatClampNeg x))) := by
  unfold ba_stI at h
  split at h
  · cases h
  · next j =>
    split at h
    · next l h2 =>
      obtain ⟨l', h3, h4⟩ := ba_mapSome h
      obtain ⟨g1, g2, g3⟩ := ba_up_of h3
      exact ⟨j, l, rfl, h2, g1, g2, by rw [← h4, g3]⟩
    · cases h
theorem ba_stJ_of {w w' : ba_W} {a : Nat} {i : Int32} {x : Int64} (h : ba_stJ w a i x = some w') : ∃ j l, a = j + 1 ∧ w[j]? = some (.inl (.long, .inr (.inl l))) ∧ vp_in i l.length ∧ i.toNatClampNeg < l.length ∧ w' = w.set j (.inl (.long, .inr (.inl (l.set i.toNatClampNeg x)))) := by
  unfold ba_stJ at h
  split at h
  · cases h
  · next j =>
    split at h
    · next l h2 =>
      obtain ⟨l', h3, h4⟩ := ba_mapSome h
      obtain ⟨g1, g2, g3⟩ := ba_up_of h3
      exact ⟨j, l, rfl, h2, g1, g2, by rw [← h4, g3]⟩
    · cases h
theorem ba_stR_of {w w' : ba_W} {a b : Nat} {i : Int32} (h : ba_stR w a i b = some w') : ∃ j o C l ci fs r, a = j + 1 ∧ b = o + 1 ∧ w[j]? = some (.inl (.object C, .inr (.inr l))) ∧ w[o]? = some (.inr (ci, fs)) ∧ vwCl[ci]? = some r ∧ C = r.1 ∧ vp_in i l.length ∧ i.toNatClampNeg < l.length ∧ w' = w.set j (.inl (.object C, .inr (.inr (l.set i.toNatClampNeg (some o))))) := by
  unfold ba_stR at h
  split at h
  · next j o =>
    split at h
    · next C l ci fs h1 h2 =>
      split at h
      · next r hr =>
        split at h
        · next hC =>
          obtain ⟨l', h3, h4⟩ := ba_mapSome h
          obtain ⟨g1, g2, g3⟩ := ba_up_of h3
          exact ⟨j, o, C, l, ci, fs, r, rfl, rfl, h1, h2, hr, hC, g1, g2, by rw [← h4, g3]⟩
        · cases h
      · cases h
    · cases h
  · cases h
theorem ba_len_of {xs : Option (List Int32)} {w : ba_W} {a : Nat} {n : Int32} (h : ba_len xs w a = some n) : (∃ sc, a = 0 ∧ xs = some sc ∧ n = Int32.ofNat sc.length) ∨ ∃ j ty A, a = j + 1 ∧ w[j]? = some (.inl (ty, A)) ∧ ∀ B, n = Int32.ofNat (ba_ea B A).1 := by
  unfold ba_len at h
  split at h
  · split at h
    · next sc => exact Or.inl ⟨sc, rfl, rfl, (Option.some.inj h).symm⟩
    · cases h
  · next j =>
    split at h
    · next ty l h2 => exact Or.inr ⟨j, ty, _, rfl, h2, fun B => (Option.some.inj h).symm⟩
    · next ty l h2 => exact Or.inr ⟨j, ty, _, rfl, h2, fun B => (Option.some.inj h).symm⟩
    · next ty l h2 => exact Or.inr ⟨j, ty, _, rfl, h2, fun B => (Option.some.inj h).symm⟩
    · cases h
theorem ba_copy_of {w w' : ba_W} {a0 a : Nat} {sp dp n : Int32} (h : ba_copy w a0 sp a dp n = some w') : ∃ i j f g, a0 = i + 1 ∧ a = j + 1 ∧ w[i]? = some (.inl (.int, .inl f)) ∧ w[j]? = some (.inl (.int, .inl g)) ∧ (¬ sp < 0 ∧ ¬ dp < 0 ∧ ¬ n < 0 ∧ sp.toNatClampNeg + n.toNatClampNeg ≤ f.length ∧ dp.toNatClampNeg + n.toNatClampNeg ≤ g.length) ∧ w' = w.set j (.inl (.int, .inl (ba_cpy f g sp.toNatClampNeg dp.toNatClampNeg n.toNatClampNeg))) := by
  unfold ba_copy at h
  split at h
  · next i j =>
    split at h
    · next f g h1 h2 =>
      split at h
      · next hc => exact ⟨i, j, f, g, rfl, rfl, h1, h2, hc, (Option.some.inj h).symm⟩
      · cases h
    · cases h
  · cases h
theorem ba_decode {M : ba_M} {pc nx r1 r2 pl : Nat} {ins : Instr} (h : ba_chk M (pc, ins, nx, r1, r2, pl) = true) : (ba_isSw ins = false → decode (ba_code M) pc = .ok (ins, ba_ln ins) ∧ nx = pc + ba_ln ins) ∧ (ba_isSw ins = true → ∃ n, decode (ba_code M) pc = .ok (ins, n)) ∧ ba_chkI M pc r1 r2 pl ins = true := by
  unfold ba_chk at h
  cases e : ba_isSw ins with
  | true =>
    simp only [e, cond_true, Bool.and_eq_true] at h
    refine ⟨fun q => (by cases q), fun _ => ?_, h.2⟩
    have h1 := h.1
    split at h1
    · next i n hd => exact ⟨n, by rw [hd, of_decide_eq_true h1]⟩
    · cases h1
  | false =>
    simp only [e, cond_false, Bool.and_eq_true] at h
    exact ⟨fun _ => ⟨of_decide_eq_true h.1, Nat.eq_of_beq_eq_true h.2.1⟩, fun q => (by cases q), h.2.2⟩
theorem ba_sw_at {x : Int} {k : Nat → Prop} : ∀ (l : List Nat) (lo : Int) (j t : Nat), ba_sw x k lo l → l[j]? = some t → x = lo + j → k t
  | [], _, _, _, _, h, _ => by cases h
  | t0 :: l, lo, 0, t, h, h1, h2 => by
    cases h1
    exact h.1 (by simpa using h2)
  | t0 :: l, lo, j + 1, t, h, h1, h2 => ba_sw_at l (lo + 1) j t h.2 h1 (by rw [h2]; omega)
theorem ba_rep (n : Nat) : (fun j => (List.replicate n (0 : Int32)).getD j 0) = fun _ => 0 := by
  funext j
  rw [List.getD_eq_getElem?_getD, List.getElem?_replicate]
  split <;> rfl
theorem ba_repL (n : Nat) : (fun j => (List.replicate n (0 : Int64)).getD j 0) = fun _ => 0 := by
  funext j
  rw [List.getD_eq_getElem?_getD, List.getElem?_replicate]
  split <;> rfl
theorem ba_repR (B n : Nat) : (fun j => ((List.replicate n (none : Option Nat)).getD j none).map (fun i => B + i)) = fun _ => none := by
  funext j
  rw [List.getD_eq_getElem?_getD, List.getElem?_replicate]
  split <;> rfl
theorem ba_eeI (b B : Nat) (cA : Nat → ClassId) (cN : ClassId) (k N : Nat) (ty : FieldType) : ba_ee b B (fun j => if j = k then cN else cA j) k (.inl (ty, .inl (List.replicate N 0))) = .inl (cN, (N, .inl (fun _ => 0))) := by
  show Sum.inl ((if k = k then cN else cA k), ((List.replicate N (0 : Int32)).length, Sum.inl (fun j => (List.replicate N (0 : Int32)).getD j 0))) = _
  rw [if_pos rfl, List.length_replicate, ba_rep]
theorem ba_eeL (b B : Nat) (cA : Nat → ClassId) (cN : ClassId) (k N : Nat) (ty : FieldType) : ba_ee b B (fun j => if j = k then cN else cA j) k (.inl (ty, .inr (.inl (List.replicate N 0)))) = .inl (cN, (N, .inr (.inl (fun _ => 0)))) := by
  show Sum.inl ((if k = k then cN else cA k), ((List.replicate N (0 : Int64)).length, Sum.inr (Sum.inl (fun j => (List.replicate N (0 : Int64)).getD j 0)))) = _
  rw [if_pos rfl, List.length_replicate, ba_repL]
theorem ba_eeR (b B : Nat) (cA : Nat → ClassId) (cN : ClassId) (k N : Nat) (ty : FieldType) : ba_ee b B (fun j => if j = k then cN else cA j) k (.inl (ty, .inr (.inr (List.replicate N none)))) = .inl (cN, (N, .inr (.inr (.inr (.inr (fun _ => none)))))) := by
  show Sum.inl ((if k = k then cN else cA k), ((List.replicate N (none : Option Nat)).length, Sum.inr (Sum.inr (Sum.inr (Sum.inr (fun j => ((List.replicate N (none : Option Nat)).getD j none).map (fun i => B + i))))))) = _
  rw [if_pos rfl, List.length_replicate, ba_repR]
theorem ba_sameF {ci k : Nat} {s : State} {x : ClassId × Class × Nat × Field} (h1 : Nat.blt ci vwCl.length = true) (h2 : k < (ba_cls ci).2.2) : s.fieldFound? ((ba_cls ci).2.1 k).1 ((ba_cls ci).2.1 k).2.1 ((ba_cls ci).2.1 k).2.2.1 = some x ↔ s.fieldFound? (ba_nm ci) ((ba_cls ci).2.1 k).2.1 ((ba_cls ci).2.1 k).2.2.1 = some x := by
  have : ((ba_cls ci).2.1 k).1 = ba_nm ci := by
    have h3 : ∀ i, i < 8 → ∀ j, j < 40 → ((ba_cls i).2.1 j).1 = ba_nm i := by decide +kernel
    have h4 : ∀ i, i < 8 → (ba_cls i).2.2 ≤ 40 := by decide +kernel
    exact h3 ci (ba_clsLt h1) k (Nat.lt_of_lt_of_le h2 (h4 ci (ba_clsLt h1)))
  rw [this]
theorem ba_dfv {ci b B : Nat} (h1 : Nat.blt ci vwCl.length = true) : (ba_df ci).map (ba_v b B) = ba_df ci := by
  have h3 : ∀ i, i < 8 → ∀ v ∈ ba_df i, v = .int 0 ∨ v = .null ∨ v = .long 0 := by decide +kernel
  have h4 := h3 ci (ba_clsLt h1)
  have : ∀ l : List Value, (∀ v ∈ l, v = .int 0 ∨ v = .null ∨ v = .long 0) → l.map (ba_v b B) = l := by
    intro l hl
    induction l with
    | nil => rfl
    | cons a l ih =>
      rw [List.map_cons, ih (fun v hv => hl v (List.mem_cons_of_mem _ hv))]
      rcases hl a List.mem_cons_self with rfl | rfl | rfl <;> rfl
  exact this _ h4
theorem ba_newq {dC : Nat → ClassId} {dI : Nat → Nat → Nat} {b B : Nat} {cA : Nat → ClassId} {s : State} {H H1 : Heap} {w : ba_W} {c q : Nat} {e : va_E} (hP1 : va_P (dC, dI) vwCl (ba_ws b B cA w ++ [(q, e)]) H1) (hP : va_P (dC, dI) vwCl (ba_ws b B cA w) H) (hD1 : va_D (fun q => B ≤ q) (ba_ws b B cA w ++ [(q, e)])) (hz : s.heap.size + c = B + w.length) (hB : B ≤ s.heap.size) (hs : H1.size ≤ s.heap.size + (c + 1)) : q = B + w.length := by
  have hlast : (ba_ws b B cA w ++ [(q, e)])[w.length]? = some (q, e) := by
    rw [List.getElem?_append_right (by rw [ba_ws_len]; exact Nat.le_refl _), ba_ws_len]; simp
  have h1 : q < H1.size := (hP1 _ _ hlast).lt
  have h2 : B ≤ q := hD1.2 _ _ hlast
  have h3 : ¬ q < B + w.length := by
    intro hlt
    have hk : q - B < w.length := by omega
    have hi : (ba_ws b B cA w ++ [(q, e)])[q - B]? = some (B + (q - B), ba_ee b B cA (q - B) (w[q - B]'hk)) := by
      rw [List.getElem?_append_left (by rw [ba_ws_len]; exact hk)]
      exact ba_ws_at (List.getElem?_eq_getElem hk)
    have := hD1.1 _ _ _ _ hi hlast (by show B + (q - B) = q; omega)
    omega
  omega
theorem ba_newty {cA : Nat → ClassId} {cN : ClassId} {s : State} {w : ba_W} {t : FieldType} {x0 : ba_A} (h : ∀ k ty x, w[k]? = some (.inl (ty, x)) → ArrOfT s (cA k) ty ∧ va_RA s (cA k) ty) (hn : ArrOfT s cN t ∧ va_RA s cN t) {k : Nat} {ty : FieldType} {x : ba_A} (hx : (w ++ [Sum.inl (t, x0)])[k]? = some (.inl (ty, x))) : ArrOfT s (if k = w.length then cN else cA k) ty ∧ va_RA s (if k = w.length then cN else cA k) ty := by
  rw [List.getElem?_append] at hx
  split at hx
  · next hk => rw [if_neg (by omega)]; exact h k ty x hx
  · next hk =>
    have : k - w.length < 1 := (List.getElem?_eq_some_iff.mp hx).1
    have hk2 : k = w.length := by omega
    subst hk2
    rw [Nat.sub_self] at hx
    cases hx
    rw [if_pos rfl]; exact hn
theorem ba_newty2 {cA : Nat → ClassId} {cN : ClassId} {s : State} {w : ba_W} {x0 : Nat × List Value} (h : ∀ k ty x, w[k]? = some (.inl (ty, x)) → ArrOfT s (cA k) ty ∧ va_RA s (cA k) ty) {k : Nat} {ty : FieldType} {x : ba_A} (hx : (w ++ [Sum.inr x0])[k]? = some (.inl (ty, x))) : ArrOfT s (if k = w.length then cN else cA k) ty ∧ va_RA s (if k = w.length then cN else cA k) ty := by
  rw [List.getElem?_append] at hx
  split at hx
  · next hk => rw [if_neg (by omega)]; exact h k ty x hx
  · next hk =>
    have : k - w.length < 1 := (List.getElem?_eq_some_iff.mp hx).1
    have hk2 : k = w.length := by omega
    subst hk2
    rw [Nat.sub_self] at hx
    cases hx
section BAS
variable {p : Program} {l : Launch} {e : Env} {s : State} {m : MethodId} {args : Array Value} {below : List Frame} {meth : Method} {c0 : Code} {Q : State → Prop} {M : ba_M} {dC : Nat → ClassId} {dI : Nat → Nat → Nat} {b B : Nat} {xs scr : Option (List Int32)}
theorem ba_lsw_of {pc : Nat} {k : Nat → Prop} {x : Int} {d : Int} {r2 : Nat} (hd : (pc : Int) + d = (r2 : Int)) : ∀ (ps : List (Int × Int)) (l : List (Int × Nat)), ps.map (fun q => (q.1, (pc : Int) + q.2)) = l.map (fun q => (q.1, Int.ofNat q.2)) → ba_lsw x k r2 l → ∃ (off : Int) (t : Nat), Op.lookupswitch.offset ps d x = off ∧ (pc : Int) + off = (t : Int) ∧ k t
  | [], [], _, h => ⟨d, r2, rfl, hd, h⟩
  | [], _ :: _, h, _ => by cases h
  | _ :: _, [], h, _ => by cases h
  | (a, o) :: ps, (a', t) :: l, h, hk => by
    simp only [List.map_cons, List.cons.injEq, Prod.mk.injEq] at h
    obtain ⟨⟨rfl, h2⟩, h3⟩ := h
    by_cases q : x = a
    · refine ⟨o, t, ?_, h2, hk.1 q⟩
      rw [Op.lookupswitch.offset_cons, if_pos q.symm]
    · obtain ⟨off, t', g1, g2, g3⟩ := ba_lsw_of hd ps l h3 (hk.2 q)
      refine ⟨off, t', ?_, g2, g3⟩
      rw [Op.lookupswitch.offset_cons, if_neg (fun z => q z.symm)]
      exact g1
set_option maxHeartbeats 4000000 in
/-- one row: what it wants holds, and what comes of it goes on -/
theorem ba_sim {mu pc nx r1 r2 pl : Nat} {ins : Instr} {L : ba_L} {st : List Value} {w : ba_W} {c z : Nat} {P : ba_P} {K : ba_K} {cA : Nat → ClassId} {H : Heap} {locs : List Loc} {ls : Array Slot}
    (hall : ∀ mu, ba_chkM (ba_tab mu) = true) (C0 : ba_Ctx p s m args meth c0 M dC dI b B scr) (hq : ba_chk M (pc, ins, nx, r1, r2, pl) = true) (hE : ba_Ends p l e s m args below meth c0 Q M dC dI b B P) (hC : ba_Cont p l e s m args below meth c0 Q M dC dI b B K)
    (hk : ba_k (ba_R l scr) (ba_xs M scr) M (pc, ins, nx, r1, r2, pl) L st w c z P K) (hR : ba_Rel dC dI b B cA s H locs w) (hz : s.heap.size + c = B + w.length) (hL : ba_Lc b B (ba_mL M) ls L) (hc : c ≤ ba_ce M) (hs : z ≤ ba_sl M) :
    W p l e (ba_room M) s m args below meth c0 H locs c z Q (F0 m pc ls (st.map (ba_v b B))) := by
  obtain ⟨hx, hb, hml, hown, hnm, hts, hK, hB, hscr⟩ := id C0
  obtain ⟨hd1, hd2, hI⟩ := ba_decode hq
  have hA : ∀ q, s.heap.size ≤ q → B ≤ q := fun q h => Nat.le_trans hB h
  have hPw := hR.1
  have hSw := hR.2.1
  have hD := ba_D b B cA w
  have hKt : ∀ (k : Nat) (ty : FieldType) (x : ba_A), w[k]? = some (.inl (ty, x)) → va_K (dC, dI) vwCl [(cA k, ty)] s := fun k ty x h => ⟨hK.1, fun j q hj => by
    cases j with
    | zero => cases hj; exact hR.2.2 k ty x h
    | succ j => cases hj⟩
  cases ins with
  | aload_n k =>
    obtain ⟨hd, rfl⟩ := hd1 rfl
    change ba_ldA _ _ _ _ _ _ _ _ at hk
    unfold ba_ldA at hk
    split at hk
    · next a hg =>
      have hv := hL.at hg
      cases a with
      | zero =>
        refine lv_aload_n hx hb hd rfl hv ?_
        exact hC _ _ _ _ _ _ _ _ _ _ hk hR hz hL hc hs
      | succ a =>
        refine lv_aload_n hx hb hd rfl hv ?_
        exact hC _ _ _ _ _ _ _ _ _ _ hk hR hz hL hc hs
    · next hg =>
      have hv := hL.at hg
      refine lv_aload_nN hx hb hd rfl hv ?_
      exact hC _ _ _ _ _ _ _ _ _ _ hk hR hz hL hc hs
    · exact hk.elim
  | aload k =>
    obtain ⟨hd, rfl⟩ := hd1 rfl
    change ba_ldA _ _ _ _ _ _ _ _ at hk
    unfold ba_ldA at hk
    split at hk
    · next a hg =>
      have hv := hL.at hg
      cases a with
      | zero =>
        refine lv_aload hx hb hd  hv ?_
        exact hC _ _ _ _ _ _ _ _ _ _ hk hR hz hL hc hs
      | succ a =>
        refine lv_aload hx hb hd  hv ?_
        exact hC _ _ _ _ _ _ _ _ _ _ hk hR hz hL hc hs
    · next hg =>
      have hv := hL.at hg
      refine lv_aloadN hx hb hd  hv ?_
      exact hC _ _ _ _ _ _ _ _ _ _ hk hR hz hL hc hs
    · exact hk.elim
  | iload_n k =>
    obtain ⟨hd, rfl⟩ := hd1 rfl
    change ba_ldi _ _ _ _ _ _ _ _ at hk
    unfold ba_ldi at hk
    split at hk
    · next a hg =>
      have hv := hL.at hg
      refine lv_iload_n hx hb hd rfl hv ?_
      exact hC _ _ _ _ _ _ _ _ _ _ hk hR hz hL hc hs
    · exact hk.elim
  | iload k =>
    obtain ⟨hd, rfl⟩ := hd1 rfl
    change ba_ldi _ _ _ _ _ _ _ _ at hk
    unfold ba_ldi at hk
    split at hk
    · next a hg =>
      have hv := hL.at hg
      refine lv_iload hx hb hd  hv ?_
      exact hC _ _ _ _ _ _ _ _ _ _ hk hR hz hL hc hs
    · exact hk.elim
  | lload_n k =>
    obtain ⟨hd, rfl⟩ := hd1 rfl
    change ba_ldl _ _ _ _ _ _ _ _ at hk
    unfold ba_ldl at hk
    split at hk
    · next a hg =>
      have hv := hL.at hg
      refine lv_lload_n hx hb hd rfl hv ?_
      exact hC _ _ _ _ _ _ _ _ _ _ hk hR hz hL hc hs
    · exact hk.elim
  | lload k =>
    obtain ⟨hd, rfl⟩ := hd1 rfl
    change ba_ldl _ _ _ _ _ _ _ _ at hk
    unfold ba_ldl at hk
    split at hk
    · next a hg =>
      have hv := hL.at hg
      refine lv_lload hx hb hd  hv ?_
      exact hC _ _ _ _ _ _ _ _ _ _ hk hR hz hL hc hs
    · exact hk.elim
  | astore_n k =>
    obtain ⟨hd, rfl⟩ := hd1 rfl
    change ba_sta _ _ _ _ _ _ _ _ at hk
    unfold ba_sta at hk
    split at hk
    · next a r =>
      cases a with
      | zero =>
        obtain ⟨L', hk, h1, h2, h3⟩ := ba_put_spec _ _ _ _ hk
        refine lv_astore_n hx hb hd rfl hL.2 (by rw [← hL.1]; exact h2) rfl (fun ls' hh => ?_)
        exact hC _ _ _ _ _ _ _ _ _ _ hk hR hz (hL.put h1 h3 hh) hc hs
      | succ a =>
        obtain ⟨L', hk, h1, h2, h3⟩ := ba_put_spec _ _ _ _ hk
        refine lv_astore_n hx hb hd rfl hL.2 (by rw [← hL.1]; exact h2) rfl (fun ls' hh => ?_)
        exact hC _ _ _ _ _ _ _ _ _ _ hk hR hz (hL.put h1 h3 hh) hc hs
    · next r =>
      obtain ⟨L', hk, h1, h2, h3⟩ := ba_put_spec _ _ _ _ hk
      refine lv_astore_nN hx hb hd rfl hL.2 (by rw [← hL.1]; exact h2) rfl (fun ls' hh => ?_)
      exact hC _ _ _ _ _ _ _ _ _ _ hk hR hz (hL.put h1 h3 hh) hc hs
    · exact hk.elim
  | astore k =>
    obtain ⟨hd, rfl⟩ := hd1 rfl
    change ba_sta _ _ _ _ _ _ _ _ at hk
    unfold ba_sta at hk
    split at hk
    · next a r =>
      cases a with
      | zero =>
        obtain ⟨L', hk, h1, h2, h3⟩ := ba_put_spec _ _ _ _ hk
        refine lv_astore hx hb hd  hL.2 (by rw [← hL.1]; exact h2) rfl (fun ls' hh => ?_)
        exact hC _ _ _ _ _ _ _ _ _ _ hk hR hz (hL.put h1 h3 hh) hc hs
      | succ a =>
        obtain ⟨L', hk, h1, h2, h3⟩ := ba_put_spec _ _ _ _ hk
        refine lv_astore hx hb hd  hL.2 (by rw [← hL.1]; exact h2) rfl (fun ls' hh => ?_)
        exact hC _ _ _ _ _ _ _ _ _ _ hk hR hz (hL.put h1 h3 hh) hc hs
    · next r =>
      obtain ⟨L', hk, h1, h2, h3⟩ := ba_put_spec _ _ _ _ hk
      refine lv_astoreN hx hb hd  hL.2 (by rw [← hL.1]; exact h2) rfl (fun ls' hh => ?_)
      exact hC _ _ _ _ _ _ _ _ _ _ hk hR hz (hL.put h1 h3 hh) hc hs
    · exact hk.elim
  | istore_n k =>
    obtain ⟨hd, rfl⟩ := hd1 rfl
    change ba_sti _ _ _ _ _ _ _ _ at hk
    unfold ba_sti at hk
    split at hk
    · next a r =>
      obtain ⟨L', hk, h1, h2, h3⟩ := ba_put_spec _ _ _ _ hk
      refine lv_istore_n hx hb hd rfl hL.2 (by rw [← hL.1]; exact h2) rfl (fun ls' hh => ?_)
      exact hC _ _ _ _ _ _ _ _ _ _ hk hR hz (hL.put h1 h3 hh) hc hs
    · exact hk.elim
  | istore k =>
    obtain ⟨hd, rfl⟩ := hd1 rfl
    change ba_sti _ _ _ _ _ _ _ _ at hk
    unfold ba_sti at hk
    split at hk
    · next a r =>
      obtain ⟨L', hk, h1, h2, h3⟩ := ba_put_spec _ _ _ _ hk
      refine lv_istore hx hb hd  hL.2 (by rw [← hL.1]; exact h2) rfl (fun ls' hh => ?_)
      exact hC _ _ _ _ _ _ _ _ _ _ hk hR hz (hL.put h1 h3 hh) hc hs
    · exact hk.elim
  | lstore_n k =>
    obtain ⟨hd, rfl⟩ := hd1 rfl
    change ba_stl _ _ _ _ _ _ _ _ at hk
    unfold ba_stl at hk
    split at hk
    · next a r =>
      obtain ⟨L', hk, h1, h2, h3⟩ := ba_put2_spec _ _ _ _ hk
      refine lv_lstore_n hx hb hd rfl hL.2 (by rw [← hL.1]; exact h2) rfl (fun ls' hh => ?_)
      exact hC _ _ _ _ _ _ _ _ _ _ hk hR hz (hL.put2 h1 h3 hh) hc hs
    · exact hk.elim
  | lstore k =>
    obtain ⟨hd, rfl⟩ := hd1 rfl
    change ba_stl _ _ _ _ _ _ _ _ at hk
    unfold ba_stl at hk
    split at hk
    · next a r =>
      obtain ⟨L', hk, h1, h2, h3⟩ := ba_put2_spec _ _ _ _ hk
      refine lv_lstore hx hb hd  hL.2 (by rw [← hL.1]; exact h2) rfl (fun ls' hh => ?_)
      exact hC _ _ _ _ _ _ _ _ _ _ hk hR hz (hL.put2 h1 h3 hh) hc hs
    · exact hk.elim
  | iconst n =>
    obtain ⟨hd, rfl⟩ := hd1 rfl
    refine lv_iconst hx hb hd rfl ?_
    exact hC _ _ _ _ _ _ _ _ _ _ hk hR hz hL hc hs
  | bipush n =>
    obtain ⟨hd, rfl⟩ := hd1 rfl
    refine lv_bipush hx hb hd rfl ?_
    exact hC _ _ _ _ _ _ _ _ _ _ hk hR hz hL hc hs
  | sipush n =>
    obtain ⟨hd, rfl⟩ := hd1 rfl
    refine lv_sipush hx hb hd rfl ?_
    exact hC _ _ _ _ _ _ _ _ _ _ hk hR hz hL hc hs
  | lconst n =>
    obtain ⟨hd, rfl⟩ := hd1 rfl
    refine lv_lconst hx hb hd rfl ?_
    exact hC _ _ _ _ _ _ _ _ _ _ hk hR hz hL hc hs
  | ldc i =>
    obtain ⟨hd, rfl⟩ := hd1 rfl
    refine lv_ldc hx hb hown (hts _ (List.mem_filter.mpr ⟨ba_word_in hI, rfl⟩)) hd ?_
    exact hC _ _ _ _ _ _ _ _ _ _ hk hR hz hL hc hs
  | ldc_w i =>
    obtain ⟨hd, rfl⟩ := hd1 rfl
    refine lv_ldcw hx hb hown (hts _ (List.mem_filter.mpr ⟨ba_word_in hI, rfl⟩)) hd ?_
    exact hC _ _ _ _ _ _ _ _ _ _ hk hR hz hL hc hs
  | ldc2_w i =>
    obtain ⟨hd, rfl⟩ := hd1 rfl
    refine lv_ldc2 hx hb hown (hts _ (List.mem_filter.mpr ⟨ba_word_in hI, rfl⟩)) hd ?_
    exact hC _ _ _ _ _ _ _ _ _ _ hk hR hz hL hc hs
  | aconst_null =>
    obtain ⟨hd, rfl⟩ := hd1 rfl
    refine lv_null hx hb hd ?_
    exact hC _ _ _ _ _ _ _ _ _ _ hk hR hz hL hc hs
  | iadd =>
    obtain ⟨hd, rfl⟩ := hd1 rfl
    change ba_ii _ _ _ _ _ _ _ _ at hk
    unfold ba_ii at hk
    split at hk
    · refine lv_iadd hx hb hd ?_
      exact hC _ _ _ _ _ _ _ _ _ _ hk hR hz hL hc hs
    · exact hk.elim
  | isub =>
    obtain ⟨hd, rfl⟩ := hd1 rfl
    change ba_ii _ _ _ _ _ _ _ _ at hk
    unfold ba_ii at hk
    split at hk
    · refine lv_isub hx hb hd ?_
      exact hC _ _ _ _ _ _ _ _ _ _ hk hR hz hL hc hs
    · exact hk.elim
  | imul =>
    obtain ⟨hd, rfl⟩ := hd1 rfl
    change ba_ii _ _ _ _ _ _ _ _ at hk
    unfold ba_ii at hk
    split at hk
    · refine lv_imul hx hb hd ?_
      exact hC _ _ _ _ _ _ _ _ _ _ hk hR hz hL hc hs
    · exact hk.elim
  | iand =>
    obtain ⟨hd, rfl⟩ := hd1 rfl
    change ba_ii _ _ _ _ _ _ _ _ at hk
    unfold ba_ii at hk
    split at hk
    · refine lv_iand hx hb hd ?_
      exact hC _ _ _ _ _ _ _ _ _ _ hk hR hz hL hc hs
    · exact hk.elim
  | ior =>
    obtain ⟨hd, rfl⟩ := hd1 rfl
    change ba_ii _ _ _ _ _ _ _ _ at hk
    unfold ba_ii at hk
    split at hk
    · refine lv_ior hx hb hd ?_
      exact hC _ _ _ _ _ _ _ _ _ _ hk hR hz hL hc hs
    · exact hk.elim
  | ixor =>
    obtain ⟨hd, rfl⟩ := hd1 rfl
    change ba_ii _ _ _ _ _ _ _ _ at hk
    unfold ba_ii at hk
    split at hk
    · refine lv_ixor hx hb hd ?_
      exact hC _ _ _ _ _ _ _ _ _ _ hk hR hz hL hc hs
    · exact hk.elim
  | ishl =>
    obtain ⟨hd, rfl⟩ := hd1 rfl
    change ba_ii _ _ _ _ _ _ _ _ at hk
    unfold ba_ii at hk
    split at hk
    · refine lv_ishl hx hb hd ?_
      exact hC _ _ _ _ _ _ _ _ _ _ hk hR hz hL hc hs
    · exact hk.elim
  | ishr =>
    obtain ⟨hd, rfl⟩ := hd1 rfl
    change ba_ii _ _ _ _ _ _ _ _ at hk
    unfold ba_ii at hk
    split at hk
    · refine lv_ishr hx hb hd ?_
      exact hC _ _ _ _ _ _ _ _ _ _ hk hR hz hL hc hs
    · exact hk.elim
  | iushr =>
    obtain ⟨hd, rfl⟩ := hd1 rfl
    change ba_ii _ _ _ _ _ _ _ _ at hk
    unfold ba_ii at hk
    split at hk
    · refine lv_iushr hx hb hd rfl ?_
      exact hC _ _ _ _ _ _ _ _ _ _ hk hR hz hL hc hs
    · exact hk.elim
  | idiv =>
    obtain ⟨hd, rfl⟩ := hd1 rfl
    change ba_iid _ _ _ _ _ _ _ _ at hk
    unfold ba_iid at hk
    split at hk
    · refine lv_idiv hx hb hd hk.1 ?_
      exact hC _ _ _ _ _ _ _ _ _ _ hk.2 hR hz hL hc hs
    · exact hk.elim
  | irem =>
    obtain ⟨hd, rfl⟩ := hd1 rfl
    change ba_iid _ _ _ _ _ _ _ _ at hk
    unfold ba_iid at hk
    split at hk
    · refine lv_irem hx hb hd hk.1 ?_
      exact hC _ _ _ _ _ _ _ _ _ _ hk.2 hR hz hL hc hs
    · exact hk.elim
  | ladd =>
    obtain ⟨hd, rfl⟩ := hd1 rfl
    change ba_ll _ _ _ _ _ _ _ _ at hk
    unfold ba_ll at hk
    split at hk
    · refine lv_ladd hx hb hd ?_
      exact hC _ _ _ _ _ _ _ _ _ _ hk hR hz hL hc hs
    · exact hk.elim
  | lsub =>
    obtain ⟨hd, rfl⟩ := hd1 rfl
    change ba_ll _ _ _ _ _ _ _ _ at hk
    unfold ba_ll at hk
    split at hk
    · refine lv_lsub hx hb hd ?_
      exact hC _ _ _ _ _ _ _ _ _ _ hk hR hz hL hc hs
    · exact hk.elim
  | lmul =>
    obtain ⟨hd, rfl⟩ := hd1 rfl
    change ba_ll _ _ _ _ _ _ _ _ at hk
    unfold ba_ll at hk
    split at hk
    · refine lv_lmul hx hb hd ?_
      exact hC _ _ _ _ _ _ _ _ _ _ hk hR hz hL hc hs
    · exact hk.elim
  | ldiv =>
    obtain ⟨hd, rfl⟩ := hd1 rfl
    change ba_lld _ _ _ _ _ _ _ _ at hk
    unfold ba_lld at hk
    split at hk
    · refine lv_ldiv hx hb hd hk.1 ?_
      exact hC _ _ _ _ _ _ _ _ _ _ hk.2 hR hz hL hc hs
    · exact hk.elim
  | lrem =>
    obtain ⟨hd, rfl⟩ := hd1 rfl
    change ba_lld _ _ _ _ _ _ _ _ at hk
    unfold ba_lld at hk
    split at hk
    · refine lv_lrem hx hb hd hk.1 ?_
      exact hC _ _ _ _ _ _ _ _ _ _ hk.2 hR hz hL hc hs
    · exact hk.elim
  | lcmp =>
    obtain ⟨hd, rfl⟩ := hd1 rfl
    unfold ba_k at hk
    dsimp only at hk
    split at hk
    · refine W.lcmp hx hb hd ?_
      exact hC _ _ _ _ _ _ _ _ _ _ hk hR hz hL hc hs
    · exact hk.elim
  | i2l =>
    obtain ⟨hd, rfl⟩ := hd1 rfl
    change ba_i1 _ _ _ _ _ _ _ _ at hk
    unfold ba_i1 at hk
    split at hk
    · refine lv_i2l hx hb hd rfl ?_
      exact hC _ _ _ _ _ _ _ _ _ _ hk hR hz hL hc hs
    · exact hk.elim
  | i2b =>
    obtain ⟨hd, rfl⟩ := hd1 rfl
    change ba_i1 _ _ _ _ _ _ _ _ at hk
    unfold ba_i1 at hk
    split at hk
    · refine lv_i2b hx hb hd rfl ?_
      exact hC _ _ _ _ _ _ _ _ _ _ hk hR hz hL hc hs
    · exact hk.elim
  | i2s =>
    obtain ⟨hd, rfl⟩ := hd1 rfl
    change ba_i1 _ _ _ _ _ _ _ _ at hk
    unfold ba_i1 at hk
    split at hk
    · refine lv_i2s hx hb hd rfl ?_
      exact hC _ _ _ _ _ _ _ _ _ _ hk hR hz hL hc hs
    · exact hk.elim
  | l2i =>
    obtain ⟨hd, rfl⟩ := hd1 rfl
    unfold ba_k at hk
    dsimp only at hk
    split at hk
    · refine lv_l2i hx hb hd rfl ?_
      exact hC _ _ _ _ _ _ _ _ _ _ hk hR hz hL hc hs
    · exact hk.elim
  | iinc i n =>
    obtain ⟨hd, rfl⟩ := hd1 rfl
    unfold ba_k at hk
    dsimp only at hk
    split at hk
    · next x hg =>
      obtain ⟨L', hk, h1, h2, h3⟩ := ba_put_spec _ _ _ _ hk
      obtain ⟨k, hk2⟩ := List.getElem?_of_mem (ba_al_mem (b := b) (B := B) (q := (i, Value.int x)).mpr ⟨.int x, hg, rfl⟩)
      refine lv_iinc (k := k) hx hb hd hL.2 hk2 rfl (by rw [← hL.1]; exact h2) rfl (fun ls' hh => ?_)
      exact hC _ _ _ _ _ _ _ _ _ _ hk hR hz (hL.put h1 h3 hh) hc hs
    · exact hk.elim
  | dup =>
    obtain ⟨hd, rfl⟩ := hd1 rfl
    unfold ba_k at hk
    dsimp only at hk
    split at hk
    · refine lv_dup hx hb hd rfl ?_
      exact hC _ _ _ _ _ _ _ _ _ _ hk hR hz hL hc hs
    · next v r =>
      refine lv_dup hx hb hd (by rw [ba_v_cat]; rfl) ?_
      exact hC _ _ _ _ _ _ _ _ _ _ hk hR hz hL hc hs
    · exact hk.elim
  | dup2 =>
    obtain ⟨hd, rfl⟩ := hd1 rfl
    unfold ba_k at hk
    dsimp only at hk
    split at hk
    · next v u r =>
      refine lv_dup2_11 hx hb hd rfl (by rw [ba_v_cat]; rfl) ?_
      exact hC _ _ _ _ _ _ _ _ _ _ hk hR hz hL hc hs
    · refine lv_dup2_11 hx hb hd rfl rfl ?_
      exact hC _ _ _ _ _ _ _ _ _ _ hk hR hz hL hc hs
    · exact hk.elim
  | ifCond cond off =>
    obtain ⟨hd, rfl⟩ := hd1 rfl
    cases cond with
    | eq =>
      change ba_br1 _ _ _ _ _ _ _ _ _ at hk
      unfold ba_br1 at hk
      split at hk
      · exact lv_if_eq hx hb hd (of_decide_eq_true hI) (fun h => hC _ _ _ _ _ _ _ _ _ _ (hk.1 h) hR hz hL hc hs) (fun h => hC _ _ _ _ _ _ _ _ _ _ (hk.2 h) hR hz hL hc hs)
      · exact hk.elim
    | ne =>
      change ba_br1 _ _ _ _ _ _ _ _ _ at hk
      unfold ba_br1 at hk
      split at hk
      · exact lv_if_ne hx hb hd (of_decide_eq_true hI) (fun h => hC _ _ _ _ _ _ _ _ _ _ (hk.1 h) hR hz hL hc hs) (fun h => hC _ _ _ _ _ _ _ _ _ _ (hk.2 (fun q => q h)) hR hz hL hc hs)
      · exact hk.elim
    | lt =>
      change ba_br1 _ _ _ _ _ _ _ _ _ at hk
      unfold ba_br1 at hk
      split at hk
      · exact lv_if_lt hx hb hd (of_decide_eq_true hI) (fun h => hC _ _ _ _ _ _ _ _ _ _ (hk.1 h) hR hz hL hc hs) (fun h => hC _ _ _ _ _ _ _ _ _ _ (hk.2 h) hR hz hL hc hs)
      · exact hk.elim
    | ge =>
      change ba_br1 _ _ _ _ _ _ _ _ _ at hk
      unfold ba_br1 at hk
      split at hk
      · exact lv_if_ge hx hb hd (of_decide_eq_true hI) (fun h => hC _ _ _ _ _ _ _ _ _ _ (hk.1 h) hR hz hL hc hs) (fun h => hC _ _ _ _ _ _ _ _ _ _ (hk.2 h) hR hz hL hc hs)
      · exact hk.elim
    | gt =>
      change ba_br1 _ _ _ _ _ _ _ _ _ at hk
      unfold ba_br1 at hk
      split at hk
      · exact lv_if_gt hx hb hd (of_decide_eq_true hI) (fun h => hC _ _ _ _ _ _ _ _ _ _ (hk.1 h) hR hz hL hc hs) (fun h => hC _ _ _ _ _ _ _ _ _ _ (hk.2 h) hR hz hL hc hs)
      · exact hk.elim
    | le =>
      change ba_br1 _ _ _ _ _ _ _ _ _ at hk
      unfold ba_br1 at hk
      split at hk
      · exact lv_if_le hx hb hd (of_decide_eq_true hI) (fun h => hC _ _ _ _ _ _ _ _ _ _ (hk.1 h) hR hz hL hc hs) (fun h => hC _ _ _ _ _ _ _ _ _ _ (hk.2 h) hR hz hL hc hs)
      · exact hk.elim
  | if_icmp cond off =>
    obtain ⟨hd, rfl⟩ := hd1 rfl
    cases cond with
    | eq =>
      change ba_br2 _ _ _ _ _ _ _ _ _ at hk
      unfold ba_br2 at hk
      split at hk
      · exact lv_icmp_eq hx hb hd (of_decide_eq_true hI) (fun h => hC _ _ _ _ _ _ _ _ _ _ (hk.1 h) hR hz hL hc hs) (fun h => hC _ _ _ _ _ _ _ _ _ _ (hk.2 h) hR hz hL hc hs)
      · exact hk.elim
    | ne =>
      change ba_br2 _ _ _ _ _ _ _ _ _ at hk
      unfold ba_br2 at hk
      split at hk
      · exact lv_icmp_ne hx hb hd (of_decide_eq_true hI) (fun h => hC _ _ _ _ _ _ _ _ _ _ (hk.1 h) hR hz hL hc hs) (fun h => hC _ _ _ _ _ _ _ _ _ _ (hk.2 (fun q => q h)) hR hz hL hc hs)
      · exact hk.elim
    | lt =>
      change ba_br2 _ _ _ _ _ _ _ _ _ at hk
      unfold ba_br2 at hk
      split at hk
      · exact lv_icmp_lt hx hb hd (of_decide_eq_true hI) (fun h => hC _ _ _ _ _ _ _ _ _ _ (hk.1 h) hR hz hL hc hs) (fun h => hC _ _ _ _ _ _ _ _ _ _ (hk.2 h) hR hz hL hc hs)
      · exact hk.elim
    | ge =>
      change ba_br2 _ _ _ _ _ _ _ _ _ at hk
      unfold ba_br2 at hk
      split at hk
      · exact lv_icmp_ge hx hb hd (of_decide_eq_true hI) (fun h => hC _ _ _ _ _ _ _ _ _ _ (hk.1 h) hR hz hL hc hs) (fun h => hC _ _ _ _ _ _ _ _ _ _ (hk.2 h) hR hz hL hc hs)
      · exact hk.elim
    | gt =>
      change ba_br2 _ _ _ _ _ _ _ _ _ at hk
      unfold ba_br2 at hk
      split at hk
      · exact lv_icmp_gt hx hb hd (of_decide_eq_true hI) (fun h => hC _ _ _ _ _ _ _ _ _ _ (hk.1 h) hR hz hL hc hs) (fun h => hC _ _ _ _ _ _ _ _ _ _ (hk.2 h) hR hz hL hc hs)
      · exact hk.elim
    | le =>
      change ba_br2 _ _ _ _ _ _ _ _ _ at hk
      unfold ba_br2 at hk
      split at hk
      · exact lv_icmp_le hx hb hd (of_decide_eq_true hI) (fun h => hC _ _ _ _ _ _ _ _ _ _ (hk.1 h) hR hz hL hc hs) (fun h => hC _ _ _ _ _ _ _ _ _ _ (hk.2 h) hR hz hL hc hs)
      · exact hk.elim
  | ifnull off =>
    obtain ⟨hd, rfl⟩ := hd1 rfl
    unfold ba_k at hk
    dsimp only at hk
    split at hk
    · refine lv_ifnullN hx hb hd (of_decide_eq_true hI) ?_
      exact hC _ _ _ _ _ _ _ _ _ _ hk hR hz hL hc hs
    · next a r =>
      cases a with
      | zero =>
        refine lv_ifnull hx hb hd ?_
        exact hC _ _ _ _ _ _ _ _ _ _ hk hR hz hL hc hs
      | succ a =>
        refine lv_ifnull hx hb hd ?_
        exact hC _ _ _ _ _ _ _ _ _ _ hk hR hz hL hc hs
    · exact hk.elim
  | ifnonnull off =>
    obtain ⟨hd, rfl⟩ := hd1 rfl
    unfold ba_k at hk
    dsimp only at hk
    split at hk
    · refine lv_ifnonnullN hx hb hd ?_
      exact hC _ _ _ _ _ _ _ _ _ _ hk hR hz hL hc hs
    · next a r =>
      cases a with
      | zero =>
        refine lv_ifnonnull hx hb hd (of_decide_eq_true hI) ?_
        exact hC _ _ _ _ _ _ _ _ _ _ hk hR hz hL hc hs
      | succ a =>
        refine lv_ifnonnull hx hb hd (of_decide_eq_true hI) ?_
        exact hC _ _ _ _ _ _ _ _ _ _ hk hR hz hL hc hs
    · exact hk.elim
  | goto off =>
    obtain ⟨hd, rfl⟩ := hd1 rfl
    refine lv_goto hx hb hd (of_decide_eq_true hI) ?_
    exact hC _ _ _ _ _ _ _ _ _ _ hk hR hz hL hc hs
  | tableswitch d lo hi offs =>
    obtain ⟨n, hd⟩ := hd2 rfl
    have hI : (decide ((pc : Int) + d = (r2 : Int)) && (decide (offs.toList.map (fun o => (pc : Int) + o) = (ba_tg r1).map Int.ofNat) && decide (hi = lo + (offs.toList.length : Int) - 1))) = true := hI
    simp only [Bool.and_eq_true, decide_eq_true_eq] at hI
    obtain ⟨i1, i2, i3⟩ := hI
    unfold ba_k at hk
    dsimp only at hk
    split at hk
    · next x r =>
      obtain ⟨k1, k2⟩ := hk
      by_cases hout : x.toInt < lo ∨ hi < x.toInt
      · exact lv_tableOut hx hb hd hout i1 (hC _ _ _ _ _ _ _ _ _ _ (k1 hout) hR hz hL hc hs)
      · have h1 : ¬ x.toInt < lo := fun q => hout (Or.inl q)
        have h2 : ¬ hi < x.toInt := fun q => hout (Or.inr q)
        have hj : (x.toInt - lo).toNat < offs.toList.length := by omega
        have hlen : (ba_tg r1).length = offs.toList.length := by
          have := congrArg List.length i2
          simpa using this.symm
        obtain ⟨t, ht⟩ : ∃ t, (ba_tg r1)[(x.toInt - lo).toNat]? = some t := ⟨_, List.getElem?_eq_getElem (by omega)⟩
        have ho : offs[(x.toInt - lo).toNat]? = some (offs.toList[(x.toInt - lo).toNat]'hj) := by
          rw [← Array.getElem?_toList, List.getElem?_eq_getElem hj]
        have he : (pc : Int) + offs.toList[(x.toInt - lo).toNat]'hj = (t : Int) := by
          have := congrArg (fun l => l[(x.toInt - lo).toNat]?) i2
          simp only [List.getElem?_map, ht, List.getElem?_eq_getElem hj, Option.map_some] at this
          exact Option.some.inj this
        have hxj : x.toInt = lo + ((x.toInt - lo).toNat : Int) := by omega
        have g := ba_sw_at _ _ _ _ k2 ht hxj
        exact lv_tableIn hx hb hd h1 h2 ho he (hC _ _ _ _ _ _ _ _ _ _ g hR hz hL hc hs)
    · exact hk.elim
  | lookupswitch d ps =>
    obtain ⟨n, hd⟩ := hd2 rfl
    have hI : (decide ((pc : Int) + d = (r2 : Int)) && (decide (ps.toList.map (fun q => (q.1, (pc : Int) + q.2)) = (ba_lt r1).map (fun q => (q.1, Int.ofNat q.2))) && (ps.toList.zip (ps.toList.drop 1)).all (fun (a, next) => a.1 < next.1))) = true := hI
    simp only [Bool.and_eq_true] at hI
    obtain ⟨i1, i2, i3⟩ := hI
    have i1 := of_decide_eq_true i1
    have i2 := of_decide_eq_true i2
    unfold ba_k at hk
    dsimp only at hk
    split at hk
    · next x r =>
      obtain ⟨off, t, g1, g2, g3⟩ := ba_lsw_of i1 _ _ i2 hk
      exact lv_lookup hx hb hd i3 g1 g2 (hC _ _ _ _ _ _ _ _ _ _ g3 hR hz hL hc hs)
    · exact hk.elim
  | getfield i =>
    obtain ⟨hd, rfl⟩ := hd1 rfl
    unfold ba_k at hk
    dsimp only at hk
    split at hk
    · next a r =>
      obtain ⟨v, hv, hk⟩ := hk
      obtain ⟨j, fs, rfl, hw, hf⟩ := ba_fld_of hv
      obtain ⟨f1, f2, f3⟩ := ba_chkF_of hI
      refine va_get (D := (dC, dI)) (ci := r1) (v := ba_v b B v) hx hb hts (ba_clsF f1).1.1 hown hK hPw j (ba_ws_at hw) (ba_clsOf f1) r2 f2 (hts _ f3) (fun x h => ?_) (by rw [List.getElem?_map, hf]; rfl) hd ?_
      · exact (ba_sameF f1 f2).mp h
      · exact hC _ _ _ _ _ _ _ _ _ _ hk hR hz hL hc hs
    · exact hk.elim
  | putfield i =>
    obtain ⟨hd, rfl⟩ := hd1 rfl
    unfold ba_k at hk
    dsimp only at hk
    split at hk
    · next v a r =>
      obtain ⟨w', hv, hk⟩ := hk
      obtain ⟨j, fs, rfl, hw, hlt, hfv, rfl⟩ := ba_setF_of hv
      have hI2 := hI
      unfold ba_chkI at hI2
      simp only [Bool.and_eq_true] at hI2
      obtain ⟨hI2, hI3⟩ := hI2
      obtain ⟨f1, f2, f3⟩ := ba_chkF_of hI2
      obtain ⟨t1, t2⟩ := ba_fitv_of hfv b B
      have fin : ∀ (H1 : Heap) (locs1 : List Loc), va_P (dC, dI) vwCl ((ba_ws b B cA w).set j (B + j, .inr (r1, (fs.map (ba_v b B)).set r2 (ba_v b B (.int v))))) H1 → va_D (fun q => B ≤ q) ((ba_ws b B cA w).set j (B + j, .inr (r1, (fs.map (ba_v b B)).set r2 (ba_v b B (.int v))))) → va_S (fun q => B ≤ q) s.heap H1 locs1 → W p l e (ba_room M) s m args below meth c0 H1 locs1 c z Q (F0 m (pc + 3) ls (r.map (ba_v b B))) := by
        intro H1 locs1 hP1 _ hS1
        refine hC _ _ _ _ _ _ _ _ _ _ hk (hR.cell (fun ty x q => by cases q) ?_ hS1) (by rw [List.length_set]; exact hz) hL hc hs
        have : ba_ee b B cA j (.inr (r1, fs.set r2 (.int v))) = .inr (r1, (fs.map (ba_v b B)).set r2 (ba_v b B (.int v))) := by
          show Sum.inr _ = _
          rw [List.map_set]
        rw [this]
        exact hP1
      cases hfin : ((ba_cls r1).2.1 r2).2.2.2 with
      | false =>
        exact va_put (D := (dC, dI)) (ci := r1) (v := ba_v b B (.int v)) hx hb hts (ba_clsF f1).1.1 (ba_ty r1) (ba_clsF f1).1.2 (ba_clsF f1).2.1 hown hK hPw hD hSw j (ba_ws_at hw) (ba_clsOf f1) r2 f2 (hts _ f3) (fun x h => (ba_sameF f1 f2).mp h) hfin ((ba_clsF f1).1.2 r2 f2) t1 t2 (by rw [List.length_map]; exact hlt) hd fin
      | true =>
        rw [hfin] at hI3
        simp only [Bool.or_eq_true, Bool.and_eq_true] at hI3
        rcases hI3 with q | ⟨q1, q2⟩
        · exact absurd (of_decide_eq_true q) (by decide)
        · exact va_putF (D := (dC, dI)) (ci := r1) (v := ba_v b B (.int v)) hx hb hts (ba_clsF f1).1.1 (ba_ty r1) (ba_clsF f1).1.2 (ba_clsF f1).2.1 hown hK hPw hD hSw j (ba_ws_at hw) (ba_clsOf f1) r2 f2 (hts _ f3) (fun x h => (ba_sameF f1 f2).mp h) hfin (hnm (Nat.eq_of_beq_eq_true q1)) (of_decide_eq_true q2) ((ba_clsF f1).1.2 r2 f2) t1 t2 (by rw [List.length_map]; exact hlt) hd fin
    · next v a r =>
      obtain ⟨w', hv, hk⟩ := hk
      obtain ⟨j, fs, rfl, hw, hlt, hfv, rfl⟩ := ba_setF_of hv
      have hI2 := hI
      unfold ba_chkI at hI2
      simp only [Bool.and_eq_true] at hI2
      obtain ⟨hI2, hI3⟩ := hI2
      obtain ⟨f1, f2, f3⟩ := ba_chkF_of hI2
      obtain ⟨t1, t2⟩ := ba_fitv_of hfv b B
      have fin : ∀ (H1 : Heap) (locs1 : List Loc), va_P (dC, dI) vwCl ((ba_ws b B cA w).set j (B + j, .inr (r1, (fs.map (ba_v b B)).set r2 (ba_v b B (.ref v))))) H1 → va_D (fun q => B ≤ q) ((ba_ws b B cA w).set j (B + j, .inr (r1, (fs.map (ba_v b B)).set r2 (ba_v b B (.ref v))))) → va_S (fun q => B ≤ q) s.heap H1 locs1 → W p l e (ba_room M) s m args below meth c0 H1 locs1 c z Q (F0 m (pc + 3) ls (r.map (ba_v b B))) := by
        intro H1 locs1 hP1 _ hS1
        refine hC _ _ _ _ _ _ _ _ _ _ hk (hR.cell (fun ty x q => by cases q) ?_ hS1) (by rw [List.length_set]; exact hz) hL hc hs
        have : ba_ee b B cA j (.inr (r1, fs.set r2 (.ref v))) = .inr (r1, (fs.map (ba_v b B)).set r2 (ba_v b B (.ref v))) := by
          show Sum.inr _ = _
          rw [List.map_set]
        rw [this]
        exact hP1
      cases hfin : ((ba_cls r1).2.1 r2).2.2.2 with
      | false =>
        exact va_put (D := (dC, dI)) (ci := r1) (v := ba_v b B (.ref v)) hx hb hts (ba_clsF f1).1.1 (ba_ty r1) (ba_clsF f1).1.2 (ba_clsF f1).2.1 hown hK hPw hD hSw j (ba_ws_at hw) (ba_clsOf f1) r2 f2 (hts _ f3) (fun x h => (ba_sameF f1 f2).mp h) hfin ((ba_clsF f1).1.2 r2 f2) t1 t2 (by rw [List.length_map]; exact hlt) hd fin
      | true =>
        rw [hfin] at hI3
        simp only [Bool.or_eq_true, Bool.and_eq_true] at hI3
        rcases hI3 with q | ⟨q1, q2⟩
        · exact absurd (of_decide_eq_true q) (by decide)
        · exact va_putF (D := (dC, dI)) (ci := r1) (v := ba_v b B (.ref v)) hx hb hts (ba_clsF f1).1.1 (ba_ty r1) (ba_clsF f1).1.2 (ba_clsF f1).2.1 hown hK hPw hD hSw j (ba_ws_at hw) (ba_clsOf f1) r2 f2 (hts _ f3) (fun x h => (ba_sameF f1 f2).mp h) hfin (hnm (Nat.eq_of_beq_eq_true q1)) (of_decide_eq_true q2) ((ba_clsF f1).1.2 r2 f2) t1 t2 (by rw [List.length_map]; exact hlt) hd fin
    · exact hk.elim
  | iaload =>
    obtain ⟨hd, rfl⟩ := hd1 rfl
    unfold ba_k at hk
    dsimp only at hk
    split at hk
    · next i a r =>
      obtain ⟨x, hv, hk⟩ := hk
      rcases ba_ldI_of hv with ⟨sc, rfl, hxs, ha⟩ | ⟨j, l', rfl, hw, ha⟩
      · obtain ⟨g1, g2⟩ := ba_at_of ha
        obtain ⟨hX, hbB⟩ := hscr sc (ba_xs_of hxs)
        refine va_sld hx hb hX (Nat.lt_of_lt_of_le hbB hB) (Nat.not_le.mpr hbB) hSw g1 hd ?_
        have e : sc.getD i.toNatClampNeg 0 = x := by rw [List.getD_eq_getElem?_getD, g2]; rfl
        rw [e]
        exact hC _ _ _ _ _ _ _ _ _ _ hk hR hz hL hc hs
      · obtain ⟨g1, g2⟩ := ba_at_of ha
        refine va_iald (D := (dC, dI)) hx hb (hKt j _ _ hw) hPw j 0 (ba_ws_at hw) rfl g1 hd ?_
        have e : l'.getD i.toNatClampNeg 0 = x := by rw [List.getD_eq_getElem?_getD, g2]; rfl
        rw [e]
        exact hC _ _ _ _ _ _ _ _ _ _ hk hR hz hL hc hs
    · exact hk.elim
  | laload =>
    obtain ⟨hd, rfl⟩ := hd1 rfl
    unfold ba_k at hk
    dsimp only at hk
    split at hk
    · next i a r =>
      obtain ⟨x, hv, hk⟩ := hk
      obtain ⟨j, l', rfl, hw, ha⟩ := ba_ldJ_of hv
      obtain ⟨g1, g2⟩ := ba_at_of ha
      refine va_lald (D := (dC, dI)) hx hb (hKt j _ _ hw) hPw j 0 (ba_ws_at hw) rfl g1 hd ?_
      have e : l'.getD i.toNatClampNeg 0 = x := by rw [List.getD_eq_getElem?_getD, g2]; rfl
      rw [e]
      exact hC _ _ _ _ _ _ _ _ _ _ hk hR hz hL hc hs
    · exact hk.elim
  | aaload =>
    obtain ⟨hd, rfl⟩ := hd1 rfl
    unfold ba_k at hk
    dsimp only at hk
    split at hk
    · next i a r =>
      obtain ⟨v, hv, hk⟩ := hk
      obtain ⟨j, C, l', o, rfl, hw, ha, rfl⟩ := ba_ldR_of hv
      obtain ⟨g1, g2⟩ := ba_at_of ha
      refine va_aldq (D := (dC, dI)) hx hb (hKt j _ _ hw) hPw j 0 (ba_ws_at hw) rfl g1 hd ?_
      have e : va_rf ((l'.getD i.toNatClampNeg none).map (fun i => B + i)) = ba_v b B (ba_rf o) := by
        rw [List.getD_eq_getElem?_getD, g2]
        cases o <;> rfl
      rw [e]
      exact hC _ _ _ _ _ _ _ _ _ _ hk hR hz hL hc hs
    · exact hk.elim
  | iastore =>
    obtain ⟨hd, rfl⟩ := hd1 rfl
    unfold ba_k at hk
    dsimp only at hk
    split at hk
    · next x i a r =>
      obtain ⟨w', hv, hk⟩ := hk
      obtain ⟨j, l', rfl, hw, g1, g2, rfl⟩ := ba_stI_of hv
      refine va_iast (D := (dC, dI)) hx hb (hKt j _ _ hw) hPw hD hSw j 0 (ba_ws_at hw) rfl g1 hd (fun H1 locs1 hP1 _ hS1 => ?_)
      refine hC _ _ _ _ _ _ _ _ _ _ hk (hR.cell (fun ty y q => by cases q; exact ⟨_, hw⟩) ?_ hS1) (by rw [List.length_set]; exact hz) hL hc hs
      have e : ba_ee b B cA j (.inl (.int, .inl (l'.set i.toNatClampNeg x))) = .inl (cA j, l'.length, .inl (upd (fun j => l'.getD j 0) i.toNatClampNeg x)) := by
        show Sum.inl (_, (l'.set _ _).length, _) = _
        rw [List.length_set, ba_set_upd _ _ _ g2]
      rw [e]
      exact hP1
    · exact hk.elim
  | lastore =>
    obtain ⟨hd, rfl⟩ := hd1 rfl
    unfold ba_k at hk
    dsimp only at hk
    split at hk
    · next x i a r =>
      obtain ⟨w', hv, hk⟩ := hk
      obtain ⟨j, l', rfl, hw, g1, g2, rfl⟩ := ba_stJ_of hv
      refine va_last (D := (dC, dI)) hx hb (hKt j _ _ hw) hPw hD hSw j 0 (ba_ws_at hw) rfl g1 hd (fun H1 locs1 hP1 _ hS1 => ?_)
      refine hC _ _ _ _ _ _ _ _ _ _ hk (hR.cell (fun ty y q => by cases q; exact ⟨_, hw⟩) ?_ hS1) (by rw [List.length_set]; exact hz) hL hc hs
      have e : ba_ee b B cA j (.inl (.long, .inr (.inl (l'.set i.toNatClampNeg x)))) = .inl (cA j, l'.length, .inr (.inl (vp_updL (fun j => l'.getD j 0) i.toNatClampNeg x))) := by
        show Sum.inl (_, (l'.set _ _).length, _) = _
        rw [List.length_set, ba_set_updL _ _ _ g2]
      rw [e]
      exact hP1
    · exact hk.elim
  | aastore =>
    obtain ⟨hd, rfl⟩ := hd1 rfl
    unfold ba_k at hk
    dsimp only at hk
    split at hk
    · next bv i a r =>
      obtain ⟨w', hv, hk⟩ := hk
      obtain ⟨j, o, C, l', ci, fs, rr, rfl, rfl, hw, hw2, hcl, rfl, g1, g2, rfl⟩ := ba_stR_of hv
      refine va_astq (D := (dC, dI)) hx hb (hKt j _ _ hw) hPw hD hSw j 0 o ci (ba_ws_at hw) rfl (ba_ws_at hw2) hcl g1 hd (fun H1 locs1 hP1 _ hS1 => ?_)
      refine hC _ _ _ _ _ _ _ _ _ _ hk (hR.cell (fun ty y q => by cases q; exact ⟨_, hw⟩) ?_ hS1) (by rw [List.length_set]; exact hz) hL hc hs
      have e : ba_ee b B cA j (.inl (.object rr.1, .inr (.inr (l'.set i.toNatClampNeg (some o))))) = .inl (cA j, l'.length, .inr (.inr (.inr (.inr (va_up (fun j => (l'.getD j none).map (fun i => B + i)) i.toNatClampNeg (some (B + o))))))) := by
        show Sum.inl (_, (l'.set _ _).length, _) = _
        rw [List.length_set, ba_set_upR _ _ _ _ g2]
      rw [e]
      exact hP1
    · exact hk.elim
  | arraylength =>
    obtain ⟨hd, rfl⟩ := hd1 rfl
    unfold ba_k at hk
    dsimp only at hk
    split at hk
    · next a r =>
      obtain ⟨n, hv, hk⟩ := hk
      rcases ba_len_of hv with ⟨sc, rfl, hxs, rfl⟩ | ⟨j, ty, A, rfl, hw, hn⟩
      · obtain ⟨hX, hbB⟩ := hscr sc (ba_xs_of hxs)
        refine va_slen hx hb hX (Nat.lt_of_lt_of_le hbB hB) (Nat.not_le.mpr hbB) hSw hd ?_
        exact hC _ _ _ _ _ _ _ _ _ _ hk hR hz hL hc hs
      · refine va_alen (D := (dC, dI)) hx hb (hKt j _ _ hw) hPw j 0 (ba_ws_at hw) rfl (hn B).symm hd ?_
        exact hC _ _ _ _ _ _ _ _ _ _ hk hR hz hL hc hs
    · exact hk.elim
  | newarray t =>
    obtain ⟨hd, rfl⟩ := hd1 rfl
    cases t with
    | int =>
      unfold ba_k at hk
      dsimp only at hk
      split at hk
      · next n r =>
        obtain ⟨hbl, hk⟩ := hk
        simp only [Bool.and_eq_true] at hbl
        obtain ⟨hb1, hb2, hb3, hb4⟩ := hbl
        have hw0 := ba_word_in hI
        refine va_newa (D := (dC, dI)) (atype := .int) (tys := []) (a0 := (n.toNatClampNeg, .inl (fun _ => 0))) (N' := n.toNatClampNeg) hx hb (hts _ (List.mem_filter.mpr ⟨hw0, rfl⟩)) (ty := .int) rfl hK hPw hD hSw hA (fun _ => rfl) (of_decide_eq_true hb1) rfl (Nat.le_of_ble_eq_true hb2) (Nat.le_of_ble_eq_true hb3) (Nat.le_of_ble_eq_true hb4) hd (fun q cN H1 hK1 hP1 hD1 hS1 => ?_)
        refine ba_W_sized (fun hs1 => ?_)
        have hq := ba_newq hP1 hR.1 hD1 hz hB hs1
        subst hq
        have e := ba_ws_app b B cA w cN (.inl (.int, .inl (List.replicate n.toNatClampNeg 0))) (.inl (cN, (n.toNatClampNeg, .inl (fun _ => 0)))) (Eq.symm (by first | exact ba_eeI _ _ _ _ _ _ _ | exact ba_eeL _ _ _ _ _ _ _))
        rw [e] at hP1
        refine hC _ _ _ _ _ _ (fun j => if j = w.length then cN else cA j) _ _ _ hk ⟨hP1, hS1, fun k ty x hx2 => ?_⟩ (by rw [List.length_append]; simp; omega) hL (Nat.le_of_ble_eq_true hb3) (Nat.le_of_ble_eq_true hb4)
        exact ba_newty hR.2.2 (hK1.2 0 _ rfl) hx2
      · exact hk.elim
    | long =>
      unfold ba_k at hk
      dsimp only at hk
      split at hk
      · next n r =>
        obtain ⟨hbl, hk⟩ := hk
        simp only [Bool.and_eq_true] at hbl
        obtain ⟨hb1, hb2, hb3, hb4⟩ := hbl
        have hw0 := ba_word_in hI
        refine va_newa (D := (dC, dI)) (atype := .long) (tys := []) (a0 := (n.toNatClampNeg, .inr (.inl (fun _ => 0)))) (N' := n.toNatClampNeg) hx hb (hts _ (List.mem_filter.mpr ⟨hw0, rfl⟩)) (ty := .long) rfl hK hPw hD hSw hA (fun _ => rfl) (of_decide_eq_true hb1) rfl (Nat.le_of_ble_eq_true hb2) (Nat.le_of_ble_eq_true hb3) (Nat.le_of_ble_eq_true hb4) hd (fun q cN H1 hK1 hP1 hD1 hS1 => ?_)
        refine ba_W_sized (fun hs1 => ?_)
        have hq := ba_newq hP1 hR.1 hD1 hz hB hs1
        subst hq
        have e := ba_ws_app b B cA w cN (.inl (.long, .inr (.inl (List.replicate n.toNatClampNeg 0)))) (.inl (cN, (n.toNatClampNeg, .inr (.inl (fun _ => 0))))) (Eq.symm (by first | exact ba_eeI _ _ _ _ _ _ _ | exact ba_eeL _ _ _ _ _ _ _))
        rw [e] at hP1
        refine hC _ _ _ _ _ _ (fun j => if j = w.length then cN else cA j) _ _ _ hk ⟨hP1, hS1, fun k ty x hx2 => ?_⟩ (by rw [List.length_append]; simp; omega) hL (Nat.le_of_ble_eq_true hb3) (Nat.le_of_ble_eq_true hb4)
        exact ba_newty hR.2.2 (hK1.2 0 _ rfl) hx2
      · exact hk.elim
    | _ => exact hk.elim
  | anewarray i =>
    obtain ⟨hd, rfl⟩ := hd1 rfl
    unfold ba_k at hk
    dsimp only at hk
    split at hk
    · next n r =>
      obtain ⟨hbl, hk⟩ := hk
      simp only [Bool.and_eq_true] at hbl
      obtain ⟨hb1, hb2, hb3, hb4⟩ := hbl
      unfold ba_chkI at hI
      simp only [Bool.and_eq_true] at hI
      have hw0 := ba_word_in hI.1
      have hw1 := ba_word_in hI.2
      refine va_newq (D := (dC, dI)) (C := ba_nm r1) (tys := []) (N' := n.toNatClampNeg) hx hb hown (hts _ (List.mem_filter.mpr ⟨hw0, rfl⟩)) (va_AO.of (hts _ (List.mem_filter.mpr ⟨hw1, rfl⟩))) hK hPw hD hSw hA (of_decide_eq_true hb1) rfl (Nat.le_of_ble_eq_true hb2) (Nat.le_of_ble_eq_true hb3) (Nat.le_of_ble_eq_true hb4) hd (fun q cN H1 hK1 hP1 hD1 hS1 => ?_)
      refine ba_W_sized (fun hs1 => ?_)
      have hq := ba_newq hP1 hR.1 hD1 hz hB hs1
      subst hq
      have e := ba_ws_app b B cA w cN (.inl (.object (ba_nm r1), .inr (.inr (List.replicate n.toNatClampNeg none)))) (.inl (cN, n.toNatClampNeg, .inr (.inr (.inr (.inr (fun _ => none)))))) (Eq.symm (ba_eeR _ _ _ _ _ _ _))
      rw [e] at hP1
      refine hC _ _ _ _ _ _ (fun j => if j = w.length then cN else cA j) _ _ _ hk ⟨hP1, hS1, fun k ty x hx2 => ?_⟩ (by rw [List.length_append]; simp; omega) hL (Nat.le_of_ble_eq_true hb3) (Nat.le_of_ble_eq_true hb4)
      exact ba_newty hR.2.2 (hK1.2 0 _ rfl) hx2
    · exact hk.elim
  | new i =>
    obtain ⟨hd, rfl⟩ := hd1 rfl
    unfold ba_k at hk
    dsimp only at hk
    obtain ⟨hbl, hk⟩ := hk
    simp only [Bool.and_eq_true] at hbl
    obtain ⟨hb3, hb4⟩ := hbl
    unfold ba_chkI at hI
    simp only [Bool.and_eq_true] at hI
    obtain ⟨f1, hI⟩ := hI
    have hw0 := ba_word_in hI
    obtain ⟨⟨k1, k2⟩, k3, k4, k5, k6, k7⟩ := ba_clsF f1
    rw [k5] at hb4
    refine va_new (D := (dC, dI)) (ci := r1) (fs := (ba_df r1)) hx hb hts k1 (ba_ty r1) k2 hown (hts _ (List.mem_filter.mpr ⟨hw0, rfl⟩)) (hts _ k6) (hts _ k7) hK hPw hD hSw hA (ba_clsOf f1) k4 (Nat.le_of_ble_eq_true hb3) (Nat.le_of_ble_eq_true hb4) hd (fun q H1 hP1 hD1 hS1 => ?_)
    refine ba_W_sized (fun hs1 => ?_)
    have hq := ba_newq hP1 hR.1 hD1 hz hB hs1
    subst hq
    have e := ba_ws_app b B cA w 0 (.inr (r1, ba_df r1)) (.inr (r1, ba_df r1)) (by show _ = Sum.inr (r1, (ba_df r1).map (ba_v b B)); rw [ba_dfv f1])
    rw [e] at hP1
    rw [k5] at hk
    refine hC _ _ _ _ _ _ (fun j => if j = w.length then 0 else cA j) _ _ _ hk ⟨hP1, hS1, fun k ty x hx2 => ?_⟩ (by rw [List.length_append]; simp; omega) hL (Nat.le_of_ble_eq_true hb3) (Nat.le_of_ble_eq_true hb4)
    exact ba_newty2 hR.2.2 hx2
  | invokevirtual i =>
    obtain ⟨hd, rfl⟩ := hd1 rfl
    unfold ba_chkI at hI
    simp only [Bool.and_eq_true] at hI
    obtain ⟨i1, i2, i3⟩ := hI
    exact ba_call_sim C0 hC (hall r1) i1 i2 (Or.inr (Or.inl ⟨Nat.eq_of_beq_eq_true i3, rfl⟩)) hd rfl hk hR hz hL
  | invokespecial i =>
    obtain ⟨hd, rfl⟩ := hd1 rfl
    unfold ba_chkI at hI
    dsimp only at hI
    unfold ba_k at hk
    dsimp only at hk
    by_cases h1 : r1 = 9998
    · subst h1
      rw [if_pos rfl] at hk
      have hI : (ba_word pl (.methodLink (ba_own M) i Lib.objectInit) && (Nat.ble 1 (ba_fr M) && Nat.ble 12 (ba_lo M))) = true := hI
      simp only [Bool.and_eq_true] at hI
      obtain ⟨i1, i2, i3⟩ := hI
      split at hk
      · next o =>
        refine W.objInit hx hb hown (hts _ (List.mem_filter.mpr ⟨ba_word_in i1, rfl⟩)) (hts _ (List.mem_filter.mpr ⟨ba_w_oI, rfl⟩)) (hts _ (List.mem_filter.mpr ⟨ba_w_oC, rfl⟩)) (g := F0 m pc ls _) rfl (hL.2.1.trans hml.symm) (rest := []) rfl hd (Nat.le_of_ble_eq_true i2) (Nat.le_of_ble_eq_true i3) ?_
        exact hC _ _ _ _ _ _ _ _ _ _ hk hR hz hL hc hs
      · exact hk.elim
    · rw [if_neg h1] at hk
      have e : Nat.beq r1 9998 = false := by
        cases h : Nat.beq r1 9998 with
        | false => rfl
        | true => exact absurd (Nat.eq_of_beq_eq_true h) h1
      rw [e] at hI
      simp only [cond_false, Bool.and_eq_true] at hI
      obtain ⟨i1, i2, i3⟩ := hI
      exact ba_call_sim C0 hC (hall r1) i1 i2 (Or.inr (Or.inr ⟨Nat.eq_of_beq_eq_true i3, rfl⟩)) hd rfl hk hR hz hL
  | invokestatic i =>
    obtain ⟨hd, rfl⟩ := hd1 rfl
    unfold ba_chkI at hI
    dsimp only at hI
    unfold ba_k at hk
    dsimp only at hk
    have nb : ∀ k : Nat, ¬ r1 = k → Nat.beq r1 k = false := fun k hn => by
      cases h : Nat.beq r1 k with
      | false => rfl
      | true => exact absurd (Nat.eq_of_beq_eq_true h) hn
    by_cases h7 : r1 = 9997
    · subst h7
      simp only [if_true, Nat.reduceEqDiff, if_false] at hk
      have hI : (ba_word pl (.methodLink (ba_own M) i Lib.Math.max.name) && (Nat.ble 1 (ba_fr M) && Nat.ble 21 (ba_lo M))) = true := hI
      simp only [Bool.and_eq_true] at hI
      obtain ⟨i1, i2, i3⟩ := hI
      split at hk
      · next y x r =>
        obtain ⟨hcat, hk⟩ := hk
        refine va_mmax hx hb (by rw [hml, hL.2.1]) hown (hts _ (List.mem_filter.mpr ⟨ba_word_in i1, rfl⟩)) (hts _ (List.mem_filter.mpr ⟨ba_w_mxS, rfl⟩)) (hts _ (List.mem_filter.mpr ⟨ba_w_mI, rfl⟩)) (hts _ (List.mem_filter.mpr ⟨ba_w_mxC, rfl⟩)) (Nat.le_of_ble_eq_true i2) (by rw [ba_cats]; exact Nat.le_trans (Nat.add_le_add_right (Nat.le_of_ble_eq_true hcat) 13) (Nat.le_of_ble_eq_true i3)) hc hs hd ?_
        exact hC _ _ _ _ _ _ _ _ _ _ hk hR hz hL hc hs
      · exact hk.elim
    by_cases h6 : r1 = 9996
    · subst h6
      simp only [if_true, Nat.reduceEqDiff, if_false] at hk
      have hI : (ba_word pl (.methodLink (ba_own M) i Lib.Math.min.name) && (Nat.ble 1 (ba_fr M) && Nat.ble 21 (ba_lo M))) = true := hI
      simp only [Bool.and_eq_true] at hI
      obtain ⟨i1, i2, i3⟩ := hI
      split at hk
      · next y x r =>
        obtain ⟨hcat, hk⟩ := hk
        refine va_mmin hx hb (by rw [hml, hL.2.1]) hown (hts _ (List.mem_filter.mpr ⟨ba_word_in i1, rfl⟩)) (hts _ (List.mem_filter.mpr ⟨ba_w_miS, rfl⟩)) (hts _ (List.mem_filter.mpr ⟨ba_w_mI, rfl⟩)) (hts _ (List.mem_filter.mpr ⟨ba_w_miC, rfl⟩)) (Nat.le_of_ble_eq_true i2) (by rw [ba_cats]; exact Nat.le_trans (Nat.add_le_add_right (Nat.le_of_ble_eq_true hcat) 13) (Nat.le_of_ble_eq_true i3)) hc hs hd ?_
        exact hC _ _ _ _ _ _ _ _ _ _ hk hR hz hL hc hs
      · exact hk.elim
    by_cases h9 : r1 = 9999
    · subst h9
      simp only [if_true, Nat.reduceEqDiff, if_false] at hk
      have hI : (ba_word pl (.methodLink (ba_own M) i arraycopyName) && (Nat.ble 1 (ba_fr M) && Nat.ble (nativeFrameWords "java/lang/System" "arraycopy" 5 + 11) (ba_lo M))) = true := hI
      simp only [Bool.and_eq_true] at hI
      obtain ⟨i1, i2, i3⟩ := hI
      split at hk
      · next n dp a sp a0 =>
        obtain ⟨w', hv, hk⟩ := hk
        obtain ⟨j0, j1, f, g, rfl, rfl, hw0, hw1, ⟨g1, g2, g3, g4, g5⟩, rfl⟩ := ba_copy_of hv
        have hKt2 : va_K (dC, dI) vwCl [(cA j0, .int), (cA j1, .int)] s := ⟨hK.1, fun k q hq => by
          match k, hq with
          | 0, hq => cases hq; exact hR.2.2 j0 _ _ hw0
          | 1, hq => cases hq; exact hR.2.2 j1 _ _ hw1
          | k + 2, hq => cases hq⟩
        refine va_copyi (D := (dC, dI)) (ty := .int) hx hb (by rw [hml, hL.2.1]) hown (hts _ (List.mem_filter.mpr ⟨ba_word_in i1, rfl⟩)) (hts _ (List.mem_filter.mpr ⟨ba_w_aN, rfl⟩)) (hts _ (List.mem_filter.mpr ⟨ba_w_aS, rfl⟩)) (hts _ (List.mem_filter.mpr ⟨ba_w_aI, rfl⟩)) hKt2 hPw hD hSw j0 j1 0 1 (ba_ws_at hw0) (ba_ws_at hw1) rfl rfl rfl g1 g2 g3 g4 g5 (fun _ _ => rfl) (Nat.le_of_ble_eq_true i2) (by show 0 + _ ≤ _; rw [Nat.zero_add]; exact Nat.le_of_ble_eq_true i3) hd (fun H1 locs1 hP1 _ hS1 => ?_)
        refine hC _ _ _ _ _ _ _ _ _ _ hk (hR.cell (fun ty y q => by cases q; exact ⟨_, hw1⟩) ?_ hS1) (by rw [List.length_set]; exact hz) hL hc hs
        have e : ba_ee b B cA j1 (.inl (.int, .inl (ba_cpy f g sp.toNatClampNeg dp.toNatClampNeg n.toNatClampNeg))) = .inl (cA j1, g.length, .inl (va_cpy (fun j => f.getD j 0) (fun j => g.getD j 0) sp.toNatClampNeg dp.toNatClampNeg n.toNatClampNeg)) := by
          show Sum.inl (_, (ba_cpy _ _ _ _ _).length, _) = _
          rw [ba_cpy_len _ _ _ _ _ g4 g5, ba_cpy_get _ _ _ _ _ g4 g5]
        rw [e]
        exact hP1
      · exact hk.elim
    · rw [if_neg h7, if_neg h6, if_neg h9] at hk
      rw [nb _ h7, nb _ h6, nb _ h9] at hI
      simp only [cond_false, Bool.and_eq_true] at hI
      obtain ⟨i1, i2, i3⟩ := hI
      exact ba_call_sim C0 hC (hall r1) i1 i2 (Or.inl ⟨Nat.eq_of_beq_eq_true i3, rfl⟩) hd rfl hk hR hz hL
  | ireturn =>
    obtain ⟨hd, rfl⟩ := hd1 rfl
    have he : (Nat.beq (ba_kind M) 3 || Nat.beq c (ba_ce M)) = true → (ba_kind M = 3 ∨ c = ba_ce M) := fun h => by
      rw [Bool.or_eq_true] at h
      exact h.imp Nat.eq_of_beq_eq_true Nat.eq_of_beq_eq_true
    unfold ba_k at hk
    dsimp only at hk
    split at hk
    · next v h1 h2 => exact hE _ _ _ _ _ _ _ _ _ hk hR hz hc hs ⟨hd, ⟨_, h2, rfl⟩, he h1⟩
    · next v h1 h2 => exact hE _ _ _ _ _ _ _ _ _ hk.2 hR hz hc hs ⟨hd, ⟨_, h2, by show Value.int _ = _; rw [hk.1]⟩, he h1⟩
    · exact hk.elim
  | lreturn =>
    obtain ⟨hd, rfl⟩ := hd1 rfl
    have he : (Nat.beq (ba_kind M) 3 || Nat.beq c (ba_ce M)) = true → (ba_kind M = 3 ∨ c = ba_ce M) := fun h => by
      rw [Bool.or_eq_true] at h
      exact h.imp Nat.eq_of_beq_eq_true Nat.eq_of_beq_eq_true
    unfold ba_k at hk
    dsimp only at hk
    split at hk
    · next v h1 h2 => exact hE _ _ _ _ _ _ _ _ _ hk hR hz hc hs ⟨hd, h2, he h1⟩
    · exact hk.elim
  | areturn =>
    obtain ⟨hd, rfl⟩ := hd1 rfl
    have he : (Nat.beq (ba_kind M) 3 || Nat.beq c (ba_ce M)) = true → (ba_kind M = 3 ∨ c = ba_ce M) := fun h => by
      rw [Bool.or_eq_true] at h
      exact h.imp Nat.eq_of_beq_eq_true Nat.eq_of_beq_eq_true
    unfold ba_k at hk
    dsimp only at hk
    split at hk
    · next v _ h1 h2 => exact hE _ _ _ _ _ _ _ _ _ hk hR hz hc hs ⟨hd, ⟨_, h2⟩, he h1⟩
    · next _ h1 h2 => exact hE _ _ _ _ _ _ _ _ _ hk hR hz hc hs ⟨hd, ⟨_, h2⟩, he h1⟩
    · exact hk.elim
  | return_ =>
    obtain ⟨hd, rfl⟩ := hd1 rfl
    have he : (Nat.beq (ba_kind M) 3 || Nat.beq c (ba_ce M)) = true → (ba_kind M = 3 ∨ c = ba_ce M) := fun h => by
      rw [Bool.or_eq_true] at h
      exact h.imp Nat.eq_of_beq_eq_true Nat.eq_of_beq_eq_true
    unfold ba_k at hk
    dsimp only at hk
    split at hk
    · next h1 h2 => exact hE _ _ _ _ _ _ _ _ _ hk hR hz hc hs ⟨hd, h2, he h1⟩
    · exact hk.elim
  | _ => exact hk.elim
end BAS
