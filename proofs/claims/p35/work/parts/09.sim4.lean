/-! the pure machine stands for the real one: a call, a row -/
theorem ba_pop_of : ∀ (n : Nat) (st acc : List Value) (k : List Value → List Value → Prop), ba_pop n st acc k → ∃ As r, k As r ∧ st = ((As.take n).reverse) ++ r ∧ As.length = n + acc.length ∧ As.drop n = acc
  | 0, st, acc, k, h => ⟨acc, st, h, by simp, by simp, by simp⟩
  | n + 1, [], acc, k, h => h.elim
  | n + 1, v :: st, acc, k, h => by
    obtain ⟨As, r, h1, h2, h3, h4⟩ := ba_pop_of n st (v :: acc) k h
    have hl : n < As.length := by rw [h3]; simp
    refine ⟨As, r, h1, ?_, by rw [h3]; simp; omega, ?_⟩
    · rw [List.take_succ, List.reverse_append, h2]
      have : As[n]? = some v := by
        have := congrArg List.head? h4
        rw [List.head?_drop] at this
        exact this
      rw [this]
      simp
    · rw [← List.drop_drop, h4]; rfl
theorem ba_pop0 {n : Nat} {st : List Value} {k : List Value → List Value → Prop} (h : ba_pop n st [] k) : ∃ As r, k As r ∧ st = As.reverse ++ r ∧ As.length = n := by
  obtain ⟨As, r, h1, h2, h3, -⟩ := ba_pop_of n st [] k h
  have h3 : As.length = n := by simpa using h3
  exact ⟨As, r, h1, by rw [h2, List.take_of_length_le (by omega)], h3⟩
theorem ba_cats (b B : Nat) (r : List Value) : ((r.map (ba_v b B)).map fun v => v.category) = r.map fun v => v.category := by
  rw [List.map_map]
  exact List.map_congr_left fun v _ => ba_v_cat b B v
theorem ba_heap {dC : Nat → ClassId} {dI : Nat → Nat → Nat} {b B : Nat} {cA : Nat → ClassId} {s : State} {H : Heap} {locs : List Loc} {w : ba_W} {c : Nat} (hR : ba_Rel dC dI b B cA s H locs w) (hz : s.heap.size + c = B + w.length) (hB : B ≤ s.heap.size) (h : H.size ≤ s.heap.size + c) : H.size = B + w.length := by
  have h2 : B + w.length ≤ H.size := by
    rcases Nat.eq_zero_or_pos w.length with q | q
    · rw [q]; exact Nat.le_trans hB hR.2.1.1
    · have hk : w.length - 1 < w.length := by omega
      have := (hR.1 (w.length - 1) _ (ba_ws_at (List.getElem?_eq_getElem hk))).lt
      have : B + (w.length - 1) < H.size := this
      omega
  omega
section BAC
variable {p : Program} {l : Launch} {e : Env} {s : State} {m : MethodId} {args : Array Value} {below : List Frame} {meth : Method} {c0 : Code} {Q : State → Prop} {M : ba_M} {dC : Nat → ClassId} {dI : Nat → Nat → Nat} {b B : Nat} {xs scr : Option (List Int32)}
theorem ba_pres {w : ba_W} {cA : Nat → ClassId} {H : Heap} {locs : List Loc} {c : Nat} (C0 : ba_Ctx p s m args meth c0 M dC dI b B xs) (hR : ba_Rel dC dI b B cA s H locs w) (hs : H.size = B + w.length) : ∀ U : State, U.heap = H → s.WarmedH U.vm → ba_Pre xs dC dI b B cA w U := by
  obtain ⟨hx, hb, hml, hown, hnm, hts, hK, hB, hscr⟩ := C0
  intro U hU hW
  exact ⟨by rw [hU]; exact hs, by rw [hU]; exact hR.1, va_K.moved hW.alike hK, fun k ty x h => ⟨arrOfT_moved hW.alike (hR.2.2 k ty x h).1, (hR.2.2 k ty x h).2.moved hW.alike⟩, fun u hu hn => ba_Nmoved hn hW (ba_Nof hn (hts u (List.mem_filter.mpr ⟨hu, by unfold ba_keep; rw [hn, Bool.or_true]⟩))), fun sc h => ⟨va_X.moved hW.alike (va_X.kept (hscr sc h).1 (by rw [hU]; exact hR.2.1.2.1 b (Nat.lt_of_lt_of_le (hscr sc h).2 hB) (Nat.not_le.mpr (hscr sc h).2))), (hscr sc h).2⟩⟩
theorem ba_rm_of {M' : ba_M} (h : ba_rm M M' = true) : (ba_room M').frames + 1 ≤ (ba_room M).frames ∧ 8 + (ba_mL M' + 11) + (ba_room M').locals ≤ (ba_room M).locals := by
  unfold ba_rm at h
  rw [Bool.and_eq_true] at h
  exact ⟨Nat.le_of_ble_eq_true h.1, Nat.le_of_ble_eq_true h.2⟩
set_option maxHeartbeats 1000000 in
theorem ba_call_sim {mu nx pc i pl r2 : Nat} {L : ba_L} {st : List Value} {w : ba_W} {c z : Nat} {K : ba_K} {cA : Nat → ClassId} {H : Heap} {locs : List Loc} {ls : Array Slot} {ins : Instr}
    (C0 : ba_Ctx p s m args meth c0 M dC dI b B scr) (hC : ba_Cont p l e s m args below meth c0 Q M dC dI b B K) (hM : ba_chkM (ba_tab mu) = true) (hlnk : ba_lnk M i (ba_tab mu) pl r2 = true) (hrm : ba_rm M (ba_tab mu) = true)
    (hins : (ba_kind (ba_tab mu) = 0 ∧ ins = .invokestatic i) ∨ (ba_kind (ba_tab mu) = 1 ∧ ins = .invokevirtual i) ∨ (ba_kind (ba_tab mu) = 2 ∧ ins = .invokespecial i)) (hd : decode (ba_code M) pc = .ok (ins, 3)) (hnx : nx = pc + 3)
    (hk : ba_call (ba_R l scr) M mu (ba_tab mu) nx L st w c z K) (hR : ba_Rel dC dI b B cA s H locs w) (hz : s.heap.size + c = B + w.length) (hL : ba_Lc b B (ba_mL M) ls L) :
    W p l e (ba_room M) s m args below meth c0 H locs c z Q (F0 m pc ls (st.map (ba_v b B))) := by
  refine ba_W_sized (fun hs0 => ?_)
  obtain ⟨hx, hb, hml, hown, hnm, hts, hK, hB, hscr⟩ := id C0
  have hs := ba_heap hR hz hB hs0
  obtain ⟨As, r, hk1, hst, hn⟩ := ba_pop0 hk
  clear hk
  subst hst
  have hk := hk1
  have hP := ba_pres (c := c) C0 hR hs
  have hrm := ba_rm_of hrm
  have fin : ∀ (rr : List Value) (mc ms : Nat) (P : ba_P) (a : Array Value), mc = ba_ce (ba_tab mu) → ms = ba_sl (ba_tab mu) → P = (fun v w1 => K nx L (v.toList ++ rr) w1 (c + mc) (z + ms)) → c + mc ≤ ba_ce M → z + ms ≤ ba_sl M → va_Run p l e (ba_room M) s m args below meth c0 H locs c z mc ms (F0 m pc ls ((As.reverse ++ r).map (ba_v b B))) (rr.map (ba_v b B)) (ba_Qc dC dI b B mc w P a) (fun q => B ≤ q) → W p l e (ba_room M) s m args below meth c0 H locs c z Q (F0 m pc ls ((As.reverse ++ r).map (ba_v b B))) := by
    intro rr mc ms P a e1 e2 e3 h1 h2 hr
    refine ba_goes hr hR.2.1 hz (fun v w1 cA1 H1 locs1 hp hR1 hz1 => ?_)
    rw [e3] at hp
    have := hC nx L (v.toList ++ rr) w1 (c + mc) (z + ms) cA1 H1 locs1 ls hp hR1 hz1 hL h1 h2
    rw [List.map_append] at this
    rw [← hnx]
    cases v <;> exact this
  have cat8 : ∀ rr : List Value, Nat.ble (rr.map fun v => v.category).sum 8 = true → 2 * (F0 m pc ls ((As.reverse ++ r).map (ba_v b B))).monitorRoom + (((rr.map (ba_v b B)).map fun v => v.category)).sum ≤ 8 := by
    intro rr h
    refine lv_room ?_
    rw [ba_cats]
    exact Nat.le_of_ble_eq_true h
  rcases hins with ⟨hkd, rfl⟩ | ⟨hkd, rfl⟩ | ⟨hkd, rfl⟩
  · rw [hkd] at hk
    obtain ⟨hbl, hg⟩ := hk
    simp only [Bool.and_eq_true] at hbl
    obtain ⟨b1, b2, b3, b4⟩ := hbl
    have hk3 : ¬ ba_kind (ba_tab mu) = 3 := by omega
    obtain ⟨⟨g1, g2, g3⟩, g4, g5, -, -⟩ := ba_chkM_of hM hk3
    have hmet := ba_met hM hk3 (Nat.le_of_ble_eq_true b1) hg dC dI b B cA
    refine fin r _ _ _ (As.map (ba_v b B)).toArray rfl rfl rfl (Nat.le_of_ble_eq_true b2) (Nat.le_of_ble_eq_true b3) ?_
    have hp : PreS s H (va_Pc (As.map (ba_v b B)) (ba_Pre scr dC dI b B cA w)) (As.map (ba_v b B)) := ⟨ba_blind _ _ _ _ _ _ _ _, fun U hU hW => ⟨rfl, hP U hU hW⟩⟩
    unfold ba_lnk at hlnk
    cases e2 : Nat.beq r2 1 with
    | true =>
      rw [e2] at hlnk
      have hw := ba_word_in hlnk
      exact va_runSN (As := As.map (ba_v b B)) (rest := r.map (ba_v b B)) ⟨hx, hb, hml, hown, hts⟩ hmet ⟨va_cnB (ba_na (ba_tab mu)) hts (ba_good g2) rfl rfl rfl (va_Nw.of rfl (hts _ (List.mem_filter.mpr ⟨hw, rfl⟩))) (hts _ g3) g4 hrm, hts _ (g5 hkd), trivial⟩ hp rfl (by rw [List.length_map]; exact hn) hL.2.1 (by show (As.reverse ++ r).map _ = _; rw [List.map_append, List.map_reverse]) (cat8 r b4) hd ⟨Nat.le_of_ble_eq_true b2, Nat.le_of_ble_eq_true b3⟩
    | false =>
      rw [e2] at hlnk
      have hw := ba_word_in hlnk
      exact va_runS (As := As.map (ba_v b B)) (rest := r.map (ba_v b B)) ⟨hx, hb, hml, hown, hts⟩ hmet ⟨callB_of (ba_na (ba_tab mu)) hts (ba_good g2) rfl rfl rfl (hts _ g3) (hts _ (List.mem_filter.mpr ⟨hw, rfl⟩)) g4 hrm, hts _ (g5 hkd)⟩ hp rfl (by rw [List.length_map]; exact hn) hL.2.1 (by show (As.reverse ++ r).map _ = _; rw [List.map_append, List.map_reverse]) (cat8 r b4) hd ⟨Nat.le_of_ble_eq_true b2, Nat.le_of_ble_eq_true b3⟩
  · rw [hkd] at hk
    rcases r with _ | ⟨o, r'⟩
    · exact hk.elim
    cases o with
    | ref o =>
      obtain ⟨hbl, hg⟩ := hk
      simp only [Bool.and_eq_true] at hbl
      obtain ⟨b1, b2, b3, b4, b5⟩ := hbl
      have hk3 : ¬ ba_kind (ba_tab mu) = 3 := by omega
      obtain ⟨⟨g1, g2, g3⟩, g4, -, g6, -⟩ := ba_chkM_of hM hk3
      obtain ⟨g6a, g6b, g6c, g6d⟩ := g6 hkd
      have hmet := ba_met hM hk3 (Nat.le_of_ble_eq_true b1) hg dC dI b B cA
      cases o with
      | zero => cases b5
      | succ o =>
        refine fin r' _ _ _ (Value.ref (B + o) :: As.map (ba_v b B)).toArray rfl rfl rfl (Nat.le_of_ble_eq_true b2) (Nat.le_of_ble_eq_true b3) ?_
        have hcell : ∃ fs, w[o]? = some (.inr (ba_ci (ba_tab mu), fs)) := by
          unfold ba_isC at b5
          split at b5
          · next h => cases h
          · next i h =>
            cases h
            split at b5
            · next cj fs h2 => exact ⟨fs, by rw [h2, Nat.eq_of_beq_eq_true b5]⟩
            · cases b5
        obtain ⟨fs, hcell⟩ := hcell
        have hrecv := va_recv hK hR.1 (ba_clsOf g6c) (ba_ws_at hcell)
        have hp : PreV s H (ba_y (ba_tab mu)).cls (B + o) (va_Pc ((Value.ref (o + 1) :: As).map (ba_v b B)) (ba_Pre scr dC dI b B cA w)) (As.map (ba_v b B)) := ⟨ba_blind _ _ _ _ _ _ _ _, by rw [← g6d]; exact hrecv, fun U hU hW => ⟨rfl, hP U hU hW⟩⟩
        unfold ba_lnk at hlnk
        cases e2 : Nat.beq r2 1 with
        | true =>
          rw [e2] at hlnk
          have hw := ba_word_in hlnk
          exact va_runVN (As := As.map (ba_v b B)) (rest := r'.map (ba_v b B)) ⟨hx, hb, hml, hown, hts⟩ hmet ⟨va_cnB (ba_na (ba_tab mu)) hts (ba_good g2) rfl rfl rfl (va_Nw.of rfl (hts _ (List.mem_filter.mpr ⟨hw, rfl⟩))) (hts _ g3) g4 hrm, hts _ g6a, hts _ g6b⟩ hp rfl (by rw [List.length_map]; exact hn) hL.2.1 (by show (As.reverse ++ Value.ref (o + 1) :: r').map _ = _; rw [List.map_append, List.map_reverse]; rfl) (cat8 r' b4) hd ⟨Nat.le_of_ble_eq_true b2, Nat.le_of_ble_eq_true b3⟩
        | false =>
          rw [e2] at hlnk
          have hw := ba_word_in hlnk
          exact va_runV (As := As.map (ba_v b B)) (rest := r'.map (ba_v b B)) ⟨hx, hb, hml, hown, hts⟩ hmet ⟨callB_of (ba_na (ba_tab mu)) hts (ba_good g2) rfl rfl rfl (hts _ g3) (hts _ (List.mem_filter.mpr ⟨hw, rfl⟩)) g4 hrm, hts _ g6a, hts _ g6b⟩ hp rfl (by rw [List.length_map]; exact hn) hL.2.1 (by show (As.reverse ++ Value.ref (o + 1) :: r').map _ = _; rw [List.map_append, List.map_reverse]; rfl) (cat8 r' b4) hd ⟨Nat.le_of_ble_eq_true b2, Nat.le_of_ble_eq_true b3⟩
    | _ => exact hk.elim
  · rw [hkd] at hk
    rcases r with _ | ⟨o, r'⟩
    · exact hk.elim
    cases o with
    | ref o =>
      cases o with
      | zero => exact hk.elim
      | succ o =>
        obtain ⟨hbl, hg⟩ := hk
        simp only [Bool.and_eq_true] at hbl
        obtain ⟨b1, b2, b3, b4⟩ := hbl
        have hk3 : ¬ ba_kind (ba_tab mu) = 3 := by omega
        obtain ⟨⟨g1, g2, g3⟩, g4, -, -, g7⟩ := ba_chkM_of hM hk3
        obtain ⟨g7a, g7b, g7c⟩ := g7 hkd
        have hmet := ba_met hM hk3 (Nat.le_of_ble_eq_true b1) hg dC dI b B cA
        refine fin r' _ _ _ (Value.ref (B + o) :: As.map (ba_v b B)).toArray rfl rfl rfl (Nat.le_of_ble_eq_true b2) (Nat.le_of_ble_eq_true b3) ?_
        have hp : PreS s H (va_Pc ((Value.ref (o + 1) :: As).map (ba_v b B)) (ba_Pre scr dC dI b B cA w)) (.ref (B + o) :: As.map (ba_v b B)) := ⟨ba_blind _ _ _ _ _ _ _ _, fun U hU hW => ⟨rfl, hP U hU hW⟩⟩
        have hw0 : ba_cw (ba_tab mu) = Cond.code (ba_y (ba_tab mu)) (ba_code (ba_tab mu)) (ba_mL (ba_tab mu)) none :: ba_Tg := by unfold ba_cw; rw [g7c]
        unfold ba_lnk at hlnk
        cases e2 : Nat.beq r2 1 with
        | true =>
          rw [e2] at hlnk
          have hw := ba_word_in hlnk
          exact va_runIN (As := As.map (ba_v b B)) (rest := r'.map (ba_v b B)) ⟨hx, hb, hml, hown, hts⟩ hmet ⟨va_cnB (ba_na (ba_tab mu)) hts (ba_good g2) hw0 rfl rfl (va_Nw.of rfl (hts _ (List.mem_filter.mpr ⟨hw, rfl⟩))) (hts _ g3) g4 hrm, g7b, hts _ g7a⟩ hp rfl (by rw [List.length_map]; exact hn) hL.2.1 (by show (As.reverse ++ Value.ref (o + 1) :: r').map _ = _; rw [List.map_append, List.map_reverse]; rfl) (cat8 r' b4) hd ⟨Nat.le_of_ble_eq_true b2, Nat.le_of_ble_eq_true b3⟩
        | false =>
          rw [e2] at hlnk
          have hw := ba_word_in hlnk
          exact va_runI (As := As.map (ba_v b B)) (rest := r'.map (ba_v b B)) ⟨hx, hb, hml, hown, hts⟩ hmet ⟨callB_of (ba_na (ba_tab mu)) hts (ba_good g2) hw0 rfl rfl (hts _ g3) (hts _ (List.mem_filter.mpr ⟨hw, rfl⟩)) g4 hrm, g7b, hts _ g7a⟩ hp rfl (by rw [List.length_map]; exact hn) hL.2.1 (by show (As.reverse ++ Value.ref (o + 1) :: r').map _ = _; rw [List.map_append, List.map_reverse]; rfl) (cat8 r' b4) hd ⟨Nat.le_of_ble_eq_true b2, Nat.le_of_ble_eq_true b3⟩
    | _ => exact hk.elim
end BAC
