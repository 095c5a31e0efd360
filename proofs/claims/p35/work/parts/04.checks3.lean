/-! every row of the law, checked in pieces -/
set_option maxRecDepth 100000 in
theorem okl_0 : (((ba_rows mo_L_law).drop 0).take 30).all (ba_chk mo_L_law) = true := by decide +kernel
set_option maxRecDepth 100000 in
theorem okl_30 : (((ba_rows mo_L_law).drop 30).take 30).all (ba_chk mo_L_law) = true := by decide +kernel
set_option maxRecDepth 100000 in
theorem okl_60 : (((ba_rows mo_L_law).drop 60).take 30).all (ba_chk mo_L_law) = true := by decide +kernel
set_option maxRecDepth 100000 in
theorem okl_90 : (((ba_rows mo_L_law).drop 90).take 30).all (ba_chk mo_L_law) = true := by decide +kernel
set_option maxRecDepth 100000 in
theorem okl_120 : (((ba_rows mo_L_law).drop 120).take 30).all (ba_chk mo_L_law) = true := by decide +kernel
set_option maxRecDepth 100000 in
theorem okl_150 : (((ba_rows mo_L_law).drop 150).take 30).all (ba_chk mo_L_law) = true := by decide +kernel
set_option maxRecDepth 100000 in
theorem okl_180 : (((ba_rows mo_L_law).drop 180).take 30).all (ba_chk mo_L_law) = true := by decide +kernel
set_option maxRecDepth 100000 in
theorem okl_210 : (((ba_rows mo_L_law).drop 210).take 30).all (ba_chk mo_L_law) = true := by decide +kernel
set_option maxRecDepth 100000 in
theorem okl_240 : (((ba_rows mo_L_law).drop 240).take 30).all (ba_chk mo_L_law) = true := by decide +kernel
set_option maxRecDepth 100000 in
theorem okl_270 : (((ba_rows mo_L_law).drop 270).take 30).all (ba_chk mo_L_law) = true := by decide +kernel
set_option maxRecDepth 100000 in
theorem okl_300 : (((ba_rows mo_L_law).drop 300).take 30).all (ba_chk mo_L_law) = true := by decide +kernel
set_option maxRecDepth 100000 in
theorem okl_330 : (((ba_rows mo_L_law).drop 330).take 30).all (ba_chk mo_L_law) = true := by decide +kernel
set_option maxRecDepth 100000 in
theorem okl_360 : (((ba_rows mo_L_law).drop 360).take 30).all (ba_chk mo_L_law) = true := by decide +kernel
set_option maxRecDepth 100000 in
theorem okl_390 : (((ba_rows mo_L_law).drop 390).take 30).all (ba_chk mo_L_law) = true := by decide +kernel
set_option maxRecDepth 100000 in
theorem okl_420 : (((ba_rows mo_L_law).drop 420).take 30).all (ba_chk mo_L_law) = true := by decide +kernel
set_option maxRecDepth 100000 in
theorem okl_450 : (((ba_rows mo_L_law).drop 450).take 30).all (ba_chk mo_L_law) = true := by decide +kernel
set_option maxRecDepth 100000 in
theorem okl_480 : (((ba_rows mo_L_law).drop 480).take 30).all (ba_chk mo_L_law) = true := by decide +kernel
set_option maxRecDepth 100000 in
theorem okl_510 : (((ba_rows mo_L_law).drop 510).take 30).all (ba_chk mo_L_law) = true := by decide +kernel
set_option maxRecDepth 100000 in
theorem okl_540 : (((ba_rows mo_L_law).drop 540).take 30).all (ba_chk mo_L_law) = true := by decide +kernel
set_option maxRecDepth 100000 in
theorem okl_570 : (((ba_rows mo_L_law).drop 570).take 30).all (ba_chk mo_L_law) = true := by decide +kernel
set_option maxRecDepth 100000 in
theorem okl_600 : (((ba_rows mo_L_law).drop 600).take 30).all (ba_chk mo_L_law) = true := by decide +kernel
set_option maxRecDepth 100000 in
theorem okl_630 : (((ba_rows mo_L_law).drop 630).take 30).all (ba_chk mo_L_law) = true := by decide +kernel
set_option maxRecDepth 100000 in
theorem okl_660 : (((ba_rows mo_L_law).drop 660).take 30).all (ba_chk mo_L_law) = true := by decide +kernel
set_option maxRecDepth 100000 in
theorem okl_690 : (((ba_rows mo_L_law).drop 690).take 30).all (ba_chk mo_L_law) = true := by decide +kernel
set_option maxRecDepth 100000 in
theorem okl_720 : (((ba_rows mo_L_law).drop 720).take 30).all (ba_chk mo_L_law) = true := by decide +kernel
set_option maxRecDepth 100000 in
theorem okl_750 : (((ba_rows mo_L_law).drop 750).take 30).all (ba_chk mo_L_law) = true := by decide +kernel
set_option maxRecDepth 100000 in
theorem okl_780 : (((ba_rows mo_L_law).drop 780).take 30).all (ba_chk mo_L_law) = true := by decide +kernel
set_option maxRecDepth 100000 in
theorem okl_810 : (((ba_rows mo_L_law).drop 810).take 30).all (ba_chk mo_L_law) = true := by decide +kernel
set_option maxRecDepth 100000 in
theorem okl_840 : (((ba_rows mo_L_law).drop 840).take 30).all (ba_chk mo_L_law) = true := by decide +kernel
set_option maxRecDepth 100000 in
theorem okl_870 : (((ba_rows mo_L_law).drop 870).take 30).all (ba_chk mo_L_law) = true := by decide +kernel
set_option maxRecDepth 100000 in
theorem okl_900 : (((ba_rows mo_L_law).drop 900).take 30).all (ba_chk mo_L_law) = true := by decide +kernel
set_option maxRecDepth 100000 in
theorem okl_930 : (((ba_rows mo_L_law).drop 930).take 30).all (ba_chk mo_L_law) = true := by decide +kernel
set_option maxRecDepth 100000 in
theorem okl_960 : (((ba_rows mo_L_law).drop 960).take 30).all (ba_chk mo_L_law) = true := by decide +kernel
set_option maxRecDepth 100000 in
theorem okl_990 : (((ba_rows mo_L_law).drop 990).take 30).all (ba_chk mo_L_law) = true := by decide +kernel
theorem ba_allp {α : Type} (f : α → Bool) : ∀ (n : Nat) (l : List α), (∀ k, k ≤ n → ((l.drop (30 * k)).take 30).all f = true) → l.length ≤ 30 * (n + 1) → l.all f = true
  | 0, l, h, hl => by
    have h0 := h 0 (Nat.le_refl 0)
    rw [Nat.mul_zero, List.drop_zero, List.take_of_length_le (by omega)] at h0
    exact h0
  | n + 1, l, h, hl => by
    have h0 := h 0 (Nat.zero_le _)
    rw [Nat.mul_zero, List.drop_zero] at h0
    have h1 := ba_allp f n (l.drop 30) (fun k hk => by
      have := h (k + 1) (by omega)
      rw [List.drop_drop, show 30 + 30 * k = 30 * (k + 1) by omega]; exact this) (by simp; omega)
    rw [← List.take_append_drop 30 l, List.all_append, h0, h1]; rfl
set_option maxRecDepth 100000 in
theorem ok_L_law : ba_ok mo_L_law := by
  refine ⟨ba_allp _ 33 _ (fun k hk => ?_) (by decide +kernel), rfl⟩
  match k, hk with
  | 0, _ => exact okl_0
  | 1, _ => exact okl_30
  | 2, _ => exact okl_60
  | 3, _ => exact okl_90
  | 4, _ => exact okl_120
  | 5, _ => exact okl_150
  | 6, _ => exact okl_180
  | 7, _ => exact okl_210
  | 8, _ => exact okl_240
  | 9, _ => exact okl_270
  | 10, _ => exact okl_300
  | 11, _ => exact okl_330
  | 12, _ => exact okl_360
  | 13, _ => exact okl_390
  | 14, _ => exact okl_420
  | 15, _ => exact okl_450
  | 16, _ => exact okl_480
  | 17, _ => exact okl_510
  | 18, _ => exact okl_540
  | 19, _ => exact okl_570
  | 20, _ => exact okl_600
  | 21, _ => exact okl_630
  | 22, _ => exact okl_660
  | 23, _ => exact okl_690
  | 24, _ => exact okl_720
  | 25, _ => exact okl_750
  | 26, _ => exact okl_780
  | 27, _ => exact okl_810
  | 28, _ => exact okl_840
  | 29, _ => exact okl_870
  | 30, _ => exact okl_900
  | 31, _ => exact okl_930
  | 32, _ => exact okl_960
  | 33, _ => exact okl_990
  | k + 34, hk => omega
set_option maxRecDepth 100000 in
theorem ba_all : ∀ M ∈ ba_list, ba_ok M := List.forall_mem_cons.mpr ⟨ok_X0_init, List.forall_mem_cons.mpr ⟨ok_X1_init, List.forall_mem_cons.mpr ⟨ok_X2_init, List.forall_mem_cons.mpr ⟨ok_X2_becomes, List.forall_mem_cons.mpr ⟨ok_X2_takes, List.forall_mem_cons.mpr ⟨ok_X2_isAtWork, List.forall_mem_cons.mpr ⟨ok_X3_init, List.forall_mem_cons.mpr ⟨ok_X3_clear, List.forall_mem_cons.mpr ⟨ok_X3_add, List.forall_mem_cons.mpr ⟨ok_X3_necksOf, List.forall_mem_cons.mpr ⟨ok_X3_kindsOf, List.forall_mem_cons.mpr ⟨ok_X3_areSoWithout, List.forall_mem_cons.mpr ⟨ok_X4_init, List.forall_mem_cons.mpr ⟨ok_X4_after, List.forall_mem_cons.mpr ⟨ok_X4_become, List.forall_mem_cons.mpr ⟨ok_X4_fewest, List.forall_mem_cons.mpr ⟨ok_X4_allAfter, List.forall_mem_cons.mpr ⟨ok_X4_stampOnWay, List.forall_mem_cons.mpr ⟨ok_X4_nearestStamp, List.forall_mem_cons.mpr ⟨ok_X4_rowsTo, List.forall_mem_cons.mpr ⟨ok_X4_lengthenRows, List.forall_mem_cons.mpr ⟨ok_X4_struck, List.forall_mem_cons.mpr ⟨ok_X4_comesBackBy, List.forall_mem_cons.mpr ⟨ok_X4_strikesAhead, List.forall_mem_cons.mpr ⟨ok_X5_init, List.forall_mem_cons.mpr ⟨ok_X5_hasRow, List.forall_mem_cons.mpr ⟨ok_X5_begins, List.forall_mem_cons.mpr ⟨ok_X5_spans, List.forall_mem_cons.mpr ⟨ok_X5_faultOf, List.forall_mem_cons.mpr ⟨ok_X5_at, List.forall_mem_cons.mpr ⟨ok_X5_become, List.forall_mem_cons.mpr ⟨ok_X6_firstFault, List.forall_mem_cons.mpr ⟨ok_X6_peopleIn, List.forall_mem_cons.mpr ⟨ok_X6_goesOn, List.forall_mem_cons.mpr ⟨ok_X6_goesOnPerson, List.forall_mem_cons.mpr ⟨ok_X6_isDigit, List.forall_mem_cons.mpr ⟨ok_X6_kindOf, List.forall_mem_cons.mpr ⟨ok_X6_digit, List.forall_mem_cons.mpr ⟨ok_X6_inkOf, List.forall_mem_cons.mpr ⟨ok_X6_ruleOf, List.forall_mem_cons.mpr ⟨ok_X6_readPerson, List.forall_mem_cons.mpr ⟨ok_X7_init, List.forall_mem_cons.mpr ⟨ok_X7_isOn, List.forall_mem_cons.mpr ⟨ok_X7_personOf, List.forall_mem_cons.mpr ⟨ok_X7_begins, List.forall_mem_cons.mpr ⟨ok_X7_peopleOf, List.forall_mem_cons.mpr ⟨ok_X7_workersOf, List.forall_mem_cons.mpr ⟨ok_X7_strikes, List.forall_mem_cons.mpr ⟨ok_X7_washes, List.forall_mem_cons.mpr ⟨ok_X7_cheapestRaid, List.forall_mem_cons.mpr ⟨ok_X7_removable, List.forall_mem_cons.mpr ⟨ok_X7_raidInk, List.forall_mem_cons.mpr ⟨ok_X7_mostTakes, List.forall_mem_cons.mpr ⟨ok_X7_takesOf, List.forall_mem_cons.mpr ⟨ok_X8_init, List.forall_mem_cons.mpr ⟨ok_X8_war, List.forall_mem_cons.mpr ⟨ok_X8_ofPerson, List.forall_mem_cons.mpr ⟨ok_X8_decree, List.forall_mem_cons.mpr ⟨ok_X8_starch, List.forall_mem_cons.mpr ⟨ok_X8_strike, List.forall_mem_cons.mpr ⟨ok_X8_wash, List.forall_mem_cons.mpr ⟨ok_X8_fetches, List.forall_mem_cons.mpr ⟨ok_X8_undoing, List.forall_mem_cons.mpr ⟨ok_X8_ways, List.forall_mem_cons.mpr ⟨ok_X8_worn, List.forall_mem_cons.mpr ⟨ok_X8_raid, List.forall_mem_cons.mpr ⟨ok_X8_peace, List.forall_mem_cons.mpr ⟨ok_X8_reading, List.forall_mem_cons.mpr ⟨ok_X8_back, List.forall_mem_cons.mpr ⟨ok_X8_necks, List.forall_mem_cons.mpr ⟨ok_X8_kinds, List.forall_mem_cons.mpr ⟨ok_X8_odds, List.forall_mem_cons.mpr ⟨ok_X8_sheet, List.forall_mem_cons.mpr ⟨ok_X8_put, List.forall_mem_cons.mpr ⟨ok_X8_many, List.forall_mem_cons.mpr ⟨ok_X8_within, List.forall_mem_cons.mpr ⟨ok_X8_below, List.forall_mem_cons.mpr ⟨ok_X8_sheetOf, List.forall_mem_cons.mpr ⟨ok_X8_stopped, List.forall_mem_cons.mpr ⟨ok_J6_bitCount_0f7a4, List.forall_mem_cons.mpr ⟨ok_J7_fill_53178, List.forall_mem_cons.mpr ⟨ok_L_cell, List.forall_mem_cons.mpr ⟨ok_L_low, List.forall_mem_cons.mpr ⟨ok_L_lay, List.forall_mem_cons.mpr ⟨ok_L_office, List.forall_mem_cons.mpr ⟨ok_L_mark, List.forall_mem_cons.mpr ⟨ok_L_neck, List.forall_mem_cons.mpr ⟨ok_L_takes, List.forall_mem_cons.mpr ⟨ok_L_rule, List.forall_mem_cons.mpr ⟨ok_L_marks, List.forall_mem_cons.mpr ⟨ok_L_work, List.forall_mem_cons.mpr ⟨ok_L_bits, List.forall_mem_cons.mpr ⟨ok_L_does, List.forall_mem_cons.mpr ⟨ok_L_goOn, List.forall_mem_cons.mpr ⟨ok_L_areSo, List.forall_mem_cons.mpr ⟨ok_L_becomes, List.forall_mem_cons.mpr ⟨ok_L_power, List.forall_mem_cons.mpr ⟨ok_L_fewest, List.forall_mem_cons.mpr ⟨ok_L_law, fun _ h => absurd h List.not_mem_nil⟩⟩⟩⟩⟩⟩⟩⟩⟩⟩⟩⟩⟩⟩⟩⟩⟩⟩⟩⟩⟩⟩⟩⟩⟩⟩⟩⟩⟩⟩⟩⟩⟩⟩⟩⟩⟩⟩⟩⟩⟩⟩⟩⟩⟩⟩⟩⟩⟩⟩⟩⟩⟩⟩⟩⟩⟩⟩⟩⟩⟩⟩⟩⟩⟩⟩⟩⟩⟩⟩⟩⟩⟩⟩⟩⟩⟩⟩⟩⟩⟩⟩⟩⟩⟩⟩⟩⟩⟩⟩⟩⟩⟩⟩⟩⟩⟩⟩⟩
theorem ba_w_mxS : (.static Lib.Math.max.name : Jvm.Cond) ∈ lw_tbl := ba_word_in (pl := 330) (by decide +kernel)
theorem ba_w_mxC : (.code Lib.Math.max.name Lib.Math.max.code 2 (some .int) : Jvm.Cond) ∈ lw_tbl := ba_word_in (pl := 331) (by decide +kernel)
theorem ba_w_miS : (.static Lib.Math.min.name : Jvm.Cond) ∈ lw_tbl := ba_word_in (pl := 319) (by decide +kernel)
theorem ba_w_miC : (.code Lib.Math.min.name Lib.Math.min.code 2 (some .int) : Jvm.Cond) ∈ lw_tbl := ba_word_in (pl := 320) (by decide +kernel)
theorem ba_w_mI : (.initialized "java/lang/Math" : Jvm.Cond) ∈ lw_tbl := ba_word_in (pl := 19) (by decide +kernel)
theorem ba_w_oI : (.instanceMethod Lib.objectInit : Jvm.Cond) ∈ lw_tbl := ba_word_in (pl := 28) (by decide +kernel)
theorem ba_w_oC : (.code Lib.objectInit ⟨#[0xb1]⟩ 1 none : Jvm.Cond) ∈ lw_tbl := ba_word_in (pl := 29) (by decide +kernel)
theorem ba_w_aN : (.native arraycopyName : Jvm.Cond) ∈ lw_tbl := ba_word_in (pl := 259) (by decide +kernel)
theorem ba_w_aS : (.static arraycopyName : Jvm.Cond) ∈ lw_tbl := ba_word_in (pl := 258) (by decide +kernel)
theorem ba_w_aI : (.initialized "java/lang/System" : Jvm.Cond) ∈ lw_tbl := ba_word_in (pl := 20) (by decide +kernel)
theorem ba_okt (mu : Nat) : ba_ok (ba_tab mu) := by
  unfold ba_tab
  rw [List.getD_eq_getElem?_getD]
  cases h : ba_list[mu]? with
  | none => exact ok_X2_takes
  | some M => exact ba_all M (List.mem_of_getElem? h)
