/-! what is checked of each row, by the kernel -/
def ba_word (pl : Nat) (w : Jvm.Cond) : Bool := match lw_tbl[pl]? with
  | some u => decide (u = w)
  | none => false
theorem ba_word_in {pl : Nat} {w : Jvm.Cond} (h : ba_word pl w = true) : w ∈ lw_tbl := by
  unfold ba_word at h
  cases e : lw_tbl[pl]? with
  | none => rw [e] at h; cases h
  | some u => rw [e] at h; rw [← of_decide_eq_true h]; exact List.mem_of_getElem? e
def ba_ln : Instr → Nat
  | .aload _ => 2 | .iload _ => 2 | .lload _ => 2 | .astore _ => 2 | .istore _ => 2 | .lstore _ => 2 | .bipush _ => 2 | .ldc _ => 2 | .newarray _ => 2
  | .sipush _ => 3 | .ldc_w _ => 3 | .ldc2_w _ => 3 | .iinc _ _ => 3 | .ifCond _ _ => 3 | .if_icmp _ _ => 3 | .ifnull _ => 3 | .ifnonnull _ => 3 | .goto _ => 3
  | .getfield _ => 3 | .putfield _ => 3 | .new _ => 3 | .anewarray _ => 3 | .invokevirtual _ => 3 | .invokespecial _ => 3 | .invokestatic _ => 3
  | _ => 1
def ba_own (M : ba_M) : String := (ba_y M).cls
def ba_host : String := "StampRaids"
def ba_isSw : Instr → Bool
  | .tableswitch .. => true
  | .lookupswitch .. => true
  | _ => false
def ba_chkF (M : ba_M) (i ci k pl : Nat) : Bool := Nat.blt ci vwCl.length && (Nat.blt k (ba_cls ci).2.2 && ba_word pl (.fieldLink (ba_own M) i (ba_nm ci) ((ba_cls ci).2.1 k).2.1 ((ba_cls ci).2.1 k).2.2.1))
def ba_lnk (M : ba_M) (i : Nat) (M' : ba_M) (pl r2 : Nat) : Bool := bif Nat.beq r2 1 then ba_word pl (.methodLinkNest (ba_own M) i (ba_y M') ba_host) else ba_word pl (.methodLink (ba_own M) i (ba_y M'))
def ba_rm (M M' : ba_M) : Bool := Nat.ble (ba_fr M' + 1) (ba_fr M) && Nat.ble (8 + (ba_mL M' + 11) + ba_lo M') (ba_lo M)
def ba_chkI (M : ba_M) (pc : Nat) (r1 r2 pl : Nat) : Instr → Bool
  | .ifCond _ off => decide ((pc : Int) + off = (r1 : Int))
  | .if_icmp _ off => decide ((pc : Int) + off = (r1 : Int))
  | .ifnull off => decide ((pc : Int) + off = (r1 : Int))
  | .ifnonnull off => decide ((pc : Int) + off = (r1 : Int))
  | .goto off => decide ((pc : Int) + off = (r1 : Int))
  | .tableswitch d lo hi offs => decide ((pc : Int) + d = (r2 : Int)) && (decide (offs.toList.map (fun o => (pc : Int) + o) = (ba_tg r1).map Int.ofNat) && decide (hi = lo + (offs.toList.length : Int) - 1))
  | .lookupswitch d ps => decide ((pc : Int) + d = (r2 : Int)) && (decide (ps.toList.map (fun q => (q.1, (pc : Int) + q.2)) = (ba_lt r1).map (fun q => (q.1, Int.ofNat q.2))) && (ps.toList.zip (ps.toList.drop 1)).all (fun (a, next) => a.1 < next.1))
  | .getfield i => ba_chkF M i r1 r2 pl
  | .putfield i => ba_chkF M i r1 r2 pl && (decide (((ba_cls r1).2.1 r2).2.2.2 = false) || (Nat.beq (ba_kind M) 2 && decide (((ba_cls r1).2.1 r2).1 = ba_own M)))
  | .new i => Nat.blt r1 vwCl.length && ba_word pl (.classLink (ba_own M) i (ba_nm r1))
  | .anewarray i => ba_word pl (.classLink (ba_own M) i (ba_nm r1)) && ba_word r2 (.arrayOver (.object (ba_nm r1)))
  | .newarray t => ba_word pl (.arrayClass (newarray.typeOf t))
  | .ldc_w i => ba_word pl (.constant (ba_own M) i (Int32.ofNat r1))
  | .ldc i => ba_word pl (.constant (ba_own M) i (Int32.ofNat r1))
  | .ldc2_w i => ba_word pl (.constantLong (ba_own M) i (Int64.ofNat r1))
  | .invokevirtual i => ba_lnk M i (ba_tab r1) pl r2 && (ba_rm M (ba_tab r1) && Nat.beq (ba_kind (ba_tab r1)) 1)
  | .invokespecial i => bif Nat.beq r1 9998 then ba_word pl (.methodLink (ba_own M) i Lib.objectInit) && (Nat.ble 1 (ba_fr M) && Nat.ble 12 (ba_lo M))
    else ba_lnk M i (ba_tab r1) pl r2 && (ba_rm M (ba_tab r1) && Nat.beq (ba_kind (ba_tab r1)) 2)
  | .invokestatic i => bif Nat.beq r1 9999 then ba_word pl (.methodLink (ba_own M) i arraycopyName) && (Nat.ble 1 (ba_fr M) && Nat.ble (nativeFrameWords "java/lang/System" "arraycopy" 5 + 11) (ba_lo M))
    else bif Nat.beq r1 9997 then ba_word pl (.methodLink (ba_own M) i Lib.Math.max.name) && (Nat.ble 1 (ba_fr M) && Nat.ble 21 (ba_lo M))
    else bif Nat.beq r1 9996 then ba_word pl (.methodLink (ba_own M) i Lib.Math.min.name) && (Nat.ble 1 (ba_fr M) && Nat.ble 21 (ba_lo M))
    else ba_lnk M i (ba_tab r1) pl r2 && (ba_rm M (ba_tab r1) && Nat.beq (ba_kind (ba_tab r1)) 0)
  | _ => true
def ba_chk (M : ba_M) (q : ba_Row) : Bool := bif ba_isSw q.2.1 then (match decode (ba_code M) q.1 with
    | .ok (ins, _) => decide (ins = q.2.1)
    | _ => false) && ba_chkI M q.1 q.2.2.2.1 q.2.2.2.2.1 q.2.2.2.2.2 q.2.1
  else decide (decode (ba_code M) q.1 = .ok (q.2.1, ba_ln q.2.1)) && (Nat.beq q.2.2.1 (q.1 + ba_ln q.2.1) && ba_chkI M q.1 q.2.2.2.1 q.2.2.2.2.1 q.2.2.2.2.2 q.2.1)
/-- a method that may be called -/
def ba_chkM (M : ba_M) : Bool := Nat.beq (ba_kind M) 3 || (plainName (ba_y M).cls && (ba_word (ba_pC M) (.code (ba_y M) (ba_code M) (ba_mL M) (ba_ret M)) && (ba_word (ba_pI M) (.initialized (ba_y M).cls) && (decide ((ba_y M).cls ≠ "java/lang/invoke/MethodHandle" ∧ (ba_y M).cls ≠ "java/lang/invoke/VarHandle" ∧ (parseMethodDescriptor (ba_y M).desc).map (fun d => d.parameters.length) = some (ba_na M)) &&
  (match ba_kind M with
    | 0 => ba_word (ba_pS M) (.static (ba_y M))
    | 1 => ba_word (ba_pS M) (.instanceMethod (ba_y M)) && (ba_word (ba_pX M) (.selects (ba_y M).cls (ba_y M) (ba_y M)) && (Nat.blt (ba_ci M) vwCl.length && decide (ba_nm (ba_ci M) = (ba_y M).cls)))
    | _ => ba_word (ba_pS M) (.instanceMethod (ba_y M)) && (decide ((ba_y M).name = "<init>") && decide (ba_ret M = none)))))))
def ba_ok (M : ba_M) : Prop := (ba_rows M).all (ba_chk M) = true ∧ ba_chkM M = true
/-- the tables of the classes -/
def ba_chkC (k : Nat) : Bool := ba_word (ba_pN_of k) (.instantiable (ba_nm k) (ba_cls k).2.2) && (ba_word (ba_pI_of k) (.initialized (ba_nm k)) && (Nat.beq (ba_df k).length (ba_cls k).2.2 && ((List.range (ba_cls k).2.2).all (fun j => decide (parseFieldDescriptor ((ba_cls k).2.1 j).2.2.1 = some (ba_ty k j)) && (decide (defaultValue (ba_ty k j) = vp_V (ba_df k) j) && ba_word (ba_pF_of k j) (u_lay (ba_nm k) (ba_cls k).2.1 j))) &&
  (List.range (ba_cls k).2.2).all (fun a => (List.range (ba_cls k).2.2).all (fun b => Nat.beq a b || decide (((ba_cls k).2.1 a).2.1 ≠ ((ba_cls k).2.1 b).2.1))))))
theorem ba_classes : (List.range 8).all ba_chkC = true := by decide +kernel
