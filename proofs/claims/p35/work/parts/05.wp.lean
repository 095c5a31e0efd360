/-! what one row wants of the world, and what comes of it -/
abbrev ba_K : Type := Nat → ba_L → List Value → ba_W → Nat → Nat → Prop
abbrev ba_P : Type := Option Value → ba_W → Prop
abbrev ba_G : Type := Nat → Nat → ba_L → List Value → ba_W → Nat → Nat → ba_P → Prop
def ba_ldA (i : Nat) (nx : Nat) (L : ba_L) (st : List Value) (w : ba_W) (c z : Nat) (K : ba_K) : Prop := match ba_get L i with
  | some (.ref a) => K nx L (.ref a :: st) w c z
  | some .null => K nx L (.null :: st) w c z
  | _ => False
def ba_ldi (i : Nat) (nx : Nat) (L : ba_L) (st : List Value) (w : ba_W) (c z : Nat) (K : ba_K) : Prop := match ba_get L i with
  | some (.int a) => K nx L (.int a :: st) w c z
  | _ => False
def ba_ldl (i : Nat) (nx : Nat) (L : ba_L) (st : List Value) (w : ba_W) (c z : Nat) (K : ba_K) : Prop := match ba_get L i with
  | some (.long a) => K nx L (.long a :: st) w c z
  | _ => False
def ba_sta (i : Nat) (nx : Nat) (L : ba_L) (st : List Value) (w : ba_W) (c z : Nat) (K : ba_K) : Prop := match st with
  | .ref a :: r => ba_put L i (.ref a) (fun L' => K nx L' r w c z)
  | .null :: r => ba_put L i .null (fun L' => K nx L' r w c z)
  | _ => False
def ba_sti (i : Nat) (nx : Nat) (L : ba_L) (st : List Value) (w : ba_W) (c z : Nat) (K : ba_K) : Prop := match st with
  | .int a :: r => ba_put L i (.int a) (fun L' => K nx L' r w c z)
  | _ => False
def ba_stl (i : Nat) (nx : Nat) (L : ba_L) (st : List Value) (w : ba_W) (c z : Nat) (K : ba_K) : Prop := match st with
  | .long a :: r => ba_put2 L i (.long a) (fun L' => K nx L' r w c z)
  | _ => False
def ba_ii (f : Int32 → Int32 → Int32) (nx : Nat) (L : ba_L) (st : List Value) (w : ba_W) (c z : Nat) (K : ba_K) : Prop := match st with
  | .int y :: .int x :: r => K nx L (.int (f x y) :: r) w c z
  | _ => False
def ba_iid (f : Int32 → Int32 → Int32) (nx : Nat) (L : ba_L) (st : List Value) (w : ba_W) (c z : Nat) (K : ba_K) : Prop := match st with
  | .int y :: .int x :: r => (¬ y = 0) ∧ K nx L (.int (f x y) :: r) w c z
  | _ => False
def ba_ll (f : Int64 → Int64 → Int64) (nx : Nat) (L : ba_L) (st : List Value) (w : ba_W) (c z : Nat) (K : ba_K) : Prop := match st with
  | .long y :: .long x :: r => K nx L (.long (f x y) :: r) w c z
  | _ => False
def ba_lld (f : Int64 → Int64 → Int64) (nx : Nat) (L : ba_L) (st : List Value) (w : ba_W) (c z : Nat) (K : ba_K) : Prop := match st with
  | .long y :: .long x :: r => (¬ y = 0) ∧ K nx L (.long (f x y) :: r) w c z
  | _ => False
def ba_i1 (f : Int32 → Value) (nx : Nat) (L : ba_L) (st : List Value) (w : ba_W) (c z : Nat) (K : ba_K) : Prop := match st with
  | .int x :: r => K nx L (f x :: r) w c z
  | _ => False
def ba_br1 (C : Int32 → Prop) (nx t : Nat) (L : ba_L) (st : List Value) (w : ba_W) (c z : Nat) (K : ba_K) : Prop := match st with
  | .int x :: r => (C x → K t L r w c z) ∧ (¬ C x → K nx L r w c z)
  | _ => False
def ba_br2 (C : Int32 → Int32 → Prop) (nx t : Nat) (L : ba_L) (st : List Value) (w : ba_W) (c z : Nat) (K : ba_K) : Prop := match st with
  | .int y :: .int x :: r => (C x y → K t L r w c z) ∧ (¬ C x y → K nx L r w c z)
  | _ => False
def ba_call (G : ba_G) (M : ba_M) (mu : Nat) (M' : ba_M) (nx : Nat) (L : ba_L) (st : List Value) (w : ba_W) (c z : Nat) (K : ba_K) : Prop :=
  ba_pop (ba_na M') st [] (fun As r => match ba_kind M' with
    | 0 => (Nat.ble (ba_sl1 As).length (ba_mL M') && (Nat.ble (c + ba_ce M') (ba_ce M) && (Nat.ble (z + ba_sl M') (ba_sl M) && Nat.ble (r.map fun v => v.category).sum 8))) = true ∧ G mu 0 (ba_pad (ba_sl1 As) (ba_mL M')) [] w 0 0 (fun v w1 => K nx L (v.toList ++ r) w1 (c + ba_ce M') (z + ba_sl M'))
    | 1 => match r with
      | .ref o :: r' => (Nat.ble (ba_sl1 (Value.ref o :: As)).length (ba_mL M') && (Nat.ble (c + ba_ce M') (ba_ce M) && (Nat.ble (z + ba_sl M') (ba_sl M) && (Nat.ble (r'.map fun v => v.category).sum 8 && ba_isC w o (ba_ci M'))))) = true ∧ G mu 0 (ba_pad (ba_sl1 (.ref o :: As)) (ba_mL M')) [] w 0 0 (fun v w1 => K nx L (v.toList ++ r') w1 (c + ba_ce M') (z + ba_sl M'))
      | _ => False
    | 2 => match r with
      | .ref (o + 1) :: r' => (Nat.ble (ba_sl1 (Value.ref (o + 1) :: As)).length (ba_mL M') && (Nat.ble (c + ba_ce M') (ba_ce M) && (Nat.ble (z + ba_sl M') (ba_sl M) && Nat.ble (r'.map fun v => v.category).sum 8))) = true ∧ G mu 0 (ba_pad (ba_sl1 (.ref (o + 1) :: As)) (ba_mL M')) [] w 0 0 (fun v w1 => K nx L (v.toList ++ r') w1 (c + ba_ce M') (z + ba_sl M'))
      | _ => False
    | _ => False)
def ba_k (G : ba_G) (xs : Option (List Int32)) (M : ba_M) (q : ba_Row) (L : ba_L) (st : List Value) (w : ba_W) (c z : Nat) (P : ba_P) (K : ba_K) : Prop :=
  match q.2.1 with
  | .aload_n k => ba_ldA k q.2.2.1 L st w c z K
  | .aload k => ba_ldA k q.2.2.1 L st w c z K
  | .iload_n k => ba_ldi k q.2.2.1 L st w c z K
  | .iload k => ba_ldi k q.2.2.1 L st w c z K
  | .lload_n k => ba_ldl k q.2.2.1 L st w c z K
  | .lload k => ba_ldl k q.2.2.1 L st w c z K
  | .astore_n k => ba_sta k q.2.2.1 L st w c z K
  | .astore k => ba_sta k q.2.2.1 L st w c z K
  | .istore_n k => ba_sti k q.2.2.1 L st w c z K
  | .istore k => ba_sti k q.2.2.1 L st w c z K
  | .lstore_n k => ba_stl k q.2.2.1 L st w c z K
  | .lstore k => ba_stl k q.2.2.1 L st w c z K
  | .iconst n => K q.2.2.1 L (.int (Int32.ofInt n) :: st) w c z
  | .bipush n => K q.2.2.1 L (.int (Int8.ofInt n).toInt32 :: st) w c z
  | .sipush n => K q.2.2.1 L (.int (Int16.ofInt n).toInt32 :: st) w c z
  | .lconst n => K q.2.2.1 L (.long (Int64.ofNat (n : Nat)) :: st) w c z
  | .ldc _ => K q.2.2.1 L (.int (Int32.ofNat q.2.2.2.1) :: st) w c z
  | .ldc_w _ => K q.2.2.1 L (.int (Int32.ofNat q.2.2.2.1) :: st) w c z
  | .ldc2_w _ => K q.2.2.1 L (.long (Int64.ofNat q.2.2.2.1) :: st) w c z
  | .aconst_null => K q.2.2.1 L (.null :: st) w c z
  | .iadd => ba_ii (fun x y => x + y) q.2.2.1 L st w c z K
  | .isub => ba_ii (fun x y => x - y) q.2.2.1 L st w c z K
  | .imul => ba_ii (fun x y => x * y) q.2.2.1 L st w c z K
  | .iand => ba_ii (fun x y => x &&& y) q.2.2.1 L st w c z K
  | .ior => ba_ii (fun x y => x ||| y) q.2.2.1 L st w c z K
  | .ixor => ba_ii (fun x y => x ^^^ y) q.2.2.1 L st w c z K
  | .ishl => ba_ii (fun x y => x <<< (y &&& 31)) q.2.2.1 L st w c z K
  | .ishr => ba_ii (fun x y => x >>> (y &&& 31)) q.2.2.1 L st w c z K
  | .iushr => ba_ii (fun x y => (x.toUInt32 >>> (y.toUInt32 &&& Int32.toUInt32 31)).toInt32) q.2.2.1 L st w c z K
  | .idiv => ba_iid (fun x y => x / y) q.2.2.1 L st w c z K
  | .irem => ba_iid (fun x y => x - x / y * y) q.2.2.1 L st w c z K
  | .ladd => ba_ll (fun x y => x + y) q.2.2.1 L st w c z K
  | .lsub => ba_ll (fun x y => x - y) q.2.2.1 L st w c z K
  | .lmul => ba_ll (fun x y => x * y) q.2.2.1 L st w c z K
  | .ldiv => ba_lld (fun x y => x / y) q.2.2.1 L st w c z K
  | .lrem => ba_lld (fun x y => x - x / y * y) q.2.2.1 L st w c z K
  | .lcmp => match st with
    | .long y :: .long x :: r => K q.2.2.1 L (.int (lg_cmp x y) :: r) w c z
    | _ => False
  | .i2l => ba_i1 (fun x => .long x.toInt64) q.2.2.1 L st w c z K
  | .l2i => match st with
    | .long x :: r => K q.2.2.1 L (.int x.toInt32 :: r) w c z
    | _ => False
  | .i2b => ba_i1 (fun x => .int x.toInt8.toInt32) q.2.2.1 L st w c z K
  | .i2s => ba_i1 (fun x => .int x.toInt16.toInt32) q.2.2.1 L st w c z K
  | .iinc i n => match ba_get L i with
    | some (.int x) => ba_put L i (.int (x + Int32.ofInt n)) (fun L' => K q.2.2.1 L' st w c z)
    | _ => False
  | .dup => match st with
    | .int v :: r => K q.2.2.1 L (.int v :: .int v :: r) w c z
    | .ref v :: r => K q.2.2.1 L (.ref v :: .ref v :: r) w c z
    | _ => False
  | .dup2 => match st with
    | .int v :: .ref u :: r => K q.2.2.1 L (.int v :: .ref u :: .int v :: .ref u :: r) w c z
    | .int v :: .int u :: r => K q.2.2.1 L (.int v :: .int u :: .int v :: .int u :: r) w c z
    | _ => False
  | .ifCond .eq _ => ba_br1 (fun x => x = 0) q.2.2.1 q.2.2.2.1 L st w c z K
  | .ifCond .ne _ => ba_br1 (fun x => ¬ x = 0) q.2.2.1 q.2.2.2.1 L st w c z K
  | .ifCond .lt _ => ba_br1 (fun x => x < 0) q.2.2.1 q.2.2.2.1 L st w c z K
  | .ifCond .ge _ => ba_br1 (fun x => 0 ≤ x) q.2.2.1 q.2.2.2.1 L st w c z K
  | .ifCond .gt _ => ba_br1 (fun x => 0 < x) q.2.2.1 q.2.2.2.1 L st w c z K
  | .ifCond .le _ => ba_br1 (fun x => x ≤ 0) q.2.2.1 q.2.2.2.1 L st w c z K
  | .if_icmp .eq _ => ba_br2 (fun x y => x = y) q.2.2.1 q.2.2.2.1 L st w c z K
  | .if_icmp .ne _ => ba_br2 (fun x y => ¬ x = y) q.2.2.1 q.2.2.2.1 L st w c z K
  | .if_icmp .lt _ => ba_br2 (fun x y => x < y) q.2.2.1 q.2.2.2.1 L st w c z K
  | .if_icmp .ge _ => ba_br2 (fun x y => y ≤ x) q.2.2.1 q.2.2.2.1 L st w c z K
  | .if_icmp .gt _ => ba_br2 (fun x y => y < x) q.2.2.1 q.2.2.2.1 L st w c z K
  | .if_icmp .le _ => ba_br2 (fun x y => x ≤ y) q.2.2.1 q.2.2.2.1 L st w c z K
  | .ifnull _ => match st with
    | .null :: r => K q.2.2.2.1 L r w c z
    | .ref _ :: r => K q.2.2.1 L r w c z
    | _ => False
  | .ifnonnull _ => match st with
    | .null :: r => K q.2.2.1 L r w c z
    | .ref _ :: r => K q.2.2.2.1 L r w c z
    | _ => False
  | .goto _ => K q.2.2.2.1 L st w c z
  | .tableswitch _ lo hi _ => match st with
    | .int x :: r => ((x.toInt < lo ∨ hi < x.toInt) → K q.2.2.2.2.1 L r w c z) ∧ ba_sw x.toInt (fun t => K t L r w c z) lo (ba_tg q.2.2.2.1)
    | _ => False
  | .lookupswitch _ _ => match st with
    | .int x :: r => ba_lsw x.toInt (fun t => K t L r w c z) q.2.2.2.2.1 (ba_lt q.2.2.2.1)
    | _ => False
  | .getfield _ => match st with
    | .ref a :: r => ∃ v, ba_fld w a q.2.2.2.1 q.2.2.2.2.1 = some v ∧ K q.2.2.1 L (v :: r) w c z
    | _ => False
  | .putfield _ => match st with
    | .int v :: .ref a :: r => ∃ w', ba_setF (ba_ty q.2.2.2.1 q.2.2.2.2.1) w a q.2.2.2.1 q.2.2.2.2.1 (.int v) = some w' ∧ K q.2.2.1 L r w' c z
    | .ref v :: .ref a :: r => ∃ w', ba_setF (ba_ty q.2.2.2.1 q.2.2.2.2.1) w a q.2.2.2.1 q.2.2.2.2.1 (.ref v) = some w' ∧ K q.2.2.1 L r w' c z
    | _ => False
  | .iaload => match st with
    | .int i :: .ref a :: r => ∃ x, ba_ldI xs w a i = some x ∧ K q.2.2.1 L (.int x :: r) w c z
    | _ => False
  | .laload => match st with
    | .int i :: .ref a :: r => ∃ x, ba_ldJ w a i = some x ∧ K q.2.2.1 L (.long x :: r) w c z
    | _ => False
  | .aaload => match st with
    | .int i :: .ref a :: r => ∃ v, ba_ldR w a i = some v ∧ K q.2.2.1 L (v :: r) w c z
    | _ => False
  | .iastore => match st with
    | .int x :: .int i :: .ref a :: r => ∃ w', ba_stI w a i x = some w' ∧ K q.2.2.1 L r w' c z
    | _ => False
  | .lastore => match st with
    | .long x :: .int i :: .ref a :: r => ∃ w', ba_stJ w a i x = some w' ∧ K q.2.2.1 L r w' c z
    | _ => False
  | .aastore => match st with
    | .ref b :: .int i :: .ref a :: r => ∃ w', ba_stR w a i b = some w' ∧ K q.2.2.1 L r w' c z
    | _ => False
  | .arraylength => match st with
    | .ref a :: r => ∃ n, ba_len xs w a = some n ∧ K q.2.2.1 L (.int n :: r) w c z
    | _ => False
  | .newarray .int => match st with
    | .int n :: r => (decide (¬ n < 0) && (Nat.ble (n.toNatClampNeg * 4) 536870912 && (Nat.ble (c + 1) (ba_ce M) && Nat.ble (z + n.toNatClampNeg) (ba_sl M)))) = true ∧ K q.2.2.1 L (.ref (w.length + 1) :: r) (w ++ [.inl (.int, .inl (List.replicate n.toNatClampNeg 0))]) (c + 1) (z + n.toNatClampNeg)
    | _ => False
  | .newarray .long => match st with
    | .int n :: r => (decide (¬ n < 0) && (Nat.ble (n.toNatClampNeg * 8) 536870912 && (Nat.ble (c + 1) (ba_ce M) && Nat.ble (z + n.toNatClampNeg) (ba_sl M)))) = true ∧ K q.2.2.1 L (.ref (w.length + 1) :: r) (w ++ [.inl (.long, .inr (.inl (List.replicate n.toNatClampNeg 0)))]) (c + 1) (z + n.toNatClampNeg)
    | _ => False
  | .anewarray _ => match st with
    | .int n :: r => (decide (¬ n < 0) && (Nat.ble (n.toNatClampNeg * 4) 536870912 && (Nat.ble (c + 1) (ba_ce M) && Nat.ble (z + n.toNatClampNeg) (ba_sl M)))) = true ∧ K q.2.2.1 L (.ref (w.length + 1) :: r) (w ++ [.inl (.object (ba_nm q.2.2.2.1), .inr (.inr (List.replicate n.toNatClampNeg none)))]) (c + 1) (z + n.toNatClampNeg)
    | _ => False
  | .new _ => (Nat.ble (c + 1) (ba_ce M) && Nat.ble (z + (ba_df q.2.2.2.1).length) (ba_sl M)) = true ∧ K q.2.2.1 L (.ref (w.length + 1) :: st) (w ++ [.inr (q.2.2.2.1, ba_df q.2.2.2.1)]) (c + 1) (z + (ba_df q.2.2.2.1).length)
  | .invokevirtual _ => ba_call G M q.2.2.2.1 (ba_tab q.2.2.2.1) q.2.2.1 L st w c z K
  | .invokespecial _ => if q.2.2.2.1 = 9998 then (match st with
      | [.ref (_ + 1)] => K q.2.2.1 L [] w c z
      | _ => False)
    else ba_call G M q.2.2.2.1 (ba_tab q.2.2.2.1) q.2.2.1 L st w c z K
  | .invokestatic _ => if q.2.2.2.1 = 9997 then (match st with
      | .int y :: .int x :: r => (Nat.ble (r.map fun v => v.category).sum 8) = true ∧ K q.2.2.1 L (.int (if x < y then y else x) :: r) w c z
      | _ => False)
    else if q.2.2.2.1 = 9996 then (match st with
      | .int y :: .int x :: r => (Nat.ble (r.map fun v => v.category).sum 8) = true ∧ K q.2.2.1 L (.int (if y < x then y else x) :: r) w c z
      | _ => False)
    else if q.2.2.2.1 = 9999 then (match st with
      | [.int n, .int dp, .ref a, .int sp, .ref a0] => ∃ w', ba_copy w a0 sp a dp n = some w' ∧ K q.2.2.1 L [] w' c z
      | _ => False)
    else ba_call G M q.2.2.2.1 (ba_tab q.2.2.2.1) q.2.2.1 L st w c z K
  | .ireturn => match Nat.beq (ba_kind M) 3 || Nat.beq c (ba_ce M), st, ba_ret M with
    | true, [.int v], some .int => P (some (.int v)) w
    | true, [.int v], some .boolean => v &&& 1 = v ∧ P (some (.int v)) w
    | _, _, _ => False
  | .lreturn => match Nat.beq (ba_kind M) 3 || Nat.beq c (ba_ce M), st, ba_ret M with
    | true, [.long v], some .long => P (some (.long v)) w
    | _, _, _ => False
  | .areturn => match Nat.beq (ba_kind M) 3 || Nat.beq c (ba_ce M), st, ba_ret M with
    | true, [.ref v], some (.object _) => P (some (.ref v)) w
    | true, [.null], some (.object _) => P (some .null) w
    | _, _, _ => False
  | .return_ => match Nat.beq (ba_kind M) 3 || Nat.beq c (ba_ce M), st, ba_ret M with
    | true, [], none => P none w
    | _, _, _ => False
  | _ => False
def ba_wp (G : ba_G) (xs : Option (List Int32)) (M : ba_M) (rows : List ba_Row) : Nat → ba_G
  | 0, mu, pc, L, st, w, c, z, P => G mu pc L st w c z P
  | n + 1, mu, pc, L, st, w, c, z, P => match ba_find rows pc with
    | none => False
    | some q => ba_k G xs M q L st w c z P (fun pc' L' st' w' c' z' => ba_wp G xs M rows n mu pc' L' st' w' c' z' P)
