/-! A pure machine for straight Java: rows of decoded instructions run over a list of cells; what a run needs is said by a wp. -/
abbrev ba_Row : Type := Nat × Instr × Nat × Nat × Nat × Nat
abbrev ba_A : Type := List Int32 ⊕ List Int64 ⊕ List (Option Nat)
abbrev ba_E : Type := (FieldType × ba_A) ⊕ (Nat × List Value)
abbrev ba_W : Type := List ba_E
abbrev ba_L : Type := List (Option Value)
/-- a method: name, code, locals, answer, kind (0 static, 1 virtual, 2 constructor, 3 the law), how many arguments, class, places of its words (code, static or instance, selects, initialized), room (frames, locals, cells, slots), rows -/
abbrev ba_M : Type := (MethodName × ByteArray × Nat × Option FieldType × Nat × Nat × Nat) × (Nat × Nat × Nat × Nat) × (Nat × Nat × Nat × Nat) × List ba_Row
def ba_y (M : ba_M) : MethodName := M.1.1
def ba_code (M : ba_M) : ByteArray := M.1.2.1
def ba_mL (M : ba_M) : Nat := M.1.2.2.1
def ba_ret (M : ba_M) : Option FieldType := M.1.2.2.2.1
def ba_kind (M : ba_M) : Nat := M.1.2.2.2.2.1
def ba_na (M : ba_M) : Nat := M.1.2.2.2.2.2.1
def ba_ci (M : ba_M) : Nat := M.1.2.2.2.2.2.2
def ba_pC (M : ba_M) : Nat := M.2.1.1
def ba_pS (M : ba_M) : Nat := M.2.1.2.1
def ba_pX (M : ba_M) : Nat := M.2.1.2.2.1
def ba_pI (M : ba_M) : Nat := M.2.1.2.2.2
def ba_fr (M : ba_M) : Nat := M.2.2.1.1
def ba_lo (M : ba_M) : Nat := M.2.2.1.2.1
def ba_ce (M : ba_M) : Nat := M.2.2.1.2.2.1
def ba_sl (M : ba_M) : Nat := M.2.2.1.2.2.2
def ba_rows (M : ba_M) : List ba_Row := M.2.2.2
def ba_room (M : ba_M) : Room := { frames := ba_fr M, cells := ba_ce M, slots := ba_sl M, locals := ba_lo M }
def ba_find : List ba_Row → Nat → Option ba_Row
  | [], _ => none
  | q :: l, pc => bif Nat.beq q.1 pc then some q else ba_find l pc
/-- locals -/
def ba_get : ba_L → Nat → Option Value
  | [], _ => none
  | a :: _, 0 => a
  | _ :: l, i + 1 => ba_get l i
def ba_clr : Option Value → Option Value
  | some (.long _) => none
  | some (.double _) => none
  | v => v
def ba_put : ba_L → Nat → Value → (ba_L → Prop) → Prop
  | [], _, _, _ => False
  | _ :: l, 0, v, k => k (some v :: l)
  | a :: b :: l, 1, v, k => ba_put (b :: l) 0 v (fun l' => match a with
    | some (.long _) => k (none :: l')
    | some (.double _) => k (none :: l')
    | some (.int x) => k (some (.int x) :: l')
    | some (.ref x) => k (some (.ref x) :: l')
    | some .null => k (some .null :: l')
    | none => k (none :: l')
    | _ => False)
  | a :: l, i + 1, v, k => ba_put l i v (fun l' => k (a :: l'))
def ba_put2 : ba_L → Nat → Value → (ba_L → Prop) → Prop
  | _ :: _ :: l, 0, v, k => k (some v :: none :: l)
  | a :: b :: l, 1, v, k => ba_put2 (b :: l) 0 v (fun l' => match a with
    | some (.long _) => k (none :: l')
    | some (.double _) => k (none :: l')
    | some (.int x) => k (some (.int x) :: l')
    | some (.ref x) => k (some (.ref x) :: l')
    | some .null => k (some .null :: l')
    | none => k (none :: l')
    | _ => False)
  | a :: l, i + 1, v, k => ba_put2 l i v (fun l' => k (a :: l'))
  | _, _, _, _ => False
def ba_sl1 : List Value → ba_L
  | [] => []
  | .long x :: l => some (.long x) :: none :: ba_sl1 l
  | .double x :: l => some (.double x) :: none :: ba_sl1 l
  | v :: l => some v :: ba_sl1 l
def ba_pad : ba_L → Nat → ba_L
  | l, 0 => l
  | [], n + 1 => none :: ba_pad [] n
  | a :: l, n + 1 => a :: ba_pad l n
def ba_pop : Nat → List Value → List Value → (List Value → List Value → Prop) → Prop
  | 0, st, acc, k => k acc st
  | n + 1, v :: st, acc, k => ba_pop n st (v :: acc) k
  | _ + 1, [], _, _ => False
/-- cells; the reference 0 is the script, i + 1 is cell i -/
def ba_fld (w : ba_W) (a ci k : Nat) : Option Value := match a with
  | 0 => none
  | i + 1 => match w[i]? with
    | some (.inr (cj, fs)) => if cj = ci then fs[k]? else none
    | _ => none
def ba_isC (w : ba_W) (a ci : Nat) : Bool := match a with
  | 0 => false
  | i + 1 => match w[i]? with
    | some (.inr (cj, _)) => Nat.beq cj ci
    | _ => false
def ba_fitv : FieldType → Value → Bool
  | .int, .int _ => true
  | .object _, .ref _ => true
  | .array _, .ref _ => true
  | _, _ => false
def ba_setF (ty : FieldType) (w : ba_W) (a ci k : Nat) (v : Value) : Option ba_W := match a with
  | 0 => none
  | i + 1 => match w[i]? with
    | some (.inr (cj, fs)) => if cj = ci then if k < fs.length then if ba_fitv ty v = true then some (w.set i (.inr (cj, fs.set k v))) else none else none else none
    | _ => none
def ba_at {α : Type} (l : List α) (i : Int32) : Option α := if i < 0 then none else l[i.toNatClampNeg]?
def ba_ldI (xs : Option (List Int32)) (w : ba_W) (a : Nat) (i : Int32) : Option Int32 := match a with
  | 0 => match xs with
    | some l => ba_at l i
    | none => none
  | j + 1 => match w[j]? with
    | some (.inl (.int, .inl l)) => ba_at l i
    | _ => none
def ba_ldJ (w : ba_W) (a : Nat) (i : Int32) : Option Int64 := match a with
  | 0 => none
  | j + 1 => match w[j]? with
    | some (.inl (.long, .inr (.inl l))) => ba_at l i
    | _ => none
def ba_rf : Option Nat → Value
  | none => .null
  | some a => .ref (a + 1)
def ba_ldR (w : ba_W) (a : Nat) (i : Int32) : Option Value := match a with
  | 0 => none
  | j + 1 => match w[j]? with
    | some (.inl (.object _, .inr (.inr l))) => (ba_at l i).map ba_rf
    | _ => none
def ba_up {α : Type} (l : List α) (i : Int32) (x : α) : Option (List α) := if i < 0 then none else if i.toNatClampNeg < l.length then some (l.set i.toNatClampNeg x) else none
def ba_stI (w : ba_W) (a : Nat) (i x : Int32) : Option ba_W := match a with
  | 0 => none
  | j + 1 => match w[j]? with
    | some (.inl (.int, .inl l)) => (ba_up l i x).map (fun l' => w.set j (.inl (.int, .inl l')))
    | _ => none
def ba_stJ (w : ba_W) (a : Nat) (i : Int32) (x : Int64) : Option ba_W := match a with
  | 0 => none
  | j + 1 => match w[j]? with
    | some (.inl (.long, .inr (.inl l))) => (ba_up l i x).map (fun l' => w.set j (.inl (.long, .inr (.inl l'))))
    | _ => none
def ba_stR (w : ba_W) (a : Nat) (i : Int32) (b : Nat) : Option ba_W := match a, b with
  | j + 1, o + 1 => match w[j]?, w[o]? with
    | some (.inl (.object C, .inr (.inr l))), some (.inr (ci, _)) => match vwCl[ci]? with
      | some r => if C = r.1 then (ba_up l i (some o)).map (fun l' => w.set j (.inl (.object C, .inr (.inr l')))) else none
      | none => none
    | _, _ => none
  | _, _ => none
def ba_len (xs : Option (List Int32)) (w : ba_W) (a : Nat) : Option Int32 := match a with
  | 0 => match xs with
    | some l => some (Int32.ofNat l.length)
    | none => none
  | j + 1 => match w[j]? with
    | some (.inl (_, .inl l)) => some (Int32.ofNat l.length)
    | some (.inl (_, .inr (.inl l))) => some (Int32.ofNat l.length)
    | some (.inl (_, .inr (.inr l))) => some (Int32.ofNat l.length)
    | _ => none
/-- n numbers of f from place sp on, laid into g from place dp on -/
def ba_cpy (f g : List Int32) (sp dp n : Nat) : List Int32 := g.take dp ++ (f.drop sp).take n ++ g.drop (dp + n)
def ba_copy (w : ba_W) (a0 : Nat) (sp : Int32) (a : Nat) (dp n : Int32) : Option ba_W := match a0, a with
  | i + 1, j + 1 => match w[i]?, w[j]? with
    | some (.inl (.int, .inl f)), some (.inl (.int, .inl g)) =>
      if ¬ sp < 0 ∧ ¬ dp < 0 ∧ ¬ n < 0 ∧ sp.toNatClampNeg + n.toNatClampNeg ≤ f.length ∧ dp.toNatClampNeg + n.toNatClampNeg ≤ g.length then
        some (w.set j (.inl (.int, .inl (ba_cpy f g sp.toNatClampNeg dp.toNatClampNeg n.toNatClampNeg)))) else none
    | _, _ => none
  | _, _ => none
def ba_def : FieldType → Value
  | .int => .int 0
  | .boolean => .int 0
  | .long => .long 0
  | _ => .null
def ba_toI (v : Int) : Int32 := Int32.ofInt v
/-- a switch's table: the number of its first entry, the targets -/
def ba_sw (x : Int) (k : Nat → Prop) : Int → List Nat → Prop
  | _, [] => True
  | lo, t :: l => (x = lo → k t) ∧ ba_sw x k (lo + 1) l
def ba_lsw (x : Int) (k : Nat → Prop) (d : Nat) : List (Int × Nat) → Prop
  | [] => k d
  | (a, t) :: l => (x = a → k t) ∧ (¬ x = a → ba_lsw x k d l)
