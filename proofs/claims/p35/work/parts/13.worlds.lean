/-! the world as numbers: f the class's fields, l the int arrays by cell (42: the law's people), q the law's further arrays -/
def tlE (a : List Int32) : ba_E := .inl (.int, .inl a)
def wW (f : Nat → Nat → Int32) (l : Nat → List Int32) (q : List (List Int32)) : ba_W :=
  .inr (7, [.ref 2, .ref 3, .ref 16, .ref 30, .ref 34, .int (f 0 5), .int (f 0 6)]) ::
  .inl (.object "StampRaids$Sheet", .inr (.inr [some 34, some 36, some 38, some 40])) ::
  .inr (6, [.ref 4, .ref 5, .ref 9, .int (f 2 3)]) ::
  .inl (.int, .inl (l 3)) ::
  .inr (4, [.ref 6, .ref 7, .ref 8]) ::
  .inl (.int, .inl (l 5)) ::
  .inl (.int, .inl (l 6)) ::
  .inl (.int, .inl (l 7)) ::
  .inl (.object "StampRaids$Person", .inr (.inr [some 9, some 10, some 11, some 12, some 13, some 14])) ::
  .inr (2, [.int (f 9 0), .int (f 9 1), .int (f 9 2), .int (f 9 3)]) ::
  .inr (2, [.int (f 10 0), .int (f 10 1), .int (f 10 2), .int (f 10 3)]) ::
  .inr (2, [.int (f 11 0), .int (f 11 1), .int (f 11 2), .int (f 11 3)]) ::
  .inr (2, [.int (f 12 0), .int (f 12 1), .int (f 12 2), .int (f 12 3)]) ::
  .inr (2, [.int (f 13 0), .int (f 13 1), .int (f 13 2), .int (f 13 3)]) ::
  .inr (2, [.int (f 14 0), .int (f 14 1), .int (f 14 2), .int (f 14 3)]) ::
  .inr (1, [.ref 17, .int (f 15 1), .int (f 15 2), .int (f 15 3)]) ::
  .inr (6, [.ref 18, .ref 19, .ref 23, .int (f 16 3)]) ::
  .inl (.int, .inl (l 17)) ::
  .inr (4, [.ref 20, .ref 21, .ref 22]) ::
  .inl (.int, .inl (l 19)) ::
  .inl (.int, .inl (l 20)) ::
  .inl (.int, .inl (l 21)) ::
  .inl (.object "StampRaids$Person", .inr (.inr [some 23, some 24, some 25, some 26, some 27, some 28])) ::
  .inr (2, [.int (f 23 0), .int (f 23 1), .int (f 23 2), .int (f 23 3)]) ::
  .inr (2, [.int (f 24 0), .int (f 24 1), .int (f 24 2), .int (f 24 3)]) ::
  .inr (2, [.int (f 25 0), .int (f 25 1), .int (f 25 2), .int (f 25 3)]) ::
  .inr (2, [.int (f 26 0), .int (f 26 1), .int (f 26 2), .int (f 26 3)]) ::
  .inr (2, [.int (f 27 0), .int (f 27 1), .int (f 27 2), .int (f 27 3)]) ::
  .inr (2, [.int (f 28 0), .int (f 28 1), .int (f 28 2), .int (f 28 3)]) ::
  .inr (3, [.ref 31, .ref 32, .ref 33, .int (f 29 3)]) ::
  .inl (.int, .inl (l 30)) ::
  .inl (.int, .inl (l 31)) ::
  .inr (2, [.int (f 32 0), .int (f 32 1), .int (f 32 2), .int (f 32 3)]) ::
  .inr (0, [.int (f 33 0)]) ::
  .inr (5, [.ref 36, .int (f 34 1), .int (f 34 2)]) ::
  .inl (.int, .inl (l 35)) ::
  .inr (5, [.ref 38, .int (f 36 1), .int (f 36 2)]) ::
  .inl (.int, .inl (l 37)) ::
  .inr (5, [.ref 40, .int (f 38 1), .int (f 38 2)]) ::
  .inl (.int, .inl (l 39)) ::
  .inr (5, [.ref 42, .int (f 40 1), .int (f 40 2)]) ::
  .inl (.int, .inl (l 41)) ::
  .inl (.int, .inl (l 42)) :: q.map tlE
def u2 (f : Nat → Nat → Int32) (i j : Nat) (v : Int32) : Nat → Nat → Int32 := fun a b => bif Nat.beq a i then (bif Nat.beq b j then v else f a b) else f a b
def u1 {α : Type} (l : Nat → α) (i : Nat) (v : α) : Nat → α := fun a => bif Nat.beq a i then v else l a
