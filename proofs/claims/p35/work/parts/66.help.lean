/-! the law's helpers: numbers -/
theorem and_nI (v : Int32) {c : Nat} (hc : c < 2 ^ 31) : ∃ r, r ≤ c ∧ v &&& nI c = nI r := by
  refine ⟨v.toBitVec.toNat &&& c, Nat.and_le_right, ?_⟩
  have h : v.toBitVec.toNat &&& c ≤ c := Nat.and_le_right
  apply Int32.toBitVec_inj.mp
  rw [Int32.toBitVec_and]
  apply BitVec.eq_of_toNat_eq
  rw [BitVec.toNat_and]
  show v.toBitVec.toNat &&& (BitVec.ofNat 32 c).toNat = (BitVec.ofNat 32 (v.toBitVec.toNat &&& c)).toNat
  rw [BitVec.toNat_ofNat, BitVec.toNat_ofNat, Nat.mod_eq_of_lt (by omega), Nat.mod_eq_of_lt (by omega)]
theorem nI_mod {a b : Nat} (ha : a < 2 ^ 31) (hb : b < 2 ^ 31) : nI a - nI a / nI b * nI b = nI (a % b) := by
  have h := Nat.div_add_mod a b
  have h9 : a / b * b ≤ a := Nat.div_mul_le_self a b
  rw [nI_div ha hb, nI_mul, nI_sub h9 ha]
  congr 1
  rw [Nat.mul_comm] at h
  omega
theorem cz0 {c z : Nat} (hc : c ≤ 1000) (hz : z ≤ 20000) : (true && (Nat.ble (c + 0) 600000 && (Nat.ble (z + 0) 7302250 && true))) = true := by
  rw [Nat.ble_eq_true_of_le (show c + 0 ≤ 600000 by omega), Nat.ble_eq_true_of_le (show z + 0 ≤ 7302250 by omega)]
  rfl
def ty (x : Nat) : Nat := if x % 4 > 1 then 2 * (x / 32 + 1) else if x % 4 > 0 then x / 32 + 1 else x / 32
theorem px_k {x : Nat} (hx : x < 320) : nI x &&& Int32.ofInt 3 = nI (x % 4) := (by decide +kernel : ∀ x : Fin 320, nI x.1 &&& Int32.ofInt 3 = nI (x.1 % 4)) ⟨x, hx⟩
theorem px_o {x : Nat} (hx : x < 320) : (nI x >>> (Int32.ofInt 2 &&& 31)) &&& Int32.ofInt 1 = nI (x / 4 % 2) := (by decide +kernel : ∀ x : Fin 320, (nI x.1 >>> (Int32.ofInt 2 &&& 31)) &&& Int32.ofInt 1 = nI (x.1 / 4 % 2)) ⟨x, hx⟩
theorem px_m {x : Nat} (hx : x < 320) : (nI x >>> (Int32.ofInt 3 &&& 31)) &&& Int32.ofInt 3 = nI (x / 8 % 4) := (by decide +kernel : ∀ x : Fin 320, (nI x.1 >>> (Int32.ofInt 3 &&& 31)) &&& Int32.ofInt 3 = nI (x.1 / 8 % 4)) ⟨x, hx⟩
theorem px_n {x : Nat} (hx : x < 320) : nI x >>> (Int32.ofInt 5 &&& 31) = nI (x / 32) := (by decide +kernel : ∀ x : Fin 320, nI x.1 >>> (Int32.ofInt 5 &&& 31) = nI (x.1 / 32)) ⟨x, hx⟩
def pm (x v : Nat) : Nat := x % 8 + 8 * v + 32 * (x / 32)
theorem px_sm {x v : Nat} (hx : x < 320) (hv : v < 4) : (nI x &&& (Int8.ofInt (-25)).toInt32) ||| (nI v <<< (Int32.ofInt 3 &&& 31)) = nI (pm x v) := (by decide +kernel : ∀ (x : Fin 320) (v : Fin 4), (nI x.1 &&& (Int8.ofInt (-25)).toInt32) ||| (nI v.1 <<< (Int32.ofInt 3 &&& 31)) = nI (pm x.1 v.1)) ⟨x, hx⟩ ⟨v, hv⟩
theorem shl1 {x : Nat} (hx : x < 32) : nI x <<< (Int32.ofInt 1 &&& 31) = nI (2 * x) := (by decide +kernel : ∀ x : Fin 32, nI x.1 <<< (Int32.ofInt 1 &&& 31) = nI (2 * x.1)) ⟨x, hx⟩
/-! the law's helpers: the reading ones -/
section LB
variable {scr : Option (List Int32)} {P : ba_P} {w : ba_W} {f : Nat → Nat → Int32} {l : Nat → List Int32} {q : List (List Int32)}
theorem ldW (h : (l 42).length = 22) {i : Nat} (hi : i < 22) {x : Int32} (hx : x = nI i) : ∀ xs, ba_ldI xs (wW f l q) 43 x = some ((l 42).getD i 0) := fun xs => by
  subst hx
  rw [ldI_of (l := l 42) rfl (by rw [nI_toInt (by omega)]; omega) (by rw [nI_toInt (by omega), h]; omega), nI_clamp (by omega)]
theorem stW (h : (l 42).length = 22) {i : Nat} (hi : i < 22) {x v : Int32} (hx : x = nI i) : ba_stI (wW f l q) 43 x v = some (wW f (u1 l 42 ((l 42).set i v)) q) := by
  subst hx
  rw [stI_of (l := l 42) rfl (by rw [nI_toInt (by omega)]; omega) (by rw [nI_toInt (by omega), h]; omega), nI_clamp (by omega)]
  rfl
theorem s_Lcell {sc : List Int32} {j : Nat} {x : Int32} (hx : x = nI j) (hsc : sc.length ≤ 3072) (hj : j < 1000) (hP : ∀ v, P (some (.int v)) w) : ba_go (some sc) ix_L_cell 0 [some (.ref 0), some (.int x)] [] w 0 0 P := by
  subst hx
  refine run_L_cell 30 ?_
  refine Exists.intro _ (And.intro (rfl) ?_)
  refine And.intro (fun c => ?_) (fun c => ?_)
  · exact hP _
  · have c : ¬ nI sc.length ≤ nI j := c
    rw [le_i, nI_toInt (by omega), nI_toInt (by omega)] at c
    have e : ∀ w, ba_ldI (some sc) w 0 (nI j) = some (sc.getD (nI j).toNatClampNeg 0) := fun w => at_of (by rw [nI_toInt (by omega)]; omega) (by rw [nI_toInt (by omega)]; omega)
    refine Exists.intro _ (And.intro (e _) ?_)
    exact hP _
theorem s_Llow {m : Nat} {v x : Int32} (hx : x = nI m) (h0 : 0 < m) (hm : m < 1000) (hP : ∀ r, r < m → P (some (.int (nI r))) w) : ba_go scr ix_L_low 0 [some (.int v), some (.int x)] [] w 0 0 P := by
  subst hx
  obtain ⟨r, hr, e⟩ := and_nI v (c := 2147483647) (by decide)
  have h1 := hP (r % m) (Nat.mod_lt _ h0)
  rw [← nI_mod (by omega) (by omega), ← e] at h1
  refine run_L_low 30 ?_
  refine And.intro (fun g => ?_) h1
  have g : nI m = nI 0 := g
  rw [nI_eq (by omega) (by decide)] at g
  omega
theorem s_Loffice {p x : Nat} {y : Int32} (h : (l 42).length = 22) (hy : y = nI p) (hp : p < 6) (hx : (l 42).getD (16 + p) 0 = nI x) (hx3 : x < 320) (hP : P (some (.int (nI (x / 4 % 2)))) (wW f l q)) : ba_go scr ix_L_office 0 [some (.ref 43), some (.int y)] [] (wW f l q) 0 0 P := by
  subst hy
  rw [← px_o hx3, ← hx] at hP
  refine run_L_office 30 ?_
  refine Exists.intro _ (And.intro (ldW h (i := 16 + p) (by omega) (nI_add 16 p) _) ?_)
  exact hP
theorem s_Lmark {p x : Nat} {y : Int32} (h : (l 42).length = 22) (hy : y = nI p) (hp : p < 6) (hx : (l 42).getD (16 + p) 0 = nI x) (hx3 : x < 320) (hP : P (some (.int (nI (x / 8 % 4)))) (wW f l q)) : ba_go scr ix_L_mark 0 [some (.ref 43), some (.int y)] [] (wW f l q) 0 0 P := by
  subst hy
  rw [← px_m hx3, ← hx] at hP
  refine run_L_mark 30 ?_
  refine Exists.intro _ (And.intro (ldW h (i := 16 + p) (by omega) (nI_add 16 p) _) ?_)
  exact hP
theorem s_Lneck {p x : Nat} {y : Int32} (h : (l 42).length = 22) (hy : y = nI p) (hp : p < 6) (hx : (l 42).getD (16 + p) 0 = nI x) (hx3 : x < 320) (hP : P (some (.int (nI (x / 32)))) (wW f l q)) : ba_go scr ix_L_neck 0 [some (.ref 43), some (.int y)] [] (wW f l q) 0 0 P := by
  subst hy
  rw [← px_n hx3, ← hx] at hP
  refine run_L_neck 30 ?_
  refine Exists.intro _ (And.intro (ldW h (i := 16 + p) (by omega) (nI_add 16 p) _) ?_)
  exact hP
theorem s_Ltakes {p x : Nat} {y : Int32} (h : (l 42).length = 22) (hy : y = nI p) (hp : p < 6) (hx : (l 42).getD (16 + p) 0 = nI x) (hx3 : x < 320) (hP : P (some (.int (nI (ty x)))) (wW f l q)) : ba_go scr ix_L_takes 0 [some (.ref 43), some (.int y), none, none] [] (wW f l q) 0 0 P := by
  subst hy
  have i0 : (0 : Int32).toInt = 0 := rfl
  have i1 : (1 : Int32).toInt = 1 := rfl
  refine run_L_takes 8 ?_
  refine Exists.intro _ (And.intro (ldW h (i := 16 + p) (by omega) (nI_add 16 p) _) ?_)
  rw [hx]
  have ek := px_k hx3
  have go : ba_go scr ix_L_takes 9 [some (.ref 43), some (.int (nI p)), some (.int (nI (x % 4))), none] [] (wW f l q) 0 0 P := by
    refine run_L_takes 5 ?_
    refine And.intro rfl (s_Lneck h rfl hp hx hx3 ?_)
    have tail : ∀ its : Nat, its < 32 → ty x = (if x % 4 > 1 then 2 * its else its) → ba_go scr ix_L_takes 24 [some (.ref 43), some (.int (nI p)), some (.int (nI (x % 4))), none] [.int (nI its)] (wW f l q) 0 0 P := by
      intro its hi he
      refine run_L_takes 4 ?_
      refine And.intro (fun g => ?_) (fun g => ?_)
      · have g : nI (x % 4) ≤ nI 1 := g
        rw [le_i, nI_toInt (by omega), nI_toInt (by omega)] at g
        rw [if_neg (by omega)] at he
        refine run_L_takes 2 ?_
        rw [← he]
        exact hP
      · have g : ¬ nI (x % 4) ≤ nI 1 := g
        rw [le_i, nI_toInt (by omega), nI_toInt (by omega)] at g
        rw [if_pos (by omega)] at he
        refine run_L_takes 5 ?_
        have h1 := hP
        rw [he, ← shl1 hi] at h1
        exact h1
    refine And.intro (fun g => ?_) (fun g => ?_)
    · have g : nI (x % 4) ≤ nI 0 := g
      rw [le_i, nI_toInt (by omega), nI_toInt (by omega)] at g
      refine run_L_takes 2 ?_
      have t := tail (x / 32) (by omega) (by unfold ty; rw [if_neg (by omega), if_neg (by omega), if_neg (by omega)])
      have e : nI (x / 32) + 0 = nI (x / 32) := nI_add (x / 32) 0
      rw [← e] at t
      exact t
    · have g : ¬ nI (x % 4) ≤ nI 0 := g
      rw [le_i, nI_toInt (by omega), nI_toInt (by omega)] at g
      refine run_L_takes 3 ?_
      have t := tail (x / 32 + 1) (by omega) (by unfold ty; rw [if_pos (show x % 4 > 0 by omega)])
      have e : nI (x / 32) + 1 = nI (x / 32 + 1) := nI_1 (x / 32)
      rw [← e] at t
      exact t
  rw [← ek] at go
  exact go
theorem s_Lrule {m s : Nat} {x y : Int32} (h : (l 42).length = 22) (hx : x = nI m) (hy : y = nI s) (hm : m < 4) (hs : s < 3) (hP : P (some (.int ((l 42).getD (4 + (3 * m + s)) 0))) (wW f l q)) : ba_go scr ix_L_rule 0 [some (.ref 43), some (.int x), some (.int y)] [] (wW f l q) 0 0 P := by
  subst hx; subst hy
  have e : Int32.ofInt 4 + Int32.ofInt 3 * nI m + nI s = nI (4 + (3 * m + s)) := by
    show nI 4 + nI 3 * nI m + nI s = _
    rw [nI_mul, nI_add, nI_add, Nat.add_assoc]
  refine run_L_rule 30 ?_
  refine Exists.intro _ (And.intro (ldW h (i := 4 + (3 * m + s)) (by omega) e _) ?_)
  exact hP
theorem s_Lmarks {p x v : Nat} {y z : Int32} (h : (l 42).length = 22) (hy : y = nI p) (hz : z = nI v) (hp : p < 6) (hv : v < 4) (hx : (l 42).getD (16 + p) 0 = nI x) (hx3 : x < 320) (hP : P none (wW f (u1 l 42 ((l 42).set (16 + p) (nI (pm x v)))) q)) : ba_go scr ix_L_marks 0 [some (.ref 43), some (.int y), some (.int z)] [] (wW f l q) 0 0 P := by
  subst hy; subst hz
  have e := px_sm hx3 hv
  rw [← e, ← hx] at hP
  refine run_L_marks 30 ?_
  refine Exists.intro _ (And.intro (ldW h (i := 16 + p) (by omega) (nI_add 16 p) _) ?_)
  refine Exists.intro _ (And.intro (stW h (i := 16 + p) (by omega) (nI_add 16 p)) ?_)
  exact hP
theorem s_Lpower {N : Nat} {x : Int32} (hx : x = nI N) (hN : N < 10) (hP : P (some (.int (nI (3 ^ N)))) w) : ba_go scr ix_L_power 0 [some (.int x), none, none] [] w 0 0 P := by
  subst hx
  have loop : ∀ (m j : Nat) (x y : Int32), j + m = N → x = nI j → y = nI (3 ^ j) → ba_go scr ix_L_power 4 [some (.int (nI N)), some (.int y), some (.int x)] [] w 0 0 P := by
    intro m
    induction m with
    | zero =>
      intro j x y h1 h2 h3
      subst h2; subst h3
      have h4 : j = N := by omega
      subst h4
      refine run_L_power 10 ?_
      refine And.intro (fun _ => ?_) (fun e => absurd (by show nI j ≤ nI j; rw [le_i]; omega) e)
      exact hP
    | succ m ih =>
      intro j x y h1 h2 h3
      subst h2; subst h3
      refine run_L_power 9 ?_
      refine And.intro (fun e => absurd e (by show ¬ nI N ≤ nI j; rw [le_i, nI_toInt (by omega), nI_toInt (by omega)]; omega)) (fun _ => ?_)
      exact ih (j + 1) _ _ (by omega) (nI_1 j) (by rw [Nat.pow_succ]; exact nI_mul (3 ^ j) 3)
  refine run_L_power 4 ?_
  exact loop N 0 0 1 (by omega) rfl rfl
theorem pcb : ∀ v : Fin 64, v.1 ≠ 0 → nI v.1 &&& (nI v.1 - Int32.ofInt 1) = nI (v.1 &&& (v.1 - 1)) ∧ (v.1 &&& (v.1 - 1)) < v.1 ∧ c6 (bset (v.1 &&& (v.1 - 1))) + 1 = c6 (bset v.1) := by decide +kernel
theorem s_Lbits {g : Nat → Bool} {x : Int32} (hx : x = B6 g) (hP : P (some (.int (nI (c6 g)))) w) : ba_go scr ix_L_bits 0 [some (.int x), none, none] [] w 0 0 P := by
  subst hx
  have loop : ∀ (m v k : Nat) (x y : Int32), v ≤ m → v < 64 → x = nI k → y = nI v → k + c6 (bset v) = c6 g → ba_go scr ix_L_bits 4 [some (.int (B6 g)), some (.int x), some (.int y)] [] w 0 0 P := by
    intro m
    induction m with
    | zero =>
      intro v k x y h1 h2 h3 h4 h5
      have : v = 0 := by omega
      subst this
      subst h3; subst h4
      have e0 : c6 (bset 0) = 0 := by decide
      rw [e0, Nat.add_zero] at h5
      refine run_L_bits 5 ?_
      refine And.intro (fun _ => ?_) (fun e => absurd rfl e)
      rw [h5]
      exact hP
    | succ m ih =>
      intro v k x y h1 h2 h3 h4 h5
      by_cases hv : v = 0
      · exact ih v k x y (by omega) h2 h3 h4 h5
      · subst h3; subst h4
        obtain ⟨p1, p2, p3⟩ := pcb ⟨v, h2⟩ hv
        have p1 : nI v &&& (nI v - Int32.ofInt 1) = nI (v &&& (v - 1)) := p1
        have p2 : (v &&& (v - 1)) < v := p2
        have p3 : c6 (bset (v &&& (v - 1))) + 1 = c6 (bset v) := p3
        refine run_L_bits 10 ?_
        refine And.intro (fun e => absurd ((nI_eq (b := 0) (by omega) (by decide)).mp e) hv) (fun _ => ?_)
        exact ih (v &&& (v - 1)) (k + 1) _ _ (by omega) (by omega) (nI_1 k) p1 (by omega)
  refine run_L_bits 4 ?_
  refine loop 64 (v6 g) 0 0 _ (Nat.le_of_lt (v6_lt g)) (v6_lt g) rfl rfl ?_
  rw [Nat.zero_add]
  exact c6_congr (bset_v6 g)
end LB
