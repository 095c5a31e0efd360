/-! runs of the pure machine: the least judgement that is closed under its rows -/
def ba_cl (scr : Option (List Int32)) (G : ba_G) : Prop :=
  (∀ (mu pc : Nat) (q : ba_Row) (L : ba_L) (st : List Value) (w : ba_W) (c z : Nat) (P : ba_P) (K : ba_K), ba_find (ba_rows (ba_tab mu)) pc = some q → ba_k G (ba_xs (ba_tab mu) scr) (ba_tab mu) q L st w c z P K → (∀ pc' L' st' w' c' z', K pc' L' st' w' c' z' → G mu pc' L' st' w' c' z' P) → G mu pc L st w c z P) ∧
  ∀ (mu pc : Nat) (L L' : ba_L) (st : List Value) (w : ba_W) (c z : Nat) (P : ba_P), ba_le L' L → G mu pc L' st w c z P → G mu pc L st w c z P
def ba_go (scr : Option (List Int32)) : ba_G := fun mu pc L st w c z P => ∀ G : ba_G, ba_cl scr G → G mu pc L st w c z P
theorem ba_pop_mono {k k' : List Value → List Value → Prop} (h : ∀ As r, k As r → k' As r) : ∀ (n : Nat) (st acc : List Value), ba_pop n st acc k → ba_pop n st acc k'
  | 0, _, _, q => h _ _ q
  | n + 1, [], _, q => q.elim
  | n + 1, v :: st, acc, q => ba_pop_mono h n st (v :: acc) q
theorem ba_call_mono {G G' : ba_G} (hG : ∀ mu pc L st w c z P, G mu pc L st w c z P → G' mu pc L st w c z P) {M : ba_M} {mu : Nat} {M' : ba_M} {nx : Nat} {L : ba_L} {st : List Value} {w : ba_W} {c z : Nat} {K : ba_K} (h : ba_call G M mu M' nx L st w c z K) : ba_call G' M mu M' nx L st w c z K := by
  unfold ba_call at h ⊢
  refine ba_pop_mono (fun As r => ?_) _ _ _ h
  intro h
  generalize ba_kind M' = kd at h ⊢
  match kd, h with
  | 0, h => exact ⟨h.1, hG _ _ _ _ _ _ _ _ h.2⟩
  | 1, h =>
    match r, h with
    | .ref o :: r', h => exact ⟨h.1, hG _ _ _ _ _ _ _ _ h.2⟩
  | 2, h =>
    match r, h with
    | .ref (o + 1) :: r', h => exact ⟨h.1, hG _ _ _ _ _ _ _ _ h.2⟩
theorem ba_k_mono {G G' : ba_G} (hG : ∀ mu pc L st w c z P, G mu pc L st w c z P → G' mu pc L st w c z P) {xs : Option (List Int32)} {M : ba_M} {q : ba_Row} {L : ba_L} {st : List Value} {w : ba_W} {c z : Nat} {P : ba_P} {K : ba_K} (h : ba_k G xs M q L st w c z P K) : ba_k G' xs M q L st w c z P K := by
  obtain ⟨pc, ins, nx, r1, r2, pl⟩ := q
  cases ins with
  | invokevirtual i => exact ba_call_mono hG h
  | invokespecial i =>
    unfold ba_k at h ⊢
    dsimp only at h ⊢
    by_cases h8 : r1 = 9998
    · rw [if_pos h8] at h ⊢; exact h
    · rw [if_neg h8] at h ⊢; exact ba_call_mono hG h
  | invokestatic i =>
    unfold ba_k at h ⊢
    dsimp only at h ⊢
    by_cases h7 : r1 = 9997
    · rw [if_pos h7] at h ⊢; exact h
    · rw [if_neg h7] at h ⊢
      by_cases h6 : r1 = 9996
      · rw [if_pos h6] at h ⊢; exact h
      · rw [if_neg h6] at h ⊢
        by_cases h9 : r1 = 9999
        · rw [if_pos h9] at h ⊢; exact h
        · rw [if_neg h9] at h ⊢; exact ba_call_mono hG h
  | if_icmp cond off => cases cond <;> exact h
  | ifCond cond off => cases cond <;> exact h
  | newarray t => cases t <;> exact h
  | _ => exact h
theorem ba_go_cl (scr : Option (List Int32)) : ba_cl scr (ba_go scr) := by
  refine ⟨fun mu pc q L st w c z P K hf hk hK G hG => ?_, fun mu pc L L' st w c z P hle h G hG => hG.2 _ _ _ _ _ _ _ _ _ hle (h G hG)⟩
  exact hG.1 mu pc q L st w c z P K hf (ba_k_mono (fun mu pc L st w c z P h => h G hG) hk) (fun pc' L' st' w' c' z' h => hK _ _ _ _ _ _ h G hG)
theorem ba_le.weak {scr : Option (List Int32)} {mu pc : Nat} {L L' : ba_L} {st : List Value} {w : ba_W} {c z : Nat} {P : ba_P} (h : ba_le L' L) (hg : ba_go scr mu pc L' st w c z P) : ba_go scr mu pc L st w c z P := (ba_go_cl scr).2 _ _ _ _ _ _ _ _ _ h hg
/-- n rows at most, then on -/
theorem ba_run {scr xs : Option (List Int32)} {M : ba_M} {rows : List ba_Row} {mu : Nat} (hM : ba_tab mu = M) (hx : ba_xs M scr = xs) (hr : ba_rows M = rows) : ∀ (n : Nat) {pc : Nat} {L : ba_L} {st : List Value} {w : ba_W} {c z : Nat} {P : ba_P}, ba_wp (ba_go scr) xs M rows n mu pc L st w c z P → ba_go scr mu pc L st w c z P
  | 0, _, _, _, _, _, _, _, h => h
  | n + 1, pc, L, st, w, c, z, P, h => by
    subst hM; subst hx; subst hr
    unfold ba_wp at h
    split at h
    · exact h.elim
    · next q hq => exact (ba_go_cl scr).1 mu pc q L st w c z P _ hq h (fun pc' L' st' w' c' z' h' => ba_run rfl rfl rfl n h')
/-- a run of the pure machine is a run of the real one -/
theorem ba_R_cl (l : Launch) (scr : Option (List Int32)) : ba_cl scr (ba_R l scr) := by
  refine ⟨fun mu pc q L st w c z P K hf hk hK => ?_, fun mu pc L L' st w c z P hle h => ?_⟩
  · intro p e s m args below meth c0 Q dC dI b B cA H locs ls C0 hE hR hz hL hc hs
    have hin : ∀ (rows : List ba_Row) (pc : Nat), ba_find rows pc = some q → q ∈ rows ∧ q.1 = pc := by
      intro rows pc h
      induction rows with
      | nil => cases h
      | cons a t ih =>
        unfold ba_find at h
        cases e : Nat.beq a.1 pc with
        | true => rw [e] at h; cases h; exact ⟨List.mem_cons_self, Nat.eq_of_beq_eq_true e⟩
        | false => rw [e] at h; exact ⟨List.mem_cons_of_mem _ (ih h).1, (ih h).2⟩
    obtain ⟨h1, h2⟩ := hin _ _ hf
    obtain ⟨qpc, ins, nx, r1, r2, pl⟩ := q
    have h2 : qpc = pc := h2
    subst h2
    have hq := List.all_eq_true.mp (ba_okt mu).1 _ h1
    exact ba_sim (mu := mu) (fun mu => (ba_okt mu).2) C0 hq hE (fun pc' L' st' w' c' z' cA' H' locs' ls' hk' hR' hz' hL' hc' hs' => hK _ _ _ _ _ _ hk' p e s m args below meth c0 Q dC dI b B cA' H' locs' ls' C0 hE hR' hz' hL' hc' hs') hk hR hz hL hc hs
  · intro p e s m args below meth c0 Q dC dI b B cA H locs ls C0 hE hR hz hL hc hs
    exact h p e s m args below meth c0 Q dC dI b B cA H locs ls C0 hE hR hz (hL.le hle) hc hs
theorem ba_real {l : Launch} {scr : Option (List Int32)} {mu pc : Nat} {L : ba_L} {st : List Value} {w : ba_W} {c z : Nat} {P : ba_P} (h : ba_go scr mu pc L st w c z P) : ba_R l scr mu pc L st w c z P := h _ (ba_R_cl l scr)
