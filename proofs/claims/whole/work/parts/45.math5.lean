/-! ===== bits of small numbers ===== -/
theorem fx_xor (a b : Nat) : nI a ^^^ nI b = nI (a ^^^ b) := by
  apply Int32.toBitVec_inj.1
  show BitVec.ofNat 32 a ^^^ BitVec.ofNat 32 b = BitVec.ofNat 32 (a ^^^ b)
  apply BitVec.eq_of_getLsbD_eq
  intro i hi
  simp [hi]
theorem J_xor1 {a : Int} (h : 0 ≤ a) : J a ^^^ J 1 = J (if a % 2 = 1 then a - 1 else a + 1) := by
  have e : J a ^^^ J 1 = nI (a.toNat ^^^ 1) := by rw [J_nI h, J_nI (show (0 : Int) ≤ 1 by decide)]; exact fx_xor _ _
  have d := Nat.xor_div_two (a := a.toNat) (b := 1)
  have m := Nat.xor_mod_two_eq_one (a := a.toNat) (b := 1)
  rw [show 1 / 2 = 0 from rfl, Nat.xor_zero] at d
  rw [e]
  by_cases c : a % 2 = 1
  · rw [if_pos c, J_nI (by omega)]
    have m2 : ¬ (a.toNat ^^^ 1) % 2 = 1 := fun h9 => (m.mp h9) ⟨fun _ => rfl, fun _ => by omega⟩
    rw [show a.toNat ^^^ 1 = (a - 1).toNat by omega]
  · rw [if_neg c, J_nI (by omega)]
    have m2 : (a.toNat ^^^ 1) % 2 = 1 := m.mpr (fun h9 => by have := h9.mpr rfl; omega)
    rw [show a.toNat ^^^ 1 = (a + 1).toNat by omega]
theorem ior2 {a t : Int} (h : 0 ≤ a) (ht : t = 0 ∨ t = 1) : ior (a * 2) t = a * 2 + t := by
  unfold ior
  have d := Nat.or_div_two (a := (a * 2).toNat) (b := t.toNat)
  have m := Nat.or_mod_two_eq_one (a := (a * 2).toNat) (b := t.toNat)
  rcases ht with e | e <;> subst e
  · rw [show (0 : Int).toNat = 0 from rfl, Nat.or_zero]
    omega
  · rw [show (1 : Int).toNat / 2 = 0 from rfl, Nat.or_zero] at d
    have m2 := m.mpr (Or.inr rfl)
    omega
theorem ior_low {a t : Int} (h : 0 ≤ a) (ht : t = 0 ∨ t = 1) : ior a t = if t = 1 ∧ a % 2 = 0 then a + 1 else a := by
  unfold ior
  have d := Nat.or_div_two (a := a.toNat) (b := t.toNat)
  have m := Nat.or_mod_two_eq_one (a := a.toNat) (b := t.toNat)
  rcases ht with e | e <;> subst e
  · rw [show (0 : Int).toNat = 0 from rfl, Nat.or_zero, if_neg (by omega)]
    omega
  · rw [show (1 : Int).toNat / 2 = 0 from rfl, Nat.or_zero] at d
    have m2 := m.mpr (Or.inr rfl)
    by_cases c : a % 2 = 0
    · rw [if_pos ⟨rfl, c⟩]
      omega
    · rw [if_neg (fun h9 => c h9.2)]
      omega
/-- '~1 | t', and what it leaves of a number -/
theorem J_m2or {t : Int} (ht : t = 0 ∨ t = 1) : J (-2) ||| J t = J (t - 2) := by
  rcases ht with e | e <;> subst e <;> decide
theorem andn1 {a : Int} (h : 0 ≤ a ∧ a < 2147483648) : andn a 1 = a - a % 2 := by
  unfold andn
  have d := Nat.and_div_two (a := a.toNat) (b := 4294967295 - (1 : Int).toNat)
  have m := Nat.and_mod_two_eq_one (a := a.toNat) (b := 4294967295 - (1 : Int).toNat)
  have m2 : ¬ (a.toNat &&& (4294967295 - (1 : Int).toNat)) % 2 = 1 := fun h9 => absurd (m.mp h9).2 (by decide)
  have d2 : a.toNat / 2 &&& (4294967295 - (1 : Int).toNat) / 2 = a.toNat / 2 := by
    have e : (4294967295 - (1 : Int).toNat) / 2 = 2 ^ 31 - 1 := by decide
    rw [e, Nat.and_two_pow_sub_one_eq_mod, Nat.mod_eq_of_lt (by omega)]
  rw [d2] at d
  omega
theorem J_keep {a t : Int} (h : 0 ≤ a ∧ a < 2147483648) (ht : t = 0 ∨ t = 1) : J a &&& J (t - 2) = J (if t = 1 then a else a - a % 2) := by
  rcases ht with e | e <;> subst e
  · rw [if_neg (by decide)]
    have := J_andn (x := a) (y := 1) h.1 h.2 (by decide) (by decide)
    rw [andn1 h] at this
    exact this
  · rw [if_pos rfl]
    have := J_andn (x := a) (y := 0) h.1 h.2 (by decide) (by decide)
    rw [show andn a 0 = a by
      unfold andn
      rw [show 4294967295 - (0 : Int).toNat = 2 ^ 32 - 1 by decide, Nat.and_two_pow_sub_one_eq_mod, Nat.mod_eq_of_lt (by omega)]
      omega] at this
    exact this
/-! ===== a stack of answers as bits, the latest one the lowest ===== -/
def BS (f : Int → Int) : Nat → Int
  | 0 => 0
  | k + 1 => 2 * BS f k + f (k : Int)
theorem BS_bd {f : Int → Int} (h : ∀ j : Int, f j = 0 ∨ f j = 1) : ∀ k : Nat, 0 ≤ BS f k ∧ BS f k < 2 ^ k
  | 0 => by unfold BS; exact ⟨by decide, by decide⟩
  | k + 1 => by
    have ih := BS_bd h k
    have := h (k : Int)
    unfold BS
    rw [Int.pow_succ]
    omega
theorem BS_gu {f : Int → Int} {v : Int} {j : Int} : ∀ {k : Nat}, (k : Int) ≤ j → BS (gu f j v) k = BS f k
  | 0, _ => rfl
  | k + 1, h => by
    unfold BS
    rw [BS_gu (k := k) (by omega)]
    unfold gu
    rw [if_neg (by omega)]
theorem BS_s {f : Int → Int} {d : Int} (h : 1 ≤ d) : BS f d.toNat = 2 * BS f (d - 1).toNat + f (d - 1) := by
  obtain ⟨k, rfl⟩ : ∃ k : Nat, d = (k : Int) + 1 := ⟨(d - 1).toNat, by omega⟩
  rw [show ((k : Int) + 1).toNat = k + 1 by omega, show ((k : Int) + 1 - 1) = (k : Int) by omega, Int.toNat_natCast]
  rfl
theorem BS_14 {f : Int → Int} (h : ∀ j : Int, f j = 0 ∨ f j = 1) {d : Int} (hd : d ≤ 14) : 0 ≤ BS f d.toNat ∧ BS f d.toNat < 16384 := by
  have h1 := BS_bd h d.toNat
  have h2 : (2 : Int) ^ d.toNat ≤ 2 ^ 14 := by
    rw [p2N, p2N]
    exact Int.ofNat_le.mpr (Nat.pow_le_pow_right (by decide) (by omega))
  exact ⟨h1.1, Int.lt_of_lt_of_le h1.2 (by simpa using h2)⟩
/-- where the class stands behind i steps -/
def LST (bf st : Int → Int) (i w sh : Int) : Prop := w = BS (ev bf st i.toNat).1 (dpt st i.toNat).toNat ∧ sh = (ev bf st i.toNat).2.1 ∧ (ev bf st i.toNat).2.2 = 0
section LETS
variable {bf st : Int → Int} {m i w sh : Int}
theorem LS_bd (hw : ∀ i : Nat, (i : Int) < m → WFs st i) (h0 : 0 ≤ i) (h1 : i ≤ m) (h : LST bf st i w sh) : (0 ≤ w ∧ w < 16384) ∧ (sh = 0 ∨ sh = 1) := by
  have hd := dpt_bd hw i.toNat (by omega)
  have he := ev_01 bf st i.toNat
  rw [h.1, h.2.1]
  exact ⟨BS_14 he.1 hd.2, he.2.1⟩
theorem LS_push (hw : ∀ i : Nat, (i : Int) < m → WFs st i) (h0 : 0 ≤ i) (h1 : i < m) (h : LST bf st i w sh) (hs : 0 ≤ st i) {w2 : Int} (e : w2 = w * 2 + tst bf (st i)) : LST bf st (i + 1) w2 sh := by
  have hd := dpt_bd hw i.toNat (by omega)
  unfold LST
  rw [ev_s bf st h0, dpt_s st h0, if_pos hs, if_pos hs, BS_s (by omega), show dpt st i.toNat + 1 - 1 = dpt st i.toNat by omega]
  refine ⟨?_, h.2.1, h.2.2⟩
  show w2 = 2 * BS (gu _ _ _) _ + gu _ _ _ _
  rw [BS_gu (by omega), gu_eq, e, h.1]
  omega
theorem LS_not (hw : ∀ i : Nat, (i : Int) < m → WFs st i) (h0 : 0 ≤ i) (h1 : i < m) (h : LST bf st i w sh) (hs : st i = -1) {w2 : Int} (e : w2 = if w % 2 = 1 then w - 1 else w + 1) : LST bf st (i + 1) w2 sh := by
  have hd := (WFs_i hw h0 h1).2.2.1 hs
  have he := (ev_01 bf st i.toNat).1 (dpt st i.toNat - 1)
  unfold LST
  have n0 : ¬ 0 ≤ st i := by omega
  rw [ev_s bf st h0, dpt_s st h0, if_neg n0, if_neg n0, if_pos hs, if_pos hs, BS_s hd]
  refine ⟨?_, h.2.1, h.2.2⟩
  show w2 = 2 * BS (gu _ _ _) _ + gu _ _ _ _
  rw [BS_gu (by omega), gu_eq]
  have := h.1
  rw [BS_s hd] at this
  rw [e]
  split <;> omega
theorem LS_two (hw : ∀ i : Nat, (i : Int) < m → WFs st i) (h0 : 0 ≤ i) (h1 : i < m) (h : LST bf st i w sh) (hs : st i = -2 ∨ st i = -3) {w2 : Int} (e : w2 = if st i = -2 then (if w % 2 = 1 then w / 2 else w / 2 - w / 2 % 2) else (if w % 2 = 1 ∧ w / 2 % 2 = 0 then w / 2 + 1 else w / 2)) : LST bf st (i + 1) w2 sh := by
  have hd := (WFs_i hw h0 h1).2.2.2.1 hs
  have he1 := (ev_01 bf st i.toNat).1 (dpt st i.toNat - 1)
  have he2 := (ev_01 bf st i.toNat).1 (dpt st i.toNat - 2)
  unfold LST
  have n0 : ¬ 0 ≤ st i := by omega
  have n1 : ¬ st i = -1 := by omega
  rw [ev_s bf st h0, dpt_s st h0, if_neg n0, if_neg n0, if_neg n1, if_neg n1, if_neg (show ¬ st i = -4 by omega), if_neg (show ¬ st i = -5 by omega), if_pos hs, BS_s (d := dpt st i.toNat - 1) (by omega), show dpt st i.toNat - 1 - 1 = dpt st i.toNat - 2 by omega]
  refine ⟨?_, h.2.1, h.2.2⟩
  show w2 = 2 * BS (gu _ _ _) _ + gu _ _ _ _
  rw [BS_gu (by omega), gu_eq]
  have := h.1
  rw [BS_s (d := dpt st i.toNat) (by omega), BS_s (d := dpt st i.toNat - 1) (by omega), show dpt st i.toNat - 1 - 1 = dpt st i.toNat - 2 by omega] at this
  rw [e]
  rcases hs with c | c
  · rw [if_pos c, if_pos c]
    rcases he1 with a | a <;> rcases he2 with b | b <;> rw [a, b] at this ⊢ <;> simp <;> omega
  · have n2 : ¬ st i = -2 := by omega
    rw [if_neg n2, if_neg n2]
    rcases he1 with a | a <;> rcases he2 with b | b <;> rw [a, b] at this ⊢ <;> simp <;> omega
theorem LS_one (hw : ∀ i : Nat, (i : Int) < m → WFs st i) (h0 : 0 ≤ i) (h1 : i < m) (h : LST bf st i w sh) (hs : st i = -4 ∨ st i = -5) : w = (ev bf st i.toNat).1 0 ∧ (w = 0 ∨ w = 1) := by
  have hd := (WFs_i hw h0 h1).2.2.2.2 hs
  have he := (ev_01 bf st i.toNat).1 0
  have := h.1
  rw [hd, show (1 : Int).toNat = 1 from rfl] at this
  have e : BS (ev bf st i.toNat).1 1 = (ev bf st i.toNat).1 0 := by
    show 2 * 0 + (ev bf st i.toNat).1 ((0 : Nat) : Int) = _
    simp
  rw [e] at this
  exact ⟨this, this.symm ▸ he⟩
theorem LS_shy (hw : ∀ i : Nat, (i : Int) < m → WFs st i) (h0 : 0 ≤ i) (h1 : i < m) (h : LST bf st i w sh) (hs : st i = -4) {w2 s2 : Int} (e : w2 = w / 2) (e2 : s2 = if sh = 1 ∨ w = 1 then 1 else 0) : LST bf st (i + 1) w2 s2 := by
  have ho := LS_one hw h0 h1 h (Or.inl hs)
  unfold LST
  have n0 : ¬ 0 ≤ st i := by omega
  have n1 : ¬ st i = -1 := by omega
  rw [ev_s bf st h0, dpt_s st h0, if_neg n0, if_neg n0, if_neg n1, if_neg n1, if_pos hs, if_neg (show ¬ (st i = -2 ∨ st i = -3) by omega)]
  refine ⟨?_, ?_, h.2.2⟩
  · show w2 = 0
    omega
  · show s2 = if _ then _ else _
    rw [e2, h.2.1, ho.1]
theorem LS_bold (hw : ∀ i : Nat, (i : Int) < m → WFs st i) (h0 : 0 ≤ i) (h1 : i < m) (h : LST bf st i w sh) (hs : st i = -5) (hc : ¬ w % 2 = 1) {w2 : Int} (e : w2 = w / 2) : LST bf st (i + 1) w2 sh := by
  have ho := LS_one hw h0 h1 h (Or.inr hs)
  unfold LST
  have n0 : ¬ 0 ≤ st i := by omega
  have n1 : ¬ st i = -1 := by omega
  rw [ev_s bf st h0, dpt_s st h0, if_neg n0, if_neg n0, if_neg n1, if_neg n1, if_neg (show ¬ st i = -4 by omega), if_pos hs, if_neg (show ¬ (st i = -2 ∨ st i = -3) by omega)]
  refine ⟨?_, h.2.1, ?_⟩
  · show w2 = 0
    omega
  · show (if _ then _ else _) = (0 : Int)
    rw [if_neg]
    rw [h.2.2, ← ho.1]
    omega
theorem ev_boldS (hw : ∀ i : Nat, (i : Int) < m → WFs st i) {k : Nat} (h : (ev bf st k).2.2 = 1) : ∀ j : Nat, (ev bf st (k + j)).2.2 = 1
  | 0 => h
  | j + 1 => by
    have ih := ev_boldS hw h j
    show (ev bf st (k + j + 1)).2.2 = 1
    unfold ev
    split
    · exact ih
    · split
      · exact ih
      · split
        · exact ih
        · split
          · show (if _ then _ else _) = (1 : Int)
            rw [if_pos (Or.inl ih)]
          · exact ih
theorem LS_yes (hw : ∀ i : Nat, (i : Int) < m → WFs st i) (h0 : 0 ≤ i) (h1 : i < m) (h : LST bf st i w sh) (hs : st i = -5) (hc : w % 2 = 1) : (ev bf st m.toNat).2.2 = 1 := by
  have ho := LS_one hw h0 h1 h (Or.inr hs)
  have e : (ev bf st (i + 1).toNat).2.2 = 1 := by
    rw [ev_s bf st h0, if_neg (by omega), if_neg (by omega), if_neg (by omega), if_pos hs]
    show (if _ then _ else _) = (1 : Int)
    rw [if_pos (Or.inr (by rw [← ho.1]; omega))]
  have := ev_boldS (m := m) hw e (m.toNat - (i + 1).toNat)
  rw [show (i + 1).toNat + (m.toNat - (i + 1).toNat) = m.toNat by omega] at this
  exact this
end LETS
theorem cde_neg {s v : Int} (h : cde s = v) (hv : v < 0) : s = v := by
  unfold cde at h
  by_cases c : s < 0
  · rw [if_pos c] at h; exact h
  · rw [if_neg c] at h; omega
theorem cde_nn {s : Int} (h : -1 < cde s) : 0 ≤ s := by
  unfold cde at h
  by_cases c : s < 0
  · rw [if_pos c] at h; omega
  · omega
theorem cde_bd {s : Int} (h : -5 ≤ s) (h2 : 0 ≤ s → s % 8 < 6 ∧ s / 8 % 4 < 3 ∧ s / 32 ≤ 99) : -5 ≤ cde s ∧ cde s ≤ 1799 := by
  unfold cde
  by_cases c : s < 0
  · rw [if_pos c]; omega
  · rw [if_neg c]
    have := h2 (by omega)
    omega
/-! ===== the one who is picked ===== -/
abbrev bq (mv b q : Int) : Prop := mv / 2 ^ (dg b q).toNat % 2 = 1
def PBT (S : Int → Int) (c rf b rung day mv : Int) : Prop := (0 ≤ mv ∧ mv < 64) ∧ (∀ q : Int, 0 ≤ q → q < rung → (bq mv b q ↔ rung - q ≤ S (178 + c) ∧ MAY S c rf b (dg b rung) rung day (rung - q))) ∧ ∀ x : Int, 0 ≤ x → mv / 2 ^ x.toNat % 2 = 1 → ∃ q : Int, (0 ≤ q ∧ q < rung) ∧ dg b q = x
abbrev PCK (S : Int → Int) (c rf b rung day : Int) : Int := (askF S c rf b (dg b rung) rung day rung.toNat).1
section PICK
variable {S : Int → Int} {c rf b rung day mv : Int}
theorem wv_q (h : PBT S c rf b rung day mv) {q : Int} (h0 : 0 ≤ q) (h1 : q < rung) : wv S c rf b (dg b rung) rung day (rung - q) = if bq mv b q then WRT S c (dg b rung) (dg b q) (rung - q) else -1 := by
  have e : rung - (rung - q) = q := by omega
  unfold wv
  by_cases d : bq mv b q
  · rw [if_pos d, if_pos ((h.2.1 q h0 h1).mp d), e]
  · rw [if_neg d, if_neg (fun h9 => d ((h.2.1 q h0 h1).mpr h9))]
theorem askF_lo {a : Int} {M : Int} (hM : -1 ≤ M) : ∀ k : Nat, (∀ u : Int, 1 ≤ u → u ≤ (k : Int) → wv S c rf b a rung day u ≤ M) → (askF S c rf b a rung day k).2 ≤ M
  | 0, _ => hM
  | k + 1, h => by
    have ih := askF_lo (a := a) hM k (fun u h1 h2 => h u h1 (by omega))
    have := h ((k : Int) + 1) (by omega) (by omega)
    unfold askF
    show (if _ then _ else _) ≤ M
    split <;> assumption
theorem askF_keep {a : Int} {k0 : Nat} : ∀ j : Nat, (∀ u : Int, (k0 : Int) < u → u ≤ ((k0 + j : Nat) : Int) → wv S c rf b a rung day u ≤ (askF S c rf b a rung day k0).2) → askF S c rf b a rung day (k0 + j) = askF S c rf b a rung day k0
  | 0, _ => rfl
  | j + 1, h => by
    have ih := askF_keep (a := a) (k0 := k0) j (fun u h1 h2 => h u h1 (by omega))
    have := h (((k0 + j : Nat) : Int) + 1) (by omega) (by omega)
    rw [show k0 + (j + 1) = (((k0 + j : Nat) : Int) + 1).toNat by omega, askF_s S c rf b a rung day (by omega), show (((k0 + j : Nat) : Int) + 1 - 1).toNat = k0 + j by omega, ih, if_neg (by omega), if_neg (by omega)]
theorem pk_none (h : PBT S c rf b rung day mv) (hr : 0 ≤ rung) (hq : ∀ q : Int, 0 ≤ q → q < rung → bq mv b q → WRT S c (dg b rung) (dg b q) (rung - q) ≤ -1) : PCK S c rf b rung day = -5 := by
  have := askF_keep (S := S) (c := c) (rf := rf) (b := b) (rung := rung) (day := day) (a := dg b rung) (k0 := 0) rung.toNat (fun u h1 h2 => by
    show _ ≤ (-1 : Int)
    have e := wv_q h (q := rung - u) (by omega) (by omega)
    rw [show rung - (rung - u) = u by omega] at e
    rw [e]
    split
    · rename_i d
      have := hq (rung - u) (by omega) (by omega) d
      rw [show rung - (rung - u) = u by omega] at this
      exact this
    · exact Int.le_refl _)
  rw [Nat.zero_add] at this
  show (askF S c rf b (dg b rung) rung day rung.toNat).1 = -5
  rw [this]
  rfl
theorem pk_at (h : PBT S c rf b rung day mv) {q0 : Int} (h0 : 0 ≤ q0) (h1 : q0 < rung) (hb : bq mv b q0) (hp : 0 ≤ WRT S c (dg b rung) (dg b q0) (rung - q0))
    (hlt : ∀ q : Int, q0 < q → q < rung → bq mv b q → WRT S c (dg b rung) (dg b q) (rung - q) < WRT S c (dg b rung) (dg b q0) (rung - q0))
    (hle : ∀ q : Int, 0 ≤ q → q < q0 → bq mv b q → WRT S c (dg b rung) (dg b q) (rung - q) ≤ WRT S c (dg b rung) (dg b q0) (rung - q0)) : PCK S c rf b rung day = dg b q0 := by
  have w0 : wv S c rf b (dg b rung) rung day (rung - q0) = WRT S c (dg b rung) (dg b q0) (rung - q0) := by
    rw [wv_q h h0 h1, if_pos hb]
  have hA := askF_lo (S := S) (c := c) (rf := rf) (b := b) (rung := rung) (day := day) (a := dg b rung) (M := WRT S c (dg b rung) (dg b q0) (rung - q0) - 1) (by omega) (rung - q0 - 1).toNat (fun u g1 g2 => by
    have e := wv_q h (q := rung - u) (by omega) (by omega)
    rw [show rung - (rung - u) = u by omega] at e
    rw [e]
    split
    · rename_i d
      have := hlt (rung - u) (by omega) (by omega) d
      rw [show rung - (rung - u) = u by omega] at this
      omega
    · omega)
  have hB := askF_s S c rf b (dg b rung) rung day (u := rung - q0) (by omega)
  rw [w0, if_pos (by omega), if_pos (by omega), show rung - (rung - q0) = q0 by omega] at hB
  have hK := askF_keep (S := S) (c := c) (rf := rf) (b := b) (rung := rung) (day := day) (a := dg b rung) (k0 := (rung - q0).toNat) q0.toNat (fun u g1 g2 => by
    rw [hB]
    show _ ≤ WRT S c (dg b rung) (dg b q0) (rung - q0)
    have e := wv_q h (q := rung - u) (by omega) (by omega)
    rw [show rung - (rung - u) = u by omega] at e
    rw [e]
    split
    · rename_i d
      have := hle (rung - u) (by omega) (by omega) d
      rw [show rung - (rung - u) = u by omega] at this
      exact this
    · omega)
  rw [show (rung - q0).toNat + q0.toNat = rung.toNat by omega, hB] at hK
  show (askF S c rf b (dg b rung) rung day rung.toNat).1 = _
  rw [hK]
/-- the greatest of those seen from above down (BSD), from below up (BSA) -/
def BSD (mv b : Int) (h : Int → Int) (lo hi x g : Int) : Prop := (x = -5 ∧ g = -1 ∧ ∀ q : Int, lo < q → q < hi → ¬ bq mv b q) ∨ ∃ q0 : Int, (lo < q0 ∧ q0 < hi) ∧ x = dg b q0 ∧ g = h q0 ∧ bq mv b q0 ∧ (∀ q : Int, q0 < q → q < hi → bq mv b q → h q < h q0) ∧ (∀ q : Int, lo < q → q < q0 → bq mv b q → h q ≤ h q0)
def BSA (mv b : Int) (h : Int → Int) (hi x g : Int) : Prop := (x = -5 ∧ g = -1 ∧ ∀ q : Int, 0 ≤ q → q < hi → ¬ bq mv b q) ∨ ∃ q0 : Int, (0 ≤ q0 ∧ q0 < hi) ∧ x = dg b q0 ∧ g = h q0 ∧ bq mv b q0 ∧ (∀ q : Int, 0 ≤ q → q < q0 → bq mv b q → h q < h q0) ∧ (∀ q : Int, q0 < q → q < hi → bq mv b q → h q ≤ h q0)
theorem BSD_0 {h : Int → Int} : BSD mv b h (rung - 1) rung (-5) (-1) := Or.inl ⟨rfl, rfl, fun q h1 h2 => by omega⟩
theorem BSA_0 {h : Int → Int} : BSA mv b h 0 (-5) (-1) := Or.inl ⟨rfl, rfl, fun q h1 h2 => by omega⟩
theorem BSD_take {h : Int → Int} {lo hi x g : Int} (H : BSD mv b h lo hi x g) (hb : bq mv b lo) (hg : g < h lo) (hl : lo < hi) : BSD mv b h (lo - 1) hi (dg b lo) (h lo) := by
  refine Or.inr ⟨lo, by omega, rfl, rfl, hb, ?_, fun q h1 h2 => by omega⟩
  intro q h1 h2 h3
  rcases H with ⟨_, _, H⟩ | ⟨q1, H1, _, rfl, H4, H5, H6⟩
  · exact absurd h3 (H q h1 h2)
  · rcases (show q < q1 ∨ q = q1 ∨ q1 < q by omega) with e | e | e
    · have := H6 q h1 e h3; omega
    · subst e; exact hg
    · have := H5 q e h2 h3; omega
theorem BSD_skip {h : Int → Int} {lo hi x g : Int} (H : BSD mv b h lo hi x g) (hn : ¬ (bq mv b lo ∧ g < h lo)) (hh : 0 ≤ h lo) : BSD mv b h (lo - 1) hi x g := by
  rcases H with ⟨e1, e2, H⟩ | ⟨q1, H1, e1, e2, H4, H5, H6⟩
  · refine Or.inl ⟨e1, e2, fun q h1 h2 h3 => ?_⟩
    rcases (show q = lo ∨ lo < q by omega) with e | e
    · subst e; exact hn ⟨h3, by omega⟩
    · exact H q e h2 h3
  · refine Or.inr ⟨q1, by omega, e1, e2, H4, H5, fun q h1 h2 h3 => ?_⟩
    rcases (show q = lo ∨ lo < q by omega) with e | e
    · subst e
      rcases Int.lt_or_le (h q1) (h q) with z | z
      · exact absurd ⟨h3, by omega⟩ hn
      · exact z
    · exact H6 q e h2 h3
theorem BSA_take {h : Int → Int} {hi x g : Int} (H : BSA mv b h hi x g) (hb : bq mv b hi) (hg : g < h hi) (hl : 0 ≤ hi) : BSA mv b h (hi + 1) (dg b hi) (h hi) := by
  refine Or.inr ⟨hi, by omega, rfl, rfl, hb, ?_, fun q h1 h2 => by omega⟩
  intro q h1 h2 h3
  rcases H with ⟨_, _, H⟩ | ⟨q1, H1, _, rfl, H4, H5, H6⟩
  · exact absurd h3 (H q h1 h2)
  · rcases (show q < q1 ∨ q = q1 ∨ q1 < q by omega) with e | e | e
    · have := H5 q h1 e h3; omega
    · subst e; exact hg
    · have := H6 q e h2 h3; omega
theorem BSA_skip {h : Int → Int} {hi x g : Int} (H : BSA mv b h hi x g) (hn : ¬ (bq mv b hi ∧ g < h hi)) (hh : 0 ≤ h hi) : BSA mv b h (hi + 1) x g := by
  rcases H with ⟨e1, e2, H⟩ | ⟨q1, H1, e1, e2, H4, H5, H6⟩
  · refine Or.inl ⟨e1, e2, fun q h1 h2 h3 => ?_⟩
    rcases (show q = hi ∨ q < hi by omega) with e | e
    · subst e; exact hn ⟨h3, by omega⟩
    · exact H q h1 e h3
  · refine Or.inr ⟨q1, by omega, e1, e2, H4, H5, fun q h1 h2 h3 => ?_⟩
    rcases (show q = hi ∨ q < hi by omega) with e | e
    · subst e
      rcases Int.lt_or_le (h q1) (h q) with z | z
      · exact absurd ⟨h3, by omega⟩ hn
      · exact z
    · exact H6 q h1 e h3
theorem WRT_0 {a x u : Int} (hk : S (166 + a) = 0) : WRT S c a x u = 10 * S (130 + 6 * a + x) + 9 - u := by unfold WRT; rw [if_pos hk]
theorem WRT_1 {a x u : Int} (hk : S (166 + a) = 1) : WRT S c a x u = 9 - u := by unfold WRT; rw [hk]; rfl
theorem WRT_2 {a x u : Int} (hk : S (166 + a) = 2) : WRT S c a x u = u := by unfold WRT; rw [hk]; rfl
theorem WRT_3 {a x u : Int} (hk : S (166 + a) = 3) : WRT S c a x u = if S (172 + a) ≤ S (130 + 6 * a + x) then u else -1 := by unfold WRT; rw [hk]; rfl
theorem WRT_4 {a x u : Int} (hk : S (166 + a) = 4) : WRT S c a x u = 10 * S (130 + 6 * a + x) * (if S (183 + c) = 2 then 1 else u) + u := by unfold WRT; rw [hk]; rfl
theorem WRT_5 {a x u : Int} (hk : S (166 + a) = 5) : WRT S c a x u = if x = S (172 + a) then 1 else -1 := by unfold WRT; rw [hk]; rfl
theorem WRT_6 {a x u : Int} (hk : S (166 + a) = 6) : WRT S c a x u = -1 := by unfold WRT; rw [hk]; rfl
theorem pk_0 (h : PBT S c rf b rung day mv) (hr : 0 ≤ rung ∧ rung < 6) (hk : S (166 + dg b rung) = 0) (hn : ∀ q : Int, 0 ≤ q → q < rung → 0 ≤ S (130 + 6 * dg b rung + dg b q)) {x g : Int} (H : BSD mv b (fun q => S (130 + 6 * dg b rung + dg b q)) (-1) rung x g) : x = PCK S c rf b rung day := by
  rcases H with ⟨e1, _, H⟩ | ⟨q0, H1, e1, _, H4, H5, H6⟩
  · rw [e1]
    exact (pk_none h hr.1 (fun q h1 h2 h3 => absurd h3 (H q (by omega) h2))).symm
  · rw [e1]
    refine (pk_at h (by omega) (by omega) H4 ?_ (fun q h1 h2 h3 => ?_) (fun q h1 h2 h3 => ?_)).symm
    · rw [WRT_0 hk]
      have := hn q0 (by omega) (by omega)
      omega
    · rw [WRT_0 hk, WRT_0 hk]
      have : S (130 + 6 * dg b rung + dg b q) < S (130 + 6 * dg b rung + dg b q0) := H5 q h1 h2 h3
      omega
    · rw [WRT_0 hk, WRT_0 hk]
      have : S (130 + 6 * dg b rung + dg b q) ≤ S (130 + 6 * dg b rung + dg b q0) := H6 q (by omega) h2 h3
      omega
theorem pk_1 (h : PBT S c rf b rung day mv) (hr : 0 ≤ rung ∧ rung < 6) (hk : S (166 + dg b rung) = 1) {q0 : Int} (h0 : 0 ≤ q0) (h1 : q0 < rung) (hb : bq mv b q0) (H : ∀ q : Int, q0 < q → q < rung → ¬ bq mv b q) : dg b q0 = PCK S c rf b rung day := by
  refine (pk_at h h0 h1 hb ?_ (fun q g1 g2 g3 => absurd g3 (H q g1 g2)) (fun q g1 g2 g3 => ?_)).symm
  · rw [WRT_1 hk]; omega
  · rw [WRT_1 hk, WRT_1 hk]; omega
theorem pk_2 (h : PBT S c rf b rung day mv) (hr : 0 ≤ rung ∧ rung < 6) (hk : S (166 + dg b rung) = 2) {q0 : Int} (h0 : 0 ≤ q0) (h1 : q0 < rung) (hb : bq mv b q0) (H : ∀ q : Int, 0 ≤ q → q < q0 → ¬ bq mv b q) : dg b q0 = PCK S c rf b rung day := by
  refine (pk_at h h0 h1 hb ?_ (fun q g1 g2 g3 => ?_) (fun q g1 g2 g3 => absurd g3 (H q g1 g2))).symm
  · rw [WRT_2 hk]; omega
  · rw [WRT_2 hk, WRT_2 hk]; omega
theorem pk_3 (h : PBT S c rf b rung day mv) (hr : 0 ≤ rung ∧ rung < 6) (hk : S (166 + dg b rung) = 3) {q0 : Int} (h0 : 0 ≤ q0) (h1 : q0 < rung) (hb : bq mv b q0) (hc : S (172 + dg b rung) ≤ S (130 + 6 * dg b rung + dg b q0)) (H : ∀ q : Int, 0 ≤ q → q < q0 → ¬ (bq mv b q ∧ S (172 + dg b rung) ≤ S (130 + 6 * dg b rung + dg b q))) : dg b q0 = PCK S c rf b rung day := by
  refine (pk_at h h0 h1 hb ?_ (fun q g1 g2 g3 => ?_) (fun q g1 g2 g3 => ?_)).symm
  · rw [WRT_3 hk, if_pos hc]; omega
  · rw [WRT_3 hk, WRT_3 hk, if_pos hc]; split <;> omega
  · rw [WRT_3 hk, WRT_3 hk, if_pos hc, if_neg (fun z => H q g1 g2 ⟨g3, z⟩)]; omega
theorem pk_3n (h : PBT S c rf b rung day mv) (hr : 0 ≤ rung ∧ rung < 6) (hk : S (166 + dg b rung) = 3) (H : ∀ q : Int, 0 ≤ q → q < rung → ¬ (bq mv b q ∧ S (172 + dg b rung) ≤ S (130 + 6 * dg b rung + dg b q))) : -5 = PCK S c rf b rung day := by
  refine (pk_none h hr.1 (fun q g1 g2 g3 => ?_)).symm
  rw [WRT_3 hk, if_neg (fun z => H q g1 g2 ⟨g3, z⟩)]
  exact Int.le_refl _
theorem pk_b (h : PBT S c rf b rung day mv) (hr : 0 ≤ rung) (H : ∀ q : Int, 0 ≤ q → q < rung → ¬ bq mv b q) : -5 = PCK S c rf b rung day := (pk_none h hr (fun q g1 g2 g3 => absurd g3 (H q g1 g2))).symm
theorem pk_4 (h : PBT S c rf b rung day mv) (hr : 0 ≤ rung ∧ rung < 6) (hk : S (166 + dg b rung) = 4) (hn : ∀ q : Int, 0 ≤ q → q < rung → 0 ≤ (if S (183 + c) = 2 then 1 else rung - q) * S (130 + 6 * dg b rung + dg b q)) {x g : Int} (H : BSA mv b (fun q => (if S (183 + c) = 2 then 1 else rung - q) * S (130 + 6 * dg b rung + dg b q)) rung x g) : x = PCK S c rf b rung day := by
  have eW : ∀ q : Int, WRT S c (dg b rung) (dg b q) (rung - q) = 10 * ((if S (183 + c) = 2 then 1 else rung - q) * S (130 + 6 * dg b rung + dg b q)) + (rung - q) := fun q => by
    rw [WRT_4 hk, Int.mul_assoc, Int.mul_comm (S (130 + 6 * dg b rung + dg b q))]
  rcases H with ⟨e1, _, H⟩ | ⟨q0, H1, e1, _, H4, H5, H6⟩
  · rw [e1]
    exact pk_b h hr.1 H
  · rw [e1]
    refine (pk_at h (by omega) (by omega) H4 ?_ (fun q h1 h2 h3 => ?_) (fun q h1 h2 h3 => ?_)).symm
    · rw [eW]
      have := hn q0 (by omega) (by omega)
      omega
    · rw [eW, eW]
      have := H6 q h1 h2 h3
      simp only at this
      omega
    · rw [eW, eW]
      have := H5 q h1 h2 h3
      simp only at this
      omega
theorem pk_5 (h : PBT S c rf b rung day mv) (hr : 0 ≤ rung ∧ rung < 6) (hk : S (166 + dg b rung) = 5) (hV : VB (S 0) b) (hr2 : rung < S 0) (h0 : 0 ≤ S (172 + dg b rung)) (hb : mv / 2 ^ (S (172 + dg b rung)).toNat % 2 = 1) : S (172 + dg b rung) = PCK S c rf b rung day := by
  obtain ⟨q0, q1, q2⟩ := h.2.2 _ h0 hb
  rw [← q2] at hb
  have := pk_at h q1.1 q1.2 hb (by rw [WRT_5 hk, if_pos q2]; decide) (fun q g1 g2 g3 => ?_) (fun q g1 g2 g3 => by rw [WRT_5 hk, WRT_5 hk, if_pos q2]; split <;> omega)
  · rw [this, q2]
  · rw [WRT_5 hk, WRT_5 hk, if_pos q2, if_neg (fun z => by have := VB_inj hV (r := q) (q := q0) (by omega) (by omega) q1.1 (by omega) (z.trans q2.symm); omega)]
    decide
theorem pk_5n (h : PBT S c rf b rung day mv) (hr : 0 ≤ rung ∧ rung < 6) (hk : S (166 + dg b rung) = 5) (hb : ¬ (S (172 + dg b rung) < 6 ∧ mv / 2 ^ (S (172 + dg b rung)).toNat % 2 = 1)) (hd : ∀ q : Int, 0 ≤ q → q < rung → dg b q < 6) : -5 = PCK S c rf b rung day := by
  refine (pk_none h hr.1 (fun q g1 g2 g3 => ?_)).symm
  rw [WRT_5 hk]
  by_cases e : dg b q = S (172 + dg b rung)
  · exact absurd ⟨by rw [← e]; exact hd q g1 g2, by rw [← e]; exact g3⟩ hb
  · rw [if_neg e]
    exact Int.le_refl _
theorem pk_6 (h : PBT S c rf b rung day mv) (hr : 0 ≤ rung ∧ rung < 6) (hk : S (166 + dg b rung) = 6) : -5 = PCK S c rf b rung day := (pk_none h hr.1 (fun q g1 g2 g3 => by rw [WRT_6 hk]; exact Int.le_refl _)).symm
end PICK
