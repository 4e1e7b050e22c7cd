
/-- whom a asks on the first k days of a week, as bits -/
def aaN (S : Int → Int) (c rf a : Int) : Nat → Int
  | 0 => 0
  | k + 1 => ior (aaN S c rf a k) (if ASK S c rf (S 6) a (k : Int) = -5 then 0 else 2 ^ (ASK S c rf (S 6) a (k : Int)).toNat)
theorem aaN_s (S : Int → Int) (c rf a : Int) {d : Int} (h : 0 ≤ d) : aaN S c rf a (d + 1).toNat = ior (aaN S c rf a d.toNat) (if ASK S c rf (S 6) a d = -5 then 0 else 2 ^ (ASK S c rf (S 6) a d).toNat) := by
  obtain ⟨k, rfl⟩ := Int.eq_ofNat_of_zero_le h
  rw [show ((k : Int) + 1).toNat = k + 1 by omega, Int.toNat_natCast]
  rfl
theorem aaN_bt {S : Int → Int} {c rf a x : Int} (hR : RI S) (ha : 0 ≤ a ∧ a < S 0) (hx : 0 ≤ x) : ∀ k : Nat, (0 ≤ aaN S c rf a k ∧ aaN S c rf a k < 64) ∧ (aaN S c rf a k / 2 ^ x.toNat % 2 = 1 ↔ ∃ d : Int, (0 ≤ d ∧ d < (k : Int)) ∧ ASK S c rf (S 6) a d = x)
  | 0 => ⟨by simp [aaN], fun h => absurd h (bt_0 x), fun ⟨d, hd, _⟩ => by omega⟩
  | k + 1 => by
    obtain ⟨ih1, ih2⟩ := aaN_bt (c := c) (rf := rf) hR ha hx k
    have hn := hR.n
    have hq := ASK_in (c := c) (rf := rf) (day := (k : Int)) hR.bd ha
    show (0 ≤ ior _ _ ∧ ior _ _ < 64) ∧ (ior _ _ / _ % 2 = 1 ↔ _)
    by_cases e : ASK S c rf (S 6) a (k : Int) = -5
    · rw [if_pos e, ior_0 ih1.1]
      refine ⟨ih1, ih2.trans ⟨fun ⟨d, hd, q⟩ => ⟨d, by omega, q⟩, fun ⟨d, hd, q⟩ => ⟨d, ?_, q⟩⟩⟩
      by_cases g : d = (k : Int)
      · rw [g] at q; omega
      · omega
    · rw [if_neg e]
      have hq2 : 0 ≤ ASK S c rf (S 6) a (k : Int) ∧ ASK S c rf (S 6) a (k : Int) < 6 := by omega
      have hp := p2_6 hq2.1 hq2.2
      refine ⟨⟨ior_nn _ _, ior_lt 6 ih1.1 (by omega) ih1.2 hp.2⟩, ?_⟩
      rw [bt_or ih1.1 (by omega), ih2, bt_pow hx hq2.1]
      constructor
      · rintro (⟨d, hd, q⟩ | q)
        · exact ⟨d, by omega, q⟩
        · exact ⟨(k : Int), by omega, q⟩
      · rintro ⟨d, hd, q⟩
        by_cases g : d = (k : Int)
        · exact Or.inr (by rw [← g]; exact q)
        · exact Or.inl ⟨d, by omega, q⟩
/-- x asks y on one of the days 0 .. 6 -/
def ASKS7 (S : Int → Int) (c x y : Int) : Prop := ∃ d : Int, (0 ≤ d ∧ d < 7) ∧ ASK S c (-1) (S 6) x d = y
/-- x stands below y, and is stronger -/
def BLW (S : Int → Int) (x y : Int) : Prop := ¬ x = y ∧ rk (S 0) (S 6) y < rk (S 0) (S 6) x ∧ 50 < S (130 + 6 * x + y)
def VSTK (S : Int → Int) (c w z : Int) : Prop := if ¬ (0 ≤ c ∧ c < S 1) ∨ ¬ (0 ≤ w ∧ w ≤ 1) then z = -1 else 0 ≤ z ∧ (if w = 0 then ∀ x : Int, 0 ≤ x → (z / 2 ^ x.toNat % 2 = 1 ↔ (0 ≤ x ∧ x < S 0) ∧ ∃ y : Int, (0 ≤ y ∧ y < S 0) ∧ BLW S x y ∧ ¬ ASKS7 S c x y) else ∀ y : Int, 0 ≤ y → (z / 2 ^ y.toNat % 2 = 1 ↔ (0 ≤ y ∧ y < S 0) ∧ (∃ x : Int, (0 ≤ x ∧ x < S 0) ∧ BLW S x y) ∧ ¬ ∃ x : Int, (0 ≤ x ∧ x < S 0) ∧ ASKS7 S c x y))
theorem bt_andn {a b x : Int} (ha : 0 ≤ a ∧ a < 2147483648) (hb : 0 ≤ b ∧ b < 2147483648) (hx : 0 ≤ x) : (andn a b / 2 ^ x.toNat % 2 = 1) ↔ (a / 2 ^ x.toNat % 2 = 1 ∧ ¬ b / 2 ^ x.toNat % 2 = 1) := by
  obtain ⟨m, rfl⟩ := Int.eq_ofNat_of_zero_le ha.1
  obtain ⟨n, rfl⟩ := Int.eq_ofNat_of_zero_le hb.1
  unfold andn
  rw [Int.toNat_natCast, Int.toNat_natCast, btN, btN, btN, Nat.testBit_and, Bool.and_eq_true]
  have e := Nat.testBit_two_pow_sub_succ (n := 32) (x := n) (by omega) x.toNat
  rw [show (2 : Nat) ^ 32 - (n + 1) = 4294967295 - n by omega] at e
  rw [e]
  by_cases c : x.toNat < 32
  · simp [c]
  · have : m.testBit x.toNat = false := Nat.testBit_lt_two_pow (Nat.lt_of_lt_of_le (show m < 2 ^ 31 by omega) (Nat.pow_le_pow_right (by decide) (by omega)))
    simp [this]
def ouF (S : Int → Int) (c n a : Int) : Nat → Int × Int
  | 0 => (-5, EXP S c (-1) (-5) n.toNat (fun b => rk (S 0) b a) (S 6))
  | k + 1 => if MSK S c (-1) (S 6) a (S 2) / 2 ^ ((k : Int)).toNat % 2 = 1 ∧ EXP S c (-1) (k : Int) n.toNat (fun b => rk (S 0) b a) (S 6) < (ouF S c n a k).2 then ((k : Int), EXP S c (-1) (k : Int) n.toNat (fun b => rk (S 0) b a) (S 6)) else ouF S c n a k
theorem ouF_s (S : Int → Int) (c n a : Int) {d : Int} (h : 0 ≤ d) : ouF S c n a (d + 1).toNat = if MSK S c (-1) (S 6) a (S 2) / 2 ^ d.toNat % 2 = 1 ∧ EXP S c (-1) d n.toNat (fun b => rk (S 0) b a) (S 6) < (ouF S c n a d.toNat).2 then (d, EXP S c (-1) d n.toNat (fun b => rk (S 0) b a) (S 6)) else ouF S c n a d.toNat := by
  obtain ⟨k, rfl⟩ := Int.eq_ofNat_of_zero_le h
  rw [show ((k : Int) + 1).toNat = k + 1 by omega, Int.toNat_natCast]
  rfl
def v_ought (S : Int → Int) (c n a : Int) : Int := if ¬ (0 ≤ c ∧ c < S 1) ∨ ¬ (0 ≤ a ∧ a < S 0) then -1 else if ¬ (1 ≤ n ∧ n ≤ 6) then -2 else if ¬ TRN S (S 6) (S 2) = a then -3 else (ouF S c n a (S 0).toNat).1
def JDG (S : Int → Int) (c d a : Int) : Int := if ASK S c (-1) (S 6) a d = -5 then -1 else ASK S c (-1) (S 6) a d
def VJUD (S : Int → Int) (c d z : Int) : Prop := if ¬ (0 ≤ c ∧ c < S 1) then z = -1 else if ¬ (0 ≤ d ∧ d ≤ 999) then z = -2 else if ¬ S 4 = S 0 then z = -3 else (z = -5 ∧ ∀ a : Int, 0 ≤ a → a < S 0 → JDG S c d a = S (923 + a)) ∨ ((0 ≤ z ∧ z < S 0) ∧ ¬ JDG S c d z = S (923 + z) ∧ ∀ a : Int, 0 ≤ a → a < z → JDG S c d a = S (923 + a))
def v_refuse (S : Int → Int) (c n a p : Int) : Int := if ¬ (0 ≤ c ∧ c < S 1) ∨ ¬ (0 ≤ n ∧ n ≤ 6) ∨ ¬ (0 ≤ a ∧ a < S 0) ∨ ¬ (0 ≤ p ∧ p ≤ 1) then NOL else LOW (EXP S c (-1) (-7) n.toNat (fun b => rk (S 0) b a) (S 6) - EXP S c a (-7) n.toNat (fun b => rk (S 0) b a) (S 6)) (100 ^ n.toNat) p
/-- the first of the places 0 .. k-1 with the greatest g (above -1) -/
def amx (g : Int → Int) : Nat → Int × Int
  | 0 => (0, -1)
  | k + 1 => if (amx g k).2 < g (k : Int) then ((k : Int), g (k : Int)) else amx g k
theorem amx_s (g : Int → Int) {d : Int} (h : 0 ≤ d) : amx g (d + 1).toNat = if (amx g d.toNat).2 < g d then (d, g d) else amx g d.toNat := by
  obtain ⟨k, rfl⟩ := Int.eq_ofNat_of_zero_le h
  rw [show ((k : Int) + 1).toNat = k + 1 by omega, Int.toNat_natCast]
  rfl
def v_begin (S : Int → Int) (c n a : Int) : Int := if ¬ (0 ≤ c ∧ c < S 1) ∨ ¬ (0 ≤ a ∧ a < S 0) then -1 else if ¬ (0 ≤ n ∧ n ≤ 6) then -2 else (amx (fun r => EXP S c (-1) (-7) n.toNat (fun b => bI (b = TB S)) (mvd (S 0) (S 6) a r)) (S 0).toNat).1
def v_best (S : Int → Int) (n : Int) : Int := if ¬ (0 ≤ n ∧ n ≤ 6) then -2 else if S 1 = 0 ∨ S 0 = 0 then -5 else (amx (fun c => EXP S c (-1) (-7) n.toNat (fun b => bI (b = TB S)) (S 6)) (S 1).toNat).1
/-- one day of a run -/
def RD (S : Int → Int) (c seed : Int) : Int → Int := gu (if 0 < S 0 ∧ ¬ ASK S c (-1) (S 6) (TRN S (S 6) (S 2)) (S 2) = -5 ∧ (31 * seed + 17 * S 2) * 7 % 100 < S (130 + 6 * TRN S (S 6) (S 2) + ASK S c (-1) (S 6) (TRN S (S 6) (S 2)) (S 2)) then gu S 6 (WON S c (S 6) (TRN S (S 6) (S 2)) (ASK S c (-1) (S 6) (TRN S (S 6) (S 2)) (S 2))) else S) 2 (S 2 + 1)
def RUN (S : Int → Int) (c seed : Int) : Nat → (Int → Int)
  | 0 => S
  | k + 1 => RD (RUN S c seed k) c seed
def v_run (S : Int → Int) (c n seed : Int) : Int := if ¬ (0 ≤ c ∧ c < S 1) then -1 else if ¬ (1 ≤ n ∧ n ≤ 99) ∨ ¬ (0 ≤ seed ∧ seed ≤ 999) ∨ 999 < S 2 + n then -2 else FAR (RUN S c seed n.toNat)
def n_run (S : Int → Int) (c n seed : Int) : Int → Int := if ¬ (0 ≤ c ∧ c < S 1) then S else if ¬ (1 ≤ n ∧ n ≤ 99) ∨ ¬ (0 ≤ seed ∧ seed ≤ 999) ∨ 999 < S 2 + n then S else RUN S c seed n.toNat

/-! ===== what the calls leave is in order ===== -/
theorem dpt_congr {st s2 : Int → Int} (h : ∀ j : Nat, st (j : Int) = s2 (j : Int)) : ∀ i : Nat, dpt st i = dpt s2 i
  | 0 => rfl
  | i + 1 => by
    unfold dpt
    rw [dpt_congr h i, h i]
theorem WFs_congr {st s2 : Int → Int} {i : Nat} (h : ∀ j : Nat, st (j : Int) = s2 (j : Int)) (hw : WFs st i) : WFs s2 i := by
  unfold WFs at hw ⊢
  rw [← dpt_congr h i, ← h i]
  exact hw
theorem RI_of {S T : Int → Int} (h : RI S) (h0 : 0 ≤ T 0 ∧ T 0 ≤ 6) (h1 : T 1 = S 1) (h2 : 0 ≤ T 2 ∧ T 2 ≤ 999) (h3 : 0 ≤ T 3 ∧ T 3 ≤ 15) (h4 : 0 ≤ T 4 ∧ T 4 ≤ 6) (h5 : 0 ≤ T 5 ∧ T 5 ≤ 120) (h6 : VB (T 0) (T 6)) (h7 : ∀ j : Int, 10 ≤ j → j < 130 → 0 ≤ T j ∧ T j ≤ 255) (h8 : ∀ j : Int, 130 ≤ j → j < 166 → 0 ≤ T j ∧ T j ≤ 100) (h9 : ∀ j : Int, 166 ≤ j → j < 172 → 0 ≤ T j ∧ T j ≤ 6) (h10 : ∀ j : Int, 172 ≤ j → j < 178 → 0 ≤ T j ∧ T j ≤ 100)
    (h11 : ∀ j : Int, 178 ≤ j → j < 893 → T j = S j) (h12 : ∀ k : Int, 0 ≤ k → k < T 3 → (0 ≤ T (893 + 2 * k) ∧ T (893 + 2 * k) < T (893 + 2 * k + 1)) ∧ T (893 + 2 * k + 1) ≤ 5) (h13 : ∀ j : Int, 923 ≤ j → j < 929 → -1 ≤ T j ∧ T j ≤ 5) (h14 : ∀ j : Int, 929 ≤ j → j < 965 → 0 ≤ T j ∧ T j ≤ 99) (h15 : ∀ j : Int, -2147483648 ≤ T j ∧ T j < 2147483648) : RI T := by
  have hcl := h.cl
  refine ⟨h0, by rw [h1]; exact hcl, h2, h3, h4, h5, h6, h7, h8, h9, h10, fun j g1 g2 => ?_, fun j g1 g2 => ?_, fun j g1 g2 => ?_, fun c g1 g2 i hi => ?_, h12, h13, h14, h15⟩
  · rw [h11 j (by omega) (by omega)]; exact h.up j g1 g2
  · rw [h11 j (by omega) (by omega)]; exact h.wi j g1 g2
  · rw [h11 j (by omega) (by omega)]; exact h.sm j g1 g2
  · rw [h1] at g2
    rw [h11 (188 + c) (by omega) (by omega)] at hi
    have hsm := h.sm (188 + c) (by omega) (by omega)
    have hw := h.wf c g1 g2
    have e : ∀ j : Nat, (j : Int) < 140 → steps S c (j : Int) = steps T c (j : Int) := fun j hj => (h11 (193 + 140 * c + j) (by omega) (by omega)).symm
    have hd : ∀ j : Nat, (j : Int) ≤ 140 → dpt (steps S c) j = dpt (steps T c) j := fun j => by
      induction j with
      | zero => intro _; rfl
      | succ j ih =>
        intro hj
        unfold dpt
        rw [ih (by omega), e j (by omega)]
    have := hw i hi
    unfold WFs at this ⊢
    rw [← hd i (by omega), ← e i (by omega)]
    exact this
theorem RI_gu6 {S : Int → Int} {v : Int} (h : RI S) (hV : VB (S 0) v) : RI (gu S 6 v) := by
  have hb := VB_rng hV
  refine RI_of h ?_ ?_ ?_ ?_ ?_ ?_ ?_ ?_ ?_ ?_ ?_ ?_ ?_ ?_ ?_ ?_
  all_goals first | exact gu_ne (by decide) | (intro j g1 g2; exact gu_ne (by omega)) | (rw [gu_ne (by decide)]; first | exact h.n | exact h.td | exact h.rd | exact h.rw | exact h.tp | rfl) | (rw [gu_ne (by decide), gu_eq]; exact hV) | (intro j g1 g2; rw [gu_ne (by omega)]; first | exact h.tape j g1 g2 | exact h.chr j g1 g2 | exact h.kd j g1 g2 | exact h.vv j g1 g2 | exact h.rr j g1 g2 | exact h.pa j g1 g2) | skip
  · intro k g1 g2
    rw [gu_ne (by decide)] at g2
    rw [gu_ne (by omega), gu_ne (by omega)]
    exact h.ro k g1 g2
  · intro j
    unfold gu
    split
    · omega
    · exact h.i j
/-- a change of the scalars 2, 4, 5 alone, within their bounds -/
theorem RI_gu2 {S : Int → Int} {v : Int} (h : RI S) (hv : 0 ≤ v ∧ v ≤ 999) : RI (gu S 2 v) := by
  refine RI_of h ?_ ?_ ?_ ?_ ?_ ?_ ?_ ?_ ?_ ?_ ?_ ?_ ?_ ?_ ?_ ?_
  all_goals first | exact gu_ne (by decide) | (intro j g1 g2; exact gu_ne (by omega)) | (rw [gu_eq]; exact hv) | (rw [gu_ne (by decide)]; first | exact h.n | exact h.rd | exact h.rw | exact h.tp | rfl) | (rw [gu_ne (by decide), gu_ne (by decide)]; exact h.bd) | (intro j g1 g2; rw [gu_ne (by omega)]; first | exact h.tape j g1 g2 | exact h.chr j g1 g2 | exact h.kd j g1 g2 | exact h.vv j g1 g2 | exact h.rr j g1 g2 | exact h.pa j g1 g2) | skip
  · intro k g1 g2
    rw [gu_ne (by decide)] at g2
    rw [gu_ne (by omega), gu_ne (by omega)]
    exact h.ro k g1 g2
  · intro j
    unfold gu
    split
    · omega
    · exact h.i j
theorem RI_RD {S : Int → Int} {c seed : Int} (h : RI S) (hc : 0 ≤ c ∧ c < S 1) (ht : S 2 < 999) : RI (RD S c seed) ∧ RD S c seed 0 = S 0 ∧ RD S c seed 1 = S 1 ∧ RD S c seed 2 = S 2 + 1 := by
  have htd := h.td
  have hn := h.n
  unfold RD
  split
  · rename_i q
    have ht := TRN_in (day := S 2) h.bd q.1 htd.1
    have ha := ASK_in (c := c) (rf := -1) (day := S 2) h.bd ht.1
    have hw : VB (S 0) (WON S c (S 6) (TRN S (S 6) (S 2)) (ASK S c (-1) (S 6) (TRN S (S 6) (S 2)) (S 2))) := VB_WON h.bd ht.1 (by omega) (by omega)
    refine ⟨RI_gu2 (RI_gu6 h hw) (by omega), ?_, ?_, gu_eq _ _ _⟩
    · rw [gu_ne (by decide), gu_ne (by decide)]
    · rw [gu_ne (by decide), gu_ne (by decide)]
  · exact ⟨RI_gu2 h (by omega), gu_ne (by decide), gu_ne (by decide), gu_eq _ _ _⟩
theorem RI_RUN {S : Int → Int} {c seed : Int} (h : RI S) (hc : 0 ≤ c ∧ c < S 1) : ∀ k : Nat, S 2 + (k : Int) ≤ 999 → RI (RUN S c seed k) ∧ RUN S c seed k 0 = S 0 ∧ RUN S c seed k 1 = S 1 ∧ RUN S c seed k 2 = S 2 + (k : Int)
  | 0, _ => ⟨h, rfl, rfl, by show S 2 = _; omega⟩
  | k + 1, hk => by
    obtain ⟨h1, h2, h3, h4⟩ := RI_RUN (seed := seed) h hc k (by omega)
    obtain ⟨g1, g2, g3, g4⟩ := RI_RD (seed := seed) h1 (by rw [h3]; exact hc) (by omega)
    exact ⟨g1, g2.trans h2, g3.trans h3, by rw [show RUN S c seed (k + 1) = RD (RUN S c seed k) c seed from rfl, g4, h4]; omega⟩
theorem RI_run {S : Int → Int} {c n seed : Int} (h : RI S) : RI (n_run S c n seed) := by
  unfold n_run
  split
  · exact h
  · split
    · exact h
    · exact (RI_RUN h (by omega) n.toNat (by omega)).1
theorem RI_match {S : Int → Int} {c a b w : Int} (h : RI S) : RI (n_match S c a b w) := by
  unfold n_match
  split
  · rename_i q
    exact RI_gu6 h (VB_WON h.bd q.2.1 q.2.2.1 (MSK_up h.bd q.2.1 q.2.2.1 q.2.2.2.2.1))
  · exact h
theorem RI_pass {S : Int → Int} {n : Int} (h : RI S) : RI (n_pass S n) := by
  have := h.td
  unfold n_pass
  split
  · exact RI_gu2 h (by omega)
  · exact h
theorem RI_hang {S : Int → Int} {a r : Int} (h : RI S) : RI (n_hang S a r) := by
  unfold n_hang
  split
  · rename_i c
    exact RI_gu6 h (VB_mvd h.bd c.1 c.2)
  · exact h
