/-! ===== what the calls leave is in order, the rest ===== -/
theorem RI_ii {S : Int → Int} (h : RI S) {T : Int → Int} (hT : ∀ j : Int, T j = S j ∨ (-2147483648 ≤ T j ∧ T j < 2147483648)) : ∀ j : Int, -2147483648 ≤ T j ∧ T j < 2147483648 := fun j => by
  rcases hT j with e | e
  · rw [e]; exact h.i j
  · exact e
theorem RI_chance {S : Int → Int} {a b n : Int} (h : RI S) : RI (n_chance S a b n) := by
  have hn := h.n
  unfold n_chance
  split
  · rename_i q
    obtain ⟨q1, q2, q3, q4, q5⟩ := q
    refine RI_of h ?_ ?_ ?_ ?_ ?_ ?_ ?_ ?_ ?_ ?_ ?_ ?_ ?_ ?_ ?_ ?_
    · rw [gu_ne (by omega), gu_ne (by omega)]; exact h.n
    · rw [gu_ne (by omega), gu_ne (by omega)]
    · rw [gu_ne (by omega), gu_ne (by omega)]; exact h.td
    · rw [gu_ne (by omega), gu_ne (by omega)]; exact h.rd
    · rw [gu_ne (by omega), gu_ne (by omega)]; exact h.rw
    · rw [gu_ne (by omega), gu_ne (by omega)]; exact h.tp
    · rw [gu_ne (by omega), gu_ne (by omega), gu_ne (by omega), gu_ne (by omega)]; exact h.bd
    · intro j g1 g2; rw [gu_ne (by omega), gu_ne (by omega)]; exact h.tape j g1 g2
    · intro j g1 g2; have := h.chr j g1 g2; unfold gu; (repeat' split) <;> omega
    · intro j g1 g2; rw [gu_ne (by omega), gu_ne (by omega)]; exact h.kd j g1 g2
    · intro j g1 g2; rw [gu_ne (by omega), gu_ne (by omega)]; exact h.vv j g1 g2
    · intro j g1 g2; rw [gu_ne (by omega), gu_ne (by omega)]
    · intro k g1 g2
      rw [gu_ne (by omega), gu_ne (by omega)] at g2
      rw [gu_ne (by omega), gu_ne (by omega), gu_ne (by omega), gu_ne (by omega)]
      exact h.ro k g1 g2
    · intro j g1 g2; rw [gu_ne (by omega), gu_ne (by omega)]; exact h.rr j g1 g2
    · intro j g1 g2; rw [gu_ne (by omega), gu_ne (by omega)]; exact h.pa j g1 g2
    · intro j; have := h.i j; unfold gu; (repeat' split) <;> omega
  · exact h
theorem RI_asker {S : Int → Int} {a k v : Int} (h : RI S) : RI (n_asker S a k v) := by
  have hn := h.n
  unfold n_asker
  split
  · rename_i q
    obtain ⟨q1, q2, q3, q4⟩ := q
    refine RI_of h ?_ ?_ ?_ ?_ ?_ ?_ ?_ ?_ ?_ ?_ ?_ ?_ ?_ ?_ ?_ ?_
    · rw [gu_ne (by omega), gu_ne (by omega)]; exact h.n
    · rw [gu_ne (by omega), gu_ne (by omega)]
    · rw [gu_ne (by omega), gu_ne (by omega)]; exact h.td
    · rw [gu_ne (by omega), gu_ne (by omega)]; exact h.rd
    · rw [gu_ne (by omega), gu_ne (by omega)]; exact h.rw
    · rw [gu_ne (by omega), gu_ne (by omega)]; exact h.tp
    · rw [gu_ne (by omega), gu_ne (by omega), gu_ne (by omega), gu_ne (by omega)]; exact h.bd
    · intro j g1 g2; rw [gu_ne (by omega), gu_ne (by omega)]; exact h.tape j g1 g2
    · intro j g1 g2; rw [gu_ne (by omega), gu_ne (by omega)]; exact h.chr j g1 g2
    · intro j g1 g2; have := h.kd j g1 g2; unfold gu; (repeat' split) <;> omega
    · intro j g1 g2; have := h.vv j g1 g2; unfold gu; (repeat' split) <;> omega
    · intro j g1 g2; rw [gu_ne (by omega), gu_ne (by omega)]
    · intro k g1 g2
      rw [gu_ne (by omega), gu_ne (by omega)] at g2
      rw [gu_ne (by omega), gu_ne (by omega), gu_ne (by omega), gu_ne (by omega)]
      exact h.ro k g1 g2
    · intro j g1 g2; rw [gu_ne (by omega), gu_ne (by omega)]; exact h.rr j g1 g2
    · intro j g1 g2; rw [gu_ne (by omega), gu_ne (by omega)]; exact h.pa j g1 g2
    · intro j; have := h.i j; unfold gu; (repeat' split) <;> omega
  · exact h
theorem RI_past {S : Int → Int} {a b n : Int} (h : RI S) : RI (n_past S a b n) := by
  have hn := h.n
  unfold n_past
  split
  · rename_i q
    obtain ⟨q1, q2, q3, q4, q5⟩ := q
    refine RI_of h ?_ ?_ ?_ ?_ ?_ ?_ ?_ ?_ ?_ ?_ ?_ ?_ ?_ ?_ ?_ ?_
    · rw [gu_ne (by omega)]; exact h.n
    · rw [gu_ne (by omega)]
    · rw [gu_ne (by omega)]; exact h.td
    · rw [gu_ne (by omega)]; exact h.rd
    · rw [gu_ne (by omega)]; exact h.rw
    · rw [gu_ne (by omega)]; exact h.tp
    · rw [gu_ne (by omega), gu_ne (by omega)]; exact h.bd
    · intro j g1 g2; rw [gu_ne (by omega)]; exact h.tape j g1 g2
    · intro j g1 g2; rw [gu_ne (by omega)]; exact h.chr j g1 g2
    · intro j g1 g2; rw [gu_ne (by omega)]; exact h.kd j g1 g2
    · intro j g1 g2; rw [gu_ne (by omega)]; exact h.vv j g1 g2
    · intro j g1 g2; rw [gu_ne (by omega)]
    · intro k g1 g2
      have h15 := h.rd
      rw [gu_ne (by omega)] at g2
      rw [gu_ne (by omega), gu_ne (by omega)]
      exact h.ro k g1 g2
    · intro j g1 g2; rw [gu_ne (by omega)]; exact h.rr j g1 g2
    · intro j g1 g2; have := h.pa j g1 g2; unfold gu; (repeat' split) <;> omega
    · intro j; have := h.i j; unfold gu; (repeat' split) <;> omega
  · exact h
/-- a change of cell 4 and of the row's cells -/
theorem RI_row4 {S : Int → Int} {v : Int} (h : RI S) (hv : 0 ≤ v ∧ v ≤ 6) : RI (gu S 4 v) := by
  refine RI_of h ?_ ?_ ?_ ?_ ?_ ?_ ?_ ?_ ?_ ?_ ?_ ?_ ?_ ?_ ?_ ?_
  · rw [gu_ne (by omega)]; exact h.n
  · rw [gu_ne (by omega)]
  · rw [gu_ne (by omega)]; exact h.td
  · rw [gu_ne (by omega)]; exact h.rd
  · rw [gu_eq]; exact hv
  · rw [gu_ne (by omega)]; exact h.tp
  · rw [gu_ne (by omega), gu_ne (by omega)]; exact h.bd
  · intro j g1 g2; rw [gu_ne (by omega)]; exact h.tape j g1 g2
  · intro j g1 g2; rw [gu_ne (by omega)]; exact h.chr j g1 g2
  · intro j g1 g2; rw [gu_ne (by omega)]; exact h.kd j g1 g2
  · intro j g1 g2; rw [gu_ne (by omega)]; exact h.vv j g1 g2
  · intro j g1 g2; rw [gu_ne (by omega)]
  · intro k g1 g2
    rw [gu_ne (by omega)] at g2
    rw [gu_ne (by omega), gu_ne (by omega)]
    exact h.ro k g1 g2
  · intro j g1 g2; rw [gu_ne (by omega)]; exact h.rr j g1 g2
  · intro j g1 g2; rw [gu_ne (by omega)]; exact h.pa j g1 g2
  · intro j; have := h.i j; unfold gu; split <;> omega
theorem RI_row5 {S : Int → Int} {p v : Int} (h : RI S) (hp : 923 ≤ p ∧ p < 929) (hv : -1 ≤ v ∧ v ≤ 5) : RI (gu S p v) := by
  have h15 := h.rd
  refine RI_of h ?_ ?_ ?_ ?_ ?_ ?_ ?_ ?_ ?_ ?_ ?_ ?_ ?_ ?_ ?_ ?_
  · rw [gu_ne (by omega)]; exact h.n
  · rw [gu_ne (by omega)]
  · rw [gu_ne (by omega)]; exact h.td
  · rw [gu_ne (by omega)]; exact h.rd
  · rw [gu_ne (by omega)]; exact h.rw
  · rw [gu_ne (by omega)]; exact h.tp
  · rw [gu_ne (by omega), gu_ne (by omega)]; exact h.bd
  · intro j g1 g2; rw [gu_ne (by omega)]; exact h.tape j g1 g2
  · intro j g1 g2; rw [gu_ne (by omega)]; exact h.chr j g1 g2
  · intro j g1 g2; rw [gu_ne (by omega)]; exact h.kd j g1 g2
  · intro j g1 g2; rw [gu_ne (by omega)]; exact h.vv j g1 g2
  · intro j g1 g2; rw [gu_ne (by omega)]
  · intro k g1 g2
    rw [gu_ne (by omega)] at g2
    rw [gu_ne (by omega), gu_ne (by omega)]
    exact h.ro k g1 g2
  · intro j g1 g2; have := h.rr j g1 g2; unfold gu; split <;> omega
  · intro j g1 g2; rw [gu_ne (by omega)]; exact h.pa j g1 g2
  · intro j; have := h.i j; unfold gu; split <;> omega
theorem RI_row {S : Int → Int} {a : Int} (h : RI S) : RI (n_row S a) := by
  have h4 := h.rw
  unfold n_row
  split
  · exact RI_row4 h (by decide)
  · split
    · exact h
    · split
      · exact h
      · rename_i c1 c2 c3
        exact RI_row4 (RI_row5 h (by omega) (by omega)) (by omega)
theorem RI_round {S : Int → Int} {i j : Int} (h : RI S) : RI (n_round S i j) := by
  have h3 := h.rd
  unfold n_round
  split
  · refine RI_of h ?_ ?_ ?_ ?_ ?_ ?_ ?_ ?_ ?_ ?_ ?_ ?_ ?_ ?_ ?_ ?_
    · rw [gu_ne (by omega)]; exact h.n
    · rw [gu_ne (by omega)]
    · rw [gu_ne (by omega)]; exact h.td
    · rw [gu_eq]; decide
    · rw [gu_ne (by omega)]; exact h.rw
    · rw [gu_ne (by omega)]; exact h.tp
    · rw [gu_ne (by omega), gu_ne (by omega)]; exact h.bd
    · intro j g1 g2; rw [gu_ne (by omega)]; exact h.tape j g1 g2
    · intro j g1 g2; rw [gu_ne (by omega)]; exact h.chr j g1 g2
    · intro j g1 g2; rw [gu_ne (by omega)]; exact h.kd j g1 g2
    · intro j g1 g2; rw [gu_ne (by omega)]; exact h.vv j g1 g2
    · intro j g1 g2; rw [gu_ne (by omega)]
    · intro k g1 g2
      rw [gu_eq] at g2
      omega
    · intro j g1 g2; rw [gu_ne (by omega)]; exact h.rr j g1 g2
    · intro j g1 g2; rw [gu_ne (by omega)]; exact h.pa j g1 g2
    · intro j; have := h.i j; unfold gu; split <;> omega
  · split
    · exact h
    · split
      · exact h
      · rename_i c1 c2 c3
        refine RI_of h ?_ ?_ ?_ ?_ ?_ ?_ ?_ ?_ ?_ ?_ ?_ ?_ ?_ ?_ ?_ ?_
        · rw [gu_ne (by omega), gu_ne (by omega), gu_ne (by omega)]; exact h.n
        · rw [gu_ne (by omega), gu_ne (by omega), gu_ne (by omega)]
        · rw [gu_ne (by omega), gu_ne (by omega), gu_ne (by omega)]; exact h.td
        · rw [gu_eq]; omega
        · rw [gu_ne (by omega), gu_ne (by omega), gu_ne (by omega)]; exact h.rw
        · rw [gu_ne (by omega), gu_ne (by omega), gu_ne (by omega)]; exact h.tp
        · rw [gu_ne (by omega), gu_ne (by omega), gu_ne (by omega), gu_ne (by omega), gu_ne (by omega), gu_ne (by omega)]; exact h.bd
        · intro j g1 g2; rw [gu_ne (by omega), gu_ne (by omega), gu_ne (by omega)]; exact h.tape j g1 g2
        · intro j g1 g2; rw [gu_ne (by omega), gu_ne (by omega), gu_ne (by omega)]; exact h.chr j g1 g2
        · intro j g1 g2; rw [gu_ne (by omega), gu_ne (by omega), gu_ne (by omega)]; exact h.kd j g1 g2
        · intro j g1 g2; rw [gu_ne (by omega), gu_ne (by omega), gu_ne (by omega)]; exact h.vv j g1 g2
        · intro j g1 g2; rw [gu_ne (by omega), gu_ne (by omega), gu_ne (by omega)]
        · intro k g1 g2
          rw [gu_eq] at g2
          by_cases ck : k = S 3
          · subst ck
            rw [gu_ne (by omega), gu_ne (by omega), gu_eq, gu_ne (by omega), gu_eq]
            omega
          · rw [gu_ne (by omega), gu_ne (by omega), gu_ne (by omega), gu_ne (by omega), gu_ne (by omega), gu_ne (by omega)]
            exact h.ro k g1 (by omega)
        · intro j g1 g2; rw [gu_ne (by omega), gu_ne (by omega), gu_ne (by omega)]; exact h.rr j g1 g2
        · intro j g1 g2; rw [gu_ne (by omega), gu_ne (by omega), gu_ne (by omega)]; exact h.pa j g1 g2
        · intro j; have := h.i j; unfold gu; (repeat' split) <;> omega
theorem RI_feed {S : Int → Int} {w n : Int} (h : RI S) : RI (n_feed S w n) := by
  have ht := h.tp
  unfold n_feed
  split
  · rename_i q
    obtain ⟨q1, q2⟩ := q
    have out : ∀ j : Int, ¬ j = 5 → ¬ (10 + S 5 ≤ j ∧ j < 10 + S 5 + n) → (if j = 5 then S 5 + n else if 10 + S 5 ≤ j ∧ j < 10 + S 5 + n then w / 2 ^ (8 * (n - 1 - (j - 10 - S 5))).toNat % 256 else S j) = S j := fun j c1 c2 => by rw [if_neg c1, if_neg c2]
    have hb : ∀ x : Int, 0 ≤ x % 256 ∧ x % 256 ≤ 255 := fun x => by omega
    refine RI_of h ?_ ?_ ?_ ?_ ?_ ?_ ?_ ?_ ?_ ?_ ?_ ?_ ?_ ?_ ?_ ?_
    · rw [out 0 (by omega) (by omega)]; exact h.n
    · rw [out 1 (by omega) (by omega)]
    · rw [out 2 (by omega) (by omega)]; exact h.td
    · rw [out 3 (by omega) (by omega)]; exact h.rd
    · rw [out 4 (by omega) (by omega)]; exact h.rw
    · rw [if_pos rfl]; omega
    · rw [out 0 (by omega) (by omega), out 6 (by omega) (by omega)]; exact h.bd
    · intro j g1 g2
      rw [if_neg (by omega)]
      split
      · exact hb _
      · exact h.tape j g1 g2
    · intro j g1 g2; rw [out j (by omega) (by omega)]; exact h.chr j g1 g2
    · intro j g1 g2; rw [out j (by omega) (by omega)]; exact h.kd j g1 g2
    · intro j g1 g2; rw [out j (by omega) (by omega)]; exact h.vv j g1 g2
    · intro j g1 g2; rw [out j (by omega) (by omega)]
    · intro k g1 g2
      rw [out 3 (by omega) (by omega)] at g2
      rw [out _ (by omega) (by omega), out _ (by omega) (by omega)]
      exact h.ro k g1 g2
    · intro j g1 g2; rw [out j (by omega) (by omega)]; exact h.rr j g1 g2
    · intro j g1 g2; rw [out j (by omega) (by omega)]; exact h.pa j g1 g2
    · intro j
      have := h.i j
      split
      · omega
      · split
        · have := hb (w / 2 ^ (8 * (n - 1 - (j - 10 - S 5))).toNat); omega
        · exact this
  · exact h
theorem VB_name {n b : Int} (h : VB n b) (h6 : n < 6) : VB (n + 1) (b + n * 8 ^ n.toNat) := by
  have hn := h.1
  have e8 : (8 : Int) ^ n.toNat = 2 ^ (3 * n.toNat) := (p38 _).symm
  have e : ior b (n * 8 ^ n.toNat) = b + n * 8 ^ n.toNat := by
    rw [e8]; exact ior_add h.2.1.1 (by rw [← e8]; exact h.2.1.2) hn.1
  have hnp := Int.mul_nonneg hn.1 (Int.le_of_lt (p8 n.toNat))
  have hb := h.2.1
  have h3 : n * 8 ^ n.toNat ≤ 5 * 8 ^ n.toNat := Int.mul_le_mul_of_nonneg_right (by omega) (Int.le_of_lt (p8 _))
  have h9 : (8 : Int) ^ (n + 1).toNat = 8 * 8 ^ n.toNat := by rw [show (n + 1).toNat = n.toNat + 1 by omega, p8s]
  have d : ∀ r : Int, 0 ≤ r → r < n + 1 → dg (b + n * 8 ^ n.toNat) r = if r = n then n else dg b r := fun r h1 h2 => by
    rw [← e, dg_or hb.1 hnp, dg_sh (by omega) hn.1 h1]
    by_cases c : r = n
    · subst c
      rw [if_pos rfl, if_pos rfl]
      have : dg b r = 0 := by unfold dg; rw [Int.ediv_eq_zero_of_lt hb.1 hb.2]; rfl
      rw [this]
      unfold ior
      rw [show (0 : Int).toNat = 0 from rfl, Nat.zero_or, Int.toNat_of_nonneg h1]
    · rw [if_neg c, if_neg c, ior_0 (dg_bd b r).1]
  refine ⟨by omega, by omega, fun r h1 h2 => ?_, fun r q h1 h2 h3 h4 g => ?_⟩
  · rw [d r h1 h2]
    split
    · omega
    · have := h.2.2.1 r h1 (by omega); omega
  · rw [d r h1 h2, d q h3 h4] at g
    by_cases c1 : r = n
    · by_cases c2 : q = n
      · omega
      · rw [if_pos c1, if_neg c2] at g
        have := h.2.2.1 q h3 (by omega); omega
    · by_cases c2 : q = n
      · rw [if_neg c1, if_pos c2] at g
        have := h.2.2.1 r h1 (by omega); omega
      · rw [if_neg c1, if_neg c2] at g
        exact h.2.2.2 r q h1 (by omega) h3 (by omega) g
theorem RI_name {S : Int → Int} (h : RI S) : RI (n_name S) := by
  have hn := h.n
  unfold n_name
  split
  · exact h
  · rename_i c
    have hv := VB_name h.bd (by omega)
    have hr := VB_rng hv
    have out : ∀ j : Int, ¬ j = 0 → ¬ j = 6 → ¬ j = 166 + S 0 → ¬ j = 172 + S 0 → ¬ (130 ≤ j ∧ j < 166) → (if j = 0 then S 0 + 1 else if j = 6 then S 6 + S 0 * 8 ^ (S 0).toNat else if j = 166 + S 0 then 0 else if j = 172 + S 0 then 0 else if 130 ≤ j ∧ j < 166 ∧ ((j - 130) / 6 = S 0 ∨ (j - 130) % 6 = S 0) then 50 else S j) = S j := fun j c1 c2 c3 c4 c5 => by
      rw [if_neg c1, if_neg c2, if_neg c3, if_neg c4, if_neg (fun z => c5 ⟨z.1, z.2.1⟩)]
    refine RI_of h ?_ ?_ ?_ ?_ ?_ ?_ ?_ ?_ ?_ ?_ ?_ ?_ ?_ ?_ ?_ ?_
    · rw [if_pos rfl]; omega
    · rw [out 1 (by omega) (by omega) (by omega) (by omega) (by omega)]
    · rw [out 2 (by omega) (by omega) (by omega) (by omega) (by omega)]; exact h.td
    · rw [out 3 (by omega) (by omega) (by omega) (by omega) (by omega)]; exact h.rd
    · rw [out 4 (by omega) (by omega) (by omega) (by omega) (by omega)]; exact h.rw
    · rw [out 5 (by omega) (by omega) (by omega) (by omega) (by omega)]; exact h.tp
    · rw [if_pos rfl, if_neg (by decide), if_pos rfl]; exact hv
    · intro j g1 g2; rw [out j (by omega) (by omega) (by omega) (by omega) (by omega)]; exact h.tape j g1 g2
    · intro j g1 g2
      rw [if_neg (by omega), if_neg (by omega), if_neg (by omega), if_neg (by omega)]
      split
      · omega
      · exact h.chr j g1 g2
    · intro j g1 g2
      have := h.kd j g1 g2
      rw [if_neg (by omega), if_neg (by omega)]
      (repeat' split) <;> omega
    · intro j g1 g2
      have := h.vv j g1 g2
      rw [if_neg (by omega), if_neg (by omega)]
      (repeat' split) <;> omega
    · intro j g1 g2; rw [out j (by omega) (by omega) (by omega) (by omega) (by omega)]
    · intro k g1 g2
      have h15 := h.rd
      rw [out 3 (by omega) (by omega) (by omega) (by omega) (by omega)] at g2
      rw [out _ (by omega) (by omega) (by omega) (by omega) (by omega), out _ (by omega) (by omega) (by omega) (by omega) (by omega)]
      exact h.ro k g1 g2
    · intro j g1 g2; rw [out j (by omega) (by omega) (by omega) (by omega) (by omega)]; exact h.rr j g1 g2
    · intro j g1 g2; rw [out j (by omega) (by omega) (by omega) (by omega) (by omega)]; exact h.pa j g1 g2
    · intro j
      have := h.i j
      split
      · omega
      · split
        · omega
        · (repeat' split) <;> omega
