/-! ===== the orders: what the table says, in words of boards ===== -/
def nxE (n : Nat) : Bool := (ordN n).all (fun o => (List.range n).all (fun a => (List.range n).all (fun b => !(decide (a < b)) || decide (dN o a ≠ dN o b))))
theorem nxE_6 : ∀ n : Nat, n < 7 → nxE n = true := by decide +kernel
theorem dN_dg {o : Int} (h : 0 ≤ o) (r : Nat) : ((dN o.toNat r : Nat) : Int) = dg o (r : Int) := by
  obtain ⟨m, rfl⟩ := Int.eq_ofNat_of_zero_le h
  rw [dgN, Int.toNat_natCast, Int.toNat_natCast]
  unfold dN
  rw [Nat.pow_mul]
/-- what makes an order the next one -/
def NXo (n o o2 : Int) : Prop := (∃ i : Int, 0 ≤ i ∧ i + 1 < n ∧ dg o i < dg o (i + 1)) ∧ (∀ a b : Int, 0 ≤ a → a < n → 0 ≤ b → b < n → dg o a = dg o b → a = b) ∧
  ∀ i j : Int, 0 ≤ i → i + 1 < n → dg o i < dg o (i + 1) → (∀ z : Int, i < z → z + 1 < n → dg o (z + 1) < dg o z) → i < j → j < n → dg o i < dg o j → (∀ z : Int, j < z → z < n → dg o z < dg o i) → ∀ r : Int, 0 ≤ r → r < n → dg o2 r = dg o (if r < i then r else if r = i then j else if i + n - r = j then i else i + n - r)
abbrev PL (n : Int) : List Int := PRM n n.toNat 0 0 0
theorem PL_OD {n : Int} (hn : 0 ≤ n ∧ n ≤ 6) : ∀ o ∈ PL n, OD o := PRM_OD hn.2 n.toNat 0 0 0 OD_0 (Int.le_refl 0) (by omega) (by decide)
theorem PL_ord {n : Int} (hn : 0 ≤ n ∧ n ≤ 6) : ordN n.toNat = (PL n).map Int.toNat := by
  unfold ordN
  rw [Int.toNat_of_nonneg hn.1]
theorem nxA_parts {n : Int} (hn : 0 ≤ n ∧ n ≤ 6) : ((((ordN n.toNat).zip ((ordN n.toNat).drop 1)).all (fun p => nxC n.toNat p.1 p.2)) = true ∧ (ordN n.toNat).length = FCN n.toNat) ∧ ((List.range n.toNat).all (fun r => decide (dN ((ordN n.toNat).getD 0 0) r = r)) = true) ∧ ((ordN n.toNat).all (fun o => (List.range n.toNat).all (fun r => decide (dN o r < n.toNat))) = true) := by
  have h := nxA_6 n.toNat (by omega)
  unfold nxA at h
  simp only [Bool.and_eq_true, decide_eq_true_eq] at h
  exact ⟨⟨h.1.1.1, h.1.1.2⟩, h.1.2, h.2⟩
theorem PL_len {n : Int} (hn : 0 ≤ n ∧ n ≤ 6) : ((PL n).length : Int) = FAC n := by
  have h := (nxA_parts hn).1.2
  rw [PL_ord hn, List.length_map] at h
  have e : ∀ k : Nat, FCN k = FCN k := fun _ => rfl
  unfold FAC
  omega
theorem PL_get {n : Int} {k : Nat} (hk : k < (PL n).length) : (PL n).getD k 0 ∈ PL n ∧ (PL n)[k]? = some ((PL n).getD k 0) := by
  have e : (PL n)[k]? = some ((PL n)[k]) := List.getElem?_eq_getElem hk
  have e2 : (PL n).getD k 0 = (PL n)[k] := by rw [List.getD_eq_getElem?_getD, e]; rfl
  rw [e2]
  exact ⟨List.getElem_mem hk, e⟩
theorem PL_lt {n : Int} (hn : 0 ≤ n ∧ n ≤ 6) {o : Int} (ho : o ∈ PL n) {r : Int} (h0 : 0 ≤ r) (h1 : r < n) : dg o r < n := by
  have h := (nxA_parts hn).2.2
  rw [PL_ord hn, List.all_map, List.all_eq_true] at h
  have h2 := h o ho
  simp only [Function.comp, List.all_eq_true, List.mem_range, decide_eq_true_eq] at h2
  have h3 := h2 r.toNat (by omega)
  have h4 := dN_dg (PL_OD hn o ho).1.1 r.toNat
  rw [Int.toNat_of_nonneg h0] at h4
  omega
theorem PL_inj {n : Int} (hn : 0 ≤ n ∧ n ≤ 6) {o : Int} (ho : o ∈ PL n) : ∀ a b : Int, 0 ≤ a → a < n → 0 ≤ b → b < n → dg o a = dg o b → a = b := by
  have h := nxE_6 n.toNat (by omega)
  unfold nxE at h
  rw [PL_ord hn, List.all_map, List.all_eq_true] at h
  have h2 := h o ho
  simp only [Function.comp, List.all_eq_true, List.mem_range, Bool.or_eq_true, Bool.not_eq_true', decide_eq_false_iff_not, decide_eq_true_eq] at h2
  have key : ∀ a b : Int, 0 ≤ a → b < n → a < b → dg o a ≠ dg o b := fun a b a0 b1 ab e => by
    have h3 := h2 a.toNat (by omega) b.toNat (by omega)
    have ea := dN_dg (PL_OD hn o ho).1.1 a.toNat
    have eb := dN_dg (PL_OD hn o ho).1.1 b.toNat
    rw [Int.toNat_of_nonneg a0] at ea
    rw [Int.toNat_of_nonneg (by omega)] at eb
    rcases h3 with h3 | h3
    · omega
    · exact h3 (by omega)
  intro a b a0 a1 b0 b1 e
  rcases (show a = b ∨ a < b ∨ b < a by omega) with c | c | c
  · exact c
  · exact absurd e (key a b a0 b1 c)
  · exact absurd e.symm (key b a b0 a1 c)
theorem PL_0 {n : Int} (hn : 0 ≤ n ∧ n ≤ 6) {r : Int} (h0 : 0 ≤ r) (h1 : r < n) : dg ((PL n).getD 0 0) r = r := by
  have h := (nxA_parts hn).2.1
  have hl : 0 < (PL n).length := by
    have := PL_len hn
    have := FAC_bd hn
    omega
  have hg := PL_get hl
  have e : (ordN n.toNat).getD 0 0 = ((PL n).getD 0 0).toNat := by
    rw [PL_ord hn, List.getD_eq_getElem?_getD, List.getElem?_map, hg.2]
    rfl
  rw [e, List.all_eq_true] at h
  have h2 := h r.toNat (List.mem_range.mpr (by omega))
  rw [decide_eq_true_eq] at h2
  have h4 := dN_dg (PL_OD hn _ hg.1).1.1 r.toNat
  rw [Int.toNat_of_nonneg h0] at h4
  omega
theorem PL_nx {n : Int} (hn : 0 ≤ n ∧ n ≤ 6) {k : Nat} (hk : k + 1 < (PL n).length) : NXo n ((PL n).getD k 0) ((PL n).getD (k + 1) 0) := by
  have h := (nxA_parts hn).1.1
  have g1 := PL_get (n := n) (k := k) (by omega)
  have g2 := PL_get (n := n) (k := k + 1) hk
  have n1 := (PL_OD hn _ g1.1).1.1
  have n2 := (PL_OD hn _ g2.1).1.1
  generalize e1 : (PL n).getD k 0 = o at *
  generalize e2 : (PL n).getD (k + 1) 0 = o2 at *
  rw [List.all_eq_true] at h
  have hm : (o.toNat, o2.toNat) ∈ (ordN n.toNat).zip ((ordN n.toNat).drop 1) := by
    refine List.mem_of_getElem? (i := k) ?_
    rw [List.getElem?_zip_eq_some]
    rw [List.getElem?_drop, PL_ord hn, List.getElem?_map, List.getElem?_map, g1.2, show 1 + k = k + 1 by omega, g2.2]
    exact ⟨rfl, rfl⟩
  have hc := h _ hm
  unfold nxC nxD at hc
  simp only [Bool.and_eq_true, Bool.or_eq_true, List.any_eq_true, List.all_eq_true, List.mem_range, decide_eq_true_eq, Bool.not_eq_true', Bool.and_eq_false_iff, decide_eq_false_iff_not] at hc
  obtain ⟨⟨i0, hi0, hi1, hi2⟩, hall⟩ := hc
  have D : ∀ r : Int, 0 ≤ r → ((dN o.toNat r.toNat : Nat) : Int) = dg o r := fun r h0 => by
    have := dN_dg n1 r.toNat
    rw [Int.toNat_of_nonneg h0] at this
    exact this
  have D2 : ∀ r : Int, 0 ≤ r → ((dN o2.toNat r.toNat : Nat) : Int) = dg o2 r := fun r h0 => by
    have := dN_dg n2 r.toNat
    rw [Int.toNat_of_nonneg h0] at this
    exact this
  refine ⟨⟨(i0 : Int), by omega, by omega, ?_⟩, PL_inj hn g1.1, fun i j a0 a1 a2 a3 a4 a5 a6 a7 r r0 r1 => ?_⟩
  · have d1 := D (i0 : Int) (by omega)
    have d2 := D ((i0 : Int) + 1) (by omega)
    rw [Int.toNat_natCast] at d1
    rw [show ((i0 : Int) + 1).toNat = i0 + 1 by omega] at d2
    omega
  · have d1 := D i a0
    have d2 := D (i + 1) (by omega)
    have d3 := D j (by omega)
    rw [show (i + 1).toNat = i.toNat + 1 by omega] at d2
    rcases hall i.toNat (by omega) with hx | hx
    · exfalso
      rcases hx with (hx | hx) | hx
      · omega
      · omega
      · rw [List.all_eq_false] at hx
        obtain ⟨z, hz, hx⟩ := hx
        simp only [Bool.or_eq_true, Bool.not_eq_true', decide_eq_false_iff_not, decide_eq_true_eq, not_or, Classical.not_not] at hx
        have d4 := D (z : Int) (by omega)
        have d5 := D ((z : Int) + 1) (by omega)
        rw [Int.toNat_natCast] at d4
        rw [show ((z : Int) + 1).toNat = z + 1 by omega] at d5
        have := a3 (z : Int) (by omega) (by omega)
        omega
    · rcases hx j.toNat (by omega) with hy | hy
      · exfalso
        rcases hy with (hy | hy) | hy
        · omega
        · omega
        · rw [List.all_eq_false] at hy
          obtain ⟨z, hz, hy⟩ := hy
          simp only [Bool.or_eq_true, Bool.not_eq_true', decide_eq_false_iff_not, decide_eq_true_eq, not_or, Classical.not_not] at hy
          have d4 := D (z : Int) (by omega)
          rw [Int.toNat_natCast] at d4
          have hz2 := List.mem_range.mp hz
          have := a7 (z : Int) (by omega) (by omega)
          omega
      · have hr := hy r.toNat (by omega)
        have d6 := D2 r r0
        rw [← d6, hr]
        have ep : (pmN i.toNat j.toNat n.toNat r.toNat) = (if r < i then r else if r = i then j else if i + n - r = j then i else i + n - r).toNat := by
          unfold pmN
          by_cases c1 : r < i
          · rw [if_pos c1, if_pos (by omega)]
          · rw [if_neg c1, if_neg (by omega)]
            by_cases c2 : r = i
            · rw [if_pos c2, if_pos (by omega)]
            · rw [if_neg c2, if_neg (by omega)]
              by_cases c3 : i + n - r = j
              · rw [if_pos c3, if_pos (by omega)]
              · rw [if_neg c3, if_neg (by omega)]; omega
        rw [ep]
        exact D _ (by split; omega; split; omega; split <;> omega)
/-- the orders gone through so far -/
def FO (S : Int → Int) (k : Int) : Int × Int × Int × Int := ((PL (S 0)).take k.toNat).foldl (LEAF S) (0, 0, -1, 0)
theorem FO_s (S : Int → Int) {k : Int} (h0 : 0 ≤ k) (h1 : k < ((PL (S 0)).length : Int)) : FO S (k + 1) = LEAF S (FO S k) ((PL (S 0)).getD k.toNat 0) := by
  unfold FO
  have hg := (PL_get (n := S 0) (k := k.toNat) (by omega)).2
  rw [show (k + 1).toNat = k.toNat + 1 by omega, List.take_add_one, hg, List.foldl_append]
  rfl
theorem FO_n {S : Int → Int} {k : Int} (h : k = ((PL (S 0)).length : Int)) : FO S k = ALL S := by
  unfold FO ALL GO
  rw [List.take_of_length_le (by omega)]
theorem v_below_bd {S : Int → Int} {o : Int} (hR : RI S) (ho : OD o) : 0 ≤ v_below S o ∧ v_below S o ≤ 3600 := by
  have hn := hR.n
  have := below_out hR ho hn.1 (Int.le_refl _)
  unfold v_below
  omega
theorem RFN_all {S : Int → Int} {m : Nat} (h : RFN S m = 1) : ∀ k : Int, 0 ≤ k → k < (m : Int) → S (893 + 2 * k + 1) < S 0 := fun k k0 k1 => by
  rcases Int.lt_or_le (S (893 + 2 * k + 1)) (S 0) with c | c
  · exact c
  · exact absurd h (RFN_0 k0 c m k1)
