/-! ===== System.arraycopy from the beginning of a row to that of another ===== -/
def cpg (f g : Int → Int) (n : Int) : Int → Int := fun j => if 0 ≤ j ∧ j < n then f j else g j
theorem jf_cpy (f g : Int → Int) {n : Int} (h : 0 ≤ n) (h2 : n < 2147483648) : va_cpy (jf f) (jf g) (J 0).toNatClampNeg (J 0).toNatClampNeg (J n).toNatClampNeg = jf (cpg f g n) := by
  funext k
  rw [J_clamp h h2, J_clamp (Int.le_refl 0) (by decide)]
  unfold va_cpy jf cpg
  show (if 0 ≤ k ∧ k < 0 + n.toNat then J (f ((0 + (k - 0) : Nat) : Int)) else J (g (k : Int))) = _
  by_cases c : (k : Int) < n
  · rw [if_pos (by omega), if_pos (by omega)]
    congr 2
    omega
  · rw [if_neg (by omega), if_neg (by omega)]
section CPYR
variable {K : KT} {G : GT} {cc : ByteArray} {own : String} {d mc ms cs ss pc : Nat} {w : va_W} {lv : List (Nat × Value)} {rest : List Value}
theorem nn0 : ¬ (J 0 < 0) := by decide
theorem nnn {n : Int} (h : 0 ≤ n) (h2 : n < 2147483648) : ¬ (J n < 0) := fun z => by
  have := (J_lt (a := n) (b := 0) ⟨by omega, h2⟩ ⟨by decide, by decide⟩).mp z
  omega
theorem w_copyI (hC : KOK K G cc own d mc ms) {index a a0 n0 n1 : Nat} {f g : Int → Int} {n : Int} {w2 : va_W} (hd : decode cc pc = .ok (.invokestatic index, 3)) (hl : Cond.methodLink own index arraycopyName ∈ wAll) (q0 q1 : Nat) (h0 : w[q0]? = some (a0, .inl (G.2.1 0, n0, .inl (jf f)))) (h1 : w[q1]? = some (a, .inl (G.2.1 0, n1, .inl (jf g)))) (hn : 0 ≤ n ∧ n ≤ (n0 : Int) ∧ n ≤ (n1 : Int) ∧ n < 2147483648) (hdd : 1 ≤ d) (hcat : (rest.map fun v => v.category).sum ≤ 8) (hw : w.set q1 (a, .inl (G.2.1 0, n1, .inl (jf (cpg f g n)))) = w2) (k : WW K G cs ss w2 (pc + 3) lv rest) : WW K G cs ss w pc lv (.int (J n) :: .int (J 0) :: .ref a :: .int (J 0) :: .ref a0 :: rest) := fun H locs ls hP hD hS hl2 => by
  have hroom := hC.2.2.2.2.2.2.2.2.2
  have ez : (J 0).toNatClampNeg = 0 := J_clamp (Int.le_refl 0) (by decide)
  have en : (J n).toNatClampNeg = n.toNat := J_clamp hn.1 (by omega)
  refine va_copyi hC.1 hC.2.1 (hC.2.2.1.trans hl2.1.symm) hC.2.2.2.1 (hC.2.2.2.2.1 _ hl) (hC.2.2.2.2.1 _ tw_2_213) (hC.2.2.2.2.1 _ tw_2_212) (hC.2.2.2.2.1 _ tw_1_14) hC.2.2.2.2.2.1 hP hD hS q0 q1 0 0 h0 h1 rfl rfl rfl nn0 nn0 (nnn hn.1 (by omega)) (by rw [ez, en]; omega) (by rw [ez, en]; omega) (fun i _ => rfl) (by omega) (by show _ + (7 + 11) ≤ _; omega) hd (fun H1 locs1 hP1 hD1 hS1 => ?_)
  rw [jf_cpy f g hn.1 hn.2.2.2] at hP1 hD1
  exact k H1 locs1 ls (by rw [← hw]; exact hP1) (by rw [← hw]; exact hD1) hS1 hl2
theorem fits_byte {x : Int} (h : -128 ≤ x ∧ x ≤ 127) : fits .byte (.int (J x)) = true := by
  show (decide (-128 ≤ J x) && decide (J x ≤ 127)) = true
  have e1 : J (-128) ≤ J x ↔ -128 ≤ x := J_le ⟨by decide, by decide⟩ ⟨by omega, by omega⟩
  have e2 : J x ≤ J 127 ↔ x ≤ 127 := J_le ⟨by omega, by omega⟩ ⟨by decide, by decide⟩
  have f1 : (-128 : Int32) = J (-128) := by decide
  have f2 : (127 : Int32) = J 127 := by decide
  rw [f1, f2, decide_eq_true (e1.mpr h.1), decide_eq_true (e2.mpr h.2)]
  rfl
theorem w_copyB (hC : KOK K G cc own d mc ms) {index a a0 n0 n1 : Nat} {f g : Int → Int} {n : Int} {w2 : va_W} (hd : decode cc pc = .ok (.invokestatic index, 3)) (hl : Cond.methodLink own index arraycopyName ∈ wAll) (q0 q1 : Nat) (h0 : w[q0]? = some (a0, .inl (G.2.1 3, n0, .inl (jf f)))) (h1 : w[q1]? = some (a, .inl (G.2.1 3, n1, .inl (jf g)))) (hn : 0 ≤ n ∧ n ≤ (n0 : Int) ∧ n ≤ (n1 : Int) ∧ n < 2147483648) (hf : ∀ j : Int, 0 ≤ j → j < n → -128 ≤ f j ∧ f j ≤ 127) (hdd : 1 ≤ d) (hcat : (rest.map fun v => v.category).sum ≤ 8) (hw : w.set q1 (a, .inl (G.2.1 3, n1, .inl (jf (cpg f g n)))) = w2) (k : WW K G cs ss w2 (pc + 3) lv rest) : WW K G cs ss w pc lv (.int (J n) :: .int (J 0) :: .ref a :: .int (J 0) :: .ref a0 :: rest) := fun H locs ls hP hD hS hl2 => by
  have hroom := hC.2.2.2.2.2.2.2.2.2
  have ez : (J 0).toNatClampNeg = 0 := J_clamp (Int.le_refl 0) (by decide)
  have en : (J n).toNatClampNeg = n.toNat := J_clamp hn.1 (by omega)
  refine va_copyi hC.1 hC.2.1 (hC.2.2.1.trans hl2.1.symm) hC.2.2.2.1 (hC.2.2.2.2.1 _ hl) (hC.2.2.2.2.1 _ tw_2_213) (hC.2.2.2.2.1 _ tw_2_212) (hC.2.2.2.2.1 _ tw_1_14) hC.2.2.2.2.2.1 hP hD hS q0 q1 3 3 h0 h1 rfl rfl rfl nn0 nn0 (nnn hn.1 (by omega)) (by rw [ez, en]; omega) (by rw [ez, en]; omega) (fun i hi => by
    rw [en] at hi
    rw [ez, Nat.zero_add]
    exact fits_byte (hf (i : Int) (by omega) (by omega))) (by omega) (by show _ + (7 + 11) ≤ _; omega) hd (fun H1 locs1 hP1 hD1 hS1 => ?_)
  rw [jf_cpy f g hn.1 hn.2.2.2] at hP1 hD1
  exact k H1 locs1 ls (by rw [← hw]; exact hP1) (by rw [← hw]; exact hD1) hS1 hl2
end CPYR
/-! ===== the orders, one behind another ===== -/
def dN (o r : Nat) : Nat := o / 8 ^ r % 8
/-- where the next order has what the order has on a place -/
def pmN (i j n r : Nat) : Nat := if r < i then r else if r = i then j else if i + n - r = j then i else i + n - r
def nxD (n o i : Nat) : Bool := (List.range n).all (fun k => !(decide (i < k ∧ k + 1 < n)) || decide (dN o (k + 1) < dN o k))
def nxC (n o o2 : Nat) : Bool := ((List.range n).any (fun i => decide (i + 1 < n) && decide (dN o i < dN o (i + 1)))) && (List.range n).all (fun i => !(decide (i + 1 < n) && decide (dN o i < dN o (i + 1)) && nxD n o i) || (List.range n).all (fun j => !(decide (i < j) && decide (dN o i < dN o j) && (List.range n).all (fun k => !(decide (j < k)) || decide (dN o k < dN o i))) || (List.range n).all (fun r => decide (dN o2 r = dN o (pmN i j n r)))))
def ordN (n : Nat) : List Nat := (PRM (n : Int) n 0 0 0).map Int.toNat
def nxA (n : Nat) : Bool := (((ordN n).zip ((ordN n).drop 1)).all (fun p => nxC n p.1 p.2)) && decide ((ordN n).length = FCN n) && (List.range n).all (fun r => decide (dN ((ordN n).getD 0 0) r = r)) && (ordN n).all (fun o => (List.range n).all (fun r => decide (dN o r < n)))
theorem nxA_6 : ∀ n : Nat, n < 7 → nxA n = true := by decide +kernel
