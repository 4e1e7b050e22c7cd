/-! ===== rows that make objects and arrays ===== -/
section NEWR
variable {K : KT} {G : GT} {cc : ByteArray} {own : String} {d mc ms cs ss pc : Nat} {w : va_W} {lv : List (Nat × Value)} {st : List Value}
theorem RA_inj {U : State} {q1 c0 : ClassId} {ty : FieldType} (hp : ∀ C : String, ty ≠ .object C) (h1 : va_RA U q1 ty) (h2 : va_RA U c0 ty) : q1 = c0 := by
  cases ty <;> first | exact Option.some.inj (Eq.trans (Eq.symm h1) h2) | exact absurd rfl (hp _)
theorem cy_eq {U : State} {D : va_G} {cy : Nat → ClassId} {q : ClassId × FieldType} {c0 : ClassId} {ty : FieldType} {t0 : Nat} (hp : ∀ C : String, ty ≠ .object C) (h : va_K D vwCl (TY cy ++ [q]) U) (ht : (TY cy)[t0]? = some (c0, ty)) (hq : q.2 = ty) : q.1 = c0 := by
  have h7 : t0 < (TY cy).length := (List.getElem?_eq_some_iff.mp ht).1
  have h1 := (h.2 t0 (c0, ty) (by rw [List.getElem?_append_left h7]; exact ht)).2
  have h2 := (h.2 (TY cy).length q (by rw [List.getElem?_append_right (Nat.le_refl _), Nat.sub_self]; rfl)).2
  rw [hq] at h2
  exact RA_inj hp h2 h1
theorem w_newI (hC : KOK K G cc own d mc ms) {n : Int} {at_ : ArrayType} (hd : decode cc pc = .ok (.newarray at_, 2)) (hat : newarray.typeOf at_ = .int) (hw : Cond.arrayClass .int ∈ wAll) (hn : 0 ≤ n ∧ n ≤ 2000000) (hcs : cs + 1 ≤ mc ∧ ss + n.toNat ≤ ms) (k : ∀ q : Nat, WW K G (cs + 1) (ss + n.toNat) (w ++ [(q, .inl (G.2.1 0, n.toNat, .inl (jf (fun _ => 0))))]) (pc + 2) lv (.ref q :: st)) : WW K G cs ss w pc lv (.int (J n) :: st) := fun H locs ls hP hD hS hl => by
  have hroom := hC.2.2.2.2.2.2.2.2.2.2.2
  refine va_newa (a0 := (n.toNat, .inl (jf (fun _ => 0)))) hC.1 hC.2.1 (hat.symm ▸ hC.2.2.2.2.1 _ hw) hat hC.2.2.2.2.2.1 hP hD hS hC.2.2.2.2.2.2.2.1 (fun cA => rfl) ?_ (J_clamp hn.1 (by omega)) ?_ (by omega) (by omega) hd ?_
  · intro z
    have := (J_lt (a := n) (b := 0) ⟨by omega, by omega⟩ ⟨by omega, by omega⟩).mp z
    omega
  · show n.toNat * 4 ≤ 536870912
    omega
  · intro q cA H1 hK hP1 hD1 hS1
    have e : cA = G.2.1 0 := cy_eq (t0 := 0) (fun C h => by cases h) hK rfl rfl
    subst e
    exact k q H1 locs ls hP1 hD1 hS1 hl
theorem w_newL (hC : KOK K G cc own d mc ms) {n : Int} {at_ : ArrayType} (hd : decode cc pc = .ok (.newarray at_, 2)) (hat : newarray.typeOf at_ = .long) (hw : Cond.arrayClass .long ∈ wAll) (hn : 0 ≤ n ∧ n ≤ 2000000) (hcs : cs + 1 ≤ mc ∧ ss + n.toNat ≤ ms) (k : ∀ q : Nat, WW K G (cs + 1) (ss + n.toNat) (w ++ [(q, .inl (G.2.1 1, n.toNat, .inr (.inl (jlf (fun _ => 0)))))]) (pc + 2) lv (.ref q :: st)) : WW K G cs ss w pc lv (.int (J n) :: st) := fun H locs ls hP hD hS hl => by
  have hroom := hC.2.2.2.2.2.2.2.2.2.2.2
  refine va_newa (a0 := (n.toNat, .inr (.inl (jlf (fun _ => 0))))) hC.1 hC.2.1 (hat.symm ▸ hC.2.2.2.2.1 _ hw) hat hC.2.2.2.2.2.1 hP hD hS hC.2.2.2.2.2.2.2.1 (fun cA => rfl) ?_ (J_clamp hn.1 (by omega)) ?_ (by omega) (by omega) hd ?_
  · intro z
    have := (J_lt (a := n) (b := 0) ⟨by omega, by omega⟩ ⟨by omega, by omega⟩).mp z
    omega
  · show n.toNat * 8 ≤ 536870912
    omega
  · intro q cA H1 hK hP1 hD1 hS1
    have e : cA = G.2.1 1 := cy_eq (t0 := 1) (fun C h => by cases h) hK rfl rfl
    subst e
    exact k q H1 locs ls hP1 hD1 hS1 hl
theorem w_newZ (hC : KOK K G cc own d mc ms) {n : Int} {at_ : ArrayType} (hd : decode cc pc = .ok (.newarray at_, 2)) (hat : newarray.typeOf at_ = .boolean) (hw : Cond.arrayClass .boolean ∈ wAll) (hn : 0 ≤ n ∧ n ≤ 2000000) (hcs : cs + 1 ≤ mc ∧ ss + n.toNat ≤ ms) (k : ∀ q : Nat, WW K G (cs + 1) (ss + n.toNat) (w ++ [(q, .inl (G.2.1 2, n.toNat, .inl (jf (fun _ => 0))))]) (pc + 2) lv (.ref q :: st)) : WW K G cs ss w pc lv (.int (J n) :: st) := fun H locs ls hP hD hS hl => by
  have hroom := hC.2.2.2.2.2.2.2.2.2.2.2
  refine va_newa (a0 := (n.toNat, .inl (jf (fun _ => 0)))) hC.1 hC.2.1 (hat.symm ▸ hC.2.2.2.2.1 _ hw) hat hC.2.2.2.2.2.1 hP hD hS hC.2.2.2.2.2.2.2.1 (fun cA => rfl) ?_ (J_clamp hn.1 (by omega)) ?_ (by omega) (by omega) hd ?_
  · intro z
    have := (J_lt (a := n) (b := 0) ⟨by omega, by omega⟩ ⟨by omega, by omega⟩).mp z
    omega
  · show n.toNat * 1 ≤ 536870912
    omega
  · intro q cA H1 hK hP1 hD1 hS1
    have e : cA = G.2.1 2 := cy_eq (t0 := 2) (fun C h => by cases h) hK rfl rfl
    subst e
    exact k q H1 locs ls hP1 hD1 hS1 hl
theorem w_newB (hC : KOK K G cc own d mc ms) {n : Int} {at_ : ArrayType} (hd : decode cc pc = .ok (.newarray at_, 2)) (hat : newarray.typeOf at_ = .byte) (hw : Cond.arrayClass .byte ∈ wAll) (hn : 0 ≤ n ∧ n ≤ 2000000) (hcs : cs + 1 ≤ mc ∧ ss + n.toNat ≤ ms) (k : ∀ q : Nat, WW K G (cs + 1) (ss + n.toNat) (w ++ [(q, .inl (G.2.1 3, n.toNat, .inl (jf (fun _ => 0))))]) (pc + 2) lv (.ref q :: st)) : WW K G cs ss w pc lv (.int (J n) :: st) := fun H locs ls hP hD hS hl => by
  have hroom := hC.2.2.2.2.2.2.2.2.2.2.2
  refine va_newa (a0 := (n.toNat, .inl (jf (fun _ => 0)))) hC.1 hC.2.1 (hat.symm ▸ hC.2.2.2.2.1 _ hw) hat hC.2.2.2.2.2.1 hP hD hS hC.2.2.2.2.2.2.2.1 (fun cA => rfl) ?_ (J_clamp hn.1 (by omega)) ?_ (by omega) (by omega) hd ?_
  · intro z
    have := (J_lt (a := n) (b := 0) ⟨by omega, by omega⟩ ⟨by omega, by omega⟩).mp z
    omega
  · show n.toNat * 1 ≤ 536870912
    omega
  · intro q cA H1 hK hP1 hD1 hS1
    have e : cA = G.2.1 3 := cy_eq (t0 := 3) (fun C h => by cases h) hK rfl rfl
    subst e
    exact k q H1 locs ls hP1 hD1 hS1 hl
end NEWR
