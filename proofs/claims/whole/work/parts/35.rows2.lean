/-! ===== rows that make objects and arrays ===== -/
section NEWR
variable {K : KT} {G : GT} {cc : ByteArray} {own : String} {d mc ms cs ss pc : Nat} {w : va_W} {lv : List (Nat × Value)} {st : List Value}
theorem RA_inj {U : State} {q1 c0 : ClassId} {ty : FieldType} (hp : ∀ C : String, ty ≠ .object C) (h1 : va_RA U q1 ty) (h2 : va_RA U c0 ty) : q1 = c0 := by
  cases ty <;> first | exact Option.some.inj (Eq.trans (Eq.symm h1) h2) | exact absurd rfl (hp _)
theorem cy_eq {U : State} {D : va_G} {cy : Nat → ClassId} {q : ClassId × FieldType} {c0 : ClassId} {ty : FieldType} {t0 : Nat} (hp : ∀ C : String, ty ≠ .object C) (h : va_K D vwCl (TY cy ++ [q]) U) (ht : (TY cy)[t0]? = some (c0, ty)) (hq : q.2 = ty) : q.1 = c0 := by
  have h7 : t0 < (TY cy).length := (List.getElem?_eq_some_iff.mp ht).1
  have h1 := (h.2 t0 (c0, ty) (by rw [List.getElem?_append_left h7]; exact ht)).2
  have h2 := (h.2 (TY cy).length q (by rw [List.getElem?_append_right (Nat.le_refl _), Nat.sub_self]; rfl)).2
  rw [hq] at h2
  exact RA_inj hp h2 h1
theorem w_newI (hC : KOK K G cc own d mc ms) {n : Int} {at_ : ArrayType} (hd : decode cc pc = .ok (.newarray at_, 2)) (hat : newarray.typeOf at_ = .int) (hw : Cond.arrayClass .int ∈ wAll) (hn : 0 ≤ n ∧ n ≤ 2000000) (hcs : cs + 1 ≤ mc ∧ ss + n.toNat ≤ ms) (k : ∀ q : Nat, WW K G (cs + 1) (ss + n.toNat) (w ++ [(q, .inl (G.2.1 0, n.toNat, .inl (jf (fun _ => 0))))]) (pc + 2) lv (.ref q :: st)) : WW K G cs ss w pc lv (.int (J n) :: st) := fun H locs ls hP hD hS hl => by
  have hroom := hC.2.2.2.2.2.2.2.2.2.2.2
  refine va_newa (a0 := (n.toNat, .inl (jf (fun _ => 0)))) hC.1 hC.2.1 (hat.symm ▸ hC.2.2.2.2.1 _ hw) hat hC.2.2.2.2.2.1 hP hD hS hC.2.2.2.2.2.2.2.1 (fun cA => rfl) ?_ (J_clamp hn.1 (by omega)) ?_ (by omega) (by omega) hd ?_
  · intro z
    have := (J_lt (a := n) (b := 0) ⟨by omega, by omega⟩ ⟨by omega, by omega⟩).mp z
    omega
  · show n.toNat * 4 ≤ 536870912
    omega
  · intro q cA H1 hK hP1 hD1 hS1
    have e : cA = G.2.1 0 := cy_eq (t0 := 0) (fun C h => by cases h) hK rfl rfl
    subst e
    exact k q H1 locs ls hP1 hD1 hS1 hl
theorem w_newL (hC : KOK K G cc own d mc ms) {n : Int} {at_ : ArrayType} (hd : decode cc pc = .ok (.newarray at_, 2)) (hat : newarray.typeOf at_ = .long) (hw : Cond.arrayClass .long ∈ wAll) (hn : 0 ≤ n ∧ n ≤ 2000000) (hcs : cs + 1 ≤ mc ∧ ss + n.toNat ≤ ms) (k : ∀ q : Nat, WW K G (cs + 1) (ss + n.toNat) (w ++ [(q, .inl (G.2.1 1, n.toNat, .inr (.inl (jlf (fun _ => 0)))))]) (pc + 2) lv (.ref q :: st)) : WW K G cs ss w pc lv (.int (J n) :: st) := fun H locs ls hP hD hS hl => by
  have hroom := hC.2.2.2.2.2.2.2.2.2.2.2
  refine va_newa (a0 := (n.toNat, .inr (.inl (jlf (fun _ => 0))))) hC.1 hC.2.1 (hat.symm ▸ hC.2.2.2.2.1 _ hw) hat hC.2.2.2.2.2.1 hP hD hS hC.2.2.2.2.2.2.2.1 (fun cA => rfl) ?_ (J_clamp hn.1 (by omega)) ?_ (by omega) (by omega) hd ?_
  · intro z
    have := (J_lt (a := n) (b := 0) ⟨by omega, by omega⟩ ⟨by omega, by omega⟩).mp z
    omega
  · show n.toNat * 8 ≤ 536870912
    omega
  · intro q cA H1 hK hP1 hD1 hS1
    have e : cA = G.2.1 1 := cy_eq (t0 := 1) (fun C h => by cases h) hK rfl rfl
    subst e
    exact k q H1 locs ls hP1 hD1 hS1 hl
theorem w_newZ (hC : KOK K G cc own d mc ms) {n : Int} {at_ : ArrayType} (hd : decode cc pc = .ok (.newarray at_, 2)) (hat : newarray.typeOf at_ = .boolean) (hw : Cond.arrayClass .boolean ∈ wAll) (hn : 0 ≤ n ∧ n ≤ 2000000) (hcs : cs + 1 ≤ mc ∧ ss + n.toNat ≤ ms) (k : ∀ q : Nat, WW K G (cs + 1) (ss + n.toNat) (w ++ [(q, .inl (G.2.1 2, n.toNat, .inl (jf (fun _ => 0))))]) (pc + 2) lv (.ref q :: st)) : WW K G cs ss w pc lv (.int (J n) :: st) := fun H locs ls hP hD hS hl => by
  have hroom := hC.2.2.2.2.2.2.2.2.2.2.2
  refine va_newa (a0 := (n.toNat, .inl (jf (fun _ => 0)))) hC.1 hC.2.1 (hat.symm ▸ hC.2.2.2.2.1 _ hw) hat hC.2.2.2.2.2.1 hP hD hS hC.2.2.2.2.2.2.2.1 (fun cA => rfl) ?_ (J_clamp hn.1 (by omega)) ?_ (by omega) (by omega) hd ?_
  · intro z
    have := (J_lt (a := n) (b := 0) ⟨by omega, by omega⟩ ⟨by omega, by omega⟩).mp z
    omega
  · show n.toNat * 1 ≤ 536870912
    omega
  · intro q cA H1 hK hP1 hD1 hS1
    have e : cA = G.2.1 2 := cy_eq (t0 := 2) (fun C h => by cases h) hK rfl rfl
    subst e
    exact k q H1 locs ls hP1 hD1 hS1 hl
theorem w_newB (hC : KOK K G cc own d mc ms) {n : Int} {at_ : ArrayType} (hd : decode cc pc = .ok (.newarray at_, 2)) (hat : newarray.typeOf at_ = .byte) (hw : Cond.arrayClass .byte ∈ wAll) (hn : 0 ≤ n ∧ n ≤ 2000000) (hcs : cs + 1 ≤ mc ∧ ss + n.toNat ≤ ms) (k : ∀ q : Nat, WW K G (cs + 1) (ss + n.toNat) (w ++ [(q, .inl (G.2.1 3, n.toNat, .inl (jf (fun _ => 0))))]) (pc + 2) lv (.ref q :: st)) : WW K G cs ss w pc lv (.int (J n) :: st) := fun H locs ls hP hD hS hl => by
  have hroom := hC.2.2.2.2.2.2.2.2.2.2.2
  refine va_newa (a0 := (n.toNat, .inl (jf (fun _ => 0)))) hC.1 hC.2.1 (hat.symm ▸ hC.2.2.2.2.1 _ hw) hat hC.2.2.2.2.2.1 hP hD hS hC.2.2.2.2.2.2.2.1 (fun cA => rfl) ?_ (J_clamp hn.1 (by omega)) ?_ (by omega) (by omega) hd ?_
  · intro z
    have := (J_lt (a := n) (b := 0) ⟨by omega, by omega⟩ ⟨by omega, by omega⟩).mp z
    omega
  · show n.toNat * 1 ≤ 536870912
    omega
  · intro q cA H1 hK hP1 hD1 hS1
    have e : cA = G.2.1 3 := cy_eq (t0 := 3) (fun C h => by cases h) hK rfl rfl
    subst e
    exact k q H1 locs ls hP1 hD1 hS1 hl
theorem w_oinit (hC : KOK K G cc own d mc ms) {index a : Nat} (hd : decode cc pc = .ok (.invokespecial index, 3)) (hl : Cond.methodLink own index Lib.objectInit ∈ wAll) (hdd : 1 ≤ d) (hcat : (st.map fun v => v.category).sum ≤ 8) (k : WW K G cs ss w (pc + 3) lv st) : WW K G cs ss w pc lv (.ref a :: st) := fun H locs ls hP hD hS hl2 => by
  have hroom := hC.2.2.2.2.2.2.2.2.2
  exact W.objInit hC.1 hC.2.1 hC.2.2.2.1 (hC.2.2.2.2.1 _ hl) (hC.2.2.2.2.1 _ tw_1_27) (hC.2.2.2.2.1 _ tw_1_28) (g := F0 (km K) pc ls (.ref a :: st)) rfl (hl2.1.trans hC.2.2.1.symm) rfl hd (by omega) (by show 2 * 0 + _ + 12 ≤ _; omega) (k H locs ls hP hD hS hl2)
/-- an object of a class of ours, its fields as they are born -/
def CN (own : String) (index ci : Nat) (C : String) (T : u_T) (N : Nat) (ty0 : Nat → FieldType) (fs : List Value) : Prop :=
  vwCl[ci]? = some (C, T, N) ∧ (∀ w ∈ u_ws C T N, w ∈ wAll) ∧ (∀ k, k < N → parseFieldDescriptor (T k).2.2.1 = some (ty0 k)) ∧ Cond.classLink own index C ∈ wAll ∧ Cond.instantiable C N ∈ wAll ∧ Cond.initialized C ∈ wAll ∧ ∀ j, j < N → defaultValue (ty0 j) = vp_V fs j
theorem w_newC (hC : KOK K G cc own d mc ms) {index ci N : Nat} {C : String} {T : u_T} {ty0 : Nat → FieldType} {fs : List Value} (hd : decode cc pc = .ok (.new index, 3)) (cn : CN own index ci C T N ty0 fs) (hcs : cs + 1 ≤ mc ∧ ss + N ≤ ms) (k : ∀ q : Nat, WW K G (cs + 1) (ss + N) (w ++ [(q, .inr (ci, fs))]) (pc + 3) lv (.ref q :: st)) : WW K G cs ss w pc lv st := fun H locs ls hP hD hS hl => by
  obtain ⟨c1, c2, c3, c4, c5, c6, c7⟩ := cn
  have hroom := hC.2.2.2.2.2.2.2.2.2.2.2
  exact va_new hC.1 hC.2.1 hC.2.2.2.2.1 c2 ty0 c3 hC.2.2.2.1 (hC.2.2.2.2.1 _ c4) (hC.2.2.2.2.1 _ c5) (hC.2.2.2.2.1 _ c6) hC.2.2.2.2.2.1 hP hD hS hC.2.2.2.2.2.2.2.1 c1 c7 (by omega) (by omega) hd (fun q H1 hP1 hD1 hS1 => k q H1 locs ls hP1 hD1 hS1 hl)
/-- a constructor's call -/
def CC (own : String) (index : Nat) (y : MethodName) (bytes : ByteArray) (maxL : Nat) (n : Nat) : Prop :=
  Cond.methodLink own index y ∈ wAll ∧ Cond.instanceMethod y ∈ wAll ∧ Cond.initialized y.cls ∈ wAll ∧ Cond.code y bytes maxL none ∈ wAll ∧ maxL ≤ 20 ∧ y.name = "<init>" ∧
  (y.cls ≠ "java/lang/invoke/MethodHandle" ∧ y.cls ≠ "java/lang/invoke/VarHandle" ∧ (parseMethodDescriptor y.desc).map (fun d => d.parameters.length) = some n)
theorem w_callI {index n d2 mc2 ms2 nL2 b : Nat} {y : MethodName} {b2 : ByteArray} {As rest : List Value} {post : Option Value → va_W → Prop} (hC : KOK K G cc own d mc ms) (hd : decode cc pc = .ok (.invokespecial index, 3)) (ci2 : CC own index y b2 nL2 n)
    (hM : CT (kl K) y b2 nL2 none d2 mc2 ms2 G (.ref b :: As) w post) (hdd : d2 + 1 ≤ d) (hm : cs + mc2 ≤ mc ∧ ss + ms2 ≤ ms) (hn : As.length = n) (hcat : (rest.map fun v => v.category).sum ≤ 8) {st : List Value} (hst : st = As.reverse ++ .ref b :: rest)
    (k : ∀ (v : Option Value) (w2 : va_W), post v w2 → WW K G (cs + mc2) (ss + ms2) w2 (pc + 3) lv (v.toList ++ rest)) : WW K G cs ss w pc lv st := by
  obtain ⟨c1, c2, c3, c4, c5, c6, c7⟩ := ci2
  have hts := hC.2.2.2.2.1
  have hroom := hC.2.2.2.2.2.2.2.2.2.2.2
  refine w_callRun (av := .ref b :: As) hC (fun H locs ls hsz hP hpre => ?_) k
  have hG := goodAll c4
  have ok : ∀ w ∈ wAll, w.before (kargs K) (ks K) = true := hts
  have cw := callB_of (R := kR K) (s := ks K) (args := kargs K) (own := own) (index := index) (y := y) (bytes := b2) (maxL := nL2) (ret := none) (ws := .code y b2 nL2 none :: wAll) (rm := rmD d2 mc2 ms2) (mc := mc2) (ms := ms2) n hts hG rfl rfl rfl (ok _ c3) (ok _ c1) c7 (room_le hC hdd c5)
  exact va_runI ⟨hC.1, hC.2.1, hC.2.2.1, hC.2.2.2.1, hts⟩ (hM H.size) ⟨cw, c6, ok _ c2⟩ ⟨blindC, hpre⟩ rfl hn hsz hst (lv_room hcat) hd ⟨Nat.le_trans hm.1 hroom.1, Nat.le_trans hm.2 hroom.2⟩
end NEWR
