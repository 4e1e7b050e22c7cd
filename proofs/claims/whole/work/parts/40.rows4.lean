/-! ===== instanceof ===== -/
section INST
variable {K : KT} {G : GT} {cc : ByteArray} {own : String} {d mc ms cs ss pc : Nat} {w : va_W} {lv : List (Nat × Value)} {st : List Value}
theorem w_instY (hC : KOK K G cc own d mc ms) {index a q0 ci : Nat} {nm : String} {fs : List Value} {r : vw_C} (hd : decode cc pc = .ok (.instanceof index, 3)) (hl : Cond.classLink own index nm ∈ wAll) (hc : (r.1, nm) ∈ nCs) (he : w[q0]? = some (a, .inr (ci, fs))) (hr : vwCl[ci]? = some r) (k : WW K G cs ss w (pc + 3) lv (.int (J 1) :: st)) : WW K G cs ss w pc lv (.ref a :: st) := fun H locs ls hP hD hS hl2 => va_instY hC.1 hC.2.1 hC.2.2.2.1 (hC.2.2.2.2.1 _ hl) (hC.2.2.2.2.2.2.2.2.1.1.2.2.2.1 _ hc) (va_recv hC.2.2.2.2.2.1 hP hr he) hd (k H locs ls hP hD hS hl2)
theorem w_instN (hC : KOK K G cc own d mc ms) {index a q0 ci : Nat} {nm : String} {fs : List Value} {r : vw_C} (hd : decode cc pc = .ok (.instanceof index, 3)) (hl : Cond.classLink own index nm ∈ wAll) (hc : (r.1, nm) ∈ nNs) (he : w[q0]? = some (a, .inr (ci, fs))) (hr : vwCl[ci]? = some r) (k : WW K G cs ss w (pc + 3) lv (.int (J 0) :: st)) : WW K G cs ss w pc lv (.ref a :: st) := fun H locs ls hP hD hS hl2 => va_instNo hC.1 hC.2.1 hC.2.2.2.1 (hC.2.2.2.2.1 _ hl) (hC.2.2.2.2.2.2.2.2.1.1.2.2.2.2.1 _ hc) (va_recv hC.2.2.2.2.2.1 hP hr he) hd (k H locs ls hP hD hS hl2)
theorem w_instE (hC : KOK K G cc own d mc ms) {index a q0 ci : Nat} {fs : List Value} {r : vw_C} (hd : decode cc pc = .ok (.instanceof index, 3)) (hl : Cond.classLink own index r.1 ∈ wAll) (he : w[q0]? = some (a, .inr (ci, fs))) (hr : vwCl[ci]? = some r) (k : WW K G cs ss w (pc + 3) lv (.int (J 1) :: st)) : WW K G cs ss w pc lv (.ref a :: st) := fun H locs ls hP hD hS hl2 => va_instE hC.1 hC.2.1 hC.2.2.2.1 (hC.2.2.2.2.1 _ hl) (va_recv hC.2.2.2.2.2.1 hP hr he) hd (k H locs ls hP hD hS hl2)
/-- an object of a subclass goes into an array -/
theorem w_aastS (hC : KOK K G cc own d mc ms) {a n t0 qk ci v : Nat} {E : String} {r : vw_C} {vs : List Value} {f : Nat → Option Nat} {cA : ClassId} {e : Int} {w2 : va_W} (hd : decode cc pc = .ok (.aastore, 1)) (q0 : Nat) (he : w[q0]? = some (a, .inl (cA, n, .inr (.inr (.inr (.inr f)))))) (ht : (TY G.2.1)[t0]? = some (cA, .object E)) (hv : w[qk]? = some (v, .inr (ci, vs))) (hc : vwCl[ci]? = some r) (hca : (r.1, E) ∈ nCs) (hr : 0 ≤ e ∧ e < (n : Int)) (hn : n ≤ 2000000) (hw : w.set q0 (a, .inl (cA, n, .inr (.inr (.inr (.inr (va_up f e.toNat (some v))))))) = w2) (k : WW K G cs ss w2 (pc + 1) lv st) : WW K G cs ss w pc lv (.ref v :: .int (J e) :: .ref a :: st) := fun H locs ls hP hD hS hl => by
  have hcl := J_clamp hr.1 (show e < 2147483648 by omega)
  refine vb_astq hC.1 hC.2.1 hC.2.2.2.2.2.1 hP hD hS q0 t0 he ht (va_recv hC.2.2.2.2.2.1 hP hc hv) (fun comp c0 h1 h2 => vb_asgC (hC.2.2.2.2.2.2.2.2.1.1.2.2.2.1 _ hca) comp c0 h1 h2) (J_vp hr.1 hr.2 hn) hd (fun H1 locs1 hP1 hD1 hS1 => ?_)
  rw [hcl] at hP1 hD1
  exact k H1 locs1 ls (by rw [← hw]; exact hP1) (by rw [← hw]; exact hD1) hS1 hl
theorem w_labs (hC : KOK K G cc own d mc ms) {index : Nat} {a : Int} (hd : decode cc pc = .ok (.invokestatic index, 3)) (hl : Cond.methodLink own index Lib.MathLoose.abs_long.x ∈ wAll) (hr : -9223372036854775808 ≤ a ∧ a < 9223372036854775808) (hdd : 1 ≤ d) (hcat : (st.map fun v => v.category).sum ≤ 8) (hcs : cs ≤ mc ∧ ss ≤ ms) (k : WW K G cs ss w (pc + 3) lv (.long (JL (if 0 < a then a else -a)) :: st)) : WW K G cs ss w pc lv (.long (JL a) :: st) := fun H locs ls hP hD hS hl2 => by
  have hroom := hC.2.2.2.2.2.2.2.2.2
  refine va_mabs_long hC.1 hC.2.1 (hC.2.2.1.trans hl2.1.symm) hC.2.2.2.1 (hC.2.2.2.2.1 _ hl) (hC.2.2.2.2.1 _ tw_4_3) (hC.2.2.2.2.1 _ tw_1_9) (hC.2.2.2.2.1 _ tw_4_4) (by omega) (by omega) (by omega) (by omega) hd ?_
  have e : (if 0 < JL a then JL a else -JL a) = JL (if 0 < a then a else -a) := by
    have this : (0 : Int64) < JL a ↔ 0 < a := JL_lt (a := 0) (b := a) ⟨by decide, by decide⟩ hr
    by_cases c : 0 < a
    · rw [if_pos (this.mpr c), if_pos c]
    · rw [if_neg (fun h => c (this.mp h)), if_neg c, JL_neg]
  rw [e]
  exact k H locs ls hP hD hS hl2
/-- a call of the superclass' own method -/
def CSup (own : String) (index : Nat) (y : MethodName) (bytes : ByteArray) (maxL : Nat) (ret : Option FieldType) (n : Nat) : Prop :=
  Cond.methodLink own index y ∈ wAll ∧ Cond.sameMethod y.cls y.cls y.name y.desc ∈ wAll ∧ Cond.superclass own y.cls ∈ wAll ∧ Cond.instanceMethod y ∈ wAll ∧ Cond.initialized y.cls ∈ wAll ∧ Cond.code y bytes maxL ret ∈ wAll ∧ maxL ≤ 20 ∧ (y.name ≠ "<init>" ∧ (parseMethodDescriptor y.desc).map (fun d => d.parameters.length) = some n)
theorem w_callSup {index b n d2 mc2 ms2 nL2 q0 ci : Nat} {y : MethodName} {b2 : ByteArray} {ret : Option FieldType} {As rest fs : List Value} {r : vw_C} {post : Option Value → va_W → Prop} (hC : KOK K G cc own d mc ms) (hd : decode cc pc = .ok (.invokespecial index, 3)) (ci2 : CSup own index y b2 nL2 ret n)
    (hM : CT (kl K) y b2 nL2 ret d2 mc2 ms2 G (.ref b :: As) w post) (hdd : d2 + 1 ≤ d) (hm : cs + mc2 ≤ mc ∧ ss + ms2 ≤ ms) (he : w[q0]? = some (b, .inr (ci, fs))) (hc : vwCl[ci]? = some r) (hn : As.length = n) (hcat : (rest.map fun v => v.category).sum ≤ 8) {st : List Value} (hst : st = As.reverse ++ .ref b :: rest)
    (k : ∀ (v : Option Value) (w2 : va_W), post v w2 → WW K G (cs + mc2) (ss + ms2) w2 (pc + 3) lv (v.toList ++ rest)) : WW K G cs ss w pc lv st := by
  obtain ⟨c1, c2, c3, c4, c5, c6, c7, c8⟩ := ci2
  have hts := hC.2.2.2.2.1
  have hroom := hC.2.2.2.2.2.2.2.2.2.2.2
  refine w_callRun (av := .ref b :: As) hC (fun H locs ls hsz hP hpre => ?_) k
  have hG := goodAll c6
  have hcls := (hC.2.2.2.2.2.1.1 ci r hc).2
  have cw := va_cwSU (R := kR K) (s := ks K) (args := kargs K) (own := own) (index := index) (y := y) (bytes := b2) (maxL := nL2) (ret := ret) (ws := .code y b2 nL2 ret :: wAll) (rm := rmD d2 mc2 ms2) (mc := mc2) (ms := ms2) n hts (fun w hw => by
    unfold va_wsSU at hw
    rcases List.mem_append.mp hw with hw | hw
    · simp only [List.mem_cons, List.not_mem_nil, or_false] at hw
      rcases hw with rfl | rfl | rfl | rfl | rfl
      · exact ⟨c1, wAll_good c1⟩
      · exact ⟨c2, wAll_good c2⟩
      · exact ⟨c3, wAll_good c3⟩
      · exact ⟨c4, wAll_good c4⟩
      · exact ⟨c5, wAll_good c5⟩
    · exact hG w hw) rfl rfl rfl c8 (room_le hC hdd c7)
  exact va_runSU hcls ⟨hC.1, hC.2.1, hC.2.2.1, hC.2.2.2.1, hts⟩ (hM H.size) cw ⟨blindC, va_recv hC.2.2.2.2.2.1 hP hc he, hpre⟩ rfl hn hsz hst (lv_room hcat) hd ⟨Nat.le_trans hm.1 hroom.1, Nat.le_trans hm.2 hroom.2⟩
end INST
