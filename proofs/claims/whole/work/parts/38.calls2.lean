/-! ===== calls of nest mates, of inherited and overriding methods ===== -/
/-- a private static member of a nest mate -/
def CSN (own : String) (index i : Nat) (y : MethodName) (host : String) (bytes : ByteArray) (maxL : Nat) (ret : Option FieldType) (n : Nat) : Prop :=
  nMs[i]? = some (own, index, y, host) ∧ Cond.static y ∈ wAll ∧ Cond.initialized y.cls ∈ wAll ∧ Cond.code y bytes maxL ret ∈ wAll ∧ maxL ≤ 20 ∧
  (y.cls ≠ "java/lang/invoke/MethodHandle" ∧ y.cls ≠ "java/lang/invoke/VarHandle" ∧ (parseMethodDescriptor y.desc).map (fun d => d.parameters.length) = some n)
section CALL2
variable {K : KT} {G : GT} {cc : ByteArray} {own : String} {d mc ms cs ss pc : Nat} {w : va_W} {lv : List (Nat × Value)}
theorem w_callSN {index i n d2 mc2 ms2 nL2 : Nat} {y : MethodName} {host : String} {b2 : ByteArray} {ret : Option FieldType} {As rest : List Value} {post : Option Value → va_W → Prop} (hC : KOK K G cc own d mc ms) (hd : decode cc pc = .ok (.invokestatic index, 3)) (ci2 : CSN own index i y host b2 nL2 ret n)
    (hM : CT (kl K) y b2 nL2 ret d2 mc2 ms2 G As w post) (hdd : d2 + 1 ≤ d) (hm : cs + mc2 ≤ mc ∧ ss + ms2 ≤ ms) (hn : As.length = n) (hcat : (rest.map fun v => v.category).sum ≤ 8) {st : List Value} (hst : st = As.reverse ++ rest)
    (k : ∀ (v : Option Value) (w2 : va_W), post v w2 → WW K G (cs + mc2) (ss + ms2) w2 (pc + 3) lv (v.toList ++ rest)) : WW K G cs ss w pc lv st := by
  obtain ⟨c1, c2, c3, c4, c5, c7⟩ := ci2
  have hts := hC.2.2.2.2.1
  have hroom := hC.2.2.2.2.2.2.2.2.2.2.2
  refine w_callRun (av := As) hC (fun H locs ls hsz hP hpre => ?_) k
  have cw := va_cnB (R := kR K) (s := ks K) (args := kargs K) (own := own) (host := host) (index := index) (y := y) (bytes := b2) (maxL := nL2) (ret := ret) (ws := .code y b2 nL2 ret :: wAll) (rm := rmD d2 mc2 ms2) (mc := mc2) (ms := ms2) n hts (goodAll c4) rfl rfl rfl (hC.2.2.2.2.2.2.2.2.1.1.2.1 _ (List.mem_of_getElem? c1)) (hts _ c3) c7 (room_le hC hdd c5)
  exact va_runSN ⟨hC.1, hC.2.1, hC.2.2.1, hC.2.2.2.1, hts⟩ (hM H.size) ⟨cw, hts _ c2, trivial⟩ ⟨blindC, hpre⟩ rfl hn hsz hst (lv_room hcat) hd ⟨Nat.le_trans hm.1 hroom.1, Nat.le_trans hm.2 hroom.2⟩
/-- a virtual call: the reference names x, the receiver's class C gives y of the class 'owner' -/
def CU (own : String) (index : Nat) (C owner : String) (x y : MethodName) (bytes : ByteArray) (maxL : Nat) (ret : Option FieldType) (n : Nat) : Prop :=
  Cond.methodLink own index x ∈ wAll ∧ Cond.sameMethod x.cls owner x.name x.desc ∈ wAll ∧ Cond.selects C x y ∈ wAll ∧ Cond.instanceMethod y ∈ wAll ∧ Cond.initialized y.cls ∈ wAll ∧ Cond.code y bytes maxL ret ∈ wAll ∧ maxL ≤ 20 ∧ y = ⟨owner, x.name, x.desc⟩ ∧
  (owner ≠ "java/lang/invoke/MethodHandle" ∧ owner ≠ "java/lang/invoke/VarHandle" ∧ (parseMethodDescriptor x.desc).map (fun d => d.parameters.length) = some n)
theorem w_callU {index b n d2 mc2 ms2 nL2 q0 ci : Nat} {C owner : String} {x y : MethodName} {b2 : ByteArray} {ret : Option FieldType} {As rest fs : List Value} {r : vw_C} {post : Option Value → va_W → Prop} (hC : KOK K G cc own d mc ms) (hd : decode cc pc = .ok (.invokevirtual index, 3)) (ci2 : CU own index C owner x y b2 nL2 ret n)
    (hM : CT (kl K) y b2 nL2 ret d2 mc2 ms2 G (.ref b :: As) w post) (hdd : d2 + 1 ≤ d) (hm : cs + mc2 ≤ mc ∧ ss + ms2 ≤ ms) (he : w[q0]? = some (b, .inr (ci, fs))) (hc : vwCl[ci]? = some r) (hr : r.1 = C) (hn : As.length = n) (hcat : (rest.map fun v => v.category).sum ≤ 8) {st : List Value} (hst : st = As.reverse ++ .ref b :: rest)
    (k : ∀ (v : Option Value) (w2 : va_W), post v w2 → WW K G (cs + mc2) (ss + ms2) w2 (pc + 3) lv (v.toList ++ rest)) : WW K G cs ss w pc lv st := by
  obtain ⟨c1, c2, c3, c4, c5, c6, c7, c8, c9⟩ := ci2
  have hts := hC.2.2.2.2.1
  have hroom := hC.2.2.2.2.2.2.2.2.2.2.2
  refine w_callRun (av := .ref b :: As) hC (fun H locs ls hsz hP hpre => ?_) k
  subst hr
  have hG := goodAll c6
  have cw := va_cwU (R := kR K) (s := ks K) (args := kargs K) (own := own) (C := r.1) (owner := owner) (index := index) (x := x) (y := y) (bytes := b2) (maxL := nL2) (ret := ret) (ws := .code y b2 nL2 ret :: wAll) (rm := rmD d2 mc2 ms2) (mc := mc2) (ms := ms2) n hts (fun w hw => by
    unfold va_wsU at hw
    rcases List.mem_append.mp hw with hw | hw
    · simp only [List.mem_cons, List.not_mem_nil, or_false] at hw
      rcases hw with rfl | rfl | rfl | rfl | rfl
      · exact ⟨c1, wAll_good c1⟩
      · exact ⟨c2, wAll_good c2⟩
      · exact ⟨c3, wAll_good c3⟩
      · exact ⟨c4, wAll_good c4⟩
      · exact ⟨c5, wAll_good c5⟩
    · exact hG w hw) rfl rfl rfl c8 c9 (room_le hC hdd c7)
  exact va_runU ⟨hC.1, hC.2.1, hC.2.2.1, hC.2.2.2.1, hts⟩ (hM H.size) cw ⟨blindC, va_recv hC.2.2.2.2.2.1 hP hc he, hpre⟩ rfl hn hsz hst (lv_room hcat) hd ⟨Nat.le_trans hm.1 hroom.1, Nat.le_trans hm.2 hroom.2⟩
/-- a virtual call: the reference names x, which stands in 'owner'; the receiver's class C gives y, which may override it -/
def CVO (own : String) (index : Nat) (C owner : String) (x y : MethodName) (b0 : ByteArray) (m0 : Nat) (r0 : Option FieldType) (bytes : ByteArray) (maxL : Nat) (ret : Option FieldType) (n : Nat) : Prop :=
  Cond.methodLink own index x ∈ wAll ∧ Cond.sameMethod x.cls owner x.name x.desc ∈ wAll ∧ Cond.instanceMethod ⟨owner, x.name, x.desc⟩ ∈ wAll ∧ Cond.selects C x y ∈ wAll ∧ Cond.instanceMethod y ∈ wAll ∧ Cond.initialized y.cls ∈ wAll ∧ Cond.code y bytes maxL ret ∈ wAll ∧ maxL ≤ 20 ∧ Cond.code ⟨owner, x.name, x.desc⟩ b0 m0 r0 ∈ wAll ∧
  (owner ≠ "java/lang/invoke/MethodHandle" ∧ owner ≠ "java/lang/invoke/VarHandle" ∧ (parseMethodDescriptor x.desc).map (fun d => d.parameters.length) = some n)
theorem w_callO {index b n d2 mc2 ms2 nL2 q0 ci m0 : Nat} {b0 : ByteArray} {r0 : Option FieldType} {C owner : String} {x y : MethodName} {b2 : ByteArray} {ret : Option FieldType} {As rest fs : List Value} {r : vw_C} {post : Option Value → va_W → Prop} (hC : KOK K G cc own d mc ms) (hd : decode cc pc = .ok (.invokevirtual index, 3)) (ci2 : CVO own index C owner x y b0 m0 r0 b2 nL2 ret n)
    (hM : CT (kl K) y b2 nL2 ret d2 mc2 ms2 G (.ref b :: As) w post) (hdd : d2 + 1 ≤ d) (hm : cs + mc2 ≤ mc ∧ ss + ms2 ≤ ms) (he : w[q0]? = some (b, .inr (ci, fs))) (hc : vwCl[ci]? = some r) (hr : r.1 = C) (hn : As.length = n) (hcat : (rest.map fun v => v.category).sum ≤ 8) {st : List Value} (hst : st = As.reverse ++ .ref b :: rest)
    (k : ∀ (v : Option Value) (w2 : va_W), post v w2 → WW K G (cs + mc2) (ss + ms2) w2 (pc + 3) lv (v.toList ++ rest)) : WW K G cs ss w pc lv st := by
  obtain ⟨c1, c2, c0, c3, c4, c5, c6, c7, c8, c9⟩ := ci2
  have hts := hC.2.2.2.2.1
  have hroom := hC.2.2.2.2.2.2.2.2.2.2.2
  refine w_callRun (av := .ref b :: As) hC (fun H locs ls hsz hP hpre => ?_) k
  subst hr
  have hG := goodAll c6
  have cw := va_cwO (R := kR K) (s := ks K) (args := kargs K) (own := own) (C := r.1) (owner := owner) (index := index) (x := x) (y := y) (bytes := b2) (maxL := nL2) (ret := ret) (ws := .code y b2 nL2 ret :: wAll) (rm := rmD d2 mc2 ms2) (mc := mc2) (ms := ms2) n hts (fun w hw => by
    unfold va_wsO at hw
    rcases List.mem_append.mp hw with hw | hw
    · simp only [List.mem_cons, List.not_mem_nil, or_false] at hw
      rcases hw with rfl | rfl | rfl | rfl | rfl | rfl
      · exact ⟨c1, wAll_good c1⟩
      · exact ⟨c2, wAll_good c2⟩
      · exact ⟨c0, wAll_good c0⟩
      · exact ⟨c3, wAll_good c3⟩
      · exact ⟨c4, wAll_good c4⟩
      · exact ⟨c5, wAll_good c5⟩
    · exact hG w hw) rfl rfl rfl c8 c9 (room_le hC hdd c7)
  exact va_runU ⟨hC.1, hC.2.1, hC.2.2.1, hC.2.2.2.1, hts⟩ (hM H.size) cw ⟨blindC, va_recv hC.2.2.2.2.2.1 hP hc he, hpre⟩ rfl hn hsz hst (lv_room hcat) hd ⟨Nat.le_trans hm.1 hroom.1, Nat.le_trans hm.2 hroom.2⟩
end CALL2
