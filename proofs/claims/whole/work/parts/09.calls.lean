/-! ===== calls ===== -/
/-- a virtual call, an exact receiver: what the tables say -/
def CI (own : String) (index : Nat) (C : String) (y : MethodName) (bytes : ByteArray) (maxL : Nat) (ret : Option FieldType) (n : Nat) : Prop :=
  Cond.methodLink own index y ∈ wAll ∧ Cond.instanceMethod y ∈ wAll ∧ Cond.selects C y y ∈ wAll ∧ Cond.initialized C ∈ wAll ∧ Cond.code y bytes maxL ret ∈ wAll ∧ maxL ≤ 20 ∧
  (y.cls = C ∧ y.cls ≠ "java/lang/invoke/MethodHandle" ∧ y.cls ≠ "java/lang/invoke/VarHandle" ∧ (parseMethodDescriptor y.desc).map (fun d => d.parameters.length) = some n)
/-- a static call of the own class -/
def CS (own : String) (index : Nat) (y : MethodName) (bytes : ByteArray) (maxL : Nat) (ret : Option FieldType) (n : Nat) : Prop :=
  Cond.methodLink own index y ∈ wAll ∧ Cond.static y ∈ wAll ∧ Cond.initialized own ∈ wAll ∧ Cond.code y bytes maxL ret ∈ wAll ∧ maxL ≤ 20 ∧
  (y.cls = own ∧ y.cls ≠ "java/lang/invoke/MethodHandle" ∧ y.cls ≠ "java/lang/invoke/VarHandle" ∧ (parseMethodDescriptor y.desc).map (fun d => d.parameters.length) = some n)
theorem goodAll {y : MethodName} {bytes : ByteArray} {maxL : Nat} {ret : Option FieldType} (h : Cond.code y bytes maxL ret ∈ wAll) : GoodIn wAll (Cond.code y bytes maxL ret :: wAll) := fun w hw => by
  rcases List.mem_cons.mp hw with rfl | hw
  · exact ⟨h, wAll_good h⟩
  · exact ⟨hw, wAll_good hw⟩
theorem room_le {K : KT} {G : GT} {cc : ByteArray} {own : String} {d mc ms d2 mc2 ms2 maxL : Nat} (hC : KOK K G cc own d mc ms) (hd : d2 + 1 ≤ d) (hL : maxL ≤ 20) : (rmD d2 mc2 ms2).frames + 1 ≤ (kR K).frames ∧ 8 + (maxL + 11) + (rmD d2 mc2 ms2).locals ≤ (kR K).locals := by
  obtain ⟨h1, h2⟩ := hC.2.2.2.2.2.2.2.2.2
  refine ⟨Nat.le_trans hd h1, ?_⟩
  show 8 + (maxL + 11) + 40 * d2 ≤ _
  omega
theorem blindC {G : GT} {av : List Value} {w : va_W} {sz : Nat} : FrameBlind (va_Pc av (fun U => U.heap.size = sz ∧ va_P G.1 vwCl w U.heap ∧ va_K G.1 vwCl (TY G.2.1) U ∧ va_D (fun _ => True) w ∧ EV G (va_A w sz) U U.heap)) := by
  intro a U g mk h
  obtain ⟨h0, h1, h2, h3, h4, h5⟩ := h
  exact ⟨h0, h1, h2, va_K.moved (u := U) (U := U.calling g mk a) (Vm.Alike.refl U.vm) h3, h4, EV.calling (V := U.calling g mk a) h5 rfl rfl (Vm.Alike.refl U.vm)⟩
section WCALL
variable {K : KT} {G : GT} {cc : ByteArray} {own : String} {d mc ms cs ss pc : Nat} {w : va_W} {lv : List (Nat × Value)}
theorem w_callRun {mc2 ms2 : Nat} {av rest : List Value} {post : Option Value → va_W → Prop} (hC : KOK K G cc own d mc ms) {st : List Value}
    (hrun : ∀ (H : Heap) (locs : List Loc) (ls : Array Slot), ls.size = knL K → va_P G.1 vwCl w H → (∀ U : State, U.heap = H → (ks K).WarmedH U.vm → va_Pc av (fun U => U.heap.size = H.size ∧ va_P G.1 vwCl w U.heap ∧ va_K G.1 vwCl (TY G.2.1) U ∧ va_D (fun _ => True) w ∧ EV G (va_A w H.size) U U.heap) av.toArray U) →
      va_Run (kp K) (kl K) (ke K) (kR K) (ks K) (km K) (kargs K) (kbelow K) (kmeth K) (kc K) H locs cs ss mc2 ms2 (F0 (km K) pc ls st) rest (cQ G w H.size post av.toArray) (va_A w H.size))
    (k : ∀ (v : Option Value) (w2 : va_W), post v w2 → WW K G (cs + mc2) (ss + ms2) w2 (pc + 3) lv (v.toList ++ rest)) : WW K G cs ss w pc lv st := by
  intro H locs ls hP hD hS hl T hT X
  have hB := va_Aw hD hS hC.2.2.2.2.2.2.2.1
  obtain ⟨v, st₀, t, T', L, h0, X', hL, e1, e2, ⟨⟨v1, w2, hv, hp, q1, q2, q3⟩, hz, hk⟩, stp⟩ := hrun H locs ls hl.1 hP (fun U hU hW => ⟨rfl, by rw [hU], by rw [hU]; exact hP, va_K.moved hW.alike hC.2.2.2.2.2.1, hD.weaken (fun _ _ _ _ => trivial), EV.call hC.2.2.2.2.2.2.2.2.1 hS hU hW hB⟩) T hT X
  obtain rfl : v = v1 := by cases hv; rfl
  rw [h0] at hz hk
  obtain ⟨t2, a1, b1⟩ := k v w2 hp T'.heap (locs ++ L) ls (by rw [e1]; exact q1) (q3.weaken (fun _ q _ h => hB q.1 h))
    ⟨Nat.le_trans hS.1 (by rw [e1]; exact hz), fun q h1 h2 => by rw [e1, hk q (Nat.lt_of_lt_of_le h1 hS.1) (fun z => h2 (hB q z))]; exact hS.2.1 q h1 h2, fun q hq => by
      rcases List.mem_append.mp hq with h | h
      · exact hS.2.2 q h
      · exact hB _ (hL q h)⟩ hl T' rfl X'
  exact ⟨t2, stp t2 a1, b1⟩
theorem w_callV {index b n d2 mc2 ms2 nL2 q0 ci : Nat} {C : String} {y : MethodName} {b2 : ByteArray} {ret : Option FieldType} {As rest fs : List Value} {r : vw_C} {post : Option Value → va_W → Prop} (hC : KOK K G cc own d mc ms) (hd : decode cc pc = .ok (.invokevirtual index, 3)) (ci2 : CI own index C y b2 nL2 ret n)
    (hM : CT (kl K) y b2 nL2 ret d2 mc2 ms2 G (.ref b :: As) w post) (hdd : d2 + 1 ≤ d) (hm : cs + mc2 ≤ mc ∧ ss + ms2 ≤ ms) (he : w[q0]? = some (b, .inr (ci, fs))) (hc : vwCl[ci]? = some r) (hr : r.1 = C) (hn : As.length = n) (hcat : (rest.map fun v => v.category).sum ≤ 8) {st : List Value} (hst : st = As.reverse ++ .ref b :: rest)
    (k : ∀ (v : Option Value) (w2 : va_W), post v w2 → WW K G (cs + mc2) (ss + ms2) w2 (pc + 3) lv (v.toList ++ rest)) : WW K G cs ss w pc lv st := by
  obtain ⟨c1, c2, c3, c4, c5, c6, c7⟩ := ci2
  have hts := hC.2.2.2.2.1
  have hroom := hC.2.2.2.2.2.2.2.2.2.2.2
  refine w_callRun (av := .ref b :: As) hC (fun H locs ls hsz hP hpre => ?_) k
  subst hr
  have hG := goodAll c5
  have cw : CallW (kR K) (ks K) (kargs K) own r.1 index y b2 nL2 ret (.code y b2 nL2 ret :: wAll) (rmD d2 mc2 ms2) mc2 ms2 n := by
    refine cwV n hts (fun w hw => ?_) rfl rfl rfl c7 (room_le hC hdd c6)
    unfold wsV at hw
    rcases List.mem_append.mp hw with hw | hw
    · simp only [List.mem_cons, List.not_mem_nil, or_false] at hw
      rcases hw with rfl | rfl | rfl | rfl
      · exact ⟨c1, wAll_good c1⟩
      · exact ⟨c2, wAll_good c2⟩
      · exact ⟨c3, wAll_good c3⟩
      · exact ⟨c4, wAll_good c4⟩
    · exact hG w hw
  exact va_runV ⟨hC.1, hC.2.1, hC.2.2.1, hC.2.2.2.1, hts⟩ (hM H.size) cw ⟨blindC, va_recv hC.2.2.2.2.2.1 hP hc he, hpre⟩ rfl hn hsz hst (lv_room hcat) hd ⟨Nat.le_trans hm.1 hroom.1, Nat.le_trans hm.2 hroom.2⟩
theorem w_callS {index n d2 mc2 ms2 nL2 : Nat} {y : MethodName} {b2 : ByteArray} {ret : Option FieldType} {As rest : List Value} {post : Option Value → va_W → Prop} (hC : KOK K G cc own d mc ms) (hd : decode cc pc = .ok (.invokestatic index, 3)) (ci2 : CS own index y b2 nL2 ret n)
    (hM : CT (kl K) y b2 nL2 ret d2 mc2 ms2 G As w post) (hdd : d2 + 1 ≤ d) (hm : cs + mc2 ≤ mc ∧ ss + ms2 ≤ ms) (hn : As.length = n) (hcat : (rest.map fun v => v.category).sum ≤ 8) {st : List Value} (hst : st = As.reverse ++ rest)
    (k : ∀ (v : Option Value) (w2 : va_W), post v w2 → WW K G (cs + mc2) (ss + ms2) w2 (pc + 3) lv (v.toList ++ rest)) : WW K G cs ss w pc lv st := by
  obtain ⟨c1, c2, c4, c5, c6, c7⟩ := ci2
  have hts := hC.2.2.2.2.1
  have hroom := hC.2.2.2.2.2.2.2.2.2.2.2
  refine w_callRun (av := As) hC (fun H locs ls hsz hP hpre => ?_) k
  have hG := goodAll c5
  have cw := cwS (R := kR K) (s := ks K) (args := kargs K) (own := own) (index := index) (y := y) (bytes := b2) (maxL := nL2) (ret := ret) (ws := .code y b2 nL2 ret :: wAll) (rm := rmD d2 mc2 ms2) (mc := mc2) (ms := ms2) n hts (fun w hw => by
    unfold wsS at hw
    rcases List.mem_append.mp hw with hw | hw
    · simp only [List.mem_cons, List.not_mem_nil, or_false] at hw
      rcases hw with rfl | rfl | rfl
      · exact ⟨c1, wAll_good c1⟩
      · exact ⟨c2, wAll_good c2⟩
      · exact ⟨c4, wAll_good c4⟩
    · exact hG w hw) rfl rfl rfl c7 (room_le hC hdd c6)
  exact va_runS ⟨hC.1, hC.2.1, hC.2.2.1, hC.2.2.2.1, hts⟩ (hM H.size) cw ⟨blindC, hpre⟩ rfl hn hsz hst (lv_room hcat) hd ⟨Nat.le_trans hm.1 hroom.1, Nat.le_trans hm.2 hroom.2⟩
end WCALL
