/-! ===== an array of arrays; an array of references; a contract beside other cells ===== -/
/-- the outer array, its first i rows laid; a row -/
def mgo (cA : ClassId) (h i : Nat) : Cell := arrV cA 6 (fun j => if j < i then .ref (h + 1 + j) else .null)
def mgr (cB : ClassId) : Cell := arrV cB 6 (fun _ => .int 0)
def mgs (cA cB : ClassId) (T : State) : Nat → State
  | 0 => T.pushCell (mgo cA T.heap.size 0)
  | i + 1 => ((mgs cA cB T i).pushCell (mgr cB)).setCell T.heap.size (mgo cA T.heap.size (i + 1))
theorem mgo_next (cA : ClassId) (h i : Nat) : (mgo cA h i).setSlot i (.ref (h + 1 + i)) = mgo cA h (i + 1) := by
  unfold mgo
  rw [arrV_store]
  congr 1
  funext j
  unfold updV
  by_cases e : j = i
  · rw [if_pos e, if_pos (by omega), e]
  · rw [if_neg e]
    show (if j < i then Value.ref (h + 1 + j) else Value.null) = _
    by_cases c : j < i
    · rw [if_pos c, if_pos (by omega)]
    · rw [if_neg c, if_neg (by omega)]
theorem mgs_at (cA cB : ClassId) (T : State) : ∀ i : Nat, (mgs cA cB T i).heap.size = T.heap.size + 1 + i ∧ (mgs cA cB T i).heap[T.heap.size]? = some (mgo cA T.heap.size i) ∧ (mgs cA cB T i).vm = T.vm ∧ (mgs cA cB T i).slotsUsed = T.slotsUsed + 6 + i * 6 ∧ (∀ a, a < T.heap.size → (mgs cA cB T i).heap[a]? = T.heap[a]?) ∧ ∀ j, j < i → (mgs cA cB T i).heap[T.heap.size + 1 + j]? = some (mgr cB)
  | 0 => by
    refine ⟨by simp [mgs], by simp [mgs], rfl, by simp [mgs, mgo, arrV_size], fun a ha => ?_, fun j hj => absurd hj (Nat.not_lt_zero _)⟩
    show (T.heap.push _)[a]? = _
    rw [Array.getElem?_push, if_neg (Nat.ne_of_lt ha)]
  | i + 1 => by
    obtain ⟨h1, h2, h3, h4, h5, h6⟩ := mgs_at cA cB T i
    have hp : ((mgs cA cB T i).pushCell (mgr cB)).heap.size = T.heap.size + 1 + i + 1 := by
      show ((mgs cA cB T i).heap.push _).size = _
      rw [Array.size_push, h1]
    refine ⟨?_, ?_, ?_, ?_, fun a ha => ?_, fun j hj => ?_⟩
    · show (State.setCell _ _ _).heap.size = _
      rw [size_setCell, hp]
      omega
    · exact heapAt_setCell_self _ (show T.heap.size < _ from by rw [hp]; omega)
    · exact h3
    · show (mgs cA cB T i).slotsUsed + (mgr cB).slots.size = _
      rw [h4, show (mgr cB).slots.size = 6 from arrV_size _ _ _]
      omega
    · show (State.setCell _ _ _).heap[a]? = _
      rw [heapAt_setCell_ne _ (show T.heap.size ≠ a from by omega)]
      show ((mgs cA cB T i).heap.push _)[a]? = _
      rw [Array.getElem?_push, if_neg (by rw [h1]; omega)]
      exact h5 a ha
    · show (State.setCell _ _ _).heap[_]? = _
      rw [heapAt_setCell_ne _ (show T.heap.size ≠ T.heap.size + 1 + j from by omega)]
      show ((mgs cA cB T i).heap.push _)[_]? = _
      rw [Array.getElem?_push]
      by_cases e : j = i
      · rw [if_pos (by rw [h1]; omega)]
      · rw [if_neg (by rw [h1]; omega)]
        exact h6 j (by omega)
theorem mgs_top (cA cB : ClassId) (T : State) (f : JFrame) : ∀ i : Nat, mgs cA cB (T.setTop f) i = (mgs cA cB T i).setTop f
  | 0 => rfl
  | i + 1 => by
    show ((mgs cA cB (T.setTop f) i).pushCell (mgr cB)).setCell _ _ = _
    rw [mgs_top cA cB T f i]
    rfl
section MULS
variable {E : CtlPost} {e : Env} {dd : Bool} {acts : List Action} {s : State}
theorem mg_new {Q : Addr → Pre} {c0 cp : ClassId} {k : Class} {ty : FieldType} {v : Value} (hk : s.vm.classes[c0]? = some k) (hkk : k.kind = .array cp ty) (hl : ¬ 6 > e.platform.arrayLengthLimit) (hh : ¬ 6 * componentBytes ty > e.platform.maxHeapBytes) (hf : fits ty v = true) (hv : v.isDefault = true) (h1 : s.heap.size < e.platform.maxCells) (h2 : s.slotsUsed + 6 ≤ e.platform.maxSlots) (q : Q s.heap.size dd acts (s.pushCell (arrV c0 6 (fun _ => v)))) : wp (Jvm.newArray c0 6 v) Q E e dd acts s := by
  have ha : allocActs (Array.replicate 6 v) s.heap.size acts = acts := by
    unfold allocActs
    exact if_pos (by rw [Array.all_replicate]; simp [hv])
  have hs : ∀ (i : Nat) (x : Value), (Array.replicate 6 v)[i]? = some x → s.fitsSlot c0 .none i x = true := fun i x hx => by
    rw [Array.getElem?_replicate] at hx
    split at hx
    · cases hx
      simp [State.fitsSlot, State.slotType?, hk, hkk, hf]
    · cases hx
  rw [← arrV_new] at q
  simp only [Jvm.newArray, Jvm.arrayFits, wp_bind', W.ask, W.ite, hl, if_false, wp_pure', W.theClass, hk, hkk, hh, W.alloc, W.stop, Option.some.injEq, exists_eq_left', Array.size_replicate, ha]
  rw [if_neg (by omega)]
  exact ⟨h1, h2, hs, q⟩
theorem mg_row {Q : Addr → Pre} {cB cI : ClassId} {k : Class} {n : Int32} (hn : ¬ n < 0) (h6 : n.toNatClampNeg = 6) (hk : s.vm.classes[cB]? = some k) (hkk : k.kind = .array cI .int) (hl : ¬ 6 > e.platform.arrayLengthLimit) (hh : ¬ 6 * componentBytes .int > e.platform.maxHeapBytes) (h1 : s.heap.size < e.platform.maxCells) (h2 : s.slotsUsed + 6 ≤ e.platform.maxSlots) (q : Q s.heap.size dd acts (s.pushCell (mgr cB))) : wp (multianewarray.make cB [n]) Q E e dd acts s := by
  rw [multianewarray.make]
  simp only [wp_bind', W.ite, hn, if_false, wp_pure', W.theClass, hk, hkk, Option.some.injEq, exists_eq_left', h6]
  exact mg_new hk hkk hl hh rfl rfl h1 h2 q
theorem mg_all {Q : Addr → Pre} {cA cB cI : ClassId} {kA kB : Class} {n : Int32} (hn : ¬ n < 0) (h6 : n.toNatClampNeg = 6) (hA : s.vm.classes[cA]? = some kA) (hAk : kA.kind = .array cB (.array .int)) (hB : s.vm.classes[cB]? = some kB) (hBk : kB.kind = .array cI .int) (hl : ¬ 6 > e.platform.arrayLengthLimit) (hh : ¬ 6 * 4 > e.platform.maxHeapBytes) (h1 : s.heap.size + 7 ≤ e.platform.maxCells) (h2 : s.slotsUsed + 42 ≤ e.platform.maxSlots) (q : ∀ d2 acts2, Q s.heap.size d2 acts2 (mgs cA cB s 6)) : wp (multianewarray.make cA [n, n]) Q E e dd acts s := by
  have hfd : ([n].find? (· < 0)) = none := by simp [hn]
  rw [multianewarray.make]
  simp only [wp_bind', W.ite, hn, if_false, wp_pure', W.theClass, hA, hAk, Option.some.injEq, exists_eq_left', h6]
  refine mg_new hA hAk hl hh rfl rfl (by omega) (by omega) ?_
  simp only [hfd]
  rw [ite_self, wp_bind', Std.Legacy.Range.forIn_eq_forIn_range']
  show wp (forIn (List.range' 0 6 1) PUnit.unit _) _ E e dd acts _
  refine wp_forIn_inv (fun rest s' => ∃ i, i ≤ 6 ∧ rest = List.range' i (6 - i) ∧ s' = mgs cA cB s i) _ _ ⟨0, Nat.zero_le _, rfl, rfl⟩ ?_ ?_
  · rintro x rest s' d2 acts2 Q2 ⟨i, hi, hr, rfl⟩ hnext
    have hlt : i < 6 := by
      refine Nat.lt_of_not_le fun h => ?_
      rw [show 6 - i = 0 by omega] at hr
      cases hr
    rw [show 6 - i = (6 - (i + 1)) + 1 by omega, List.range'_succ] at hr
    obtain ⟨hx, hrest⟩ := List.cons.inj hr
    subst hx
    obtain ⟨f1, f2, f3, f4, f5, f6⟩ := mgs_at cA cB s x
    simp only [wp_bind']
    refine mg_row hn h6 (by rw [f3]; exact hB) hBk hl hh (by rw [f1]; omega) (by rw [f4]; omega) ?_
    have hlt0 : s.heap.size < (mgs cA cB s x).heap.size := by rw [f1]; omega
    simp only [wp_bind', W.writeLoc, wp_pure']
    refine ⟨mgo cA s.heap.size x, ?_, (fun h => by cases h), ?_, ?_, hnext _ _ _ ⟨x + 1, hlt, hrest, ?_⟩⟩
    · rw [State.heap_pushCell_of_lt (h := hlt0)]; exact f2
    · rw [show (mgo cA s.heap.size x).slots.size = 6 from arrV_size _ _ _]; exact hlt
    · show State.fitsSlot _ cA .none x (.ref _) = true
      simp [State.fitsSlot, State.slotType?, f3, hA, hAk, fits]
    · rw [f1, mgo_next]
      rfl
  · rintro s' d2 acts2 ⟨i, hi, hr, rfl⟩
    have hi6 : i = 6 := by
      refine Nat.le_antisymm hi (Nat.le_of_not_lt fun h => ?_)
      rw [show 6 - i = (6 - (i + 1)) + 1 by omega, List.range'_succ] at hr
      cases hr
    subst hi6
    simp only [wp_pure']
    exact q _ _
end MULS
section MULT2
variable {p : Program} {l : Launch} {e : Env} {R : Room} {s : State} {m : MethodId} {args : Array Value} {below : List Frame} {meth : Method} {c : Code}
theorem mg_stand {T : State} {locs : List Loc} {cells slots : Nat} (X : Stand p l e R s m args below meth c T locs cells slots) (cA cB : ClassId) : ∀ i : Nat, Stand p l e R s m args below meth c (mgs cA cB T i) (locs ++ (List.range i).map fun j => ⟨T.heap.size, j⟩) (cells + 1 + i) (slots + 6 + i * 6)
  | 0 => by
    have h := X.pushed (mgo cA T.heap.size 0)
    rw [show (mgo cA T.heap.size 0).slots.size = 6 from arrV_size _ _ _] at h
    simpa [mgs] using h
  | i + 1 => by
    have X1 := mg_stand X cA cB i
    obtain ⟨f1, f2, -⟩ := mgs_at cA cB T i
    have h := (X1.pushed (mgr cB)).stored (a := T.heap.size) (cell := mgo cA T.heap.size i) (by rw [State.heap_pushCell_of_lt (h := (show T.heap.size < _ from by rw [f1]; omega))]; exact f2) i (.ref (T.heap.size + 1 + i))
    rw [show (mgr cB).slots.size = 6 from arrV_size _ _ _, mgo_next] at h
    have e1 : (locs ++ (List.range (i + 1)).map fun j => (⟨T.heap.size, j⟩ : Loc)) = (locs ++ (List.range i).map fun j => (⟨T.heap.size, j⟩ : Loc)) ++ [⟨T.heap.size, i⟩] := by rw [List.range_succ, List.map_append, List.append_assoc]; rfl
    rw [e1, show slots + 6 + (i + 1) * 6 = slots + 6 + i * 6 + 6 by omega]
    exact h
theorem mg_W {H : Heap} {locs : List Loc} {cells slots : Nat} {Q : State → Prop} {cc : ByteArray} (hexec : p.tables.exec = Jvm.exec) (hb : c.code = cc) {own : String} {index : Nat} (hown : s.vm.findClass own = some m.cls) (hclink : (Cond.classLink own index "[[I").before args s = true) (hover : (Cond.arrayOver (.array .int)).before args s = true) (harr : (Cond.arrayClass .int).before args s = true)
    {g : JFrame} (hg : g.method = m) (hdg : decode cc g.pc = .ok (.multianewarray index 2, 4)) {n : Int32} (hn : ¬ n < 0) (h6 : n.toNatClampNeg = 6) {rest : List Value} (hstack : g.stack = .int n :: .int n :: rest) (hcells : cells + 7 ≤ R.cells) (hslots : slots + 42 ≤ R.slots)
    (kk : ∀ (cA cB cI : ClassId) (kA kB : Class) (H1 : Heap), s.vm.findClass "[[I" = some cA → s.vm.findClass "[I" = some cB → s.vm.classes[cA]? = some kA → kA.kind = .array cB (.array .int) → s.vm.classes[cB]? = some kB → kB.kind = .array cI .int → H1.size = H.size + 7 → H1[H.size]? = some (mgo cA H.size 6) → (∀ j, j < 6 → H1[H.size + 1 + j]? = some (mgr cB)) → (∀ a, a < H.size → H1[a]? = H[a]?) →
      W p l e R s m args below meth c H1 (locs ++ (List.range 6).map fun j => ⟨H.size, j⟩) (cells + 7) (slots + 42) Q { g with pc := g.pc + 4, stack := .ref H.size :: rest }) : W p l e R s m args below meth c H locs cells slots Q g := by
  intro T hT X
  subst hT; subst hb; subst hg
  have pl := X.admits.platform
  obtain ⟨cB, cA, kA, hcB, -, hkA, hkkA, hcA⟩ := arrayOverA_spec hover
  obtain ⟨cB2, kB, cI, hcB2, hkB, hkkB⟩ := Cond.arrayClass_spec harr
  have eB : cB2 = cB := Option.some.inj (hcB2.symm.trans hcB)
  subst eB
  obtain ⟨c0, hc0, hcl⟩ := Cond.classLink_spec hown hclink e.platform (by rw [pl])
  have eA : c0 = cA := Option.some.inj (hc0.symm.trans hcA)
  subst eA
  obtain ⟨hg1, hw1, hr1⟩ := State.classEntry (e := e) X.warmed hcl
  generalize T.vm.noted g.method.cls index (.cls c0) = vm1 at hg1 hw1 hr1
  obtain ⟨kA1, eA1, fA1⟩ := hw1.alike.2.2 _ _ hkA
  obtain ⟨kB1, eB1, fB1⟩ := hw1.alike.2.2 _ _ hkB
  have X1 := X.noted hw1
  have XF := mg_stand X1 c0 cB2 6
  obtain ⟨hr2, hr3⟩ := X.roomAbove (a := 7) (b := 42) hcells hslots
  obtain ⟨m1, m2, m3, m4, m5, m6⟩ := mgs_at c0 cB2 (T.setVm vm1) 6
  have XF2 : Stand p l e R s g.method args below meth c (mgs c0 cB2 (T.setVm vm1) 6) (locs ++ (List.range 6).map fun j => ⟨T.heap.size, j⟩) (cells + 7) (slots + 42) := XF
  obtain ⟨t, a1, b1⟩ := kk c0 cB2 cI kA kB _ hc0 hcB2 hkA hkkA hkB hkkB m1 m2 m6 m5 (mgs c0 cB2 (T.setVm vm1) 6) rfl XF2
  refine ⟨t, ?_, b1⟩
  have al : ¬ 6 > e.platform.arrayLengthLimit := by rw [Launch.admits_arrayLengthLimit X.admits]; decide
  have hh : ¬ 6 * 4 > e.platform.maxHeapBytes := by rw [Launch.admits_maxHeapBytes X.admits]; decide
  jvm_step X.here [hexec, hdg]
  simp only [multianewarray.sem, wp_bind', W.resolveClassAt_links (State.method?_setTop g X.here.top) hg1]
  rw [W.popN, if_neg (by decide)]
  refine ⟨g, State.topJava?_setTop' (s := T.setVm vm1) g X.here.top, [.int n, .int n], rest, rfl, hstack, ?_⟩
  simp only [List.mapM_cons, List.mapM_nil, wp_bind', wp_pure']
  refine mg_all (kA := kA1) (kB := kB1) (cB := cB2) (cI := cI) hn h6 eA1 (by rw [fA1]; exact hkkA) eB1 (by rw [fB1]; exact hkkB) al hh (by show T.heap.size + 7 ≤ _; omega) (by show T.slotsUsed + 42 ≤ _; omega) (fun d2 acts2 => ?_)
  have eS : ((T.setTop g).setVm vm1).setTop { g with stack := rest } = (T.setVm vm1).setTop { g with stack := rest } := by
    show ((T.setVm vm1).setTop g).setTop _ = _
    rw [State.setTop_setTop]
  rw [eS, mgs_top]
  simp only [wp_bind', W.mark, W.pushRef, State.topJava?_setTop' _ XF.here.top, Option.some.injEq, exists_eq_left', State.setTop_setTop, State.heap_setTop]
  intro acts
  simp [jvm, XF.here.top]
  exact a1
end MULT2
/-- six rows of six ints are made -/
theorem w_multi {K : KT} {G : GT} {cc : ByteArray} {own : String} {d mc ms cs ss pc : Nat} {w : va_W} {lv : List (Nat × Value)} {st : List Value} (hC : KOK K G cc own d mc ms) {index : Nat} (hd : decode cc pc = .ok (.multianewarray index 2, 4)) (hl : Cond.classLink own index "[[I" ∈ wAll) (hcs : cs + 7 ≤ mc ∧ ss + 42 ≤ ms)
    (k : ∀ q : Nat, WW K G (cs + 7) (ss + 42) (w ++ (q, .inl (G.2.1 6, 6, .inr (.inr (.inr (.inr (fun j => if j < 6 then some (q + 1 + j) else none)))))) :: (List.range 6).map (fun j => (q + 1 + j, .inl (G.2.1 0, 6, .inl (jf (fun _ => 0)))))) (pc + 4) lv (.ref q :: st)) : WW K G cs ss w pc lv (.int (J 6) :: .int (J 6) :: st) := fun H locs ls hP hD hS hl2 => by
  have hroom := hC.2.2.2.2.2.2.2.2.2.2.2
  refine mg_W hC.1 hC.2.1 hC.2.2.2.1 (hC.2.2.2.2.1 _ hl) hC.2.2.2.2.2.2.2.2.1.1.2.2.2.2.2.2 (hC.2.2.2.2.1 _ tw_1_54) (g := F0 (km K) pc ls (.int (J 6) :: .int (J 6) :: st)) rfl hd (by decide) (by decide) rfl (by omega) (by omega) (fun cA cB cI k1 k2 H1 hcA hcB hkA hkkA hkB hkkB hz h1 h2 h3 => ?_)
  have hA : ∀ q, H.size ≤ q → kA K q := fun q h => hC.2.2.2.2.2.2.2.1 q (Nat.le_trans hS.1 h)
  have eA : cA = G.2.1 6 := by
    have := (hC.2.2.2.2.2.1.2 6 _ rfl).2
    exact Option.some.inj (hcA.symm.trans this)
  have eB : cB = G.2.1 0 := by
    have := (hC.2.2.2.2.2.1.2 0 _ rfl).2
    exact Option.some.inj (hcB.symm.trans this)
  subst eA; subst eB
  refine k H.size H1 _ ls ?_ ?_ ⟨by rw [hz]; exact Nat.le_trans hS.1 (by omega), fun q g1 g2 => (h3 q (Nat.lt_of_lt_of_le g1 hS.1)).trans (hS.2.1 q g1 g2), fun q hq => ?_⟩ hl2
  · refine (hP.kept fun j q hq => h3 q.1 (hP j q hq).lt).app (fun j q hq => ?_)
    cases j with
    | zero =>
      cases hq
      show H1[H.size]? = some (vp_cell _ _)
      rw [vp_cell_q, h1]
      unfold mgo
      congr 2
      funext j
      by_cases c : j < 6
      · rw [if_pos c, if_pos c]; rfl
      · rw [if_neg c, if_neg c]; rfl
    | succ j =>
      have hq2 : ((List.range 6).map (fun j => ((H.size + 1 + j, .inl (G.2.1 0, 6, .inl (jf (fun _ => 0)))) : Nat × va_E)))[j]? = some q := hq
      rw [List.getElem?_map] at hq2
      obtain ⟨i, hi, e⟩ := Option.map_eq_some_iff.mp hq2
      have hi6 : i < 6 := List.mem_range.mp (List.mem_of_getElem? hi)
      subst e
      show H1[H.size + 1 + i]? = some (vp_cell _ _)
      rw [h2 i hi6]
      rfl
  · refine va_D_mem.mpr ⟨?_, fun q hq => ?_⟩
    · have hD2 := va_D_mem.mp hD
      rw [List.map_append]
      refine List.nodup_append.mpr ⟨hD2.1, ?_, fun a ha b hb => ?_⟩
      · show (H.size :: ((List.range 6).map (fun j => ((H.size + 1 + j, .inl (G.2.1 0, 6, .inl (jf (fun _ => 0)))) : Nat × va_E))).map Prod.fst).Nodup
        simp [List.range, List.range.loop]
        omega
      · obtain ⟨x, hx, ex⟩ := List.mem_map.mp ha
        have hlt := (va_P_mem.mp hP x hx).lt
        obtain ⟨y, hy, ey⟩ := List.mem_map.mp hb
        have hge : H.size ≤ y.1 := by
          rcases List.mem_cons.mp hy with hy | hy
          · rw [hy]; exact Nat.le_refl _
          · obtain ⟨i, -, e⟩ := List.mem_map.mp hy
            rw [← e]
            show H.size ≤ H.size + 1 + i
            omega
        omega
    · rcases List.mem_append.mp hq with hq | hq
      · exact (va_D_mem.mp hD).2 q hq
      · refine hA q.1 ?_
        rcases List.mem_cons.mp hq with hy | hy
        · rw [hy]; exact Nat.le_refl _
        · obtain ⟨i, -, e⟩ := List.mem_map.mp hy
          rw [← e]
          show H.size ≤ H.size + 1 + i
          omega
  · rcases List.mem_append.mp hq with hq | hq
    · exact hS.2.2 q hq
    · obtain ⟨i, -, e⟩ := List.mem_map.mp hq
      rw [← e]
      exact hA _ (Nat.le_refl _)
