/-! ===== a static member, and a superclass' member, that the named class inherits ===== -/
section SUPS
variable {Q : Unit → Pre} {E : CtlPost} {e : Env} {dd : Bool} {acts : List Action} {s s0 : State} {f : JFrame}
/-- the named class' entry is laid first, the member's behind it; then the instruction answers as it would with both laid -/
theorem su_same {index ci nt cn : Nat} {m : MethodId} {dk ck : Class} {cf : ClassFile} {name desc : String} (top : s.topJava?.isSome) (hp : e.platform.polymorphicOnlyByInvokevirtual = true) (hW : s0.WarmedH s.vm) (hE : s0.MethodEntryUp e s.vm f.method.cls index cn m ci) (h1 : s0.vm.classes[f.method.cls]? = some dk) (h2 : dk.cf = some cf) (h3 : cf.constantPool[index]? = some (.methodref ci nt)) (h4 : cf.constantPool.nameAndType? nt = some (name, desc)) (h5 : s0.vm.classes[cn]? = some ck) (h6 : (ck.methods.any fun z => z.name == name && !z.isStatic && signaturePolymorphic ck z) = false) :
    wp (invokestatic.sem index) Q E e dd acts (s.setTop f) ↔ wp (invokestatic.sem index) Q E e dd acts ((s.setVm (s.vm.calledUp f.method.cls ci index cn m)).setTop f) := by
  have A := hE.classFirst
  have cp : cf.constantPool[index]? = some (if false then .interfaceMethodref ci nt else .methodref ci nt) := h3
  have top1 : (s.setVm (s.vm.noted f.method.cls ci (.cls cn))).topJava?.isSome := top
  have top2 : (s.setVm (s.vm.calledUp f.method.cls ci index cn m)).topJava?.isSome := top
  obtain ⟨ka, ea, fa⟩ := hW.alike.2.2 _ _ h1
  obtain ⟨kb, eb, fb⟩ := hE.warmed.alike.2.2 _ _ h1
  obtain ⟨ca, ga, ha⟩ := A.2.2.1.alike.2.2 _ _ h5
  obtain ⟨cb, gb, hb⟩ := hE.warmed.alike.2.2 _ _ h5
  have na : (ca.methods.any fun z => z.name == name && !z.isStatic && signaturePolymorphic ca z) = false := by rw [ha]; exact h6
  have nb : (cb.methods.any fun z => z.name == name && !z.isStatic && signaturePolymorphic cb z) = false := by rw [hb]; exact h6
  have qa := memberRef_ask_via (e := e) (via := false) ea (by rw [fa]; exact h2) cp h4
  have qb := memberRef_ask_via (e := e) (via := false) eb (by rw [fb]; exact h2) cp h4
  have lc : ∀ {Q2 : ClassId → Pre} {d2 : Bool} {acts2 : List Action}, wp (Jvm.resolveClassAt ci) Q2 E e d2 acts2 (s.setTop f) ↔ Q2 cn d2 acts2 ((s.setVm (s.vm.noted f.method.cls ci (.cls cn))).setTop f) := W.resolveClassAt_links (t := s.setTop f) (State.method?_setTop f top) A.1
  have lm : ∀ {Q2 : MethodId → Pre} {d2 : Bool} {acts2 : List Action}, wp (Jvm.resolveMethodAt index) Q2 E e d2 acts2 ((s.setVm (s.vm.noted f.method.cls ci (.cls cn))).setTop f) ↔ Q2 m d2 acts2 ((s.setVm (s.vm.calledUp f.method.cls ci index cn m)).setTop f) := W.resolveMethodAt_links (t := (s.setVm (s.vm.noted f.method.cls ci (.cls cn))).setTop f) (State.method?_setTop f top1) A.2.2.2
  have rc := fun {Q2 : ClassId → Pre} {d2 : Bool} {acts2 : List Action} => W.resolveClassAt_ready (Q := Q2) (E := E) (e := e) (d := d2) (acts := acts2) (s := (s.setVm (s.vm.calledUp f.method.cls ci index cn m)).setTop f) (State.method?_setTop f top2) hE.classReady
  have rm := fun {Q2 : MethodId → Pre} {d2 : Bool} {acts2 : List Action} => W.resolveMethodAt_ready (Q := Q2) (E := E) (e := e) (d := d2) (acts := acts2) (s := (s.setVm (s.vm.calledUp f.method.cls ci index cn m)).setTop f) (State.method?_setTop f top2) hE.ready
  simp [invokestatic.sem, hp, Seam.memberRefOf, State.method?_setTop f top, State.method?_setTop f top2, qa, qb, lc, lm, rc, rm, ga, gb, na, nb, -Array.any_eq_true]
end SUPS
section SUPT
variable {p : Program} {l : Launch} {e : Env} {R : Room} {s : State} {m : MethodId} {args : Array Value} {below : List Frame} {meth : Method} {c : Code} {T : State} {locs : List Loc} {cells slots : Nat}
theorem su_call (X : Stand p l e R s m args below meth c T locs cells slots) (hexec : p.tables.exec = Jvm.exec) {own owner : String} {index : Nat} {x : MethodName} {bytes : ByteArray} {maxL : Nat} {ret : Option FieldType}
    (hown : s.vm.findClass own = some m.cls) (hlink : (Cond.methodLink own index x).before args s = true) (hsame : (Cond.sameMethod x.cls owner x.name x.desc).before args s = true) (hstat : (Cond.static ⟨owner, x.name, x.desc⟩).before args s = true) (hinit : (Cond.initialized owner).before args s = true)
    (hcode : (Cond.code ⟨owner, x.name, x.desc⟩ bytes maxL ret).before args s = true) (howner : owner ≠ "java/lang/invoke/MethodHandle" ∧ owner ≠ "java/lang/invoke/VarHandle")
    {W : Nat} {Pr : Pt → Array Value → Prop} {Po : Pt → Array Value → Option Value → Pt → Prop} (hK : Back l R p e below s args ⟨owner, x.name, x.desc⟩ 3 W Pr Po)
    {g : JFrame} (hg : g.method = m) (hsize : g.locals.size = c.maxLocals) {As rest : List Value} (hlen : ∀ sig, parseMethodDescriptor x.desc = some sig → As.length = sig.parameters.length)
    (hstack : g.stack = As.reverse ++ rest) (hW : 2 * g.monitorRoom + (rest.map fun v => v.category).sum ≤ W) (hdg : decode c.code g.pc = .ok (.invokestatic index, 3))
    (hpre : ∀ vm₁, s.WarmedH vm₁ → Pr ⟨T.setVm vm₁, locs, cells, slots⟩ As.toArray) :
    ∃ (v : Option Value) (vm₁ : Vm) (B : Pt), s.WarmedH vm₁ ∧ Stand p l e R s m args below meth c B.U B.locs B.cells B.slots ∧ Po ⟨T.setVm vm₁, locs, cells, slots⟩ As.toArray v B ∧
      ∀ target, Steps p.tables e below (B.U.setTop { g with pc := g.pc + 3, stack := v.toList ++ rest }) target → Steps p.tables e below (T.setTop g) target := by
  have pl := X.admits.platform
  obtain ⟨mk, hn⟩ := Cond.code_named hcode
  obtain ⟨mM, cM, hmM, -, -, -, -, -, -, hsig⟩ := Cond.code_spec hn hcode
  have hst : mM.isStatic = true := Cond.static_spec hn hmM hstat
  obtain ⟨kP, hkP, hnm⟩ := className_of_methodNamed hn
  have hin : kP.init = .initialized := Cond.initialized_spec (findClass_of_methodNamed hn) hkP hinit
  obtain ⟨cn, ck, r1, hcn, hck, hni, hf, hn1⟩ := Cond.sameMethod_found hsame
  cases hn.symm.trans hn1
  obtain ⟨ci, hl, hright⟩ := Cond.methodLink_specUp hown hcn hck hni hf hlink e.platform (by rw [pl]) (by rw [pl])
  have hE : s.MethodEntryUp e T.vm m.cls index cn mk ci := State.methodEntryUp X.warmed hl hright
  obtain ⟨dk, cf, nt, mname, mdesc, ck2, -, -, hd, hcf, hcp, hnt, -, -, hck2, -, hpoly, -⟩ := hl.here
  cases hck.symm.trans hck2
  have al := hE.warmed.alike
  obtain ⟨kd, ekd, fkd⟩ := al.2.2 _ _ hd
  obtain ⟨kp, ekp, fkp⟩ := al.2.2 _ _ hkP
  obtain ⟨kc, ekc, fkc⟩ := al.2.2 _ _ hck
  have none1 : (ck.methods.any fun z => z.name == mname && !z.isStatic && signaturePolymorphic ck z) = false := by simp [hpoly]
  have none2 : (kc.methods.any fun z => z.name == mname && !z.isStatic && signaturePolymorphic kc z) = false := by rw [fkc]; exact none1
  have cp : cf.constantPool[index]? = some (if false then .interfaceMethodref ci nt else .methodref ci nt) := hcp
  have X1 := X.noted hE.warmed
  have hpl : signaturePolymorphic kp mM = false := by
    rw [fkp]
    show signaturePolymorphic kP mM = false
    simp [signaturePolymorphic, hnm, howner.1, howner.2]
  obtain ⟨v, B, X2, hpost, hsteps⟩ := hK m meth c ⟨T.setVm (T.vm.calledUp m.cls ci index cn mk), locs, cells, slots⟩ { g with stack := rest } (.invokestatic index) mk As.toArray X1 hg hsize hdg hW (X1.named hn) (hpre _ X1.warmed)
  refine ⟨v, T.vm.calledUp m.cls ci index cn mk, B, X1.warmed, X2, hpost, fun target h => ?_⟩
  subst hg
  jvm_step X.here [hexec, hdg, su_same (e := e) (s := T) (s0 := s) (f := g) X.here.top (by rw [pl]) X.warmed hE hd hcf hcp hnt hck none1,
    invokestatic.wp_ready (e := e) (s := T.setVm (T.vm.calledUp g.method.cls ci index cn mk)) (k := kp) (meth := mM) (m := mk) (args := As) (rest := rest) (f := g) X.here.top ⟨ci, mname, mdesc, false, cn, kc, memberRef_ask_via (e := e) (via := false) ekd (by rw [fkd]; exact hcf) cp hnt, hE.classReady, ekc, none2⟩ hE.ready ekp
      (by show (T.vm.calledUp g.method.cls ci index cn mk).method? mk = some mM; rw [al.method?]; exact hmM) hpl hst (by rw [fkp]; exact hin) (hlen _ hsig) hstack]
  intro acts
  rw [doInvoke_state]
  exact hsteps.trans h
def CSIok (R : Room) (s : State) (args : Array Value) (own owner : String) (index : Nat) (x : MethodName) (bytes : ByteArray) (maxL : Nat) (ret : Option FieldType) (ws : List Cond) (rm : Room) (mc ms n : Nat) : Prop :=
  (rm.cells = mc ∧ rm.slots = ms ∧ rm.frames + 1 ≤ R.frames ∧ 8 + (maxL + 11) + rm.locals ≤ R.locals ∧ (∀ w ∈ ws, ∀ (a' : Array Value) (U : State), s.WarmedH U.vm → w.before a' U = true) ∧ Cond.code ⟨owner, x.name, x.desc⟩ bytes maxL ret ∈ ws) ∧
  (Cond.methodLink own index x).before args s = true ∧ (Cond.sameMethod x.cls owner x.name x.desc).before args s = true ∧ (Cond.initialized owner).before args s = true ∧ (Cond.code ⟨owner, x.name, x.desc⟩ bytes maxL ret).before args s = true ∧ (owner ≠ "java/lang/invoke/MethodHandle" ∧ owner ≠ "java/lang/invoke/VarHandle") ∧ (∀ sig, parseMethodDescriptor x.desc = some sig → n = sig.parameters.length)
variable {H : Heap}
theorem su_run {x : MethodName} {bytes cc : ByteArray} {maxL nL mc ms n index : Nat} {ret : Option FieldType} {ws : List Cond} {rm : Room} {Pc : Array Value → State → Prop} {Qc : Array Value → State → Outcome → State → Prop} {free : Addr → Prop} {Ts : List Cond} {own owner : String} {As rest : List Value} {g : JFrame}
    (S : CallFix p m c cc nL s args Ts own) (hM : Met l ⟨owner, x.name, x.desc⟩ ws rm Pc Qc mc ms free) (cw : CSIok R s args own owner index x bytes maxL ret ws rm mc ms n) (hstat : (Cond.static ⟨owner, x.name, x.desc⟩).before args s = true) (hp : PreS s H Pc As)
    (hg : g.method = m) (hn : As.length = n) (hsize : g.locals.size = nL) (hstack : g.stack = As.reverse ++ rest) (hW : 2 * g.monitorRoom + (rest.map fun v => v.category).sum ≤ 8) (hdg : decode cc g.pc = .ok (.invokestatic index, 3)) (hf : cells + mc ≤ R.cells ∧ slots + ms ≤ R.slots) :
    va_Run p l e R s m args below meth c H locs cells slots mc ms g rest (Qc As.toArray) (free) := by
  obtain ⟨⟨hrc, hrs, hfr, hlo, hws, hcw⟩, hl1, hl2, hini, hcode, how, hlen⟩ := cw
  have hK : Back l R p e below s args ⟨owner, x.name, x.desc⟩ 3 8 (PreOf R mc ms Pc) (PostOf Qc mc ms free) := back_of (bytes := bytes) (maxL := maxL) (ret := ret) hM hp.1 hrc hrs hfr hlo hws hcw (fun a' U hW => word_at hW (Or.inl (by first | rfl | simp [Cond.onTables, Cond.keeps, Cond.steady])) hini)
  obtain ⟨hx, hb, hml, ho, -⟩ := S
  intro T hT X
  obtain ⟨v, vm₁, ⟨U', l2, c2, s2⟩, hW₁, X', ⟨g', mk, t, L, e1, e2, hq, h1, hL, h2, h3⟩, st⟩ := su_call X hx (bytes := bytes) (maxL := maxL) (ret := ret) ho hl1 hl2 hstat hini hcode how hK hg (hsize.trans hml.symm) (As := As) (rest := rest) (fun sig h => hn.trans (hlen sig h)) hstack hW (by rw [hb]; exact hdg)
    (fun vm₁ hW₁ => ⟨hf.1, hf.2, hp.2 (T.setVm vm₁) hT hW₁⟩)
  dsimp only [Pt.U, Pt.locs, Pt.cells, Pt.slots] at X' e1 e2 h1 h2 h3 st
  subst h1; subst h2; subst h3
  exact ⟨v, (T.setVm vm₁).calling g' mk As.toArray, t, U', L, hT, X', hL, e1, e2, hq, st⟩
/-- the superclass' member that it inherits itself -/
theorem sp_run {x : MethodName} {bytes cc : ByteArray} {maxL nL mc ms n index : Nat} {ret : Option FieldType} {ws : List Cond} {rm : Room} {Pc : Array Value → State → Prop} {Qc : Array Value → State → Outcome → State → Prop} {free : Addr → Prop} {Ts : List Cond} {own owner C : String} {cC : ClassId} {b : Addr} {As rest : List Value} {g : JFrame}
    (hat : ClassAt s C cC) (S : CallFix p m c cc nL s args Ts own) (hM : Met l ⟨owner, x.name, x.desc⟩ ws rm Pc Qc mc ms free) (cw : CSIok R s args own owner index x bytes maxL ret ws rm mc ms n) (hinst : (Cond.instanceMethod ⟨owner, x.name, x.desc⟩).before args s = true) (hsup : (Cond.superclass own x.cls).before args s = true) (hsup2 : (Cond.superclass x.cls owner).before args s = true) (hno : x.name ≠ "<init>") (hp : PreV s H C b Pc As)
    (hg : g.method = m) (hn : As.length = n) (hsize : g.locals.size = nL) (hstack : g.stack = As.reverse ++ .ref b :: rest) (hW : 2 * g.monitorRoom + (rest.map fun v => v.category).sum ≤ 8) (hdg : decode cc g.pc = .ok (.invokespecial index, 3)) (hf : cells + mc ≤ R.cells ∧ slots + ms ≤ R.slots) :
    va_Run p l e R s m args below meth c H locs cells slots mc ms g rest (Qc (Value.ref b :: As).toArray) (free) := by
  obtain ⟨⟨hrc, hrs, hfr, hlo, hws, hcw⟩, hl1, hl2, hini, hcode, how, hlen⟩ := cw
  have hK : Back l R p e below s args ⟨owner, x.name, x.desc⟩ 3 8 (PreOf R mc ms Pc) (PostOf Qc mc ms free) := back_of (bytes := bytes) (maxL := maxL) (ret := ret) hM hp.1 hrc hrs hfr hlo hws hcw (fun a' U hW => word_at hW (Or.inl (by first | rfl | simp [Cond.onTables, Cond.keeps, Cond.steady])) hini)
  obtain ⟨hx, hb, hml, ho, -⟩ := S
  obtain ⟨-, ⟨cellB, hcB, hoB, hclB⟩, hPc⟩ := hp
  obtain ⟨hfc, kB, hkB, -⟩ := hat
  cases hfc.symm.trans hclB
  obtain ⟨mk, mM, hnm, hmM, hstM, habM⟩ := Cond.instanceMethod_spec hinst
  obtain ⟨mM2, cM, hmM2, -, -, -, -, -, -, hsig⟩ := Cond.code_spec hnm hcode
  cases hmM.symm.trans hmM2
  obtain ⟨ps, dk, kp, hps, hdk, hkp, hsuper, -, -, hnid⟩ := Cond.superclass_spec ho hsup
  obtain ⟨qs, dk2, kq, hqs, hdk2, hkq, hsuper2, -, -, -⟩ := Cond.superclass_spec hps hsup2
  have hqm : qs = mk.cls := Option.some.inj (hqs.symm.trans (findClass_of_methodNamed hnm))
  have hsub : s.vm.isSubclass ps mk.cls = true := by
    rw [← hqm]
    have h0 : 0 < s.vm.classes.size := Nat.lt_of_le_of_lt (Nat.zero_le _) (Array.getElem?_eq_some_iff.mp hdk2).1
    obtain ⟨k, hk⟩ : ∃ k, s.vm.classes.size = k + 1 := ⟨s.vm.classes.size - 1, by omega⟩
    unfold Vm.isSubclass
    rw [hk]
    simp [Vm.isSubclassAux, hdk2, hsuper2]
  intro T hT X
  obtain ⟨vm₁, X₁, hstep₁⟩ := X.invokespecialUp hx (owner := owner) ho hl1 hl2 hnm hmM hstM habM hno hdk hnid hps hsuper hsub (a := b) (cell := cellB) (by rw [hT]; exact hcB)
    (fun z h => by rw [h] at hoB; cases hoB) hkB (g := g) hg (argsL := As) (rest := rest) (hn.trans (hlen _ hsig)) hstack (by rw [hb]; exact hdg)
  obtain ⟨v, ⟨U', l2, c2, s2⟩, X', ⟨g', mk2, t, L, e1, e2, hq, h1, hL, h2, h3⟩, st⟩ := hK m meth c ⟨T.setVm vm₁, locs, cells, slots⟩ { g with stack := rest } (.invokespecial index) mk (Value.ref b :: As).toArray X₁ hg (hsize.trans hml.symm) (by rw [hb]; exact hdg) hW (X₁.named hnm) ⟨hf.1, hf.2, hPc (T.setVm vm₁) hT X₁.warmed⟩
  dsimp only [Pt.U, Pt.locs, Pt.cells, Pt.slots] at X' e1 e2 h1 h2 h3 st
  subst h1; subst h2; subst h3
  exact ⟨v, (T.setVm vm₁).calling g' mk2 (Value.ref b :: As).toArray, t, U', L, hT, X', hL, e1, e2, hq, fun target h => hstep₁ _ (by rw [doInvoke_state]; exact (st).trans h)⟩
end SUPT
/-- an inherited static member: what the tables say -/
def CSI (own : String) (index : Nat) (owner : String) (x : MethodName) (bytes : ByteArray) (maxL : Nat) (ret : Option FieldType) (n : Nat) : Prop :=
  Cond.methodLink own index x ∈ wAll ∧ Cond.sameMethod x.cls owner x.name x.desc ∈ wAll ∧ Cond.initialized owner ∈ wAll ∧ Cond.code ⟨owner, x.name, x.desc⟩ bytes maxL ret ∈ wAll ∧ maxL ≤ 20 ∧
  (owner ≠ "java/lang/invoke/MethodHandle" ∧ owner ≠ "java/lang/invoke/VarHandle") ∧ (parseMethodDescriptor x.desc).map (fun d => d.parameters.length) = some n
theorem CSI.ok {K : KT} {G : GT} {cc : ByteArray} {own owner : String} {d mc ms d2 mc2 ms2 index nL2 n : Nat} {x : MethodName} {b2 : ByteArray} {ret : Option FieldType} (hC : KOK K G cc own d mc ms) (h : CSI own index owner x b2 nL2 ret n) (hdd : d2 + 1 ≤ d) : CSIok (kR K) (ks K) (kargs K) own owner index x b2 nL2 ret (.code ⟨owner, x.name, x.desc⟩ b2 nL2 ret :: wAll) (rmD d2 mc2 ms2) mc2 ms2 n := by
  obtain ⟨c1, c2, c3, c4, c5, c6, c7⟩ := h
  have hts := hC.2.2.2.2.1
  have hR := room_le hC hdd c5 (mc2 := mc2) (ms2 := ms2)
  refine ⟨⟨rfl, rfl, hR.1, hR.2, pay_in hts (goodAll c4), List.mem_cons_self⟩, hts _ c1, hts _ c2, hts _ c3, hts _ c4, c6, fun sig g => ?_⟩
  rw [g] at c7
  exact (Option.some.inj c7).symm
section SUPR
variable {K : KT} {G : GT} {cc : ByteArray} {own : String} {d mc ms cs ss pc : Nat} {w : va_W} {lv : List (Nat × Value)}
theorem w_callSI {index n d2 mc2 ms2 nL2 : Nat} {owner : String} {x y : MethodName} {b2 : ByteArray} {ret : Option FieldType} {As rest : List Value} {post : Option Value → va_W → Prop} (hC : KOK K G cc own d mc ms) (hd : decode cc pc = .ok (.invokestatic index, 3)) (ci2 : CSI own index owner x b2 nL2 ret n) (hy : y = ⟨owner, x.name, x.desc⟩) (hs : Cond.static y ∈ wAll)
    (hM : CT (kl K) y b2 nL2 ret d2 mc2 ms2 G As w post) (hdd : d2 + 1 ≤ d) (hm : cs + mc2 ≤ mc ∧ ss + ms2 ≤ ms) (hn : As.length = n) (hcat : (rest.map fun v => v.category).sum ≤ 8) {st : List Value} (hst : st = As.reverse ++ rest)
    (k : ∀ (v : Option Value) (w2 : va_W), post v w2 → WW K G (cs + mc2) (ss + ms2) w2 (pc + 3) lv (v.toList ++ rest)) : WW K G cs ss w pc lv st := by
  subst hy
  have hts := hC.2.2.2.2.1
  have hroom := hC.2.2.2.2.2.2.2.2.2.2.2
  refine w_callRun (av := As) hC (fun H locs ls hsz hP hpre => ?_) k
  exact su_run ⟨hC.1, hC.2.1, hC.2.2.1, hC.2.2.2.1, hts⟩ (hM H.size) (ci2.ok hC hdd) (hts _ hs) ⟨blindC, hpre⟩ rfl hn hsz hst (lv_room hcat) hd ⟨Nat.le_trans hm.1 hroom.1, Nat.le_trans hm.2 hroom.2⟩
theorem w_callSupI {index b n d2 mc2 ms2 nL2 q0 ci : Nat} {owner : String} {x y : MethodName} {b2 : ByteArray} {ret : Option FieldType} {As rest fs : List Value} {r : vw_C} {post : Option Value → va_W → Prop} (hC : KOK K G cc own d mc ms) (hd : decode cc pc = .ok (.invokespecial index, 3)) (ci2 : CSI own index owner x b2 nL2 ret n) (hy : y = ⟨owner, x.name, x.desc⟩) (hi : Cond.instanceMethod y ∈ wAll) (h1 : Cond.superclass own x.cls ∈ wAll) (h2 : Cond.superclass x.cls owner ∈ wAll) (hno : x.name ≠ "<init>")
    (hM : CT (kl K) y b2 nL2 ret d2 mc2 ms2 G (.ref b :: As) w post) (hdd : d2 + 1 ≤ d) (hm : cs + mc2 ≤ mc ∧ ss + ms2 ≤ ms) (he : w[q0]? = some (b, .inr (ci, fs))) (hc : vwCl[ci]? = some r) (hn : As.length = n) (hcat : (rest.map fun v => v.category).sum ≤ 8) {st : List Value} (hst : st = As.reverse ++ .ref b :: rest)
    (k : ∀ (v : Option Value) (w2 : va_W), post v w2 → WW K G (cs + mc2) (ss + ms2) w2 (pc + 3) lv (v.toList ++ rest)) : WW K G cs ss w pc lv st := by
  subst hy
  have hts := hC.2.2.2.2.1
  have hroom := hC.2.2.2.2.2.2.2.2.2.2.2
  have hcls := (hC.2.2.2.2.2.1.1 ci r hc).2
  refine w_callRun (av := .ref b :: As) hC (fun H locs ls hsz hP hpre => ?_) k
  exact sp_run hcls ⟨hC.1, hC.2.1, hC.2.2.1, hC.2.2.2.1, hts⟩ (hM H.size) (ci2.ok hC hdd) (hts _ hi) (hts _ h1) (hts _ h2) hno ⟨blindC, va_recv hC.2.2.2.2.2.1 hP hc he, hpre⟩ rfl hn hsz hst (lv_room hcat) hd ⟨Nat.le_trans hm.1 hroom.1, Nat.le_trans hm.2 hroom.2⟩
end SUPR
