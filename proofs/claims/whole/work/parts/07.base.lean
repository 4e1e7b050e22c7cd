/-! ===== numbers ===== -/
def J (z : Int) : Int32 := Int32.ofInt z
def JL (z : Int) : Int64 := Int64.ofInt z
def bI (c : Prop) [Decidable c] : Int := if c then 1 else 0
def jf (g : Int → Int) : Nat → Int32 := fun j => J (g (j : Int))
def jlf (g : Int → Int) : Nat → Int64 := fun j => JL (g (j : Int))
def gu (g : Int → Int) (e v : Int) : Int → Int := fun j => if j = e then v else g j
theorem gu_eq (g : Int → Int) (e v : Int) : gu g e v e = v := if_pos rfl
theorem gu_ne {g : Int → Int} {e v j : Int} (h : j ≠ e) : gu g e v j = g j := if_neg h
theorem bI_t {c : Prop} [Decidable c] (h : c) : bI c = 1 := if_pos h
theorem bI_f {c : Prop} [Decidable c] (h : ¬ c) : bI c = 0 := if_neg h
theorem J_toInt {z : Int} (h1 : -2147483648 ≤ z) (h2 : z < 2147483648) : (J z).toInt = z := Int32.toInt_ofInt_of_le h1 h2
theorem JL_toInt {z : Int} (h1 : -9223372036854775808 ≤ z) (h2 : z < 9223372036854775808) : (JL z).toInt = z := Int64.toInt_ofInt_of_le h1 h2
theorem J_of (x : Int32) : x = J x.toInt := (Int32.ofInt_toInt x).symm
theorem J_add (a b : Int) : J a + J b = J (a + b) := (Int32.ofInt_add a b).symm
theorem J_sub (a b : Int) : J a - J b = J (a - b) := (Int32.ofInt_sub a b).symm
theorem J_mul (a b : Int) : J a * J b = J (a * b) := (Int32.ofInt_mul a b).symm
theorem J_neg (a : Int) : -J a = J (-a) := (Int32.ofInt_neg a).symm
theorem JL_add (a b : Int) : JL a + JL b = JL (a + b) := (Int64.ofInt_add a b).symm
theorem JL_sub (a b : Int) : JL a - JL b = JL (a - b) := (Int64.ofInt_sub a b).symm
theorem JL_mul (a b : Int) : JL a * JL b = JL (a * b) := (Int64.ofInt_mul a b).symm
theorem JL_neg (a : Int) : -JL a = JL (-a) := (Int64.ofInt_neg a).symm
def In (z : Int) : Prop := -2147483648 ≤ z ∧ z < 2147483648
def InL (z : Int) : Prop := -9223372036854775808 ≤ z ∧ z < 9223372036854775808
theorem J_lt {a b : Int} (ha : In a) (hb : In b) : J a < J b ↔ a < b := by rw [Int32.lt_iff_toInt_lt, J_toInt ha.1 ha.2, J_toInt hb.1 hb.2]
theorem J_le {a b : Int} (ha : In a) (hb : In b) : J a ≤ J b ↔ a ≤ b := by rw [Int32.le_iff_toInt_le, J_toInt ha.1 ha.2, J_toInt hb.1 hb.2]
theorem J_eq {a b : Int} (ha : In a) (hb : In b) : J a = J b ↔ a = b := by rw [← Int32.toInt_inj, J_toInt ha.1 ha.2, J_toInt hb.1 hb.2]
theorem JL_lt {a b : Int} (ha : InL a) (hb : InL b) : JL a < JL b ↔ a < b := by rw [Int64.lt_iff_toInt_lt, JL_toInt ha.1 ha.2, JL_toInt hb.1 hb.2]
theorem JL_eq {a b : Int} (ha : InL a) (hb : InL b) : JL a = JL b ↔ a = b := by rw [← Int64.toInt_inj, JL_toInt ha.1 ha.2, JL_toInt hb.1 hb.2]
theorem J_0 : J 0 = 0 := rfl
theorem In0 : In 0 := ⟨by decide, by decide⟩
theorem J_clamp {z : Int} (h1 : 0 ≤ z) (h2 : z < 2147483648) : (J z).toNatClampNeg = z.toNat := Int32.toNatClampNeg_ofInt_of_le (by omega) h2
theorem J_vp {z : Int} {n : Nat} (h1 : 0 ≤ z) (h2 : z < (n : Int)) (hn : n ≤ 2000000) : vp_in (J z) n := by
  rw [vp_in_iff, J_toInt (by omega) (by omega)]
  exact ⟨h1, h2⟩
theorem jf_at (g : Int → Int) {z : Int} (h1 : 0 ≤ z) (h2 : z < 2147483648) : jf g (J z).toNatClampNeg = J (g z) := by
  unfold jf
  rw [J_clamp h1 h2, Int.toNat_of_nonneg h1]
theorem jlf_at (g : Int → Int) {z : Int} (h1 : 0 ≤ z) (h2 : z < 2147483648) : jlf g (J z).toNatClampNeg = JL (g z) := by
  unfold jlf
  rw [J_clamp h1 h2, Int.toNat_of_nonneg h1]
theorem jf_up (g : Int → Int) {z : Int} (v : Int) (h1 : 0 ≤ z) (h2 : z < 2147483648) : upd (jf g) (J z).toNatClampNeg (J v) = jf (gu g z v) := by
  funext j
  rw [J_clamp h1 h2]
  unfold upd jf gu
  by_cases h : j = z.toNat
  · rw [if_pos h, if_pos (by omega)]
  · rw [if_neg h, if_neg (by omega)]
theorem jlf_up (g : Int → Int) {z : Int} (v : Int) (h1 : 0 ≤ z) (h2 : z < 2147483648) : vp_updL (jlf g) (J z).toNatClampNeg (JL v) = jlf (gu g z v) := by
  funext j
  rw [J_clamp h1 h2]
  unfold vp_updL jlf gu
  by_cases h : j = z.toNat
  · rw [if_pos h, if_pos (by omega)]
  · rw [if_neg h, if_neg (by omega)]
theorem J_div {a b : Int} (ha : 0 ≤ a) (ha2 : a < 2147483648) (hb : 0 < b) (hb2 : b < 2147483648) : J a / J b = J (a / b) := by
  apply Int32.toInt_inj.mp
  have h1 : 0 ≤ a / b := Int.ediv_nonneg ha (by omega)
  have h2 : a / b ≤ a := Int.ediv_le_self b ha
  rw [Int32.toInt_div_of_ne_right _ _ (fun h => by have := congrArg Int32.toInt h; rw [J_toInt (by omega) hb2] at this; simp at this; omega), J_toInt (by omega) ha2, J_toInt (by omega) hb2, J_toInt (by omega) (by omega), Int.tdiv_eq_ediv_of_nonneg ha]
theorem JL_div {a b : Int} (ha : InL a) (hb : 0 < b) (hb2 : b < 9223372036854775808) : JL a / JL b = JL (a.tdiv b) := by
  have e1 : Int64.maxValue.toInt = 9223372036854775807 := by decide
  have e2 : Int64.minValue.toInt = -9223372036854775808 := by decide
  have h1 := ha.1
  have h2 := ha.2
  exact (Int64.ofInt_tdiv (by rw [e2]; exact h1) (by rw [e1]; omega) (by rw [e2]; omega) (by rw [e1]; omega)).symm
theorem JL_rem {a b : Int} (ha : 0 ≤ a) (ha2 : a < 9223372036854775808) (hb : 0 < b) (hb2 : b < 9223372036854775808) : JL a - JL a / JL b * JL b = JL (a % b) := by
  rw [JL_div ⟨by omega, ha2⟩ hb hb2, JL_mul, JL_sub, Int.tdiv_eq_ediv_of_nonneg ha]
  congr 1
  rw [Int.emod_def, Int.mul_comm]
theorem J_rem {a b : Int} (ha : 0 ≤ a) (ha2 : a < 2147483648) (hb : 0 < b) (hb2 : b < 2147483648) : J a - J a / J b * J b = J (a % b) := by
  rw [J_div ha ha2 hb hb2, J_mul, J_sub]
  congr 1
  rw [Int.emod_def, Int.mul_comm]
/-! ===== what all methods share ===== -/
abbrev GT : Type := va_G × (Nat → ClassId) × (Nat → Nat) × (Nat → Nat)
def TY (cy : Nat → ClassId) : List (ClassId × FieldType) := [(cy 0, .int), (cy 1, .long), (cy 2, .boolean), (cy 3, .byte), (cy 4, .object "LadderClub$Asker"), (cy 5, .object "LadderClub$Club"), (cy 6, .array .int)]
theorem wAll_good {w : Cond} (h : w ∈ wAll) : (w.onTables && w.keeps) = true ∨ ∃ ty, w = .arrayClass ty := good_of_word (List.mem_filter.mp h).2
theorem wAll_tbl {w : Cond} (h : w ∈ wAll) : w ∈ lw_tbl := (List.mem_filter.mp h).1
/-- classes that stand below others, and that don't -/
def nCs : List (String × String) := [("LadderClub$Best", "LadderClub$Asker"), ("LadderClub$Best", "LadderClub$Far"), ("LadderClub$Far", "LadderClub$Asker"), ("LadderClub$Near", "LadderClub$Asker"), ("LadderClub$Never", "LadderClub$Asker"), ("LadderClub$Never", "LadderClub$Told"), ("LadderClub$Safe", "LadderClub$Asker"), ("LadderClub$Safe", "LadderClub$Far"), ("LadderClub$Told", "LadderClub$Asker")]
def nNs : List (String × String) := [("LadderClub$Asker", "LadderClub$Best"), ("LadderClub$Asker", "LadderClub$Far"), ("LadderClub$Asker", "LadderClub$Near"), ("LadderClub$Asker", "LadderClub$Never"), ("LadderClub$Asker", "LadderClub$Safe"), ("LadderClub$Asker", "LadderClub$Told"), ("LadderClub$Best", "LadderClub$Near"), ("LadderClub$Best", "LadderClub$Never"), ("LadderClub$Best", "LadderClub$Safe"), ("LadderClub$Best", "LadderClub$Told"), ("LadderClub$Far", "LadderClub$Best"), ("LadderClub$Far", "LadderClub$Near"), ("LadderClub$Far", "LadderClub$Never"), ("LadderClub$Far", "LadderClub$Safe"), ("LadderClub$Far", "LadderClub$Told"), ("LadderClub$Near", "LadderClub$Best"), ("LadderClub$Near", "LadderClub$Far"), ("LadderClub$Near", "LadderClub$Never"), ("LadderClub$Near", "LadderClub$Safe"), ("LadderClub$Near", "LadderClub$Told"), ("LadderClub$Never", "LadderClub$Best"), ("LadderClub$Never", "LadderClub$Far"), ("LadderClub$Never", "LadderClub$Near"), ("LadderClub$Never", "LadderClub$Safe"), ("LadderClub$Safe", "LadderClub$Best"), ("LadderClub$Safe", "LadderClub$Near"), ("LadderClub$Safe", "LadderClub$Never"), ("LadderClub$Safe", "LadderClub$Told"), ("LadderClub$Told", "LadderClub$Best"), ("LadderClub$Told", "LadderClub$Far"), ("LadderClub$Told", "LadderClub$Near"), ("LadderClub$Told", "LadderClub$Never"), ("LadderClub$Told", "LadderClub$Safe")]
def nAs : List String := ["LadderClub$Asker", "LadderClub$Club"]
def AI (U : State) : Prop := (Cond.arrayOver (.array .int)).before #[] U = true
theorem AI.moved {u U : State} (hvm : u.vm.Alike U.vm) (h : AI u) : AI U := by
  have h2 : (Cond.arrayOver (.array .int)).before #[] (u.setVm U.vm) = true := by rw [Cond.arrayOver_setVmC hvm]; exact h
  unfold AI
  simp only [Cond.before, Cond.holds, Cond.value] at h2 ⊢
  exact h2
/-- the words of nest mates, of classes above others, of arrays of references -/
def NW (U : State) : Prop := (∀ q ∈ nFs, va_Nw (.fieldLinkNest q.1 q.2.1 q.2.2.1 q.2.2.2.1 q.2.2.2.2.1 q.2.2.2.2.2) U) ∧ (∀ q ∈ nMs, va_Nw (.methodLinkNest q.1 q.2.1 q.2.2.1 q.2.2.2) U) ∧ (∀ q ∈ nDs, va_Nw (.declares q) U) ∧ (∀ q ∈ nCs, va_Nw (.castable q.1 q.2) U) ∧ (∀ q ∈ nNs, va_Nc q.1 q.2 U) ∧ (∀ q ∈ nAs, va_AO q U) ∧ AI U
theorem NW.warm {s U : State} (hW : s.WarmedH U.vm) (h : NW s) : NW U := ⟨fun q hq => (h.1 q hq).warmF hW, fun q hq => (h.2.1 q hq).warmM hW, fun q hq => (h.2.2.1 q hq).warmD hW, fun q hq => (h.2.2.2.1 q hq).warmC hW, fun q hq => (h.2.2.2.2.1 q hq).moved hW.alike, fun q hq => (h.2.2.2.2.2.1 q hq).moved hW.alike, h.2.2.2.2.2.2.moved hW.alike⟩
theorem NW.same {s U : State} (hv : s.vm = U.vm) (h : NW s) : NW U := by
  have ha : s.vm.Alike U.vm := by rw [hv]; exact Vm.Alike.refl _
  exact ⟨fun q hq => (h.1 q hq).same rfl hv, fun q hq => (h.2.1 q hq).same rfl hv, fun q hq => (h.2.2.1 q hq).same rfl hv, fun q hq => (h.2.2.2.1 q hq).same rfl hv, fun q hq => (h.2.2.2.2.1 q hq).moved ha, fun q hq => (h.2.2.2.2.2.1 q hq).moved ha, h.2.2.2.2.2.2.moved ha⟩
/-- what stands outside all worlds: nest words, String constants -/
def EV (G : GT) (A : Nat → Prop) (U : State) (H : Heap) : Prop := NW U ∧ vk_S nST lenST bytST G.2.2.1 G.2.2.2 A U H ∧ (∀ q ∈ nRs, vk_R q.1 q.2.1 q.2.2.1 (G.2.2.1 q.2.2.2) U) ∧ va_Z "java/lang/String" "COMPACT_STRINGS" "Z" (.int 1) A U H ∧ va_Zq "jdk/internal/util/Preconditions" "SIOOBE_FORMATTER" "Ljava/util/function/BiFunction;" A U H
theorem EV.call {G : GT} {A B : Nat → Prop} {s U : State} {H : Heap} {locs : List Loc} (h : EV G A s s.heap) (hS : va_S A s.heap H locs) (hU : U.heap = H) (hW : s.WarmedH U.vm) (hB : ∀ q, B q → A q) : EV G B U U.heap := by
  refine ⟨h.1.warm hW, ?_, fun q hq => (h.2.2.1 q hq).warm hW, ?_, ?_⟩
  · rw [hU]
    exact ((h.2.1.kept (H1 := H) (fun a h1 h2 => hS.2.1 a h1 h2)).narrow hB).moved hW.alike
  · rw [hU]
    exact ((h.2.2.2.1.kept (H1 := H) (fun a h1 h2 => hS.2.1 a h1 h2)).narrow hB).moved hW.alike
  · rw [hU]
    exact ((h.2.2.2.2.kept (H1 := H) (fun a h1 h2 => hS.2.1 a h1 h2)).narrow hB).moved hW.alike
theorem EV.calling {G : GT} {A : Nat → Prop} {U V : State} (h : EV G A U U.heap) (hv : V.vm = U.vm) (hh : V.heap = U.heap) (ha : U.vm.Alike V.vm) : EV G A V V.heap := by
  refine ⟨h.1.same hv.symm, ?_, fun q hq => (h.2.2.1 q hq).same hv, ?_, ?_⟩
  · rw [hh]
    exact h.2.1.moved ha
  · rw [hh]
    exact h.2.2.2.1.moved ha
  · rw [hh]
    exact h.2.2.2.2.moved ha
/-- one method's run: what does not change while it runs -/
def KT : Type := (Program × Launch × Env × Room × State × MethodId × Array Value × List Frame × Method × Code) × ((State → Prop) × (Nat → Prop) × Nat)
abbrev kp (K : KT) : Program := K.1.1
abbrev kl (K : KT) : Launch := K.1.2.1
abbrev ke (K : KT) : Env := K.1.2.2.1
abbrev kR (K : KT) : Room := K.1.2.2.2.1
abbrev ks (K : KT) : State := K.1.2.2.2.2.1
abbrev km (K : KT) : MethodId := K.1.2.2.2.2.2.1
abbrev kargs (K : KT) : Array Value := K.1.2.2.2.2.2.2.1
abbrev kbelow (K : KT) : List Frame := K.1.2.2.2.2.2.2.2.1
abbrev kmeth (K : KT) : Method := K.1.2.2.2.2.2.2.2.2.1
abbrev kc (K : KT) : Code := K.1.2.2.2.2.2.2.2.2.2
abbrev kQ (K : KT) : State → Prop := K.2.1
abbrev kA (K : KT) : Nat → Prop := K.2.2.1
abbrev knL (K : KT) : Nat := K.2.2.2
def KOK (K : KT) (G : GT) (cc : ByteArray) (own : String) (d mc ms : Nat) : Prop :=
  (kp K).tables.exec = Jvm.exec ∧ (kc K).code = cc ∧ (kc K).maxLocals = knL K ∧ (ks K).vm.findClass own = some (km K).cls ∧ (∀ w ∈ wAll, w.before (kargs K) (ks K) = true) ∧ va_K G.1 vwCl (TY G.2.1) (ks K) ∧ (kmeth K).locks = false ∧ (∀ q, (ks K).heap.size ≤ q → kA K q) ∧ EV G (kA K) (ks K) (ks K).heap ∧
  d ≤ (kR K).frames ∧ 40 * d ≤ (kR K).locals ∧ mc ≤ (kR K).cells ∧ ms ≤ (kR K).slots
def WW (K : KT) (G : GT) (cs ss : Nat) (w : va_W) (pc : Nat) (lv : List (Nat × Value)) (st : List Value) : Prop :=
  ∀ (H : Heap) (locs : List Loc) (ls : Array Slot), va_P G.1 vwCl w H → va_D (kA K) w → va_S (kA K) (ks K).heap H locs → lv_has ls (knL K) lv → W (kp K) (kl K) (ke K) (kR K) (ks K) (km K) (kargs K) (kbelow K) (kmeth K) (kc K) H locs cs ss (kQ K) (F0 (km K) pc ls st)
def rmD (d mc ms : Nat) : Room := { frames := d, cells := mc, slots := ms, locals := 40 * d }
def cQ (G : GT) (w0 : va_W) (sz : Nat) (post : Option Value → va_W → Prop) : Array Value → State → Outcome → State → Prop := fun _ st oc t => (∃ (v : Option Value) (w : va_W), oc = .returned v ∧ post v w ∧ va_P G.1 vwCl w t.heap ∧ va_K G.1 vwCl (TY G.2.1) t ∧ va_D (va_A w0 sz) w) ∧ va_F (va_A w0 sz) st t
/-- a method's contract over a whole world -/
def CT (l : Launch) (y : MethodName) (cc : ByteArray) (nL : Nat) (ret : Option FieldType) (d mc ms : Nat) (G : GT) (av : List Value) (w0 : va_W) (post : Option Value → va_W → Prop) : Prop :=
  ∀ sz : Nat, Met l y (.code y cc nL ret :: wAll) (rmD d mc ms) (va_Pc av (fun U => U.heap.size = sz ∧ va_P G.1 vwCl w0 U.heap ∧ va_K G.1 vwCl (TY G.2.1) U ∧ va_D (fun _ => True) w0 ∧ EV G (va_A w0 sz) U U.heap)) (cQ G w0 sz post) mc ms (va_A w0 sz)
/-- what a method's end must give -/
def RT (K : KT) (G : GT) (ret : Option FieldType) (w0 : va_W) (mc ms : Nat) (post : Option Value → va_W → Prop) : Prop :=
  (kmeth K).sig.returnType = ret ∧ kA K = va_A w0 (ks K).heap.size ∧ kQ K = MQ (kbelow K) (cQ G w0 (ks K).heap.size post) (kargs K) (ks K) mc ms (kA K)
theorem CT_of {l : Launch} {y : MethodName} {cc : ByteArray} {nL : Nat} {ret : Option FieldType} {d mc ms : Nat} {G : GT} {av : List Value} {w0 : va_W} {post : Option Value → va_W → Prop} {own : String} (hy : plainName y.cls = true) (hown : y.cls = own) (hlen : (lg_sl av).length ≤ nL)
    (body : ∀ K : KT, kl K = l → knL K = nL → KOK K G cc own d mc ms → RT K G ret w0 mc ms post → (y.name = "<init>" → (kmeth K).name = "<init>") → WW K G 0 0 w0 0 (lv_args 0 av) []) : CT l y cc nL ret d mc ms G av w0 post := by
  intro sz
  subst hown
  refine Met.ofW (cc := cc) (maxL := nL) (ret := ret) hy rfl ?_
  intro p e s m args below meth c s₁ B hml hv
  obtain ⟨rfl, hsz, hP, hK, hD0, hE⟩ := hv
  subst hsz
  have hts := atoms_spec (ws := (.code y cc nL ret :: wAll)) B.pre
  have hD := hD0.self (sz := s.heap.size)
  have hl := lv_entry av (n := nL) hlen
  rw [lg_entry_eq]
  refine body ((p, l, e, rmD d mc ms, s, m, av.toArray, below, meth, c), (MQ below (cQ G w0 s.heap.size post) av.toArray s mc ms (va_A w0 s.heap.size), va_A w0 s.heap.size, nL)) rfl rfl ⟨B.exec, B.bytes, hml, findClass_of_methodNamed B.named, fun w hw => hts w (List.mem_cons_of_mem _ hw), hK, B.notSynchronized, fun q h => Or.inr h, hE, Nat.le_refl _, Nat.le_refl _, Nat.le_refl _, Nat.le_refl _⟩ ⟨B.returns, rfl, rfl⟩ (fun h => (name_of_methodNamed B.named B.method).1.trans h) s.heap [] _ hP hD va_S.rf hl
theorem va_Aw {A : Nat → Prop} {w : va_W} {H0 H : Heap} {locs : List Loc} (hD : va_D A w) (hS : va_S A H0 H locs) (hA : ∀ q, H0.size ≤ q → A q) : ∀ q, va_A w H.size q → A q := by
  intro q h
  rcases h with ⟨k, e, h⟩ | h
  · exact hD.2 k (q, e) h
  · exact hA q (Nat.le_trans hS.1 h)
