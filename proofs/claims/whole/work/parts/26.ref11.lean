
/-! ===== String constants: what the JDK's own members answer ===== -/
def stl (i : Nat) : Int := ((lenST.getD i 0 : Nat) : Int)
def stc (i : Nat) (k : Int) : Int := ((bytST.getD i []).getD k.toNat 0).toInt
theorem stl_bd : ∀ i : Nat, i < nST → 2 ≤ stl i ∧ stl i ≤ 10 := by decide +kernel
theorem stc_all : ∀ i : Nat, i < nST → ∀ j : Nat, j < lenST.getD i 0 → 0 ≤ ((bytST.getD i []).getD j 0).toInt ∧ ((bytST.getD i []).getD j 0).toInt ≤ 127 := by decide +kernel
theorem stc_bd {i : Nat} {k : Int} (hi : i < nST) (h0 : 0 ≤ k) (hk : k < stl i) : 0 ≤ stc i k ∧ stc i k ≤ 127 := stc_all i hi k.toNat (by unfold stl at hk; omega)
/-- the first place, from k on, where the constant has c -/
def sxF (i : Nat) (c : Int) : Nat → Int → Int
  | 0, _ => -1
  | f + 1, k => if stc i k = c then k else sxF i c f (k + 1)
def SX (i : Nat) (c : Int) : Int := sxF i c (stl i).toNat 0
theorem sxF_s (i : Nat) (c : Int) {k : Int} (h : k < stl i) : sxF i c (stl i - k).toNat k = if stc i k = c then k else sxF i c (stl i - (k + 1)).toNat (k + 1) := by
  obtain ⟨f, hf⟩ : ∃ f : Nat, (stl i - k).toNat = f + 1 := ⟨(stl i - k).toNat - 1, by omega⟩
  rw [hf, show (stl i - (k + 1)).toNat = f by omega]
  rfl
theorem sxF_bd (i : Nat) (c : Int) : ∀ (f : Nat) (k : Int), sxF i c f k = -1 ∨ (k ≤ sxF i c f k ∧ sxF i c f k < k + (f : Int) ∧ stc i (sxF i c f k) = c)
  | 0, k => Or.inl rfl
  | f + 1, k => by
    unfold sxF
    split
    · exact Or.inr ⟨by omega, by omega, by assumption⟩
    · rcases sxF_bd i c f (k + 1) with h | ⟨h1, h2, h3⟩
      · exact Or.inl h
      · exact Or.inr ⟨by omega, by omega, h3⟩
theorem SX_bd {i : Nat} (c : Int) (hi : i < nST) : SX i c = -1 ∨ (0 ≤ SX i c ∧ SX i c < stl i ∧ stc i (SX i c) = c) := by
  have := stl_bd i hi
  rcases sxF_bd i c (stl i).toNat 0 with h | ⟨h1, h2, h3⟩
  · exact Or.inl h
  · exact Or.inr ⟨h1, by unfold SX; omega, h3⟩
section JDK
variable {K : KT} {G : GT} {cc : ByteArray} {own : String} {d mc ms cs ss pc : Nat} {w : va_W} {lv : List (Nat × Value)} {st : List Value}
theorem w_strv (hC : KOK K G cc own d mc ms) {i index : Nat} (hi : i < nST) (hd : decode cc pc = .ok (.getfield index, 3)) (hl : Cond.fieldLink own index "java/lang/String" "value" "[B" ∈ wAll) (k : WW K G cs ss w (pc + 3) lv (.ref (G.2.2.2 i) :: st)) : WW K G cs ss w pc lv (.ref (G.2.2.1 i) :: st) := fun H locs ls hP hD hS hl2 => vk_getf hC.1 hC.2.1 (hC.2.2.2.2.2.2.2.2.1.2.1.1 i hi).2.2.1 hS hC.2.2.2.1 (hC.2.2.2.2.1 _ hl) (fun _ h => h) hd (k H locs ls hP hD hS hl2)
theorem w_strc (hC : KOK K G cc own d mc ms) {i index : Nat} (hi : i < nST) (hd : decode cc pc = .ok (.getfield index, 3)) (hl : Cond.fieldLink own index "java/lang/String" "coder" "B" ∈ wAll) (k : WW K G cs ss w (pc + 3) lv (.int (J 0) :: st)) : WW K G cs ss w pc lv (.ref (G.2.2.1 i) :: st) := fun H locs ls hP hD hS hl2 => vk_getf hC.1 hC.2.1 (hC.2.2.2.2.2.2.2.2.1.2.1.1 i hi).2.1 hS hC.2.2.2.1 (hC.2.2.2.2.1 _ hl) (fun _ h => h) hd (k H locs ls hP hD hS hl2)
theorem w_strlen (hC : KOK K G cc own d mc ms) {i : Nat} (hi : i < nST) (hd : decode cc pc = .ok (.arraylength, 1)) (k : WW K G cs ss w (pc + 1) lv (.int (J (stl i)) :: st)) : WW K G cs ss w pc lv (.ref (G.2.2.2 i) :: st) := fun H locs ls hP hD hS hl2 => va_tlen hC.1 hC.2.1 (hC.2.2.2.2.2.2.2.2.1.2.1.1 i hi).2.2.2 hS (Int32.ofInt_eq_ofNat).symm hd (k H locs ls hP hD hS hl2)
theorem w_strld (hC : KOK K G cc own d mc ms) {i : Nat} {e : Int} (hi : i < nST) (hd : decode cc pc = .ok (.baload, 1)) (hr : 0 ≤ e ∧ e < stl i) (k : WW K G cs ss w (pc + 1) lv (.int (J (stc i e)) :: st)) : WW K G cs ss w pc lv (.int (J e) :: .ref (G.2.2.2 i) :: st) := fun H locs ls hP hD hS hl2 => by
  have hb := stl_bd i hi
  refine va_tb hC.1 hC.2.1 (hC.2.2.2.2.2.2.2.2.1.2.1.1 i hi).2.2.2 hS (J_vp hr.1 (by unfold stl at hr; exact hr.2) (by unfold stl at hb; omega)) (v := .int (J (stc i e))) ?_ hd (k H locs ls hP hD hS hl2)
  rw [J_clamp hr.1 (by omega)]
  unfold stc J
  rw [Int32.ofInt_toInt]
theorem w_getsC (hC : KOK K G cc own d mc ms) {index : Nat} (hd : decode cc pc = .ok (.getstatic index, 3)) (hl : Cond.fieldLink own index "java/lang/String" "COMPACT_STRINGS" "Z" ∈ wAll) (k : WW K G cs ss w (pc + 3) lv (.int (J 1) :: st)) : WW K G cs ss w pc lv st := fun H locs ls hP hD hS hl2 => va_gets hC.1 hC.2.1 hC.2.2.2.2.2.2.2.2.1.2.2.2.1 hS hC.2.2.2.1 (hC.2.2.2.2.1 _ hl) (fun _ h => h) hd (k H locs ls hP hD hS hl2)
theorem w_getsQ (hC : KOK K G cc own d mc ms) {index : Nat} (hd : decode cc pc = .ok (.getstatic index, 3)) (hl : Cond.fieldLink own index "jdk/internal/util/Preconditions" "SIOOBE_FORMATTER" "Ljava/util/function/BiFunction;" ∈ wAll) (k : ∀ o : Option Nat, WW K G cs ss w (pc + 3) lv (va_rf o :: st)) : WW K G cs ss w pc lv st := fun H locs ls hP hD hS hl2 => by
  rcases hC.2.2.2.2.2.2.2.2.1.2.2.2.2 with h | ⟨t, h⟩
  · exact va_gets hC.1 hC.2.1 h hS hC.2.2.2.1 (hC.2.2.2.2.1 _ hl) (fun _ h => h) hd (k none H locs ls hP hD hS hl2)
  · exact va_gets hC.1 hC.2.1 h hS hC.2.2.2.1 (hC.2.2.2.2.1 _ hl) (fun _ h => h) hd (k (some t) H locs ls hP hD hS hl2)
theorem w_ldcS (hC : KOK K G cc own d mc ms) {index i : Nat} {tx : String} (hd : decode cc pc = .ok (.ldc index, 2)) (hr : (own, index, tx, i) ∈ nRs) (k : WW K G cs ss w (pc + 2) lv (.ref (G.2.2.1 i) :: st)) : WW K G cs ss w pc lv st := fun H locs ls hP hD hS hl2 => va_ldcS hC.1 hC.2.1 hC.2.2.2.1 (hC.2.2.2.2.2.2.2.2.1.2.2.1 _ hr) hd (k H locs ls hP hD hS hl2)
/-- a static call of another class -/
def CX (own : String) (index : Nat) (y : MethodName) (bytes : ByteArray) (maxL : Nat) (ret : Option FieldType) (n : Nat) : Prop :=
  Cond.methodLink own index y ∈ wAll ∧ Cond.static y ∈ wAll ∧ Cond.initialized y.cls ∈ wAll ∧ Cond.code y bytes maxL ret ∈ wAll ∧ maxL ≤ 20 ∧
  (y.cls ≠ "java/lang/invoke/MethodHandle" ∧ y.cls ≠ "java/lang/invoke/VarHandle" ∧ (parseMethodDescriptor y.desc).map (fun d => d.parameters.length) = some n)
theorem w_callX {index n d2 mc2 ms2 nL2 : Nat} {y : MethodName} {b2 : ByteArray} {ret : Option FieldType} {As rest : List Value} {post : Option Value → va_W → Prop} (hC : KOK K G cc own d mc ms) (hd : decode cc pc = .ok (.invokestatic index, 3)) (ci2 : CX own index y b2 nL2 ret n)
    (hM : CT (kl K) y b2 nL2 ret d2 mc2 ms2 G As w post) (hdd : d2 + 1 ≤ d) (hm : cs + mc2 ≤ mc ∧ ss + ms2 ≤ ms) (hn : As.length = n) (hcat : (rest.map fun v => v.category).sum ≤ 8) {st : List Value} (hst : st = As.reverse ++ rest)
    (k : ∀ (v : Option Value) (w2 : va_W), post v w2 → WW K G (cs + mc2) (ss + ms2) w2 (pc + 3) lv (v.toList ++ rest)) : WW K G cs ss w pc lv st := by
  obtain ⟨c1, c2, c4, c5, c6, c7⟩ := ci2
  have hts := hC.2.2.2.2.1
  have hroom := hC.2.2.2.2.2.2.2.2.2.2.2
  refine w_callRun (av := As) hC (fun H locs ls hsz hP hpre => ?_) k
  have hG := goodAll c5
  have cw := va_cwS (R := kR K) (s := ks K) (args := kargs K) (own := own) (index := index) (y := y) (bytes := b2) (maxL := nL2) (ret := ret) (ws := .code y b2 nL2 ret :: wAll) (rm := rmD d2 mc2 ms2) (mc := mc2) (ms := ms2) n hts (fun w hw => by
    unfold va_wsS at hw
    rcases List.mem_append.mp hw with hw | hw
    · simp only [List.mem_cons, List.not_mem_nil, or_false] at hw
      rcases hw with rfl | rfl | rfl
      · exact ⟨c1, wAll_good c1⟩
      · exact ⟨c2, wAll_good c2⟩
      · exact ⟨c4, wAll_good c4⟩
    · exact hG w hw) rfl rfl rfl c7 (room_le hC hdd c6)
  exact va_runS ⟨hC.1, hC.2.1, hC.2.2.1, hC.2.2.2.1, hts⟩ (hM H.size) cw ⟨blindC, hpre⟩ rfl hn hsz hst (lv_room hcat) hd ⟨Nat.le_trans hm.1 hroom.1, Nat.le_trans hm.2 hroom.2⟩
theorem w_callRunS {mc2 ms2 : Nat} {av rest : List Value} {post : Option Value → va_W → Prop} (hC : KOK K G cc own d mc ms) {st : List Value}
    (hrun : ∀ (H : Heap) (locs : List Loc) (ls : Array Slot), ls.size = knL K → va_P G.1 vwCl w H → va_S (kA K) (ks K).heap H locs → (∀ U : State, U.heap = H → (ks K).WarmedH U.vm → va_Pc av (fun U => U.heap.size = H.size ∧ va_P G.1 vwCl w U.heap ∧ va_K G.1 vwCl (TY G.2.1) U ∧ va_D (fun _ => True) w ∧ EV G (va_A w H.size) U U.heap) av.toArray U) →
      va_Run (kp K) (kl K) (ke K) (kR K) (ks K) (km K) (kargs K) (kbelow K) (kmeth K) (kc K) H locs cs ss mc2 ms2 (F0 (km K) pc ls st) rest (cQ G w H.size post av.toArray) (va_A w H.size))
    (k : ∀ (v : Option Value) (w2 : va_W), post v w2 → WW K G (cs + mc2) (ss + ms2) w2 (pc + 3) lv (v.toList ++ rest)) : WW K G cs ss w pc lv st := by
  intro H locs ls hP hD hS hl T hT X
  have hB := va_Aw hD hS hC.2.2.2.2.2.2.2.1
  obtain ⟨v, st₀, t, T', L, h0, X', hL, e1, e2, ⟨⟨v1, w2, hv, hp, q1, q2, q3⟩, hz, hk⟩, stp⟩ := hrun H locs ls hl.1 hP hS (fun U hU hW => ⟨rfl, by rw [hU], by rw [hU]; exact hP, va_K.moved hW.alike hC.2.2.2.2.2.1, hD.weaken (fun _ _ _ _ => trivial), EV.call hC.2.2.2.2.2.2.2.2.1 hS hU hW hB⟩) T hT X
  obtain rfl : v = v1 := by cases hv; rfl
  rw [h0] at hz hk
  obtain ⟨t2, a1, b1⟩ := k v w2 hp T'.heap (locs ++ L) ls (by rw [e1]; exact q1) (q3.weaken (fun _ q _ h => hB q.1 h))
    ⟨Nat.le_trans hS.1 (by rw [e1]; exact hz), fun q h1 h2 => by rw [e1, hk q (Nat.lt_of_lt_of_le h1 hS.1) (fun z => h2 (hB q z))]; exact hS.2.1 q h1 h2, fun q hq => by
      rcases List.mem_append.mp hq with h | h
      · exact hS.2.2 q h
      · exact hB _ (hL q h)⟩ hl T' rfl X'
  exact ⟨t2, stp t2 a1, b1⟩
/-- a call of a member of String on a constant -/
theorem w_callVT {index n d2 mc2 ms2 nL2 i : Nat} {y : MethodName} {b2 : ByteArray} {ret : Option FieldType} {As rest : List Value} {post : Option Value → va_W → Prop} (hC : KOK K G cc own d mc ms) (hd : decode cc pc = .ok (.invokevirtual index, 3)) (ci2 : CI own index "java/lang/String" y b2 nL2 ret n)
    (hM : CT (kl K) y b2 nL2 ret d2 mc2 ms2 G (.ref (G.2.2.1 i) :: As) w post) (hdd : d2 + 1 ≤ d) (hm : cs + mc2 ≤ mc ∧ ss + ms2 ≤ ms) (hi : i < nST) (hn : As.length = n) (hcat : (rest.map fun v => v.category).sum ≤ 8) {st : List Value} (hst : st = As.reverse ++ .ref (G.2.2.1 i) :: rest)
    (k : ∀ (v : Option Value) (w2 : va_W), post v w2 → WW K G (cs + mc2) (ss + ms2) w2 (pc + 3) lv (v.toList ++ rest)) : WW K G cs ss w pc lv st := by
  obtain ⟨c1, c2, c3, c4, c5, c6, c7⟩ := ci2
  have hts := hC.2.2.2.2.1
  have hroom := hC.2.2.2.2.2.2.2.2.2.2.2
  refine w_callRunS (av := .ref (G.2.2.1 i) :: As) hC (fun H locs ls hsz hP hS hpre => ?_) k
  have hG := goodAll c5
  have cw : CallW (kR K) (ks K) (kargs K) own "java/lang/String" index y b2 nL2 ret (.code y b2 nL2 ret :: wAll) (rmD d2 mc2 ms2) mc2 ms2 n := by
    refine cwV n hts (fun w hw => ?_) rfl rfl rfl c7 (room_le hC hdd c6)
    unfold wsV at hw
    rcases List.mem_append.mp hw with hw | hw
    · simp only [List.mem_cons, List.not_mem_nil, or_false] at hw
      rcases hw with rfl | rfl | rfl | rfl
      · exact ⟨c1, wAll_good c1⟩
      · exact ⟨c2, wAll_good c2⟩
      · exact ⟨c3, wAll_good c3⟩
      · exact ⟨c4, wAll_good c4⟩
    · exact hG w hw
  exact va_runV ⟨hC.1, hC.2.1, hC.2.2.1, hC.2.2.2.1, hts⟩ (hM H.size) cw ⟨blindC, vk_recv hC.2.2.2.2.2.2.2.2.1.2.1 hi hS, hpre⟩ rfl hn hsz hst (lv_room hcat) hd ⟨Nat.le_trans hm.1 hroom.1, Nat.le_trans hm.2 hroom.2⟩
end JDK
section MATH
variable {K : KT} {G : GT} {cc : ByteArray} {own : String} {d mc ms cs ss pc : Nat} {w : va_W} {lv : List (Nat × Value)} {st : List Value}
def MX (own : String) (index : Nat) (y : MethodName) (b : ByteArray) : Prop := Cond.methodLink own index y ∈ wAll ∧ Cond.static y ∈ wAll ∧ Cond.initialized "java/lang/Math" ∈ wAll ∧ Cond.code y b 2 (some .int) ∈ wAll
theorem w_mmax (hC : KOK K G cc own d mc ms) {index : Nat} {a b : Int} (hd : decode cc pc = .ok (.invokestatic index, 3)) (hl : MX own index Lib.Math.max.name Lib.Math.max.code) (hr : (-2147483648 ≤ a ∧ a < 2147483648) ∧ -2147483648 ≤ b ∧ b < 2147483648) (hdd : 1 ≤ d) (hcat : (st.map fun v => v.category).sum ≤ 8) (hcs : cs ≤ mc ∧ ss ≤ ms := by exact ⟨Nat.le_of_ble_eq_true rfl, Nat.le_of_ble_eq_true rfl⟩) (k : WW K G cs ss w (pc + 3) lv (.int (J (if b ≤ a then a else b)) :: st)) : WW K G cs ss w pc lv (.int (J b) :: .int (J a) :: st) := fun H locs ls hP hD hS hl2 => by
  have hroom := hC.2.2.2.2.2.2.2.2.2
  refine va_mmax hC.1 hC.2.1 (hC.2.2.1.trans hl2.1.symm) hC.2.2.2.1 (hC.2.2.2.2.1 _ hl.1) (hC.2.2.2.2.1 _ hl.2.1) (hC.2.2.2.2.1 _ hl.2.2.1) (hC.2.2.2.2.1 _ hl.2.2.2) (by omega) (by omega) (by omega) (by omega) hd ?_
  have e : (if J a < J b then J b else J a) = J (if b ≤ a then a else b) := by
    have := J_lt hr.1 hr.2
    by_cases c : a < b
    · rw [if_pos (this.mpr c), if_neg (by omega)]
    · rw [if_neg (fun h => c (this.mp h)), if_pos (by omega)]
  rw [e]
  exact k H locs ls hP hD hS hl2
theorem w_mmin (hC : KOK K G cc own d mc ms) {index : Nat} {a b : Int} (hd : decode cc pc = .ok (.invokestatic index, 3)) (hl : MX own index Lib.Math.min.name Lib.Math.min.code) (hr : (-2147483648 ≤ a ∧ a < 2147483648) ∧ -2147483648 ≤ b ∧ b < 2147483648) (hdd : 1 ≤ d) (hcat : (st.map fun v => v.category).sum ≤ 8) (hcs : cs ≤ mc ∧ ss ≤ ms := by exact ⟨Nat.le_of_ble_eq_true rfl, Nat.le_of_ble_eq_true rfl⟩) (k : WW K G cs ss w (pc + 3) lv (.int (J (if a ≤ b then a else b)) :: st)) : WW K G cs ss w pc lv (.int (J b) :: .int (J a) :: st) := fun H locs ls hP hD hS hl2 => by
  have hroom := hC.2.2.2.2.2.2.2.2.2
  refine va_mmin hC.1 hC.2.1 (hC.2.2.1.trans hl2.1.symm) hC.2.2.2.1 (hC.2.2.2.2.1 _ hl.1) (hC.2.2.2.2.1 _ hl.2.1) (hC.2.2.2.2.1 _ hl.2.2.1) (hC.2.2.2.2.1 _ hl.2.2.2) (by omega) (by omega) (by omega) (by omega) hd ?_
  have e : (if J b < J a then J b else J a) = J (if a ≤ b then a else b) := by
    have := J_lt hr.2 hr.1
    by_cases c : b < a
    · rw [if_pos (this.mpr c), if_neg (by omega)]
    · rw [if_neg (fun h => c (this.mp h)), if_pos (by omega)]
  rw [e]
  exact k H locs ls hP hD hS hl2
end MATH
theorem mx_J1_92 : MX RJ1 92 Lib.Math.max.name Lib.Math.max.code := ⟨tw_2_79, tw_2_80, tw_1_9, tw_2_81⟩
theorem mx_J1_38 : MX RJ1 38 Lib.Math.min.name Lib.Math.min.code := ⟨tw_2_82, tw_2_83, tw_1_9, tw_2_84⟩
theorem nar_C {x : Int} (h : 0 ≤ x ∧ x < 65536) : narrow .char (.int (J x)) = .int (J x) := by
  show Value.int ((J x).toUInt32 % 65536).toInt32 = _
  congr 1
  apply Int32.toBitVec_inj.mp
  apply BitVec.eq_of_toNat_eq
  show ((BitVec.ofInt 32 x) % (65536#32)).toNat = (BitVec.ofInt 32 x).toNat
  rw [BitVec.toNat_umod, BitVec.toNat_ofInt]
  show (x % 4294967296).toNat % 65536 = _
  omega
theorem J_i2b {x : Int} (h : 0 ≤ x ∧ x < 256) : (J x).toInt8.toInt32 = J (if x < 128 then x else x - 256) := by
  have : ∀ n : Nat, n < 256 → (J (n : Int)).toInt8.toInt32 = J (if (n : Int) < 128 then (n : Int) else (n : Int) - 256) := by decide +kernel
  have := this x.toNat (by omega)
  rw [Int.toNat_of_nonneg h.1] at this
  exact this
theorem cx_J0_637 : CX RJ0 637 yJ1_indexOf_4cfef cJ1_indexOf_4cfef 4 (some Jvm.ClassFile.FieldType.int) 4 := ⟨tw_2_73, tw_2_74, tw_1_8, tw_2_75, by decide, by decide +kernel⟩
theorem cx_J1_92 : CX RJ1 92 yJ9_max_7cf53 cJ9_max_7cf53 2 (some Jvm.ClassFile.FieldType.int) 2 := ⟨tw_2_79, tw_2_80, tw_1_9, tw_2_81, by decide, by decide +kernel⟩
theorem cx_J1_38 : CX RJ1 38 yJ9_min_7cf53 cJ9_min_7cf53 2 (some Jvm.ClassFile.FieldType.int) 2 := ⟨tw_2_82, tw_2_83, tw_1_9, tw_2_84, by decide, by decide +kernel⟩
theorem cx_J2_224 : CX RJ2 224 yJ9_max_7cf53 cJ9_max_7cf53 2 (some Jvm.ClassFile.FieldType.int) 2 := ⟨tw_2_91, tw_2_80, tw_1_9, tw_2_81, by decide, by decide +kernel⟩
theorem cx_J2_183 : CX RJ2 183 yJ9_min_7cf53 cJ9_min_7cf53 2 (some Jvm.ClassFile.FieldType.int) 2 := ⟨tw_2_92, tw_2_83, tw_1_9, tw_2_84, by decide, by decide +kernel⟩
theorem cx_J2_241 : CX RJ2 241 yJ0_checkBoundsBeginEnd_23922 cJ0_checkBoundsBeginEnd_23922 3 (none) 3 := ⟨tw_2_103, tw_2_104, tw_1_7, tw_2_105, by decide, by decide +kernel⟩
theorem cx_J0_1062 : CX RJ0 1062 yJ3_checkFromToIndex_8c36e cJ3_checkFromToIndex_8c36e 4 (some Jvm.ClassFile.FieldType.int) 4 := ⟨tw_2_108, tw_2_109, tw_1_11, tw_2_110, by decide, by decide +kernel⟩
theorem cx_J0_495 : CX RJ0 495 yJ1_charAt_3b067 cJ1_charAt_3b067 2 (some Jvm.ClassFile.FieldType.char) 2 := ⟨tw_2_147, tw_2_148, tw_1_8, tw_2_149, by decide, by decide +kernel⟩
theorem cx_J1_9 : CX RJ1 9 yJ0_checkIndex_df160 cJ0_checkIndex_df160 2 (none) 2 := ⟨tw_2_150, tw_2_151, tw_1_7, tw_2_152, by decide, by decide +kernel⟩
theorem cx_J0_1059 : CX RJ0 1059 yJ3_checkIndex_8e157 cJ3_checkIndex_8e157 3 (some Jvm.ClassFile.FieldType.int) 3 := ⟨tw_2_153, tw_2_154, tw_1_11, tw_2_155, by decide, by decide +kernel⟩
theorem cx_J2_414 : CX RJ2 414 yJ0_checkIndex_df160 cJ0_checkIndex_df160 2 (none) 2 := ⟨tw_2_162, tw_2_151, tw_1_7, tw_2_152, by decide, by decide +kernel⟩
theorem cx_X11_305 : CX RX11 305 yJ9_abs_067f4 cJ9_abs_067f4 2 (some Jvm.ClassFile.FieldType.long) 1 := ⟨tw_4_2, tw_4_3, tw_1_9, tw_4_4, by decide, by decide +kernel⟩

set_option maxRecDepth 100000 in
set_option maxHeartbeats 4000000 in
theorem c_J0_coder_7d493 (l : Launch) (G : GT) (w0 : va_W) (i : Nat)  (hi : i < nST) : CT l yJ0_coder_7d493 cJ0_coder_7d493 1 (some .byte) 0 0 0 G [.ref (G.2.2.1 i)] w0 (fun vo wo => vo = some (.int (J 0)) ∧ wo = w0) := by
  refine CT_of (own := RJ0) rfl rfl (Nat.le_of_ble_eq_true rfl) (fun K hl hnL hC hRT hin => ?_)
  subst hl
  show WW K G 0 0 w0 0 [(0, .ref (G.2.2.1 i))] []
  refine w_getsC (pc := 0) hC dJ0_coder_7d493_0 tw_2_63 ?_
  refine w_if_eq (pc := 3) (tgt := 13) hC dJ0_coder_7d493_3 (by decide) (by omega) (fun c3 => ?_) (fun c3 => ?_)
  · exact absurd c3 (by decide)
  · refine w_aload_n (pc := 6) hC dJ0_coder_7d493_6 0 rfl rfl ?_
    refine w_strc (pc := 7) (i := i) hC hi dJ0_coder_7d493_7 tw_6_236 ?_
    refine w_goto (pc := 10) hC dJ0_coder_7d493_10 (tgt := 14) (by decide) ?_
    refine w_iret (pc := 14) hC hRT dJ0_coder_7d493_14 rfl ?_
    refine ⟨retI (by first | rfl | exact (bI_t (by omega)).symm | exact (bI_f (by omega)).symm | omega), rfl⟩
set_option maxRecDepth 100000 in
set_option maxHeartbeats 4000000 in
theorem c_J0_isLatin1_aae02 (l : Launch) (G : GT) (w0 : va_W) (i : Nat)  (hi : i < nST) : CT l yJ0_isLatin1_aae02 cJ0_isLatin1_aae02 1 (some .boolean) 0 0 0 G [.ref (G.2.2.1 i)] w0 (fun vo wo => vo = some (.int (J 1)) ∧ wo = w0) := by
  refine CT_of (own := RJ0) rfl rfl (Nat.le_of_ble_eq_true rfl) (fun K hl hnL hC hRT hin => ?_)
  subst hl
  show WW K G 0 0 w0 0 [(0, .ref (G.2.2.1 i))] []
  refine w_getsC (pc := 0) hC dJ0_isLatin1_aae02_0 tw_2_63 ?_
  refine w_if_eq (pc := 3) (tgt := 17) hC dJ0_isLatin1_aae02_3 (by decide) (by omega) (fun c3 => ?_) (fun c3 => ?_)
  · exact absurd c3 (by decide)
  · refine w_aload_n (pc := 6) hC dJ0_isLatin1_aae02_6 0 rfl rfl ?_
    refine w_strc (pc := 7) (i := i) hC hi dJ0_isLatin1_aae02_7 tw_6_236 ?_
    refine w_if_ne (pc := 10) (tgt := 17) hC dJ0_isLatin1_aae02_10 (by decide) (by omega) (fun c10 => ?_) (fun c10 => ?_)
    · exact absurd c10 (by decide)
    · refine w_iconst (pc := 13) hC dJ0_isLatin1_aae02_13 ?_
      refine w_goto (pc := 14) hC dJ0_isLatin1_aae02_14 (tgt := 18) (by decide) ?_
      refine w_iret (pc := 18) hC hRT dJ0_isLatin1_aae02_18 rfl ?_
      refine ⟨retI (by first | rfl | exact (bI_t (by omega)).symm | exact (bI_f (by omega)).symm | omega), rfl⟩
set_option maxRecDepth 100000 in
set_option maxHeartbeats 4000000 in
theorem c_J0_length_8abf5 (l : Launch) (G : GT) (w0 : va_W) (i : Nat)  (hi : i < nST) : CT l yJ0_length_8abf5 cJ0_length_8abf5 1 (some .int) 1 0 0 G [.ref (G.2.2.1 i)] w0 (fun vo wo => vo = some (.int (J (stl i))) ∧ wo = w0) := by
  refine CT_of (own := RJ0) rfl rfl (Nat.le_of_ble_eq_true rfl) (fun K hl hnL hC hRT hin => ?_)
  subst hl
  show WW K G 0 0 w0 0 [(0, .ref (G.2.2.1 i))] []
  have hl9 := stl_bd i hi
  refine w_aload_n (pc := 0) hC dJ0_length_8abf5_0 0 rfl rfl ?_
  refine w_strv (pc := 1) (i := i) hC hi dJ0_length_8abf5_1 tw_6_237 ?_
  refine w_strlen (pc := 4) (i := i) hC hi dJ0_length_8abf5_4 ?_
  refine w_aload_n (pc := 5) hC dJ0_length_8abf5_5 0 rfl rfl ?_
  refine w_callVT (pc := 6) (As := []) (rest := [.int (J (stl i))]) hC dJ0_length_8abf5_6 cv_J0_335 (c_J0_coder_7d493 (kl K) G w0 i (show i < nST from by first | assumption | omega)) (by decide) ⟨Nat.le_of_ble_eq_true rfl, Nat.le_of_ble_eq_true rfl⟩ (i := i) hi rfl (Nat.le_of_ble_eq_true rfl) rfl (fun vo wo hv => ?_)
  obtain ⟨hv1, hw1⟩ := hv
  rw [hv1, hw1]
  show WW K G 0 0 w0 9 [(0, .ref (G.2.2.1 i))] [.int (J 0), .int (J (stl i))]
  refine w_ishr (pc := 9) hC dJ0_length_8abf5_9 (by omega) ?_
  refine w_top (e2 := stl i) (by exact Int.ediv_one _) ?_
  refine w_iret (pc := 10) hC hRT dJ0_length_8abf5_10 rfl ?_
  refine ⟨retI (by first | rfl | exact (bI_t (by omega)).symm | exact (bI_f (by omega)).symm | omega), rfl⟩
set_option maxRecDepth 100000 in
set_option maxHeartbeats 4000000 in
theorem c_J3_checkIndex_8e157 (l : Launch) (G : GT) (w0 : va_W)  (x : Int) (n : Int) (fmt : Option Nat) (hx : 0 ≤ x ∧ x < n) (hn : n < 2147483648) : CT l yJ3_checkIndex_8e157 cJ3_checkIndex_8e157 3 (some .int) 0 0 0 G [.int (J x), .int (J n), va_rf fmt] w0 (fun vo wo => vo = some (.int (J x)) ∧ wo = w0) := by
  refine CT_of (own := RJ3) rfl rfl (by cases fmt <;> exact Nat.le_of_ble_eq_true rfl) (fun K hl hnL hC hRT hin => ?_)
  subst hl
  show WW K G 0 0 w0 0 [(0, .int (J x)), (1, .int (J n)), (2, va_rf fmt)] []
  refine w_iload_n (pc := 0) hC dJ3_checkIndex_8e157_0 0 rfl rfl ?_
  refine w_if_lt (pc := 1) (tgt := 9) hC dJ3_checkIndex_8e157_1 (by decide) (by omega) (fun c1 => ?_) (fun c1 => ?_)
  · exfalso; omega
  · refine w_iload_n (pc := 4) hC dJ3_checkIndex_8e157_4 0 rfl rfl ?_
    refine w_iload_n (pc := 5) hC dJ3_checkIndex_8e157_5 1 rfl rfl ?_
    refine w_icmp_lt (pc := 6) (tgt := 16) hC dJ3_checkIndex_8e157_6 (by decide) (by omega) (fun c6 => ?_) (fun c6 => ?_)
    · refine w_iload_n (pc := 16) hC dJ3_checkIndex_8e157_16 0 rfl rfl ?_
      refine w_iret (pc := 17) hC hRT dJ3_checkIndex_8e157_17 rfl ?_
      refine ⟨retI (by first | rfl | exact (bI_t (by omega)).symm | exact (bI_f (by omega)).symm | omega), rfl⟩
    · exfalso; omega
set_option maxRecDepth 100000 in
set_option maxHeartbeats 4000000 in
theorem c_J0_checkIndex_df160 (l : Launch) (G : GT) (w0 : va_W)  (x : Int) (n : Int) (hx : 0 ≤ x ∧ x < n) (hn : n < 2147483648) : CT l yJ0_checkIndex_df160 cJ0_checkIndex_df160 2 none 1 0 0 G [.int (J x), .int (J n)] w0 (fun vo wo => vo = none ∧ wo = w0) := by
  refine CT_of (own := RJ0) rfl rfl (Nat.le_of_ble_eq_true rfl) (fun K hl hnL hC hRT hin => ?_)
  subst hl
  show WW K G 0 0 w0 0 [(0, .int (J x)), (1, .int (J n))] []
  refine w_iload_n (pc := 0) hC dJ0_checkIndex_df160_0 0 rfl rfl ?_
  refine w_iload_n (pc := 1) hC dJ0_checkIndex_df160_1 1 rfl rfl ?_
  refine w_getsQ (pc := 2) hC dJ0_checkIndex_df160_2 tw_2_106 (fun fmt => ?_)
  refine w_callX (pc := 5) (As := [.int (J x), .int (J n), va_rf fmt]) (rest := []) hC dJ0_checkIndex_df160_5 cx_J0_1059 (c_J3_checkIndex_8e157 (kl K) G w0 x n fmt (show 0 ≤ x ∧ x < n from by first | assumption | omega) (show n < 2147483648 from by first | assumption | omega)) (by decide) ⟨Nat.le_of_ble_eq_true rfl, Nat.le_of_ble_eq_true rfl⟩ rfl (Nat.le_of_ble_eq_true rfl) rfl (fun vo wo hv => ?_)
  obtain ⟨hv1, hw1⟩ := hv
  rw [hv1, hw1]
  show WW K G 0 0 w0 8 [(0, .int (J x)), (1, .int (J n))] [.int (J x)]
  refine w_pop (pc := 8) hC dJ0_checkIndex_df160_8 rfl ?_
  refine w_vret (pc := 9) hC hRT dJ0_checkIndex_df160_9 ?_
  refine ⟨rfl, rfl⟩
set_option maxRecDepth 100000 in
set_option maxHeartbeats 4000000 in
theorem c_J1_charAt_3b067 (l : Launch) (G : GT) (w0 : va_W) (i : Nat) (k : Int) (hi : i < nST) (hk : 0 ≤ k ∧ k < stl i) : CT l yJ1_charAt_3b067 cJ1_charAt_3b067 2 (some .char) 2 0 0 G [.ref (G.2.2.2 i), .int (J k)] w0 (fun vo wo => vo = some (.int (J (stc i k))) ∧ wo = w0) := by
  refine CT_of (own := RJ1) rfl rfl (Nat.le_of_ble_eq_true rfl) (fun K hl hnL hC hRT hin => ?_)
  subst hl
  show WW K G 0 0 w0 0 [(0, .ref (G.2.2.2 i)), (1, .int (J k))] []
  have hl9 := stl_bd i hi
  have hc9 := stc_bd hi hk.1 hk.2
  refine w_iload_n (pc := 0) hC dJ1_charAt_3b067_0 1 rfl rfl ?_
  refine w_aload_n (pc := 1) hC dJ1_charAt_3b067_1 0 rfl rfl ?_
  refine w_strlen (pc := 2) (i := i) hC hi dJ1_charAt_3b067_2 ?_
  refine w_callX (pc := 3) (As := [.int (J k), .int (J (stl i))]) (rest := []) hC dJ1_charAt_3b067_3 cx_J1_9 (c_J0_checkIndex_df160 (kl K) G w0 k (stl i) (show 0 ≤ k ∧ k < (stl i) from by first | assumption | omega) (show (stl i) < 2147483648 from by first | assumption | omega)) (by decide) ⟨Nat.le_of_ble_eq_true rfl, Nat.le_of_ble_eq_true rfl⟩ rfl (Nat.le_of_ble_eq_true rfl) rfl (fun vo wo hv => ?_)
  obtain ⟨hv1, hw1⟩ := hv
  rw [hv1, hw1]
  show WW K G 0 0 w0 6 [(0, .ref (G.2.2.2 i)), (1, .int (J k))] []
  refine w_aload_n (pc := 6) hC dJ1_charAt_3b067_6 0 rfl rfl ?_
  refine w_iload_n (pc := 7) hC dJ1_charAt_3b067_7 1 rfl rfl ?_
  refine w_strld (pc := 8) (i := i) hC hi dJ1_charAt_3b067_8 (by omega) ?_
  refine w_sipush (pc := 9) hC dJ1_charAt_3b067_9 (z := 255) rfl ?_
  refine w_iand (pc := 12) hC dJ1_charAt_3b067_12 (v := stc i k % 256) (J_andN _ 8 (by decide)) ?_
  refine w_top (e2 := stc i k) (by exact Int.emod_eq_of_lt (by omega) (by omega)) ?_
  refine w_i2c (pc := 13) hC dJ1_charAt_3b067_13 (by omega) ?_
  refine w_iret (pc := 14) hC hRT dJ1_charAt_3b067_14 (nar_C (by omega)) ?_
  refine ⟨retI (by first | rfl | exact (bI_t (by omega)).symm | exact (bI_f (by omega)).symm | omega), rfl⟩
set_option maxRecDepth 100000 in
set_option maxHeartbeats 4000000 in
theorem c_J0_charAt_5068e (l : Launch) (G : GT) (w0 : va_W) (i : Nat) (k : Int) (hi : i < nST) (hk : 0 ≤ k ∧ k < stl i) : CT l yJ0_charAt_5068e cJ0_charAt_5068e 2 (some .char) 3 0 0 G [.ref (G.2.2.1 i), .int (J k)] w0 (fun vo wo => vo = some (.int (J (stc i k))) ∧ wo = w0) := by
  refine CT_of (own := RJ0) rfl rfl (Nat.le_of_ble_eq_true rfl) (fun K hl hnL hC hRT hin => ?_)
  subst hl
  show WW K G 0 0 w0 0 [(0, .ref (G.2.2.1 i)), (1, .int (J k))] []
  have hc9 := stc_bd hi hk.1 hk.2
  refine w_aload_n (pc := 0) hC dJ0_charAt_5068e_0 0 rfl rfl ?_
  refine w_callVT (pc := 1) (As := []) (rest := []) hC dJ0_charAt_5068e_1 cv_J0_492 (c_J0_isLatin1_aae02 (kl K) G w0 i (show i < nST from by first | assumption | omega)) (by decide) ⟨Nat.le_of_ble_eq_true rfl, Nat.le_of_ble_eq_true rfl⟩ (i := i) hi rfl (Nat.le_of_ble_eq_true rfl) rfl (fun vo wo hv => ?_)
  obtain ⟨hv1, hw1⟩ := hv
  rw [hv1, hw1]
  show WW K G 0 0 w0 4 [(0, .ref (G.2.2.1 i)), (1, .int (J k))] [.int (J 1)]
  refine w_if_eq (pc := 4) (tgt := 16) hC dJ0_charAt_5068e_4 (by decide) (by omega) (fun c4 => ?_) (fun c4 => ?_)
  · exact absurd c4 (by decide)
  · refine w_aload_n (pc := 7) hC dJ0_charAt_5068e_7 0 rfl rfl ?_
    refine w_strv (pc := 8) (i := i) hC hi dJ0_charAt_5068e_8 tw_6_237 ?_
    refine w_iload_n (pc := 11) hC dJ0_charAt_5068e_11 1 rfl rfl ?_
    refine w_callX (pc := 12) (As := [.ref (G.2.2.2 i), .int (J k)]) (rest := []) hC dJ0_charAt_5068e_12 cx_J0_495 (c_J1_charAt_3b067 (kl K) G w0 i k (show i < nST from by first | assumption | omega) (show 0 ≤ k ∧ k < stl i from by first | assumption | omega)) (by decide) ⟨Nat.le_of_ble_eq_true rfl, Nat.le_of_ble_eq_true rfl⟩ rfl (Nat.le_of_ble_eq_true rfl) rfl (fun vo wo hv => ?_)
    obtain ⟨hv1, hw1⟩ := hv
    rw [hv1, hw1]
    show WW K G 0 0 w0 15 [(0, .ref (G.2.2.1 i)), (1, .int (J k))] [.int (J (stc i k))]
    refine w_iret (pc := 15) hC hRT dJ0_charAt_5068e_15 (nar_C (by omega)) ?_
    refine ⟨retI (by first | rfl | exact (bI_t (by omega)).symm | exact (bI_f (by omega)).symm | omega), rfl⟩
set_option maxRecDepth 100000 in
set_option maxHeartbeats 4000000 in
theorem c_J1_canEncode_9a6ad (l : Launch) (G : GT) (w0 : va_W)  (c : Int) (hc : 0 ≤ c ∧ c < 256) : CT l yJ1_canEncode_9a6ad cJ1_canEncode_9a6ad 1 (some .boolean) 0 0 0 G [.int (J c)] w0 (fun vo wo => vo = some (.int (J 1)) ∧ wo = w0) := by
  refine CT_of (own := RJ1) rfl rfl (Nat.le_of_ble_eq_true rfl) (fun K hl hnL hC hRT hin => ?_)
  subst hl
  show WW K G 0 0 w0 0 [(0, .int (J c))] []
  refine w_iload_n (pc := 0) hC dJ1_canEncode_9a6ad_0 0 rfl rfl ?_
  refine w_if_lt (pc := 1) (tgt := 15) hC dJ1_canEncode_9a6ad_1 (by decide) (by omega) (fun c1 => ?_) (fun c1 => ?_)
  · exfalso; omega
  · refine w_iload_n (pc := 4) hC dJ1_canEncode_9a6ad_4 0 rfl rfl ?_
    refine w_sipush (pc := 5) hC dJ1_canEncode_9a6ad_5 (z := 255) rfl ?_
    refine w_icmp_gt (pc := 8) (tgt := 15) hC dJ1_canEncode_9a6ad_8 (by decide) (by omega) (fun c8 => ?_) (fun c8 => ?_)
    · exfalso; omega
    · refine w_iconst (pc := 11) hC dJ1_canEncode_9a6ad_11 ?_
      refine w_goto (pc := 12) hC dJ1_canEncode_9a6ad_12 (tgt := 16) (by decide) ?_
      refine w_iret (pc := 16) hC hRT dJ1_canEncode_9a6ad_16 rfl ?_
      refine ⟨retI (by first | rfl | exact (bI_t (by omega)).symm | exact (bI_f (by omega)).symm | omega), rfl⟩
set_option maxRecDepth 100000 in
set_option maxHeartbeats 4000000 in
theorem c_J1_indexOfChar_4cfef (l : Launch) (G : GT) (w0 : va_W) (i : Nat) (c : Int) (x : Int) (y : Int) (hi : i < nST) (hc : 0 ≤ c ∧ c < 256) (hx : x = 0) (hy : y = stl i) : CT l yJ1_indexOfChar_4cfef cJ1_indexOfChar_4cfef 6 (some .int) 0 0 0 G [.ref (G.2.2.2 i), .int (J c), .int (J x), .int (J y)] w0 (fun vo wo => vo = some (.int (J (SX i c))) ∧ wo = w0) := by
  refine CT_of (own := RJ1) rfl rfl (Nat.le_of_ble_eq_true rfl) (fun K hl hnL hC hRT hin => ?_)
  subst hl
  show WW K G 0 0 w0 0 [(0, .ref (G.2.2.2 i)), (1, .int (J c)), (2, .int (J x)), (3, .int (J y))] []
  have hl9 := stl_bd i hi
  refine w_iload_n (pc := 0) hC dJ1_indexOfChar_4cfef_0 1 rfl rfl ?_
  refine w_i2b (pc := 1) hC dJ1_indexOfChar_4cfef_1 (v := (if c < 128 then c else c - 256)) (J_i2b (by omega)) ?_
  refine w_istore (pc := 2) hC dJ1_indexOfChar_4cfef_2 (lv2 := [(4, .int (J (if c < 128 then c else c - 256))), (0, .ref (G.2.2.2 i)), (1, .int (J c)), (2, .int (J x)), (3, .int (J y))]) (by rw [hnL]; decide) rfl ?_
  refine w_iload_n (pc := 4) hC dJ1_indexOfChar_4cfef_4 3 rfl rfl ?_
  refine w_istore (pc := 5) hC dJ1_indexOfChar_4cfef_5 (lv2 := [(5, .int (J x)), (4, .int (J (if c < 128 then c else c - 256))), (0, .ref (G.2.2.2 i)), (1, .int (J c)), (2, .int (J x)), (3, .int (J y))]) (by rw [hnL]; decide) rfl ?_
  have loop7 : ∀ (nF : Nat) (k : Int), (0 ≤ k ∧ k ≤ stl i) → (sxF i c (stl i - k).toNat k = SX i c) → (stl i - k) < (nF : Int) → WW K G 0 0 w0 7 [(0, .ref (G.2.2.2 i)), (3, .int (J y)), (4, .int (J (if c < 128 then c else c - 256))), (5, .int (J k))] [] := by
    intro nF
    induction nF with
    | zero => intro k i1 i2 hm7; exact absurd hm7 (by omega)
    | succ nF ih7 =>
      intro k i1 i2 hm7
      refine w_iload (pc := 7) hC dJ1_indexOfChar_4cfef_7 3 rfl ?_
      refine w_iload_n (pc := 9) hC dJ1_indexOfChar_4cfef_9 1 rfl rfl ?_
      refine w_icmp_ge (pc := 10) (tgt := 31) hC dJ1_indexOfChar_4cfef_10 (by decide) (by omega) (fun c10 => ?_) (fun c10 => ?_)
      · refine w_iconst (pc := 31) hC dJ1_indexOfChar_4cfef_31 ?_
        refine w_iret (pc := 32) hC hRT dJ1_indexOfChar_4cfef_32 rfl ?_
        refine ⟨retI (by rw [← i2, show (stl i - k).toNat = 0 by omega]; rfl), rfl⟩
      · have hc9 := stc_bd hi i1.1 (show k < stl i by omega)
        refine w_aload_n (pc := 13) hC dJ1_indexOfChar_4cfef_13 0 rfl rfl ?_
        refine w_iload (pc := 14) hC dJ1_indexOfChar_4cfef_14 3 rfl ?_
        refine w_strld (pc := 16) (i := i) hC hi dJ1_indexOfChar_4cfef_16 (by omega) ?_
        have hcc : -128 ≤ (if c < 128 then c else c - 256) ∧ (if c < 128 then c else c - 256) < 128 := by split <;> omega
        refine w_iload (pc := 17) hC dJ1_indexOfChar_4cfef_17 2 rfl ?_
        refine w_icmp_ne (pc := 19) (tgt := 25) hC dJ1_indexOfChar_4cfef_19 (by decide) (by omega) (fun c19 => ?_) (fun c19 => ?_)
        · refine w_iinc (pc := 25) hC dJ1_indexOfChar_4cfef_25 (lv2 := [(5, .int (J (k + 1))), (0, .ref (G.2.2.2 i)), (3, .int (J y)), (4, .int (J (if c < 128 then c else c - 256)))]) 3 rfl (by rw [hnL]; decide) rfl ?_
          refine w_goto (pc := 28) hC dJ1_indexOfChar_4cfef_28 (tgt := 7) (by decide) ?_
          refine w_sub [1, 2, 3, 0] (lv2 := [(0, .ref (G.2.2.2 i)), (3, .int (J y)), (4, .int (J (if c < 128 then c else c - 256))), (5, .int (J (k + 1)))]) rfl ?_
          refine ih7 (k + 1) ?_ ?_ ?_
          · first | assumption | omega
          · rw [← i2, sxF_s i c (show k < stl i by omega), if_neg (fun e => c19 (by rw [e]; rw [if_pos (by omega)]))]
          · omega
        · refine w_iload (pc := 22) hC dJ1_indexOfChar_4cfef_22 3 rfl ?_
          refine w_iret (pc := 24) hC hRT dJ1_indexOfChar_4cfef_24 rfl ?_
          refine ⟨retI (by rw [← i2, sxF_s i c (show k < stl i by omega), if_pos (by split at c19 <;> omega)]), rfl⟩
  refine w_sub [2, 5, 1, 0] (lv2 := [(0, .ref (G.2.2.2 i)), (3, .int (J y)), (4, .int (J (if c < 128 then c else c - 256))), (5, .int (J x))]) rfl ?_
  refine loop7 ((stl i - x) + 1 : Int).toNat x ?_ ?_ ?_
  · first | assumption | omega
  · rw [hx, Int.sub_zero]; rfl
  · omega
set_option maxRecDepth 100000 in
set_option maxHeartbeats 4000000 in
theorem c_J1_indexOf_4cfef (l : Launch) (G : GT) (w0 : va_W) (i : Nat) (c : Int) (x : Int) (y : Int) (hi : i < nST) (hc : 0 ≤ c ∧ c < 256) (hx : x = 0) (hy : y = stl i) : CT l yJ1_indexOf_4cfef cJ1_indexOf_4cfef 4 (some .int) 1 0 0 G [.ref (G.2.2.2 i), .int (J c), .int (J x), .int (J y)] w0 (fun vo wo => vo = some (.int (J (SX i c))) ∧ wo = w0) := by
  refine CT_of (own := RJ1) rfl rfl (Nat.le_of_ble_eq_true rfl) (fun K hl hnL hC hRT hin => ?_)
  subst hl
  show WW K G 0 0 w0 0 [(0, .ref (G.2.2.2 i)), (1, .int (J c)), (2, .int (J x)), (3, .int (J y))] []
  have hl9 := stl_bd i hi
  refine w_iload_n (pc := 0) hC dJ1_indexOf_4cfef_0 1 rfl rfl ?_
  refine w_callS (pc := 1) (As := [.int (J c)]) (rest := []) hC dJ1_indexOf_4cfef_1 cs_J1_88 (c_J1_canEncode_9a6ad (kl K) G w0 c (show 0 ≤ c ∧ c < 256 from by first | assumption | omega)) (by decide) ⟨Nat.le_of_ble_eq_true rfl, Nat.le_of_ble_eq_true rfl⟩ rfl (Nat.le_of_ble_eq_true rfl) rfl (fun vo wo hv => ?_)
  obtain ⟨hv1, hw1⟩ := hv
  rw [hv1, hw1]
  show WW K G 0 0 w0 4 [(0, .ref (G.2.2.2 i)), (1, .int (J c)), (2, .int (J x)), (3, .int (J y))] [.int (J 1)]
  refine w_if_ne (pc := 4) (tgt := 9) hC dJ1_indexOf_4cfef_4 (by decide) (by omega) (fun c4 => ?_) (fun c4 => ?_)
  · refine w_iload_n (pc := 9) hC dJ1_indexOf_4cfef_9 2 rfl rfl ?_
    refine w_iconst (pc := 10) hC dJ1_indexOf_4cfef_10 ?_
    refine w_mmax (pc := 11) (a := x) (b := 0) (st := []) hC dJ1_indexOf_4cfef_11 mx_J1_92 (by omega) (by omega) (Nat.le_of_ble_eq_true rfl) (k := ?_)
    refine w_top (e2 := 0) (by rw [hx]; rfl) ?_
    refine w_istore_n (pc := 14) hC dJ1_indexOf_4cfef_14 rfl (lv2 := [(2, .int (J 0)), (0, .ref (G.2.2.2 i)), (1, .int (J c)), (3, .int (J y))]) (by rw [hnL]; decide) rfl ?_
    refine w_iload_n (pc := 15) hC dJ1_indexOf_4cfef_15 3 rfl rfl ?_
    refine w_aload_n (pc := 16) hC dJ1_indexOf_4cfef_16 1 rfl rfl ?_
    refine w_strlen (pc := 17) (i := i) hC hi dJ1_indexOf_4cfef_17 ?_
    refine w_mmin (pc := 18) (a := y) (b := stl i) (st := []) hC dJ1_indexOf_4cfef_18 mx_J1_38 (by omega) (by omega) (Nat.le_of_ble_eq_true rfl) (k := ?_)
    refine w_top (e2 := stl i) (by rw [hy]; exact if_pos (Int.le_refl _)) ?_
    refine w_istore_n (pc := 21) hC dJ1_indexOf_4cfef_21 rfl (lv2 := [(3, .int (J (stl i))), (2, .int (J 0)), (0, .ref (G.2.2.2 i)), (1, .int (J c))]) (by rw [hnL]; decide) rfl ?_
    refine w_iload_n (pc := 22) hC dJ1_indexOf_4cfef_22 1 rfl rfl ?_
    refine w_iload_n (pc := 23) hC dJ1_indexOf_4cfef_23 0 rfl rfl ?_
    refine w_icmp_lt (pc := 24) (tgt := 29) hC dJ1_indexOf_4cfef_24 (by decide) (by omega) (fun c24 => ?_) (fun c24 => ?_)
    · refine w_aload_n (pc := 29) hC dJ1_indexOf_4cfef_29 2 rfl rfl ?_
      refine w_iload_n (pc := 30) hC dJ1_indexOf_4cfef_30 3 rfl rfl ?_
      refine w_iload_n (pc := 31) hC dJ1_indexOf_4cfef_31 1 rfl rfl ?_
      refine w_iload_n (pc := 32) hC dJ1_indexOf_4cfef_32 0 rfl rfl ?_
      refine w_callS (pc := 33) (As := [.ref (G.2.2.2 i), .int (J c), .int (J 0), .int (J (stl i))]) (rest := []) hC dJ1_indexOf_4cfef_33 cs_J1_95 (c_J1_indexOfChar_4cfef (kl K) G w0 i c 0 (stl i) (show i < nST from by first | assumption | omega) (show 0 ≤ c ∧ c < 256 from by first | assumption | omega) (show 0 = 0 from by first | assumption | omega) (show (stl i) = stl i from by first | assumption | omega)) (by decide) ⟨Nat.le_of_ble_eq_true rfl, Nat.le_of_ble_eq_true rfl⟩ rfl (Nat.le_of_ble_eq_true rfl) rfl (fun vo wo hv => ?_)
      obtain ⟨hv1, hw1⟩ := hv
      rw [hv1, hw1]
      show WW K G 0 0 w0 36 [(3, .int (J (stl i))), (2, .int (J 0)), (0, .ref (G.2.2.2 i)), (1, .int (J c))] [.int (J (SX i c))]
      have q33_0 := SX_bd c (by assumption : i < nST)
      refine w_iret (pc := 36) hC hRT dJ1_indexOf_4cfef_36 rfl ?_
      refine ⟨retI (by first | rfl | exact (bI_t (by omega)).symm | exact (bI_f (by omega)).symm | omega), rfl⟩
    · exfalso; omega
  · exact absurd c4 (by decide)
set_option maxRecDepth 100000 in
set_option maxHeartbeats 4000000 in
theorem c_J0_indexOf_7cf53 (l : Launch) (G : GT) (w0 : va_W) (i : Nat) (c : Int) (x : Int) (hi : i < nST) (hc : 0 ≤ c ∧ c < 256) (hx : x = 0) : CT l yJ0_indexOf_7cf53 cJ0_indexOf_7cf53 3 (some .int) 2 0 0 G [.ref (G.2.2.1 i), .int (J c), .int (J x)] w0 (fun vo wo => vo = some (.int (J (SX i c))) ∧ wo = w0) := by
  refine CT_of (own := RJ0) rfl rfl (Nat.le_of_ble_eq_true rfl) (fun K hl hnL hC hRT hin => ?_)
  subst hl
  show WW K G 0 0 w0 0 [(0, .ref (G.2.2.1 i)), (1, .int (J c)), (2, .int (J x))] []
  have hl9 := stl_bd i hi
  refine w_aload_n (pc := 0) hC dJ0_indexOf_7cf53_0 0 rfl rfl ?_
  refine w_callVT (pc := 1) (As := []) (rest := []) hC dJ0_indexOf_7cf53_1 cv_J0_492 (c_J0_isLatin1_aae02 (kl K) G w0 i (show i < nST from by first | assumption | omega)) (by decide) ⟨Nat.le_of_ble_eq_true rfl, Nat.le_of_ble_eq_true rfl⟩ (i := i) hi rfl (Nat.le_of_ble_eq_true rfl) rfl (fun vo wo hv => ?_)
  obtain ⟨hv1, hw1⟩ := hv
  rw [hv1, hw1]
  show WW K G 0 0 w0 4 [(0, .ref (G.2.2.1 i)), (1, .int (J c)), (2, .int (J x))] [.int (J 1)]
  refine w_if_eq (pc := 4) (tgt := 23) hC dJ0_indexOf_7cf53_4 (by decide) (by omega) (fun c4 => ?_) (fun c4 => ?_)
  · exact absurd c4 (by decide)
  · refine w_aload_n (pc := 7) hC dJ0_indexOf_7cf53_7 0 rfl rfl ?_
    refine w_strv (pc := 8) (i := i) hC hi dJ0_indexOf_7cf53_8 tw_6_237 ?_
    refine w_iload_n (pc := 11) hC dJ0_indexOf_7cf53_11 1 rfl rfl ?_
    refine w_iload_n (pc := 12) hC dJ0_indexOf_7cf53_12 2 rfl rfl ?_
    refine w_aload_n (pc := 13) hC dJ0_indexOf_7cf53_13 0 rfl rfl ?_
    refine w_callVT (pc := 14) (As := []) (rest := [.int (J x), .int (J c), .ref (G.2.2.2 i)]) hC dJ0_indexOf_7cf53_14 cv_J0_505 (c_J0_length_8abf5 (kl K) G w0 i (show i < nST from by first | assumption | omega)) (by decide) ⟨Nat.le_of_ble_eq_true rfl, Nat.le_of_ble_eq_true rfl⟩ (i := i) hi rfl (Nat.le_of_ble_eq_true rfl) rfl (fun vo wo hv => ?_)
    obtain ⟨hv1, hw1⟩ := hv
    rw [hv1, hw1]
    show WW K G 0 0 w0 17 [(0, .ref (G.2.2.1 i)), (1, .int (J c)), (2, .int (J x))] [.int (J (stl i)), .int (J x), .int (J c), .ref (G.2.2.2 i)]
    have q14_0 := stl_bd i (by assumption)
    refine w_callX (pc := 17) (As := [.ref (G.2.2.2 i), .int (J c), .int (J x), .int (J (stl i))]) (rest := []) hC dJ0_indexOf_7cf53_17 cx_J0_637 (c_J1_indexOf_4cfef (kl K) G w0 i c x (stl i) (show i < nST from by first | assumption | omega) (show 0 ≤ c ∧ c < 256 from by first | assumption | omega) (show x = 0 from by first | assumption | omega) (show (stl i) = stl i from by first | assumption | omega)) (by decide) ⟨Nat.le_of_ble_eq_true rfl, Nat.le_of_ble_eq_true rfl⟩ rfl (Nat.le_of_ble_eq_true rfl) rfl (fun vo wo hv => ?_)
    obtain ⟨hv1, hw1⟩ := hv
    rw [hv1, hw1]
    show WW K G 0 0 w0 20 [(0, .ref (G.2.2.1 i)), (1, .int (J c)), (2, .int (J x))] [.int (J (SX i c))]
    have q17_0 := SX_bd c (by assumption : i < nST)
    refine w_goto (pc := 20) hC dJ0_indexOf_7cf53_20 (tgt := 36) (by decide) ?_
    refine w_iret (pc := 36) hC hRT dJ0_indexOf_7cf53_36 rfl ?_
    refine ⟨retI (by first | rfl | exact (bI_t (by omega)).symm | exact (bI_f (by omega)).symm | omega), rfl⟩
set_option maxRecDepth 100000 in
set_option maxHeartbeats 4000000 in
theorem c_J0_indexOf_0f7a4 (l : Launch) (G : GT) (w0 : va_W) (i : Nat) (c : Int) (hi : i < nST) (hc : 0 ≤ c ∧ c < 256) : CT l yJ0_indexOf_0f7a4 cJ0_indexOf_0f7a4 2 (some .int) 3 0 0 G [.ref (G.2.2.1 i), .int (J c)] w0 (fun vo wo => vo = some (.int (J (SX i c))) ∧ wo = w0) := by
  refine CT_of (own := RJ0) rfl rfl (Nat.le_of_ble_eq_true rfl) (fun K hl hnL hC hRT hin => ?_)
  subst hl
  show WW K G 0 0 w0 0 [(0, .ref (G.2.2.1 i)), (1, .int (J c))] []
  refine w_aload_n (pc := 0) hC dJ0_indexOf_0f7a4_0 0 rfl rfl ?_
  refine w_iload_n (pc := 1) hC dJ0_indexOf_0f7a4_1 1 rfl rfl ?_
  refine w_iconst (pc := 2) hC dJ0_indexOf_0f7a4_2 ?_
  refine w_callVT (pc := 3) (As := [.int (J c), .int (J 0)]) (rest := []) hC dJ0_indexOf_0f7a4_3 cv_J0_633 (c_J0_indexOf_7cf53 (kl K) G w0 i c 0 (show i < nST from by first | assumption | omega) (show 0 ≤ c ∧ c < 256 from by first | assumption | omega) (show 0 = 0 from by first | assumption | omega)) (by decide) ⟨Nat.le_of_ble_eq_true rfl, Nat.le_of_ble_eq_true rfl⟩ (i := i) hi rfl (Nat.le_of_ble_eq_true rfl) rfl (fun vo wo hv => ?_)
  obtain ⟨hv1, hw1⟩ := hv
  rw [hv1, hw1]
  show WW K G 0 0 w0 6 [(0, .ref (G.2.2.1 i)), (1, .int (J c))] [.int (J (SX i c))]
  have q3_0 := SX_bd c (by assumption : i < nST)
  refine w_iret (pc := 6) hC hRT dJ0_indexOf_0f7a4_6 rfl ?_
  refine ⟨retI (by first | rfl | exact (bI_t (by omega)).symm | exact (bI_f (by omega)).symm | omega), rfl⟩
