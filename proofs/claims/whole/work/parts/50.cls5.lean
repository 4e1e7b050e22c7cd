
/-! ===== the Days' four rows change places ===== -/
theorem w_perm {K : KT} {G : GT} {cs ss pc : Nat} {w w2 : va_W} {lv : List (Nat × Value)} {st : List Value} (g : Nat → Nat) (hg : ∀ (k : Nat) (q : Nat × va_E), w2[k]? = some q → w[g k]? = some q) (hi : ∀ i j : Nat, g i = g j → i = j) (k : WW K G cs ss w2 pc lv st) : WW K G cs ss w pc lv st := fun H locs ls hP hD hS hl => k H locs ls (hP.by g hg) ⟨fun i j p q h1 h2 h3 => hi i j (hD.1 (g i) (g j) p q (hg i p h1) (hg j q h2) h3), fun k q h => hD.2 (g k) q (hg k q h)⟩ hS hl
def dsg (k : Nat) : Nat := if k = 50 then 52 else if k = 51 then 53 else if k = 52 then 50 else if k = 53 then 51 else k
theorem dsg_inj (i j : Nat) (h : dsg i = dsg j) : i = j := by
  unfold dsg at h
  repeat' split at h
  all_goals omega
theorem dsg_lt {k : Nat} (h : k < 60) : dsg k < 60 := by
  unfold dsg
  repeat' split
  all_goals omega
theorem dsg_ge {k : Nat} (h : 60 ≤ k) : dsg k = k := by
  unfold dsg
  rw [if_neg (by omega), if_neg (by omega), if_neg (by omega), if_neg (by omega)]
theorem dsw_cell {A D : Nat → Nat} {T : Nat} {cy : Nat → ClassId} {I : Nat → Int → Int} {F : Nat → Int} {Q : Nat → Nat → Option Nat} (k : Nat) (h : k < 60) : cwC A (fun z => D ((z + 2) % 4)) (D 2) (D 3) (D 0) (D 1) T cy (au (au (au (au I 50 (I 52)) 51 (I 53)) 52 (I 50)) 53 (I 51)) F Q k = cwC A D (D 2) (D 3) (D 0) (D 1) T cy I F Q (dsg k) := match k, h with
  | 0, _ => rfl
  | 1, _ => rfl
  | 2, _ => rfl
  | 3, _ => rfl
  | 4, _ => rfl
  | 5, _ => rfl
  | 6, _ => rfl
  | 7, _ => rfl
  | 8, _ => rfl
  | 9, _ => rfl
  | 10, _ => rfl
  | 11, _ => rfl
  | 12, _ => rfl
  | 13, _ => rfl
  | 14, _ => rfl
  | 15, _ => rfl
  | 16, _ => rfl
  | 17, _ => rfl
  | 18, _ => rfl
  | 19, _ => rfl
  | 20, _ => rfl
  | 21, _ => rfl
  | 22, _ => rfl
  | 23, _ => rfl
  | 24, _ => rfl
  | 25, _ => rfl
  | 26, _ => rfl
  | 27, _ => rfl
  | 28, _ => rfl
  | 29, _ => rfl
  | 30, _ => rfl
  | 31, _ => rfl
  | 32, _ => rfl
  | 33, _ => rfl
  | 34, _ => rfl
  | 35, _ => rfl
  | 36, _ => rfl
  | 37, _ => rfl
  | 38, _ => rfl
  | 39, _ => rfl
  | 40, _ => rfl
  | 41, _ => rfl
  | 42, _ => rfl
  | 43, _ => rfl
  | 44, _ => rfl
  | 45, _ => rfl
  | 46, _ => rfl
  | 47, _ => rfl
  | 48, _ => rfl
  | 49, _ => rfl
  | 50, _ => rfl
  | 51, _ => rfl
  | 52, _ => rfl
  | 53, _ => rfl
  | 54, _ => rfl
  | 55, _ => rfl
  | 56, _ => rfl
  | 57, _ => rfl
  | 58, _ => rfl
  | 59, _ => rfl
  | n + 60, h => absurd h (by omega)
theorem dsw_ok {A D : Nat → Nat} {T : Nat} {cy : Nat → ClassId} {I : Nat → Int → Int} {F : Nat → Int} {Q : Nat → Nat → Option Nat} {P : va_W} (k : Nat) (q : Nat × va_E) (h : (CW A (fun z => D ((z + 2) % 4)) T cy (au (au (au (au I 50 (I 52)) 51 (I 53)) 52 (I 50)) 53 (I 51)) F Q P)[k]? = some q) : (CWE A D (D 2) (D 3) (D 0) (D 1) T cy I F Q P)[dsg k]? = some q := by
  by_cases c : k < 60
  · have h1 := (rg_at (cwC A (fun z => D ((z + 2) % 4)) (D 2) (D 3) (D 0) (D 1) T cy (au (au (au (au I 50 (I 52)) 51 (I 53)) 52 (I 50)) 53 (I 51)) F Q) P c).symm.trans h
    rw [← h1, dsw_cell k c]
    exact rg_at _ P (dsg_lt c)
  · rw [dsg_ge (by omega)]
    obtain ⟨i, rfl⟩ : ∃ i, k = 60 + i := ⟨k - 60, by omega⟩
    have h1 := (rg_past (cwC A (fun z => D ((z + 2) % 4)) (D 2) (D 3) (D 0) (D 1) T cy (au (au (au (au I 50 (I 52)) 51 (I 53)) 52 (I 50)) 53 (I 51)) F Q) P (n := 60) (i := i)).symm.trans h
    rw [← h1]
    exact rg_past _ P

theorem ly_put {f g s : Int → Int} {r : Int} (h : gu f r (g r) = s) (i : ∀ z : Int, 0 ≤ z → z < r → f z = g z) : ∀ z : Int, 0 ≤ z → z < r + 1 → s z = g z := by
  intro z z0 z1
  rw [← h]
  unfold gu
  by_cases c : z = r
  · rw [if_pos c, c]
  · rw [if_neg c]; exact i z z0 (by omega)

set_option maxRecDepth 100000 in
set_option maxHeartbeats 4000000 in
theorem c_X4_beginDay (l : Launch) (G : GT) (A D : Nat → Nat) (T : Nat) (I : Nat → Int → Int) (F : Nat → Int) (Q : Nat → Nat → Option Nat) (P : va_W)    : CT l yX4_beginDay cX4_beginDay 3 none 0 0 0 G [.ref (A 49)] (CW A D T G.2.1 I F Q P) (fun vo wo => ∃ (D : Nat → Nat), vo = none ∧ wo = CW A D T G.2.1 (au (au (au (au I 50 (I 52)) 51 (I 53)) 52 (I 50)) 53 (I 51)) (fu (fu (fu F 30 0) 31 (F 30)) 32 ((F 32) * 100)) Q P) := by
  refine CT_of (own := RX4) rfl rfl (Nat.le_of_ble_eq_true rfl) (fun K hl hnL hC hRT hin => ?_)
  subst hl
  show WW K G 0 0 (CW A D T G.2.1 I F Q P) 0 [(0, .ref (A 49))] []
  refine w_aload_n (pc := 0) hC dX4_beginDay_0 0 rfl rfl ?_
  refine w_getf (pc := 1) (v := .ref (D 2)) hC dX4_beginDay_1 fi_X4_23 49 CW_49 rfl ?_
  refine w_astore_n (pc := 4) hC dX4_beginDay_4 rfl (lv2 := [(1, .ref (D 2)), (0, .ref (A 49))]) (by rw [hnL]; decide) rfl ?_
  refine w_aload_n (pc := 5) hC dX4_beginDay_5 1 rfl rfl ?_
  refine w_getf (pc := 6) (v := .ref (D 3)) hC dX4_beginDay_6 fi_X4_26 49 CW_49 rfl ?_
  refine w_astore_n (pc := 9) hC dX4_beginDay_9 rfl (lv2 := [(2, .ref (D 3)), (1, .ref (D 2)), (0, .ref (A 49))]) (by rw [hnL]; decide) rfl ?_
  refine w_aload_n (pc := 10) hC dX4_beginDay_10 2 rfl rfl ?_
  refine w_aload_n (pc := 11) hC dX4_beginDay_11 2 rfl rfl ?_
  refine w_getf (pc := 12) (v := .ref (D 0)) hC dX4_beginDay_12 fi_X4_11 49 CW_49 rfl ?_
  refine w_putf (pc := 15) (w2 := CWE A D (D 0) (D 1) (D 0) (D 3) T G.2.1 I F Q P) hC dX4_beginDay_15 fi_X4_23 fp_X4_4 rfl 49 CWE_49 (rfl) (rfl) (Nat.le_of_ble_eq_true rfl) CWE_set ?_
  refine w_aload_n (pc := 18) hC dX4_beginDay_18 2 rfl rfl ?_
  refine w_aload_n (pc := 19) hC dX4_beginDay_19 2 rfl rfl ?_
  refine w_getf (pc := 20) (v := .ref (D 1)) hC dX4_beginDay_20 fi_X4_15 49 CWE_49 rfl ?_
  refine w_putf (pc := 23) (w2 := CWE A D (D 0) (D 1) (D 0) (D 1) T G.2.1 I F Q P) hC dX4_beginDay_23 fi_X4_26 fp_X4_5 rfl 49 CWE_49 (rfl) (rfl) (Nat.le_of_ble_eq_true rfl) CWE_set ?_
  refine w_aload_n (pc := 26) hC dX4_beginDay_26 2 rfl rfl ?_
  refine w_aload_n (pc := 27) hC dX4_beginDay_27 2 rfl rfl ?_
  refine w_getf (pc := 28) (v := .int (J (F 30))) hC dX4_beginDay_28 fi_X4_19 49 CWE_49 rfl ?_
  refine w_putf (pc := 31) (w2 := CWE A D (D 0) (D 1) (D 0) (D 1) T G.2.1 I (fu F 31 (F 30)) Q P) hC dX4_beginDay_31 fi_X4_29 fp_X4_6 rfl 49 CWE_49 (rfl) (rfl) (Nat.le_of_ble_eq_true rfl) (CWEf_31 rfl) ?_
  refine w_aload_n (pc := 34) hC dX4_beginDay_34 2 rfl rfl ?_
  refine w_aload_n (pc := 35) hC dX4_beginDay_35 1 rfl rfl ?_
  refine w_putf (pc := 36) (w2 := CWE A D (D 2) (D 1) (D 0) (D 1) T G.2.1 I (fu F 31 (F 30)) Q P) hC dX4_beginDay_36 fi_X4_11 fp_X4_1 rfl 49 CWE_49 (rfl) (rfl) (Nat.le_of_ble_eq_true rfl) CWE_set ?_
  refine w_aload_n (pc := 39) hC dX4_beginDay_39 2 rfl rfl ?_
  refine w_aload_n (pc := 40) hC dX4_beginDay_40 0 rfl rfl ?_
  refine w_putf (pc := 41) (w2 := CWE A D (D 2) (D 3) (D 0) (D 1) T G.2.1 I (fu F 31 (F 30)) Q P) hC dX4_beginDay_41 fi_X4_15 fp_X4_2 rfl 49 CWE_49 (rfl) (rfl) (Nat.le_of_ble_eq_true rfl) CWE_set ?_
  refine w_aload_n (pc := 44) hC dX4_beginDay_44 2 rfl rfl ?_
  refine w_iconst (pc := 45) hC dX4_beginDay_45 ?_
  refine w_putf (pc := 46) (w2 := CWE A D (D 2) (D 3) (D 0) (D 1) T G.2.1 I (fu (fu F 30 0) 31 (F 30)) Q P) hC dX4_beginDay_46 fi_X4_19 fp_X4_3 rfl 49 CWE_49 (rfl) (rfl) (Nat.le_of_ble_eq_true rfl) (CWEf_30 (fu_cm (by decide) rfl)) ?_
  refine w_aload_n (pc := 49) hC dX4_beginDay_49 2 rfl rfl ?_
  refine w_dup (pc := 50) hC dX4_beginDay_50 rfl ?_
  refine w_getf (pc := 51) (v := .long (JL (F 32))) hC dX4_beginDay_51 fi_X4_32 49 CWE_49 rfl ?_
  refine w_ldc2 (pc := 54) hC dX4_beginDay_54 (z := 100) tw_3_212 (by decide) ?_
  refine w_lmul (pc := 57) hC dX4_beginDay_57 ?_
  refine w_putf (pc := 58) (w2 := CWE A D (D 2) (D 3) (D 0) (D 1) T G.2.1 I (fu (fu (fu F 30 0) 31 (F 30)) 32 ((F 32) * 100)) Q P) hC dX4_beginDay_58 fi_X4_32 fp_X4_7 rfl 49 CWE_49 (rfl) (rfl) (Nat.le_of_ble_eq_true rfl) (CWEf_32 rfl) ?_
  refine w_perm dsg dsw_ok dsg_inj ?_
  show WW K G 0 0 (CW A (fun z => D ((z + 2) % 4)) T G.2.1 (au (au (au (au I 50 (I 52)) 51 (I 53)) 52 (I 50)) 53 (I 51)) (fu (fu (fu F 30 0) 31 (F 30)) 32 ((F 32) * 100)) Q P) 61 [(2, .ref (D 3)), (1, .ref (D 2)), (0, .ref (A 49))] []
  refine w_vret (pc := 61) hC hRT dX4_beginDay_61 ?_
  refine ⟨(fun z => D ((z + 2) % 4)), rfl, rfl⟩
set_option maxRecDepth 100000 in
set_option maxHeartbeats 4000000 in
theorem c_X4_numberOf_v2 (l : Launch) (G : GT) (A D : Nat → Nat) (T : Nat) (I : Nat → Int → Int) (F : Nat → Int) (Q : Nat → Nat → Option Nat) (P : va_W) (S : Int → Int) (b : Int)  (hR : RI S) (hL : LRn G.2.1 S I F Q P) (hB : ∀ r : Int, 0 ≤ r → r < S 0 → (I 2) r = dg b r) : CT l yX4_numberOf cX4_numberOf 4 (some .int) 0 0 0 G [.ref (A 49), .ref (A 2)] (CW A D T G.2.1 I F Q P) (fun vo wo => vo = some (.int (J (cv (S 0) b))) ∧ wo = CW A D T G.2.1 I F Q P) := by
  refine CT_of (own := RX4) rfl rfl (Nat.le_of_ble_eq_true rfl) (fun K hl hnL hC hRT hin => ?_)
  subst hl
  show WW K G 0 0 (CW A D T G.2.1 I F Q P) 0 [(0, .ref (A 49)), (1, .ref (A 2))] []
  have hn := hR.n
  refine w_iconst (pc := 0) hC dX4_numberOf_0 ?_
  refine w_istore_n (pc := 1) hC dX4_numberOf_1 rfl (lv2 := [(2, .int (J 0)), (0, .ref (A 49)), (1, .ref (A 2))]) (by rw [hnL]; decide) rfl ?_
  refine w_iconst (pc := 2) hC dX4_numberOf_2 ?_
  refine w_istore_n (pc := 3) hC dX4_numberOf_3 rfl (lv2 := [(3, .int (J 0)), (2, .int (J 0)), (0, .ref (A 49)), (1, .ref (A 2))]) (by rw [hnL]; decide) rfl ?_
  have loop4 : ∀ (nF : Nat) (x : Int) (r : Int), (0 ≤ r) → (r ≤ S 0) → (x = NBR (dg b) r.toNat) → (0 ≤ x) → (S 0 - r) < (nF : Int) → WW K G 0 0 (CW A D T G.2.1 I F Q P) 4 [(0, .ref (A 49)), (1, .ref (A 2)), (2, .int (J x)), (3, .int (J r))] [] := by
    intro nF
    induction nF with
    | zero => intro x r i1 i2 i3 i4 hm4; exact absurd hm4 (by omega)
    | succ nF ih4 =>
      intro x r i1 i2 i3 i4 hm4
      refine w_iload_n (pc := 4) hC dX4_numberOf_4 3 rfl rfl ?_
      refine w_aload_n (pc := 5) hC dX4_numberOf_5 0 rfl rfl ?_
      refine w_getf (pc := 6) (v := .ref (A 1)) hC dX4_numberOf_6 fi_X4_39 49 CW_49 rfl ?_
      refine w_getfN (pc := 9) (v := .int (J (S 0))) hC dX4_numberOf_9 fn_X4_54 1 CW_1 (congrArg (fun z : Int => some (Value.int (J z))) (l_n hL)) ?_
      refine w_icmp_ge (pc := 12) (tgt := 29) hC dX4_numberOf_12 (by decide) (by omega) (fun c12 => ?_) (fun c12 => ?_)
      · refine w_iload_n (pc := 29) hC dX4_numberOf_29 2 rfl rfl ?_
        refine w_iret (pc := 30) hC hRT dX4_numberOf_30 rfl ?_
        refine ⟨retI (by rw [i3, show r = S 0 by omega]; rfl), rfl⟩
      · refine w_iload_n (pc := 15) hC dX4_numberOf_15 2 rfl rfl ?_
        refine w_iconst (pc := 16) hC dX4_numberOf_16 ?_
        refine w_ishl (pc := 17) hC dX4_numberOf_17 (by omega) ?_
        refine w_top (e2 := x * 8) (by simp) ?_
        refine w_aload_n (pc := 18) hC dX4_numberOf_18 1 rfl rfl ?_
        refine w_iload_n (pc := 19) hC dX4_numberOf_19 3 rfl rfl ?_
        refine w_ialdV (pc := 20) (g := (I 2)) (v := dg b r) hC dX4_numberOf_20 2 CW_2 (by omega) (Nat.le_of_ble_eq_true rfl) (hB _ (by omega) (by omega)) ?_
        refine w_ior (pc := 21) hC dX4_numberOf_21 (v := ior (x * 8) (dg b r)) (J_or (by have := dg7 b r; omega)) ?_
        refine w_istore_n (pc := 22) hC dX4_numberOf_22 rfl (lv2 := [(2, .int (J (ior (x * 8) (dg b r)))), (0, .ref (A 49)), (1, .ref (A 2)), (3, .int (J r))]) (by rw [hnL]; decide) rfl ?_
        refine w_iinc (pc := 23) hC dX4_numberOf_23 (lv2 := [(3, .int (J (r + 1))), (2, .int (J (ior (x * 8) (dg b r)))), (0, .ref (A 49)), (1, .ref (A 2))]) 3 rfl (by rw [hnL]; decide) rfl ?_
        refine w_goto (pc := 26) hC dX4_numberOf_26 (tgt := 4) (by decide) ?_
        refine w_sub [2, 3, 1, 0] (lv2 := [(0, .ref (A 49)), (1, .ref (A 2)), (2, .int (J (ior (x * 8) (dg b r)))), (3, .int (J (r + 1)))]) rfl ?_
        refine ih4 (ior (x * 8) (dg b r)) (r + 1) ?_ ?_ ?_ ?_ ?_
        · first | assumption | omega
        · first | assumption | omega
        · rw [NBR_s _ i1, nb_or (by omega) (dg7 b r), i3]
        · rw [nb_or (by omega) (dg7 b r)]; have := dg7 b r; omega
        · omega
  refine w_sub [2, 3, 1, 0] (lv2 := [(0, .ref (A 49)), (1, .ref (A 2)), (2, .int (J 0)), (3, .int (J 0))]) rfl ?_
  refine loop4 ((S 0 - 0) + 1 : Int).toNat 0 0 ?_ ?_ ?_ ?_ ?_
  · first | assumption | omega
  · first | assumption | omega
  · rfl
  · decide
  · omega
set_option maxRecDepth 100000 in
set_option maxHeartbeats 4000000 in
theorem c_X4_numberOf_v54 (l : Launch) (G : GT) (A D : Nat → Nat) (T : Nat) (I : Nat → Int → Int) (F : Nat → Int) (Q : Nat → Nat → Option Nat) (P : va_W) (S : Int → Int) (b : Int)  (hR : RI S) (hL : LRn G.2.1 S I F Q P) (hB : ∀ r : Int, 0 ≤ r → r < S 0 → (I 54) r = dg b r) : CT l yX4_numberOf cX4_numberOf 4 (some .int) 0 0 0 G [.ref (A 49), .ref (A 54)] (CW A D T G.2.1 I F Q P) (fun vo wo => vo = some (.int (J (cv (S 0) b))) ∧ wo = CW A D T G.2.1 I F Q P) := by
  refine CT_of (own := RX4) rfl rfl (Nat.le_of_ble_eq_true rfl) (fun K hl hnL hC hRT hin => ?_)
  subst hl
  show WW K G 0 0 (CW A D T G.2.1 I F Q P) 0 [(0, .ref (A 49)), (1, .ref (A 54))] []
  have hn := hR.n
  refine w_iconst (pc := 0) hC dX4_numberOf_0 ?_
  refine w_istore_n (pc := 1) hC dX4_numberOf_1 rfl (lv2 := [(2, .int (J 0)), (0, .ref (A 49)), (1, .ref (A 54))]) (by rw [hnL]; decide) rfl ?_
  refine w_iconst (pc := 2) hC dX4_numberOf_2 ?_
  refine w_istore_n (pc := 3) hC dX4_numberOf_3 rfl (lv2 := [(3, .int (J 0)), (2, .int (J 0)), (0, .ref (A 49)), (1, .ref (A 54))]) (by rw [hnL]; decide) rfl ?_
  have loop4 : ∀ (nF : Nat) (x : Int) (r : Int), (0 ≤ r) → (r ≤ S 0) → (x = NBR (dg b) r.toNat) → (0 ≤ x) → (S 0 - r) < (nF : Int) → WW K G 0 0 (CW A D T G.2.1 I F Q P) 4 [(0, .ref (A 49)), (1, .ref (A 54)), (2, .int (J x)), (3, .int (J r))] [] := by
    intro nF
    induction nF with
    | zero => intro x r i1 i2 i3 i4 hm4; exact absurd hm4 (by omega)
    | succ nF ih4 =>
      intro x r i1 i2 i3 i4 hm4
      refine w_iload_n (pc := 4) hC dX4_numberOf_4 3 rfl rfl ?_
      refine w_aload_n (pc := 5) hC dX4_numberOf_5 0 rfl rfl ?_
      refine w_getf (pc := 6) (v := .ref (A 1)) hC dX4_numberOf_6 fi_X4_39 49 CW_49 rfl ?_
      refine w_getfN (pc := 9) (v := .int (J (S 0))) hC dX4_numberOf_9 fn_X4_54 1 CW_1 (congrArg (fun z : Int => some (Value.int (J z))) (l_n hL)) ?_
      refine w_icmp_ge (pc := 12) (tgt := 29) hC dX4_numberOf_12 (by decide) (by omega) (fun c12 => ?_) (fun c12 => ?_)
      · refine w_iload_n (pc := 29) hC dX4_numberOf_29 2 rfl rfl ?_
        refine w_iret (pc := 30) hC hRT dX4_numberOf_30 rfl ?_
        refine ⟨retI (by rw [i3, show r = S 0 by omega]; rfl), rfl⟩
      · refine w_iload_n (pc := 15) hC dX4_numberOf_15 2 rfl rfl ?_
        refine w_iconst (pc := 16) hC dX4_numberOf_16 ?_
        refine w_ishl (pc := 17) hC dX4_numberOf_17 (by omega) ?_
        refine w_top (e2 := x * 8) (by simp) ?_
        refine w_aload_n (pc := 18) hC dX4_numberOf_18 1 rfl rfl ?_
        refine w_iload_n (pc := 19) hC dX4_numberOf_19 3 rfl rfl ?_
        refine w_ialdV (pc := 20) (g := (I 54)) (v := dg b r) hC dX4_numberOf_20 54 CW_54 (by omega) (Nat.le_of_ble_eq_true rfl) (hB _ (by omega) (by omega)) ?_
        refine w_ior (pc := 21) hC dX4_numberOf_21 (v := ior (x * 8) (dg b r)) (J_or (by have := dg7 b r; omega)) ?_
        refine w_istore_n (pc := 22) hC dX4_numberOf_22 rfl (lv2 := [(2, .int (J (ior (x * 8) (dg b r)))), (0, .ref (A 49)), (1, .ref (A 54)), (3, .int (J r))]) (by rw [hnL]; decide) rfl ?_
        refine w_iinc (pc := 23) hC dX4_numberOf_23 (lv2 := [(3, .int (J (r + 1))), (2, .int (J (ior (x * 8) (dg b r)))), (0, .ref (A 49)), (1, .ref (A 54))]) 3 rfl (by rw [hnL]; decide) rfl ?_
        refine w_goto (pc := 26) hC dX4_numberOf_26 (tgt := 4) (by decide) ?_
        refine w_sub [2, 3, 1, 0] (lv2 := [(0, .ref (A 49)), (1, .ref (A 54)), (2, .int (J (ior (x * 8) (dg b r)))), (3, .int (J (r + 1)))]) rfl ?_
        refine ih4 (ior (x * 8) (dg b r)) (r + 1) ?_ ?_ ?_ ?_ ?_
        · first | assumption | omega
        · first | assumption | omega
        · rw [NBR_s _ i1, nb_or (by omega) (dg7 b r), i3]
        · rw [nb_or (by omega) (dg7 b r)]; have := dg7 b r; omega
        · omega
  refine w_sub [2, 3, 1, 0] (lv2 := [(0, .ref (A 49)), (1, .ref (A 54)), (2, .int (J 0)), (3, .int (J 0))]) rfl ?_
  refine loop4 ((S 0 - 0) + 1 : Int).toNat 0 0 ?_ ?_ ?_ ?_ ?_
  · first | assumption | omega
  · first | assumption | omega
  · rfl
  · decide
  · omega
set_option maxRecDepth 100000 in
set_option maxHeartbeats 4000000 in
theorem c_X4_numberOf_v56 (l : Launch) (G : GT) (A D : Nat → Nat) (T : Nat) (I : Nat → Int → Int) (F : Nat → Int) (Q : Nat → Nat → Option Nat) (P : va_W) (S : Int → Int) (b : Int)  (hR : RI S) (hL : LRn G.2.1 S I F Q P) (hB : ∀ r : Int, 0 ≤ r → r < S 0 → (I 56) r = dg b r) : CT l yX4_numberOf cX4_numberOf 4 (some .int) 0 0 0 G [.ref (A 49), .ref (A 56)] (CW A D T G.2.1 I F Q P) (fun vo wo => vo = some (.int (J (cv (S 0) b))) ∧ wo = CW A D T G.2.1 I F Q P) := by
  refine CT_of (own := RX4) rfl rfl (Nat.le_of_ble_eq_true rfl) (fun K hl hnL hC hRT hin => ?_)
  subst hl
  show WW K G 0 0 (CW A D T G.2.1 I F Q P) 0 [(0, .ref (A 49)), (1, .ref (A 56))] []
  have hn := hR.n
  refine w_iconst (pc := 0) hC dX4_numberOf_0 ?_
  refine w_istore_n (pc := 1) hC dX4_numberOf_1 rfl (lv2 := [(2, .int (J 0)), (0, .ref (A 49)), (1, .ref (A 56))]) (by rw [hnL]; decide) rfl ?_
  refine w_iconst (pc := 2) hC dX4_numberOf_2 ?_
  refine w_istore_n (pc := 3) hC dX4_numberOf_3 rfl (lv2 := [(3, .int (J 0)), (2, .int (J 0)), (0, .ref (A 49)), (1, .ref (A 56))]) (by rw [hnL]; decide) rfl ?_
  have loop4 : ∀ (nF : Nat) (x : Int) (r : Int), (0 ≤ r) → (r ≤ S 0) → (x = NBR (dg b) r.toNat) → (0 ≤ x) → (S 0 - r) < (nF : Int) → WW K G 0 0 (CW A D T G.2.1 I F Q P) 4 [(0, .ref (A 49)), (1, .ref (A 56)), (2, .int (J x)), (3, .int (J r))] [] := by
    intro nF
    induction nF with
    | zero => intro x r i1 i2 i3 i4 hm4; exact absurd hm4 (by omega)
    | succ nF ih4 =>
      intro x r i1 i2 i3 i4 hm4
      refine w_iload_n (pc := 4) hC dX4_numberOf_4 3 rfl rfl ?_
      refine w_aload_n (pc := 5) hC dX4_numberOf_5 0 rfl rfl ?_
      refine w_getf (pc := 6) (v := .ref (A 1)) hC dX4_numberOf_6 fi_X4_39 49 CW_49 rfl ?_
      refine w_getfN (pc := 9) (v := .int (J (S 0))) hC dX4_numberOf_9 fn_X4_54 1 CW_1 (congrArg (fun z : Int => some (Value.int (J z))) (l_n hL)) ?_
      refine w_icmp_ge (pc := 12) (tgt := 29) hC dX4_numberOf_12 (by decide) (by omega) (fun c12 => ?_) (fun c12 => ?_)
      · refine w_iload_n (pc := 29) hC dX4_numberOf_29 2 rfl rfl ?_
        refine w_iret (pc := 30) hC hRT dX4_numberOf_30 rfl ?_
        refine ⟨retI (by rw [i3, show r = S 0 by omega]; rfl), rfl⟩
      · refine w_iload_n (pc := 15) hC dX4_numberOf_15 2 rfl rfl ?_
        refine w_iconst (pc := 16) hC dX4_numberOf_16 ?_
        refine w_ishl (pc := 17) hC dX4_numberOf_17 (by omega) ?_
        refine w_top (e2 := x * 8) (by simp) ?_
        refine w_aload_n (pc := 18) hC dX4_numberOf_18 1 rfl rfl ?_
        refine w_iload_n (pc := 19) hC dX4_numberOf_19 3 rfl rfl ?_
        refine w_ialdV (pc := 20) (g := (I 56)) (v := dg b r) hC dX4_numberOf_20 56 CW_56 (by omega) (Nat.le_of_ble_eq_true rfl) (hB _ (by omega) (by omega)) ?_
        refine w_ior (pc := 21) hC dX4_numberOf_21 (v := ior (x * 8) (dg b r)) (J_or (by have := dg7 b r; omega)) ?_
        refine w_istore_n (pc := 22) hC dX4_numberOf_22 rfl (lv2 := [(2, .int (J (ior (x * 8) (dg b r)))), (0, .ref (A 49)), (1, .ref (A 56)), (3, .int (J r))]) (by rw [hnL]; decide) rfl ?_
        refine w_iinc (pc := 23) hC dX4_numberOf_23 (lv2 := [(3, .int (J (r + 1))), (2, .int (J (ior (x * 8) (dg b r)))), (0, .ref (A 49)), (1, .ref (A 56))]) 3 rfl (by rw [hnL]; decide) rfl ?_
        refine w_goto (pc := 26) hC dX4_numberOf_26 (tgt := 4) (by decide) ?_
        refine w_sub [2, 3, 1, 0] (lv2 := [(0, .ref (A 49)), (1, .ref (A 56)), (2, .int (J (ior (x * 8) (dg b r)))), (3, .int (J (r + 1)))]) rfl ?_
        refine ih4 (ior (x * 8) (dg b r)) (r + 1) ?_ ?_ ?_ ?_ ?_
        · first | assumption | omega
        · first | assumption | omega
        · rw [NBR_s _ i1, nb_or (by omega) (dg7 b r), i3]
        · rw [nb_or (by omega) (dg7 b r)]; have := dg7 b r; omega
        · omega
  refine w_sub [2, 3, 1, 0] (lv2 := [(0, .ref (A 49)), (1, .ref (A 56)), (2, .int (J 0)), (3, .int (J 0))]) rfl ?_
  refine loop4 ((S 0 - 0) + 1 : Int).toNat 0 0 ?_ ?_ ?_ ?_ ?_
  · first | assumption | omega
  · first | assumption | omega
  · rfl
  · decide
  · omega
set_option maxRecDepth 100000 in
set_option maxHeartbeats 4000000 in
theorem c_X4_numberOf_v58 (l : Launch) (G : GT) (A D : Nat → Nat) (T : Nat) (I : Nat → Int → Int) (F : Nat → Int) (Q : Nat → Nat → Option Nat) (P : va_W) (S : Int → Int) (b : Int)  (hR : RI S) (hL : LRn G.2.1 S I F Q P) (hB : ∀ r : Int, 0 ≤ r → r < S 0 → (I 58) r = dg b r) : CT l yX4_numberOf cX4_numberOf 4 (some .int) 0 0 0 G [.ref (A 49), .ref (A 58)] (CW A D T G.2.1 I F Q P) (fun vo wo => vo = some (.int (J (cv (S 0) b))) ∧ wo = CW A D T G.2.1 I F Q P) := by
  refine CT_of (own := RX4) rfl rfl (Nat.le_of_ble_eq_true rfl) (fun K hl hnL hC hRT hin => ?_)
  subst hl
  show WW K G 0 0 (CW A D T G.2.1 I F Q P) 0 [(0, .ref (A 49)), (1, .ref (A 58))] []
  have hn := hR.n
  refine w_iconst (pc := 0) hC dX4_numberOf_0 ?_
  refine w_istore_n (pc := 1) hC dX4_numberOf_1 rfl (lv2 := [(2, .int (J 0)), (0, .ref (A 49)), (1, .ref (A 58))]) (by rw [hnL]; decide) rfl ?_
  refine w_iconst (pc := 2) hC dX4_numberOf_2 ?_
  refine w_istore_n (pc := 3) hC dX4_numberOf_3 rfl (lv2 := [(3, .int (J 0)), (2, .int (J 0)), (0, .ref (A 49)), (1, .ref (A 58))]) (by rw [hnL]; decide) rfl ?_
  have loop4 : ∀ (nF : Nat) (x : Int) (r : Int), (0 ≤ r) → (r ≤ S 0) → (x = NBR (dg b) r.toNat) → (0 ≤ x) → (S 0 - r) < (nF : Int) → WW K G 0 0 (CW A D T G.2.1 I F Q P) 4 [(0, .ref (A 49)), (1, .ref (A 58)), (2, .int (J x)), (3, .int (J r))] [] := by
    intro nF
    induction nF with
    | zero => intro x r i1 i2 i3 i4 hm4; exact absurd hm4 (by omega)
    | succ nF ih4 =>
      intro x r i1 i2 i3 i4 hm4
      refine w_iload_n (pc := 4) hC dX4_numberOf_4 3 rfl rfl ?_
      refine w_aload_n (pc := 5) hC dX4_numberOf_5 0 rfl rfl ?_
      refine w_getf (pc := 6) (v := .ref (A 1)) hC dX4_numberOf_6 fi_X4_39 49 CW_49 rfl ?_
      refine w_getfN (pc := 9) (v := .int (J (S 0))) hC dX4_numberOf_9 fn_X4_54 1 CW_1 (congrArg (fun z : Int => some (Value.int (J z))) (l_n hL)) ?_
      refine w_icmp_ge (pc := 12) (tgt := 29) hC dX4_numberOf_12 (by decide) (by omega) (fun c12 => ?_) (fun c12 => ?_)
      · refine w_iload_n (pc := 29) hC dX4_numberOf_29 2 rfl rfl ?_
        refine w_iret (pc := 30) hC hRT dX4_numberOf_30 rfl ?_
        refine ⟨retI (by rw [i3, show r = S 0 by omega]; rfl), rfl⟩
      · refine w_iload_n (pc := 15) hC dX4_numberOf_15 2 rfl rfl ?_
        refine w_iconst (pc := 16) hC dX4_numberOf_16 ?_
        refine w_ishl (pc := 17) hC dX4_numberOf_17 (by omega) ?_
        refine w_top (e2 := x * 8) (by simp) ?_
        refine w_aload_n (pc := 18) hC dX4_numberOf_18 1 rfl rfl ?_
        refine w_iload_n (pc := 19) hC dX4_numberOf_19 3 rfl rfl ?_
        refine w_ialdV (pc := 20) (g := (I 58)) (v := dg b r) hC dX4_numberOf_20 58 CW_58 (by omega) (Nat.le_of_ble_eq_true rfl) (hB _ (by omega) (by omega)) ?_
        refine w_ior (pc := 21) hC dX4_numberOf_21 (v := ior (x * 8) (dg b r)) (J_or (by have := dg7 b r; omega)) ?_
        refine w_istore_n (pc := 22) hC dX4_numberOf_22 rfl (lv2 := [(2, .int (J (ior (x * 8) (dg b r)))), (0, .ref (A 49)), (1, .ref (A 58)), (3, .int (J r))]) (by rw [hnL]; decide) rfl ?_
        refine w_iinc (pc := 23) hC dX4_numberOf_23 (lv2 := [(3, .int (J (r + 1))), (2, .int (J (ior (x * 8) (dg b r)))), (0, .ref (A 49)), (1, .ref (A 58))]) 3 rfl (by rw [hnL]; decide) rfl ?_
        refine w_goto (pc := 26) hC dX4_numberOf_26 (tgt := 4) (by decide) ?_
        refine w_sub [2, 3, 1, 0] (lv2 := [(0, .ref (A 49)), (1, .ref (A 58)), (2, .int (J (ior (x * 8) (dg b r)))), (3, .int (J (r + 1)))]) rfl ?_
        refine ih4 (ior (x * 8) (dg b r)) (r + 1) ?_ ?_ ?_ ?_ ?_
        · first | assumption | omega
        · first | assumption | omega
        · rw [NBR_s _ i1, nb_or (by omega) (dg7 b r), i3]
        · rw [nb_or (by omega) (dg7 b r)]; have := dg7 b r; omega
        · omega
  refine w_sub [2, 3, 1, 0] (lv2 := [(0, .ref (A 49)), (1, .ref (A 58)), (2, .int (J 0)), (3, .int (J 0))]) rfl ?_
  refine loop4 ((S 0 - 0) + 1 : Int).toNat 0 0 ?_ ?_ ?_ ?_ ?_
  · first | assumption | omega
  · first | assumption | omega
  · rfl
  · decide
  · omega
set_option maxRecDepth 100000 in
set_option maxHeartbeats 4000000 in
theorem c_X4_nameOn (l : Launch) (G : GT) (A D : Nat → Nat) (T : Nat) (I : Nat → Int → Int) (F : Nat → Int) (Q : Nat → Nat → Option Nat) (P : va_W) (S : Int → Int) (b : Int) (x : Int) (rung : Int) (hR : RI S) (hL : LRn G.2.1 S I F Q P) (hx : x = cv (S 0) b) (hr : 0 ≤ rung ∧ rung < S 0) : CT l yX4_nameOn cX4_nameOn 3 (some .int) 0 0 0 G [.ref (A 49), .int (J x), .int (J rung)] (CW A D T G.2.1 I F Q P) (fun vo wo => vo = some (.int (J (dg b rung))) ∧ wo = CW A D T G.2.1 I F Q P) := by
  refine CT_of (own := RX4) rfl rfl (Nat.le_of_ble_eq_true rfl) (fun K hl hnL hC hRT hin => ?_)
  subst hl
  show WW K G 0 0 (CW A D T G.2.1 I F Q P) 0 [(0, .ref (A 49)), (1, .int (J x)), (2, .int (J rung))] []
  have hn := hR.n
  have hcb := cv_bd (n := S 0) hn b
  refine w_iload_n (pc := 0) hC dX4_nameOn_0 1 rfl rfl ?_
  refine w_iconst (pc := 1) hC dX4_nameOn_1 ?_
  refine w_aload_n (pc := 2) hC dX4_nameOn_2 0 rfl rfl ?_
  refine w_getf (pc := 3) (v := .ref (A 1)) hC dX4_nameOn_3 fi_X4_39 49 CW_49 rfl ?_
  refine w_getfN (pc := 6) (v := .int (J (S 0))) hC dX4_nameOn_6 fn_X4_54 1 CW_1 (congrArg (fun z : Int => some (Value.int (J z))) (l_n hL)) ?_
  refine w_iconst (pc := 9) hC dX4_nameOn_9 ?_
  refine w_isub (pc := 10) hC dX4_nameOn_10 ?_
  refine w_iload_n (pc := 11) hC dX4_nameOn_11 2 rfl rfl ?_
  refine w_isub (pc := 12) hC dX4_nameOn_12 ?_
  refine w_imul (pc := 13) hC dX4_nameOn_13 ?_
  refine w_ishr (pc := 14) hC dX4_nameOn_14 (by omega) ?_
  refine w_bipush (pc := 15) hC dX4_nameOn_15 (z := 7) rfl ?_
  refine w_iand (pc := 17) hC dX4_nameOn_17 (v := (x / 2 ^ (3 * (((S 0) - 1) - rung)).toNat) % 8) (J_and7 _) ?_
  refine w_iret (pc := 18) hC hRT dX4_nameOn_18 rfl ?_
  refine ⟨retI (by rw [hx, show S 0 - 1 - rung = S 0 - 1 - rung from rfl]; exact nm_sh hr.1 hr.2), rfl⟩
set_option maxRecDepth 100000 in
set_option maxHeartbeats 4000000 in
theorem c_X4_lay (l : Launch) (G : GT) (A D : Nat → Nat) (T : Nat) (I : Nat → Int → Int) (F : Nat → Int) (Q : Nat → Nat → Option Nat) (P : va_W) (S : Int → Int) (b : Int) (x : Int) (hR : RI S) (hL : LRn G.2.1 S I F Q P) (hx : x = cv (S 0) b) : CT l yX4_lay cX4_lay 3 none 1 0 0 G [.ref (A 49), .int (J x)] (CW A D T G.2.1 I F Q P) (fun vo wo => ∃ (b54 : Int → Int), vo = none ∧ wo = CW A D T G.2.1 (au I 54 b54) F Q P ∧ (∀ zq : Int, 0 ≤ zq → zq < S 0 → b54 zq = dg b zq)) := by
  refine CT_of (own := RX4) rfl rfl (Nat.le_of_ble_eq_true rfl) (fun K hl hnL hC hRT hin => ?_)
  subst hl
  show WW K G 0 0 (CW A D T G.2.1 I F Q P) 0 [(0, .ref (A 49)), (1, .int (J x))] []
  have hn := hR.n
  refine w_iconst (pc := 0) hC dX4_lay_0 ?_
  refine w_istore_n (pc := 1) hC dX4_lay_1 rfl (lv2 := [(2, .int (J 0)), (0, .ref (A 49)), (1, .int (J x))]) (by rw [hnL]; decide) rfl ?_
  have loop2 : ∀ (nF : Nat) (r : Int) (a54_2 : Int → Int), (0 ≤ r) → (r ≤ S 0) → (∀ z : Int, 0 ≤ z → z < r → a54_2 z = dg b z) → (S 0 - r) < (nF : Int) → WW K G 0 0 (CW A D T G.2.1 (au I 54 a54_2) F Q P) 2 [(0, .ref (A 49)), (1, .int (J x)), (2, .int (J r))] [] := by
    intro nF
    induction nF with
    | zero => intro r a54_2 i1 i2 i3 hm2; exact absurd hm2 (by omega)
    | succ nF ih2 =>
      intro r a54_2 i1 i2 i3 hm2
      refine w_iload_n (pc := 2) hC dX4_lay_2 2 rfl rfl ?_
      refine w_aload_n (pc := 3) hC dX4_lay_3 0 rfl rfl ?_
      refine w_getf (pc := 4) (v := .ref (A 1)) hC dX4_lay_4 fi_X4_39 49 CW_49 rfl ?_
      refine w_getfN (pc := 7) (v := .int (J (S 0))) hC dX4_lay_7 fn_X4_54 1 CW_1 (congrArg (fun z : Int => some (Value.int (J z))) (l_n hL)) ?_
      refine w_icmp_ge (pc := 10) (tgt := 31) hC dX4_lay_10 (by decide) (by omega) (fun c10 => ?_) (fun c10 => ?_)
      · refine w_vret (pc := 31) hC hRT dX4_lay_31 ?_
        refine ⟨a54_2, rfl, rfl, ?_⟩
        · exact fun zq z0 z1 => i3 zq z0 (by omega)
      · refine w_aload_n (pc := 13) hC dX4_lay_13 0 rfl rfl ?_
        refine w_getf (pc := 14) (v := .ref (A 54)) hC dX4_lay_14 fi_X4_36 49 CW_49 rfl ?_
        refine w_iload_n (pc := 17) hC dX4_lay_17 2 rfl rfl ?_
        refine w_aload_n (pc := 18) hC dX4_lay_18 0 rfl rfl ?_
        refine w_iload_n (pc := 19) hC dX4_lay_19 1 rfl rfl ?_
        refine w_iload_n (pc := 20) hC dX4_lay_20 2 rfl rfl ?_
        refine w_callV (pc := 21) (As := [.int (J x), .int (J r)]) (rest := [.int (J r), .ref (A 54)]) hC dX4_lay_21 cv_X4_87 (c_X4_nameOn (kl K) G A D T (au I 54 a54_2) F Q P S b x r (show RI S from by first | assumption | omega) (show LRn G.2.1 S (au I 54 a54_2) F Q P from by exact (LRb_au (by decide) hL)) (show x = cv (S 0) b from by first | assumption | omega) (show 0 ≤ r ∧ r < S 0 from by first | assumption | omega)) (by decide) ⟨Nat.le_of_ble_eq_true rfl, Nat.le_of_ble_eq_true rfl⟩ (q0 := 49) CW_49 rfl rfl rfl (Nat.le_of_ble_eq_true rfl) rfl (fun vo wo hv => ?_)
        obtain ⟨hv1, hw1⟩ := hv
        rw [hv1, hw1]
        show WW K G 0 0 (CW A D T G.2.1 (au I 54 a54_2) F Q P) 24 [(0, .ref (A 49)), (1, .int (J x)), (2, .int (J r))] [.int (J (dg b r)), .int (J r), .ref (A 54)]
        have q21_0 := dg7 b r
        refine w_iast (pc := 24) (g := a54_2) (w2 := CW A D T G.2.1 (au I 54 (gu a54_2 r (dg b r))) F Q P) hC dX4_lay_24 54 CW_54 (by omega) (Nat.le_of_ble_eq_true rfl) (CWa_54 au_rp) ?_
        generalize h24 : gu a54_2 r (dg b r) = s24
        refine w_iinc (pc := 25) hC dX4_lay_25 (lv2 := [(2, .int (J (r + 1))), (0, .ref (A 49)), (1, .int (J x))]) 2 rfl (by rw [hnL]; decide) rfl ?_
        refine w_goto (pc := 28) hC dX4_lay_28 (tgt := 2) (by decide) ?_
        refine w_sub [1, 2, 0] (lv2 := [(0, .ref (A 49)), (1, .int (J x)), (2, .int (J (r + 1)))]) rfl ?_
        refine ih2 (r + 1) s24 ?_ ?_ ?_ ?_
        · first | assumption | omega
        · first | assumption | omega
        · exact ly_put h24 i3
        · omega
  refine w_weq (CW_cong (au_ms (k := 54) (v := I 54) rfl rfl rfl) rfl rfl) ?_
  refine w_sub [1, 2, 0] (lv2 := [(0, .ref (A 49)), (1, .int (J x)), (2, .int (J 0))]) rfl ?_
  refine loop2 ((S 0 - 0) + 1 : Int).toNat 0 (I 54) ?_ ?_ ?_ ?_
  · first | assumption | omega
  · first | assumption | omega
  · intro z z0 z1; omega
  · omega
set_option maxRecDepth 100000 in
set_option maxHeartbeats 4000000 in
theorem c_X4_add (l : Launch) (G : GT) (A D : Nat → Nat) (T : Nat) (I : Nat → Int → Int) (F : Nat → Int) (Q : Nat → Nat → Option Nat) (P : va_W) (n : Int) (b : Int) (x : Int) (wt : Int) (hn : 0 ≤ n ∧ n ≤ 6) (hx : x = cv n b) (hV : VB n b) (hw : 0 ≤ wt ∧ wt ≤ 10000000000000) (hD : DOK n (I 50) (I 51) (F 30)) (hm : (F 30) < 64) (ht : isum one1 (DBf n (I 50)) (I 51) ((F 30) : Int).toNat ≤ 10000000000000) : CT l yX4_add cX4_add 5 none 0 0 0 G [.ref (A 49), .int (J x), .long (JL wt)] (CW A D T G.2.1 I F Q P) (fun vo wo => ∃ (b50 : Int → Int) (b51 : Int → Int) (g30 : Int), vo = none ∧ wo = CW A D T G.2.1 (au (au I 50 b50) 51 b51) (fu F 30 g30) Q P ∧ (DOK n b50 b51 g30 ∧ (∀ f : Int → Int, isum f (DBf n b50) b51 (g30 : Int).toNat = isum f (DBf n (I 50)) (I 51) ((F 30) : Int).toNat + f b * wt) ∧ (F 30) ≤ g30 ∧ g30 ≤ (F 30) + 1)) := by
  refine CT_of (own := RX4) rfl rfl (Nat.le_of_ble_eq_true rfl) (fun K hl hnL hC hRT hin => ?_)
  subst hl
  show WW K G 0 0 (CW A D T G.2.1 I F Q P) 0 [(0, .ref (A 49)), (1, .int (J x)), (2, .long (JL wt))] []
  have hcb := cv_bd hn b
  have h64 := hD.1.1
  refine w_lload_n (pc := 0) hC dX4_add_0 2 rfl rfl ?_
  refine w_lconst (pc := 1) hC dX4_add_1 (z := 0) rfl ?_
  refine w_lcmp (pc := 2) hC dX4_add_2 (by omega) ?_
  refine w_if_ne_c (pc := 3) (tgt := 7) hC dX4_add_3 (by decide) (fun c3 => ?_) (fun c3 => ?_)
  · refine w_iconst (pc := 7) hC dX4_add_7 ?_
    refine w_istore (pc := 8) hC dX4_add_8 (lv2 := [(4, .int (J 0)), (0, .ref (A 49)), (1, .int (J x)), (2, .long (JL wt))]) (by rw [hnL]; decide) rfl ?_
    have loop10 : ∀ (nF : Nat) (k : Int), (0 ≤ k) → (k ≤ (F 30)) → (∀ z : Int, 0 ≤ z → z < k → ¬ (I 50) z = cv n b) → ((F 30) - k) < (nF : Int) → WW K G 0 0 (CW A D T G.2.1 I F Q P) 10 [(0, .ref (A 49)), (1, .int (J x)), (2, .long (JL wt)), (4, .int (J k))] [] := by
      intro nF
      induction nF with
      | zero => intro k i1 i2 i3 hm10; exact absurd hm10 (by omega)
      | succ nF ih10 =>
        intro k i1 i2 i3 hm10
        refine w_iload (pc := 10) hC dX4_add_10 3 rfl ?_
        refine w_aload_n (pc := 12) hC dX4_add_12 0 rfl rfl ?_
        refine w_getf (pc := 13) (v := .int (J (F 30))) hC dX4_add_13 fi_X4_19 49 CW_49 rfl ?_
        refine w_icmp_ge (pc := 16) (tgt := 48) hC dX4_add_16 (by decide) (by omega) (fun c16 => ?_) (fun c16 => ?_)
        · refine w_aload_n (pc := 48) hC dX4_add_48 0 rfl rfl ?_
          refine w_getf (pc := 49) (v := .int (J (F 30))) hC dX4_add_49 fi_X4_19 49 CW_49 rfl ?_
          refine w_bipush (pc := 52) hC dX4_add_52 (z := 64) rfl ?_
          refine w_icmp_ge (pc := 54) (tgt := 87) hC dX4_add_54 (by decide) (by omega) (fun c54 => ?_) (fun c54 => ?_)
          · exfalso; omega
          · refine w_aload_n (pc := 57) hC dX4_add_57 0 rfl rfl ?_
            refine w_getf (pc := 58) (v := .ref (D 0)) hC dX4_add_58 fi_X4_11 49 CW_49 rfl ?_
            refine w_aload_n (pc := 61) hC dX4_add_61 0 rfl rfl ?_
            refine w_getf (pc := 62) (v := .int (J (F 30))) hC dX4_add_62 fi_X4_19 49 CW_49 rfl ?_
            refine w_iload_n (pc := 65) hC dX4_add_65 1 rfl rfl ?_
            refine w_iast (pc := 66) (g := (I 50)) (w2 := CW A D T G.2.1 (au I 50 (gu (I 50) (F 30) x)) F Q P) hC dX4_add_66 50 CW_50 (by omega) (Nat.le_of_ble_eq_true rfl) (CWa_50 rfl) ?_
            generalize h66 : gu (I 50) (F 30) x = s66
            refine w_aload_n (pc := 67) hC dX4_add_67 0 rfl rfl ?_
            refine w_getf (pc := 68) (v := .ref (D 1)) hC dX4_add_68 fi_X4_15 49 CW_49 rfl ?_
            refine w_aload_n (pc := 71) hC dX4_add_71 0 rfl rfl ?_
            refine w_getf (pc := 72) (v := .int (J (F 30))) hC dX4_add_72 fi_X4_19 49 CW_49 rfl ?_
            refine w_lload_n (pc := 75) hC dX4_add_75 2 rfl rfl ?_
            refine w_last (pc := 76) (g := (I 51)) (w2 := CW A D T G.2.1 (au (au I 50 s66) 51 (gu (I 51) (F 30) wt)) F Q P) hC dX4_add_76 51 CW_51 (by omega) (Nat.le_of_ble_eq_true rfl) (CWa_51 rfl) ?_
            generalize h76 : gu (I 51) (F 30) wt = s76
            refine w_aload_n (pc := 77) hC dX4_add_77 0 rfl rfl ?_
            refine w_dup (pc := 78) hC dX4_add_78 rfl ?_
            refine w_getf (pc := 79) (v := .int (J (F 30))) hC dX4_add_79 fi_X4_19 49 CW_49 rfl ?_
            refine w_iconst (pc := 82) hC dX4_add_82 ?_
            refine w_iadd (pc := 83) hC dX4_add_83 ?_
            refine w_putf (pc := 84) (w2 := CW A D T G.2.1 (au (au I 50 s66) 51 s76) (fu F 30 ((F 30) + 1)) Q P) hC dX4_add_84 fi_X4_19 fp_X4_3 rfl 49 CW_49 (rfl) (rfl) (Nat.le_of_ble_eq_true rfl) (CWf_30 rfl) ?_
            refine w_vret (pc := 87) hC hRT dX4_add_87 ?_
            refine ⟨s66, s76, (F 30) + 1, rfl, rfl, ?_⟩
            · rw [hx] at h66
              have e := DOK_put hD (by omega) hV (by omega) (fun z z0 z1 => i3 z z0 (by omega)) h66 h76
              exact ⟨e.1, e.2, by omega, by omega⟩
        · have hk := DOK_bd hn hD i1 (by omega)
          refine w_aload_n (pc := 19) hC dX4_add_19 0 rfl rfl ?_
          refine w_getf (pc := 20) (v := .ref (D 0)) hC dX4_add_20 fi_X4_11 49 CW_49 rfl ?_
          refine w_iload (pc := 23) hC dX4_add_23 3 rfl ?_
          refine w_ialdV (pc := 25) (g := (I 50)) (v := (I 50) k) hC dX4_add_25 50 CW_50 (by omega) (Nat.le_of_ble_eq_true rfl) rfl ?_
          refine w_iload_n (pc := 26) hC dX4_add_26 1 rfl rfl ?_
          refine w_icmp_ne (pc := 27) (tgt := 42) hC dX4_add_27 (by decide) (by omega) (fun c27 => ?_) (fun c27 => ?_)
          · refine w_iinc (pc := 42) hC dX4_add_42 (lv2 := [(4, .int (J (k + 1))), (0, .ref (A 49)), (1, .int (J x)), (2, .long (JL wt))]) 3 rfl (by rw [hnL]; decide) rfl ?_
            refine w_goto (pc := 45) hC dX4_add_45 (tgt := 10) (by decide) ?_
            refine w_sub [1, 2, 3, 0] (lv2 := [(0, .ref (A 49)), (1, .int (J x)), (2, .long (JL wt)), (4, .int (J (k + 1)))]) rfl ?_
            refine ih10 (k + 1) ?_ ?_ ?_ ?_
            · first | assumption | omega
            · first | assumption | omega
            · intro z z0 z1; rcases (show z = k ∨ z < k by omega) with e | e; subst e; exact fun h9 => c27 (h9.trans hx.symm); exact i3 z z0 e
            · omega
          · refine w_aload_n (pc := 30) hC dX4_add_30 0 rfl rfl ?_
            refine w_getf (pc := 31) (v := .ref (D 1)) hC dX4_add_31 fi_X4_15 49 CW_49 rfl ?_
            refine w_iload (pc := 34) hC dX4_add_34 3 rfl ?_
            refine w_dup2 (pc := 36) hC dX4_add_36 rfl rfl ?_
            refine w_laldV (pc := 37) (g := (I 51)) (v := (I 51) k) hC dX4_add_37 51 CW_51 (by omega) (Nat.le_of_ble_eq_true rfl) rfl ?_
            refine w_lload_n (pc := 38) hC dX4_add_38 2 rfl rfl ?_
            refine w_ladd (pc := 39) hC dX4_add_39 ?_
            refine w_last (pc := 40) (g := (I 51)) (w2 := CW A D T G.2.1 (au I 51 (gu (I 51) k (((I 51) k) + wt))) F Q P) hC dX4_add_40 51 CW_51 (by omega) (Nat.le_of_ble_eq_true rfl) (CWa_51 rfl) ?_
            generalize h40 : gu (I 51) k (((I 51) k) + wt) = s40
            refine w_vret (pc := 41) hC hRT dX4_add_41 ?_
            refine ⟨(I 50), s40, (F 30), rfl, CW_cong (au_ms (k := 50) (v := I 50) rfl (au_cm (by decide) rfl) rfl) (fu_ms (k := 30) (v := F 30) rfl rfl rfl) rfl, ?_⟩
            · have e := DOK_more hD i1 (by omega) hV (by omega) (c27.trans hx) h40
              exact ⟨e.1, e.2, by omega, by omega⟩
    refine w_sub [1, 2, 3, 0] (lv2 := [(0, .ref (A 49)), (1, .int (J x)), (2, .long (JL wt)), (4, .int (J 0))]) rfl ?_
    refine loop10 (((F 30) - 0) + 1 : Int).toNat 0 ?_ ?_ ?_ ?_
    · first | assumption | omega
    · first | assumption | omega
    · intro z z0 z1; omega
    · omega
  · refine w_vret (pc := 6) hC hRT dX4_add_6 ?_
    refine ⟨(I 50), (I 51), (F 30), rfl, CW_cong (au_ms (k := 50) (v := I 50) rfl rfl (au_ms (k := 51) (v := I 51) rfl rfl rfl)) (fu_ms (k := 30) (v := F 30) rfl rfl rfl) rfl, ?_⟩
    · exact ⟨hD, fun f => by rw [c3, Int.mul_zero, Int.add_zero], by omega, by omega⟩
