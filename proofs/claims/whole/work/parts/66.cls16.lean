
theorem hr_in {S : Int → Int} {e sp : Int} (h : sp < e) : hr S e sp = S (10 + sp) := if_pos h
theorem hr_out {S : Int → Int} {e sp : Int} (h : e ≤ sp) : hr S e sp = -1 := if_neg (by omega)
theorem sby_255 {x : Int} (h : 0 ≤ x ∧ x ≤ 255) : J (sby x) &&& J 255 = J x := by
  have e := J_andN (sby x) 8 (by decide)
  rw [show (2 : Int) ^ 8 - 1 = 255 from rfl, show (2 : Int) ^ 8 = 256 from rfl] at e
  rw [e]
  congr 1
  unfold sby
  split <;> omega
theorem sby_eq {x c : Int} (h : 0 ≤ x ∧ x ≤ 255) (hc : 0 ≤ c ∧ c ≤ 127) : sby x = c ↔ x = c := by
  unfold sby
  split <;> omega
theorem SX2_all : ∀ n : Nat, n < 257 → SX 2 ((n : Int) - 1) = if 48 ≤ (n : Int) - 1 ∧ (n : Int) - 1 ≤ 57 then (n : Int) - 1 - 48 else -1 := by decide +kernel
theorem SX_2 {c : Int} (h : -1 ≤ c ∧ c ≤ 255) : SX 2 c = if 48 ≤ c ∧ c ≤ 57 then c - 48 else -1 := by
  have := SX2_all (c + 1).toNat (by omega)
  rw [show (((c + 1).toNat : Nat) : Int) - 1 = c by omega] at this
  exact this
/-- the code as far as it is read -/
def CD (g : Int → Int) (l : List Int) : Prop := ∀ k : Nat, k < l.length → g (k : Int) = cde (l.getD k 0)
theorem CD_put {g s : Int → Int} {l : List Int} {x v : Int} {n : Int} (h : CD g l) (hn : n = (l.length : Int)) (hs : s = gu g n v) (hv : v = cde x) : CD s (l ++ [x]) := by
  intro k hk
  rw [List.length_append, List.length_singleton] at hk
  rw [hs, hn, hv]
  unfold gu
  by_cases c : (k : Int) = (l.length : Int)
  · rw [if_pos c, show k = l.length by omega]
    simp
  · rw [if_neg c, h k (by omega)]
    congr 1
    rw [List.getD_eq_getElem?_getD, List.getD_eq_getElem?_getD, List.getElem?_append_left (by omega)]

theorem rn_lo {S : Int → Int} {e sp : Int} (hb : -1 ≤ hr S e sp ∧ hr S e sp ≤ 255) (c : SX 2 (hr S e sp) ≤ 0) : SX 2 (hr S e sp) = (if 48 ≤ hr S e sp ∧ hr S e sp ≤ 57 then fgv S e sp else -1) ∧ (if SX 2 (hr S e sp) = -1 then sp else sp + 1) = if 48 ≤ hr S e sp ∧ hr S e sp ≤ 57 then fgs S e sp else sp := by
  rw [SX_2 hb] at c ⊢
  by_cases h : 48 ≤ hr S e sp ∧ hr S e sp ≤ 57
  · rw [if_pos h] at c ⊢
    rw [if_pos h, if_pos h]
    unfold fgv fgs
    rw [if_neg (by omega), if_neg (by omega), if_neg (by omega)]
    exact ⟨rfl, rfl⟩
  · rw [if_neg h, if_neg h, if_neg h]
    exact ⟨rfl, if_pos rfl⟩
theorem rn_hi {S : Int → Int} {e sp : Int} (hb : -1 ≤ hr S e sp ∧ hr S e sp ≤ 255) (hb1 : -1 ≤ hr S e (sp + 1) ∧ hr S e (sp + 1) ≤ 255) (c : 0 < SX 2 (hr S e sp)) : (48 ≤ hr S e sp ∧ hr S e sp ≤ 57) ∧ SX 2 (hr S e sp) = hr S e sp - 48 ∧ (SX 2 (hr S e (sp + 1)) < 0 → SX 2 (hr S e sp) = fgv S e sp ∧ SX 2 (hr S e (sp + 1)) = -1 ∧ fgs S e sp = sp + 1) ∧ (0 ≤ SX 2 (hr S e (sp + 1)) → SX 2 (hr S e sp) * 10 + SX 2 (hr S e (sp + 1)) = fgv S e sp ∧ fgs S e sp = sp + 1 + 1) := by
  rw [SX_2 hb] at c ⊢
  rw [SX_2 hb1]
  by_cases h : 48 ≤ hr S e sp ∧ hr S e sp ≤ 57
  · rw [if_pos h] at c ⊢
    refine ⟨h, rfl, fun g => ?_, fun g => ?_⟩
    · by_cases h2 : 48 ≤ hr S e (sp + 1) ∧ hr S e (sp + 1) ≤ 57
      · rw [if_pos h2] at g; omega
      · rw [if_neg h2]
        unfold fgv fgs
        rw [if_neg (by omega), if_neg (by omega)]
        exact ⟨rfl, rfl, rfl⟩
    · by_cases h2 : 48 ≤ hr S e (sp + 1) ∧ hr S e (sp + 1) ≤ 57
      · rw [if_pos h2]
        unfold fgv fgs
        rw [if_pos (by omega), if_pos (by omega)]
        omega
      · rw [if_neg h2] at g; omega
  · rw [if_neg h] at c; omega

set_option maxRecDepth 100000 in
set_option maxHeartbeats 4000000 in
theorem c_X3_take (l : Launch) (G : GT) (A D : Nat → Nat) (I : Nat → Int → Int) (F : Nat → Int) (Q : Nat → Nat → Option Nat) (P : va_W) (S : Int → Int) (sg : Int) (hR : RI S) (hL : LRn G.2.1 S I F Q P) (hsz : (F 21) = S 5) (hat : 0 ≤ (F 22) ∧ (F 22) ≤ S 5) (hsg : 0 ≤ sg ∧ sg ≤ 127) : CT l yX3_take cX3_take 2 (some .boolean) 0 0 0 G [.ref (A 47), .int (J sg)] (CW A D (A 11) G.2.1 I F Q P) (fun vo wo => ∃ (g22 : Int), vo = some (.int (J (bI ((hr S (S 5) (F 22)) = sg)))) ∧ wo = CW A D (A 11) G.2.1 I (fu F 22 g22) Q P ∧ (g22 = if (hr S (S 5) (F 22)) = sg then (F 22) + 1 else (F 22))) := by
  refine CT_of (own := RX3) rfl rfl (Nat.le_of_ble_eq_true rfl) (fun K hl hnL hC hRT hin => ?_)
  subst hl
  show WW K G 0 0 (CW A D (A 11) G.2.1 I F Q P) 0 [(0, .ref (A 47)), (1, .int (J sg))] []
  have hn := hR.n
  have hbd := hR.bd
  have htp := hR.tp
  refine w_aload_n (pc := 0) hC dX3_take_0 0 rfl rfl ?_
  refine w_getf (pc := 1) (v := .int (J (F 22))) hC dX3_take_1 fi_X3_26 47 CW_47 rfl ?_
  refine w_aload_n (pc := 4) hC dX3_take_4 0 rfl rfl ?_
  refine w_getf (pc := 5) (v := .int (J (F 21))) hC dX3_take_5 fi_X3_23 47 CW_47 rfl ?_
  refine w_icmp_ge (pc := 8) (tgt := 36) hC dX3_take_8 (by decide) (by omega) (fun c8 => ?_) (fun c8 => ?_)
  · refine w_iconst (pc := 36) hC dX3_take_36 ?_
    refine w_iret (pc := 37) hC hRT dX3_take_37 rfl ?_
    refine ⟨(F 22), retI (by first | exact (bI_f (by rw [hr_out (by omega)]; omega)).symm | exact (bI_f (by rw [hh]; exact fun h9 => c33 (he.mpr h9))).symm), CW_cong rfl (fu_ms (k := 22) (v := F 22) rfl rfl rfl) rfl, ?_⟩
    · first | (rw [if_neg (by rw [hr_out (by omega)]; omega)]) | (rw [if_neg (by rw [hh]; exact fun h9 => c33 (he.mpr h9))])
  · refine w_aload_n (pc := 11) hC dX3_take_11 0 rfl rfl ?_
    refine w_getf (pc := 12) (v := .int (J (F 22))) hC dX3_take_12 fi_X3_26 47 CW_47 rfl ?_
    refine w_aload_n (pc := 15) hC dX3_take_15 0 rfl rfl ?_
    refine w_getf (pc := 16) (v := .ref (A 11)) hC dX3_take_16 fi_X3_19 47 CW_47 rfl ?_
    refine w_alen (pc := 19) hC dX3_take_19 11 3 CW_11 rfl ?_
    refine w_icmp_ge (pc := 20) (tgt := 36) hC dX3_take_20 (by decide) (by omega) (fun c20 => ?_) (fun c20 => ?_)
    · refine w_iconst (pc := 36) hC dX3_take_36 ?_
      refine w_iret (pc := 37) hC hRT dX3_take_37 rfl ?_
      refine ⟨(F 22), retI (by first | exact (bI_f (by rw [hr_out (by omega)]; omega)).symm | exact (bI_f (by rw [hh]; exact fun h9 => c33 (he.mpr h9))).symm), CW_cong rfl (fu_ms (k := 22) (v := F 22) rfl rfl rfl) rfl, ?_⟩
      · first | (rw [if_neg (by rw [hr_out (by omega)]; omega)]) | (rw [if_neg (by rw [hh]; exact fun h9 => c33 (he.mpr h9))])
    · have hb := hR.tape (10 + F 22) (by omega) (by omega)
      have hh := hr_in (S := S) (e := S 5) (sp := F 22) (by omega)
      have he := sby_eq hb hsg
      have hy := sby_bd (x := S (10 + F 22)) (by omega)
      refine w_aload_n (pc := 23) hC dX3_take_23 0 rfl rfl ?_
      refine w_getf (pc := 24) (v := .ref (A 11)) hC dX3_take_24 fi_X3_19 47 CW_47 rfl ?_
      refine w_aload_n (pc := 27) hC dX3_take_27 0 rfl rfl ?_
      refine w_getf (pc := 28) (v := .int (J (F 22))) hC dX3_take_28 fi_X3_26 47 CW_47 rfl ?_
      refine w_baldV (pc := 31) (g := (I 11)) (v := sby (S (10 + (F 22)))) hC dX3_take_31 11 CW_11 (by omega) (Nat.le_of_ble_eq_true rfl) (l_tape hL (by omega) (by omega)) ?_
      refine w_iload_n (pc := 32) hC dX3_take_32 1 rfl rfl ?_
      refine w_icmp_eq (pc := 33) (tgt := 38) hC dX3_take_33 (by decide) (by omega) (fun c33 => ?_) (fun c33 => ?_)
      · refine w_aload_n (pc := 38) hC dX3_take_38 0 rfl rfl ?_
        refine w_dup (pc := 39) hC dX3_take_39 rfl ?_
        refine w_getf (pc := 40) (v := .int (J (F 22))) hC dX3_take_40 fi_X3_26 47 CW_47 rfl ?_
        refine w_iconst (pc := 43) hC dX3_take_43 ?_
        refine w_iadd (pc := 44) hC dX3_take_44 ?_
        refine w_putf (pc := 45) (w2 := CW A D (A 11) G.2.1 I (fu F 22 ((F 22) + 1)) Q P) hC dX3_take_45 fi_X3_26 fp_X3_4 rfl 47 CW_47 (rfl) (rfl) (Nat.le_of_ble_eq_true rfl) (CWf_22 rfl) ?_
        refine w_iconst (pc := 48) hC dX3_take_48 ?_
        refine w_iret (pc := 49) hC hRT dX3_take_49 rfl ?_
        refine ⟨(F 22) + 1, retI (by exact (bI_t (by rw [hh]; exact he.mp c33)).symm), rfl, ?_⟩
        · rw [if_pos (by rw [hh]; exact he.mp c33)]
      · refine w_iconst (pc := 36) hC dX3_take_36 ?_
        refine w_iret (pc := 37) hC hRT dX3_take_37 rfl ?_
        refine ⟨(F 22), retI (by first | exact (bI_f (by rw [hr_out (by omega)]; omega)).symm | exact (bI_f (by rw [hh]; exact fun h9 => c33 (he.mpr h9))).symm), CW_cong rfl (fu_ms (k := 22) (v := F 22) rfl rfl rfl) rfl, ?_⟩
        · first | (rw [if_neg (by rw [hr_out (by omega)]; omega)]) | (rw [if_neg (by rw [hh]; exact fun h9 => c33 (he.mpr h9))])
set_option maxRecDepth 100000 in
set_option maxHeartbeats 4000000 in
theorem c_X3_takeOneOf (l : Launch) (G : GT) (A D : Nat → Nat) (I : Nat → Int → Int) (F : Nat → Int) (Q : Nat → Nat → Option Nat) (P : va_W) (S : Int → Int) (i : Nat)  (hR : RI S) (hL : LRn G.2.1 S I F Q P) (hsz : (F 21) = S 5) (hat : 0 ≤ (F 22) ∧ (F 22) ≤ S 5) (hi : i < nST) : CT l yX3_takeOneOf cX3_takeOneOf 3 (some .int) 4 0 0 G [.ref (A 47), .ref (G.2.2.1 i)] (CW A D (A 11) G.2.1 I F Q P) (fun vo wo => ∃ (g22 : Int), vo = some (.int (J (SX i (hr S (S 5) (F 22))))) ∧ wo = CW A D (A 11) G.2.1 I (fu F 22 g22) Q P ∧ (g22 = if SX i (hr S (S 5) (F 22)) = -1 then (F 22) else (F 22) + 1)) := by
  refine CT_of (own := RX3) rfl rfl (Nat.le_of_ble_eq_true rfl) (fun K hl hnL hC hRT hin => ?_)
  subst hl
  show WW K G 0 0 (CW A D (A 11) G.2.1 I F Q P) 0 [(0, .ref (A 47)), (1, .ref (G.2.2.1 i))] []
  have hn := hR.n
  have hbd := hR.bd
  have htp := hR.tp
  have hsl := stl_bd i hi
  refine w_aload_n (pc := 0) hC dX3_takeOneOf_0 0 rfl rfl ?_
  refine w_getf (pc := 1) (v := .int (J (F 22))) hC dX3_takeOneOf_1 fi_X3_26 47 CW_47 rfl ?_
  refine w_aload_n (pc := 4) hC dX3_takeOneOf_4 0 rfl rfl ?_
  refine w_getf (pc := 5) (v := .int (J (F 21))) hC dX3_takeOneOf_5 fi_X3_23 47 CW_47 rfl ?_
  refine w_icmp_ge (pc := 8) (tgt := 23) hC dX3_takeOneOf_8 (by decide) (by omega) (fun c8 => ?_) (fun c8 => ?_)
  · refine w_iconst (pc := 23) hC dX3_takeOneOf_23 ?_
    refine w_iret (pc := 24) hC hRT dX3_takeOneOf_24 rfl ?_
    refine ⟨(F 22), retI (by rw [hr_out (by omega), SX_neg hi (by decide)]), CW_cong rfl (fu_ms (k := 22) (v := F 22) rfl rfl rfl) rfl, ?_⟩
    · rw [hr_out (by omega), SX_neg hi (by decide), if_pos rfl]
  · refine w_aload_n (pc := 11) hC dX3_takeOneOf_11 0 rfl rfl ?_
    refine w_getf (pc := 12) (v := .int (J (F 22))) hC dX3_takeOneOf_12 fi_X3_26 47 CW_47 rfl ?_
    refine w_aload_n (pc := 15) hC dX3_takeOneOf_15 0 rfl rfl ?_
    refine w_getf (pc := 16) (v := .ref (A 11)) hC dX3_takeOneOf_16 fi_X3_19 47 CW_47 rfl ?_
    refine w_alen (pc := 19) hC dX3_takeOneOf_19 11 3 CW_11 rfl ?_
    refine w_icmp_lt (pc := 20) (tgt := 25) hC dX3_takeOneOf_20 (by decide) (by omega) (fun c20 => ?_) (fun c20 => ?_)
    · have hb := hR.tape (10 + F 22) (by omega) (by omega)
      have hh := hr_in (S := S) (e := S 5) (sp := F 22) (by omega)
      refine w_aload_n (pc := 25) hC dX3_takeOneOf_25 1 rfl rfl ?_
      refine w_aload_n (pc := 26) hC dX3_takeOneOf_26 0 rfl rfl ?_
      refine w_getf (pc := 27) (v := .ref (A 11)) hC dX3_takeOneOf_27 fi_X3_19 47 CW_47 rfl ?_
      refine w_aload_n (pc := 30) hC dX3_takeOneOf_30 0 rfl rfl ?_
      refine w_getf (pc := 31) (v := .int (J (F 22))) hC dX3_takeOneOf_31 fi_X3_26 47 CW_47 rfl ?_
      refine w_baldV (pc := 34) (g := (I 11)) (v := sby (S (10 + (F 22)))) hC dX3_takeOneOf_34 11 CW_11 (by omega) (Nat.le_of_ble_eq_true rfl) (l_tape hL (by omega) (by omega)) ?_
      refine w_sipush (pc := 35) hC dX3_takeOneOf_35 (z := 255) rfl ?_
      refine w_iand (pc := 38) hC dX3_takeOneOf_38 (v := S (10 + (F 22))) (sby_255 hb) ?_
      refine w_i2c (pc := 39) hC dX3_takeOneOf_39 (by omega) ?_
      refine w_callVT (pc := 40) (As := [.int (J (S (10 + (F 22))))]) (rest := []) hC dX3_takeOneOf_40 cv_X3_119 (c_J0_indexOf_0f7a4 (kl K) G (CW A D (A 11) G.2.1 I F Q P) i (S (10 + (F 22))) (show i < nST from by first | assumption | omega) (show 0 ≤ (S (10 + (F 22))) ∧ (S (10 + (F 22))) < 256 from by first | assumption | omega)) (by decide) ⟨Nat.le_of_ble_eq_true rfl, Nat.le_of_ble_eq_true rfl⟩ (i := i) hi rfl (Nat.le_of_ble_eq_true rfl) rfl (fun vo wo hv => ?_)
      obtain ⟨hv1, hw1⟩ := hv
      rw [hv1, hw1]
      show WW K G 0 0 (CW A D (A 11) G.2.1 I F Q P) 43 [(0, .ref (A 47)), (1, .ref (G.2.2.1 i))] [.int (J (SX i (S (10 + (F 22)))))]
      have q40_0 := SX_bd (S (10 + (F 22))) (by assumption : i < nST)
      refine w_istore_n (pc := 43) hC dX3_takeOneOf_43 rfl (lv2 := [(2, .int (J (SX i (S (10 + (F 22)))))), (0, .ref (A 47)), (1, .ref (G.2.2.1 i))]) (by rw [hnL]; decide) rfl ?_
      refine w_iload_n (pc := 44) hC dX3_takeOneOf_44 0 rfl rfl ?_
      refine w_if_lt (pc := 45) (tgt := 58) hC dX3_takeOneOf_45 (by decide) (by omega) (fun c45 => ?_) (fun c45 => ?_)
      · refine w_iload_n (pc := 58) hC dX3_takeOneOf_58 0 rfl rfl ?_
        refine w_iret (pc := 59) hC hRT dX3_takeOneOf_59 rfl ?_
        refine ⟨(F 22), retI (by rw [hh]), CW_cong rfl (fu_ms (k := 22) (v := F 22) rfl rfl rfl) rfl, ?_⟩
        · first | (rw [hh, if_pos (by omega)]) | (rw [hh, if_neg (by omega)])
      · refine w_aload_n (pc := 48) hC dX3_takeOneOf_48 1 rfl rfl ?_
        refine w_dup (pc := 49) hC dX3_takeOneOf_49 rfl ?_
        refine w_getf (pc := 50) (v := .int (J (F 22))) hC dX3_takeOneOf_50 fi_X3_26 47 CW_47 rfl ?_
        refine w_iconst (pc := 53) hC dX3_takeOneOf_53 ?_
        refine w_iadd (pc := 54) hC dX3_takeOneOf_54 ?_
        refine w_putf (pc := 55) (w2 := CW A D (A 11) G.2.1 I (fu F 22 ((F 22) + 1)) Q P) hC dX3_takeOneOf_55 fi_X3_26 fp_X3_4 rfl 47 CW_47 (rfl) (rfl) (Nat.le_of_ble_eq_true rfl) (CWf_22 rfl) ?_
        refine w_iload_n (pc := 58) hC dX3_takeOneOf_58 0 rfl rfl ?_
        refine w_iret (pc := 59) hC hRT dX3_takeOneOf_59 rfl ?_
        refine ⟨(F 22) + 1, retI (by rw [hh]), rfl, ?_⟩
        · first | (rw [hh, if_pos (by omega)]) | (rw [hh, if_neg (by omega)])
    · refine w_iconst (pc := 23) hC dX3_takeOneOf_23 ?_
      refine w_iret (pc := 24) hC hRT dX3_takeOneOf_24 rfl ?_
      refine ⟨(F 22), retI (by rw [hr_out (by omega), SX_neg hi (by decide)]), CW_cong rfl (fu_ms (k := 22) (v := F 22) rfl rfl rfl) rfl, ?_⟩
      · rw [hr_out (by omega), SX_neg hi (by decide), if_pos rfl]
set_option maxRecDepth 100000 in
set_option maxHeartbeats 4000000 in
theorem c_X3_put (l : Launch) (G : GT) (A D : Nat → Nat) (I : Nat → Int → Int) (F : Nat → Int) (Q : Nat → Nat → Option Nat) (P : va_W) (S : Int → Int) (st : Int) (hR : RI S) (hL : LRn G.2.1 S I F Q P) (hsz : (F 21) = S 5) (hat : 0 ≤ (F 22) ∧ (F 22) ≤ S 5) (hln : 0 ≤ (F 20) ∧ (F 20) < 120) : CT l yX3_put cX3_put 2 (some .boolean) 0 0 0 G [.ref (A 47), .int (J st)] (CW A D (A 11) G.2.1 I F Q P) (fun vo wo => ∃ (b48 : Int → Int) (g20 : Int), vo = some (.int (J 1)) ∧ wo = CW A D (A 11) G.2.1 (au I 48 b48) (fu F 20 g20) Q P ∧ (b48 = gu (I 48) (F 20) st ∧ g20 = (F 20) + 1)) := by
  refine CT_of (own := RX3) rfl rfl (Nat.le_of_ble_eq_true rfl) (fun K hl hnL hC hRT hin => ?_)
  subst hl
  show WW K G 0 0 (CW A D (A 11) G.2.1 I F Q P) 0 [(0, .ref (A 47)), (1, .int (J st))] []
  have hn := hR.n
  have hbd := hR.bd
  have htp := hR.tp
  refine w_aload_n (pc := 0) hC dX3_put_0 0 rfl rfl ?_
  refine w_getf (pc := 1) (v := .int (J (F 20))) hC dX3_put_1 fi_X3_15 47 CW_47 rfl ?_
  refine w_aload_n (pc := 4) hC dX3_put_4 0 rfl rfl ?_
  refine w_getf (pc := 5) (v := .ref (A 48)) hC dX3_put_5 fi_X3_9 47 CW_47 rfl ?_
  refine w_alen (pc := 8) hC dX3_put_8 48 0 CW_48 rfl ?_
  refine w_icmp_lt (pc := 9) (tgt := 14) hC dX3_put_9 (by decide) (by omega) (fun c9 => ?_) (fun c9 => ?_)
  · refine w_aload_n (pc := 14) hC dX3_put_14 0 rfl rfl ?_
    refine w_getf (pc := 15) (v := .ref (A 48)) hC dX3_put_15 fi_X3_9 47 CW_47 rfl ?_
    refine w_aload_n (pc := 18) hC dX3_put_18 0 rfl rfl ?_
    refine w_getf (pc := 19) (v := .int (J (F 20))) hC dX3_put_19 fi_X3_15 47 CW_47 rfl ?_
    refine w_iload_n (pc := 22) hC dX3_put_22 1 rfl rfl ?_
    refine w_iast (pc := 23) (g := (I 48)) (w2 := CW A D (A 11) G.2.1 (au I 48 (gu (I 48) (F 20) st)) F Q P) hC dX3_put_23 48 CW_48 (by omega) (Nat.le_of_ble_eq_true rfl) (CWa_48 rfl) ?_
    generalize h23 : gu (I 48) (F 20) st = s23
    refine w_aload_n (pc := 24) hC dX3_put_24 0 rfl rfl ?_
    refine w_dup (pc := 25) hC dX3_put_25 rfl ?_
    refine w_getf (pc := 26) (v := .int (J (F 20))) hC dX3_put_26 fi_X3_15 47 CW_47 rfl ?_
    refine w_iconst (pc := 29) hC dX3_put_29 ?_
    refine w_iadd (pc := 30) hC dX3_put_30 ?_
    refine w_putf (pc := 31) (w2 := CW A D (A 11) G.2.1 (au I 48 s23) (fu F 20 ((F 20) + 1)) Q P) hC dX3_put_31 fi_X3_15 fp_X3_1 rfl 47 CW_47 (rfl) (rfl) (Nat.le_of_ble_eq_true rfl) (CWf_20 rfl) ?_
    refine w_iconst (pc := 34) hC dX3_put_34 ?_
    refine w_iret (pc := 35) hC hRT dX3_put_35 rfl ?_
    refine ⟨s23, (F 20) + 1, retI (by first | rfl | exact (bI_t (by omega)).symm | exact (bI_f (by omega)).symm | omega), rfl, ?_⟩
    · exact ⟨h23.symm, rfl⟩
  · exfalso; omega
set_option maxRecDepth 100000 in
set_option maxHeartbeats 4000000 in
theorem c_X3_readNumber (l : Launch) (G : GT) (A D : Nat → Nat) (I : Nat → Int → Int) (F : Nat → Int) (Q : Nat → Nat → Option Nat) (P : va_W) (S : Int → Int)  (hR : RI S) (hL : LRn G.2.1 S I F Q P) (hsz : (F 21) = S 5) (hat : 0 ≤ (F 22) ∧ (F 22) ≤ S 5) : CT l yX3_readNumber cX3_readNumber 3 (some .int) 5 0 0 G [.ref (A 47)] (CW A D (A 11) G.2.1 I F Q P) (fun vo wo => ∃ (g22 : Int), vo = some (.int (J (if 48 ≤ (hr S (S 5) (F 22)) ∧ (hr S (S 5) (F 22)) ≤ 57 then fgv S (S 5) (F 22) else -1))) ∧ wo = CW A D (A 11) G.2.1 I (fu F 22 g22) Q P ∧ (g22 = if 48 ≤ (hr S (S 5) (F 22)) ∧ (hr S (S 5) (F 22)) ≤ 57 then fgs S (S 5) (F 22) else (F 22))) := by
  refine CT_of (own := RX3) rfl rfl (Nat.le_of_ble_eq_true rfl) (fun K hl hnL hC hRT hin => ?_)
  subst hl
  show WW K G 0 0 (CW A D (A 11) G.2.1 I F Q P) 0 [(0, .ref (A 47))] []
  have hn := hR.n
  have hbd := hR.bd
  have htp := hR.tp
  have hb0 := hr_bd (S := S) (e := S 5) (sp := F 22) hR (by omega) (by omega)
  have hb1 := hr_bd (S := S) (e := S 5) (sp := F 22 + 1) hR (by omega) (by omega)
  have hs0 := SX_bd (hr S (S 5) (F 22)) (show 2 < nST by decide)
  have hs1 := SX_bd (hr S (S 5) (F 22 + 1)) (show 2 < nST by decide)
  have hsl := stl_bd 2 (by decide)
  refine w_aload_n (pc := 0) hC dX3_readNumber_0 0 rfl rfl ?_
  refine w_ldcS (pc := 1) (index := 109) (i := 2) (tx := "0123456789") hC dX3_readNumber_1 (List.mem_of_getElem? (i := 2) rfl) ?_
  refine w_callV (pc := 3) (As := [.ref (G.2.2.1 2)]) (rest := []) hC dX3_readNumber_3 cv_X3_60 (c_X3_takeOneOf (kl K) G A D I F Q P S 2 (show RI S from by first | assumption | omega) (show LRn G.2.1 S I F Q P from by exact hL) (show (F 21) = S 5 from by first | assumption | omega) (show 0 ≤ (F 22) ∧ (F 22) ≤ S 5 from by first | assumption | omega) (show 2 < nST from by decide)) (by decide) ⟨Nat.le_of_ble_eq_true rfl, Nat.le_of_ble_eq_true rfl⟩ (q0 := 47) CW_47 rfl rfl rfl (Nat.le_of_ble_eq_true rfl) rfl (fun vo wo hv => ?_)
  obtain ⟨g22_3, hv1, hw1, r3⟩ := hv
  rw [hv1, hw1]
  show WW K G 0 0 (CW A D (A 11) G.2.1 I (fu F 22 g22_3) Q P) 6 [(0, .ref (A 47))] [.int (J (SX 2 (hr S (S 5) (F 22))))]
  have r3 : g22_3 = if SX 2 (hr S (S 5) (F 22)) = -1 then (F 22) else (F 22) + 1 := r3
  refine w_istore_n (pc := 6) hC dX3_readNumber_6 rfl (lv2 := [(1, .int (J (SX 2 (hr S (S 5) (F 22))))), (0, .ref (A 47))]) (by rw [hnL]; decide) rfl ?_
  refine w_iload_n (pc := 7) hC dX3_readNumber_7 0 rfl rfl ?_
  refine w_if_gt (pc := 8) (tgt := 13) hC dX3_readNumber_8 (by decide) (by omega) (fun c8 => ?_) (fun c8 => ?_)
  · obtain ⟨d1, d2, d3, d4⟩ := rn_hi hb0 hb1 c8
    have hlt : F 22 < S 5 := hr_at (rfl : hr S (S 5) (F 22) = hr S (S 5) (F 22)) (by omega)
    have eA : g22_3 = F 22 + 1 := by rw [r3, if_neg (by omega)]
    rw [eA]
    show WW K G 0 0 (CW A D (A 11) G.2.1 I (fu F 22 (F 22 + 1)) Q P) 13 [(1, .int (J (SX 2 (hr S (S 5) (F 22))))), (0, .ref (A 47))] []
    refine w_aload_n (pc := 13) hC dX3_readNumber_13 1 rfl rfl ?_
    refine w_ldcS (pc := 14) (index := 109) (i := 2) (tx := "0123456789") hC dX3_readNumber_14 (List.mem_of_getElem? (i := 2) rfl) ?_
    refine w_callV (pc := 16) (As := [.ref (G.2.2.1 2)]) (rest := []) hC dX3_readNumber_16 cv_X3_60 (c_X3_takeOneOf (kl K) G A D I (fu F 22 (F 22 + 1)) Q P S 2 (show RI S from by first | assumption | omega) (show LRn G.2.1 S I (fu F 22 (F 22 + 1)) Q P from by exact (LRb_fu (by decide) hL)) (show (F 21) = S 5 from by first | assumption | omega) (show 0 ≤ (F 22 + 1) ∧ (F 22 + 1) ≤ S 5 from by first | assumption | omega) (show 2 < nST from by decide)) (by decide) ⟨Nat.le_of_ble_eq_true rfl, Nat.le_of_ble_eq_true rfl⟩ (q0 := 47) CW_47 rfl rfl rfl (Nat.le_of_ble_eq_true rfl) rfl (fun vo wo hv => ?_)
    obtain ⟨g22_16, hv1, hw1, r16⟩ := hv
    rw [hv1, hw1]
    refine w_weq (CW_cong rfl (fu_th rfl fu_rp) rfl) ?_
    show WW K G 0 0 (CW A D (A 11) G.2.1 I (fu F 22 g22_16) Q P) 19 [(1, .int (J (SX 2 (hr S (S 5) (F 22))))), (0, .ref (A 47))] [.int (J (SX 2 (hr S (S 5) (F 22 + 1))))]
    have r16 : g22_16 = if SX 2 (hr S (S 5) (F 22 + 1)) = -1 then (F 22 + 1) else (F 22 + 1) + 1 := r16
    refine w_istore_n (pc := 19) hC dX3_readNumber_19 rfl (lv2 := [(2, .int (J (SX 2 (hr S (S 5) (F 22 + 1))))), (1, .int (J (SX 2 (hr S (S 5) (F 22))))), (0, .ref (A 47))]) (by rw [hnL]; decide) rfl ?_
    refine w_iload_n (pc := 20) hC dX3_readNumber_20 0 rfl rfl ?_
    refine w_if_ge (pc := 21) (tgt := 28) hC dX3_readNumber_21 (by decide) (by omega) (fun c21 => ?_) (fun c21 => ?_)
    · refine w_iload_n (pc := 28) hC dX3_readNumber_28 1 rfl rfl ?_
      refine w_bipush (pc := 29) hC dX3_readNumber_29 (z := 10) rfl ?_
      refine w_imul (pc := 31) hC dX3_readNumber_31 ?_
      refine w_iload_n (pc := 32) hC dX3_readNumber_32 0 rfl rfl ?_
      refine w_iadd (pc := 33) hC dX3_readNumber_33 ?_
      refine w_iret (pc := 34) hC hRT dX3_readNumber_34 rfl ?_
      refine ⟨g22_16, retI (by rw [if_pos d1]; first | exact (d3 (by omega)).1 | exact (d4 (by omega)).1), rfl, ?_⟩
      · rw [if_pos d1, r16]; first | rw [if_pos (d3 (by omega)).2.1, (d3 (by omega)).2.2] | rw [if_neg (by omega), (d4 (by omega)).2]
    · refine w_iload_n (pc := 24) hC dX3_readNumber_24 1 rfl rfl ?_
      refine w_goto (pc := 25) hC dX3_readNumber_25 (tgt := 34) (by decide) ?_
      refine w_iret (pc := 34) hC hRT dX3_readNumber_34 rfl ?_
      refine ⟨g22_16, retI (by rw [if_pos d1]; first | exact (d3 (by omega)).1 | exact (d4 (by omega)).1), rfl, ?_⟩
      · rw [if_pos d1, r16]; first | rw [if_pos (d3 (by omega)).2.1, (d3 (by omega)).2.2] | rw [if_neg (by omega), (d4 (by omega)).2]
  · refine w_iload_n (pc := 11) hC dX3_readNumber_11 0 rfl rfl ?_
    refine w_iret (pc := 12) hC hRT dX3_readNumber_12 rfl ?_
    refine ⟨g22_3, retI (by exact (rn_lo hb0 c8).1), rfl, ?_⟩
    · rw [r3]; exact (rn_lo hb0 c8).2
