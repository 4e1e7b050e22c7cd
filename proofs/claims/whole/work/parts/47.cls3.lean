
theorem byf_bd {S : Int → Int} {a b rung u day : Int} (h0 : 0 ≤ a ∧ a < 6) (h1 : 0 ≤ b ∧ b < 6) (h2 : 0 ≤ rung ∧ rung < 6) (h3 : 0 ≤ u ∧ u < 7) (h4 : 0 ≤ S (130 + 6 * a + b) ∧ S (130 + 6 * a + b) ≤ 100) (h5 : 0 ≤ day) (j : Int) : -2147483648 ≤ byf S a b rung u day j ∧ byf S a b rung u day j < 2147483648 := by
  unfold byf
  repeat' split
  all_goals omega
theorem mb_yes {P : Int → Bool} {f : Int → Int} {x u : Int} (h : 1 ≤ u) (i : x = mskN P f (u - 1).toNat) (hp : P u = true) : ior x (1 * 2 ^ (f u).toNat) = mskN P f (u + 1 - 1).toNat := by
  rw [show u + 1 - 1 = u by omega, mskN_s P f h, if_pos hp, Int.one_mul, i]
theorem mb_no {P : Int → Bool} {f : Int → Int} {x u : Int} (h : 1 ≤ u) (i : x = mskN P f (u - 1).toNat) (hx : 0 ≤ x) (hp : ¬ P u = true) : x = mskN P f (u + 1 - 1).toNat := by
  rw [show u + 1 - 1 = u by omega, mskN_s P f h, if_neg hp, ← i, ior_0 hx]
theorem hope_bd {w x : Int} (h : 0 ≤ w ∧ w ≤ 6) (g : 0 ≤ x ∧ x ≤ 100) : 0 ≤ w * x ∧ w * x ≤ 600 := by
  have a := Int.mul_nonneg h.1 g.1
  have b : w * x ≤ 6 * x := Int.mul_le_mul_of_nonneg_right h.2 g.1
  omega
/-- the classes of askers, by their kinds -/
def kCn (k : Int) : String := if k = 0 then RX0 else if k = 1 then RX7 else if k = 2 then RX5 else if k = 3 then RX9 else if k = 4 then RX1 else if k = 5 then RX10 else RX8
def kTn (k : Int) : u_T := if k = 0 then TX0 else if k = 1 then TX7 else if k = 2 then TX5 else if k = 3 then TX9 else if k = 4 then TX1 else if k = 5 then TX10 else TX8
theorem k7 {k : Int} (h : 0 ≤ k ∧ k ≤ 6) : k = 0 ∨ k = 1 ∨ k = 2 ∨ k = 3 ∨ k = 4 ∨ k = 5 ∨ k = 6 := by omega
theorem fik_9 {k : Int} (h : 0 ≤ k ∧ k ≤ 6) : FI RX0 9 (kci k) 0 (kCn k) (kTn k) 2 := by
  rcases k7 h with e | e | e | e | e | e | e <;> subst e
  · exact fi_X0_9
  · exact ⟨rfl, by decide, fi_X0_9.2.2.1, inX7⟩
  · exact ⟨rfl, by decide, fi_X0_9.2.2.1, inX5⟩
  · exact ⟨rfl, by decide, fi_X0_9.2.2.1, inX9⟩
  · exact ⟨rfl, by decide, fi_X0_9.2.2.1, inX1⟩
  · exact ⟨rfl, by decide, fi_X0_9.2.2.1, inX10⟩
  · exact ⟨rfl, by decide, fi_X0_9.2.2.1, inX8⟩
theorem fik_15 {k : Int} (h : 0 ≤ k ∧ k ≤ 6) : FI RX0 15 (kci k) 1 (kCn k) (kTn k) 2 := by
  rcases k7 h with e | e | e | e | e | e | e <;> subst e
  · exact fi_X0_15
  · exact ⟨rfl, by decide, fi_X0_15.2.2.1, inX7⟩
  · exact ⟨rfl, by decide, fi_X0_15.2.2.1, inX5⟩
  · exact ⟨rfl, by decide, fi_X0_15.2.2.1, inX9⟩
  · exact ⟨rfl, by decide, fi_X0_15.2.2.1, inX1⟩
  · exact ⟨rfl, by decide, fi_X0_15.2.2.1, inX10⟩
  · exact ⟨rfl, by decide, fi_X0_15.2.2.1, inX8⟩

set_option maxRecDepth 100000 in
set_option maxHeartbeats 4000000 in
theorem c_X0_number (l : Launch) (G : GT) (A D : Nat → Nat) (T : Nat) (I : Nat → Int → Int) (F : Nat → Int) (Q : Nat → Nat → Option Nat) (P : va_W) (i0 : Nat) (k : Int) (m : Int) (v : Int) (q : Nat) (hq : P[i0]? = some (q, .inr (kci k, [.int (J m), .int (J v)]))) (hk : 0 ≤ k ∧ k ≤ 6) : CT l yX0_number cX0_number 1 (some .int) 0 0 0 G [.ref q] (CW A D T G.2.1 I F Q P) (fun vo wo => vo = some (.int (J m)) ∧ wo = CW A D T G.2.1 I F Q P) := by
  refine CT_of (own := RX0) rfl rfl (Nat.le_of_ble_eq_true rfl) (fun K hl hnL hC hRT hin => ?_)
  subst hl
  show WW K G 0 0 (CW A D T G.2.1 I F Q P) 0 [(0, .ref q)] []
  refine w_aload_n (pc := 0) hC dX0_number_0 0 rfl rfl ?_
  refine w_getf (pc := 1) (v := .int (J m)) hC dX0_number_1 (fik_9 hk) (60 + i0) (CW_P hq) rfl ?_
  refine w_iret (pc := 4) hC hRT dX0_number_4 rfl ?_
  refine ⟨retI (by first | rfl | exact (bI_t (by omega)).symm | exact (bI_f (by omega)).symm | omega), rfl⟩
set_option maxRecDepth 100000 in
set_option maxHeartbeats 4000000 in
theorem c_X0_v (l : Launch) (G : GT) (A D : Nat → Nat) (T : Nat) (I : Nat → Int → Int) (F : Nat → Int) (Q : Nat → Nat → Option Nat) (P : va_W) (i0 : Nat) (k : Int) (m : Int) (v : Int) (q : Nat) (hq : P[i0]? = some (q, .inr (kci k, [.int (J m), .int (J v)]))) (hk : 0 ≤ k ∧ k ≤ 6) : CT l yX0_v cX0_v 1 (some .int) 0 0 0 G [.ref q] (CW A D T G.2.1 I F Q P) (fun vo wo => vo = some (.int (J v)) ∧ wo = CW A D T G.2.1 I F Q P) := by
  refine CT_of (own := RX0) rfl rfl (Nat.le_of_ble_eq_true rfl) (fun K hl hnL hC hRT hin => ?_)
  subst hl
  show WW K G 0 0 (CW A D T G.2.1 I F Q P) 0 [(0, .ref q)] []
  refine w_aload_n (pc := 0) hC dX0_v_0 0 rfl rfl ?_
  refine w_getf (pc := 1) (v := .int (J v)) hC dX0_v_1 (fik_15 hk) (60 + i0) (CW_P hq) rfl ?_
  refine w_iret (pc := 4) hC hRT dX0_v_4 rfl ?_
  refine ⟨retI (by first | rfl | exact (bI_t (by omega)).symm | exact (bI_f (by omega)).symm | omega), rfl⟩
set_option maxRecDepth 100000 in
set_option maxHeartbeats 4000000 in
theorem c_X0_kind (l : Launch) (G : GT) (A D : Nat → Nat) (T : Nat) (I : Nat → Int → Int) (F : Nat → Int) (Q : Nat → Nat → Option Nat) (P : va_W)  (q : Nat)  : CT l yX0_kind cX0_kind 1 (some .int) 0 0 0 G [.ref q] (CW A D T G.2.1 I F Q P) (fun vo wo => vo = some (.int (J 0)) ∧ wo = CW A D T G.2.1 I F Q P) := by
  refine CT_of (own := RX0) rfl rfl (Nat.le_of_ble_eq_true rfl) (fun K hl hnL hC hRT hin => ?_)
  subst hl
  show WW K G 0 0 (CW A D T G.2.1 I F Q P) 0 [(0, .ref q)] []
  refine w_iconst (pc := 0) hC dX0_kind_0 ?_
  refine w_iret (pc := 1) hC hRT dX0_kind_1 rfl ?_
  refine ⟨retI (by first | rfl | exact (bI_t (by omega)).symm | exact (bI_f (by omega)).symm | omega), rfl⟩
set_option maxRecDepth 100000 in
set_option maxHeartbeats 4000000 in
theorem c_X7_kind (l : Launch) (G : GT) (A D : Nat → Nat) (T : Nat) (I : Nat → Int → Int) (F : Nat → Int) (Q : Nat → Nat → Option Nat) (P : va_W)  (q : Nat)  : CT l yX7_kind cX7_kind 1 (some .int) 0 0 0 G [.ref q] (CW A D T G.2.1 I F Q P) (fun vo wo => vo = some (.int (J 1)) ∧ wo = CW A D T G.2.1 I F Q P) := by
  refine CT_of (own := RX7) rfl rfl (Nat.le_of_ble_eq_true rfl) (fun K hl hnL hC hRT hin => ?_)
  subst hl
  show WW K G 0 0 (CW A D T G.2.1 I F Q P) 0 [(0, .ref q)] []
  refine w_iconst (pc := 0) hC dX7_kind_0 ?_
  refine w_iret (pc := 1) hC hRT dX7_kind_1 rfl ?_
  refine ⟨retI (by first | rfl | exact (bI_t (by omega)).symm | exact (bI_f (by omega)).symm | omega), rfl⟩
set_option maxRecDepth 100000 in
set_option maxHeartbeats 4000000 in
theorem c_X5_kind (l : Launch) (G : GT) (A D : Nat → Nat) (T : Nat) (I : Nat → Int → Int) (F : Nat → Int) (Q : Nat → Nat → Option Nat) (P : va_W)  (q : Nat)  : CT l yX5_kind cX5_kind 1 (some .int) 0 0 0 G [.ref q] (CW A D T G.2.1 I F Q P) (fun vo wo => vo = some (.int (J 2)) ∧ wo = CW A D T G.2.1 I F Q P) := by
  refine CT_of (own := RX5) rfl rfl (Nat.le_of_ble_eq_true rfl) (fun K hl hnL hC hRT hin => ?_)
  subst hl
  show WW K G 0 0 (CW A D T G.2.1 I F Q P) 0 [(0, .ref q)] []
  refine w_iconst (pc := 0) hC dX5_kind_0 ?_
  refine w_iret (pc := 1) hC hRT dX5_kind_1 rfl ?_
  refine ⟨retI (by first | rfl | exact (bI_t (by omega)).symm | exact (bI_f (by omega)).symm | omega), rfl⟩
set_option maxRecDepth 100000 in
set_option maxHeartbeats 4000000 in
theorem c_X9_kind (l : Launch) (G : GT) (A D : Nat → Nat) (T : Nat) (I : Nat → Int → Int) (F : Nat → Int) (Q : Nat → Nat → Option Nat) (P : va_W)  (q : Nat)  : CT l yX9_kind cX9_kind 1 (some .int) 0 0 0 G [.ref q] (CW A D T G.2.1 I F Q P) (fun vo wo => vo = some (.int (J 3)) ∧ wo = CW A D T G.2.1 I F Q P) := by
  refine CT_of (own := RX9) rfl rfl (Nat.le_of_ble_eq_true rfl) (fun K hl hnL hC hRT hin => ?_)
  subst hl
  show WW K G 0 0 (CW A D T G.2.1 I F Q P) 0 [(0, .ref q)] []
  refine w_iconst (pc := 0) hC dX9_kind_0 ?_
  refine w_iret (pc := 1) hC hRT dX9_kind_1 rfl ?_
  refine ⟨retI (by first | rfl | exact (bI_t (by omega)).symm | exact (bI_f (by omega)).symm | omega), rfl⟩
set_option maxRecDepth 100000 in
set_option maxHeartbeats 4000000 in
theorem c_X1_kind (l : Launch) (G : GT) (A D : Nat → Nat) (T : Nat) (I : Nat → Int → Int) (F : Nat → Int) (Q : Nat → Nat → Option Nat) (P : va_W)  (q : Nat)  : CT l yX1_kind cX1_kind 1 (some .int) 0 0 0 G [.ref q] (CW A D T G.2.1 I F Q P) (fun vo wo => vo = some (.int (J 4)) ∧ wo = CW A D T G.2.1 I F Q P) := by
  refine CT_of (own := RX1) rfl rfl (Nat.le_of_ble_eq_true rfl) (fun K hl hnL hC hRT hin => ?_)
  subst hl
  show WW K G 0 0 (CW A D T G.2.1 I F Q P) 0 [(0, .ref q)] []
  refine w_iconst (pc := 0) hC dX1_kind_0 ?_
  refine w_iret (pc := 1) hC hRT dX1_kind_1 rfl ?_
  refine ⟨retI (by first | rfl | exact (bI_t (by omega)).symm | exact (bI_f (by omega)).symm | omega), rfl⟩
set_option maxRecDepth 100000 in
set_option maxHeartbeats 4000000 in
theorem c_X10_kind (l : Launch) (G : GT) (A D : Nat → Nat) (T : Nat) (I : Nat → Int → Int) (F : Nat → Int) (Q : Nat → Nat → Option Nat) (P : va_W)  (q : Nat)  : CT l yX10_kind cX10_kind 1 (some .int) 0 0 0 G [.ref q] (CW A D T G.2.1 I F Q P) (fun vo wo => vo = some (.int (J 5)) ∧ wo = CW A D T G.2.1 I F Q P) := by
  refine CT_of (own := RX10) rfl rfl (Nat.le_of_ble_eq_true rfl) (fun K hl hnL hC hRT hin => ?_)
  subst hl
  show WW K G 0 0 (CW A D T G.2.1 I F Q P) 0 [(0, .ref q)] []
  refine w_iconst (pc := 0) hC dX10_kind_0 ?_
  refine w_iret (pc := 1) hC hRT dX10_kind_1 rfl ?_
  refine ⟨retI (by first | rfl | exact (bI_t (by omega)).symm | exact (bI_f (by omega)).symm | omega), rfl⟩
set_option maxRecDepth 100000 in
set_option maxHeartbeats 4000000 in
theorem c_X8_kind (l : Launch) (G : GT) (A D : Nat → Nat) (T : Nat) (I : Nat → Int → Int) (F : Nat → Int) (Q : Nat → Nat → Option Nat) (P : va_W)  (q : Nat)  : CT l yX8_kind cX8_kind 1 (some .int) 0 0 0 G [.ref q] (CW A D T G.2.1 I F Q P) (fun vo wo => vo = some (.int (J 6)) ∧ wo = CW A D T G.2.1 I F Q P) := by
  refine CT_of (own := RX8) rfl rfl (Nat.le_of_ble_eq_true rfl) (fun K hl hnL hC hRT hin => ?_)
  subst hl
  show WW K G 0 0 (CW A D T G.2.1 I F Q P) 0 [(0, .ref q)] []
  refine w_bipush (pc := 0) hC dX8_kind_0 (z := 6) rfl ?_
  refine w_iret (pc := 2) hC hRT dX8_kind_2 rfl ?_
  refine ⟨retI (by first | rfl | exact (bI_t (by omega)).symm | exact (bI_f (by omega)).symm | omega), rfl⟩
set_option maxRecDepth 100000 in
set_option maxHeartbeats 4000000 in
theorem c_X6_mayBits_v2 (l : Launch) (G : GT) (A D : Nat → Nat) (T : Nat) (I : Nat → Int → Int) (F : Nat → Int) (Q : Nat → Nat → Option Nat) (P : va_W) (S : Int → Int) (c : Int) (b : Int) (qb : Nat) (rung : Int) (day : Int) (hR : RI S) (hL : LRn G.2.1 S I F Q P) (hc : 0 ≤ c ∧ c < S 1) (hcl : CLB P G.2.1 S c qb) (hV : VB (S 0) b) (hB : ∀ r : Int, 0 ≤ r → r < S 0 → (I 2) r = dg b r) (hr : 0 ≤ rung ∧ rung < S 0) (hd : 0 ≤ day ∧ day ≤ 5000) : CT l yX6_mayBits cX6_mayBits 9 (some .int) 2 0 0 G [.ref (A 1), .ref qb, .ref (A 2), .int (J rung), .int (J day)] (CW A D T G.2.1 I F Q P) (fun vo wo => ∃ (b23 : Int → Int), vo = some (.int (J (MSK S c (-1) b (dg b rung) day))) ∧ wo = CW A D T G.2.1 (au I 23 b23) F Q P) := by
  refine CT_of (own := RX6) rfl rfl (Nat.le_of_ble_eq_true rfl) (fun K hl hnL hC hRT hin => ?_)
  subst hl
  show WW K G 0 0 (CW A D T G.2.1 I F Q P) 0 [(0, .ref (A 1)), (1, .ref qb), (2, .ref (A 2)), (3, .int (J rung)), (4, .int (J day))] []
  have hn := hR.n
  have hcl2 := hcl
  obtain ⟨i, j, qc, g, hq, hqc, hg⟩ := hcl2
  have g1 := VB_dg hV hr.1 hr.2
  have hup := hR.up (178 + c) (by have := hR.cl; omega) (by have := hR.cl; omega)
  have hf : ∀ k : Nat, (k : Int) ≤ rung → ∀ z : Int, 1 ≤ z → z ≤ (k : Int) → 0 ≤ dg b (rung - z) ∧ dg b (rung - z) < 6 := fun k e z z1 z2 => by have := VB_dg hV (r := rung - z) (by omega) (by omega); omega
  refine w_aload_n (pc := 0) hC dX6_mayBits_0 2 rfl rfl ?_
  refine w_iload_n (pc := 1) hC dX6_mayBits_1 3 rfl rfl ?_
  refine w_ialdV (pc := 2) (g := (I 2)) (v := dg b rung) hC dX6_mayBits_2 2 CW_2 (by omega) (Nat.le_of_ble_eq_true rfl) (hB _ (by omega) (by omega)) ?_
  refine w_istore (pc := 3) hC dX6_mayBits_3 (lv2 := [(5, .int (J (dg b rung))), (0, .ref (A 1)), (1, .ref qb), (2, .ref (A 2)), (3, .int (J rung)), (4, .int (J day))]) (by rw [hnL]; decide) rfl ?_
  refine w_iconst (pc := 5) hC dX6_mayBits_5 ?_
  refine w_istore (pc := 6) hC dX6_mayBits_6 (lv2 := [(6, .int (J 0)), (5, .int (J (dg b rung))), (0, .ref (A 1)), (1, .ref qb), (2, .ref (A 2)), (3, .int (J rung)), (4, .int (J day))]) (by rw [hnL]; decide) rfl ?_
  refine w_aload_n (pc := 8) hC dX6_mayBits_8 2 rfl rfl ?_
  refine w_getf (pc := 9) (v := .ref (A 23)) hC dX6_mayBits_9 fi_X6_67 1 CW_1 rfl ?_
  refine w_iconst (pc := 12) hC dX6_mayBits_12 ?_
  refine w_iload (pc := 13) hC dX6_mayBits_13 1 rfl ?_
  refine w_iast (pc := 15) (g := (I 23)) (w2 := CW A D T G.2.1 (au I 23 (gu (I 23) 0 (dg b rung))) F Q P) hC dX6_mayBits_15 23 CW_23 (by omega) (Nat.le_of_ble_eq_true rfl) (CWa_23 rfl) ?_
  generalize h15 : gu (I 23) 0 (dg b rung) = s15
  refine w_aload_n (pc := 16) hC dX6_mayBits_16 2 rfl rfl ?_
  refine w_getf (pc := 17) (v := .ref (A 23)) hC dX6_mayBits_17 fi_X6_67 1 CW_1 rfl ?_
  refine w_iconst (pc := 20) hC dX6_mayBits_20 ?_
  refine w_iload_n (pc := 21) hC dX6_mayBits_21 5 rfl rfl ?_
  refine w_iast (pc := 22) (g := s15) (w2 := CW A D T G.2.1 (au I 23 (gu s15 2 rung)) F Q P) hC dX6_mayBits_22 23 CW_23 (by omega) (Nat.le_of_ble_eq_true rfl) (CWa_23 au_rp) ?_
  generalize h22 : gu s15 2 rung = s22
  refine w_aload_n (pc := 23) hC dX6_mayBits_23 2 rfl rfl ?_
  refine w_getf (pc := 24) (v := .ref (A 23)) hC dX6_mayBits_24 fi_X6_67 1 CW_1 rfl ?_
  refine w_iconst (pc := 27) hC dX6_mayBits_27 ?_
  refine w_iload (pc := 28) hC dX6_mayBits_28 6 rfl ?_
  refine w_bipush (pc := 30) hC dX6_mayBits_30 (z := 7) rfl ?_
  refine w_irem (pc := 32) hC dX6_mayBits_32 (by omega) ?_
  refine w_iast (pc := 33) (g := s22) (w2 := CW A D T G.2.1 (au I 23 (gu s22 5 (day % 7))) F Q P) hC dX6_mayBits_33 23 CW_23 (by omega) (Nat.le_of_ble_eq_true rfl) (CWa_23 au_rp) ?_
  generalize h33 : gu s22 5 (day % 7) = s33
  refine w_iconst (pc := 34) hC dX6_mayBits_34 ?_
  refine w_istore (pc := 35) hC dX6_mayBits_35 (lv2 := [(7, .int (J 1)), (6, .int (J 0)), (5, .int (J (dg b rung))), (0, .ref (A 1)), (1, .ref qb), (2, .ref (A 2)), (3, .int (J rung)), (4, .int (J day))]) (by rw [hnL]; decide) rfl ?_
  have loop37 : ∀ (nF : Nat) (x : Int) (u : Int) (a23_37 : Int → Int), (1 ≤ u) → ((u ≤ rung + 1 ∨ u = 1) ∧ (u ≤ S (178 + c) + 1 ∨ u = 1)) → (x = mskN (fun z => decide (MAY S c (-1) b (dg b rung) rung day z)) (fun z => dg b (rung - z)) (u - 1).toNat) → (a23_37 0 = dg b rung) → (a23_37 2 = rung) → (a23_37 5 = day % 7) → (rung + 2 - u) < (nF : Int) → WW K G 0 0 (CW A D T G.2.1 (au I 23 a23_37) F Q P) 37 [(0, .ref (A 1)), (1, .ref qb), (2, .ref (A 2)), (3, .int (J rung)), (5, .int (J (dg b rung))), (6, .int (J x)), (7, .int (J u))] [] := by
    intro nF
    induction nF with
    | zero => intro x u a23_37 i1 i2 i3 f0 f2 f5 hm37; exact absurd hm37 (by omega)
    | succ nF ih37 =>
      intro x u a23_37 i1 i2 i3 f0 f2 f5 hm37
      have bb := mskN_bd (fun z => decide (MAY S c (-1) b (dg b rung) rung day z)) (fun z => dg b (rung - z)) (u - 1).toNat (hf _ (by omega))
      rw [← i3] at bb
      refine w_iload (pc := 37) hC dX6_mayBits_37 6 rfl ?_
      refine w_aload_n (pc := 39) hC dX6_mayBits_39 1 rfl rfl ?_
      refine w_getfN (pc := 40) (v := .int (J (S (178 + c)))) hC dX6_mayBits_40 fn_X6_87 (60 + i) (CW_P hq) rfl ?_
      refine w_icmp_gt (pc := 43) (tgt := 118) hC dX6_mayBits_43 (by decide) (by omega) (fun c43 => ?_) (fun c43 => ?_)
      · refine w_iload (pc := 118) hC dX6_mayBits_118 5 rfl ?_
        refine w_iret (pc := 120) hC hRT dX6_mayBits_120 rfl ?_
        refine ⟨a23_37, retI (by rw [i3, MSK_ru hV hr, show (imin (S (178 + c)) rung).toNat = (u - 1).toNat by unfold imin; split <;> omega]), rfl⟩
      · refine w_iload (pc := 46) hC dX6_mayBits_46 6 rfl ?_
        refine w_iload_n (pc := 48) hC dX6_mayBits_48 3 rfl rfl ?_
        refine w_icmp_gt (pc := 49) (tgt := 118) hC dX6_mayBits_49 (by decide) (by omega) (fun c49 => ?_) (fun c49 => ?_)
        · refine w_iload (pc := 118) hC dX6_mayBits_118 5 rfl ?_
          refine w_iret (pc := 120) hC hRT dX6_mayBits_120 rfl ?_
          refine ⟨a23_37, retI (by rw [i3, MSK_ru hV hr, show (imin (S (178 + c)) rung).toNat = (u - 1).toNat by unfold imin; split <;> omega]), rfl⟩
        · have g2 := VB_dg hV (r := rung - u) (by omega) (by omega)
          have g3 := hR.ch g1 g2
          have g5 := p2_6 (x := dg b (rung - u)) (by omega) (by omega)
          refine w_aload_n (pc := 52) hC dX6_mayBits_52 2 rfl rfl ?_
          refine w_iload_n (pc := 53) hC dX6_mayBits_53 3 rfl rfl ?_
          refine w_iload (pc := 54) hC dX6_mayBits_54 6 rfl ?_
          refine w_isub (pc := 56) hC dX6_mayBits_56 ?_
          refine w_ialdV (pc := 57) (g := (I 2)) (v := dg b (rung - u)) hC dX6_mayBits_57 2 CW_2 (by omega) (Nat.le_of_ble_eq_true rfl) (hB _ (by omega) (by omega)) ?_
          refine w_istore (pc := 58) hC dX6_mayBits_58 (lv2 := [(8, .int (J (dg b (rung - u)))), (0, .ref (A 1)), (1, .ref qb), (2, .ref (A 2)), (3, .int (J rung)), (5, .int (J (dg b rung))), (6, .int (J x)), (7, .int (J u))]) (by rw [hnL]; decide) rfl ?_
          refine w_aload_n (pc := 60) hC dX6_mayBits_60 1 rfl rfl ?_
          refine w_getf (pc := 61) (v := .ref (A 23)) hC dX6_mayBits_61 fi_X6_67 1 CW_1 rfl ?_
          refine w_iconst (pc := 64) hC dX6_mayBits_64 ?_
          refine w_iload (pc := 65) hC dX6_mayBits_65 0 rfl ?_
          refine w_iast (pc := 67) (g := a23_37) (w2 := CW A D T G.2.1 (au I 23 (gu a23_37 1 (dg b (rung - u)))) F Q P) hC dX6_mayBits_67 23 CW_23 (by omega) (Nat.le_of_ble_eq_true rfl) (CWa_23 au_rp) ?_
          generalize h67 : gu a23_37 1 (dg b (rung - u)) = s67
          refine w_aload_n (pc := 68) hC dX6_mayBits_68 1 rfl rfl ?_
          refine w_getf (pc := 69) (v := .ref (A 23)) hC dX6_mayBits_69 fi_X6_67 1 CW_1 rfl ?_
          refine w_iconst (pc := 72) hC dX6_mayBits_72 ?_
          refine w_iload (pc := 73) hC dX6_mayBits_73 7 rfl ?_
          refine w_iast (pc := 75) (g := s67) (w2 := CW A D T G.2.1 (au I 23 (gu s67 3 u)) F Q P) hC dX6_mayBits_75 23 CW_23 (by omega) (Nat.le_of_ble_eq_true rfl) (CWa_23 au_rp) ?_
          generalize h75 : gu s67 3 u = s75
          refine w_aload_n (pc := 76) hC dX6_mayBits_76 1 rfl rfl ?_
          refine w_getf (pc := 77) (v := .ref (A 23)) hC dX6_mayBits_77 fi_X6_67 1 CW_1 rfl ?_
          refine w_iconst (pc := 80) hC dX6_mayBits_80 ?_
          refine w_aload_n (pc := 81) hC dX6_mayBits_81 1 rfl rfl ?_
          refine w_getf (pc := 82) (v := .ref (A 3)) hC dX6_mayBits_82 fi_X6_21 1 CW_1 rfl ?_
          refine w_iload (pc := 85) hC dX6_mayBits_85 5 rfl ?_
          refine w_aaldS (t0 := 6) (q := A (4 + (dg b rung).toNat)) hC dX6_mayBits_87 3 CW_3 rfl rfl (by omega) (Nat.le_of_ble_eq_true rfl) (rw6_at (by omega)) ?_
          refine w_iload (pc := 88) hC dX6_mayBits_88 0 rfl ?_
          refine w_ialdV (pc := 90) (v := S (130 + 6 * (dg b rung) + (dg b (rung - u)))) hC dX6_mayBits_90 (4 + (dg b rung).toNat) (CW_ch (by omega) (by omega)) (by omega) (Nat.le_of_ble_eq_true rfl) (l_ch (LRb_au (by decide) hL) hR (by omega) (by omega) (by omega) (by omega)) ?_
          refine w_iast (pc := 91) (g := s75) (w2 := CW A D T G.2.1 (au I 23 (gu s75 4 (S (130 + 6 * (dg b rung) + (dg b (rung - u)))))) F Q P) hC dX6_mayBits_91 23 CW_23 (by omega) (Nat.le_of_ble_eq_true rfl) (CWa_23 au_rp) ?_
          generalize h91 : gu s75 4 (S (130 + 6 * (dg b rung) + (dg b (rung - u)))) = s91
          refine w_aload_n (pc := 92) hC dX6_mayBits_92 2 rfl rfl ?_
          refine w_aload_n (pc := 93) hC dX6_mayBits_93 1 rfl rfl ?_
          refine w_getf (pc := 94) (v := .ref (A 23)) hC dX6_mayBits_94 fi_X6_67 1 CW_1 rfl ?_
          refine w_callV (pc := 97) (As := [.ref (A 23)]) (rest := []) hC dX6_mayBits_97 cv_X6_90 (c_X2_lets (kl K) G A D T (au I 23 s91) F Q P S c (byf S (dg b rung) (dg b (rung - u)) rung u day) qb (show 0 ≤ c ∧ c < S 1 from by first | assumption | omega) (show CLB P G.2.1 S c qb from by first | assumption | omega) (show RI S from by first | assumption | omega) (show ∀ j : Int, 0 ≤ j → j < 6 → s91 j = (byf S (dg b rung) (dg b (rung - u)) rung u day) j ∧ -2147483648 ≤ (byf S (dg b rung) (dg b (rung - u)) rung u day) j ∧ (byf S (dg b rung) (dg b (rung - u)) rung u day) j < 2147483648 from by exact fun j j0 j1 => ⟨fct f0 f2 f5 h67 h75 h91 j j0 j1, byf_bd (by omega) (by omega) (by omega) (by omega) g3 (by omega) j⟩)) (by decide) ⟨Nat.le_of_ble_eq_true rfl, Nat.le_of_ble_eq_true rfl⟩ (q0 := (60 + i)) (CW_P hq) rfl rfl rfl (Nat.le_of_ble_eq_true rfl) rfl (fun vo wo hv => ?_)
          obtain ⟨hv1, hw1⟩ := hv
          rw [hv1, hw1]
          show WW K G 0 0 (CW A D T G.2.1 (au I 23 s91) F Q P) 100 [(8, .int (J (dg b (rung - u)))), (0, .ref (A 1)), (1, .ref qb), (2, .ref (A 2)), (3, .int (J rung)), (5, .int (J (dg b rung))), (6, .int (J x)), (7, .int (J u))] [.int (J (bI (LET S c (byf S (dg b rung) (dg b (rung - u)) rung u day))))]
          refine w_if_eq_b (pc := 100) (tgt := 112) hC dX6_mayBits_100 (by decide) (fun c100 => ?_) (fun c100 => ?_)
          · refine w_iinc (pc := 112) hC dX6_mayBits_112 (lv2 := [(7, .int (J (u + 1))), (8, .int (J (dg b (rung - u)))), (0, .ref (A 1)), (1, .ref qb), (2, .ref (A 2)), (3, .int (J rung)), (5, .int (J (dg b rung))), (6, .int (J x))]) 7 rfl (by rw [hnL]; decide) rfl ?_
            refine w_goto (pc := 115) hC dX6_mayBits_115 (tgt := 37) (by decide) ?_
            refine w_sub [2, 3, 4, 5, 6, 7, 0] (lv2 := [(0, .ref (A 1)), (1, .ref qb), (2, .ref (A 2)), (3, .int (J rung)), (5, .int (J (dg b rung))), (6, .int (J x)), (7, .int (J (u + 1)))]) rfl ?_
            refine ih37 x (u + 1) s91 ?_ ?_ ?_ ?_ ?_ ?_ ?_
            · first | assumption | omega
            · omega
            · first | exact mb_yes i1 i3 (by simp only [decide_eq_true_eq]; exact ⟨by omega, c100⟩) | exact mb_no i1 i3 (by omega) (by simp only [decide_eq_true_eq]; exact fun h9 => c100 h9.2)
            · rw [← h91, ← h75, ← h67]; exact f0
            · rw [← h91, ← h75, ← h67]; exact f2
            · rw [← h91, ← h75, ← h67]; exact f5
            · omega
          · refine w_iload (pc := 103) hC dX6_mayBits_103 6 rfl ?_
            refine w_iconst (pc := 105) hC dX6_mayBits_105 ?_
            refine w_iload (pc := 106) hC dX6_mayBits_106 0 rfl ?_
            refine w_ishl (pc := 108) hC dX6_mayBits_108 (by omega) ?_
            refine w_ior (pc := 109) hC dX6_mayBits_109 (v := ior x (1 * 2 ^ (dg b (rung - u)).toNat)) (J_or (by omega)) ?_
            refine w_istore (pc := 110) hC dX6_mayBits_110 (lv2 := [(6, .int (J (ior x (1 * 2 ^ (dg b (rung - u)).toNat)))), (8, .int (J (dg b (rung - u)))), (0, .ref (A 1)), (1, .ref qb), (2, .ref (A 2)), (3, .int (J rung)), (5, .int (J (dg b rung))), (7, .int (J u))]) (by rw [hnL]; decide) rfl ?_
            refine w_iinc (pc := 112) hC dX6_mayBits_112 (lv2 := [(7, .int (J (u + 1))), (6, .int (J (ior x (1 * 2 ^ (dg b (rung - u)).toNat)))), (8, .int (J (dg b (rung - u)))), (0, .ref (A 1)), (1, .ref qb), (2, .ref (A 2)), (3, .int (J rung)), (5, .int (J (dg b rung)))]) 7 rfl (by rw [hnL]; decide) rfl ?_
            refine w_goto (pc := 115) hC dX6_mayBits_115 (tgt := 37) (by decide) ?_
            refine w_sub [3, 4, 5, 6, 7, 1, 0] (lv2 := [(0, .ref (A 1)), (1, .ref qb), (2, .ref (A 2)), (3, .int (J rung)), (5, .int (J (dg b rung))), (6, .int (J (ior x (1 * 2 ^ (dg b (rung - u)).toNat)))), (7, .int (J (u + 1)))]) rfl ?_
            refine ih37 (ior x (1 * 2 ^ (dg b (rung - u)).toNat)) (u + 1) s91 ?_ ?_ ?_ ?_ ?_ ?_ ?_
            · first | assumption | omega
            · omega
            · first | exact mb_yes i1 i3 (by simp only [decide_eq_true_eq]; exact ⟨by omega, c100⟩) | exact mb_no i1 i3 (by omega) (by simp only [decide_eq_true_eq]; exact fun h9 => c100 h9.2)
            · rw [← h91, ← h75, ← h67]; exact f0
            · rw [← h91, ← h75, ← h67]; exact f2
            · rw [← h91, ← h75, ← h67]; exact f5
            · omega
  refine w_sub [3, 4, 5, 6, 2, 1, 0] (lv2 := [(0, .ref (A 1)), (1, .ref qb), (2, .ref (A 2)), (3, .int (J rung)), (5, .int (J (dg b rung))), (6, .int (J 0)), (7, .int (J 1))]) rfl ?_
  refine loop37 ((rung + 2 - 1) + 1 : Int).toNat 0 1 s33 ?_ ?_ ?_ ?_ ?_ ?_ ?_
  · first | assumption | omega
  · omega
  · rfl
  · rw [← h33, ← h22, ← h15]; rfl
  · rw [← h33, ← h22]; rfl
  · rw [← h33]; rfl
  · omega
set_option maxRecDepth 100000 in
set_option maxHeartbeats 4000000 in
theorem c_X0_pick_v2 (l : Launch) (G : GT) (A D : Nat → Nat) (T : Nat) (I : Nat → Int → Int) (F : Nat → Int) (Q : Nat → Nat → Option Nat) (P : va_W) (S : Int → Int) (c : Int) (b : Int) (rf : Int) (day : Int) (i0 : Nat) (q : Nat) (qb : Nat) (rung : Int) (may : Int) (hR : RI S) (hL : LRn G.2.1 S I F Q P) (hc : 0 ≤ c ∧ c < S 1) (hcl : CLB P G.2.1 S c qb) (hV : VB (S 0) b) (hB : ∀ r : Int, 0 ≤ r → r < S 0 → (I 2) r = dg b r) (hr : 0 ≤ rung ∧ rung < S 0) (hq : P[i0]? = some (q, .inr (0, [.int (J (dg b rung)), .int (J (S (172 + dg b rung)))]))) (hk : S (166 + dg b rung) = 0) (hp : PBT S c rf b rung day may) : CT l yX0_pick cX0_pick 10 (some .int) 1 0 0 G [.ref q, .ref (A 3), .ref qb, .ref (A 2), .int (J rung), .int (J may)] (CW A D T G.2.1 I F Q P) (fun vo wo => vo = some (.int (J (PCK S c rf b rung day))) ∧ wo = CW A D T G.2.1 I F Q P) := by
  refine CT_of (own := RX0) rfl rfl (Nat.le_of_ble_eq_true rfl) (fun K hl hnL hC hRT hin => ?_)
  subst hl
  show WW K G 0 0 (CW A D T G.2.1 I F Q P) 0 [(0, .ref q), (1, .ref (A 3)), (2, .ref qb), (3, .ref (A 2)), (4, .int (J rung)), (5, .int (J may))] []
  have hn := hR.n
  have g1 := VB_dg hV hr.1 hr.2
  have hm := hp.1
  have gq : ∀ z : Int, 0 ≤ z → z < S 0 → 0 ≤ dg b z ∧ dg b z < S 0 := fun z z0 z1 => VB_dg hV z0 z1
  have gc : ∀ z : Int, 0 ≤ z → z < S 0 → 0 ≤ S (130 + 6 * dg b rung + dg b z) ∧ S (130 + 6 * dg b rung + dg b z) ≤ 100 := fun z z0 z1 => hR.ch g1 (gq z z0 z1)
  refine w_bipush (pc := 0) hC dX0_pick_0 (z := (-5)) rfl ?_
  refine w_istore (pc := 2) hC dX0_pick_2 (lv2 := [(6, .int (J (-5))), (0, .ref q), (1, .ref (A 3)), (2, .ref qb), (3, .ref (A 2)), (4, .int (J rung)), (5, .int (J may))]) (by rw [hnL]; decide) rfl ?_
  refine w_iconst (pc := 4) hC dX0_pick_4 ?_
  refine w_istore (pc := 5) hC dX0_pick_5 (lv2 := [(7, .int (J (-1))), (6, .int (J (-5))), (0, .ref q), (1, .ref (A 3)), (2, .ref qb), (3, .ref (A 2)), (4, .int (J rung)), (5, .int (J may))]) (by rw [hnL]; decide) rfl ?_
  refine w_iload (pc := 7) hC dX0_pick_7 6 rfl ?_
  refine w_iconst (pc := 9) hC dX0_pick_9 ?_
  refine w_isub (pc := 10) hC dX0_pick_10 ?_
  refine w_istore (pc := 11) hC dX0_pick_11 (lv2 := [(8, .int (J (rung - 1))), (7, .int (J (-1))), (6, .int (J (-5))), (0, .ref q), (1, .ref (A 3)), (2, .ref qb), (3, .ref (A 2)), (4, .int (J rung)), (5, .int (J may))]) (by rw [hnL]; decide) rfl ?_
  have loop13 : ∀ (nF : Nat) (x : Int) (g : Int) (r : Int), (-1 ≤ r) → (r < rung) → (BSD may b (fun z => S (130 + 6 * dg b rung + dg b z)) r rung x g) → (-1 ≤ g ∧ g ≤ 100) → (r + 1) < (nF : Int) → WW K G 0 0 (CW A D T G.2.1 I F Q P) 13 [(1, .ref (A 3)), (3, .ref (A 2)), (4, .int (J rung)), (5, .int (J may)), (6, .int (J x)), (7, .int (J g)), (8, .int (J r))] [] := by
    intro nF
    induction nF with
    | zero => intro x g r i1 i2 i3 i4 hm13; exact absurd hm13 (by omega)
    | succ nF ih13 =>
      intro x g r i1 i2 i3 i4 hm13
      refine w_iload (pc := 13) hC dX0_pick_13 6 rfl ?_
      refine w_if_lt (pc := 15) (tgt := 66) hC dX0_pick_15 (by decide) (by omega) (fun c15 => ?_) (fun c15 => ?_)
      · refine w_iload (pc := 66) hC dX0_pick_66 4 rfl ?_
        refine w_iret (pc := 68) hC hRT dX0_pick_68 rfl ?_
        refine ⟨retI (by have e9 : r = -1 := (by omega); subst e9; exact pk_0 hp (by omega) hk (fun z z0 z1 => (gc z z0 (by omega)).1) i3), rfl⟩
      · have g2 := gq r (by omega) (by omega)
        have g3 := gc r (by omega) (by omega)
        refine w_aload_n (pc := 18) hC dX0_pick_18 0 rfl rfl ?_
        refine w_aload_n (pc := 19) hC dX0_pick_19 1 rfl rfl ?_
        refine w_iload (pc := 20) hC dX0_pick_20 2 rfl ?_
        refine w_ialdV (pc := 22) (g := (I 2)) (v := dg b rung) hC dX0_pick_22 2 CW_2 (by omega) (Nat.le_of_ble_eq_true rfl) (hB _ (by omega) (by omega)) ?_
        refine w_aaldS (t0 := 6) (q := A (4 + (dg b rung).toNat)) hC dX0_pick_23 3 CW_3 rfl rfl (by omega) (Nat.le_of_ble_eq_true rfl) (rw6_at (by omega)) ?_
        refine w_aload_n (pc := 24) hC dX0_pick_24 1 rfl rfl ?_
        refine w_iload (pc := 25) hC dX0_pick_25 6 rfl ?_
        refine w_ialdV (pc := 27) (g := (I 2)) (v := dg b r) hC dX0_pick_27 2 CW_2 (by omega) (Nat.le_of_ble_eq_true rfl) (hB _ (by omega) (by omega)) ?_
        refine w_ialdV (pc := 28) (v := S (130 + 6 * (dg b rung) + (dg b r))) hC dX0_pick_28 (4 + (dg b rung).toNat) (CW_ch (by omega) (by omega)) (by omega) (Nat.le_of_ble_eq_true rfl) (l_ch hL hR (by omega) (by omega) (by omega) (by omega)) ?_
        refine w_istore (pc := 29) hC dX0_pick_29 (lv2 := [(9, .int (J (S (130 + 6 * (dg b rung) + (dg b r))))), (1, .ref (A 3)), (3, .ref (A 2)), (4, .int (J rung)), (5, .int (J may)), (6, .int (J x)), (7, .int (J g)), (8, .int (J r))]) (by rw [hnL]; decide) rfl ?_
        refine w_iload (pc := 31) hC dX0_pick_31 4 rfl ?_
        refine w_aload_n (pc := 33) hC dX0_pick_33 2 rfl rfl ?_
        refine w_iload (pc := 34) hC dX0_pick_34 7 rfl ?_
        refine w_ialdV (pc := 36) (g := (I 2)) (v := dg b r) hC dX0_pick_36 2 CW_2 (by omega) (Nat.le_of_ble_eq_true rfl) (hB _ (by omega) (by omega)) ?_
        refine w_callSN (pc := 37) (As := [.int (J may), .int (J (dg b r))]) (rest := []) hC dX0_pick_37 sn_X0_18 (c_X11_holds (kl K) G (CW A D T G.2.1 I F Q P) may (dg b r) (show 0 ≤ may ∧ may < 2147483648 from by first | assumption | omega) (show 0 ≤ (dg b r) ∧ (dg b r) < 32 from by first | assumption | omega)) (by decide) ⟨Nat.le_of_ble_eq_true rfl, Nat.le_of_ble_eq_true rfl⟩ rfl (Nat.le_of_ble_eq_true rfl) rfl (fun vo wo hv => ?_)
        obtain ⟨hv1, hw1⟩ := hv
        rw [hv1, hw1]
        show WW K G 0 0 (CW A D T G.2.1 I F Q P) 40 [(9, .int (J (S (130 + 6 * (dg b rung) + (dg b r))))), (1, .ref (A 3)), (3, .ref (A 2)), (4, .int (J rung)), (5, .int (J may)), (6, .int (J x)), (7, .int (J g)), (8, .int (J r))] [.int (J (bI (may / 2 ^ (dg b r).toNat % 2 = 1)))]
        refine w_if_eq_b (pc := 40) (tgt := 60) hC dX0_pick_40 (by decide) (fun c40 => ?_) (fun c40 => ?_)
        · refine w_iinc (pc := 60) hC dX0_pick_60 (lv2 := [(8, .int (J (r + (-1)))), (9, .int (J (S (130 + 6 * (dg b rung) + (dg b r))))), (1, .ref (A 3)), (3, .ref (A 2)), (4, .int (J rung)), (5, .int (J may)), (6, .int (J x)), (7, .int (J g))]) 7 rfl (by rw [hnL]; decide) rfl ?_
          refine w_goto (pc := 63) hC dX0_pick_63 (tgt := 13) (by decide) ?_
          refine w_sub [2, 3, 4, 5, 6, 7, 0] (lv2 := [(1, .ref (A 3)), (3, .ref (A 2)), (4, .int (J rung)), (5, .int (J may)), (6, .int (J x)), (7, .int (J g)), (8, .int (J (r + (-1))))]) rfl ?_
          refine ih13 x g (r + (-1)) ?_ ?_ ?_ ?_ ?_
          · first | assumption | omega
          · first | assumption | omega
          · first | exact BSD_take i3 c40 c47 i2 | exact BSD_skip i3 (fun h9 => c40 h9.1) g3.1 | exact BSD_skip i3 (fun h9 => Int.not_lt.mpr c47 h9.2) g3.1
          · first | assumption | omega
          · omega
        · refine w_iload (pc := 43) hC dX0_pick_43 0 rfl ?_
          refine w_iload (pc := 45) hC dX0_pick_45 6 rfl ?_
          refine w_icmp_le (pc := 47) (tgt := 60) hC dX0_pick_47 (by decide) (by omega) (fun c47 => ?_) (fun c47 => ?_)
          · refine w_iinc (pc := 60) hC dX0_pick_60 (lv2 := [(8, .int (J (r + (-1)))), (9, .int (J (S (130 + 6 * (dg b rung) + (dg b r))))), (1, .ref (A 3)), (3, .ref (A 2)), (4, .int (J rung)), (5, .int (J may)), (6, .int (J x)), (7, .int (J g))]) 7 rfl (by rw [hnL]; decide) rfl ?_
            refine w_goto (pc := 63) hC dX0_pick_63 (tgt := 13) (by decide) ?_
            refine w_sub [2, 3, 4, 5, 6, 7, 0] (lv2 := [(1, .ref (A 3)), (3, .ref (A 2)), (4, .int (J rung)), (5, .int (J may)), (6, .int (J x)), (7, .int (J g)), (8, .int (J (r + (-1))))]) rfl ?_
            refine ih13 x g (r + (-1)) ?_ ?_ ?_ ?_ ?_
            · first | assumption | omega
            · first | assumption | omega
            · first | exact BSD_take i3 c40 c47 i2 | exact BSD_skip i3 (fun h9 => c40 h9.1) g3.1 | exact BSD_skip i3 (fun h9 => Int.not_lt.mpr c47 h9.2) g3.1
            · first | assumption | omega
            · omega
          · refine w_iload (pc := 50) hC dX0_pick_50 0 rfl ?_
            refine w_istore (pc := 52) hC dX0_pick_52 (lv2 := [(7, .int (J (S (130 + 6 * (dg b rung) + (dg b r))))), (9, .int (J (S (130 + 6 * (dg b rung) + (dg b r))))), (1, .ref (A 3)), (3, .ref (A 2)), (4, .int (J rung)), (5, .int (J may)), (6, .int (J x)), (8, .int (J r))]) (by rw [hnL]; decide) rfl ?_
            refine w_aload_n (pc := 54) hC dX0_pick_54 3 rfl rfl ?_
            refine w_iload (pc := 55) hC dX0_pick_55 7 rfl ?_
            refine w_ialdV (pc := 57) (g := (I 2)) (v := dg b r) hC dX0_pick_57 2 CW_2 (by omega) (Nat.le_of_ble_eq_true rfl) (hB _ (by omega) (by omega)) ?_
            refine w_istore (pc := 58) hC dX0_pick_58 (lv2 := [(6, .int (J (dg b r))), (7, .int (J (S (130 + 6 * (dg b rung) + (dg b r))))), (9, .int (J (S (130 + 6 * (dg b rung) + (dg b r))))), (1, .ref (A 3)), (3, .ref (A 2)), (4, .int (J rung)), (5, .int (J may)), (8, .int (J r))]) (by rw [hnL]; decide) rfl ?_
            refine w_iinc (pc := 60) hC dX0_pick_60 (lv2 := [(8, .int (J (r + (-1)))), (6, .int (J (dg b r))), (7, .int (J (S (130 + 6 * (dg b rung) + (dg b r))))), (9, .int (J (S (130 + 6 * (dg b rung) + (dg b r))))), (1, .ref (A 3)), (3, .ref (A 2)), (4, .int (J rung)), (5, .int (J may))]) 7 rfl (by rw [hnL]; decide) rfl ?_
            refine w_goto (pc := 63) hC dX0_pick_63 (tgt := 13) (by decide) ?_
            refine w_sub [4, 5, 6, 7, 1, 2, 0] (lv2 := [(1, .ref (A 3)), (3, .ref (A 2)), (4, .int (J rung)), (5, .int (J may)), (6, .int (J (dg b r))), (7, .int (J (S (130 + 6 * (dg b rung) + (dg b r))))), (8, .int (J (r + (-1))))]) rfl ?_
            refine ih13 (dg b r) (S (130 + 6 * (dg b rung) + (dg b r))) (r + (-1)) ?_ ?_ ?_ ?_ ?_
            · first | assumption | omega
            · first | assumption | omega
            · first | exact BSD_take i3 c40 c47 i2 | exact BSD_skip i3 (fun h9 => c40 h9.1) g3.1 | exact BSD_skip i3 (fun h9 => Int.not_lt.mpr c47 h9.2) g3.1
            · first | assumption | omega
            · omega
  refine w_sub [4, 6, 7, 8, 2, 1, 0] (lv2 := [(1, .ref (A 3)), (3, .ref (A 2)), (4, .int (J rung)), (5, .int (J may)), (6, .int (J (-5))), (7, .int (J (-1))), (8, .int (J (rung - 1)))]) rfl ?_
  refine loop13 (((rung - 1) + 1) + 1 : Int).toNat (-5) (-1) (rung - 1) ?_ ?_ ?_ ?_ ?_
  · first | assumption | omega
  · first | assumption | omega
  · exact BSD_0
  · first | assumption | omega
  · omega
set_option maxRecDepth 100000 in
set_option maxHeartbeats 4000000 in
theorem c_X7_pick_v2 (l : Launch) (G : GT) (A D : Nat → Nat) (T : Nat) (I : Nat → Int → Int) (F : Nat → Int) (Q : Nat → Nat → Option Nat) (P : va_W) (S : Int → Int) (c : Int) (b : Int) (rf : Int) (day : Int) (i0 : Nat) (q : Nat) (qb : Nat) (rung : Int) (may : Int) (hR : RI S) (hL : LRn G.2.1 S I F Q P) (hc : 0 ≤ c ∧ c < S 1) (hcl : CLB P G.2.1 S c qb) (hV : VB (S 0) b) (hB : ∀ r : Int, 0 ≤ r → r < S 0 → (I 2) r = dg b r) (hr : 0 ≤ rung ∧ rung < S 0) (hq : P[i0]? = some (q, .inr (7, [.int (J (dg b rung)), .int (J (S (172 + dg b rung)))]))) (hk : S (166 + dg b rung) = 1) (hp : PBT S c rf b rung day may) : CT l yX7_pick cX7_pick 7 (some .int) 1 0 0 G [.ref q, .ref (A 3), .ref qb, .ref (A 2), .int (J rung), .int (J may)] (CW A D T G.2.1 I F Q P) (fun vo wo => vo = some (.int (J (PCK S c rf b rung day))) ∧ wo = CW A D T G.2.1 I F Q P) := by
  refine CT_of (own := RX7) rfl rfl (Nat.le_of_ble_eq_true rfl) (fun K hl hnL hC hRT hin => ?_)
  subst hl
  show WW K G 0 0 (CW A D T G.2.1 I F Q P) 0 [(0, .ref q), (1, .ref (A 3)), (2, .ref qb), (3, .ref (A 2)), (4, .int (J rung)), (5, .int (J may))] []
  have hn := hR.n
  have g1 := VB_dg hV hr.1 hr.2
  have hm := hp.1
  have gq : ∀ z : Int, 0 ≤ z → z < S 0 → 0 ≤ dg b z ∧ dg b z < S 0 := fun z z0 z1 => VB_dg hV z0 z1
  have gc : ∀ z : Int, 0 ≤ z → z < S 0 → 0 ≤ S (130 + 6 * dg b rung + dg b z) ∧ S (130 + 6 * dg b rung + dg b z) ≤ 100 := fun z z0 z1 => hR.ch g1 (gq z z0 z1)
  refine w_iload (pc := 0) hC dX7_pick_0 4 rfl ?_
  refine w_iconst (pc := 2) hC dX7_pick_2 ?_
  refine w_isub (pc := 3) hC dX7_pick_3 ?_
  refine w_istore (pc := 4) hC dX7_pick_4 (lv2 := [(6, .int (J (rung - 1))), (0, .ref q), (1, .ref (A 3)), (2, .ref qb), (3, .ref (A 2)), (4, .int (J rung)), (5, .int (J may))]) (by rw [hnL]; decide) rfl ?_
  have loop6 : ∀ (nF : Nat) (r : Int), (-1 ≤ r) → (r < rung) → (∀ z : Int, r < z → z < rung → ¬ bq may b z) → (r + 1) < (nF : Int) → WW K G 0 0 (CW A D T G.2.1 I F Q P) 6 [(3, .ref (A 2)), (5, .int (J may)), (6, .int (J r))] [] := by
    intro nF
    induction nF with
    | zero => intro r i1 i2 i3 hm6; exact absurd hm6 (by omega)
    | succ nF ih6 =>
      intro r i1 i2 i3 hm6
      refine w_iload (pc := 6) hC dX7_pick_6 2 rfl ?_
      refine w_if_lt (pc := 8) (tgt := 34) hC dX7_pick_8 (by decide) (by omega) (fun c8 => ?_) (fun c8 => ?_)
      · refine w_bipush (pc := 34) hC dX7_pick_34 (z := (-5)) rfl ?_
        refine w_iret (pc := 36) hC hRT dX7_pick_36 rfl ?_
        refine ⟨retI (by exact pk_b hp hr.1 (fun z z0 z1 => i3 z (by omega) z1)), rfl⟩
      · have g2 := gq r (by omega) (by omega)
        have g3 := gc r (by omega) (by omega)
        refine w_iload (pc := 11) hC dX7_pick_11 1 rfl ?_
        refine w_aload_n (pc := 13) hC dX7_pick_13 0 rfl rfl ?_
        refine w_iload (pc := 14) hC dX7_pick_14 2 rfl ?_
        refine w_ialdV (pc := 16) (g := (I 2)) (v := dg b r) hC dX7_pick_16 2 CW_2 (by omega) (Nat.le_of_ble_eq_true rfl) (hB _ (by omega) (by omega)) ?_
        refine w_callSN (pc := 17) (As := [.int (J may), .int (J (dg b r))]) (rest := []) hC dX7_pick_17 sn_X7_11 (c_X11_holds (kl K) G (CW A D T G.2.1 I F Q P) may (dg b r) (show 0 ≤ may ∧ may < 2147483648 from by first | assumption | omega) (show 0 ≤ (dg b r) ∧ (dg b r) < 32 from by first | assumption | omega)) (by decide) ⟨Nat.le_of_ble_eq_true rfl, Nat.le_of_ble_eq_true rfl⟩ rfl (Nat.le_of_ble_eq_true rfl) rfl (fun vo wo hv => ?_)
        obtain ⟨hv1, hw1⟩ := hv
        rw [hv1, hw1]
        show WW K G 0 0 (CW A D T G.2.1 I F Q P) 20 [(3, .ref (A 2)), (5, .int (J may)), (6, .int (J r))] [.int (J (bI (may / 2 ^ (dg b r).toNat % 2 = 1)))]
        refine w_if_eq_b (pc := 20) (tgt := 28) hC dX7_pick_20 (by decide) (fun c20 => ?_) (fun c20 => ?_)
        · refine w_iinc (pc := 28) hC dX7_pick_28 (lv2 := [(6, .int (J (r + (-1)))), (3, .ref (A 2)), (5, .int (J may))]) 2 rfl (by rw [hnL]; decide) rfl ?_
          refine w_goto (pc := 31) hC dX7_pick_31 (tgt := 6) (by decide) ?_
          refine w_sub [1, 2, 0] (lv2 := [(3, .ref (A 2)), (5, .int (J may)), (6, .int (J (r + (-1))))]) rfl ?_
          refine ih6 (r + (-1)) ?_ ?_ ?_ ?_
          · first | assumption | omega
          · first | assumption | omega
          · intro z z0 z1; rcases (show z = r ∨ r < z by omega) with e | e; subst e; exact c20; exact i3 z e z1
          · omega
        · refine w_aload_n (pc := 23) hC dX7_pick_23 0 rfl rfl ?_
          refine w_iload (pc := 24) hC dX7_pick_24 2 rfl ?_
          refine w_ialdV (pc := 26) (g := (I 2)) (v := dg b r) hC dX7_pick_26 2 CW_2 (by omega) (Nat.le_of_ble_eq_true rfl) (hB _ (by omega) (by omega)) ?_
          refine w_iret (pc := 27) hC hRT dX7_pick_27 rfl ?_
          refine ⟨retI (by exact pk_1 hp (by omega) hk (by omega) i2 c20 i3), rfl⟩
  refine w_sub [4, 6, 0] (lv2 := [(3, .ref (A 2)), (5, .int (J may)), (6, .int (J (rung - 1)))]) rfl ?_
  refine loop6 (((rung - 1) + 1) + 1 : Int).toNat (rung - 1) ?_ ?_ ?_ ?_
  · first | assumption | omega
  · first | assumption | omega
  · intro z z0 z1; omega
  · omega
set_option maxRecDepth 100000 in
set_option maxHeartbeats 4000000 in
theorem c_X5_pick_v2 (l : Launch) (G : GT) (A D : Nat → Nat) (T : Nat) (I : Nat → Int → Int) (F : Nat → Int) (Q : Nat → Nat → Option Nat) (P : va_W) (S : Int → Int) (c : Int) (b : Int) (rf : Int) (day : Int) (i0 : Nat) (q : Nat) (qb : Nat) (rung : Int) (may : Int) (hR : RI S) (hL : LRn G.2.1 S I F Q P) (hc : 0 ≤ c ∧ c < S 1) (hcl : CLB P G.2.1 S c qb) (hV : VB (S 0) b) (hB : ∀ r : Int, 0 ≤ r → r < S 0 → (I 2) r = dg b r) (hr : 0 ≤ rung ∧ rung < S 0) (hq : P[i0]? = some (q, .inr (5, [.int (J (dg b rung)), .int (J (S (172 + dg b rung)))]))) (hk : S (166 + dg b rung) = 2) (hp : PBT S c rf b rung day may) : CT l yX5_pick cX5_pick 7 (some .int) 1 0 0 G [.ref q, .ref (A 3), .ref qb, .ref (A 2), .int (J rung), .int (J may)] (CW A D T G.2.1 I F Q P) (fun vo wo => vo = some (.int (J (PCK S c rf b rung day))) ∧ wo = CW A D T G.2.1 I F Q P) := by
  refine CT_of (own := RX5) rfl rfl (Nat.le_of_ble_eq_true rfl) (fun K hl hnL hC hRT hin => ?_)
  subst hl
  show WW K G 0 0 (CW A D T G.2.1 I F Q P) 0 [(0, .ref q), (1, .ref (A 3)), (2, .ref qb), (3, .ref (A 2)), (4, .int (J rung)), (5, .int (J may))] []
  have hn := hR.n
  have g1 := VB_dg hV hr.1 hr.2
  have hm := hp.1
  have gq : ∀ z : Int, 0 ≤ z → z < S 0 → 0 ≤ dg b z ∧ dg b z < S 0 := fun z z0 z1 => VB_dg hV z0 z1
  have gc : ∀ z : Int, 0 ≤ z → z < S 0 → 0 ≤ S (130 + 6 * dg b rung + dg b z) ∧ S (130 + 6 * dg b rung + dg b z) ≤ 100 := fun z z0 z1 => hR.ch g1 (gq z z0 z1)
  refine w_iconst (pc := 0) hC dX5_pick_0 ?_
  refine w_istore (pc := 1) hC dX5_pick_1 (lv2 := [(6, .int (J 0)), (0, .ref q), (1, .ref (A 3)), (2, .ref qb), (3, .ref (A 2)), (4, .int (J rung)), (5, .int (J may))]) (by rw [hnL]; decide) rfl ?_
  have loop3 : ∀ (nF : Nat) (r : Int), (0 ≤ r) → (r ≤ rung) → (∀ z : Int, 0 ≤ z → z < r → ¬ bq may b z) → (rung - r) < (nF : Int) → WW K G 0 0 (CW A D T G.2.1 I F Q P) 3 [(3, .ref (A 2)), (4, .int (J rung)), (5, .int (J may)), (6, .int (J r))] [] := by
    intro nF
    induction nF with
    | zero => intro r i1 i2 i3 hm3; exact absurd hm3 (by omega)
    | succ nF ih3 =>
      intro r i1 i2 i3 hm3
      refine w_iload (pc := 3) hC dX5_pick_3 3 rfl ?_
      refine w_iload (pc := 5) hC dX5_pick_5 1 rfl ?_
      refine w_icmp_ge (pc := 7) (tgt := 33) hC dX5_pick_7 (by decide) (by omega) (fun c7 => ?_) (fun c7 => ?_)
      · refine w_bipush (pc := 33) hC dX5_pick_33 (z := (-5)) rfl ?_
        refine w_iret (pc := 35) hC hRT dX5_pick_35 rfl ?_
        refine ⟨retI (by exact pk_b hp hr.1 (fun z z0 z1 => i3 z z0 (by omega))), rfl⟩
      · have g2 := gq r (by omega) (by omega)
        have g3 := gc r (by omega) (by omega)
        refine w_iload (pc := 10) hC dX5_pick_10 2 rfl ?_
        refine w_aload_n (pc := 12) hC dX5_pick_12 0 rfl rfl ?_
        refine w_iload (pc := 13) hC dX5_pick_13 3 rfl ?_
        refine w_ialdV (pc := 15) (g := (I 2)) (v := dg b r) hC dX5_pick_15 2 CW_2 (by omega) (Nat.le_of_ble_eq_true rfl) (hB _ (by omega) (by omega)) ?_
        refine w_callSN (pc := 16) (As := [.int (J may), .int (J (dg b r))]) (rest := []) hC dX5_pick_16 sn_X5_11 (c_X11_holds (kl K) G (CW A D T G.2.1 I F Q P) may (dg b r) (show 0 ≤ may ∧ may < 2147483648 from by first | assumption | omega) (show 0 ≤ (dg b r) ∧ (dg b r) < 32 from by first | assumption | omega)) (by decide) ⟨Nat.le_of_ble_eq_true rfl, Nat.le_of_ble_eq_true rfl⟩ rfl (Nat.le_of_ble_eq_true rfl) rfl (fun vo wo hv => ?_)
        obtain ⟨hv1, hw1⟩ := hv
        rw [hv1, hw1]
        show WW K G 0 0 (CW A D T G.2.1 I F Q P) 19 [(3, .ref (A 2)), (4, .int (J rung)), (5, .int (J may)), (6, .int (J r))] [.int (J (bI (may / 2 ^ (dg b r).toNat % 2 = 1)))]
        refine w_if_eq_b (pc := 19) (tgt := 27) hC dX5_pick_19 (by decide) (fun c19 => ?_) (fun c19 => ?_)
        · refine w_iinc (pc := 27) hC dX5_pick_27 (lv2 := [(6, .int (J (r + 1))), (3, .ref (A 2)), (4, .int (J rung)), (5, .int (J may))]) 3 rfl (by rw [hnL]; decide) rfl ?_
          refine w_goto (pc := 30) hC dX5_pick_30 (tgt := 3) (by decide) ?_
          refine w_sub [1, 2, 3, 0] (lv2 := [(3, .ref (A 2)), (4, .int (J rung)), (5, .int (J may)), (6, .int (J (r + 1)))]) rfl ?_
          refine ih3 (r + 1) ?_ ?_ ?_ ?_
          · first | assumption | omega
          · first | assumption | omega
          · intro z z0 z1; rcases (show z = r ∨ z < r by omega) with e | e; subst e; exact c19; exact i3 z z0 e
          · omega
        · refine w_aload_n (pc := 22) hC dX5_pick_22 0 rfl rfl ?_
          refine w_iload (pc := 23) hC dX5_pick_23 3 rfl ?_
          refine w_ialdV (pc := 25) (g := (I 2)) (v := dg b r) hC dX5_pick_25 2 CW_2 (by omega) (Nat.le_of_ble_eq_true rfl) (hB _ (by omega) (by omega)) ?_
          refine w_iret (pc := 26) hC hRT dX5_pick_26 rfl ?_
          refine ⟨retI (by exact pk_2 hp (by omega) hk i1 c7 c19 i3), rfl⟩
  refine w_sub [4, 5, 6, 0] (lv2 := [(3, .ref (A 2)), (4, .int (J rung)), (5, .int (J may)), (6, .int (J 0))]) rfl ?_
  refine loop3 ((rung - 0) + 1 : Int).toNat 0 ?_ ?_ ?_ ?_
  · first | assumption | omega
  · first | assumption | omega
  · intro z z0 z1; omega
  · omega
set_option maxRecDepth 100000 in
set_option maxHeartbeats 4000000 in
theorem c_X9_pick_v2 (l : Launch) (G : GT) (A D : Nat → Nat) (T : Nat) (I : Nat → Int → Int) (F : Nat → Int) (Q : Nat → Nat → Option Nat) (P : va_W) (S : Int → Int) (c : Int) (b : Int) (rf : Int) (day : Int) (i0 : Nat) (q : Nat) (qb : Nat) (rung : Int) (may : Int) (hR : RI S) (hL : LRn G.2.1 S I F Q P) (hc : 0 ≤ c ∧ c < S 1) (hcl : CLB P G.2.1 S c qb) (hV : VB (S 0) b) (hB : ∀ r : Int, 0 ≤ r → r < S 0 → (I 2) r = dg b r) (hr : 0 ≤ rung ∧ rung < S 0) (hq : P[i0]? = some (q, .inr (9, [.int (J (dg b rung)), .int (J (S (172 + dg b rung)))]))) (hk : S (166 + dg b rung) = 3) (hp : PBT S c rf b rung day may) : CT l yX9_pick cX9_pick 7 (some .int) 1 0 0 G [.ref q, .ref (A 3), .ref qb, .ref (A 2), .int (J rung), .int (J may)] (CW A D T G.2.1 I F Q P) (fun vo wo => vo = some (.int (J (PCK S c rf b rung day))) ∧ wo = CW A D T G.2.1 I F Q P) := by
  refine CT_of (own := RX9) rfl rfl (Nat.le_of_ble_eq_true rfl) (fun K hl hnL hC hRT hin => ?_)
  subst hl
  show WW K G 0 0 (CW A D T G.2.1 I F Q P) 0 [(0, .ref q), (1, .ref (A 3)), (2, .ref qb), (3, .ref (A 2)), (4, .int (J rung)), (5, .int (J may))] []
  have hn := hR.n
  have g1 := VB_dg hV hr.1 hr.2
  have hm := hp.1
  have gq : ∀ z : Int, 0 ≤ z → z < S 0 → 0 ≤ dg b z ∧ dg b z < S 0 := fun z z0 z1 => VB_dg hV z0 z1
  have gc : ∀ z : Int, 0 ≤ z → z < S 0 → 0 ≤ S (130 + 6 * dg b rung + dg b z) ∧ S (130 + 6 * dg b rung + dg b z) ≤ 100 := fun z z0 z1 => hR.ch g1 (gq z z0 z1)
  have gv := hR.vv (172 + dg b rung) (by have := hR.n; omega) (by have := hR.n; omega)
  refine w_iconst (pc := 0) hC dX9_pick_0 ?_
  refine w_istore (pc := 1) hC dX9_pick_1 (lv2 := [(6, .int (J 0)), (0, .ref q), (1, .ref (A 3)), (2, .ref qb), (3, .ref (A 2)), (4, .int (J rung)), (5, .int (J may))]) (by rw [hnL]; decide) rfl ?_
  have loop3 : ∀ (nF : Nat) (r : Int), (0 ≤ r) → (r ≤ rung) → (∀ z : Int, 0 ≤ z → z < r → ¬ (bq may b z ∧ S (172 + dg b rung) ≤ S (130 + 6 * dg b rung + dg b z))) → (rung - r) < (nF : Int) → WW K G 0 0 (CW A D T G.2.1 I F Q P) 3 [(0, .ref q), (1, .ref (A 3)), (3, .ref (A 2)), (4, .int (J rung)), (5, .int (J may)), (6, .int (J r))] [] := by
    intro nF
    induction nF with
    | zero => intro r i1 i2 i3 hm3; exact absurd hm3 (by omega)
    | succ nF ih3 =>
      intro r i1 i2 i3 hm3
      refine w_iload (pc := 3) hC dX9_pick_3 5 rfl ?_
      refine w_iload (pc := 5) hC dX9_pick_5 3 rfl ?_
      refine w_icmp_ge (pc := 7) (tgt := 51) hC dX9_pick_7 (by decide) (by omega) (fun c7 => ?_) (fun c7 => ?_)
      · refine w_bipush (pc := 51) hC dX9_pick_51 (z := (-5)) rfl ?_
        refine w_iret (pc := 53) hC hRT dX9_pick_53 rfl ?_
        refine ⟨retI (by exact pk_3n hp (by omega) hk (fun z z0 z1 => i3 z z0 (by omega))), rfl⟩
      · have g2 := gq r (by omega) (by omega)
        have g3 := gc r (by omega) (by omega)
        refine w_iload (pc := 10) hC dX9_pick_10 4 rfl ?_
        refine w_aload_n (pc := 12) hC dX9_pick_12 2 rfl rfl ?_
        refine w_iload (pc := 13) hC dX9_pick_13 5 rfl ?_
        refine w_ialdV (pc := 15) (g := (I 2)) (v := dg b r) hC dX9_pick_15 2 CW_2 (by omega) (Nat.le_of_ble_eq_true rfl) (hB _ (by omega) (by omega)) ?_
        refine w_callSN (pc := 16) (As := [.int (J may), .int (J (dg b r))]) (rest := []) hC dX9_pick_16 sn_X9_11 (c_X11_holds (kl K) G (CW A D T G.2.1 I F Q P) may (dg b r) (show 0 ≤ may ∧ may < 2147483648 from by first | assumption | omega) (show 0 ≤ (dg b r) ∧ (dg b r) < 32 from by first | assumption | omega)) (by decide) ⟨Nat.le_of_ble_eq_true rfl, Nat.le_of_ble_eq_true rfl⟩ rfl (Nat.le_of_ble_eq_true rfl) rfl (fun vo wo hv => ?_)
        obtain ⟨hv1, hw1⟩ := hv
        rw [hv1, hw1]
        show WW K G 0 0 (CW A D T G.2.1 I F Q P) 19 [(0, .ref q), (1, .ref (A 3)), (3, .ref (A 2)), (4, .int (J rung)), (5, .int (J may)), (6, .int (J r))] [.int (J (bI (may / 2 ^ (dg b r).toNat % 2 = 1)))]
        refine w_if_eq_b (pc := 19) (tgt := 45) hC dX9_pick_19 (by decide) (fun c19 => ?_) (fun c19 => ?_)
        · refine w_iinc (pc := 45) hC dX9_pick_45 (lv2 := [(6, .int (J (r + 1))), (0, .ref q), (1, .ref (A 3)), (3, .ref (A 2)), (4, .int (J rung)), (5, .int (J may))]) 5 rfl (by rw [hnL]; decide) rfl ?_
          refine w_goto (pc := 48) hC dX9_pick_48 (tgt := 3) (by decide) ?_
          refine w_sub [1, 2, 3, 4, 5, 0] (lv2 := [(0, .ref q), (1, .ref (A 3)), (3, .ref (A 2)), (4, .int (J rung)), (5, .int (J may)), (6, .int (J (r + 1)))]) rfl ?_
          refine ih3 (r + 1) ?_ ?_ ?_ ?_
          · first | assumption | omega
          · first | assumption | omega
          · intro z z0 z1; rcases (show z = r ∨ z < r by omega) with e | e; subst e; (first | exact fun h9 => c19 h9.1 | exact fun h9 => Int.not_le.mpr c37 h9.2); exact i3 z z0 e
          · omega
        · refine w_aload_n (pc := 22) hC dX9_pick_22 1 rfl rfl ?_
          refine w_aload_n (pc := 23) hC dX9_pick_23 2 rfl rfl ?_
          refine w_iload (pc := 24) hC dX9_pick_24 3 rfl ?_
          refine w_ialdV (pc := 26) (g := (I 2)) (v := dg b rung) hC dX9_pick_26 2 CW_2 (by omega) (Nat.le_of_ble_eq_true rfl) (hB _ (by omega) (by omega)) ?_
          refine w_aaldS (t0 := 6) (q := A (4 + (dg b rung).toNat)) hC dX9_pick_27 3 CW_3 rfl rfl (by omega) (Nat.le_of_ble_eq_true rfl) (rw6_at (by omega)) ?_
          refine w_aload_n (pc := 28) hC dX9_pick_28 2 rfl rfl ?_
          refine w_iload (pc := 29) hC dX9_pick_29 5 rfl ?_
          refine w_ialdV (pc := 31) (g := (I 2)) (v := dg b r) hC dX9_pick_31 2 CW_2 (by omega) (Nat.le_of_ble_eq_true rfl) (hB _ (by omega) (by omega)) ?_
          refine w_ialdV (pc := 32) (v := S (130 + 6 * (dg b rung) + (dg b r))) hC dX9_pick_32 (4 + (dg b rung).toNat) (CW_ch (by omega) (by omega)) (by omega) (Nat.le_of_ble_eq_true rfl) (l_ch hL hR (by omega) (by omega) (by omega) (by omega)) ?_
          refine w_aload_n (pc := 33) hC dX9_pick_33 0 rfl rfl ?_
          refine w_callO (pc := 34) (As := []) (rest := [.int (J (S (130 + 6 * (dg b rung) + (dg b r))))]) hC dX9_pick_34 vo_X9_15_X9 (c_X0_v (kl K) G A D T I F Q P i0 3 (dg b rung) (S (172 + dg b rung)) q (show P[i0]? = some (q, .inr (kci 3, [.int (J (dg b rung)), .int (J (S (172 + dg b rung)))])) from by exact hq) (show 0 ≤ 3 ∧ 3 ≤ 6 from by decide)) (by decide) ⟨Nat.le_of_ble_eq_true rfl, Nat.le_of_ble_eq_true rfl⟩ (q0 := 60 + i0) (CW_P hq) rfl rfl rfl (Nat.le_of_ble_eq_true rfl) rfl (fun vo wo hv => ?_)
          obtain ⟨hv1, hw1⟩ := hv
          rw [hv1, hw1]
          show WW K G 0 0 (CW A D T G.2.1 I F Q P) 37 [(0, .ref q), (1, .ref (A 3)), (3, .ref (A 2)), (4, .int (J rung)), (5, .int (J may)), (6, .int (J r))] [.int (J (S (172 + dg b rung))), .int (J (S (130 + 6 * (dg b rung) + (dg b r))))]
          refine w_icmp_lt (pc := 37) (tgt := 45) hC dX9_pick_37 (by decide) (by omega) (fun c37 => ?_) (fun c37 => ?_)
          · refine w_iinc (pc := 45) hC dX9_pick_45 (lv2 := [(6, .int (J (r + 1))), (0, .ref q), (1, .ref (A 3)), (3, .ref (A 2)), (4, .int (J rung)), (5, .int (J may))]) 5 rfl (by rw [hnL]; decide) rfl ?_
            refine w_goto (pc := 48) hC dX9_pick_48 (tgt := 3) (by decide) ?_
            refine w_sub [1, 2, 3, 4, 5, 0] (lv2 := [(0, .ref q), (1, .ref (A 3)), (3, .ref (A 2)), (4, .int (J rung)), (5, .int (J may)), (6, .int (J (r + 1)))]) rfl ?_
            refine ih3 (r + 1) ?_ ?_ ?_ ?_
            · first | assumption | omega
            · first | assumption | omega
            · intro z z0 z1; rcases (show z = r ∨ z < r by omega) with e | e; subst e; (first | exact fun h9 => c19 h9.1 | exact fun h9 => Int.not_le.mpr c37 h9.2); exact i3 z z0 e
            · omega
          · refine w_aload_n (pc := 40) hC dX9_pick_40 2 rfl rfl ?_
            refine w_iload (pc := 41) hC dX9_pick_41 5 rfl ?_
            refine w_ialdV (pc := 43) (g := (I 2)) (v := dg b r) hC dX9_pick_43 2 CW_2 (by omega) (Nat.le_of_ble_eq_true rfl) (hB _ (by omega) (by omega)) ?_
            refine w_iret (pc := 44) hC hRT dX9_pick_44 rfl ?_
            refine ⟨retI (by exact pk_3 hp (by omega) hk i1 c7 c19 c37 i3), rfl⟩
  refine w_sub [1, 2, 4, 5, 6, 0] (lv2 := [(0, .ref q), (1, .ref (A 3)), (3, .ref (A 2)), (4, .int (J rung)), (5, .int (J may)), (6, .int (J 0))]) rfl ?_
  refine loop3 ((rung - 0) + 1 : Int).toNat 0 ?_ ?_ ?_ ?_
  · first | assumption | omega
  · first | assumption | omega
  · intro z z0 z1; omega
  · omega
set_option maxRecDepth 100000 in
set_option maxHeartbeats 4000000 in
theorem c_X1_pick_v2 (l : Launch) (G : GT) (A D : Nat → Nat) (T : Nat) (I : Nat → Int → Int) (F : Nat → Int) (Q : Nat → Nat → Option Nat) (P : va_W) (S : Int → Int) (c : Int) (b : Int) (rf : Int) (day : Int) (i0 : Nat) (q : Nat) (qb : Nat) (rung : Int) (may : Int) (hR : RI S) (hL : LRn G.2.1 S I F Q P) (hc : 0 ≤ c ∧ c < S 1) (hcl : CLB P G.2.1 S c qb) (hV : VB (S 0) b) (hB : ∀ r : Int, 0 ≤ r → r < S 0 → (I 2) r = dg b r) (hr : 0 ≤ rung ∧ rung < S 0) (hq : P[i0]? = some (q, .inr (1, [.int (J (dg b rung)), .int (J (S (172 + dg b rung)))]))) (hk : S (166 + dg b rung) = 4) (hp : PBT S c rf b rung day may) : CT l yX1_pick cX1_pick 10 (some .int) 1 0 0 G [.ref q, .ref (A 3), .ref qb, .ref (A 2), .int (J rung), .int (J may)] (CW A D T G.2.1 I F Q P) (fun vo wo => vo = some (.int (J (PCK S c rf b rung day))) ∧ wo = CW A D T G.2.1 I F Q P) := by
  refine CT_of (own := RX1) rfl rfl (Nat.le_of_ble_eq_true rfl) (fun K hl hnL hC hRT hin => ?_)
  subst hl
  show WW K G 0 0 (CW A D T G.2.1 I F Q P) 0 [(0, .ref q), (1, .ref (A 3)), (2, .ref qb), (3, .ref (A 2)), (4, .int (J rung)), (5, .int (J may))] []
  have hn := hR.n
  have hcl2 := hcl
  obtain ⟨i, j, qc, g, hq, hqc, hg⟩ := hcl2
  have g1 := VB_dg hV hr.1 hr.2
  have hm := hp.1
  have gq : ∀ z : Int, 0 ≤ z → z < S 0 → 0 ≤ dg b z ∧ dg b z < S 0 := fun z z0 z1 => VB_dg hV z0 z1
  have gc : ∀ z : Int, 0 ≤ z → z < S 0 → 0 ≤ S (130 + 6 * dg b rung + dg b z) ∧ S (130 + 6 * dg b rung + dg b z) ≤ 100 := fun z z0 z1 => hR.ch g1 (gq z z0 z1)
  have gh : ∀ z : Int, 0 ≤ z → z < rung → 0 ≤ (if S (183 + c) = 2 then 1 else rung - z) * S (130 + 6 * dg b rung + dg b z) ∧ (if S (183 + c) = 2 then 1 else rung - z) * S (130 + 6 * dg b rung + dg b z) ≤ 600 := fun z z0 z1 => hope_bd (by split <;> omega) (gc z z0 (by omega))
  refine w_bipush (pc := 0) hC dX1_pick_0 (z := (-5)) rfl ?_
  refine w_istore (pc := 2) hC dX1_pick_2 (lv2 := [(6, .int (J (-5))), (0, .ref q), (1, .ref (A 3)), (2, .ref qb), (3, .ref (A 2)), (4, .int (J rung)), (5, .int (J may))]) (by rw [hnL]; decide) rfl ?_
  refine w_iconst (pc := 4) hC dX1_pick_4 ?_
  refine w_istore (pc := 5) hC dX1_pick_5 (lv2 := [(7, .int (J (-1))), (6, .int (J (-5))), (0, .ref q), (1, .ref (A 3)), (2, .ref qb), (3, .ref (A 2)), (4, .int (J rung)), (5, .int (J may))]) (by rw [hnL]; decide) rfl ?_
  refine w_iconst (pc := 7) hC dX1_pick_7 ?_
  refine w_istore (pc := 8) hC dX1_pick_8 (lv2 := [(8, .int (J 0)), (7, .int (J (-1))), (6, .int (J (-5))), (0, .ref q), (1, .ref (A 3)), (2, .ref qb), (3, .ref (A 2)), (4, .int (J rung)), (5, .int (J may))]) (by rw [hnL]; decide) rfl ?_
  have loop10 : ∀ (nF : Nat) (x : Int) (g : Int) (r : Int), (0 ≤ r) → (r ≤ rung) → (BSA may b (fun z => (if S (183 + c) = 2 then 1 else rung - z) * S (130 + 6 * dg b rung + dg b z)) r x g) → (-1 ≤ g ∧ g ≤ 600) → (rung - r) < (nF : Int) → WW K G 0 0 (CW A D T G.2.1 I F Q P) 10 [(1, .ref (A 3)), (2, .ref qb), (3, .ref (A 2)), (4, .int (J rung)), (5, .int (J may)), (6, .int (J x)), (7, .int (J g)), (8, .int (J r))] [] := by
    intro nF
    induction nF with
    | zero => intro x g r i1 i2 i3 i4 hm10; exact absurd hm10 (by omega)
    | succ nF ih10 =>
      intro x g r i1 i2 i3 i4 hm10
      refine w_iload (pc := 10) hC dX1_pick_10 7 rfl ?_
      refine w_iload (pc := 12) hC dX1_pick_12 3 rfl ?_
      refine w_icmp_ge (pc := 14) (tgt := 75) hC dX1_pick_14 (by decide) (by omega) (fun c14 => ?_) (fun c14 => ?_)
      · refine w_iload (pc := 75) hC dX1_pick_75 5 rfl ?_
        refine w_iret (pc := 77) hC hRT dX1_pick_77 rfl ?_
        refine ⟨retI (by have e9 : r = rung := (by omega); subst e9; exact pk_4 hp (by omega) hk (fun z z0 z1 => (gh z z0 z1).1) i3), rfl⟩
      · have g2 := gq r (by omega) (by omega)
        have g3 := gc r (by omega) (by omega)
        have g4 := gh r i1 (by omega)
        refine w_aload_n (pc := 17) hC dX1_pick_17 1 rfl rfl ?_
        refine w_iload (pc := 18) hC dX1_pick_18 3 rfl ?_
        refine w_iload (pc := 20) hC dX1_pick_20 7 rfl ?_
        refine w_isub (pc := 22) hC dX1_pick_22 ?_
        refine w_callV (pc := 23) (As := [.int (J (rung - r))]) (rest := []) hC dX1_pick_23 cv_X1_11 (c_X2_worth (kl K) G A D T I F Q P S c qb (rung - r) (show 0 ≤ c ∧ c < S 1 from by first | assumption | omega) (show CLB P G.2.1 S c qb from by first | assumption | omega) (show RI S from by first | assumption | omega) (show 0 ≤ (rung - r) ∧ (rung - r) < 6 from by first | assumption | omega)) (by decide) ⟨Nat.le_of_ble_eq_true rfl, Nat.le_of_ble_eq_true rfl⟩ (q0 := (60 + i)) (CW_P hq) rfl rfl rfl (Nat.le_of_ble_eq_true rfl) rfl (fun vo wo hv => ?_)
        obtain ⟨hv1, hw1⟩ := hv
        rw [hv1, hw1]
        show WW K G 0 0 (CW A D T G.2.1 I F Q P) 26 [(1, .ref (A 3)), (2, .ref qb), (3, .ref (A 2)), (4, .int (J rung)), (5, .int (J may)), (6, .int (J x)), (7, .int (J g)), (8, .int (J r))] [.int (J (if S (183 + c) = 2 then 1 else (rung - r)))]
        refine w_aload_n (pc := 26) hC dX1_pick_26 0 rfl rfl ?_
        refine w_aload_n (pc := 27) hC dX1_pick_27 2 rfl rfl ?_
        refine w_iload (pc := 28) hC dX1_pick_28 3 rfl ?_
        refine w_ialdV (pc := 30) (g := (I 2)) (v := dg b rung) hC dX1_pick_30 2 CW_2 (by omega) (Nat.le_of_ble_eq_true rfl) (hB _ (by omega) (by omega)) ?_
        refine w_aaldS (t0 := 6) (q := A (4 + (dg b rung).toNat)) hC dX1_pick_31 3 CW_3 rfl rfl (by omega) (Nat.le_of_ble_eq_true rfl) (rw6_at (by omega)) ?_
        refine w_aload_n (pc := 32) hC dX1_pick_32 2 rfl rfl ?_
        refine w_iload (pc := 33) hC dX1_pick_33 7 rfl ?_
        refine w_ialdV (pc := 35) (g := (I 2)) (v := dg b r) hC dX1_pick_35 2 CW_2 (by omega) (Nat.le_of_ble_eq_true rfl) (hB _ (by omega) (by omega)) ?_
        refine w_ialdV (pc := 36) (v := S (130 + 6 * (dg b rung) + (dg b r))) hC dX1_pick_36 (4 + (dg b rung).toNat) (CW_ch (by omega) (by omega)) (by omega) (Nat.le_of_ble_eq_true rfl) (l_ch hL hR (by omega) (by omega) (by omega) (by omega)) ?_
        refine w_imul (pc := 37) hC dX1_pick_37 ?_
        refine w_istore (pc := 38) hC dX1_pick_38 (lv2 := [(9, .int (J ((if S (183 + c) = 2 then 1 else (rung - r)) * (S (130 + 6 * (dg b rung) + (dg b r)))))), (1, .ref (A 3)), (2, .ref qb), (3, .ref (A 2)), (4, .int (J rung)), (5, .int (J may)), (6, .int (J x)), (7, .int (J g)), (8, .int (J r))]) (by rw [hnL]; decide) rfl ?_
        refine w_iload (pc := 40) hC dX1_pick_40 5 rfl ?_
        refine w_aload_n (pc := 42) hC dX1_pick_42 3 rfl rfl ?_
        refine w_iload (pc := 43) hC dX1_pick_43 8 rfl ?_
        refine w_ialdV (pc := 45) (g := (I 2)) (v := dg b r) hC dX1_pick_45 2 CW_2 (by omega) (Nat.le_of_ble_eq_true rfl) (hB _ (by omega) (by omega)) ?_
        refine w_callSN (pc := 46) (As := [.int (J may), .int (J (dg b r))]) (rest := []) hC dX1_pick_46 sn_X1_17 (c_X11_holds (kl K) G (CW A D T G.2.1 I F Q P) may (dg b r) (show 0 ≤ may ∧ may < 2147483648 from by first | assumption | omega) (show 0 ≤ (dg b r) ∧ (dg b r) < 32 from by first | assumption | omega)) (by decide) ⟨Nat.le_of_ble_eq_true rfl, Nat.le_of_ble_eq_true rfl⟩ rfl (Nat.le_of_ble_eq_true rfl) rfl (fun vo wo hv => ?_)
        obtain ⟨hv1, hw1⟩ := hv
        rw [hv1, hw1]
        show WW K G 0 0 (CW A D T G.2.1 I F Q P) 49 [(9, .int (J ((if S (183 + c) = 2 then 1 else (rung - r)) * (S (130 + 6 * (dg b rung) + (dg b r)))))), (1, .ref (A 3)), (2, .ref qb), (3, .ref (A 2)), (4, .int (J rung)), (5, .int (J may)), (6, .int (J x)), (7, .int (J g)), (8, .int (J r))] [.int (J (bI (may / 2 ^ (dg b r).toNat % 2 = 1)))]
        refine w_if_eq_b (pc := 49) (tgt := 69) hC dX1_pick_49 (by decide) (fun c49 => ?_) (fun c49 => ?_)
        · refine w_iinc (pc := 69) hC dX1_pick_69 (lv2 := [(8, .int (J (r + 1))), (9, .int (J ((if S (183 + c) = 2 then 1 else (rung - r)) * (S (130 + 6 * (dg b rung) + (dg b r)))))), (1, .ref (A 3)), (2, .ref qb), (3, .ref (A 2)), (4, .int (J rung)), (5, .int (J may)), (6, .int (J x)), (7, .int (J g))]) 8 rfl (by rw [hnL]; decide) rfl ?_
          refine w_goto (pc := 72) hC dX1_pick_72 (tgt := 10) (by decide) ?_
          refine w_sub [2, 3, 4, 5, 6, 7, 8, 0] (lv2 := [(1, .ref (A 3)), (2, .ref qb), (3, .ref (A 2)), (4, .int (J rung)), (5, .int (J may)), (6, .int (J x)), (7, .int (J g)), (8, .int (J (r + 1)))]) rfl ?_
          refine ih10 x g (r + 1) ?_ ?_ ?_ ?_ ?_
          · first | assumption | omega
          · first | assumption | omega
          · first | exact BSA_take i3 c49 c56 i1 | exact BSA_skip i3 (fun h9 => c49 h9.1) g4.1 | exact BSA_skip i3 (fun h9 => Int.not_lt.mpr c56 h9.2) g4.1
          · first | assumption | omega
          · omega
        · refine w_iload (pc := 52) hC dX1_pick_52 0 rfl ?_
          refine w_iload (pc := 54) hC dX1_pick_54 7 rfl ?_
          refine w_icmp_le (pc := 56) (tgt := 69) hC dX1_pick_56 (by decide) (by omega) (fun c56 => ?_) (fun c56 => ?_)
          · refine w_iinc (pc := 69) hC dX1_pick_69 (lv2 := [(8, .int (J (r + 1))), (9, .int (J ((if S (183 + c) = 2 then 1 else (rung - r)) * (S (130 + 6 * (dg b rung) + (dg b r)))))), (1, .ref (A 3)), (2, .ref qb), (3, .ref (A 2)), (4, .int (J rung)), (5, .int (J may)), (6, .int (J x)), (7, .int (J g))]) 8 rfl (by rw [hnL]; decide) rfl ?_
            refine w_goto (pc := 72) hC dX1_pick_72 (tgt := 10) (by decide) ?_
            refine w_sub [2, 3, 4, 5, 6, 7, 8, 0] (lv2 := [(1, .ref (A 3)), (2, .ref qb), (3, .ref (A 2)), (4, .int (J rung)), (5, .int (J may)), (6, .int (J x)), (7, .int (J g)), (8, .int (J (r + 1)))]) rfl ?_
            refine ih10 x g (r + 1) ?_ ?_ ?_ ?_ ?_
            · first | assumption | omega
            · first | assumption | omega
            · first | exact BSA_take i3 c49 c56 i1 | exact BSA_skip i3 (fun h9 => c49 h9.1) g4.1 | exact BSA_skip i3 (fun h9 => Int.not_lt.mpr c56 h9.2) g4.1
            · first | assumption | omega
            · omega
          · refine w_iload (pc := 59) hC dX1_pick_59 0 rfl ?_
            refine w_istore (pc := 61) hC dX1_pick_61 (lv2 := [(7, .int (J ((if S (183 + c) = 2 then 1 else (rung - r)) * (S (130 + 6 * (dg b rung) + (dg b r)))))), (9, .int (J ((if S (183 + c) = 2 then 1 else (rung - r)) * (S (130 + 6 * (dg b rung) + (dg b r)))))), (1, .ref (A 3)), (2, .ref qb), (3, .ref (A 2)), (4, .int (J rung)), (5, .int (J may)), (6, .int (J x)), (8, .int (J r))]) (by rw [hnL]; decide) rfl ?_
            refine w_aload_n (pc := 63) hC dX1_pick_63 4 rfl rfl ?_
            refine w_iload (pc := 64) hC dX1_pick_64 8 rfl ?_
            refine w_ialdV (pc := 66) (g := (I 2)) (v := dg b r) hC dX1_pick_66 2 CW_2 (by omega) (Nat.le_of_ble_eq_true rfl) (hB _ (by omega) (by omega)) ?_
            refine w_istore (pc := 67) hC dX1_pick_67 (lv2 := [(6, .int (J (dg b r))), (7, .int (J ((if S (183 + c) = 2 then 1 else (rung - r)) * (S (130 + 6 * (dg b rung) + (dg b r)))))), (9, .int (J ((if S (183 + c) = 2 then 1 else (rung - r)) * (S (130 + 6 * (dg b rung) + (dg b r)))))), (1, .ref (A 3)), (2, .ref qb), (3, .ref (A 2)), (4, .int (J rung)), (5, .int (J may)), (8, .int (J r))]) (by rw [hnL]; decide) rfl ?_
            refine w_iinc (pc := 69) hC dX1_pick_69 (lv2 := [(8, .int (J (r + 1))), (6, .int (J (dg b r))), (7, .int (J ((if S (183 + c) = 2 then 1 else (rung - r)) * (S (130 + 6 * (dg b rung) + (dg b r)))))), (9, .int (J ((if S (183 + c) = 2 then 1 else (rung - r)) * (S (130 + 6 * (dg b rung) + (dg b r)))))), (1, .ref (A 3)), (2, .ref qb), (3, .ref (A 2)), (4, .int (J rung)), (5, .int (J may))]) 8 rfl (by rw [hnL]; decide) rfl ?_
            refine w_goto (pc := 72) hC dX1_pick_72 (tgt := 10) (by decide) ?_
            refine w_sub [4, 5, 6, 7, 8, 1, 2, 0] (lv2 := [(1, .ref (A 3)), (2, .ref qb), (3, .ref (A 2)), (4, .int (J rung)), (5, .int (J may)), (6, .int (J (dg b r))), (7, .int (J ((if S (183 + c) = 2 then 1 else (rung - r)) * (S (130 + 6 * (dg b rung) + (dg b r)))))), (8, .int (J (r + 1)))]) rfl ?_
            refine ih10 (dg b r) ((if S (183 + c) = 2 then 1 else (rung - r)) * (S (130 + 6 * (dg b rung) + (dg b r)))) (r + 1) ?_ ?_ ?_ ?_ ?_
            · first | assumption | omega
            · first | assumption | omega
            · first | exact BSA_take i3 c49 c56 i1 | exact BSA_skip i3 (fun h9 => c49 h9.1) g4.1 | exact BSA_skip i3 (fun h9 => Int.not_lt.mpr c56 h9.2) g4.1
            · first | assumption | omega
            · omega
  refine w_sub [4, 5, 6, 7, 8, 2, 1, 0] (lv2 := [(1, .ref (A 3)), (2, .ref qb), (3, .ref (A 2)), (4, .int (J rung)), (5, .int (J may)), (6, .int (J (-5))), (7, .int (J (-1))), (8, .int (J 0))]) rfl ?_
  refine loop10 ((rung - 0) + 1 : Int).toNat (-5) (-1) 0 ?_ ?_ ?_ ?_ ?_
  · first | assumption | omega
  · first | assumption | omega
  · exact BSA_0
  · first | assumption | omega
  · omega
set_option maxRecDepth 100000 in
set_option maxHeartbeats 4000000 in
theorem c_X10_pick_v2 (l : Launch) (G : GT) (A D : Nat → Nat) (T : Nat) (I : Nat → Int → Int) (F : Nat → Int) (Q : Nat → Nat → Option Nat) (P : va_W) (S : Int → Int) (c : Int) (b : Int) (rf : Int) (day : Int) (i0 : Nat) (q : Nat) (qb : Nat) (rung : Int) (may : Int) (hR : RI S) (hL : LRn G.2.1 S I F Q P) (hc : 0 ≤ c ∧ c < S 1) (hcl : CLB P G.2.1 S c qb) (hV : VB (S 0) b) (hB : ∀ r : Int, 0 ≤ r → r < S 0 → (I 2) r = dg b r) (hr : 0 ≤ rung ∧ rung < S 0) (hq : P[i0]? = some (q, .inr (10, [.int (J (dg b rung)), .int (J (S (172 + dg b rung)))]))) (hk : S (166 + dg b rung) = 5) (hp : PBT S c rf b rung day may) : CT l yX10_pick cX10_pick 6 (some .int) 1 0 0 G [.ref q, .ref (A 3), .ref qb, .ref (A 2), .int (J rung), .int (J may)] (CW A D T G.2.1 I F Q P) (fun vo wo => vo = some (.int (J (PCK S c rf b rung day))) ∧ wo = CW A D T G.2.1 I F Q P) := by
  refine CT_of (own := RX10) rfl rfl (Nat.le_of_ble_eq_true rfl) (fun K hl hnL hC hRT hin => ?_)
  subst hl
  show WW K G 0 0 (CW A D T G.2.1 I F Q P) 0 [(0, .ref q), (1, .ref (A 3)), (2, .ref qb), (3, .ref (A 2)), (4, .int (J rung)), (5, .int (J may))] []
  have hn := hR.n
  have g1 := VB_dg hV hr.1 hr.2
  have hm := hp.1
  have gq : ∀ z : Int, 0 ≤ z → z < S 0 → 0 ≤ dg b z ∧ dg b z < S 0 := fun z z0 z1 => VB_dg hV z0 z1
  have gc : ∀ z : Int, 0 ≤ z → z < S 0 → 0 ≤ S (130 + 6 * dg b rung + dg b z) ∧ S (130 + 6 * dg b rung + dg b z) ≤ 100 := fun z z0 z1 => hR.ch g1 (gq z z0 z1)
  have gv := hR.vv (172 + dg b rung) (by have := hR.n; omega) (by have := hR.n; omega)
  refine w_aload_n (pc := 0) hC dX10_pick_0 0 rfl rfl ?_
  refine w_callO (pc := 1) (As := []) (rest := []) hC dX10_pick_1 vo_X10_11_X10 (c_X0_v (kl K) G A D T I F Q P i0 5 (dg b rung) (S (172 + dg b rung)) q (show P[i0]? = some (q, .inr (kci 5, [.int (J (dg b rung)), .int (J (S (172 + dg b rung)))])) from by exact hq) (show 0 ≤ 5 ∧ 5 ≤ 6 from by decide)) (by decide) ⟨Nat.le_of_ble_eq_true rfl, Nat.le_of_ble_eq_true rfl⟩ (q0 := 60 + i0) (CW_P hq) rfl rfl rfl (Nat.le_of_ble_eq_true rfl) rfl (fun vo wo hv => ?_)
  obtain ⟨hv1, hw1⟩ := hv
  rw [hv1, hw1]
  show WW K G 0 0 (CW A D T G.2.1 I F Q P) 4 [(0, .ref q), (1, .ref (A 3)), (2, .ref qb), (3, .ref (A 2)), (4, .int (J rung)), (5, .int (J may))] [.int (J (S (172 + dg b rung)))]
  refine w_bipush (pc := 4) hC dX10_pick_4 (z := 6) rfl ?_
  refine w_icmp_ge (pc := 6) (tgt := 28) hC dX10_pick_6 (by decide) (by omega) (fun c6 => ?_) (fun c6 => ?_)
  · refine w_bipush (pc := 28) hC dX10_pick_28 (z := (-5)) rfl ?_
    refine w_iret (pc := 30) hC hRT dX10_pick_30 rfl ?_
    refine ⟨retI (by first | exact pk_5 hp (by omega) hk hV hr.2 gv.1 c18 | exact pk_5n hp (by omega) hk (fun h9 => c18 h9.2) (fun z z0 z1 => by have := gq z z0 (by omega); omega) | exact pk_5n hp (by omega) hk (fun h9 => by omega) (fun z z0 z1 => by have := gq z z0 (by omega); omega)), rfl⟩
  · refine w_iload (pc := 9) hC dX10_pick_9 5 rfl ?_
    refine w_aload_n (pc := 11) hC dX10_pick_11 0 rfl rfl ?_
    refine w_callO (pc := 12) (As := []) (rest := [.int (J may)]) hC dX10_pick_12 vo_X10_11_X10 (c_X0_v (kl K) G A D T I F Q P i0 5 (dg b rung) (S (172 + dg b rung)) q (show P[i0]? = some (q, .inr (kci 5, [.int (J (dg b rung)), .int (J (S (172 + dg b rung)))])) from by exact hq) (show 0 ≤ 5 ∧ 5 ≤ 6 from by decide)) (by decide) ⟨Nat.le_of_ble_eq_true rfl, Nat.le_of_ble_eq_true rfl⟩ (q0 := 60 + i0) (CW_P hq) rfl rfl rfl (Nat.le_of_ble_eq_true rfl) rfl (fun vo wo hv => ?_)
    obtain ⟨hv1, hw1⟩ := hv
    rw [hv1, hw1]
    show WW K G 0 0 (CW A D T G.2.1 I F Q P) 15 [(0, .ref q), (1, .ref (A 3)), (2, .ref qb), (3, .ref (A 2)), (4, .int (J rung)), (5, .int (J may))] [.int (J (S (172 + dg b rung))), .int (J may)]
    refine w_callSN (pc := 15) (As := [.int (J may), .int (J (S (172 + dg b rung)))]) (rest := []) hC dX10_pick_15 sn_X10_15 (c_X11_holds (kl K) G (CW A D T G.2.1 I F Q P) may (S (172 + dg b rung)) (show 0 ≤ may ∧ may < 2147483648 from by first | assumption | omega) (show 0 ≤ (S (172 + dg b rung)) ∧ (S (172 + dg b rung)) < 32 from by first | assumption | omega)) (by decide) ⟨Nat.le_of_ble_eq_true rfl, Nat.le_of_ble_eq_true rfl⟩ rfl (Nat.le_of_ble_eq_true rfl) rfl (fun vo wo hv => ?_)
    obtain ⟨hv1, hw1⟩ := hv
    rw [hv1, hw1]
    show WW K G 0 0 (CW A D T G.2.1 I F Q P) 18 [(0, .ref q), (1, .ref (A 3)), (2, .ref qb), (3, .ref (A 2)), (4, .int (J rung)), (5, .int (J may))] [.int (J (bI (may / 2 ^ (S (172 + dg b rung)).toNat % 2 = 1)))]
    refine w_if_eq_b (pc := 18) (tgt := 28) hC dX10_pick_18 (by decide) (fun c18 => ?_) (fun c18 => ?_)
    · refine w_bipush (pc := 28) hC dX10_pick_28 (z := (-5)) rfl ?_
      refine w_iret (pc := 30) hC hRT dX10_pick_30 rfl ?_
      refine ⟨retI (by first | exact pk_5 hp (by omega) hk hV hr.2 gv.1 c18 | exact pk_5n hp (by omega) hk (fun h9 => c18 h9.2) (fun z z0 z1 => by have := gq z z0 (by omega); omega) | exact pk_5n hp (by omega) hk (fun h9 => by omega) (fun z z0 z1 => by have := gq z z0 (by omega); omega)), rfl⟩
    · refine w_aload_n (pc := 21) hC dX10_pick_21 0 rfl rfl ?_
      refine w_callO (pc := 22) (As := []) (rest := []) hC dX10_pick_22 vo_X10_11_X10 (c_X0_v (kl K) G A D T I F Q P i0 5 (dg b rung) (S (172 + dg b rung)) q (show P[i0]? = some (q, .inr (kci 5, [.int (J (dg b rung)), .int (J (S (172 + dg b rung)))])) from by exact hq) (show 0 ≤ 5 ∧ 5 ≤ 6 from by decide)) (by decide) ⟨Nat.le_of_ble_eq_true rfl, Nat.le_of_ble_eq_true rfl⟩ (q0 := 60 + i0) (CW_P hq) rfl rfl rfl (Nat.le_of_ble_eq_true rfl) rfl (fun vo wo hv => ?_)
      obtain ⟨hv1, hw1⟩ := hv
      rw [hv1, hw1]
      show WW K G 0 0 (CW A D T G.2.1 I F Q P) 25 [(0, .ref q), (1, .ref (A 3)), (2, .ref qb), (3, .ref (A 2)), (4, .int (J rung)), (5, .int (J may))] [.int (J (S (172 + dg b rung)))]
      refine w_goto (pc := 25) hC dX10_pick_25 (tgt := 30) (by decide) ?_
      refine w_iret (pc := 30) hC hRT dX10_pick_30 rfl ?_
      refine ⟨retI (by first | exact pk_5 hp (by omega) hk hV hr.2 gv.1 c18 | exact pk_5n hp (by omega) hk (fun h9 => c18 h9.2) (fun z z0 z1 => by have := gq z z0 (by omega); omega) | exact pk_5n hp (by omega) hk (fun h9 => by omega) (fun z z0 z1 => by have := gq z z0 (by omega); omega)), rfl⟩
set_option maxRecDepth 100000 in
set_option maxHeartbeats 4000000 in
theorem c_X8_pick_v2 (l : Launch) (G : GT) (A D : Nat → Nat) (T : Nat) (I : Nat → Int → Int) (F : Nat → Int) (Q : Nat → Nat → Option Nat) (P : va_W) (S : Int → Int) (c : Int) (b : Int) (rf : Int) (day : Int) (i0 : Nat) (q : Nat) (qb : Nat) (rung : Int) (may : Int) (hR : RI S) (hL : LRn G.2.1 S I F Q P) (hc : 0 ≤ c ∧ c < S 1) (hcl : CLB P G.2.1 S c qb) (hV : VB (S 0) b) (hB : ∀ r : Int, 0 ≤ r → r < S 0 → (I 2) r = dg b r) (hr : 0 ≤ rung ∧ rung < S 0) (hq : P[i0]? = some (q, .inr (8, [.int (J (dg b rung)), .int (J (S (172 + dg b rung)))]))) (hk : S (166 + dg b rung) = 6) (hp : PBT S c rf b rung day may) : CT l yX8_pick cX8_pick 6 (some .int) 0 0 0 G [.ref q, .ref (A 3), .ref qb, .ref (A 2), .int (J rung), .int (J may)] (CW A D T G.2.1 I F Q P) (fun vo wo => vo = some (.int (J (PCK S c rf b rung day))) ∧ wo = CW A D T G.2.1 I F Q P) := by
  refine CT_of (own := RX8) rfl rfl (Nat.le_of_ble_eq_true rfl) (fun K hl hnL hC hRT hin => ?_)
  subst hl
  show WW K G 0 0 (CW A D T G.2.1 I F Q P) 0 [(0, .ref q), (1, .ref (A 3)), (2, .ref qb), (3, .ref (A 2)), (4, .int (J rung)), (5, .int (J may))] []
  have hn := hR.n
  refine w_bipush (pc := 0) hC dX8_pick_0 (z := (-5)) rfl ?_
  refine w_iret (pc := 2) hC hRT dX8_pick_2 rfl ?_
  refine ⟨retI (by exact pk_6 hp (by omega) hk), rfl⟩
set_option maxRecDepth 100000 in
set_option maxHeartbeats 4000000 in
theorem c_X6_mayBits_v54 (l : Launch) (G : GT) (A D : Nat → Nat) (T : Nat) (I : Nat → Int → Int) (F : Nat → Int) (Q : Nat → Nat → Option Nat) (P : va_W) (S : Int → Int) (c : Int) (b : Int) (qb : Nat) (rung : Int) (day : Int) (hR : RI S) (hL : LRn G.2.1 S I F Q P) (hc : 0 ≤ c ∧ c < S 1) (hcl : CLB P G.2.1 S c qb) (hV : VB (S 0) b) (hB : ∀ r : Int, 0 ≤ r → r < S 0 → (I 54) r = dg b r) (hr : 0 ≤ rung ∧ rung < S 0) (hd : 0 ≤ day ∧ day ≤ 5000) : CT l yX6_mayBits cX6_mayBits 9 (some .int) 2 0 0 G [.ref (A 1), .ref qb, .ref (A 54), .int (J rung), .int (J day)] (CW A D T G.2.1 I F Q P) (fun vo wo => ∃ (b23 : Int → Int), vo = some (.int (J (MSK S c (-1) b (dg b rung) day))) ∧ wo = CW A D T G.2.1 (au I 23 b23) F Q P) := by
  refine CT_of (own := RX6) rfl rfl (Nat.le_of_ble_eq_true rfl) (fun K hl hnL hC hRT hin => ?_)
  subst hl
  show WW K G 0 0 (CW A D T G.2.1 I F Q P) 0 [(0, .ref (A 1)), (1, .ref qb), (2, .ref (A 54)), (3, .int (J rung)), (4, .int (J day))] []
  have hn := hR.n
  have hcl2 := hcl
  obtain ⟨i, j, qc, g, hq, hqc, hg⟩ := hcl2
  have g1 := VB_dg hV hr.1 hr.2
  have hup := hR.up (178 + c) (by have := hR.cl; omega) (by have := hR.cl; omega)
  have hf : ∀ k : Nat, (k : Int) ≤ rung → ∀ z : Int, 1 ≤ z → z ≤ (k : Int) → 0 ≤ dg b (rung - z) ∧ dg b (rung - z) < 6 := fun k e z z1 z2 => by have := VB_dg hV (r := rung - z) (by omega) (by omega); omega
  refine w_aload_n (pc := 0) hC dX6_mayBits_0 2 rfl rfl ?_
  refine w_iload_n (pc := 1) hC dX6_mayBits_1 3 rfl rfl ?_
  refine w_ialdV (pc := 2) (g := (I 54)) (v := dg b rung) hC dX6_mayBits_2 54 CW_54 (by omega) (Nat.le_of_ble_eq_true rfl) (hB _ (by omega) (by omega)) ?_
  refine w_istore (pc := 3) hC dX6_mayBits_3 (lv2 := [(5, .int (J (dg b rung))), (0, .ref (A 1)), (1, .ref qb), (2, .ref (A 54)), (3, .int (J rung)), (4, .int (J day))]) (by rw [hnL]; decide) rfl ?_
  refine w_iconst (pc := 5) hC dX6_mayBits_5 ?_
  refine w_istore (pc := 6) hC dX6_mayBits_6 (lv2 := [(6, .int (J 0)), (5, .int (J (dg b rung))), (0, .ref (A 1)), (1, .ref qb), (2, .ref (A 54)), (3, .int (J rung)), (4, .int (J day))]) (by rw [hnL]; decide) rfl ?_
  refine w_aload_n (pc := 8) hC dX6_mayBits_8 2 rfl rfl ?_
  refine w_getf (pc := 9) (v := .ref (A 23)) hC dX6_mayBits_9 fi_X6_67 1 CW_1 rfl ?_
  refine w_iconst (pc := 12) hC dX6_mayBits_12 ?_
  refine w_iload (pc := 13) hC dX6_mayBits_13 1 rfl ?_
  refine w_iast (pc := 15) (g := (I 23)) (w2 := CW A D T G.2.1 (au I 23 (gu (I 23) 0 (dg b rung))) F Q P) hC dX6_mayBits_15 23 CW_23 (by omega) (Nat.le_of_ble_eq_true rfl) (CWa_23 rfl) ?_
  generalize h15 : gu (I 23) 0 (dg b rung) = s15
  refine w_aload_n (pc := 16) hC dX6_mayBits_16 2 rfl rfl ?_
  refine w_getf (pc := 17) (v := .ref (A 23)) hC dX6_mayBits_17 fi_X6_67 1 CW_1 rfl ?_
  refine w_iconst (pc := 20) hC dX6_mayBits_20 ?_
  refine w_iload_n (pc := 21) hC dX6_mayBits_21 5 rfl rfl ?_
  refine w_iast (pc := 22) (g := s15) (w2 := CW A D T G.2.1 (au I 23 (gu s15 2 rung)) F Q P) hC dX6_mayBits_22 23 CW_23 (by omega) (Nat.le_of_ble_eq_true rfl) (CWa_23 au_rp) ?_
  generalize h22 : gu s15 2 rung = s22
  refine w_aload_n (pc := 23) hC dX6_mayBits_23 2 rfl rfl ?_
  refine w_getf (pc := 24) (v := .ref (A 23)) hC dX6_mayBits_24 fi_X6_67 1 CW_1 rfl ?_
  refine w_iconst (pc := 27) hC dX6_mayBits_27 ?_
  refine w_iload (pc := 28) hC dX6_mayBits_28 6 rfl ?_
  refine w_bipush (pc := 30) hC dX6_mayBits_30 (z := 7) rfl ?_
  refine w_irem (pc := 32) hC dX6_mayBits_32 (by omega) ?_
  refine w_iast (pc := 33) (g := s22) (w2 := CW A D T G.2.1 (au I 23 (gu s22 5 (day % 7))) F Q P) hC dX6_mayBits_33 23 CW_23 (by omega) (Nat.le_of_ble_eq_true rfl) (CWa_23 au_rp) ?_
  generalize h33 : gu s22 5 (day % 7) = s33
  refine w_iconst (pc := 34) hC dX6_mayBits_34 ?_
  refine w_istore (pc := 35) hC dX6_mayBits_35 (lv2 := [(7, .int (J 1)), (6, .int (J 0)), (5, .int (J (dg b rung))), (0, .ref (A 1)), (1, .ref qb), (2, .ref (A 54)), (3, .int (J rung)), (4, .int (J day))]) (by rw [hnL]; decide) rfl ?_
  have loop37 : ∀ (nF : Nat) (x : Int) (u : Int) (a23_37 : Int → Int), (1 ≤ u) → ((u ≤ rung + 1 ∨ u = 1) ∧ (u ≤ S (178 + c) + 1 ∨ u = 1)) → (x = mskN (fun z => decide (MAY S c (-1) b (dg b rung) rung day z)) (fun z => dg b (rung - z)) (u - 1).toNat) → (a23_37 0 = dg b rung) → (a23_37 2 = rung) → (a23_37 5 = day % 7) → (rung + 2 - u) < (nF : Int) → WW K G 0 0 (CW A D T G.2.1 (au I 23 a23_37) F Q P) 37 [(0, .ref (A 1)), (1, .ref qb), (2, .ref (A 54)), (3, .int (J rung)), (5, .int (J (dg b rung))), (6, .int (J x)), (7, .int (J u))] [] := by
    intro nF
    induction nF with
    | zero => intro x u a23_37 i1 i2 i3 f0 f2 f5 hm37; exact absurd hm37 (by omega)
    | succ nF ih37 =>
      intro x u a23_37 i1 i2 i3 f0 f2 f5 hm37
      have bb := mskN_bd (fun z => decide (MAY S c (-1) b (dg b rung) rung day z)) (fun z => dg b (rung - z)) (u - 1).toNat (hf _ (by omega))
      rw [← i3] at bb
      refine w_iload (pc := 37) hC dX6_mayBits_37 6 rfl ?_
      refine w_aload_n (pc := 39) hC dX6_mayBits_39 1 rfl rfl ?_
      refine w_getfN (pc := 40) (v := .int (J (S (178 + c)))) hC dX6_mayBits_40 fn_X6_87 (60 + i) (CW_P hq) rfl ?_
      refine w_icmp_gt (pc := 43) (tgt := 118) hC dX6_mayBits_43 (by decide) (by omega) (fun c43 => ?_) (fun c43 => ?_)
      · refine w_iload (pc := 118) hC dX6_mayBits_118 5 rfl ?_
        refine w_iret (pc := 120) hC hRT dX6_mayBits_120 rfl ?_
        refine ⟨a23_37, retI (by rw [i3, MSK_ru hV hr, show (imin (S (178 + c)) rung).toNat = (u - 1).toNat by unfold imin; split <;> omega]), rfl⟩
      · refine w_iload (pc := 46) hC dX6_mayBits_46 6 rfl ?_
        refine w_iload_n (pc := 48) hC dX6_mayBits_48 3 rfl rfl ?_
        refine w_icmp_gt (pc := 49) (tgt := 118) hC dX6_mayBits_49 (by decide) (by omega) (fun c49 => ?_) (fun c49 => ?_)
        · refine w_iload (pc := 118) hC dX6_mayBits_118 5 rfl ?_
          refine w_iret (pc := 120) hC hRT dX6_mayBits_120 rfl ?_
          refine ⟨a23_37, retI (by rw [i3, MSK_ru hV hr, show (imin (S (178 + c)) rung).toNat = (u - 1).toNat by unfold imin; split <;> omega]), rfl⟩
        · have g2 := VB_dg hV (r := rung - u) (by omega) (by omega)
          have g3 := hR.ch g1 g2
          have g5 := p2_6 (x := dg b (rung - u)) (by omega) (by omega)
          refine w_aload_n (pc := 52) hC dX6_mayBits_52 2 rfl rfl ?_
          refine w_iload_n (pc := 53) hC dX6_mayBits_53 3 rfl rfl ?_
          refine w_iload (pc := 54) hC dX6_mayBits_54 6 rfl ?_
          refine w_isub (pc := 56) hC dX6_mayBits_56 ?_
          refine w_ialdV (pc := 57) (g := (I 54)) (v := dg b (rung - u)) hC dX6_mayBits_57 54 CW_54 (by omega) (Nat.le_of_ble_eq_true rfl) (hB _ (by omega) (by omega)) ?_
          refine w_istore (pc := 58) hC dX6_mayBits_58 (lv2 := [(8, .int (J (dg b (rung - u)))), (0, .ref (A 1)), (1, .ref qb), (2, .ref (A 54)), (3, .int (J rung)), (5, .int (J (dg b rung))), (6, .int (J x)), (7, .int (J u))]) (by rw [hnL]; decide) rfl ?_
          refine w_aload_n (pc := 60) hC dX6_mayBits_60 1 rfl rfl ?_
          refine w_getf (pc := 61) (v := .ref (A 23)) hC dX6_mayBits_61 fi_X6_67 1 CW_1 rfl ?_
          refine w_iconst (pc := 64) hC dX6_mayBits_64 ?_
          refine w_iload (pc := 65) hC dX6_mayBits_65 0 rfl ?_
          refine w_iast (pc := 67) (g := a23_37) (w2 := CW A D T G.2.1 (au I 23 (gu a23_37 1 (dg b (rung - u)))) F Q P) hC dX6_mayBits_67 23 CW_23 (by omega) (Nat.le_of_ble_eq_true rfl) (CWa_23 au_rp) ?_
          generalize h67 : gu a23_37 1 (dg b (rung - u)) = s67
          refine w_aload_n (pc := 68) hC dX6_mayBits_68 1 rfl rfl ?_
          refine w_getf (pc := 69) (v := .ref (A 23)) hC dX6_mayBits_69 fi_X6_67 1 CW_1 rfl ?_
          refine w_iconst (pc := 72) hC dX6_mayBits_72 ?_
          refine w_iload (pc := 73) hC dX6_mayBits_73 7 rfl ?_
          refine w_iast (pc := 75) (g := s67) (w2 := CW A D T G.2.1 (au I 23 (gu s67 3 u)) F Q P) hC dX6_mayBits_75 23 CW_23 (by omega) (Nat.le_of_ble_eq_true rfl) (CWa_23 au_rp) ?_
          generalize h75 : gu s67 3 u = s75
          refine w_aload_n (pc := 76) hC dX6_mayBits_76 1 rfl rfl ?_
          refine w_getf (pc := 77) (v := .ref (A 23)) hC dX6_mayBits_77 fi_X6_67 1 CW_1 rfl ?_
          refine w_iconst (pc := 80) hC dX6_mayBits_80 ?_
          refine w_aload_n (pc := 81) hC dX6_mayBits_81 1 rfl rfl ?_
          refine w_getf (pc := 82) (v := .ref (A 3)) hC dX6_mayBits_82 fi_X6_21 1 CW_1 rfl ?_
          refine w_iload (pc := 85) hC dX6_mayBits_85 5 rfl ?_
          refine w_aaldS (t0 := 6) (q := A (4 + (dg b rung).toNat)) hC dX6_mayBits_87 3 CW_3 rfl rfl (by omega) (Nat.le_of_ble_eq_true rfl) (rw6_at (by omega)) ?_
          refine w_iload (pc := 88) hC dX6_mayBits_88 0 rfl ?_
          refine w_ialdV (pc := 90) (v := S (130 + 6 * (dg b rung) + (dg b (rung - u)))) hC dX6_mayBits_90 (4 + (dg b rung).toNat) (CW_ch (by omega) (by omega)) (by omega) (Nat.le_of_ble_eq_true rfl) (l_ch (LRb_au (by decide) hL) hR (by omega) (by omega) (by omega) (by omega)) ?_
          refine w_iast (pc := 91) (g := s75) (w2 := CW A D T G.2.1 (au I 23 (gu s75 4 (S (130 + 6 * (dg b rung) + (dg b (rung - u)))))) F Q P) hC dX6_mayBits_91 23 CW_23 (by omega) (Nat.le_of_ble_eq_true rfl) (CWa_23 au_rp) ?_
          generalize h91 : gu s75 4 (S (130 + 6 * (dg b rung) + (dg b (rung - u)))) = s91
          refine w_aload_n (pc := 92) hC dX6_mayBits_92 2 rfl rfl ?_
          refine w_aload_n (pc := 93) hC dX6_mayBits_93 1 rfl rfl ?_
          refine w_getf (pc := 94) (v := .ref (A 23)) hC dX6_mayBits_94 fi_X6_67 1 CW_1 rfl ?_
          refine w_callV (pc := 97) (As := [.ref (A 23)]) (rest := []) hC dX6_mayBits_97 cv_X6_90 (c_X2_lets (kl K) G A D T (au I 23 s91) F Q P S c (byf S (dg b rung) (dg b (rung - u)) rung u day) qb (show 0 ≤ c ∧ c < S 1 from by first | assumption | omega) (show CLB P G.2.1 S c qb from by first | assumption | omega) (show RI S from by first | assumption | omega) (show ∀ j : Int, 0 ≤ j → j < 6 → s91 j = (byf S (dg b rung) (dg b (rung - u)) rung u day) j ∧ -2147483648 ≤ (byf S (dg b rung) (dg b (rung - u)) rung u day) j ∧ (byf S (dg b rung) (dg b (rung - u)) rung u day) j < 2147483648 from by exact fun j j0 j1 => ⟨fct f0 f2 f5 h67 h75 h91 j j0 j1, byf_bd (by omega) (by omega) (by omega) (by omega) g3 (by omega) j⟩)) (by decide) ⟨Nat.le_of_ble_eq_true rfl, Nat.le_of_ble_eq_true rfl⟩ (q0 := (60 + i)) (CW_P hq) rfl rfl rfl (Nat.le_of_ble_eq_true rfl) rfl (fun vo wo hv => ?_)
          obtain ⟨hv1, hw1⟩ := hv
          rw [hv1, hw1]
          show WW K G 0 0 (CW A D T G.2.1 (au I 23 s91) F Q P) 100 [(8, .int (J (dg b (rung - u)))), (0, .ref (A 1)), (1, .ref qb), (2, .ref (A 54)), (3, .int (J rung)), (5, .int (J (dg b rung))), (6, .int (J x)), (7, .int (J u))] [.int (J (bI (LET S c (byf S (dg b rung) (dg b (rung - u)) rung u day))))]
          refine w_if_eq_b (pc := 100) (tgt := 112) hC dX6_mayBits_100 (by decide) (fun c100 => ?_) (fun c100 => ?_)
          · refine w_iinc (pc := 112) hC dX6_mayBits_112 (lv2 := [(7, .int (J (u + 1))), (8, .int (J (dg b (rung - u)))), (0, .ref (A 1)), (1, .ref qb), (2, .ref (A 54)), (3, .int (J rung)), (5, .int (J (dg b rung))), (6, .int (J x))]) 7 rfl (by rw [hnL]; decide) rfl ?_
            refine w_goto (pc := 115) hC dX6_mayBits_115 (tgt := 37) (by decide) ?_
            refine w_sub [2, 3, 4, 5, 6, 7, 0] (lv2 := [(0, .ref (A 1)), (1, .ref qb), (2, .ref (A 54)), (3, .int (J rung)), (5, .int (J (dg b rung))), (6, .int (J x)), (7, .int (J (u + 1)))]) rfl ?_
            refine ih37 x (u + 1) s91 ?_ ?_ ?_ ?_ ?_ ?_ ?_
            · first | assumption | omega
            · omega
            · first | exact mb_yes i1 i3 (by simp only [decide_eq_true_eq]; exact ⟨by omega, c100⟩) | exact mb_no i1 i3 (by omega) (by simp only [decide_eq_true_eq]; exact fun h9 => c100 h9.2)
            · rw [← h91, ← h75, ← h67]; exact f0
            · rw [← h91, ← h75, ← h67]; exact f2
            · rw [← h91, ← h75, ← h67]; exact f5
            · omega
          · refine w_iload (pc := 103) hC dX6_mayBits_103 6 rfl ?_
            refine w_iconst (pc := 105) hC dX6_mayBits_105 ?_
            refine w_iload (pc := 106) hC dX6_mayBits_106 0 rfl ?_
            refine w_ishl (pc := 108) hC dX6_mayBits_108 (by omega) ?_
            refine w_ior (pc := 109) hC dX6_mayBits_109 (v := ior x (1 * 2 ^ (dg b (rung - u)).toNat)) (J_or (by omega)) ?_
            refine w_istore (pc := 110) hC dX6_mayBits_110 (lv2 := [(6, .int (J (ior x (1 * 2 ^ (dg b (rung - u)).toNat)))), (8, .int (J (dg b (rung - u)))), (0, .ref (A 1)), (1, .ref qb), (2, .ref (A 54)), (3, .int (J rung)), (5, .int (J (dg b rung))), (7, .int (J u))]) (by rw [hnL]; decide) rfl ?_
            refine w_iinc (pc := 112) hC dX6_mayBits_112 (lv2 := [(7, .int (J (u + 1))), (6, .int (J (ior x (1 * 2 ^ (dg b (rung - u)).toNat)))), (8, .int (J (dg b (rung - u)))), (0, .ref (A 1)), (1, .ref qb), (2, .ref (A 54)), (3, .int (J rung)), (5, .int (J (dg b rung)))]) 7 rfl (by rw [hnL]; decide) rfl ?_
            refine w_goto (pc := 115) hC dX6_mayBits_115 (tgt := 37) (by decide) ?_
            refine w_sub [3, 4, 5, 6, 7, 1, 0] (lv2 := [(0, .ref (A 1)), (1, .ref qb), (2, .ref (A 54)), (3, .int (J rung)), (5, .int (J (dg b rung))), (6, .int (J (ior x (1 * 2 ^ (dg b (rung - u)).toNat)))), (7, .int (J (u + 1)))]) rfl ?_
            refine ih37 (ior x (1 * 2 ^ (dg b (rung - u)).toNat)) (u + 1) s91 ?_ ?_ ?_ ?_ ?_ ?_ ?_
            · first | assumption | omega
            · omega
            · first | exact mb_yes i1 i3 (by simp only [decide_eq_true_eq]; exact ⟨by omega, c100⟩) | exact mb_no i1 i3 (by omega) (by simp only [decide_eq_true_eq]; exact fun h9 => c100 h9.2)
            · rw [← h91, ← h75, ← h67]; exact f0
            · rw [← h91, ← h75, ← h67]; exact f2
            · rw [← h91, ← h75, ← h67]; exact f5
            · omega
  refine w_sub [3, 4, 5, 6, 2, 1, 0] (lv2 := [(0, .ref (A 1)), (1, .ref qb), (2, .ref (A 54)), (3, .int (J rung)), (5, .int (J (dg b rung))), (6, .int (J 0)), (7, .int (J 1))]) rfl ?_
  refine loop37 ((rung + 2 - 1) + 1 : Int).toNat 0 1 s33 ?_ ?_ ?_ ?_ ?_ ?_ ?_
  · first | assumption | omega
  · omega
  · rfl
  · rw [← h33, ← h22, ← h15]; rfl
  · rw [← h33, ← h22]; rfl
  · rw [← h33]; rfl
  · omega
set_option maxRecDepth 100000 in
set_option maxHeartbeats 4000000 in
theorem c_X0_pick_v54 (l : Launch) (G : GT) (A D : Nat → Nat) (T : Nat) (I : Nat → Int → Int) (F : Nat → Int) (Q : Nat → Nat → Option Nat) (P : va_W) (S : Int → Int) (c : Int) (b : Int) (rf : Int) (day : Int) (i0 : Nat) (q : Nat) (qb : Nat) (rung : Int) (may : Int) (hR : RI S) (hL : LRn G.2.1 S I F Q P) (hc : 0 ≤ c ∧ c < S 1) (hcl : CLB P G.2.1 S c qb) (hV : VB (S 0) b) (hB : ∀ r : Int, 0 ≤ r → r < S 0 → (I 54) r = dg b r) (hr : 0 ≤ rung ∧ rung < S 0) (hq : P[i0]? = some (q, .inr (0, [.int (J (dg b rung)), .int (J (S (172 + dg b rung)))]))) (hk : S (166 + dg b rung) = 0) (hp : PBT S c rf b rung day may) : CT l yX0_pick cX0_pick 10 (some .int) 1 0 0 G [.ref q, .ref (A 3), .ref qb, .ref (A 54), .int (J rung), .int (J may)] (CW A D T G.2.1 I F Q P) (fun vo wo => vo = some (.int (J (PCK S c rf b rung day))) ∧ wo = CW A D T G.2.1 I F Q P) := by
  refine CT_of (own := RX0) rfl rfl (Nat.le_of_ble_eq_true rfl) (fun K hl hnL hC hRT hin => ?_)
  subst hl
  show WW K G 0 0 (CW A D T G.2.1 I F Q P) 0 [(0, .ref q), (1, .ref (A 3)), (2, .ref qb), (3, .ref (A 54)), (4, .int (J rung)), (5, .int (J may))] []
  have hn := hR.n
  have g1 := VB_dg hV hr.1 hr.2
  have hm := hp.1
  have gq : ∀ z : Int, 0 ≤ z → z < S 0 → 0 ≤ dg b z ∧ dg b z < S 0 := fun z z0 z1 => VB_dg hV z0 z1
  have gc : ∀ z : Int, 0 ≤ z → z < S 0 → 0 ≤ S (130 + 6 * dg b rung + dg b z) ∧ S (130 + 6 * dg b rung + dg b z) ≤ 100 := fun z z0 z1 => hR.ch g1 (gq z z0 z1)
  refine w_bipush (pc := 0) hC dX0_pick_0 (z := (-5)) rfl ?_
  refine w_istore (pc := 2) hC dX0_pick_2 (lv2 := [(6, .int (J (-5))), (0, .ref q), (1, .ref (A 3)), (2, .ref qb), (3, .ref (A 54)), (4, .int (J rung)), (5, .int (J may))]) (by rw [hnL]; decide) rfl ?_
  refine w_iconst (pc := 4) hC dX0_pick_4 ?_
  refine w_istore (pc := 5) hC dX0_pick_5 (lv2 := [(7, .int (J (-1))), (6, .int (J (-5))), (0, .ref q), (1, .ref (A 3)), (2, .ref qb), (3, .ref (A 54)), (4, .int (J rung)), (5, .int (J may))]) (by rw [hnL]; decide) rfl ?_
  refine w_iload (pc := 7) hC dX0_pick_7 6 rfl ?_
  refine w_iconst (pc := 9) hC dX0_pick_9 ?_
  refine w_isub (pc := 10) hC dX0_pick_10 ?_
  refine w_istore (pc := 11) hC dX0_pick_11 (lv2 := [(8, .int (J (rung - 1))), (7, .int (J (-1))), (6, .int (J (-5))), (0, .ref q), (1, .ref (A 3)), (2, .ref qb), (3, .ref (A 54)), (4, .int (J rung)), (5, .int (J may))]) (by rw [hnL]; decide) rfl ?_
  have loop13 : ∀ (nF : Nat) (x : Int) (g : Int) (r : Int), (-1 ≤ r) → (r < rung) → (BSD may b (fun z => S (130 + 6 * dg b rung + dg b z)) r rung x g) → (-1 ≤ g ∧ g ≤ 100) → (r + 1) < (nF : Int) → WW K G 0 0 (CW A D T G.2.1 I F Q P) 13 [(1, .ref (A 3)), (3, .ref (A 54)), (4, .int (J rung)), (5, .int (J may)), (6, .int (J x)), (7, .int (J g)), (8, .int (J r))] [] := by
    intro nF
    induction nF with
    | zero => intro x g r i1 i2 i3 i4 hm13; exact absurd hm13 (by omega)
    | succ nF ih13 =>
      intro x g r i1 i2 i3 i4 hm13
      refine w_iload (pc := 13) hC dX0_pick_13 6 rfl ?_
      refine w_if_lt (pc := 15) (tgt := 66) hC dX0_pick_15 (by decide) (by omega) (fun c15 => ?_) (fun c15 => ?_)
      · refine w_iload (pc := 66) hC dX0_pick_66 4 rfl ?_
        refine w_iret (pc := 68) hC hRT dX0_pick_68 rfl ?_
        refine ⟨retI (by have e9 : r = -1 := (by omega); subst e9; exact pk_0 hp (by omega) hk (fun z z0 z1 => (gc z z0 (by omega)).1) i3), rfl⟩
      · have g2 := gq r (by omega) (by omega)
        have g3 := gc r (by omega) (by omega)
        refine w_aload_n (pc := 18) hC dX0_pick_18 0 rfl rfl ?_
        refine w_aload_n (pc := 19) hC dX0_pick_19 1 rfl rfl ?_
        refine w_iload (pc := 20) hC dX0_pick_20 2 rfl ?_
        refine w_ialdV (pc := 22) (g := (I 54)) (v := dg b rung) hC dX0_pick_22 54 CW_54 (by omega) (Nat.le_of_ble_eq_true rfl) (hB _ (by omega) (by omega)) ?_
        refine w_aaldS (t0 := 6) (q := A (4 + (dg b rung).toNat)) hC dX0_pick_23 3 CW_3 rfl rfl (by omega) (Nat.le_of_ble_eq_true rfl) (rw6_at (by omega)) ?_
        refine w_aload_n (pc := 24) hC dX0_pick_24 1 rfl rfl ?_
        refine w_iload (pc := 25) hC dX0_pick_25 6 rfl ?_
        refine w_ialdV (pc := 27) (g := (I 54)) (v := dg b r) hC dX0_pick_27 54 CW_54 (by omega) (Nat.le_of_ble_eq_true rfl) (hB _ (by omega) (by omega)) ?_
        refine w_ialdV (pc := 28) (v := S (130 + 6 * (dg b rung) + (dg b r))) hC dX0_pick_28 (4 + (dg b rung).toNat) (CW_ch (by omega) (by omega)) (by omega) (Nat.le_of_ble_eq_true rfl) (l_ch hL hR (by omega) (by omega) (by omega) (by omega)) ?_
        refine w_istore (pc := 29) hC dX0_pick_29 (lv2 := [(9, .int (J (S (130 + 6 * (dg b rung) + (dg b r))))), (1, .ref (A 3)), (3, .ref (A 54)), (4, .int (J rung)), (5, .int (J may)), (6, .int (J x)), (7, .int (J g)), (8, .int (J r))]) (by rw [hnL]; decide) rfl ?_
        refine w_iload (pc := 31) hC dX0_pick_31 4 rfl ?_
        refine w_aload_n (pc := 33) hC dX0_pick_33 2 rfl rfl ?_
        refine w_iload (pc := 34) hC dX0_pick_34 7 rfl ?_
        refine w_ialdV (pc := 36) (g := (I 54)) (v := dg b r) hC dX0_pick_36 54 CW_54 (by omega) (Nat.le_of_ble_eq_true rfl) (hB _ (by omega) (by omega)) ?_
        refine w_callSN (pc := 37) (As := [.int (J may), .int (J (dg b r))]) (rest := []) hC dX0_pick_37 sn_X0_18 (c_X11_holds (kl K) G (CW A D T G.2.1 I F Q P) may (dg b r) (show 0 ≤ may ∧ may < 2147483648 from by first | assumption | omega) (show 0 ≤ (dg b r) ∧ (dg b r) < 32 from by first | assumption | omega)) (by decide) ⟨Nat.le_of_ble_eq_true rfl, Nat.le_of_ble_eq_true rfl⟩ rfl (Nat.le_of_ble_eq_true rfl) rfl (fun vo wo hv => ?_)
        obtain ⟨hv1, hw1⟩ := hv
        rw [hv1, hw1]
        show WW K G 0 0 (CW A D T G.2.1 I F Q P) 40 [(9, .int (J (S (130 + 6 * (dg b rung) + (dg b r))))), (1, .ref (A 3)), (3, .ref (A 54)), (4, .int (J rung)), (5, .int (J may)), (6, .int (J x)), (7, .int (J g)), (8, .int (J r))] [.int (J (bI (may / 2 ^ (dg b r).toNat % 2 = 1)))]
        refine w_if_eq_b (pc := 40) (tgt := 60) hC dX0_pick_40 (by decide) (fun c40 => ?_) (fun c40 => ?_)
        · refine w_iinc (pc := 60) hC dX0_pick_60 (lv2 := [(8, .int (J (r + (-1)))), (9, .int (J (S (130 + 6 * (dg b rung) + (dg b r))))), (1, .ref (A 3)), (3, .ref (A 54)), (4, .int (J rung)), (5, .int (J may)), (6, .int (J x)), (7, .int (J g))]) 7 rfl (by rw [hnL]; decide) rfl ?_
          refine w_goto (pc := 63) hC dX0_pick_63 (tgt := 13) (by decide) ?_
          refine w_sub [2, 3, 4, 5, 6, 7, 0] (lv2 := [(1, .ref (A 3)), (3, .ref (A 54)), (4, .int (J rung)), (5, .int (J may)), (6, .int (J x)), (7, .int (J g)), (8, .int (J (r + (-1))))]) rfl ?_
          refine ih13 x g (r + (-1)) ?_ ?_ ?_ ?_ ?_
          · first | assumption | omega
          · first | assumption | omega
          · first | exact BSD_take i3 c40 c47 i2 | exact BSD_skip i3 (fun h9 => c40 h9.1) g3.1 | exact BSD_skip i3 (fun h9 => Int.not_lt.mpr c47 h9.2) g3.1
          · first | assumption | omega
          · omega
        · refine w_iload (pc := 43) hC dX0_pick_43 0 rfl ?_
          refine w_iload (pc := 45) hC dX0_pick_45 6 rfl ?_
          refine w_icmp_le (pc := 47) (tgt := 60) hC dX0_pick_47 (by decide) (by omega) (fun c47 => ?_) (fun c47 => ?_)
          · refine w_iinc (pc := 60) hC dX0_pick_60 (lv2 := [(8, .int (J (r + (-1)))), (9, .int (J (S (130 + 6 * (dg b rung) + (dg b r))))), (1, .ref (A 3)), (3, .ref (A 54)), (4, .int (J rung)), (5, .int (J may)), (6, .int (J x)), (7, .int (J g))]) 7 rfl (by rw [hnL]; decide) rfl ?_
            refine w_goto (pc := 63) hC dX0_pick_63 (tgt := 13) (by decide) ?_
            refine w_sub [2, 3, 4, 5, 6, 7, 0] (lv2 := [(1, .ref (A 3)), (3, .ref (A 54)), (4, .int (J rung)), (5, .int (J may)), (6, .int (J x)), (7, .int (J g)), (8, .int (J (r + (-1))))]) rfl ?_
            refine ih13 x g (r + (-1)) ?_ ?_ ?_ ?_ ?_
            · first | assumption | omega
            · first | assumption | omega
            · first | exact BSD_take i3 c40 c47 i2 | exact BSD_skip i3 (fun h9 => c40 h9.1) g3.1 | exact BSD_skip i3 (fun h9 => Int.not_lt.mpr c47 h9.2) g3.1
            · first | assumption | omega
            · omega
          · refine w_iload (pc := 50) hC dX0_pick_50 0 rfl ?_
            refine w_istore (pc := 52) hC dX0_pick_52 (lv2 := [(7, .int (J (S (130 + 6 * (dg b rung) + (dg b r))))), (9, .int (J (S (130 + 6 * (dg b rung) + (dg b r))))), (1, .ref (A 3)), (3, .ref (A 54)), (4, .int (J rung)), (5, .int (J may)), (6, .int (J x)), (8, .int (J r))]) (by rw [hnL]; decide) rfl ?_
            refine w_aload_n (pc := 54) hC dX0_pick_54 3 rfl rfl ?_
            refine w_iload (pc := 55) hC dX0_pick_55 7 rfl ?_
            refine w_ialdV (pc := 57) (g := (I 54)) (v := dg b r) hC dX0_pick_57 54 CW_54 (by omega) (Nat.le_of_ble_eq_true rfl) (hB _ (by omega) (by omega)) ?_
            refine w_istore (pc := 58) hC dX0_pick_58 (lv2 := [(6, .int (J (dg b r))), (7, .int (J (S (130 + 6 * (dg b rung) + (dg b r))))), (9, .int (J (S (130 + 6 * (dg b rung) + (dg b r))))), (1, .ref (A 3)), (3, .ref (A 54)), (4, .int (J rung)), (5, .int (J may)), (8, .int (J r))]) (by rw [hnL]; decide) rfl ?_
            refine w_iinc (pc := 60) hC dX0_pick_60 (lv2 := [(8, .int (J (r + (-1)))), (6, .int (J (dg b r))), (7, .int (J (S (130 + 6 * (dg b rung) + (dg b r))))), (9, .int (J (S (130 + 6 * (dg b rung) + (dg b r))))), (1, .ref (A 3)), (3, .ref (A 54)), (4, .int (J rung)), (5, .int (J may))]) 7 rfl (by rw [hnL]; decide) rfl ?_
            refine w_goto (pc := 63) hC dX0_pick_63 (tgt := 13) (by decide) ?_
            refine w_sub [4, 5, 6, 7, 1, 2, 0] (lv2 := [(1, .ref (A 3)), (3, .ref (A 54)), (4, .int (J rung)), (5, .int (J may)), (6, .int (J (dg b r))), (7, .int (J (S (130 + 6 * (dg b rung) + (dg b r))))), (8, .int (J (r + (-1))))]) rfl ?_
            refine ih13 (dg b r) (S (130 + 6 * (dg b rung) + (dg b r))) (r + (-1)) ?_ ?_ ?_ ?_ ?_
            · first | assumption | omega
            · first | assumption | omega
            · first | exact BSD_take i3 c40 c47 i2 | exact BSD_skip i3 (fun h9 => c40 h9.1) g3.1 | exact BSD_skip i3 (fun h9 => Int.not_lt.mpr c47 h9.2) g3.1
            · first | assumption | omega
            · omega
  refine w_sub [4, 6, 7, 8, 2, 1, 0] (lv2 := [(1, .ref (A 3)), (3, .ref (A 54)), (4, .int (J rung)), (5, .int (J may)), (6, .int (J (-5))), (7, .int (J (-1))), (8, .int (J (rung - 1)))]) rfl ?_
  refine loop13 (((rung - 1) + 1) + 1 : Int).toNat (-5) (-1) (rung - 1) ?_ ?_ ?_ ?_ ?_
  · first | assumption | omega
  · first | assumption | omega
  · exact BSD_0
  · first | assumption | omega
  · omega
set_option maxRecDepth 100000 in
set_option maxHeartbeats 4000000 in
theorem c_X7_pick_v54 (l : Launch) (G : GT) (A D : Nat → Nat) (T : Nat) (I : Nat → Int → Int) (F : Nat → Int) (Q : Nat → Nat → Option Nat) (P : va_W) (S : Int → Int) (c : Int) (b : Int) (rf : Int) (day : Int) (i0 : Nat) (q : Nat) (qb : Nat) (rung : Int) (may : Int) (hR : RI S) (hL : LRn G.2.1 S I F Q P) (hc : 0 ≤ c ∧ c < S 1) (hcl : CLB P G.2.1 S c qb) (hV : VB (S 0) b) (hB : ∀ r : Int, 0 ≤ r → r < S 0 → (I 54) r = dg b r) (hr : 0 ≤ rung ∧ rung < S 0) (hq : P[i0]? = some (q, .inr (7, [.int (J (dg b rung)), .int (J (S (172 + dg b rung)))]))) (hk : S (166 + dg b rung) = 1) (hp : PBT S c rf b rung day may) : CT l yX7_pick cX7_pick 7 (some .int) 1 0 0 G [.ref q, .ref (A 3), .ref qb, .ref (A 54), .int (J rung), .int (J may)] (CW A D T G.2.1 I F Q P) (fun vo wo => vo = some (.int (J (PCK S c rf b rung day))) ∧ wo = CW A D T G.2.1 I F Q P) := by
  refine CT_of (own := RX7) rfl rfl (Nat.le_of_ble_eq_true rfl) (fun K hl hnL hC hRT hin => ?_)
  subst hl
  show WW K G 0 0 (CW A D T G.2.1 I F Q P) 0 [(0, .ref q), (1, .ref (A 3)), (2, .ref qb), (3, .ref (A 54)), (4, .int (J rung)), (5, .int (J may))] []
  have hn := hR.n
  have g1 := VB_dg hV hr.1 hr.2
  have hm := hp.1
  have gq : ∀ z : Int, 0 ≤ z → z < S 0 → 0 ≤ dg b z ∧ dg b z < S 0 := fun z z0 z1 => VB_dg hV z0 z1
  have gc : ∀ z : Int, 0 ≤ z → z < S 0 → 0 ≤ S (130 + 6 * dg b rung + dg b z) ∧ S (130 + 6 * dg b rung + dg b z) ≤ 100 := fun z z0 z1 => hR.ch g1 (gq z z0 z1)
  refine w_iload (pc := 0) hC dX7_pick_0 4 rfl ?_
  refine w_iconst (pc := 2) hC dX7_pick_2 ?_
  refine w_isub (pc := 3) hC dX7_pick_3 ?_
  refine w_istore (pc := 4) hC dX7_pick_4 (lv2 := [(6, .int (J (rung - 1))), (0, .ref q), (1, .ref (A 3)), (2, .ref qb), (3, .ref (A 54)), (4, .int (J rung)), (5, .int (J may))]) (by rw [hnL]; decide) rfl ?_
  have loop6 : ∀ (nF : Nat) (r : Int), (-1 ≤ r) → (r < rung) → (∀ z : Int, r < z → z < rung → ¬ bq may b z) → (r + 1) < (nF : Int) → WW K G 0 0 (CW A D T G.2.1 I F Q P) 6 [(3, .ref (A 54)), (5, .int (J may)), (6, .int (J r))] [] := by
    intro nF
    induction nF with
    | zero => intro r i1 i2 i3 hm6; exact absurd hm6 (by omega)
    | succ nF ih6 =>
      intro r i1 i2 i3 hm6
      refine w_iload (pc := 6) hC dX7_pick_6 2 rfl ?_
      refine w_if_lt (pc := 8) (tgt := 34) hC dX7_pick_8 (by decide) (by omega) (fun c8 => ?_) (fun c8 => ?_)
      · refine w_bipush (pc := 34) hC dX7_pick_34 (z := (-5)) rfl ?_
        refine w_iret (pc := 36) hC hRT dX7_pick_36 rfl ?_
        refine ⟨retI (by exact pk_b hp hr.1 (fun z z0 z1 => i3 z (by omega) z1)), rfl⟩
      · have g2 := gq r (by omega) (by omega)
        have g3 := gc r (by omega) (by omega)
        refine w_iload (pc := 11) hC dX7_pick_11 1 rfl ?_
        refine w_aload_n (pc := 13) hC dX7_pick_13 0 rfl rfl ?_
        refine w_iload (pc := 14) hC dX7_pick_14 2 rfl ?_
        refine w_ialdV (pc := 16) (g := (I 54)) (v := dg b r) hC dX7_pick_16 54 CW_54 (by omega) (Nat.le_of_ble_eq_true rfl) (hB _ (by omega) (by omega)) ?_
        refine w_callSN (pc := 17) (As := [.int (J may), .int (J (dg b r))]) (rest := []) hC dX7_pick_17 sn_X7_11 (c_X11_holds (kl K) G (CW A D T G.2.1 I F Q P) may (dg b r) (show 0 ≤ may ∧ may < 2147483648 from by first | assumption | omega) (show 0 ≤ (dg b r) ∧ (dg b r) < 32 from by first | assumption | omega)) (by decide) ⟨Nat.le_of_ble_eq_true rfl, Nat.le_of_ble_eq_true rfl⟩ rfl (Nat.le_of_ble_eq_true rfl) rfl (fun vo wo hv => ?_)
        obtain ⟨hv1, hw1⟩ := hv
        rw [hv1, hw1]
        show WW K G 0 0 (CW A D T G.2.1 I F Q P) 20 [(3, .ref (A 54)), (5, .int (J may)), (6, .int (J r))] [.int (J (bI (may / 2 ^ (dg b r).toNat % 2 = 1)))]
        refine w_if_eq_b (pc := 20) (tgt := 28) hC dX7_pick_20 (by decide) (fun c20 => ?_) (fun c20 => ?_)
        · refine w_iinc (pc := 28) hC dX7_pick_28 (lv2 := [(6, .int (J (r + (-1)))), (3, .ref (A 54)), (5, .int (J may))]) 2 rfl (by rw [hnL]; decide) rfl ?_
          refine w_goto (pc := 31) hC dX7_pick_31 (tgt := 6) (by decide) ?_
          refine w_sub [1, 2, 0] (lv2 := [(3, .ref (A 54)), (5, .int (J may)), (6, .int (J (r + (-1))))]) rfl ?_
          refine ih6 (r + (-1)) ?_ ?_ ?_ ?_
          · first | assumption | omega
          · first | assumption | omega
          · intro z z0 z1; rcases (show z = r ∨ r < z by omega) with e | e; subst e; exact c20; exact i3 z e z1
          · omega
        · refine w_aload_n (pc := 23) hC dX7_pick_23 0 rfl rfl ?_
          refine w_iload (pc := 24) hC dX7_pick_24 2 rfl ?_
          refine w_ialdV (pc := 26) (g := (I 54)) (v := dg b r) hC dX7_pick_26 54 CW_54 (by omega) (Nat.le_of_ble_eq_true rfl) (hB _ (by omega) (by omega)) ?_
          refine w_iret (pc := 27) hC hRT dX7_pick_27 rfl ?_
          refine ⟨retI (by exact pk_1 hp (by omega) hk (by omega) i2 c20 i3), rfl⟩
  refine w_sub [4, 6, 0] (lv2 := [(3, .ref (A 54)), (5, .int (J may)), (6, .int (J (rung - 1)))]) rfl ?_
  refine loop6 (((rung - 1) + 1) + 1 : Int).toNat (rung - 1) ?_ ?_ ?_ ?_
  · first | assumption | omega
  · first | assumption | omega
  · intro z z0 z1; omega
  · omega
set_option maxRecDepth 100000 in
set_option maxHeartbeats 4000000 in
theorem c_X5_pick_v54 (l : Launch) (G : GT) (A D : Nat → Nat) (T : Nat) (I : Nat → Int → Int) (F : Nat → Int) (Q : Nat → Nat → Option Nat) (P : va_W) (S : Int → Int) (c : Int) (b : Int) (rf : Int) (day : Int) (i0 : Nat) (q : Nat) (qb : Nat) (rung : Int) (may : Int) (hR : RI S) (hL : LRn G.2.1 S I F Q P) (hc : 0 ≤ c ∧ c < S 1) (hcl : CLB P G.2.1 S c qb) (hV : VB (S 0) b) (hB : ∀ r : Int, 0 ≤ r → r < S 0 → (I 54) r = dg b r) (hr : 0 ≤ rung ∧ rung < S 0) (hq : P[i0]? = some (q, .inr (5, [.int (J (dg b rung)), .int (J (S (172 + dg b rung)))]))) (hk : S (166 + dg b rung) = 2) (hp : PBT S c rf b rung day may) : CT l yX5_pick cX5_pick 7 (some .int) 1 0 0 G [.ref q, .ref (A 3), .ref qb, .ref (A 54), .int (J rung), .int (J may)] (CW A D T G.2.1 I F Q P) (fun vo wo => vo = some (.int (J (PCK S c rf b rung day))) ∧ wo = CW A D T G.2.1 I F Q P) := by
  refine CT_of (own := RX5) rfl rfl (Nat.le_of_ble_eq_true rfl) (fun K hl hnL hC hRT hin => ?_)
  subst hl
  show WW K G 0 0 (CW A D T G.2.1 I F Q P) 0 [(0, .ref q), (1, .ref (A 3)), (2, .ref qb), (3, .ref (A 54)), (4, .int (J rung)), (5, .int (J may))] []
  have hn := hR.n
  have g1 := VB_dg hV hr.1 hr.2
  have hm := hp.1
  have gq : ∀ z : Int, 0 ≤ z → z < S 0 → 0 ≤ dg b z ∧ dg b z < S 0 := fun z z0 z1 => VB_dg hV z0 z1
  have gc : ∀ z : Int, 0 ≤ z → z < S 0 → 0 ≤ S (130 + 6 * dg b rung + dg b z) ∧ S (130 + 6 * dg b rung + dg b z) ≤ 100 := fun z z0 z1 => hR.ch g1 (gq z z0 z1)
  refine w_iconst (pc := 0) hC dX5_pick_0 ?_
  refine w_istore (pc := 1) hC dX5_pick_1 (lv2 := [(6, .int (J 0)), (0, .ref q), (1, .ref (A 3)), (2, .ref qb), (3, .ref (A 54)), (4, .int (J rung)), (5, .int (J may))]) (by rw [hnL]; decide) rfl ?_
  have loop3 : ∀ (nF : Nat) (r : Int), (0 ≤ r) → (r ≤ rung) → (∀ z : Int, 0 ≤ z → z < r → ¬ bq may b z) → (rung - r) < (nF : Int) → WW K G 0 0 (CW A D T G.2.1 I F Q P) 3 [(3, .ref (A 54)), (4, .int (J rung)), (5, .int (J may)), (6, .int (J r))] [] := by
    intro nF
    induction nF with
    | zero => intro r i1 i2 i3 hm3; exact absurd hm3 (by omega)
    | succ nF ih3 =>
      intro r i1 i2 i3 hm3
      refine w_iload (pc := 3) hC dX5_pick_3 3 rfl ?_
      refine w_iload (pc := 5) hC dX5_pick_5 1 rfl ?_
      refine w_icmp_ge (pc := 7) (tgt := 33) hC dX5_pick_7 (by decide) (by omega) (fun c7 => ?_) (fun c7 => ?_)
      · refine w_bipush (pc := 33) hC dX5_pick_33 (z := (-5)) rfl ?_
        refine w_iret (pc := 35) hC hRT dX5_pick_35 rfl ?_
        refine ⟨retI (by exact pk_b hp hr.1 (fun z z0 z1 => i3 z z0 (by omega))), rfl⟩
      · have g2 := gq r (by omega) (by omega)
        have g3 := gc r (by omega) (by omega)
        refine w_iload (pc := 10) hC dX5_pick_10 2 rfl ?_
        refine w_aload_n (pc := 12) hC dX5_pick_12 0 rfl rfl ?_
        refine w_iload (pc := 13) hC dX5_pick_13 3 rfl ?_
        refine w_ialdV (pc := 15) (g := (I 54)) (v := dg b r) hC dX5_pick_15 54 CW_54 (by omega) (Nat.le_of_ble_eq_true rfl) (hB _ (by omega) (by omega)) ?_
        refine w_callSN (pc := 16) (As := [.int (J may), .int (J (dg b r))]) (rest := []) hC dX5_pick_16 sn_X5_11 (c_X11_holds (kl K) G (CW A D T G.2.1 I F Q P) may (dg b r) (show 0 ≤ may ∧ may < 2147483648 from by first | assumption | omega) (show 0 ≤ (dg b r) ∧ (dg b r) < 32 from by first | assumption | omega)) (by decide) ⟨Nat.le_of_ble_eq_true rfl, Nat.le_of_ble_eq_true rfl⟩ rfl (Nat.le_of_ble_eq_true rfl) rfl (fun vo wo hv => ?_)
        obtain ⟨hv1, hw1⟩ := hv
        rw [hv1, hw1]
        show WW K G 0 0 (CW A D T G.2.1 I F Q P) 19 [(3, .ref (A 54)), (4, .int (J rung)), (5, .int (J may)), (6, .int (J r))] [.int (J (bI (may / 2 ^ (dg b r).toNat % 2 = 1)))]
        refine w_if_eq_b (pc := 19) (tgt := 27) hC dX5_pick_19 (by decide) (fun c19 => ?_) (fun c19 => ?_)
        · refine w_iinc (pc := 27) hC dX5_pick_27 (lv2 := [(6, .int (J (r + 1))), (3, .ref (A 54)), (4, .int (J rung)), (5, .int (J may))]) 3 rfl (by rw [hnL]; decide) rfl ?_
          refine w_goto (pc := 30) hC dX5_pick_30 (tgt := 3) (by decide) ?_
          refine w_sub [1, 2, 3, 0] (lv2 := [(3, .ref (A 54)), (4, .int (J rung)), (5, .int (J may)), (6, .int (J (r + 1)))]) rfl ?_
          refine ih3 (r + 1) ?_ ?_ ?_ ?_
          · first | assumption | omega
          · first | assumption | omega
          · intro z z0 z1; rcases (show z = r ∨ z < r by omega) with e | e; subst e; exact c19; exact i3 z z0 e
          · omega
        · refine w_aload_n (pc := 22) hC dX5_pick_22 0 rfl rfl ?_
          refine w_iload (pc := 23) hC dX5_pick_23 3 rfl ?_
          refine w_ialdV (pc := 25) (g := (I 54)) (v := dg b r) hC dX5_pick_25 54 CW_54 (by omega) (Nat.le_of_ble_eq_true rfl) (hB _ (by omega) (by omega)) ?_
          refine w_iret (pc := 26) hC hRT dX5_pick_26 rfl ?_
          refine ⟨retI (by exact pk_2 hp (by omega) hk i1 c7 c19 i3), rfl⟩
  refine w_sub [4, 5, 6, 0] (lv2 := [(3, .ref (A 54)), (4, .int (J rung)), (5, .int (J may)), (6, .int (J 0))]) rfl ?_
  refine loop3 ((rung - 0) + 1 : Int).toNat 0 ?_ ?_ ?_ ?_
  · first | assumption | omega
  · first | assumption | omega
  · intro z z0 z1; omega
  · omega
set_option maxRecDepth 100000 in
set_option maxHeartbeats 4000000 in
theorem c_X9_pick_v54 (l : Launch) (G : GT) (A D : Nat → Nat) (T : Nat) (I : Nat → Int → Int) (F : Nat → Int) (Q : Nat → Nat → Option Nat) (P : va_W) (S : Int → Int) (c : Int) (b : Int) (rf : Int) (day : Int) (i0 : Nat) (q : Nat) (qb : Nat) (rung : Int) (may : Int) (hR : RI S) (hL : LRn G.2.1 S I F Q P) (hc : 0 ≤ c ∧ c < S 1) (hcl : CLB P G.2.1 S c qb) (hV : VB (S 0) b) (hB : ∀ r : Int, 0 ≤ r → r < S 0 → (I 54) r = dg b r) (hr : 0 ≤ rung ∧ rung < S 0) (hq : P[i0]? = some (q, .inr (9, [.int (J (dg b rung)), .int (J (S (172 + dg b rung)))]))) (hk : S (166 + dg b rung) = 3) (hp : PBT S c rf b rung day may) : CT l yX9_pick cX9_pick 7 (some .int) 1 0 0 G [.ref q, .ref (A 3), .ref qb, .ref (A 54), .int (J rung), .int (J may)] (CW A D T G.2.1 I F Q P) (fun vo wo => vo = some (.int (J (PCK S c rf b rung day))) ∧ wo = CW A D T G.2.1 I F Q P) := by
  refine CT_of (own := RX9) rfl rfl (Nat.le_of_ble_eq_true rfl) (fun K hl hnL hC hRT hin => ?_)
  subst hl
  show WW K G 0 0 (CW A D T G.2.1 I F Q P) 0 [(0, .ref q), (1, .ref (A 3)), (2, .ref qb), (3, .ref (A 54)), (4, .int (J rung)), (5, .int (J may))] []
  have hn := hR.n
  have g1 := VB_dg hV hr.1 hr.2
  have hm := hp.1
  have gq : ∀ z : Int, 0 ≤ z → z < S 0 → 0 ≤ dg b z ∧ dg b z < S 0 := fun z z0 z1 => VB_dg hV z0 z1
  have gc : ∀ z : Int, 0 ≤ z → z < S 0 → 0 ≤ S (130 + 6 * dg b rung + dg b z) ∧ S (130 + 6 * dg b rung + dg b z) ≤ 100 := fun z z0 z1 => hR.ch g1 (gq z z0 z1)
  have gv := hR.vv (172 + dg b rung) (by have := hR.n; omega) (by have := hR.n; omega)
  refine w_iconst (pc := 0) hC dX9_pick_0 ?_
  refine w_istore (pc := 1) hC dX9_pick_1 (lv2 := [(6, .int (J 0)), (0, .ref q), (1, .ref (A 3)), (2, .ref qb), (3, .ref (A 54)), (4, .int (J rung)), (5, .int (J may))]) (by rw [hnL]; decide) rfl ?_
  have loop3 : ∀ (nF : Nat) (r : Int), (0 ≤ r) → (r ≤ rung) → (∀ z : Int, 0 ≤ z → z < r → ¬ (bq may b z ∧ S (172 + dg b rung) ≤ S (130 + 6 * dg b rung + dg b z))) → (rung - r) < (nF : Int) → WW K G 0 0 (CW A D T G.2.1 I F Q P) 3 [(0, .ref q), (1, .ref (A 3)), (3, .ref (A 54)), (4, .int (J rung)), (5, .int (J may)), (6, .int (J r))] [] := by
    intro nF
    induction nF with
    | zero => intro r i1 i2 i3 hm3; exact absurd hm3 (by omega)
    | succ nF ih3 =>
      intro r i1 i2 i3 hm3
      refine w_iload (pc := 3) hC dX9_pick_3 5 rfl ?_
      refine w_iload (pc := 5) hC dX9_pick_5 3 rfl ?_
      refine w_icmp_ge (pc := 7) (tgt := 51) hC dX9_pick_7 (by decide) (by omega) (fun c7 => ?_) (fun c7 => ?_)
      · refine w_bipush (pc := 51) hC dX9_pick_51 (z := (-5)) rfl ?_
        refine w_iret (pc := 53) hC hRT dX9_pick_53 rfl ?_
        refine ⟨retI (by exact pk_3n hp (by omega) hk (fun z z0 z1 => i3 z z0 (by omega))), rfl⟩
      · have g2 := gq r (by omega) (by omega)
        have g3 := gc r (by omega) (by omega)
        refine w_iload (pc := 10) hC dX9_pick_10 4 rfl ?_
        refine w_aload_n (pc := 12) hC dX9_pick_12 2 rfl rfl ?_
        refine w_iload (pc := 13) hC dX9_pick_13 5 rfl ?_
        refine w_ialdV (pc := 15) (g := (I 54)) (v := dg b r) hC dX9_pick_15 54 CW_54 (by omega) (Nat.le_of_ble_eq_true rfl) (hB _ (by omega) (by omega)) ?_
        refine w_callSN (pc := 16) (As := [.int (J may), .int (J (dg b r))]) (rest := []) hC dX9_pick_16 sn_X9_11 (c_X11_holds (kl K) G (CW A D T G.2.1 I F Q P) may (dg b r) (show 0 ≤ may ∧ may < 2147483648 from by first | assumption | omega) (show 0 ≤ (dg b r) ∧ (dg b r) < 32 from by first | assumption | omega)) (by decide) ⟨Nat.le_of_ble_eq_true rfl, Nat.le_of_ble_eq_true rfl⟩ rfl (Nat.le_of_ble_eq_true rfl) rfl (fun vo wo hv => ?_)
        obtain ⟨hv1, hw1⟩ := hv
        rw [hv1, hw1]
        show WW K G 0 0 (CW A D T G.2.1 I F Q P) 19 [(0, .ref q), (1, .ref (A 3)), (3, .ref (A 54)), (4, .int (J rung)), (5, .int (J may)), (6, .int (J r))] [.int (J (bI (may / 2 ^ (dg b r).toNat % 2 = 1)))]
        refine w_if_eq_b (pc := 19) (tgt := 45) hC dX9_pick_19 (by decide) (fun c19 => ?_) (fun c19 => ?_)
        · refine w_iinc (pc := 45) hC dX9_pick_45 (lv2 := [(6, .int (J (r + 1))), (0, .ref q), (1, .ref (A 3)), (3, .ref (A 54)), (4, .int (J rung)), (5, .int (J may))]) 5 rfl (by rw [hnL]; decide) rfl ?_
          refine w_goto (pc := 48) hC dX9_pick_48 (tgt := 3) (by decide) ?_
          refine w_sub [1, 2, 3, 4, 5, 0] (lv2 := [(0, .ref q), (1, .ref (A 3)), (3, .ref (A 54)), (4, .int (J rung)), (5, .int (J may)), (6, .int (J (r + 1)))]) rfl ?_
          refine ih3 (r + 1) ?_ ?_ ?_ ?_
          · first | assumption | omega
          · first | assumption | omega
          · intro z z0 z1; rcases (show z = r ∨ z < r by omega) with e | e; subst e; (first | exact fun h9 => c19 h9.1 | exact fun h9 => Int.not_le.mpr c37 h9.2); exact i3 z z0 e
          · omega
        · refine w_aload_n (pc := 22) hC dX9_pick_22 1 rfl rfl ?_
          refine w_aload_n (pc := 23) hC dX9_pick_23 2 rfl rfl ?_
          refine w_iload (pc := 24) hC dX9_pick_24 3 rfl ?_
          refine w_ialdV (pc := 26) (g := (I 54)) (v := dg b rung) hC dX9_pick_26 54 CW_54 (by omega) (Nat.le_of_ble_eq_true rfl) (hB _ (by omega) (by omega)) ?_
          refine w_aaldS (t0 := 6) (q := A (4 + (dg b rung).toNat)) hC dX9_pick_27 3 CW_3 rfl rfl (by omega) (Nat.le_of_ble_eq_true rfl) (rw6_at (by omega)) ?_
          refine w_aload_n (pc := 28) hC dX9_pick_28 2 rfl rfl ?_
          refine w_iload (pc := 29) hC dX9_pick_29 5 rfl ?_
          refine w_ialdV (pc := 31) (g := (I 54)) (v := dg b r) hC dX9_pick_31 54 CW_54 (by omega) (Nat.le_of_ble_eq_true rfl) (hB _ (by omega) (by omega)) ?_
          refine w_ialdV (pc := 32) (v := S (130 + 6 * (dg b rung) + (dg b r))) hC dX9_pick_32 (4 + (dg b rung).toNat) (CW_ch (by omega) (by omega)) (by omega) (Nat.le_of_ble_eq_true rfl) (l_ch hL hR (by omega) (by omega) (by omega) (by omega)) ?_
          refine w_aload_n (pc := 33) hC dX9_pick_33 0 rfl rfl ?_
          refine w_callO (pc := 34) (As := []) (rest := [.int (J (S (130 + 6 * (dg b rung) + (dg b r))))]) hC dX9_pick_34 vo_X9_15_X9 (c_X0_v (kl K) G A D T I F Q P i0 3 (dg b rung) (S (172 + dg b rung)) q (show P[i0]? = some (q, .inr (kci 3, [.int (J (dg b rung)), .int (J (S (172 + dg b rung)))])) from by exact hq) (show 0 ≤ 3 ∧ 3 ≤ 6 from by decide)) (by decide) ⟨Nat.le_of_ble_eq_true rfl, Nat.le_of_ble_eq_true rfl⟩ (q0 := 60 + i0) (CW_P hq) rfl rfl rfl (Nat.le_of_ble_eq_true rfl) rfl (fun vo wo hv => ?_)
          obtain ⟨hv1, hw1⟩ := hv
          rw [hv1, hw1]
          show WW K G 0 0 (CW A D T G.2.1 I F Q P) 37 [(0, .ref q), (1, .ref (A 3)), (3, .ref (A 54)), (4, .int (J rung)), (5, .int (J may)), (6, .int (J r))] [.int (J (S (172 + dg b rung))), .int (J (S (130 + 6 * (dg b rung) + (dg b r))))]
          refine w_icmp_lt (pc := 37) (tgt := 45) hC dX9_pick_37 (by decide) (by omega) (fun c37 => ?_) (fun c37 => ?_)
          · refine w_iinc (pc := 45) hC dX9_pick_45 (lv2 := [(6, .int (J (r + 1))), (0, .ref q), (1, .ref (A 3)), (3, .ref (A 54)), (4, .int (J rung)), (5, .int (J may))]) 5 rfl (by rw [hnL]; decide) rfl ?_
            refine w_goto (pc := 48) hC dX9_pick_48 (tgt := 3) (by decide) ?_
            refine w_sub [1, 2, 3, 4, 5, 0] (lv2 := [(0, .ref q), (1, .ref (A 3)), (3, .ref (A 54)), (4, .int (J rung)), (5, .int (J may)), (6, .int (J (r + 1)))]) rfl ?_
            refine ih3 (r + 1) ?_ ?_ ?_ ?_
            · first | assumption | omega
            · first | assumption | omega
            · intro z z0 z1; rcases (show z = r ∨ z < r by omega) with e | e; subst e; (first | exact fun h9 => c19 h9.1 | exact fun h9 => Int.not_le.mpr c37 h9.2); exact i3 z z0 e
            · omega
          · refine w_aload_n (pc := 40) hC dX9_pick_40 2 rfl rfl ?_
            refine w_iload (pc := 41) hC dX9_pick_41 5 rfl ?_
            refine w_ialdV (pc := 43) (g := (I 54)) (v := dg b r) hC dX9_pick_43 54 CW_54 (by omega) (Nat.le_of_ble_eq_true rfl) (hB _ (by omega) (by omega)) ?_
            refine w_iret (pc := 44) hC hRT dX9_pick_44 rfl ?_
            refine ⟨retI (by exact pk_3 hp (by omega) hk i1 c7 c19 c37 i3), rfl⟩
  refine w_sub [1, 2, 4, 5, 6, 0] (lv2 := [(0, .ref q), (1, .ref (A 3)), (3, .ref (A 54)), (4, .int (J rung)), (5, .int (J may)), (6, .int (J 0))]) rfl ?_
  refine loop3 ((rung - 0) + 1 : Int).toNat 0 ?_ ?_ ?_ ?_
  · first | assumption | omega
  · first | assumption | omega
  · intro z z0 z1; omega
  · omega
set_option maxRecDepth 100000 in
set_option maxHeartbeats 4000000 in
theorem c_X1_pick_v54 (l : Launch) (G : GT) (A D : Nat → Nat) (T : Nat) (I : Nat → Int → Int) (F : Nat → Int) (Q : Nat → Nat → Option Nat) (P : va_W) (S : Int → Int) (c : Int) (b : Int) (rf : Int) (day : Int) (i0 : Nat) (q : Nat) (qb : Nat) (rung : Int) (may : Int) (hR : RI S) (hL : LRn G.2.1 S I F Q P) (hc : 0 ≤ c ∧ c < S 1) (hcl : CLB P G.2.1 S c qb) (hV : VB (S 0) b) (hB : ∀ r : Int, 0 ≤ r → r < S 0 → (I 54) r = dg b r) (hr : 0 ≤ rung ∧ rung < S 0) (hq : P[i0]? = some (q, .inr (1, [.int (J (dg b rung)), .int (J (S (172 + dg b rung)))]))) (hk : S (166 + dg b rung) = 4) (hp : PBT S c rf b rung day may) : CT l yX1_pick cX1_pick 10 (some .int) 1 0 0 G [.ref q, .ref (A 3), .ref qb, .ref (A 54), .int (J rung), .int (J may)] (CW A D T G.2.1 I F Q P) (fun vo wo => vo = some (.int (J (PCK S c rf b rung day))) ∧ wo = CW A D T G.2.1 I F Q P) := by
  refine CT_of (own := RX1) rfl rfl (Nat.le_of_ble_eq_true rfl) (fun K hl hnL hC hRT hin => ?_)
  subst hl
  show WW K G 0 0 (CW A D T G.2.1 I F Q P) 0 [(0, .ref q), (1, .ref (A 3)), (2, .ref qb), (3, .ref (A 54)), (4, .int (J rung)), (5, .int (J may))] []
  have hn := hR.n
  have hcl2 := hcl
  obtain ⟨i, j, qc, g, hq, hqc, hg⟩ := hcl2
  have g1 := VB_dg hV hr.1 hr.2
  have hm := hp.1
  have gq : ∀ z : Int, 0 ≤ z → z < S 0 → 0 ≤ dg b z ∧ dg b z < S 0 := fun z z0 z1 => VB_dg hV z0 z1
  have gc : ∀ z : Int, 0 ≤ z → z < S 0 → 0 ≤ S (130 + 6 * dg b rung + dg b z) ∧ S (130 + 6 * dg b rung + dg b z) ≤ 100 := fun z z0 z1 => hR.ch g1 (gq z z0 z1)
  have gh : ∀ z : Int, 0 ≤ z → z < rung → 0 ≤ (if S (183 + c) = 2 then 1 else rung - z) * S (130 + 6 * dg b rung + dg b z) ∧ (if S (183 + c) = 2 then 1 else rung - z) * S (130 + 6 * dg b rung + dg b z) ≤ 600 := fun z z0 z1 => hope_bd (by split <;> omega) (gc z z0 (by omega))
  refine w_bipush (pc := 0) hC dX1_pick_0 (z := (-5)) rfl ?_
  refine w_istore (pc := 2) hC dX1_pick_2 (lv2 := [(6, .int (J (-5))), (0, .ref q), (1, .ref (A 3)), (2, .ref qb), (3, .ref (A 54)), (4, .int (J rung)), (5, .int (J may))]) (by rw [hnL]; decide) rfl ?_
  refine w_iconst (pc := 4) hC dX1_pick_4 ?_
  refine w_istore (pc := 5) hC dX1_pick_5 (lv2 := [(7, .int (J (-1))), (6, .int (J (-5))), (0, .ref q), (1, .ref (A 3)), (2, .ref qb), (3, .ref (A 54)), (4, .int (J rung)), (5, .int (J may))]) (by rw [hnL]; decide) rfl ?_
  refine w_iconst (pc := 7) hC dX1_pick_7 ?_
  refine w_istore (pc := 8) hC dX1_pick_8 (lv2 := [(8, .int (J 0)), (7, .int (J (-1))), (6, .int (J (-5))), (0, .ref q), (1, .ref (A 3)), (2, .ref qb), (3, .ref (A 54)), (4, .int (J rung)), (5, .int (J may))]) (by rw [hnL]; decide) rfl ?_
  have loop10 : ∀ (nF : Nat) (x : Int) (g : Int) (r : Int), (0 ≤ r) → (r ≤ rung) → (BSA may b (fun z => (if S (183 + c) = 2 then 1 else rung - z) * S (130 + 6 * dg b rung + dg b z)) r x g) → (-1 ≤ g ∧ g ≤ 600) → (rung - r) < (nF : Int) → WW K G 0 0 (CW A D T G.2.1 I F Q P) 10 [(1, .ref (A 3)), (2, .ref qb), (3, .ref (A 54)), (4, .int (J rung)), (5, .int (J may)), (6, .int (J x)), (7, .int (J g)), (8, .int (J r))] [] := by
    intro nF
    induction nF with
    | zero => intro x g r i1 i2 i3 i4 hm10; exact absurd hm10 (by omega)
    | succ nF ih10 =>
      intro x g r i1 i2 i3 i4 hm10
      refine w_iload (pc := 10) hC dX1_pick_10 7 rfl ?_
      refine w_iload (pc := 12) hC dX1_pick_12 3 rfl ?_
      refine w_icmp_ge (pc := 14) (tgt := 75) hC dX1_pick_14 (by decide) (by omega) (fun c14 => ?_) (fun c14 => ?_)
      · refine w_iload (pc := 75) hC dX1_pick_75 5 rfl ?_
        refine w_iret (pc := 77) hC hRT dX1_pick_77 rfl ?_
        refine ⟨retI (by have e9 : r = rung := (by omega); subst e9; exact pk_4 hp (by omega) hk (fun z z0 z1 => (gh z z0 z1).1) i3), rfl⟩
      · have g2 := gq r (by omega) (by omega)
        have g3 := gc r (by omega) (by omega)
        have g4 := gh r i1 (by omega)
        refine w_aload_n (pc := 17) hC dX1_pick_17 1 rfl rfl ?_
        refine w_iload (pc := 18) hC dX1_pick_18 3 rfl ?_
        refine w_iload (pc := 20) hC dX1_pick_20 7 rfl ?_
        refine w_isub (pc := 22) hC dX1_pick_22 ?_
        refine w_callV (pc := 23) (As := [.int (J (rung - r))]) (rest := []) hC dX1_pick_23 cv_X1_11 (c_X2_worth (kl K) G A D T I F Q P S c qb (rung - r) (show 0 ≤ c ∧ c < S 1 from by first | assumption | omega) (show CLB P G.2.1 S c qb from by first | assumption | omega) (show RI S from by first | assumption | omega) (show 0 ≤ (rung - r) ∧ (rung - r) < 6 from by first | assumption | omega)) (by decide) ⟨Nat.le_of_ble_eq_true rfl, Nat.le_of_ble_eq_true rfl⟩ (q0 := (60 + i)) (CW_P hq) rfl rfl rfl (Nat.le_of_ble_eq_true rfl) rfl (fun vo wo hv => ?_)
        obtain ⟨hv1, hw1⟩ := hv
        rw [hv1, hw1]
        show WW K G 0 0 (CW A D T G.2.1 I F Q P) 26 [(1, .ref (A 3)), (2, .ref qb), (3, .ref (A 54)), (4, .int (J rung)), (5, .int (J may)), (6, .int (J x)), (7, .int (J g)), (8, .int (J r))] [.int (J (if S (183 + c) = 2 then 1 else (rung - r)))]
        refine w_aload_n (pc := 26) hC dX1_pick_26 0 rfl rfl ?_
        refine w_aload_n (pc := 27) hC dX1_pick_27 2 rfl rfl ?_
        refine w_iload (pc := 28) hC dX1_pick_28 3 rfl ?_
        refine w_ialdV (pc := 30) (g := (I 54)) (v := dg b rung) hC dX1_pick_30 54 CW_54 (by omega) (Nat.le_of_ble_eq_true rfl) (hB _ (by omega) (by omega)) ?_
        refine w_aaldS (t0 := 6) (q := A (4 + (dg b rung).toNat)) hC dX1_pick_31 3 CW_3 rfl rfl (by omega) (Nat.le_of_ble_eq_true rfl) (rw6_at (by omega)) ?_
        refine w_aload_n (pc := 32) hC dX1_pick_32 2 rfl rfl ?_
        refine w_iload (pc := 33) hC dX1_pick_33 7 rfl ?_
        refine w_ialdV (pc := 35) (g := (I 54)) (v := dg b r) hC dX1_pick_35 54 CW_54 (by omega) (Nat.le_of_ble_eq_true rfl) (hB _ (by omega) (by omega)) ?_
        refine w_ialdV (pc := 36) (v := S (130 + 6 * (dg b rung) + (dg b r))) hC dX1_pick_36 (4 + (dg b rung).toNat) (CW_ch (by omega) (by omega)) (by omega) (Nat.le_of_ble_eq_true rfl) (l_ch hL hR (by omega) (by omega) (by omega) (by omega)) ?_
        refine w_imul (pc := 37) hC dX1_pick_37 ?_
        refine w_istore (pc := 38) hC dX1_pick_38 (lv2 := [(9, .int (J ((if S (183 + c) = 2 then 1 else (rung - r)) * (S (130 + 6 * (dg b rung) + (dg b r)))))), (1, .ref (A 3)), (2, .ref qb), (3, .ref (A 54)), (4, .int (J rung)), (5, .int (J may)), (6, .int (J x)), (7, .int (J g)), (8, .int (J r))]) (by rw [hnL]; decide) rfl ?_
        refine w_iload (pc := 40) hC dX1_pick_40 5 rfl ?_
        refine w_aload_n (pc := 42) hC dX1_pick_42 3 rfl rfl ?_
        refine w_iload (pc := 43) hC dX1_pick_43 8 rfl ?_
        refine w_ialdV (pc := 45) (g := (I 54)) (v := dg b r) hC dX1_pick_45 54 CW_54 (by omega) (Nat.le_of_ble_eq_true rfl) (hB _ (by omega) (by omega)) ?_
        refine w_callSN (pc := 46) (As := [.int (J may), .int (J (dg b r))]) (rest := []) hC dX1_pick_46 sn_X1_17 (c_X11_holds (kl K) G (CW A D T G.2.1 I F Q P) may (dg b r) (show 0 ≤ may ∧ may < 2147483648 from by first | assumption | omega) (show 0 ≤ (dg b r) ∧ (dg b r) < 32 from by first | assumption | omega)) (by decide) ⟨Nat.le_of_ble_eq_true rfl, Nat.le_of_ble_eq_true rfl⟩ rfl (Nat.le_of_ble_eq_true rfl) rfl (fun vo wo hv => ?_)
        obtain ⟨hv1, hw1⟩ := hv
        rw [hv1, hw1]
        show WW K G 0 0 (CW A D T G.2.1 I F Q P) 49 [(9, .int (J ((if S (183 + c) = 2 then 1 else (rung - r)) * (S (130 + 6 * (dg b rung) + (dg b r)))))), (1, .ref (A 3)), (2, .ref qb), (3, .ref (A 54)), (4, .int (J rung)), (5, .int (J may)), (6, .int (J x)), (7, .int (J g)), (8, .int (J r))] [.int (J (bI (may / 2 ^ (dg b r).toNat % 2 = 1)))]
        refine w_if_eq_b (pc := 49) (tgt := 69) hC dX1_pick_49 (by decide) (fun c49 => ?_) (fun c49 => ?_)
        · refine w_iinc (pc := 69) hC dX1_pick_69 (lv2 := [(8, .int (J (r + 1))), (9, .int (J ((if S (183 + c) = 2 then 1 else (rung - r)) * (S (130 + 6 * (dg b rung) + (dg b r)))))), (1, .ref (A 3)), (2, .ref qb), (3, .ref (A 54)), (4, .int (J rung)), (5, .int (J may)), (6, .int (J x)), (7, .int (J g))]) 8 rfl (by rw [hnL]; decide) rfl ?_
          refine w_goto (pc := 72) hC dX1_pick_72 (tgt := 10) (by decide) ?_
          refine w_sub [2, 3, 4, 5, 6, 7, 8, 0] (lv2 := [(1, .ref (A 3)), (2, .ref qb), (3, .ref (A 54)), (4, .int (J rung)), (5, .int (J may)), (6, .int (J x)), (7, .int (J g)), (8, .int (J (r + 1)))]) rfl ?_
          refine ih10 x g (r + 1) ?_ ?_ ?_ ?_ ?_
          · first | assumption | omega
          · first | assumption | omega
          · first | exact BSA_take i3 c49 c56 i1 | exact BSA_skip i3 (fun h9 => c49 h9.1) g4.1 | exact BSA_skip i3 (fun h9 => Int.not_lt.mpr c56 h9.2) g4.1
          · first | assumption | omega
          · omega
        · refine w_iload (pc := 52) hC dX1_pick_52 0 rfl ?_
          refine w_iload (pc := 54) hC dX1_pick_54 7 rfl ?_
          refine w_icmp_le (pc := 56) (tgt := 69) hC dX1_pick_56 (by decide) (by omega) (fun c56 => ?_) (fun c56 => ?_)
          · refine w_iinc (pc := 69) hC dX1_pick_69 (lv2 := [(8, .int (J (r + 1))), (9, .int (J ((if S (183 + c) = 2 then 1 else (rung - r)) * (S (130 + 6 * (dg b rung) + (dg b r)))))), (1, .ref (A 3)), (2, .ref qb), (3, .ref (A 54)), (4, .int (J rung)), (5, .int (J may)), (6, .int (J x)), (7, .int (J g))]) 8 rfl (by rw [hnL]; decide) rfl ?_
            refine w_goto (pc := 72) hC dX1_pick_72 (tgt := 10) (by decide) ?_
            refine w_sub [2, 3, 4, 5, 6, 7, 8, 0] (lv2 := [(1, .ref (A 3)), (2, .ref qb), (3, .ref (A 54)), (4, .int (J rung)), (5, .int (J may)), (6, .int (J x)), (7, .int (J g)), (8, .int (J (r + 1)))]) rfl ?_
            refine ih10 x g (r + 1) ?_ ?_ ?_ ?_ ?_
            · first | assumption | omega
            · first | assumption | omega
            · first | exact BSA_take i3 c49 c56 i1 | exact BSA_skip i3 (fun h9 => c49 h9.1) g4.1 | exact BSA_skip i3 (fun h9 => Int.not_lt.mpr c56 h9.2) g4.1
            · first | assumption | omega
            · omega
          · refine w_iload (pc := 59) hC dX1_pick_59 0 rfl ?_
            refine w_istore (pc := 61) hC dX1_pick_61 (lv2 := [(7, .int (J ((if S (183 + c) = 2 then 1 else (rung - r)) * (S (130 + 6 * (dg b rung) + (dg b r)))))), (9, .int (J ((if S (183 + c) = 2 then 1 else (rung - r)) * (S (130 + 6 * (dg b rung) + (dg b r)))))), (1, .ref (A 3)), (2, .ref qb), (3, .ref (A 54)), (4, .int (J rung)), (5, .int (J may)), (6, .int (J x)), (8, .int (J r))]) (by rw [hnL]; decide) rfl ?_
            refine w_aload_n (pc := 63) hC dX1_pick_63 4 rfl rfl ?_
            refine w_iload (pc := 64) hC dX1_pick_64 8 rfl ?_
            refine w_ialdV (pc := 66) (g := (I 54)) (v := dg b r) hC dX1_pick_66 54 CW_54 (by omega) (Nat.le_of_ble_eq_true rfl) (hB _ (by omega) (by omega)) ?_
            refine w_istore (pc := 67) hC dX1_pick_67 (lv2 := [(6, .int (J (dg b r))), (7, .int (J ((if S (183 + c) = 2 then 1 else (rung - r)) * (S (130 + 6 * (dg b rung) + (dg b r)))))), (9, .int (J ((if S (183 + c) = 2 then 1 else (rung - r)) * (S (130 + 6 * (dg b rung) + (dg b r)))))), (1, .ref (A 3)), (2, .ref qb), (3, .ref (A 54)), (4, .int (J rung)), (5, .int (J may)), (8, .int (J r))]) (by rw [hnL]; decide) rfl ?_
            refine w_iinc (pc := 69) hC dX1_pick_69 (lv2 := [(8, .int (J (r + 1))), (6, .int (J (dg b r))), (7, .int (J ((if S (183 + c) = 2 then 1 else (rung - r)) * (S (130 + 6 * (dg b rung) + (dg b r)))))), (9, .int (J ((if S (183 + c) = 2 then 1 else (rung - r)) * (S (130 + 6 * (dg b rung) + (dg b r)))))), (1, .ref (A 3)), (2, .ref qb), (3, .ref (A 54)), (4, .int (J rung)), (5, .int (J may))]) 8 rfl (by rw [hnL]; decide) rfl ?_
            refine w_goto (pc := 72) hC dX1_pick_72 (tgt := 10) (by decide) ?_
            refine w_sub [4, 5, 6, 7, 8, 1, 2, 0] (lv2 := [(1, .ref (A 3)), (2, .ref qb), (3, .ref (A 54)), (4, .int (J rung)), (5, .int (J may)), (6, .int (J (dg b r))), (7, .int (J ((if S (183 + c) = 2 then 1 else (rung - r)) * (S (130 + 6 * (dg b rung) + (dg b r)))))), (8, .int (J (r + 1)))]) rfl ?_
            refine ih10 (dg b r) ((if S (183 + c) = 2 then 1 else (rung - r)) * (S (130 + 6 * (dg b rung) + (dg b r)))) (r + 1) ?_ ?_ ?_ ?_ ?_
            · first | assumption | omega
            · first | assumption | omega
            · first | exact BSA_take i3 c49 c56 i1 | exact BSA_skip i3 (fun h9 => c49 h9.1) g4.1 | exact BSA_skip i3 (fun h9 => Int.not_lt.mpr c56 h9.2) g4.1
            · first | assumption | omega
            · omega
  refine w_sub [4, 5, 6, 7, 8, 2, 1, 0] (lv2 := [(1, .ref (A 3)), (2, .ref qb), (3, .ref (A 54)), (4, .int (J rung)), (5, .int (J may)), (6, .int (J (-5))), (7, .int (J (-1))), (8, .int (J 0))]) rfl ?_
  refine loop10 ((rung - 0) + 1 : Int).toNat (-5) (-1) 0 ?_ ?_ ?_ ?_ ?_
  · first | assumption | omega
  · first | assumption | omega
  · exact BSA_0
  · first | assumption | omega
  · omega
set_option maxRecDepth 100000 in
set_option maxHeartbeats 4000000 in
theorem c_X10_pick_v54 (l : Launch) (G : GT) (A D : Nat → Nat) (T : Nat) (I : Nat → Int → Int) (F : Nat → Int) (Q : Nat → Nat → Option Nat) (P : va_W) (S : Int → Int) (c : Int) (b : Int) (rf : Int) (day : Int) (i0 : Nat) (q : Nat) (qb : Nat) (rung : Int) (may : Int) (hR : RI S) (hL : LRn G.2.1 S I F Q P) (hc : 0 ≤ c ∧ c < S 1) (hcl : CLB P G.2.1 S c qb) (hV : VB (S 0) b) (hB : ∀ r : Int, 0 ≤ r → r < S 0 → (I 54) r = dg b r) (hr : 0 ≤ rung ∧ rung < S 0) (hq : P[i0]? = some (q, .inr (10, [.int (J (dg b rung)), .int (J (S (172 + dg b rung)))]))) (hk : S (166 + dg b rung) = 5) (hp : PBT S c rf b rung day may) : CT l yX10_pick cX10_pick 6 (some .int) 1 0 0 G [.ref q, .ref (A 3), .ref qb, .ref (A 54), .int (J rung), .int (J may)] (CW A D T G.2.1 I F Q P) (fun vo wo => vo = some (.int (J (PCK S c rf b rung day))) ∧ wo = CW A D T G.2.1 I F Q P) := by
  refine CT_of (own := RX10) rfl rfl (Nat.le_of_ble_eq_true rfl) (fun K hl hnL hC hRT hin => ?_)
  subst hl
  show WW K G 0 0 (CW A D T G.2.1 I F Q P) 0 [(0, .ref q), (1, .ref (A 3)), (2, .ref qb), (3, .ref (A 54)), (4, .int (J rung)), (5, .int (J may))] []
  have hn := hR.n
  have g1 := VB_dg hV hr.1 hr.2
  have hm := hp.1
  have gq : ∀ z : Int, 0 ≤ z → z < S 0 → 0 ≤ dg b z ∧ dg b z < S 0 := fun z z0 z1 => VB_dg hV z0 z1
  have gc : ∀ z : Int, 0 ≤ z → z < S 0 → 0 ≤ S (130 + 6 * dg b rung + dg b z) ∧ S (130 + 6 * dg b rung + dg b z) ≤ 100 := fun z z0 z1 => hR.ch g1 (gq z z0 z1)
  have gv := hR.vv (172 + dg b rung) (by have := hR.n; omega) (by have := hR.n; omega)
  refine w_aload_n (pc := 0) hC dX10_pick_0 0 rfl rfl ?_
  refine w_callO (pc := 1) (As := []) (rest := []) hC dX10_pick_1 vo_X10_11_X10 (c_X0_v (kl K) G A D T I F Q P i0 5 (dg b rung) (S (172 + dg b rung)) q (show P[i0]? = some (q, .inr (kci 5, [.int (J (dg b rung)), .int (J (S (172 + dg b rung)))])) from by exact hq) (show 0 ≤ 5 ∧ 5 ≤ 6 from by decide)) (by decide) ⟨Nat.le_of_ble_eq_true rfl, Nat.le_of_ble_eq_true rfl⟩ (q0 := 60 + i0) (CW_P hq) rfl rfl rfl (Nat.le_of_ble_eq_true rfl) rfl (fun vo wo hv => ?_)
  obtain ⟨hv1, hw1⟩ := hv
  rw [hv1, hw1]
  show WW K G 0 0 (CW A D T G.2.1 I F Q P) 4 [(0, .ref q), (1, .ref (A 3)), (2, .ref qb), (3, .ref (A 54)), (4, .int (J rung)), (5, .int (J may))] [.int (J (S (172 + dg b rung)))]
  refine w_bipush (pc := 4) hC dX10_pick_4 (z := 6) rfl ?_
  refine w_icmp_ge (pc := 6) (tgt := 28) hC dX10_pick_6 (by decide) (by omega) (fun c6 => ?_) (fun c6 => ?_)
  · refine w_bipush (pc := 28) hC dX10_pick_28 (z := (-5)) rfl ?_
    refine w_iret (pc := 30) hC hRT dX10_pick_30 rfl ?_
    refine ⟨retI (by first | exact pk_5 hp (by omega) hk hV hr.2 gv.1 c18 | exact pk_5n hp (by omega) hk (fun h9 => c18 h9.2) (fun z z0 z1 => by have := gq z z0 (by omega); omega) | exact pk_5n hp (by omega) hk (fun h9 => by omega) (fun z z0 z1 => by have := gq z z0 (by omega); omega)), rfl⟩
  · refine w_iload (pc := 9) hC dX10_pick_9 5 rfl ?_
    refine w_aload_n (pc := 11) hC dX10_pick_11 0 rfl rfl ?_
    refine w_callO (pc := 12) (As := []) (rest := [.int (J may)]) hC dX10_pick_12 vo_X10_11_X10 (c_X0_v (kl K) G A D T I F Q P i0 5 (dg b rung) (S (172 + dg b rung)) q (show P[i0]? = some (q, .inr (kci 5, [.int (J (dg b rung)), .int (J (S (172 + dg b rung)))])) from by exact hq) (show 0 ≤ 5 ∧ 5 ≤ 6 from by decide)) (by decide) ⟨Nat.le_of_ble_eq_true rfl, Nat.le_of_ble_eq_true rfl⟩ (q0 := 60 + i0) (CW_P hq) rfl rfl rfl (Nat.le_of_ble_eq_true rfl) rfl (fun vo wo hv => ?_)
    obtain ⟨hv1, hw1⟩ := hv
    rw [hv1, hw1]
    show WW K G 0 0 (CW A D T G.2.1 I F Q P) 15 [(0, .ref q), (1, .ref (A 3)), (2, .ref qb), (3, .ref (A 54)), (4, .int (J rung)), (5, .int (J may))] [.int (J (S (172 + dg b rung))), .int (J may)]
    refine w_callSN (pc := 15) (As := [.int (J may), .int (J (S (172 + dg b rung)))]) (rest := []) hC dX10_pick_15 sn_X10_15 (c_X11_holds (kl K) G (CW A D T G.2.1 I F Q P) may (S (172 + dg b rung)) (show 0 ≤ may ∧ may < 2147483648 from by first | assumption | omega) (show 0 ≤ (S (172 + dg b rung)) ∧ (S (172 + dg b rung)) < 32 from by first | assumption | omega)) (by decide) ⟨Nat.le_of_ble_eq_true rfl, Nat.le_of_ble_eq_true rfl⟩ rfl (Nat.le_of_ble_eq_true rfl) rfl (fun vo wo hv => ?_)
    obtain ⟨hv1, hw1⟩ := hv
    rw [hv1, hw1]
    show WW K G 0 0 (CW A D T G.2.1 I F Q P) 18 [(0, .ref q), (1, .ref (A 3)), (2, .ref qb), (3, .ref (A 54)), (4, .int (J rung)), (5, .int (J may))] [.int (J (bI (may / 2 ^ (S (172 + dg b rung)).toNat % 2 = 1)))]
    refine w_if_eq_b (pc := 18) (tgt := 28) hC dX10_pick_18 (by decide) (fun c18 => ?_) (fun c18 => ?_)
    · refine w_bipush (pc := 28) hC dX10_pick_28 (z := (-5)) rfl ?_
      refine w_iret (pc := 30) hC hRT dX10_pick_30 rfl ?_
      refine ⟨retI (by first | exact pk_5 hp (by omega) hk hV hr.2 gv.1 c18 | exact pk_5n hp (by omega) hk (fun h9 => c18 h9.2) (fun z z0 z1 => by have := gq z z0 (by omega); omega) | exact pk_5n hp (by omega) hk (fun h9 => by omega) (fun z z0 z1 => by have := gq z z0 (by omega); omega)), rfl⟩
    · refine w_aload_n (pc := 21) hC dX10_pick_21 0 rfl rfl ?_
      refine w_callO (pc := 22) (As := []) (rest := []) hC dX10_pick_22 vo_X10_11_X10 (c_X0_v (kl K) G A D T I F Q P i0 5 (dg b rung) (S (172 + dg b rung)) q (show P[i0]? = some (q, .inr (kci 5, [.int (J (dg b rung)), .int (J (S (172 + dg b rung)))])) from by exact hq) (show 0 ≤ 5 ∧ 5 ≤ 6 from by decide)) (by decide) ⟨Nat.le_of_ble_eq_true rfl, Nat.le_of_ble_eq_true rfl⟩ (q0 := 60 + i0) (CW_P hq) rfl rfl rfl (Nat.le_of_ble_eq_true rfl) rfl (fun vo wo hv => ?_)
      obtain ⟨hv1, hw1⟩ := hv
      rw [hv1, hw1]
      show WW K G 0 0 (CW A D T G.2.1 I F Q P) 25 [(0, .ref q), (1, .ref (A 3)), (2, .ref qb), (3, .ref (A 54)), (4, .int (J rung)), (5, .int (J may))] [.int (J (S (172 + dg b rung)))]
      refine w_goto (pc := 25) hC dX10_pick_25 (tgt := 30) (by decide) ?_
      refine w_iret (pc := 30) hC hRT dX10_pick_30 rfl ?_
      refine ⟨retI (by first | exact pk_5 hp (by omega) hk hV hr.2 gv.1 c18 | exact pk_5n hp (by omega) hk (fun h9 => c18 h9.2) (fun z z0 z1 => by have := gq z z0 (by omega); omega) | exact pk_5n hp (by omega) hk (fun h9 => by omega) (fun z z0 z1 => by have := gq z z0 (by omega); omega)), rfl⟩
set_option maxRecDepth 100000 in
set_option maxHeartbeats 4000000 in
theorem c_X8_pick_v54 (l : Launch) (G : GT) (A D : Nat → Nat) (T : Nat) (I : Nat → Int → Int) (F : Nat → Int) (Q : Nat → Nat → Option Nat) (P : va_W) (S : Int → Int) (c : Int) (b : Int) (rf : Int) (day : Int) (i0 : Nat) (q : Nat) (qb : Nat) (rung : Int) (may : Int) (hR : RI S) (hL : LRn G.2.1 S I F Q P) (hc : 0 ≤ c ∧ c < S 1) (hcl : CLB P G.2.1 S c qb) (hV : VB (S 0) b) (hB : ∀ r : Int, 0 ≤ r → r < S 0 → (I 54) r = dg b r) (hr : 0 ≤ rung ∧ rung < S 0) (hq : P[i0]? = some (q, .inr (8, [.int (J (dg b rung)), .int (J (S (172 + dg b rung)))]))) (hk : S (166 + dg b rung) = 6) (hp : PBT S c rf b rung day may) : CT l yX8_pick cX8_pick 6 (some .int) 0 0 0 G [.ref q, .ref (A 3), .ref qb, .ref (A 54), .int (J rung), .int (J may)] (CW A D T G.2.1 I F Q P) (fun vo wo => vo = some (.int (J (PCK S c rf b rung day))) ∧ wo = CW A D T G.2.1 I F Q P) := by
  refine CT_of (own := RX8) rfl rfl (Nat.le_of_ble_eq_true rfl) (fun K hl hnL hC hRT hin => ?_)
  subst hl
  show WW K G 0 0 (CW A D T G.2.1 I F Q P) 0 [(0, .ref q), (1, .ref (A 3)), (2, .ref qb), (3, .ref (A 54)), (4, .int (J rung)), (5, .int (J may))] []
  have hn := hR.n
  refine w_bipush (pc := 0) hC dX8_pick_0 (z := (-5)) rfl ?_
  refine w_iret (pc := 2) hC hRT dX8_pick_2 rfl ?_
  refine ⟨retI (by exact pk_6 hp (by omega) hk), rfl⟩
