
set_option maxRecDepth 100000 in
set_option maxHeartbeats 4000000 in
theorem c_X12_mayAsk (l : Launch) (G : GT) (A : Nat → Nat) (I : Nat → Int → Int) (F : Nat → Int)  (c : Int) (board : Int) (a : Int) (rung : Int) (higher : Int) (day : Int) (hR : RI (I 1)) (hc : 0 ≤ c ∧ c < (I 1) 1) (hV : VB ((I 1) 0) board) (ha : 0 ≤ a ∧ a < (I 1) 0) (hg : (0 ≤ rung ∧ rung < (I 1) 0) ∧ 1 ≤ higher ∧ higher ≤ rung) (hd : 0 ≤ day ∧ day ≤ 2000) (hf : -1 ≤ (F 11) ∧ (F 11) ≤ 5) : CT l yX12_mayAsk cX12_mayAsk 8 (some .boolean) 1 0 0 G [.ref (A 0), .int (J c), .int (J board), .int (J a), .int (J rung), .int (J higher), .int (J day)] (MW A G.2.1 I F) (fun vo wo => ∃ (b3 : Int → Int) (b4 : Int → Int), vo = some (.int (J (bI (¬ dg board (rung - higher) = (F 11) ∧ LET (I 1) c (byf (I 1) a (dg board (rung - higher)) rung higher day))))) ∧ wo = MW A G.2.1 (au (au I 3 b3) 4 b4) F) := by
  refine CT_of (own := RX12) rfl rfl (Nat.le_of_ble_eq_true rfl) (fun K hl hnL hC hRT hin => ?_)
  subst hl
  show WW K G 0 0 (MW A G.2.1 I F) 0 [(0, .ref (A 0)), (1, .int (J c)), (2, .int (J board)), (3, .int (J a)), (4, .int (J rung)), (5, .int (J higher)), (6, .int (J day))] []
  have hn := hR.n
  have hcl := hR.cl
  have hbr := VB_rng hV
  have hdg := VB_dg hV (r := rung - higher) (by omega) (by omega)
  have hch := hR.ch ha hdg
  refine w_iload_n (pc := 0) hC dX12_mayAsk_0 2 rfl rfl ?_
  refine w_iload (pc := 1) hC dX12_mayAsk_1 4 rfl ?_
  refine w_iload (pc := 3) hC dX12_mayAsk_3 5 rfl ?_
  refine w_isub (pc := 5) hC dX12_mayAsk_5 ?_
  refine w_callS (pc := 6) (As := [.int (J board), .int (J (rung - higher))]) (rest := []) hC dX12_mayAsk_6 cs_X12_52 (c_X12_nameOn (kl K) G (MW A G.2.1 I F) board (rung - higher) (show -2147483648 ≤ board ∧ board < 2147483648 from by first | assumption | omega) (show 0 ≤ (rung - higher) ∧ (rung - higher) ≤ 10 from by first | assumption | omega)) (by decide) ⟨Nat.le_of_ble_eq_true rfl, Nat.le_of_ble_eq_true rfl⟩ rfl (Nat.le_of_ble_eq_true rfl) rfl (fun vo wo hv => ?_)
  obtain ⟨hv1, hw1⟩ := hv
  rw [hv1, hw1]
  show WW K G 0 0 (MW A G.2.1 I F) 9 [(0, .ref (A 0)), (1, .int (J c)), (2, .int (J board)), (3, .int (J a)), (4, .int (J rung)), (5, .int (J higher)), (6, .int (J day))] [.int (J (dg board (rung - higher)))]
  have q6_0 := dg_bd board (rung - higher)
  refine w_istore (pc := 9) hC dX12_mayAsk_9 (lv2 := [(7, .int (J (dg board (rung - higher)))), (0, .ref (A 0)), (1, .int (J c)), (2, .int (J board)), (3, .int (J a)), (4, .int (J rung)), (5, .int (J higher)), (6, .int (J day))]) (by rw [hnL]; decide) rfl ?_
  refine w_aload_n (pc := 11) hC dX12_mayAsk_11 1 rfl rfl ?_
  refine w_getf (pc := 12) (v := .ref (A 4)) hC dX12_mayAsk_12 fi_X12_22 0 rfl rfl ?_
  refine w_iconst (pc := 15) hC dX12_mayAsk_15 ?_
  refine w_iload_n (pc := 16) hC dX12_mayAsk_16 4 rfl rfl ?_
  refine w_iast (pc := 17) (g := (I 4)) (w2 := MW A G.2.1 (au I 4 (gu (I 4) 0 a)) F) hC dX12_mayAsk_17 4 rfl (by omega) (Nat.le_of_ble_eq_true rfl) rfl ?_
  generalize h17 : gu (I 4) 0 a = s17
  refine w_aload_n (pc := 18) hC dX12_mayAsk_18 1 rfl rfl ?_
  refine w_getf (pc := 19) (v := .ref (A 4)) hC dX12_mayAsk_19 fi_X12_22 0 rfl rfl ?_
  refine w_iconst (pc := 22) hC dX12_mayAsk_22 ?_
  refine w_iload (pc := 23) hC dX12_mayAsk_23 0 rfl ?_
  refine w_iast (pc := 25) (g := s17) (w2 := MW A G.2.1 (au I 4 (gu s17 1 (dg board (rung - higher)))) F) hC dX12_mayAsk_25 4 rfl (by omega) (Nat.le_of_ble_eq_true rfl) rfl ?_
  generalize h25 : gu s17 1 (dg board (rung - higher)) = s25
  refine w_aload_n (pc := 26) hC dX12_mayAsk_26 1 rfl rfl ?_
  refine w_getf (pc := 27) (v := .ref (A 4)) hC dX12_mayAsk_27 fi_X12_22 0 rfl rfl ?_
  refine w_iconst (pc := 30) hC dX12_mayAsk_30 ?_
  refine w_iload (pc := 31) hC dX12_mayAsk_31 5 rfl ?_
  refine w_iast (pc := 33) (g := s25) (w2 := MW A G.2.1 (au I 4 (gu s25 2 rung)) F) hC dX12_mayAsk_33 4 rfl (by omega) (Nat.le_of_ble_eq_true rfl) rfl ?_
  generalize h33 : gu s25 2 rung = s33
  refine w_aload_n (pc := 34) hC dX12_mayAsk_34 1 rfl rfl ?_
  refine w_getf (pc := 35) (v := .ref (A 4)) hC dX12_mayAsk_35 fi_X12_22 0 rfl rfl ?_
  refine w_iconst (pc := 38) hC dX12_mayAsk_38 ?_
  refine w_iload (pc := 39) hC dX12_mayAsk_39 6 rfl ?_
  refine w_iast (pc := 41) (g := s33) (w2 := MW A G.2.1 (au I 4 (gu s33 3 higher)) F) hC dX12_mayAsk_41 4 rfl (by omega) (Nat.le_of_ble_eq_true rfl) rfl ?_
  generalize h41 : gu s33 3 higher = s41
  refine w_aload_n (pc := 42) hC dX12_mayAsk_42 1 rfl rfl ?_
  refine w_getf (pc := 43) (v := .ref (A 4)) hC dX12_mayAsk_43 fi_X12_22 0 rfl rfl ?_
  refine w_iconst (pc := 46) hC dX12_mayAsk_46 ?_
  refine w_aload_n (pc := 47) hC dX12_mayAsk_47 1 rfl rfl ?_
  refine w_getf (pc := 48) (v := .ref (A 1)) hC dX12_mayAsk_48 fi_X12_9 0 rfl rfl ?_
  refine w_sipush (pc := 51) hC dX12_mayAsk_51 (z := 130) rfl ?_
  refine w_bipush (pc := 54) hC dX12_mayAsk_54 (z := 6) rfl ?_
  refine w_iload_n (pc := 56) hC dX12_mayAsk_56 4 rfl rfl ?_
  refine w_imul (pc := 57) hC dX12_mayAsk_57 ?_
  refine w_iadd (pc := 58) hC dX12_mayAsk_58 ?_
  refine w_iload (pc := 59) hC dX12_mayAsk_59 0 rfl ?_
  refine w_iadd (pc := 61) hC dX12_mayAsk_61 ?_
  refine w_iald (pc := 62) (g := (I 1)) hC dX12_mayAsk_62 1 rfl (by omega) (Nat.le_of_ble_eq_true rfl) ?_
  refine w_iast (pc := 63) (g := s41) (w2 := MW A G.2.1 (au I 4 (gu s41 4 ((I 1) ((130 + (6 * a)) + (dg board (rung - higher)))))) F) hC dX12_mayAsk_63 4 rfl (by omega) (Nat.le_of_ble_eq_true rfl) rfl ?_
  generalize h63 : gu s41 4 ((I 1) ((130 + (6 * a)) + (dg board (rung - higher)))) = s63
  refine w_aload_n (pc := 64) hC dX12_mayAsk_64 1 rfl rfl ?_
  refine w_getf (pc := 65) (v := .ref (A 4)) hC dX12_mayAsk_65 fi_X12_22 0 rfl rfl ?_
  refine w_iconst (pc := 68) hC dX12_mayAsk_68 ?_
  refine w_iload (pc := 69) hC dX12_mayAsk_69 7 rfl ?_
  refine w_bipush (pc := 71) hC dX12_mayAsk_71 (z := 7) rfl ?_
  refine w_irem (pc := 73) hC dX12_mayAsk_73 (by omega) ?_
  refine w_iast (pc := 74) (g := s63) (w2 := MW A G.2.1 (au I 4 (gu s63 5 (day % 7))) F) hC dX12_mayAsk_74 4 rfl (by omega) (Nat.le_of_ble_eq_true rfl) rfl ?_
  generalize h74 : gu s63 5 (day % 7) = s74
  refine w_iload (pc := 75) hC dX12_mayAsk_75 0 rfl ?_
  refine w_aload_n (pc := 77) hC dX12_mayAsk_77 1 rfl rfl ?_
  refine w_getf (pc := 78) (v := .int (J (F 11))) hC dX12_mayAsk_78 fi_X12_25 0 rfl rfl ?_
  refine w_icmp_eq (pc := 81) (tgt := 96) hC dX12_mayAsk_81 (by decide) (by omega) (fun c81 => ?_) (fun c81 => ?_)
  · refine w_iconst (pc := 96) hC dX12_mayAsk_96 ?_
    refine w_iret (pc := 97) hC hRT dX12_mayAsk_97 rfl ?_
    refine ⟨(I 3), s74, retI (by first | exact (bI_t ⟨c81, (LET_congr e74 hR hc).mp c89⟩).symm | exact (bI_f (fun h => c89 ((LET_congr e74 hR hc).mpr h.2))).symm | exact (bI_f (fun h => h.1 c81)).symm), rfl⟩
  · refine w_aload_n (pc := 84) hC dX12_mayAsk_84 1 rfl rfl ?_
    refine w_iload_n (pc := 85) hC dX12_mayAsk_85 2 rfl rfl ?_
    have e74 : ∀ j : Int, 0 ≤ j → j < 6 → s74 j = byf (I 1) a (dg board (rung - higher)) rung higher day j := by
      intro j g1 g2
      subst h74 h63 h41 h33 h25 h17
      unfold gu byf
      (repeat' split) <;> first | rfl | omega
    have hbb : ∀ j : Int, 0 ≤ j → j < 6 → 0 ≤ s74 j ∧ s74 j ≤ 100 := by
      intro j g1 g2
      rw [e74 j g1 g2]
      unfold byf
      (repeat' split) <;> omega
    refine w_callV (pc := 86) (As := [.int (J c)]) (rest := []) hC dX12_mayAsk_86 cv_X12_149 (c_X12_isLet (kl K) G A (au I 4 s74) F c (show RI (I 1) from by first | assumption | omega) (show 0 ≤ c ∧ c < (I 1) 1 from by first | assumption | omega) (show ∀ j : Int, 0 ≤ j → j < 6 → 0 ≤ s74 j ∧ s74 j ≤ 100 from by exact hbb)) (by decide) ⟨Nat.le_of_ble_eq_true rfl, Nat.le_of_ble_eq_true rfl⟩ (q0 := 0) rfl rfl rfl rfl (Nat.le_of_ble_eq_true rfl) rfl (fun vo wo hv => ?_)
    obtain ⟨b3_86, hv1, hw1⟩ := hv
    rw [hv1, hw1]
    show WW K G 0 0 (MW A G.2.1 (au (au I 3 b3_86) 4 s74) F) 89 [(7, .int (J (dg board (rung - higher)))), (0, .ref (A 0)), (1, .int (J c)), (2, .int (J board)), (3, .int (J a)), (4, .int (J rung)), (5, .int (J higher)), (6, .int (J day))] [.int (J (bI (LET (I 1) c s74)))]
    refine w_if_eq_b (pc := 89) (tgt := 96) hC dX12_mayAsk_89 (by decide) (fun c89 => ?_) (fun c89 => ?_)
    · refine w_iconst (pc := 96) hC dX12_mayAsk_96 ?_
      refine w_iret (pc := 97) hC hRT dX12_mayAsk_97 rfl ?_
      refine ⟨b3_86, s74, retI (by first | exact (bI_t ⟨c81, (LET_congr e74 hR hc).mp c89⟩).symm | exact (bI_f (fun h => c89 ((LET_congr e74 hR hc).mpr h.2))).symm | exact (bI_f (fun h => h.1 c81)).symm), rfl⟩
    · refine w_iconst (pc := 92) hC dX12_mayAsk_92 ?_
      refine w_goto (pc := 93) hC dX12_mayAsk_93 (tgt := 97) (by decide) ?_
      refine w_iret (pc := 97) hC hRT dX12_mayAsk_97 rfl ?_
      refine ⟨b3_86, s74, retI (by first | exact (bI_t ⟨c81, (LET_congr e74 hR hc).mp c89⟩).symm | exact (bI_f (fun h => c89 ((LET_congr e74 hR hc).mpr h.2))).symm | exact (bI_f (fun h => h.1 c81)).symm), rfl⟩
set_option maxRecDepth 100000 in
set_option maxHeartbeats 4000000 in
theorem c_X12_mayAll (l : Launch) (G : GT) (A : Nat → Nat) (I : Nat → Int → Int) (F : Nat → Int)  (c : Int) (board : Int) (a : Int) (day : Int) (hR : RI (I 1)) (hc : 0 ≤ c ∧ c < (I 1) 1) (hV : VB ((I 1) 0) board) (ha : 0 ≤ a ∧ a < (I 1) 0) (hd : 0 ≤ day ∧ day ≤ 2000) (hf : -1 ≤ (F 11) ∧ (F 11) ≤ 5) : CT l yX12_mayAll cX12_mayAll 8 (some .int) 2 0 0 G [.ref (A 0), .int (J c), .int (J board), .int (J a), .int (J day)] (MW A G.2.1 I F) (fun vo wo => ∃ (b3 : Int → Int) (b4 : Int → Int), vo = some (.int (J (MSK (I 1) c (F 11) board a day))) ∧ wo = MW A G.2.1 (au (au I 3 b3) 4 b4) F) := by
  refine CT_of (own := RX12) rfl rfl (Nat.le_of_ble_eq_true rfl) (fun K hl hnL hC hRT hin => ?_)
  subst hl
  show WW K G 0 0 (MW A G.2.1 I F) 0 [(0, .ref (A 0)), (1, .int (J c)), (2, .int (J board)), (3, .int (J a)), (4, .int (J day))] []
  have hn := hR.n
  have hcl := hR.cl
  have hbr := VB_rng hV
  have hk := rk_spec hV ha.1 ha.2
  have hup := hR.up (178 + c) (by omega) (by omega)
  refine w_aload_n (pc := 0) hC dX12_mayAll_0 0 rfl rfl ?_
  refine w_iload_n (pc := 1) hC dX12_mayAll_1 2 rfl rfl ?_
  refine w_iload_n (pc := 2) hC dX12_mayAll_2 3 rfl rfl ?_
  refine w_callV (pc := 3) (As := [.int (J board), .int (J a)]) (rest := []) hC dX12_mayAll_3 cv_X12_68 (c_X12_rungOf (kl K) G A I F ((I 1) 0) board a (show VB ((I 1) 0) board from by first | assumption | omega) (show 0 ≤ a ∧ a < ((I 1) 0) from by first | assumption | omega)) (by decide) ⟨Nat.le_of_ble_eq_true rfl, Nat.le_of_ble_eq_true rfl⟩ (q0 := 0) rfl rfl rfl rfl (Nat.le_of_ble_eq_true rfl) rfl (fun vo wo hv => ?_)
  obtain ⟨hv1, hw1⟩ := hv
  rw [hv1, hw1]
  show WW K G 0 0 (MW A G.2.1 I F) 6 [(0, .ref (A 0)), (1, .int (J c)), (2, .int (J board)), (3, .int (J a)), (4, .int (J day))] [.int (J (rk ((I 1) 0) board a))]
  have q3_0 := (@rk_spec ((I 1) 0) board a (by assumption) (by omega) (by omega)).1
  refine w_istore (pc := 6) hC dX12_mayAll_6 (lv2 := [(5, .int (J (rk ((I 1) 0) board a))), (0, .ref (A 0)), (1, .int (J c)), (2, .int (J board)), (3, .int (J a)), (4, .int (J day))]) (by rw [hnL]; decide) rfl ?_
  refine w_iconst (pc := 8) hC dX12_mayAll_8 ?_
  refine w_istore (pc := 9) hC dX12_mayAll_9 (lv2 := [(6, .int (J 0)), (5, .int (J (rk ((I 1) 0) board a))), (0, .ref (A 0)), (1, .int (J c)), (2, .int (J board)), (3, .int (J a)), (4, .int (J day))]) (by rw [hnL]; decide) rfl ?_
  refine w_iconst (pc := 11) hC dX12_mayAll_11 ?_
  refine w_istore (pc := 12) hC dX12_mayAll_12 (lv2 := [(7, .int (J 1)), (6, .int (J 0)), (5, .int (J (rk ((I 1) 0) board a))), (0, .ref (A 0)), (1, .int (J c)), (2, .int (J board)), (3, .int (J a)), (4, .int (J day))]) (by rw [hnL]; decide) rfl ?_
  have loop14 : ∀ (nF : Nat) (set : Int) (u : Int) (a3_14 : Int → Int) (a4_14 : Int → Int), (1 ≤ u) → (u - 1 ≤ (I 1) (178 + c) ∧ u - 1 ≤ rk ((I 1) 0) board a) → (set = mskN (fun u => decide (MAY (I 1) c (F 11) board a (rk ((I 1) 0) board a) day u)) (fun u => dg board (rk ((I 1) 0) board a - u)) (u - 1).toNat) → (rk ((I 1) 0) board a + 1 - u) < (nF : Int) → WW K G 0 0 (MW A G.2.1 (au (au I 3 a3_14) 4 a4_14) F) 14 [(0, .ref (A 0)), (1, .int (J c)), (2, .int (J board)), (3, .int (J a)), (4, .int (J day)), (5, .int (J (rk ((I 1) 0) board a))), (6, .int (J set)), (7, .int (J u))] [] := by
    intro nF
    induction nF with
    | zero => intro set u a3_14 a4_14 i1 i3 i2 hm14; exact absurd hm14 (by omega)
    | succ nF ih14 =>
      intro set u a3_14 a4_14 i1 i3 i2 hm14
      refine w_iload (pc := 14) hC dX12_mayAll_14 7 rfl ?_
      refine w_aload_n (pc := 16) hC dX12_mayAll_16 0 rfl rfl ?_
      refine w_getf (pc := 17) (v := .ref (A 1)) hC dX12_mayAll_17 fi_X12_9 0 rfl rfl ?_
      refine w_sipush (pc := 20) hC dX12_mayAll_20 (z := 178) rfl ?_
      refine w_iload_n (pc := 23) hC dX12_mayAll_23 1 rfl rfl ?_
      refine w_iadd (pc := 24) hC dX12_mayAll_24 ?_
      refine w_iald (pc := 25) (g := (I 1)) hC dX12_mayAll_25 1 rfl (by omega) (Nat.le_of_ble_eq_true rfl) ?_
      refine w_icmp_gt (pc := 26) (tgt := 78) hC dX12_mayAll_26 (by decide) (by omega) (fun c26 => ?_) (fun c26 => ?_)
      · refine w_iload (pc := 78) hC dX12_mayAll_78 6 rfl ?_
        refine w_iret (pc := 80) hC hRT dX12_mayAll_80 rfl ?_
        refine ⟨a3_14, a4_14, retI (by rw [i2, show (u - 1).toNat = (imin (I 1 (178 + c)) (rk (I 1 0) board a)).toNat by unfold imin; split <;> omega]; rfl), rfl⟩
      · refine w_iload (pc := 29) hC dX12_mayAll_29 7 rfl ?_
        refine w_iload (pc := 31) hC dX12_mayAll_31 5 rfl ?_
        refine w_icmp_gt (pc := 33) (tgt := 78) hC dX12_mayAll_33 (by decide) (by omega) (fun c33 => ?_) (fun c33 => ?_)
        · refine w_iload (pc := 78) hC dX12_mayAll_78 6 rfl ?_
          refine w_iret (pc := 80) hC hRT dX12_mayAll_80 rfl ?_
          refine ⟨a3_14, a4_14, retI (by rw [i2, show (u - 1).toNat = (imin (I 1 (178 + c)) (rk (I 1 0) board a)).toNat by unfold imin; split <;> omega]; rfl), rfl⟩
        · have hdu := VB_dg hV (r := rk (I 1 0) board a - u) (by omega) (by omega)
          have hp2 := p2_6 hdu.1 (by omega)
          have hsb := mskN_bd (fun u => decide (MAY (I 1) c (F 11) board a (rk ((I 1) 0) board a) day u)) (fun u => dg board (rk ((I 1) 0) board a - u)) (u - 1).toNat (fun v g1 g2 => by have := VB_dg hV (r := rk (I 1 0) board a - v) (by omega) (by omega); omega)
          rw [← i2] at hsb
          refine w_iload (pc := 36) hC dX12_mayAll_36 6 rfl ?_
          refine w_aload_n (pc := 38) hC dX12_mayAll_38 0 rfl rfl ?_
          refine w_iload_n (pc := 39) hC dX12_mayAll_39 1 rfl rfl ?_
          refine w_iload_n (pc := 40) hC dX12_mayAll_40 2 rfl rfl ?_
          refine w_iload_n (pc := 41) hC dX12_mayAll_41 3 rfl rfl ?_
          refine w_iload (pc := 42) hC dX12_mayAll_42 5 rfl ?_
          refine w_iload (pc := 44) hC dX12_mayAll_44 7 rfl ?_
          refine w_iload (pc := 46) hC dX12_mayAll_46 4 rfl ?_
          refine w_callV (pc := 48) (As := [.int (J c), .int (J board), .int (J a), .int (J (rk ((I 1) 0) board a)), .int (J u), .int (J day)]) (rest := [.int (J set)]) hC dX12_mayAll_48 cv_X12_152 (c_X12_mayAsk (kl K) G A (au (au I 3 a3_14) 4 a4_14) F c board a (rk ((I 1) 0) board a) u day (show RI (I 1) from by first | assumption | omega) (show 0 ≤ c ∧ c < (I 1) 1 from by first | assumption | omega) (show VB ((I 1) 0) board from by first | assumption | omega) (show 0 ≤ a ∧ a < (I 1) 0 from by first | assumption | omega) (show (0 ≤ (rk ((I 1) 0) board a) ∧ (rk ((I 1) 0) board a) < (I 1) 0) ∧ 1 ≤ u ∧ u ≤ (rk ((I 1) 0) board a) from by first | assumption | omega) (show 0 ≤ day ∧ day ≤ 2000 from by first | assumption | omega) (show -1 ≤ (F 11) ∧ (F 11) ≤ 5 from by first | assumption | omega)) (by decide) ⟨Nat.le_of_ble_eq_true rfl, Nat.le_of_ble_eq_true rfl⟩ (q0 := 0) rfl rfl rfl rfl (Nat.le_of_ble_eq_true rfl) rfl (fun vo wo hv => ?_)
          obtain ⟨b3_48, b4_48, hv1, hw1⟩ := hv
          rw [hv1, hw1]
          show WW K G 0 0 (MW A G.2.1 (au (au I 3 b3_48) 4 b4_48) F) 51 [(0, .ref (A 0)), (1, .int (J c)), (2, .int (J board)), (3, .int (J a)), (4, .int (J day)), (5, .int (J (rk ((I 1) 0) board a))), (6, .int (J set)), (7, .int (J u))] [.int (J (bI (¬ dg board ((rk ((I 1) 0) board a) - u) = (F 11) ∧ LET (I 1) c (byf (I 1) a (dg board ((rk ((I 1) 0) board a) - u)) (rk ((I 1) 0) board a) u day)))), .int (J set)]
          refine w_if_eq_b (pc := 51) (tgt := 68) hC dX12_mayAll_51 (by decide) (fun c51 => ?_) (fun c51 => ?_)
          · refine w_iconst (pc := 68) hC dX12_mayAll_68 ?_
            refine w_ior (pc := 69) hC dX12_mayAll_69 (v := ior set 0) (J_or (by omega)) ?_
            refine w_istore (pc := 70) hC dX12_mayAll_70 (lv2 := [(6, .int (J (ior set 0))), (0, .ref (A 0)), (1, .int (J c)), (2, .int (J board)), (3, .int (J a)), (4, .int (J day)), (5, .int (J (rk ((I 1) 0) board a))), (7, .int (J u))]) (by rw [hnL]; decide) rfl ?_
            refine w_iinc (pc := 72) hC dX12_mayAll_72 (lv2 := [(7, .int (J (u + 1))), (6, .int (J (ior set 0))), (0, .ref (A 0)), (1, .int (J c)), (2, .int (J board)), (3, .int (J a)), (4, .int (J day)), (5, .int (J (rk ((I 1) 0) board a)))]) 7 rfl (by rw [hnL]; decide) rfl ?_
            refine w_goto (pc := 75) hC dX12_mayAll_75 (tgt := 14) (by decide) ?_
            refine w_sub [2, 3, 4, 5, 6, 7, 1, 0] (lv2 := [(0, .ref (A 0)), (1, .int (J c)), (2, .int (J board)), (3, .int (J a)), (4, .int (J day)), (5, .int (J (rk ((I 1) 0) board a))), (6, .int (J (ior set 0))), (7, .int (J (u + 1)))]) rfl ?_
            refine ih14 (ior set 0) (u + 1) b3_48 b4_48 ?_ ?_ ?_ ?_
            · first | assumption | omega
            · first | assumption | omega
            · rw [show u + 1 - 1 = u by omega, mskN_s _ _ i1, ← i2]; first | rw [if_pos (decide_eq_true c51)] | rw [if_neg (fun h => c51 (of_decide_eq_true h))]
            · omega
          · refine w_iconst (pc := 54) hC dX12_mayAll_54 ?_
            refine w_iload_n (pc := 55) hC dX12_mayAll_55 2 rfl rfl ?_
            refine w_iload (pc := 56) hC dX12_mayAll_56 5 rfl ?_
            refine w_iload (pc := 58) hC dX12_mayAll_58 7 rfl ?_
            refine w_isub (pc := 60) hC dX12_mayAll_60 ?_
            refine w_callS (pc := 61) (As := [.int (J board), .int (J ((rk ((I 1) 0) board a) - u))]) (rest := [.int (J 1), .int (J set)]) hC dX12_mayAll_61 cs_X12_52 (c_X12_nameOn (kl K) G (MW A G.2.1 (au (au I 3 b3_48) 4 b4_48) F) board ((rk ((I 1) 0) board a) - u) (show -2147483648 ≤ board ∧ board < 2147483648 from by first | assumption | omega) (show 0 ≤ ((rk ((I 1) 0) board a) - u) ∧ ((rk ((I 1) 0) board a) - u) ≤ 10 from by first | assumption | omega)) (by decide) ⟨Nat.le_of_ble_eq_true rfl, Nat.le_of_ble_eq_true rfl⟩ rfl (Nat.le_of_ble_eq_true rfl) rfl (fun vo wo hv => ?_)
            obtain ⟨hv1, hw1⟩ := hv
            rw [hv1, hw1]
            show WW K G 0 0 (MW A G.2.1 (au (au I 3 b3_48) 4 b4_48) F) 64 [(0, .ref (A 0)), (1, .int (J c)), (2, .int (J board)), (3, .int (J a)), (4, .int (J day)), (5, .int (J (rk ((I 1) 0) board a))), (6, .int (J set)), (7, .int (J u))] [.int (J (dg board ((rk ((I 1) 0) board a) - u))), .int (J 1), .int (J set)]
            have q61_0 := dg_bd board ((rk ((I 1) 0) board a) - u)
            refine w_ishl (pc := 64) hC dX12_mayAll_64 (by omega) ?_
            refine w_top (e2 := 2 ^ (dg board (rk ((I 1) 0) board a - u)).toNat) (by exact Int.one_mul _) ?_
            refine w_goto (pc := 65) hC dX12_mayAll_65 (tgt := 69) (by decide) ?_
            refine w_ior (pc := 69) hC dX12_mayAll_69 (v := ior set (2 ^ (dg board (rk ((I 1) 0) board a - u)).toNat)) (J_or (by omega)) ?_
            refine w_istore (pc := 70) hC dX12_mayAll_70 (lv2 := [(6, .int (J (ior set (2 ^ (dg board (rk ((I 1) 0) board a - u)).toNat)))), (0, .ref (A 0)), (1, .int (J c)), (2, .int (J board)), (3, .int (J a)), (4, .int (J day)), (5, .int (J (rk ((I 1) 0) board a))), (7, .int (J u))]) (by rw [hnL]; decide) rfl ?_
            refine w_iinc (pc := 72) hC dX12_mayAll_72 (lv2 := [(7, .int (J (u + 1))), (6, .int (J (ior set (2 ^ (dg board (rk ((I 1) 0) board a - u)).toNat)))), (0, .ref (A 0)), (1, .int (J c)), (2, .int (J board)), (3, .int (J a)), (4, .int (J day)), (5, .int (J (rk ((I 1) 0) board a)))]) 7 rfl (by rw [hnL]; decide) rfl ?_
            refine w_goto (pc := 75) hC dX12_mayAll_75 (tgt := 14) (by decide) ?_
            refine w_sub [2, 3, 4, 5, 6, 7, 1, 0] (lv2 := [(0, .ref (A 0)), (1, .int (J c)), (2, .int (J board)), (3, .int (J a)), (4, .int (J day)), (5, .int (J (rk ((I 1) 0) board a))), (6, .int (J (ior set (2 ^ (dg board (rk ((I 1) 0) board a - u)).toNat)))), (7, .int (J (u + 1)))]) rfl ?_
            refine ih14 (ior set (2 ^ (dg board (rk ((I 1) 0) board a - u)).toNat)) (u + 1) b3_48 b4_48 ?_ ?_ ?_ ?_
            · first | assumption | omega
            · first | assumption | omega
            · rw [show u + 1 - 1 = u by omega, mskN_s _ _ i1, ← i2]; first | rw [if_pos (decide_eq_true c51)] | rw [if_neg (fun h => c51 (of_decide_eq_true h))]
            · omega
  refine w_sub [3, 4, 5, 6, 7, 2, 1, 0] (lv2 := [(0, .ref (A 0)), (1, .int (J c)), (2, .int (J board)), (3, .int (J a)), (4, .int (J day)), (5, .int (J (rk ((I 1) 0) board a))), (6, .int (J 0)), (7, .int (J 1))]) rfl ?_
  refine loop14 ((rk ((I 1) 0) board a + 1 - 1) + 1 : Int).toNat 0 1 (I 3) (I 4) ?_ ?_ ?_ ?_
  · first | assumption | omega
  · first | assumption | omega
  · rfl
  · omega
set_option maxRecDepth 100000 in
set_option maxHeartbeats 4000000 in
theorem c_X12_may (l : Launch) (G : GT) (A : Nat → Nat) (I : Nat → Int → Int) (F : Nat → Int)  (club : Int) (name : Int) (day : Int) (hR : RI (I 1)) (h1 : -2147483648 ≤ club ∧ club < 2147483648) (h2 : -2147483648 ≤ name ∧ name < 2147483648) (h3 : -2147483648 ≤ day ∧ day < 2147483648) (hrf : (F 11) = -1) : CT l yX12_may cX12_may 4 (some .int) 3 0 0 G [.ref (A 0), .int (J club), .int (J name), .int (J day)] (MW A G.2.1 I F) (fun vo wo => ∃ (b3 : Int → Int) (b4 : Int → Int), vo = some (.int (J (v_may (I 1) club name day))) ∧ wo = MW A G.2.1 (au (au I 3 b3) 4 b4) F) := by
  refine CT_of (own := RX12) rfl rfl (Nat.le_of_ble_eq_true rfl) (fun K hl hnL hC hRT hin => ?_)
  subst hl
  show WW K G 0 0 (MW A G.2.1 I F) 0 [(0, .ref (A 0)), (1, .int (J club)), (2, .int (J name)), (3, .int (J day))] []
  have hn := hR.n
  have hV := hR.bd
  have hB := VB_rng hV
  refine w_aload_n (pc := 0) hC dX12_may_0 0 rfl rfl ?_
  refine w_iload_n (pc := 1) hC dX12_may_1 1 rfl rfl ?_
  refine w_callV (pc := 2) (As := [.int (J club)]) (rest := []) hC dX12_may_2 cv_X12_156 (c_X12_isClub (kl K) G A I F club (show RI (I 1) from by first | assumption | omega) (show -2147483648 ≤ club ∧ club < 2147483648 from by first | assumption | omega)) (by decide) ⟨Nat.le_of_ble_eq_true rfl, Nat.le_of_ble_eq_true rfl⟩ (q0 := 0) rfl rfl rfl rfl (Nat.le_of_ble_eq_true rfl) rfl (fun vo wo hv => ?_)
  obtain ⟨hv1, hw1⟩ := hv
  rw [hv1, hw1]
  show WW K G 0 0 (MW A G.2.1 I F) 5 [(0, .ref (A 0)), (1, .int (J club)), (2, .int (J name)), (3, .int (J day))] [.int (J (bI (0 ≤ club ∧ club < (I 1) 1)))]
  refine w_if_eq_b (pc := 5) (tgt := 16) hC dX12_may_5 (by decide) (fun c5 => ?_) (fun c5 => ?_)
  · refine w_iconst (pc := 16) hC dX12_may_16 ?_
    refine w_iret (pc := 17) hC hRT dX12_may_17 rfl ?_
    refine ⟨(I 3), (I 4), retI (by first | rfl | (simp only [v_may]; repeat' split) <;> first | rfl | omega | rw [hrf]), rfl⟩
  · refine w_aload_n (pc := 8) hC dX12_may_8 0 rfl rfl ?_
    refine w_iload_n (pc := 9) hC dX12_may_9 2 rfl rfl ?_
    refine w_callV (pc := 10) (As := [.int (J name)]) (rest := []) hC dX12_may_10 cv_X12_60 (c_X12_isName (kl K) G A I F name (show RI (I 1) from by first | assumption | omega) (show -2147483648 ≤ name ∧ name < 2147483648 from by first | assumption | omega)) (by decide) ⟨Nat.le_of_ble_eq_true rfl, Nat.le_of_ble_eq_true rfl⟩ (q0 := 0) rfl rfl rfl rfl (Nat.le_of_ble_eq_true rfl) rfl (fun vo wo hv => ?_)
    obtain ⟨hv1, hw1⟩ := hv
    rw [hv1, hw1]
    show WW K G 0 0 (MW A G.2.1 I F) 13 [(0, .ref (A 0)), (1, .int (J club)), (2, .int (J name)), (3, .int (J day))] [.int (J (bI (0 ≤ name ∧ name < (I 1) 0)))]
    refine w_if_ne_b (pc := 13) (tgt := 18) hC dX12_may_13 (by decide) (fun c13 => ?_) (fun c13 => ?_)
    · refine w_iload_n (pc := 18) hC dX12_may_18 3 rfl rfl ?_
      refine w_callS (pc := 19) (As := [.int (J day)]) (rest := []) hC dX12_may_19 cs_X12_159 (c_X12_isDay (kl K) G (MW A G.2.1 I F) day (show -2147483648 ≤ day ∧ day < 2147483648 from by first | assumption | omega)) (by decide) ⟨Nat.le_of_ble_eq_true rfl, Nat.le_of_ble_eq_true rfl⟩ rfl (Nat.le_of_ble_eq_true rfl) rfl (fun vo wo hv => ?_)
      obtain ⟨hv1, hw1⟩ := hv
      rw [hv1, hw1]
      show WW K G 0 0 (MW A G.2.1 I F) 22 [(0, .ref (A 0)), (1, .int (J club)), (2, .int (J name)), (3, .int (J day))] [.int (J (bI (0 ≤ day ∧ day ≤ 999)))]
      refine w_if_eq_b (pc := 22) (tgt := 42) hC dX12_may_22 (by decide) (fun c22 => ?_) (fun c22 => ?_)
      · refine w_bipush (pc := 42) hC dX12_may_42 (z := (-2)) rfl ?_
        refine w_iret (pc := 44) hC hRT dX12_may_44 rfl ?_
        refine ⟨(I 3), (I 4), retI (by first | rfl | (simp only [v_may]; repeat' split) <;> first | rfl | omega | rw [hrf]), rfl⟩
      · refine w_aload_n (pc := 25) hC dX12_may_25 0 rfl rfl ?_
        refine w_iload_n (pc := 26) hC dX12_may_26 1 rfl rfl ?_
        refine w_aload_n (pc := 27) hC dX12_may_27 0 rfl rfl ?_
        refine w_getf (pc := 28) (v := .ref (A 1)) hC dX12_may_28 fi_X12_9 0 rfl rfl ?_
        refine w_bipush (pc := 31) hC dX12_may_31 (z := 6) rfl ?_
        refine w_iald (pc := 33) (g := (I 1)) hC dX12_may_33 1 rfl (by omega) (Nat.le_of_ble_eq_true rfl) ?_
        refine w_iload_n (pc := 34) hC dX12_may_34 2 rfl rfl ?_
        refine w_iload_n (pc := 35) hC dX12_may_35 3 rfl rfl ?_
        refine w_callV (pc := 36) (As := [.int (J club), .int (J ((I 1) 6)), .int (J name), .int (J day)]) (rest := []) hC dX12_may_36 cv_X12_162 (c_X12_mayAll (kl K) G A I F club ((I 1) 6) name day (show RI (I 1) from by first | assumption | omega) (show 0 ≤ club ∧ club < (I 1) 1 from by first | assumption | omega) (show VB ((I 1) 0) ((I 1) 6) from by first | assumption | omega) (show 0 ≤ name ∧ name < (I 1) 0 from by first | assumption | omega) (show 0 ≤ day ∧ day ≤ 2000 from by first | assumption | omega) (show -1 ≤ (F 11) ∧ (F 11) ≤ 5 from by first | assumption | omega)) (by decide) ⟨Nat.le_of_ble_eq_true rfl, Nat.le_of_ble_eq_true rfl⟩ (q0 := 0) rfl rfl rfl rfl (Nat.le_of_ble_eq_true rfl) rfl (fun vo wo hv => ?_)
        obtain ⟨b3_36, b4_36, hv1, hw1⟩ := hv
        rw [hv1, hw1]
        show WW K G 0 0 (MW A G.2.1 (au (au I 3 b3_36) 4 b4_36) F) 39 [(0, .ref (A 0)), (1, .int (J club)), (2, .int (J name)), (3, .int (J day))] [.int (J (MSK (I 1) club (F 11) ((I 1) 6) name day))]
        have q36_0 := @MSK_bd (I 1) club (F 11) ((I 1) 6) name day (by assumption) (by omega)
        refine w_goto (pc := 39) hC dX12_may_39 (tgt := 44) (by decide) ?_
        refine w_iret (pc := 44) hC hRT dX12_may_44 rfl ?_
        refine ⟨b3_36, b4_36, retI (by first | rfl | (simp only [v_may]; repeat' split) <;> first | rfl | omega | rw [hrf]), rfl⟩
    · refine w_iconst (pc := 16) hC dX12_may_16 ?_
      refine w_iret (pc := 17) hC hRT dX12_may_17 rfl ?_
      refine ⟨(I 3), (I 4), retI (by first | rfl | (simp only [v_may]; repeat' split) <;> first | rfl | omega | rw [hrf]), rfl⟩
set_option maxRecDepth 100000 in
set_option maxHeartbeats 4000000 in
theorem c_X12_worth (l : Launch) (G : GT) (A : Nat → Nat) (I : Nat → Int → Int) (F : Nat → Int)  (c : Int) (a : Int) (b : Int) (higher : Int) (hR : RI (I 1)) (hc : 0 ≤ c ∧ c < (I 1) 1) (ha : 0 ≤ a ∧ a < (I 1) 0) (hb : 0 ≤ b ∧ b < (I 1) 0) (hg : 1 ≤ higher ∧ higher ≤ 5) : CT l yX12_worth cX12_worth 6 (some .int) 0 0 0 G [.ref (A 0), .int (J c), .int (J a), .int (J b), .int (J higher)] (MW A G.2.1 I F) (fun vo wo => vo = some (.int (J (WRT (I 1) c a b higher))) ∧ wo = MW A G.2.1 I F) := by
  refine CT_of (own := RX12) rfl rfl (Nat.le_of_ble_eq_true rfl) (fun K hl hnL hC hRT hin => ?_)
  subst hl
  show WW K G 0 0 (MW A G.2.1 I F) 0 [(0, .ref (A 0)), (1, .int (J c)), (2, .int (J a)), (3, .int (J b)), (4, .int (J higher))] []
  have hn := hR.n
  have hcl := hR.cl
  have hch := hR.ch ha hb
  have hkd := hR.kd (166 + a) (by omega) (by omega)
  have hvv := hR.vv (172 + a) (by omega) (by omega)
  have hwi := hR.wi (183 + c) (by omega) (by omega)
  refine w_aload_n (pc := 0) hC dX12_worth_0 0 rfl rfl ?_
  refine w_getf (pc := 1) (v := .ref (A 1)) hC dX12_worth_1 fi_X12_9 0 rfl rfl ?_
  refine w_sipush (pc := 4) hC dX12_worth_4 (z := 130) rfl ?_
  refine w_bipush (pc := 7) hC dX12_worth_7 (z := 6) rfl ?_
  refine w_iload_n (pc := 9) hC dX12_worth_9 2 rfl rfl ?_
  refine w_imul (pc := 10) hC dX12_worth_10 ?_
  refine w_iadd (pc := 11) hC dX12_worth_11 ?_
  refine w_iload_n (pc := 12) hC dX12_worth_12 3 rfl rfl ?_
  refine w_iadd (pc := 13) hC dX12_worth_13 ?_
  refine w_iald (pc := 14) (g := (I 1)) hC dX12_worth_14 1 rfl (by omega) (Nat.le_of_ble_eq_true rfl) ?_
  refine w_istore (pc := 15) hC dX12_worth_15 (lv2 := [(5, .int (J ((I 1) ((130 + (6 * a)) + b)))), (0, .ref (A 0)), (1, .int (J c)), (2, .int (J a)), (3, .int (J b)), (4, .int (J higher))]) (by rw [hnL]; decide) rfl ?_
  refine w_aload_n (pc := 17) hC dX12_worth_17 1 rfl rfl ?_
  refine w_getf (pc := 18) (v := .ref (A 1)) hC dX12_worth_18 fi_X12_9 0 rfl rfl ?_
  refine w_sipush (pc := 21) hC dX12_worth_21 (z := 166) rfl ?_
  refine w_iload_n (pc := 24) hC dX12_worth_24 3 rfl rfl ?_
  refine w_iadd (pc := 25) hC dX12_worth_25 ?_
  refine w_iald (pc := 26) (g := (I 1)) hC dX12_worth_26 1 rfl (by omega) (Nat.le_of_ble_eq_true rfl) ?_
  rcases (show ((I 1) (166 + a)) = 0 ∨ ((I 1) (166 + a)) = 1 ∨ ((I 1) (166 + a)) = 2 ∨ ((I 1) (166 + a)) = 3 ∨ ((I 1) (166 + a)) = 4 ∨ ((I 1) (166 + a)) = 5 ∨ (((I 1) (166 + a)) < 0 ∨ 5 < ((I 1) (166 + a))) by omega) with c27 | c27 | c27 | c27 | c27 | c27 | c27
  · refine w_tableIn (pc := 27) (v := 0) (tgt := 64) hC dX12_worth_27 c27 (by decide) rfl (by decide) ?_
    refine w_bipush (pc := 64) hC dX12_worth_64 (z := 10) rfl ?_
    refine w_iload (pc := 66) hC dX12_worth_66 0 rfl ?_
    refine w_imul (pc := 68) hC dX12_worth_68 ?_
    refine w_bipush (pc := 69) hC dX12_worth_69 (z := 9) rfl ?_
    refine w_iadd (pc := 71) hC dX12_worth_71 ?_
    refine w_iload (pc := 72) hC dX12_worth_72 5 rfl ?_
    refine w_isub (pc := 74) hC dX12_worth_74 ?_
    refine w_iret (pc := 75) hC hRT dX12_worth_75 rfl ?_
    refine ⟨retI (by first | rfl | (simp only [WRT]; repeat' split) <;> first | rfl | omega), rfl⟩
  · refine w_tableIn (pc := 27) (v := 1) (tgt := 76) hC dX12_worth_27 c27 (by decide) rfl (by decide) ?_
    refine w_bipush (pc := 76) hC dX12_worth_76 (z := 9) rfl ?_
    refine w_iload (pc := 78) hC dX12_worth_78 5 rfl ?_
    refine w_isub (pc := 80) hC dX12_worth_80 ?_
    refine w_iret (pc := 81) hC hRT dX12_worth_81 rfl ?_
    refine ⟨retI (by first | rfl | (simp only [WRT]; repeat' split) <;> first | rfl | omega), rfl⟩
  · refine w_tableIn (pc := 27) (v := 2) (tgt := 82) hC dX12_worth_27 c27 (by decide) rfl (by decide) ?_
    refine w_iload (pc := 82) hC dX12_worth_82 5 rfl ?_
    refine w_iret (pc := 84) hC hRT dX12_worth_84 rfl ?_
    refine ⟨retI (by first | rfl | (simp only [WRT]; repeat' split) <;> first | rfl | omega), rfl⟩
  · refine w_tableIn (pc := 27) (v := 3) (tgt := 85) hC dX12_worth_27 c27 (by decide) rfl (by decide) ?_
    refine w_iload (pc := 85) hC dX12_worth_85 0 rfl ?_
    refine w_aload_n (pc := 87) hC dX12_worth_87 1 rfl rfl ?_
    refine w_getf (pc := 88) (v := .ref (A 1)) hC dX12_worth_88 fi_X12_9 0 rfl rfl ?_
    refine w_sipush (pc := 91) hC dX12_worth_91 (z := 172) rfl ?_
    refine w_iload_n (pc := 94) hC dX12_worth_94 3 rfl rfl ?_
    refine w_iadd (pc := 95) hC dX12_worth_95 ?_
    refine w_iald (pc := 96) (g := (I 1)) hC dX12_worth_96 1 rfl (by omega) (Nat.le_of_ble_eq_true rfl) ?_
    refine w_icmp_lt (pc := 97) (tgt := 105) hC dX12_worth_97 (by decide) (by omega) (fun c97 => ?_) (fun c97 => ?_)
    · refine w_iconst (pc := 105) hC dX12_worth_105 ?_
      refine w_iret (pc := 106) hC hRT dX12_worth_106 rfl ?_
      refine ⟨retI (by first | rfl | (simp only [WRT]; repeat' split) <;> first | rfl | omega), rfl⟩
    · refine w_iload (pc := 100) hC dX12_worth_100 5 rfl ?_
      refine w_goto (pc := 102) hC dX12_worth_102 (tgt := 106) (by decide) ?_
      refine w_iret (pc := 106) hC hRT dX12_worth_106 rfl ?_
      refine ⟨retI (by first | rfl | (simp only [WRT]; repeat' split) <;> first | rfl | omega), rfl⟩
  · refine w_tableIn (pc := 27) (v := 4) (tgt := 107) hC dX12_worth_27 c27 (by decide) rfl (by decide) ?_
    refine w_bipush (pc := 107) hC dX12_worth_107 (z := 10) rfl ?_
    refine w_iload (pc := 109) hC dX12_worth_109 0 rfl ?_
    refine w_imul (pc := 111) hC dX12_worth_111 ?_
    refine w_aload_n (pc := 112) hC dX12_worth_112 1 rfl rfl ?_
    refine w_getf (pc := 113) (v := .ref (A 1)) hC dX12_worth_113 fi_X12_9 0 rfl rfl ?_
    refine w_sipush (pc := 116) hC dX12_worth_116 (z := 183) rfl ?_
    refine w_iload_n (pc := 119) hC dX12_worth_119 2 rfl rfl ?_
    refine w_iadd (pc := 120) hC dX12_worth_120 ?_
    refine w_iald (pc := 121) (g := (I 1)) hC dX12_worth_121 1 rfl (by omega) (Nat.le_of_ble_eq_true rfl) ?_
    refine w_iconst (pc := 122) hC dX12_worth_122 ?_
    refine w_icmp_ne (pc := 123) (tgt := 130) hC dX12_worth_123 (by decide) (by omega) (fun c123 => ?_) (fun c123 => ?_)
    · refine w_iload (pc := 130) hC dX12_worth_130 5 rfl ?_
      refine w_imul (pc := 132) hC dX12_worth_132 ?_
      refine w_iload (pc := 133) hC dX12_worth_133 5 rfl ?_
      refine w_iadd (pc := 135) hC dX12_worth_135 ?_
      refine w_iret (pc := 136) hC hRT dX12_worth_136 rfl ?_
      refine ⟨retI (by first | rfl | (simp only [WRT]; repeat' split) <;> first | rfl | omega), rfl⟩
    · refine w_iconst (pc := 126) hC dX12_worth_126 ?_
      refine w_goto (pc := 127) hC dX12_worth_127 (tgt := 132) (by decide) ?_
      refine w_imul (pc := 132) hC dX12_worth_132 ?_
      refine w_iload (pc := 133) hC dX12_worth_133 5 rfl ?_
      refine w_iadd (pc := 135) hC dX12_worth_135 ?_
      refine w_iret (pc := 136) hC hRT dX12_worth_136 rfl ?_
      refine ⟨retI (by first | rfl | (simp only [WRT]; repeat' split) <;> first | rfl | omega), rfl⟩
  · refine w_tableIn (pc := 27) (v := 5) (tgt := 137) hC dX12_worth_27 c27 (by decide) rfl (by decide) ?_
    refine w_iload_n (pc := 137) hC dX12_worth_137 4 rfl rfl ?_
    refine w_aload_n (pc := 138) hC dX12_worth_138 1 rfl rfl ?_
    refine w_getf (pc := 139) (v := .ref (A 1)) hC dX12_worth_139 fi_X12_9 0 rfl rfl ?_
    refine w_sipush (pc := 142) hC dX12_worth_142 (z := 172) rfl ?_
    refine w_iload_n (pc := 145) hC dX12_worth_145 3 rfl rfl ?_
    refine w_iadd (pc := 146) hC dX12_worth_146 ?_
    refine w_iald (pc := 147) (g := (I 1)) hC dX12_worth_147 1 rfl (by omega) (Nat.le_of_ble_eq_true rfl) ?_
    refine w_icmp_ne (pc := 148) (tgt := 155) hC dX12_worth_148 (by decide) (by omega) (fun c148 => ?_) (fun c148 => ?_)
    · refine w_iconst (pc := 155) hC dX12_worth_155 ?_
      refine w_iret (pc := 156) hC hRT dX12_worth_156 rfl ?_
      refine ⟨retI (by first | rfl | (simp only [WRT]; repeat' split) <;> first | rfl | omega), rfl⟩
    · refine w_iconst (pc := 151) hC dX12_worth_151 ?_
      refine w_goto (pc := 152) hC dX12_worth_152 (tgt := 156) (by decide) ?_
      refine w_iret (pc := 156) hC hRT dX12_worth_156 rfl ?_
      refine ⟨retI (by first | rfl | (simp only [WRT]; repeat' split) <;> first | rfl | omega), rfl⟩
  · refine w_tableOut (pc := 27) (tgt := 157) hC dX12_worth_27 (by omega) c27 (by decide) ?_
    refine w_iconst (pc := 157) hC dX12_worth_157 ?_
    refine w_iret (pc := 158) hC hRT dX12_worth_158 rfl ?_
    refine ⟨retI (by first | rfl | (simp only [WRT]; repeat' split) <;> first | rfl | omega), rfl⟩
set_option maxRecDepth 100000 in
set_option maxHeartbeats 4000000 in
theorem c_X12_asked (l : Launch) (G : GT) (A : Nat → Nat) (I : Nat → Int → Int) (F : Nat → Int)  (c : Int) (board : Int) (a : Int) (day : Int) (hR : RI (I 1)) (hc : 0 ≤ c ∧ c < (I 1) 1) (hV : VB ((I 1) 0) board) (ha : 0 ≤ a ∧ a < (I 1) 0) (hd : 0 ≤ day ∧ day ≤ 2000) (hf : -1 ≤ (F 11) ∧ (F 11) ≤ 5) : CT l yX12_asked cX12_asked 12 (some .int) 3 0 0 G [.ref (A 0), .int (J c), .int (J board), .int (J a), .int (J day)] (MW A G.2.1 I F) (fun vo wo => ∃ (b3 : Int → Int) (b4 : Int → Int), vo = some (.int (J (ASK (I 1) c (F 11) board a day))) ∧ wo = MW A G.2.1 (au (au I 3 b3) 4 b4) F) := by
  refine CT_of (own := RX12) rfl rfl (Nat.le_of_ble_eq_true rfl) (fun K hl hnL hC hRT hin => ?_)
  subst hl
  show WW K G 0 0 (MW A G.2.1 I F) 0 [(0, .ref (A 0)), (1, .int (J c)), (2, .int (J board)), (3, .int (J a)), (4, .int (J day))] []
  have hn := hR.n
  have hcl := hR.cl
  have hbr := VB_rng hV
  have hk := rk_spec hV ha.1 ha.2
  refine w_aload_n (pc := 0) hC dX12_asked_0 0 rfl rfl ?_
  refine w_iload_n (pc := 1) hC dX12_asked_1 1 rfl rfl ?_
  refine w_iload_n (pc := 2) hC dX12_asked_2 2 rfl rfl ?_
  refine w_iload_n (pc := 3) hC dX12_asked_3 3 rfl rfl ?_
  refine w_iload (pc := 4) hC dX12_asked_4 4 rfl ?_
  refine w_callV (pc := 6) (As := [.int (J c), .int (J board), .int (J a), .int (J day)]) (rest := []) hC dX12_asked_6 cv_X12_162 (c_X12_mayAll (kl K) G A I F c board a day (show RI (I 1) from by first | assumption | omega) (show 0 ≤ c ∧ c < (I 1) 1 from by first | assumption | omega) (show VB ((I 1) 0) board from by first | assumption | omega) (show 0 ≤ a ∧ a < (I 1) 0 from by first | assumption | omega) (show 0 ≤ day ∧ day ≤ 2000 from by first | assumption | omega) (show -1 ≤ (F 11) ∧ (F 11) ≤ 5 from by first | assumption | omega)) (by decide) ⟨Nat.le_of_ble_eq_true rfl, Nat.le_of_ble_eq_true rfl⟩ (q0 := 0) rfl rfl rfl rfl (Nat.le_of_ble_eq_true rfl) rfl (fun vo wo hv => ?_)
  obtain ⟨b3_6, b4_6, hv1, hw1⟩ := hv
  rw [hv1, hw1]
  show WW K G 0 0 (MW A G.2.1 (au (au I 3 b3_6) 4 b4_6) F) 9 [(0, .ref (A 0)), (1, .int (J c)), (2, .int (J board)), (3, .int (J a)), (4, .int (J day))] [.int (J (MSK (I 1) c (F 11) board a day))]
  have q6_0 := @MSK_bd (I 1) c (F 11) board a day (by assumption) (by omega)
  refine w_istore (pc := 9) hC dX12_asked_9 (lv2 := [(5, .int (J (MSK (I 1) c (F 11) board a day))), (0, .ref (A 0)), (1, .int (J c)), (2, .int (J board)), (3, .int (J a)), (4, .int (J day))]) (by rw [hnL]; decide) rfl ?_
  refine w_aload_n (pc := 11) hC dX12_asked_11 1 rfl rfl ?_
  refine w_iload_n (pc := 12) hC dX12_asked_12 3 rfl rfl ?_
  refine w_iload_n (pc := 13) hC dX12_asked_13 4 rfl rfl ?_
  refine w_callV (pc := 14) (As := [.int (J board), .int (J a)]) (rest := []) hC dX12_asked_14 cv_X12_68 (c_X12_rungOf (kl K) G A (au (au I 3 b3_6) 4 b4_6) F ((I 1) 0) board a (show VB ((I 1) 0) board from by first | assumption | omega) (show 0 ≤ a ∧ a < ((I 1) 0) from by first | assumption | omega)) (by decide) ⟨Nat.le_of_ble_eq_true rfl, Nat.le_of_ble_eq_true rfl⟩ (q0 := 0) rfl rfl rfl rfl (Nat.le_of_ble_eq_true rfl) rfl (fun vo wo hv => ?_)
  obtain ⟨hv1, hw1⟩ := hv
  rw [hv1, hw1]
  show WW K G 0 0 (MW A G.2.1 (au (au I 3 b3_6) 4 b4_6) F) 17 [(5, .int (J (MSK (I 1) c (F 11) board a day))), (0, .ref (A 0)), (1, .int (J c)), (2, .int (J board)), (3, .int (J a)), (4, .int (J day))] [.int (J (rk ((I 1) 0) board a))]
  have q14_0 := (@rk_spec ((I 1) 0) board a (by assumption) (by omega) (by omega)).1
  refine w_istore (pc := 17) hC dX12_asked_17 (lv2 := [(6, .int (J (rk ((I 1) 0) board a))), (5, .int (J (MSK (I 1) c (F 11) board a day))), (0, .ref (A 0)), (1, .int (J c)), (2, .int (J board)), (3, .int (J a)), (4, .int (J day))]) (by rw [hnL]; decide) rfl ?_
  refine w_bipush (pc := 19) hC dX12_asked_19 (z := (-5)) rfl ?_
  refine w_istore (pc := 21) hC dX12_asked_21 (lv2 := [(7, .int (J (-5))), (6, .int (J (rk ((I 1) 0) board a))), (5, .int (J (MSK (I 1) c (F 11) board a day))), (0, .ref (A 0)), (1, .int (J c)), (2, .int (J board)), (3, .int (J a)), (4, .int (J day))]) (by rw [hnL]; decide) rfl ?_
  refine w_iconst (pc := 23) hC dX12_asked_23 ?_
  refine w_istore (pc := 24) hC dX12_asked_24 (lv2 := [(8, .int (J (-1))), (7, .int (J (-5))), (6, .int (J (rk ((I 1) 0) board a))), (5, .int (J (MSK (I 1) c (F 11) board a day))), (0, .ref (A 0)), (1, .int (J c)), (2, .int (J board)), (3, .int (J a)), (4, .int (J day))]) (by rw [hnL]; decide) rfl ?_
  refine w_iconst (pc := 26) hC dX12_asked_26 ?_
  refine w_istore (pc := 27) hC dX12_asked_27 (lv2 := [(9, .int (J 1)), (8, .int (J (-1))), (7, .int (J (-5))), (6, .int (J (rk ((I 1) 0) board a))), (5, .int (J (MSK (I 1) c (F 11) board a day))), (0, .ref (A 0)), (1, .int (J c)), (2, .int (J board)), (3, .int (J a)), (4, .int (J day))]) (by rw [hnL]; decide) rfl ?_
  have loop29 : ∀ (nF : Nat) (best : Int) (most : Int) (u : Int), (1 ≤ u ∧ u - 1 ≤ rk ((I 1) 0) board a) → (best = (askF (I 1) c (F 11) board a (rk ((I 1) 0) board a) day (u - 1).toNat).1) → (most = (askF (I 1) c (F 11) board a (rk ((I 1) 0) board a) day (u - 1).toNat).2) → ((-5 ≤ best ∧ best ≤ 5) ∧ -1 ≤ most ∧ most ≤ 6100) → (rk ((I 1) 0) board a + 1 - u) < (nF : Int) → WW K G 0 0 (MW A G.2.1 (au (au I 3 b3_6) 4 b4_6) F) 29 [(0, .ref (A 0)), (1, .int (J c)), (2, .int (J board)), (3, .int (J a)), (5, .int (J (MSK (I 1) c (F 11) board a day))), (6, .int (J (rk ((I 1) 0) board a))), (7, .int (J best)), (8, .int (J most)), (9, .int (J u))] [] := by
    intro nF
    induction nF with
    | zero => intro best most u i1 i2 i3 i4 hm29; exact absurd hm29 (by omega)
    | succ nF ih29 =>
      intro best most u i1 i2 i3 i4 hm29
      refine w_iload (pc := 29) hC dX12_asked_29 8 rfl ?_
      refine w_iload (pc := 31) hC dX12_asked_31 5 rfl ?_
      refine w_icmp_gt (pc := 33) (tgt := 112) hC dX12_asked_33 (by decide) (by omega) (fun c33 => ?_) (fun c33 => ?_)
      · refine w_iload (pc := 112) hC dX12_asked_112 6 rfl ?_
        refine w_iret (pc := 114) hC hRT dX12_asked_114 rfl ?_
        refine ⟨b3_6, b4_6, retI (by rw [i2, show (u - 1).toNat = (rk (I 1 0) board a).toNat by omega]; rfl), rfl⟩
      · have hdu := VB_dg hV (r := rk (I 1 0) board a - u) (by omega) (by omega)
        have hwb := wv_bd (c := c) (rf := F 11) (day := day) hR hV ha (u := u) (by omega)
        have hbt := MSK_bt (c := c) (rf := F 11) (day := day) hV ha (u := u) (by omega)
        refine w_iload_n (pc := 36) hC dX12_asked_36 2 rfl rfl ?_
        refine w_iload (pc := 37) hC dX12_asked_37 5 rfl ?_
        refine w_iload (pc := 39) hC dX12_asked_39 8 rfl ?_
        refine w_isub (pc := 41) hC dX12_asked_41 ?_
        refine w_callS (pc := 42) (As := [.int (J board), .int (J ((rk ((I 1) 0) board a) - u))]) (rest := []) hC dX12_asked_42 cs_X12_52 (c_X12_nameOn (kl K) G (MW A G.2.1 (au (au I 3 b3_6) 4 b4_6) F) board ((rk ((I 1) 0) board a) - u) (show -2147483648 ≤ board ∧ board < 2147483648 from by first | assumption | omega) (show 0 ≤ ((rk ((I 1) 0) board a) - u) ∧ ((rk ((I 1) 0) board a) - u) ≤ 10 from by first | assumption | omega)) (by decide) ⟨Nat.le_of_ble_eq_true rfl, Nat.le_of_ble_eq_true rfl⟩ rfl (Nat.le_of_ble_eq_true rfl) rfl (fun vo wo hv => ?_)
        obtain ⟨hv1, hw1⟩ := hv
        rw [hv1, hw1]
        show WW K G 0 0 (MW A G.2.1 (au (au I 3 b3_6) 4 b4_6) F) 45 [(0, .ref (A 0)), (1, .int (J c)), (2, .int (J board)), (3, .int (J a)), (5, .int (J (MSK (I 1) c (F 11) board a day))), (6, .int (J (rk ((I 1) 0) board a))), (7, .int (J best)), (8, .int (J most)), (9, .int (J u))] [.int (J (dg board ((rk ((I 1) 0) board a) - u)))]
        have q42_0 := dg_bd board ((rk ((I 1) 0) board a) - u)
        refine w_istore (pc := 45) hC dX12_asked_45 (lv2 := [(10, .int (J (dg board ((rk ((I 1) 0) board a) - u)))), (0, .ref (A 0)), (1, .int (J c)), (2, .int (J board)), (3, .int (J a)), (5, .int (J (MSK (I 1) c (F 11) board a day))), (6, .int (J (rk ((I 1) 0) board a))), (7, .int (J best)), (8, .int (J most)), (9, .int (J u))]) (by rw [hnL]; decide) rfl ?_
        refine w_iload (pc := 47) hC dX12_asked_47 5 rfl ?_
        refine w_iload (pc := 49) hC dX12_asked_49 0 rfl ?_
        refine w_ishr (pc := 51) hC dX12_asked_51 (by omega) ?_
        refine w_iconst (pc := 52) hC dX12_asked_52 ?_
        refine w_iand (pc := 53) hC dX12_asked_53 (v := ((MSK (I 1) c (F 11) board a day) / 2 ^ (dg board ((rk ((I 1) 0) board a) - u)).toNat) % 2) (J_and1 _) ?_
        refine w_iconst (pc := 54) hC dX12_asked_54 ?_
        refine w_icmp_ne (pc := 55) (tgt := 71) hC dX12_asked_55 (by decide) (by omega) (fun c55 => ?_) (fun c55 => ?_)
        · refine w_iconst (pc := 71) hC dX12_asked_71 ?_
          refine w_istore (pc := 72) hC dX12_asked_72 (lv2 := [(11, .int (J (-1))), (10, .int (J (dg board ((rk ((I 1) 0) board a) - u)))), (0, .ref (A 0)), (1, .int (J c)), (2, .int (J board)), (3, .int (J a)), (5, .int (J (MSK (I 1) c (F 11) board a day))), (6, .int (J (rk ((I 1) 0) board a))), (7, .int (J best)), (8, .int (J most)), (9, .int (J u))]) (by rw [hnL]; decide) rfl ?_
          have hv : (-1) = wv (I 1) c (F 11) board a (rk ((I 1) 0) board a) day u := by
            unfold wv
            first | rw [if_pos (hbt.mp c55)] | rw [if_neg (fun h => c55 (hbt.mpr h))]
          refine w_iload (pc := 74) hC dX12_asked_74 0 rfl ?_
          refine w_iload (pc := 76) hC dX12_asked_76 9 rfl ?_
          refine w_icmp_le (pc := 78) (tgt := 86) hC dX12_asked_78 (by decide) (by omega) (fun c78 => ?_) (fun c78 => ?_)
          · refine w_iload (pc := 86) hC dX12_asked_86 8 rfl ?_
            refine w_istore (pc := 88) hC dX12_asked_88 (lv2 := [(7, .int (J best)), (11, .int (J (-1))), (10, .int (J (dg board ((rk ((I 1) 0) board a) - u)))), (0, .ref (A 0)), (1, .int (J c)), (2, .int (J board)), (3, .int (J a)), (5, .int (J (MSK (I 1) c (F 11) board a day))), (6, .int (J (rk ((I 1) 0) board a))), (8, .int (J most)), (9, .int (J u))]) (by rw [hnL]; decide) rfl ?_
            refine w_iload (pc := 90) hC dX12_asked_90 1 rfl ?_
            refine w_iload (pc := 92) hC dX12_asked_92 9 rfl ?_
            refine w_icmp_le (pc := 94) (tgt := 102) hC dX12_asked_94 (by decide) (by omega) (fun c94 => ?_) (fun c94 => ?_)
            · refine w_iload (pc := 102) hC dX12_asked_102 9 rfl ?_
              refine w_istore (pc := 104) hC dX12_asked_104 (lv2 := [(8, .int (J most)), (7, .int (J best)), (11, .int (J (-1))), (10, .int (J (dg board ((rk ((I 1) 0) board a) - u)))), (0, .ref (A 0)), (1, .int (J c)), (2, .int (J board)), (3, .int (J a)), (5, .int (J (MSK (I 1) c (F 11) board a day))), (6, .int (J (rk ((I 1) 0) board a))), (9, .int (J u))]) (by rw [hnL]; decide) rfl ?_
              refine w_iinc (pc := 106) hC dX12_asked_106 (lv2 := [(9, .int (J (u + 1))), (8, .int (J most)), (7, .int (J best)), (11, .int (J (-1))), (10, .int (J (dg board ((rk ((I 1) 0) board a) - u)))), (0, .ref (A 0)), (1, .int (J c)), (2, .int (J board)), (3, .int (J a)), (5, .int (J (MSK (I 1) c (F 11) board a day))), (6, .int (J (rk ((I 1) 0) board a)))]) 10 rfl (by rw [hnL]; decide) rfl ?_
              refine w_goto (pc := 109) hC dX12_asked_109 (tgt := 29) (by decide) ?_
              refine w_sub [5, 6, 7, 8, 9, 10, 2, 1, 0] (lv2 := [(0, .ref (A 0)), (1, .int (J c)), (2, .int (J board)), (3, .int (J a)), (5, .int (J (MSK (I 1) c (F 11) board a day))), (6, .int (J (rk ((I 1) 0) board a))), (7, .int (J best)), (8, .int (J most)), (9, .int (J (u + 1)))]) rfl ?_
              refine ih29 best most (u + 1) ?_ ?_ ?_ ?_ ?_
              · first | assumption | omega
              · first | (exfalso; omega) | (rw [show u + 1 - 1 = u by omega, askF_s _ _ _ _ _ _ _ i1.1, ← i3, ← i2, ← hv]; dsimp only; first | rw [if_pos (by omega)] | rw [if_neg (by omega)])
              · first | (exfalso; omega) | (rw [show u + 1 - 1 = u by omega, askF_s _ _ _ _ _ _ _ i1.1, ← i3, ← i2, ← hv]; dsimp only; first | rw [if_pos (by omega)] | rw [if_neg (by omega)])
              · first | assumption | omega
              · omega
            · refine w_iload (pc := 97) hC dX12_asked_97 1 rfl ?_
              refine w_goto (pc := 99) hC dX12_asked_99 (tgt := 104) (by decide) ?_
              refine w_istore (pc := 104) hC dX12_asked_104 (lv2 := [(8, .int (J (-1))), (7, .int (J best)), (11, .int (J (-1))), (10, .int (J (dg board ((rk ((I 1) 0) board a) - u)))), (0, .ref (A 0)), (1, .int (J c)), (2, .int (J board)), (3, .int (J a)), (5, .int (J (MSK (I 1) c (F 11) board a day))), (6, .int (J (rk ((I 1) 0) board a))), (9, .int (J u))]) (by rw [hnL]; decide) rfl ?_
              refine w_iinc (pc := 106) hC dX12_asked_106 (lv2 := [(9, .int (J (u + 1))), (8, .int (J (-1))), (7, .int (J best)), (11, .int (J (-1))), (10, .int (J (dg board ((rk ((I 1) 0) board a) - u)))), (0, .ref (A 0)), (1, .int (J c)), (2, .int (J board)), (3, .int (J a)), (5, .int (J (MSK (I 1) c (F 11) board a day))), (6, .int (J (rk ((I 1) 0) board a)))]) 10 rfl (by rw [hnL]; decide) rfl ?_
              refine w_goto (pc := 109) hC dX12_asked_109 (tgt := 29) (by decide) ?_
              refine w_sub [5, 6, 7, 8, 9, 10, 2, 1, 0] (lv2 := [(0, .ref (A 0)), (1, .int (J c)), (2, .int (J board)), (3, .int (J a)), (5, .int (J (MSK (I 1) c (F 11) board a day))), (6, .int (J (rk ((I 1) 0) board a))), (7, .int (J best)), (8, .int (J (-1))), (9, .int (J (u + 1)))]) rfl ?_
              refine ih29 best (-1) (u + 1) ?_ ?_ ?_ ?_ ?_
              · first | assumption | omega
              · first | (exfalso; omega) | (rw [show u + 1 - 1 = u by omega, askF_s _ _ _ _ _ _ _ i1.1, ← i3, ← i2, ← hv]; dsimp only; first | rw [if_pos (by omega)] | rw [if_neg (by omega)])
              · first | (exfalso; omega) | (rw [show u + 1 - 1 = u by omega, askF_s _ _ _ _ _ _ _ i1.1, ← i3, ← i2, ← hv]; dsimp only; first | rw [if_pos (by omega)] | rw [if_neg (by omega)])
              · first | assumption | omega
              · omega
          · refine w_iload (pc := 81) hC dX12_asked_81 1 rfl ?_
            refine w_goto (pc := 83) hC dX12_asked_83 (tgt := 88) (by decide) ?_
            refine w_istore (pc := 88) hC dX12_asked_88 (lv2 := [(7, .int (J (dg board ((rk ((I 1) 0) board a) - u)))), (11, .int (J (-1))), (10, .int (J (dg board ((rk ((I 1) 0) board a) - u)))), (0, .ref (A 0)), (1, .int (J c)), (2, .int (J board)), (3, .int (J a)), (5, .int (J (MSK (I 1) c (F 11) board a day))), (6, .int (J (rk ((I 1) 0) board a))), (8, .int (J most)), (9, .int (J u))]) (by rw [hnL]; decide) rfl ?_
            refine w_iload (pc := 90) hC dX12_asked_90 1 rfl ?_
            refine w_iload (pc := 92) hC dX12_asked_92 9 rfl ?_
            refine w_icmp_le (pc := 94) (tgt := 102) hC dX12_asked_94 (by decide) (by omega) (fun c94 => ?_) (fun c94 => ?_)
            · refine w_iload (pc := 102) hC dX12_asked_102 9 rfl ?_
              refine w_istore (pc := 104) hC dX12_asked_104 (lv2 := [(8, .int (J most)), (7, .int (J (dg board ((rk ((I 1) 0) board a) - u)))), (11, .int (J (-1))), (10, .int (J (dg board ((rk ((I 1) 0) board a) - u)))), (0, .ref (A 0)), (1, .int (J c)), (2, .int (J board)), (3, .int (J a)), (5, .int (J (MSK (I 1) c (F 11) board a day))), (6, .int (J (rk ((I 1) 0) board a))), (9, .int (J u))]) (by rw [hnL]; decide) rfl ?_
              refine w_iinc (pc := 106) hC dX12_asked_106 (lv2 := [(9, .int (J (u + 1))), (8, .int (J most)), (7, .int (J (dg board ((rk ((I 1) 0) board a) - u)))), (11, .int (J (-1))), (10, .int (J (dg board ((rk ((I 1) 0) board a) - u)))), (0, .ref (A 0)), (1, .int (J c)), (2, .int (J board)), (3, .int (J a)), (5, .int (J (MSK (I 1) c (F 11) board a day))), (6, .int (J (rk ((I 1) 0) board a)))]) 10 rfl (by rw [hnL]; decide) rfl ?_
              refine w_goto (pc := 109) hC dX12_asked_109 (tgt := 29) (by decide) ?_
              refine w_sub [5, 6, 7, 8, 9, 10, 2, 1, 0] (lv2 := [(0, .ref (A 0)), (1, .int (J c)), (2, .int (J board)), (3, .int (J a)), (5, .int (J (MSK (I 1) c (F 11) board a day))), (6, .int (J (rk ((I 1) 0) board a))), (7, .int (J (dg board ((rk ((I 1) 0) board a) - u)))), (8, .int (J most)), (9, .int (J (u + 1)))]) rfl ?_
              refine ih29 (dg board ((rk ((I 1) 0) board a) - u)) most (u + 1) ?_ ?_ ?_ ?_ ?_
              · first | assumption | omega
              · first | (exfalso; omega) | (rw [show u + 1 - 1 = u by omega, askF_s _ _ _ _ _ _ _ i1.1, ← i3, ← i2, ← hv]; dsimp only; first | rw [if_pos (by omega)] | rw [if_neg (by omega)])
              · first | (exfalso; omega) | (rw [show u + 1 - 1 = u by omega, askF_s _ _ _ _ _ _ _ i1.1, ← i3, ← i2, ← hv]; dsimp only; first | rw [if_pos (by omega)] | rw [if_neg (by omega)])
              · first | assumption | omega
              · omega
            · refine w_iload (pc := 97) hC dX12_asked_97 1 rfl ?_
              refine w_goto (pc := 99) hC dX12_asked_99 (tgt := 104) (by decide) ?_
              refine w_istore (pc := 104) hC dX12_asked_104 (lv2 := [(8, .int (J (-1))), (7, .int (J (dg board ((rk ((I 1) 0) board a) - u)))), (11, .int (J (-1))), (10, .int (J (dg board ((rk ((I 1) 0) board a) - u)))), (0, .ref (A 0)), (1, .int (J c)), (2, .int (J board)), (3, .int (J a)), (5, .int (J (MSK (I 1) c (F 11) board a day))), (6, .int (J (rk ((I 1) 0) board a))), (9, .int (J u))]) (by rw [hnL]; decide) rfl ?_
              refine w_iinc (pc := 106) hC dX12_asked_106 (lv2 := [(9, .int (J (u + 1))), (8, .int (J (-1))), (7, .int (J (dg board ((rk ((I 1) 0) board a) - u)))), (11, .int (J (-1))), (10, .int (J (dg board ((rk ((I 1) 0) board a) - u)))), (0, .ref (A 0)), (1, .int (J c)), (2, .int (J board)), (3, .int (J a)), (5, .int (J (MSK (I 1) c (F 11) board a day))), (6, .int (J (rk ((I 1) 0) board a)))]) 10 rfl (by rw [hnL]; decide) rfl ?_
              refine w_goto (pc := 109) hC dX12_asked_109 (tgt := 29) (by decide) ?_
              refine w_sub [5, 6, 7, 8, 9, 10, 2, 1, 0] (lv2 := [(0, .ref (A 0)), (1, .int (J c)), (2, .int (J board)), (3, .int (J a)), (5, .int (J (MSK (I 1) c (F 11) board a day))), (6, .int (J (rk ((I 1) 0) board a))), (7, .int (J (dg board ((rk ((I 1) 0) board a) - u)))), (8, .int (J (-1))), (9, .int (J (u + 1)))]) rfl ?_
              refine ih29 (dg board ((rk ((I 1) 0) board a) - u)) (-1) (u + 1) ?_ ?_ ?_ ?_ ?_
              · first | assumption | omega
              · first | (exfalso; omega) | (rw [show u + 1 - 1 = u by omega, askF_s _ _ _ _ _ _ _ i1.1, ← i3, ← i2, ← hv]; dsimp only; first | rw [if_pos (by omega)] | rw [if_neg (by omega)])
              · first | (exfalso; omega) | (rw [show u + 1 - 1 = u by omega, askF_s _ _ _ _ _ _ _ i1.1, ← i3, ← i2, ← hv]; dsimp only; first | rw [if_pos (by omega)] | rw [if_neg (by omega)])
              · first | assumption | omega
              · omega
        · refine w_aload_n (pc := 58) hC dX12_asked_58 1 rfl rfl ?_
          refine w_iload_n (pc := 59) hC dX12_asked_59 2 rfl rfl ?_
          refine w_iload_n (pc := 60) hC dX12_asked_60 4 rfl rfl ?_
          refine w_iload (pc := 61) hC dX12_asked_61 0 rfl ?_
          refine w_iload (pc := 63) hC dX12_asked_63 9 rfl ?_
          refine w_callV (pc := 65) (As := [.int (J c), .int (J a), .int (J (dg board ((rk ((I 1) 0) board a) - u))), .int (J u)]) (rest := []) hC dX12_asked_65 cv_X12_166 (c_X12_worth (kl K) G A (au (au I 3 b3_6) 4 b4_6) F c a (dg board ((rk ((I 1) 0) board a) - u)) u (show RI (I 1) from by first | assumption | omega) (show 0 ≤ c ∧ c < (I 1) 1 from by first | assumption | omega) (show 0 ≤ a ∧ a < (I 1) 0 from by first | assumption | omega) (show 0 ≤ (dg board ((rk ((I 1) 0) board a) - u)) ∧ (dg board ((rk ((I 1) 0) board a) - u)) < (I 1) 0 from by first | assumption | omega) (show 1 ≤ u ∧ u ≤ 5 from by first | assumption | omega)) (by decide) ⟨Nat.le_of_ble_eq_true rfl, Nat.le_of_ble_eq_true rfl⟩ (q0 := 0) rfl rfl rfl rfl (Nat.le_of_ble_eq_true rfl) rfl (fun vo wo hv => ?_)
          obtain ⟨hv1, hw1⟩ := hv
          rw [hv1, hw1]
          show WW K G 0 0 (MW A G.2.1 (au (au I 3 b3_6) 4 b4_6) F) 68 [(10, .int (J (dg board ((rk ((I 1) 0) board a) - u)))), (0, .ref (A 0)), (1, .int (J c)), (2, .int (J board)), (3, .int (J a)), (5, .int (J (MSK (I 1) c (F 11) board a day))), (6, .int (J (rk ((I 1) 0) board a))), (7, .int (J best)), (8, .int (J most)), (9, .int (J u))] [.int (J (WRT (I 1) c a (dg board ((rk ((I 1) 0) board a) - u)) u))]
          refine w_goto (pc := 68) hC dX12_asked_68 (tgt := 72) (by decide) ?_
          refine w_istore (pc := 72) hC dX12_asked_72 (lv2 := [(11, .int (J (WRT (I 1) c a (dg board ((rk ((I 1) 0) board a) - u)) u))), (10, .int (J (dg board ((rk ((I 1) 0) board a) - u)))), (0, .ref (A 0)), (1, .int (J c)), (2, .int (J board)), (3, .int (J a)), (5, .int (J (MSK (I 1) c (F 11) board a day))), (6, .int (J (rk ((I 1) 0) board a))), (7, .int (J best)), (8, .int (J most)), (9, .int (J u))]) (by rw [hnL]; decide) rfl ?_
          have hv : (WRT (I 1) c a (dg board ((rk ((I 1) 0) board a) - u)) u) = wv (I 1) c (F 11) board a (rk ((I 1) 0) board a) day u := by
            unfold wv
            first | rw [if_pos (hbt.mp c55)] | rw [if_neg (fun h => c55 (hbt.mpr h))]
          refine w_iload (pc := 74) hC dX12_asked_74 0 rfl ?_
          refine w_iload (pc := 76) hC dX12_asked_76 9 rfl ?_
          refine w_icmp_le (pc := 78) (tgt := 86) hC dX12_asked_78 (by decide) (by omega) (fun c78 => ?_) (fun c78 => ?_)
          · refine w_iload (pc := 86) hC dX12_asked_86 8 rfl ?_
            refine w_istore (pc := 88) hC dX12_asked_88 (lv2 := [(7, .int (J best)), (11, .int (J (WRT (I 1) c a (dg board ((rk ((I 1) 0) board a) - u)) u))), (10, .int (J (dg board ((rk ((I 1) 0) board a) - u)))), (0, .ref (A 0)), (1, .int (J c)), (2, .int (J board)), (3, .int (J a)), (5, .int (J (MSK (I 1) c (F 11) board a day))), (6, .int (J (rk ((I 1) 0) board a))), (8, .int (J most)), (9, .int (J u))]) (by rw [hnL]; decide) rfl ?_
            refine w_iload (pc := 90) hC dX12_asked_90 1 rfl ?_
            refine w_iload (pc := 92) hC dX12_asked_92 9 rfl ?_
            refine w_icmp_le (pc := 94) (tgt := 102) hC dX12_asked_94 (by decide) (by omega) (fun c94 => ?_) (fun c94 => ?_)
            · refine w_iload (pc := 102) hC dX12_asked_102 9 rfl ?_
              refine w_istore (pc := 104) hC dX12_asked_104 (lv2 := [(8, .int (J most)), (7, .int (J best)), (11, .int (J (WRT (I 1) c a (dg board ((rk ((I 1) 0) board a) - u)) u))), (10, .int (J (dg board ((rk ((I 1) 0) board a) - u)))), (0, .ref (A 0)), (1, .int (J c)), (2, .int (J board)), (3, .int (J a)), (5, .int (J (MSK (I 1) c (F 11) board a day))), (6, .int (J (rk ((I 1) 0) board a))), (9, .int (J u))]) (by rw [hnL]; decide) rfl ?_
              refine w_iinc (pc := 106) hC dX12_asked_106 (lv2 := [(9, .int (J (u + 1))), (8, .int (J most)), (7, .int (J best)), (11, .int (J (WRT (I 1) c a (dg board ((rk ((I 1) 0) board a) - u)) u))), (10, .int (J (dg board ((rk ((I 1) 0) board a) - u)))), (0, .ref (A 0)), (1, .int (J c)), (2, .int (J board)), (3, .int (J a)), (5, .int (J (MSK (I 1) c (F 11) board a day))), (6, .int (J (rk ((I 1) 0) board a)))]) 10 rfl (by rw [hnL]; decide) rfl ?_
              refine w_goto (pc := 109) hC dX12_asked_109 (tgt := 29) (by decide) ?_
              refine w_sub [5, 6, 7, 8, 9, 10, 2, 1, 0] (lv2 := [(0, .ref (A 0)), (1, .int (J c)), (2, .int (J board)), (3, .int (J a)), (5, .int (J (MSK (I 1) c (F 11) board a day))), (6, .int (J (rk ((I 1) 0) board a))), (7, .int (J best)), (8, .int (J most)), (9, .int (J (u + 1)))]) rfl ?_
              refine ih29 best most (u + 1) ?_ ?_ ?_ ?_ ?_
              · first | assumption | omega
              · first | (exfalso; omega) | (rw [show u + 1 - 1 = u by omega, askF_s _ _ _ _ _ _ _ i1.1, ← i3, ← i2, ← hv]; dsimp only; first | rw [if_pos (by omega)] | rw [if_neg (by omega)])
              · first | (exfalso; omega) | (rw [show u + 1 - 1 = u by omega, askF_s _ _ _ _ _ _ _ i1.1, ← i3, ← i2, ← hv]; dsimp only; first | rw [if_pos (by omega)] | rw [if_neg (by omega)])
              · first | assumption | omega
              · omega
            · refine w_iload (pc := 97) hC dX12_asked_97 1 rfl ?_
              refine w_goto (pc := 99) hC dX12_asked_99 (tgt := 104) (by decide) ?_
              refine w_istore (pc := 104) hC dX12_asked_104 (lv2 := [(8, .int (J (WRT (I 1) c a (dg board ((rk ((I 1) 0) board a) - u)) u))), (7, .int (J best)), (11, .int (J (WRT (I 1) c a (dg board ((rk ((I 1) 0) board a) - u)) u))), (10, .int (J (dg board ((rk ((I 1) 0) board a) - u)))), (0, .ref (A 0)), (1, .int (J c)), (2, .int (J board)), (3, .int (J a)), (5, .int (J (MSK (I 1) c (F 11) board a day))), (6, .int (J (rk ((I 1) 0) board a))), (9, .int (J u))]) (by rw [hnL]; decide) rfl ?_
              refine w_iinc (pc := 106) hC dX12_asked_106 (lv2 := [(9, .int (J (u + 1))), (8, .int (J (WRT (I 1) c a (dg board ((rk ((I 1) 0) board a) - u)) u))), (7, .int (J best)), (11, .int (J (WRT (I 1) c a (dg board ((rk ((I 1) 0) board a) - u)) u))), (10, .int (J (dg board ((rk ((I 1) 0) board a) - u)))), (0, .ref (A 0)), (1, .int (J c)), (2, .int (J board)), (3, .int (J a)), (5, .int (J (MSK (I 1) c (F 11) board a day))), (6, .int (J (rk ((I 1) 0) board a)))]) 10 rfl (by rw [hnL]; decide) rfl ?_
              refine w_goto (pc := 109) hC dX12_asked_109 (tgt := 29) (by decide) ?_
              refine w_sub [5, 6, 7, 8, 9, 10, 2, 1, 0] (lv2 := [(0, .ref (A 0)), (1, .int (J c)), (2, .int (J board)), (3, .int (J a)), (5, .int (J (MSK (I 1) c (F 11) board a day))), (6, .int (J (rk ((I 1) 0) board a))), (7, .int (J best)), (8, .int (J (WRT (I 1) c a (dg board ((rk ((I 1) 0) board a) - u)) u))), (9, .int (J (u + 1)))]) rfl ?_
              refine ih29 best (WRT (I 1) c a (dg board ((rk ((I 1) 0) board a) - u)) u) (u + 1) ?_ ?_ ?_ ?_ ?_
              · first | assumption | omega
              · first | (exfalso; omega) | (rw [show u + 1 - 1 = u by omega, askF_s _ _ _ _ _ _ _ i1.1, ← i3, ← i2, ← hv]; dsimp only; first | rw [if_pos (by omega)] | rw [if_neg (by omega)])
              · first | (exfalso; omega) | (rw [show u + 1 - 1 = u by omega, askF_s _ _ _ _ _ _ _ i1.1, ← i3, ← i2, ← hv]; dsimp only; first | rw [if_pos (by omega)] | rw [if_neg (by omega)])
              · first | assumption | omega
              · omega
          · refine w_iload (pc := 81) hC dX12_asked_81 1 rfl ?_
            refine w_goto (pc := 83) hC dX12_asked_83 (tgt := 88) (by decide) ?_
            refine w_istore (pc := 88) hC dX12_asked_88 (lv2 := [(7, .int (J (dg board ((rk ((I 1) 0) board a) - u)))), (11, .int (J (WRT (I 1) c a (dg board ((rk ((I 1) 0) board a) - u)) u))), (10, .int (J (dg board ((rk ((I 1) 0) board a) - u)))), (0, .ref (A 0)), (1, .int (J c)), (2, .int (J board)), (3, .int (J a)), (5, .int (J (MSK (I 1) c (F 11) board a day))), (6, .int (J (rk ((I 1) 0) board a))), (8, .int (J most)), (9, .int (J u))]) (by rw [hnL]; decide) rfl ?_
            refine w_iload (pc := 90) hC dX12_asked_90 1 rfl ?_
            refine w_iload (pc := 92) hC dX12_asked_92 9 rfl ?_
            refine w_icmp_le (pc := 94) (tgt := 102) hC dX12_asked_94 (by decide) (by omega) (fun c94 => ?_) (fun c94 => ?_)
            · refine w_iload (pc := 102) hC dX12_asked_102 9 rfl ?_
              refine w_istore (pc := 104) hC dX12_asked_104 (lv2 := [(8, .int (J most)), (7, .int (J (dg board ((rk ((I 1) 0) board a) - u)))), (11, .int (J (WRT (I 1) c a (dg board ((rk ((I 1) 0) board a) - u)) u))), (10, .int (J (dg board ((rk ((I 1) 0) board a) - u)))), (0, .ref (A 0)), (1, .int (J c)), (2, .int (J board)), (3, .int (J a)), (5, .int (J (MSK (I 1) c (F 11) board a day))), (6, .int (J (rk ((I 1) 0) board a))), (9, .int (J u))]) (by rw [hnL]; decide) rfl ?_
              refine w_iinc (pc := 106) hC dX12_asked_106 (lv2 := [(9, .int (J (u + 1))), (8, .int (J most)), (7, .int (J (dg board ((rk ((I 1) 0) board a) - u)))), (11, .int (J (WRT (I 1) c a (dg board ((rk ((I 1) 0) board a) - u)) u))), (10, .int (J (dg board ((rk ((I 1) 0) board a) - u)))), (0, .ref (A 0)), (1, .int (J c)), (2, .int (J board)), (3, .int (J a)), (5, .int (J (MSK (I 1) c (F 11) board a day))), (6, .int (J (rk ((I 1) 0) board a)))]) 10 rfl (by rw [hnL]; decide) rfl ?_
              refine w_goto (pc := 109) hC dX12_asked_109 (tgt := 29) (by decide) ?_
              refine w_sub [5, 6, 7, 8, 9, 10, 2, 1, 0] (lv2 := [(0, .ref (A 0)), (1, .int (J c)), (2, .int (J board)), (3, .int (J a)), (5, .int (J (MSK (I 1) c (F 11) board a day))), (6, .int (J (rk ((I 1) 0) board a))), (7, .int (J (dg board ((rk ((I 1) 0) board a) - u)))), (8, .int (J most)), (9, .int (J (u + 1)))]) rfl ?_
              refine ih29 (dg board ((rk ((I 1) 0) board a) - u)) most (u + 1) ?_ ?_ ?_ ?_ ?_
              · first | assumption | omega
              · first | (exfalso; omega) | (rw [show u + 1 - 1 = u by omega, askF_s _ _ _ _ _ _ _ i1.1, ← i3, ← i2, ← hv]; dsimp only; first | rw [if_pos (by omega)] | rw [if_neg (by omega)])
              · first | (exfalso; omega) | (rw [show u + 1 - 1 = u by omega, askF_s _ _ _ _ _ _ _ i1.1, ← i3, ← i2, ← hv]; dsimp only; first | rw [if_pos (by omega)] | rw [if_neg (by omega)])
              · first | assumption | omega
              · omega
            · refine w_iload (pc := 97) hC dX12_asked_97 1 rfl ?_
              refine w_goto (pc := 99) hC dX12_asked_99 (tgt := 104) (by decide) ?_
              refine w_istore (pc := 104) hC dX12_asked_104 (lv2 := [(8, .int (J (WRT (I 1) c a (dg board ((rk ((I 1) 0) board a) - u)) u))), (7, .int (J (dg board ((rk ((I 1) 0) board a) - u)))), (11, .int (J (WRT (I 1) c a (dg board ((rk ((I 1) 0) board a) - u)) u))), (10, .int (J (dg board ((rk ((I 1) 0) board a) - u)))), (0, .ref (A 0)), (1, .int (J c)), (2, .int (J board)), (3, .int (J a)), (5, .int (J (MSK (I 1) c (F 11) board a day))), (6, .int (J (rk ((I 1) 0) board a))), (9, .int (J u))]) (by rw [hnL]; decide) rfl ?_
              refine w_iinc (pc := 106) hC dX12_asked_106 (lv2 := [(9, .int (J (u + 1))), (8, .int (J (WRT (I 1) c a (dg board ((rk ((I 1) 0) board a) - u)) u))), (7, .int (J (dg board ((rk ((I 1) 0) board a) - u)))), (11, .int (J (WRT (I 1) c a (dg board ((rk ((I 1) 0) board a) - u)) u))), (10, .int (J (dg board ((rk ((I 1) 0) board a) - u)))), (0, .ref (A 0)), (1, .int (J c)), (2, .int (J board)), (3, .int (J a)), (5, .int (J (MSK (I 1) c (F 11) board a day))), (6, .int (J (rk ((I 1) 0) board a)))]) 10 rfl (by rw [hnL]; decide) rfl ?_
              refine w_goto (pc := 109) hC dX12_asked_109 (tgt := 29) (by decide) ?_
              refine w_sub [5, 6, 7, 8, 9, 10, 2, 1, 0] (lv2 := [(0, .ref (A 0)), (1, .int (J c)), (2, .int (J board)), (3, .int (J a)), (5, .int (J (MSK (I 1) c (F 11) board a day))), (6, .int (J (rk ((I 1) 0) board a))), (7, .int (J (dg board ((rk ((I 1) 0) board a) - u)))), (8, .int (J (WRT (I 1) c a (dg board ((rk ((I 1) 0) board a) - u)) u))), (9, .int (J (u + 1)))]) rfl ?_
              refine ih29 (dg board ((rk ((I 1) 0) board a) - u)) (WRT (I 1) c a (dg board ((rk ((I 1) 0) board a) - u)) u) (u + 1) ?_ ?_ ?_ ?_ ?_
              · first | assumption | omega
              · first | (exfalso; omega) | (rw [show u + 1 - 1 = u by omega, askF_s _ _ _ _ _ _ _ i1.1, ← i3, ← i2, ← hv]; dsimp only; first | rw [if_pos (by omega)] | rw [if_neg (by omega)])
              · first | (exfalso; omega) | (rw [show u + 1 - 1 = u by omega, askF_s _ _ _ _ _ _ _ i1.1, ← i3, ← i2, ← hv]; dsimp only; first | rw [if_pos (by omega)] | rw [if_neg (by omega)])
              · first | assumption | omega
              · omega
  refine w_sub [5, 6, 7, 8, 4, 3, 2, 1, 0] (lv2 := [(0, .ref (A 0)), (1, .int (J c)), (2, .int (J board)), (3, .int (J a)), (5, .int (J (MSK (I 1) c (F 11) board a day))), (6, .int (J (rk ((I 1) 0) board a))), (7, .int (J (-5))), (8, .int (J (-1))), (9, .int (J 1))]) rfl ?_
  refine loop29 ((rk ((I 1) 0) board a + 1 - 1) + 1 : Int).toNat (-5) (-1) 1 ?_ ?_ ?_ ?_ ?_
  · first | assumption | omega
  · rfl
  · rfl
  · first | assumption | omega
  · omega
set_option maxRecDepth 100000 in
set_option maxHeartbeats 4000000 in
theorem c_X12_asks (l : Launch) (G : GT) (A : Nat → Nat) (I : Nat → Int → Int) (F : Nat → Int)  (club : Int) (name : Int) (day : Int) (hR : RI (I 1)) (h1 : -2147483648 ≤ club ∧ club < 2147483648) (h2 : -2147483648 ≤ name ∧ name < 2147483648) (h3 : -2147483648 ≤ day ∧ day < 2147483648) (hrf : (F 11) = -1) : CT l yX12_asks cX12_asks 4 (some .int) 4 0 0 G [.ref (A 0), .int (J club), .int (J name), .int (J day)] (MW A G.2.1 I F) (fun vo wo => ∃ (b3 : Int → Int) (b4 : Int → Int), vo = some (.int (J (v_asks (I 1) club name day))) ∧ wo = MW A G.2.1 (au (au I 3 b3) 4 b4) F) := by
  refine CT_of (own := RX12) rfl rfl (Nat.le_of_ble_eq_true rfl) (fun K hl hnL hC hRT hin => ?_)
  subst hl
  show WW K G 0 0 (MW A G.2.1 I F) 0 [(0, .ref (A 0)), (1, .int (J club)), (2, .int (J name)), (3, .int (J day))] []
  have hn := hR.n
  have hV := hR.bd
  have hB := VB_rng hV
  refine w_aload_n (pc := 0) hC dX12_asks_0 0 rfl rfl ?_
  refine w_iload_n (pc := 1) hC dX12_asks_1 1 rfl rfl ?_
  refine w_callV (pc := 2) (As := [.int (J club)]) (rest := []) hC dX12_asks_2 cv_X12_156 (c_X12_isClub (kl K) G A I F club (show RI (I 1) from by first | assumption | omega) (show -2147483648 ≤ club ∧ club < 2147483648 from by first | assumption | omega)) (by decide) ⟨Nat.le_of_ble_eq_true rfl, Nat.le_of_ble_eq_true rfl⟩ (q0 := 0) rfl rfl rfl rfl (Nat.le_of_ble_eq_true rfl) rfl (fun vo wo hv => ?_)
  obtain ⟨hv1, hw1⟩ := hv
  rw [hv1, hw1]
  show WW K G 0 0 (MW A G.2.1 I F) 5 [(0, .ref (A 0)), (1, .int (J club)), (2, .int (J name)), (3, .int (J day))] [.int (J (bI (0 ≤ club ∧ club < (I 1) 1)))]
  refine w_if_eq_b (pc := 5) (tgt := 16) hC dX12_asks_5 (by decide) (fun c5 => ?_) (fun c5 => ?_)
  · refine w_iconst (pc := 16) hC dX12_asks_16 ?_
    refine w_iret (pc := 17) hC hRT dX12_asks_17 rfl ?_
    refine ⟨(I 3), (I 4), retI (by first | rfl | (simp only [v_asks]; repeat' split) <;> first | rfl | omega | rw [hrf]), rfl⟩
  · refine w_aload_n (pc := 8) hC dX12_asks_8 0 rfl rfl ?_
    refine w_iload_n (pc := 9) hC dX12_asks_9 2 rfl rfl ?_
    refine w_callV (pc := 10) (As := [.int (J name)]) (rest := []) hC dX12_asks_10 cv_X12_60 (c_X12_isName (kl K) G A I F name (show RI (I 1) from by first | assumption | omega) (show -2147483648 ≤ name ∧ name < 2147483648 from by first | assumption | omega)) (by decide) ⟨Nat.le_of_ble_eq_true rfl, Nat.le_of_ble_eq_true rfl⟩ (q0 := 0) rfl rfl rfl rfl (Nat.le_of_ble_eq_true rfl) rfl (fun vo wo hv => ?_)
    obtain ⟨hv1, hw1⟩ := hv
    rw [hv1, hw1]
    show WW K G 0 0 (MW A G.2.1 I F) 13 [(0, .ref (A 0)), (1, .int (J club)), (2, .int (J name)), (3, .int (J day))] [.int (J (bI (0 ≤ name ∧ name < (I 1) 0)))]
    refine w_if_ne_b (pc := 13) (tgt := 18) hC dX12_asks_13 (by decide) (fun c13 => ?_) (fun c13 => ?_)
    · refine w_iload_n (pc := 18) hC dX12_asks_18 3 rfl rfl ?_
      refine w_callS (pc := 19) (As := [.int (J day)]) (rest := []) hC dX12_asks_19 cs_X12_159 (c_X12_isDay (kl K) G (MW A G.2.1 I F) day (show -2147483648 ≤ day ∧ day < 2147483648 from by first | assumption | omega)) (by decide) ⟨Nat.le_of_ble_eq_true rfl, Nat.le_of_ble_eq_true rfl⟩ rfl (Nat.le_of_ble_eq_true rfl) rfl (fun vo wo hv => ?_)
      obtain ⟨hv1, hw1⟩ := hv
      rw [hv1, hw1]
      show WW K G 0 0 (MW A G.2.1 I F) 22 [(0, .ref (A 0)), (1, .int (J club)), (2, .int (J name)), (3, .int (J day))] [.int (J (bI (0 ≤ day ∧ day ≤ 999)))]
      refine w_if_eq_b (pc := 22) (tgt := 42) hC dX12_asks_22 (by decide) (fun c22 => ?_) (fun c22 => ?_)
      · refine w_bipush (pc := 42) hC dX12_asks_42 (z := (-2)) rfl ?_
        refine w_iret (pc := 44) hC hRT dX12_asks_44 rfl ?_
        refine ⟨(I 3), (I 4), retI (by first | rfl | (simp only [v_asks]; repeat' split) <;> first | rfl | omega | rw [hrf]), rfl⟩
      · refine w_aload_n (pc := 25) hC dX12_asks_25 0 rfl rfl ?_
        refine w_iload_n (pc := 26) hC dX12_asks_26 1 rfl rfl ?_
        refine w_aload_n (pc := 27) hC dX12_asks_27 0 rfl rfl ?_
        refine w_getf (pc := 28) (v := .ref (A 1)) hC dX12_asks_28 fi_X12_9 0 rfl rfl ?_
        refine w_bipush (pc := 31) hC dX12_asks_31 (z := 6) rfl ?_
        refine w_iald (pc := 33) (g := (I 1)) hC dX12_asks_33 1 rfl (by omega) (Nat.le_of_ble_eq_true rfl) ?_
        refine w_iload_n (pc := 34) hC dX12_asks_34 2 rfl rfl ?_
        refine w_iload_n (pc := 35) hC dX12_asks_35 3 rfl rfl ?_
        refine w_callV (pc := 36) (As := [.int (J club), .int (J ((I 1) 6)), .int (J name), .int (J day)]) (rest := []) hC dX12_asks_36 cv_X12_169 (c_X12_asked (kl K) G A I F club ((I 1) 6) name day (show RI (I 1) from by first | assumption | omega) (show 0 ≤ club ∧ club < (I 1) 1 from by first | assumption | omega) (show VB ((I 1) 0) ((I 1) 6) from by first | assumption | omega) (show 0 ≤ name ∧ name < (I 1) 0 from by first | assumption | omega) (show 0 ≤ day ∧ day ≤ 2000 from by first | assumption | omega) (show -1 ≤ (F 11) ∧ (F 11) ≤ 5 from by first | assumption | omega)) (by decide) ⟨Nat.le_of_ble_eq_true rfl, Nat.le_of_ble_eq_true rfl⟩ (q0 := 0) rfl rfl rfl rfl (Nat.le_of_ble_eq_true rfl) rfl (fun vo wo hv => ?_)
        obtain ⟨b3_36, b4_36, hv1, hw1⟩ := hv
        rw [hv1, hw1]
        show WW K G 0 0 (MW A G.2.1 (au (au I 3 b3_36) 4 b4_36) F) 39 [(0, .ref (A 0)), (1, .int (J club)), (2, .int (J name)), (3, .int (J day))] [.int (J (ASK (I 1) club (F 11) ((I 1) 6) name day))]
        have q36_0 := @ASK_in (I 1) club (F 11) ((I 1) 6) name day (by assumption) (by omega)
        refine w_goto (pc := 39) hC dX12_asks_39 (tgt := 44) (by decide) ?_
        refine w_iret (pc := 44) hC hRT dX12_asks_44 rfl ?_
        refine ⟨b3_36, b4_36, retI (by first | rfl | (simp only [v_asks]; repeat' split) <;> first | rfl | omega | rw [hrf]), rfl⟩
    · refine w_iconst (pc := 16) hC dX12_asks_16 ?_
      refine w_iret (pc := 17) hC hRT dX12_asks_17 rfl ?_
      refine ⟨(I 3), (I 4), retI (by first | rfl | (simp only [v_asks]; repeat' split) <;> first | rfl | omega | rw [hrf]), rfl⟩
set_option maxRecDepth 100000 in
set_option maxHeartbeats 4000000 in
theorem c_X12_won (l : Launch) (G : GT) (A : Nat → Nat) (I : Nat → Int → Int) (F : Nat → Int)  (c : Int) (board : Int) (a : Int) (b : Int) (hR : RI (I 1)) (hc : 0 ≤ c ∧ c < (I 1) 1) (hV : VB ((I 1) 0) board) (ha : 0 ≤ a ∧ a < (I 1) 0) (hb : 0 ≤ b ∧ b < (I 1) 0) (hr : rk ((I 1) 0) board b < rk ((I 1) 0) board a) : CT l yX12_won cX12_won 7 (some .int) 2 0 0 G [.ref (A 0), .int (J c), .int (J board), .int (J a), .int (J b)] (MW A G.2.1 I F) (fun vo wo => vo = some (.int (J (WON (I 1) c board a b))) ∧ wo = MW A G.2.1 I F) := by
  refine CT_of (own := RX12) rfl rfl (Nat.le_of_ble_eq_true rfl) (fun K hl hnL hC hRT hin => ?_)
  subst hl
  show WW K G 0 0 (MW A G.2.1 I F) 0 [(0, .ref (A 0)), (1, .int (J c)), (2, .int (J board)), (3, .int (J a)), (4, .int (J b))] []
  have hn := hR.n
  have hcl := hR.cl
  have hbr := VB_rng hV
  have hk := rk_spec hV ha.1 ha.2
  have hk2 := rk_spec hV hb.1 hb.2
  have hwi := hR.wi (183 + c) (by omega) (by omega)
  have z1 := p8 (rk (I 1 0) board a).toNat
  have z2 := p8 (rk (I 1 0) board b).toNat
  have z3 := p8_le (n := rk (I 1 0) board a) (by omega)
  have z4 := p8_le (n := rk (I 1 0) board b) (by omega)
  have y1 := andn_bd (x := board) (y := 7 * 8 ^ (rk (I 1 0) board a).toNat) hbr.1
  have y2 := andn_bd (x := andn board (7 * 8 ^ (rk (I 1 0) board a).toNat)) (y := 7 * 8 ^ (rk (I 1 0) board b).toNat) y1.1
  have w1 := Int.mul_nonneg hb.1 (Int.le_of_lt z1)
  have w2 := Int.mul_nonneg ha.1 (Int.le_of_lt z2)
  refine w_aload_n (pc := 0) hC dX12_won_0 0 rfl rfl ?_
  refine w_iload_n (pc := 1) hC dX12_won_1 2 rfl rfl ?_
  refine w_iload_n (pc := 2) hC dX12_won_2 3 rfl rfl ?_
  refine w_callV (pc := 3) (As := [.int (J board), .int (J a)]) (rest := []) hC dX12_won_3 cv_X12_68 (c_X12_rungOf (kl K) G A I F ((I 1) 0) board a (show VB ((I 1) 0) board from by first | assumption | omega) (show 0 ≤ a ∧ a < ((I 1) 0) from by first | assumption | omega)) (by decide) ⟨Nat.le_of_ble_eq_true rfl, Nat.le_of_ble_eq_true rfl⟩ (q0 := 0) rfl rfl rfl rfl (Nat.le_of_ble_eq_true rfl) rfl (fun vo wo hv => ?_)
  obtain ⟨hv1, hw1⟩ := hv
  rw [hv1, hw1]
  show WW K G 0 0 (MW A G.2.1 I F) 6 [(0, .ref (A 0)), (1, .int (J c)), (2, .int (J board)), (3, .int (J a)), (4, .int (J b))] [.int (J (rk ((I 1) 0) board a))]
  have q3_0 := (@rk_spec ((I 1) 0) board a (by assumption) (by omega) (by omega)).1
  refine w_istore (pc := 6) hC dX12_won_6 (lv2 := [(5, .int (J (rk ((I 1) 0) board a))), (0, .ref (A 0)), (1, .int (J c)), (2, .int (J board)), (3, .int (J a)), (4, .int (J b))]) (by rw [hnL]; decide) rfl ?_
  refine w_aload_n (pc := 8) hC dX12_won_8 1 rfl rfl ?_
  refine w_iload_n (pc := 9) hC dX12_won_9 3 rfl rfl ?_
  refine w_iload (pc := 10) hC dX12_won_10 5 rfl ?_
  refine w_callV (pc := 12) (As := [.int (J board), .int (J b)]) (rest := []) hC dX12_won_12 cv_X12_68 (c_X12_rungOf (kl K) G A I F ((I 1) 0) board b (show VB ((I 1) 0) board from by first | assumption | omega) (show 0 ≤ b ∧ b < ((I 1) 0) from by first | assumption | omega)) (by decide) ⟨Nat.le_of_ble_eq_true rfl, Nat.le_of_ble_eq_true rfl⟩ (q0 := 0) rfl rfl rfl rfl (Nat.le_of_ble_eq_true rfl) rfl (fun vo wo hv => ?_)
  obtain ⟨hv1, hw1⟩ := hv
  rw [hv1, hw1]
  show WW K G 0 0 (MW A G.2.1 I F) 15 [(5, .int (J (rk ((I 1) 0) board a))), (0, .ref (A 0)), (1, .int (J c)), (2, .int (J board)), (3, .int (J a)), (4, .int (J b))] [.int (J (rk ((I 1) 0) board b))]
  have q12_0 := (@rk_spec ((I 1) 0) board b (by assumption) (by omega) (by omega)).1
  refine w_istore (pc := 15) hC dX12_won_15 (lv2 := [(6, .int (J (rk ((I 1) 0) board b))), (5, .int (J (rk ((I 1) 0) board a))), (0, .ref (A 0)), (1, .int (J c)), (2, .int (J board)), (3, .int (J a)), (4, .int (J b))]) (by rw [hnL]; decide) rfl ?_
  refine w_aload_n (pc := 17) hC dX12_won_17 2 rfl rfl ?_
  refine w_getf (pc := 18) (v := .ref (A 1)) hC dX12_won_18 fi_X12_9 0 rfl rfl ?_
  refine w_sipush (pc := 21) hC dX12_won_21 (z := 183) rfl ?_
  refine w_iload_n (pc := 24) hC dX12_won_24 3 rfl rfl ?_
  refine w_iadd (pc := 25) hC dX12_won_25 ?_
  refine w_iald (pc := 26) (g := (I 1)) hC dX12_won_26 1 rfl (by omega) (Nat.le_of_ble_eq_true rfl) ?_
  refine w_iconst (pc := 27) hC dX12_won_27 ?_
  refine w_icmp_ne (pc := 28) (tgt := 68) hC dX12_won_28 (by decide) (by omega) (fun c28 => ?_) (fun c28 => ?_)
  · refine w_aload_n (pc := 68) hC dX12_won_68 2 rfl rfl ?_
    refine w_iload_n (pc := 69) hC dX12_won_69 4 rfl rfl ?_
    refine w_iload_n (pc := 70) hC dX12_won_70 5 rfl rfl ?_
    refine w_aload_n (pc := 71) hC dX12_won_71 2 rfl rfl ?_
    refine w_getf (pc := 72) (v := .ref (A 1)) hC dX12_won_72 fi_X12_9 0 rfl rfl ?_
    refine w_sipush (pc := 75) hC dX12_won_75 (z := 183) rfl ?_
    refine w_iload_n (pc := 78) hC dX12_won_78 3 rfl rfl ?_
    refine w_iadd (pc := 79) hC dX12_won_79 ?_
    refine w_iald (pc := 80) (g := (I 1)) hC dX12_won_80 1 rfl (by omega) (Nat.le_of_ble_eq_true rfl) ?_
    refine w_iconst (pc := 81) hC dX12_won_81 ?_
    refine w_icmp_ne (pc := 82) (tgt := 92) hC dX12_won_82 (by decide) (by omega) (fun c82 => ?_) (fun c82 => ?_)
    · refine w_iload (pc := 92) hC dX12_won_92 0 rfl ?_
      refine w_callV (pc := 94) (As := [.int (J board), .int (J a), .int (J (rk ((I 1) 0) board b))]) (rest := []) hC dX12_won_94 cv_X12_71 (c_X12_moved (kl K) G A I F board a (rk ((I 1) 0) board b) (show RI (I 1) from by first | assumption | omega) (show VB ((I 1) 0) board from by first | assumption | omega) (show 0 ≤ a ∧ a < (I 1) 0 from by first | assumption | omega) (show 0 ≤ (rk ((I 1) 0) board b) ∧ (rk ((I 1) 0) board b) < (I 1) 0 from by first | assumption | omega)) (by decide) ⟨Nat.le_of_ble_eq_true rfl, Nat.le_of_ble_eq_true rfl⟩ (q0 := 0) rfl rfl rfl rfl (Nat.le_of_ble_eq_true rfl) rfl (fun vo wo hv => ?_)
      obtain ⟨hv1, hw1⟩ := hv
      rw [hv1, hw1]
      show WW K G 0 0 (MW A G.2.1 I F) 97 [(6, .int (J (rk ((I 1) 0) board b))), (5, .int (J (rk ((I 1) 0) board a))), (0, .ref (A 0)), (1, .int (J c)), (2, .int (J board)), (3, .int (J a)), (4, .int (J b))] [.int (J (mvd ((I 1) 0) board a (rk ((I 1) 0) board b)))]
      have q94_0 := @VB_mvd ((I 1) 0) board a (rk ((I 1) 0) board b) (by assumption) (by omega) (by omega)
      refine w_iret (pc := 97) hC hRT dX12_won_97 rfl ?_
      refine ⟨retI (by unfold WON; rw [if_neg (by omega)]; first | rw [if_pos (by omega)] | rw [if_neg (by omega)]), rfl⟩
    · refine w_iload (pc := 85) hC dX12_won_85 1 rfl ?_
      refine w_iconst (pc := 87) hC dX12_won_87 ?_
      refine w_isub (pc := 88) hC dX12_won_88 ?_
      refine w_goto (pc := 89) hC dX12_won_89 (tgt := 94) (by decide) ?_
      refine w_callV (pc := 94) (As := [.int (J board), .int (J a), .int (J ((rk ((I 1) 0) board a) - 1))]) (rest := []) hC dX12_won_94 cv_X12_71 (c_X12_moved (kl K) G A I F board a ((rk ((I 1) 0) board a) - 1) (show RI (I 1) from by first | assumption | omega) (show VB ((I 1) 0) board from by first | assumption | omega) (show 0 ≤ a ∧ a < (I 1) 0 from by first | assumption | omega) (show 0 ≤ ((rk ((I 1) 0) board a) - 1) ∧ ((rk ((I 1) 0) board a) - 1) < (I 1) 0 from by first | assumption | omega)) (by decide) ⟨Nat.le_of_ble_eq_true rfl, Nat.le_of_ble_eq_true rfl⟩ (q0 := 0) rfl rfl rfl rfl (Nat.le_of_ble_eq_true rfl) rfl (fun vo wo hv => ?_)
      obtain ⟨hv1, hw1⟩ := hv
      rw [hv1, hw1]
      show WW K G 0 0 (MW A G.2.1 I F) 97 [(6, .int (J (rk ((I 1) 0) board b))), (5, .int (J (rk ((I 1) 0) board a))), (0, .ref (A 0)), (1, .int (J c)), (2, .int (J board)), (3, .int (J a)), (4, .int (J b))] [.int (J (mvd ((I 1) 0) board a ((rk ((I 1) 0) board a) - 1)))]
      have q94_0 := @VB_mvd ((I 1) 0) board a ((rk ((I 1) 0) board a) - 1) (by assumption) (by omega) (by omega)
      refine w_iret (pc := 97) hC hRT dX12_won_97 rfl ?_
      refine ⟨retI (by unfold WON; rw [if_neg (by omega)]; first | rw [if_pos (by omega)] | rw [if_neg (by omega)]), rfl⟩
  · refine w_iload_n (pc := 31) hC dX12_won_31 4 rfl rfl ?_
    refine w_bipush (pc := 32) hC dX12_won_32 (z := 7) rfl ?_
    refine w_iconst (pc := 34) hC dX12_won_34 ?_
    refine w_iload (pc := 35) hC dX12_won_35 1 rfl ?_
    refine w_imul (pc := 37) hC dX12_won_37 ?_
    refine w_ishl (pc := 38) hC dX12_won_38 (by omega) ?_
    refine w_top (e2 := 7 * 8 ^ (rk ((I 1) 0) board a).toNat) (by rw [show (3 * rk ((I 1) 0) board a).toNat = 3 * (rk ((I 1) 0) board a).toNat by omega, p38]) ?_
    refine w_iconst (pc := 39) hC dX12_won_39 ?_
    refine w_ixor (pc := 40) hC dX12_won_40 (v := -1 - 7 * 8 ^ (rk ((I 1) 0) board a).toNat) (J_not _) ?_
    refine w_iand (pc := 41) hC dX12_won_41 (v := andn board (7 * 8 ^ (rk ((I 1) 0) board a).toNat)) (J_andn (by omega) (by omega) (by omega) (by omega)) ?_
    refine w_bipush (pc := 42) hC dX12_won_42 (z := 7) rfl ?_
    refine w_iconst (pc := 44) hC dX12_won_44 ?_
    refine w_iload (pc := 45) hC dX12_won_45 0 rfl ?_
    refine w_imul (pc := 47) hC dX12_won_47 ?_
    refine w_ishl (pc := 48) hC dX12_won_48 (by omega) ?_
    refine w_top (e2 := 7 * 8 ^ (rk ((I 1) 0) board b).toNat) (by rw [show (3 * rk ((I 1) 0) board b).toNat = 3 * (rk ((I 1) 0) board b).toNat by omega, p38]) ?_
    refine w_iconst (pc := 49) hC dX12_won_49 ?_
    refine w_ixor (pc := 50) hC dX12_won_50 (v := -1 - 7 * 8 ^ (rk ((I 1) 0) board b).toNat) (J_not _) ?_
    refine w_iand (pc := 51) hC dX12_won_51 (v := andn (andn board (7 * 8 ^ (rk ((I 1) 0) board a).toNat)) (7 * 8 ^ (rk ((I 1) 0) board b).toNat)) (J_andn (by omega) (by omega) (by omega) (by omega)) ?_
    refine w_iload (pc := 52) hC dX12_won_52 6 rfl ?_
    refine w_iconst (pc := 54) hC dX12_won_54 ?_
    refine w_iload (pc := 55) hC dX12_won_55 1 rfl ?_
    refine w_imul (pc := 57) hC dX12_won_57 ?_
    refine w_ishl (pc := 58) hC dX12_won_58 (by omega) ?_
    refine w_top (e2 := b * 8 ^ (rk ((I 1) 0) board a).toNat) (by rw [show (3 * rk ((I 1) 0) board a).toNat = 3 * (rk ((I 1) 0) board a).toNat by omega, p38]) ?_
    refine w_ior (pc := 59) hC dX12_won_59 (v := ior (andn (andn board (7 * 8 ^ (rk ((I 1) 0) board a).toNat)) (7 * 8 ^ (rk ((I 1) 0) board b).toNat)) (b * 8 ^ (rk ((I 1) 0) board a).toNat)) (J_or ⟨by omega, by omega⟩) ?_
    refine w_iload_n (pc := 60) hC dX12_won_60 5 rfl rfl ?_
    refine w_iconst (pc := 61) hC dX12_won_61 ?_
    refine w_iload (pc := 62) hC dX12_won_62 0 rfl ?_
    refine w_imul (pc := 64) hC dX12_won_64 ?_
    refine w_ishl (pc := 65) hC dX12_won_65 (by omega) ?_
    refine w_top (e2 := a * 8 ^ (rk ((I 1) 0) board b).toNat) (by rw [show (3 * rk ((I 1) 0) board b).toNat = 3 * (rk ((I 1) 0) board b).toNat by omega, p38]) ?_
    refine w_ior (pc := 66) hC dX12_won_66 (v := ior (ior (andn (andn board (7 * 8 ^ (rk ((I 1) 0) board a).toNat)) (7 * 8 ^ (rk ((I 1) 0) board b).toNat)) (b * 8 ^ (rk ((I 1) 0) board a).toNat)) (a * 8 ^ (rk ((I 1) 0) board b).toNat)) (J_or ⟨ior_nn _ _, by omega⟩) ?_
    refine w_iret (pc := 67) hC hRT dX12_won_67 rfl ?_
    refine ⟨retI (by unfold WON; rw [if_pos (by omega)]; exact sw_bits hV hk.1 hk2.1 (by omega) hk2.2 hk.2), rfl⟩
set_option maxRecDepth 100000 in
set_option maxHeartbeats 4000000 in
theorem c_X12_match (l : Launch) (G : GT) (A : Nat → Nat) (I : Nat → Int → Int) (F : Nat → Int)  (club : Int) (a : Int) (b : Int) (wins : Int) (hR : RI (I 1)) (h1 : -2147483648 ≤ club ∧ club < 2147483648) (h2 : -2147483648 ≤ a ∧ a < 2147483648) (h3 : -2147483648 ≤ b ∧ b < 2147483648) (h4 : wins = 0 ∨ wins = 1) (hrf : (F 11) = -1) : CT l yX12_match cX12_match 5 (some .int) 3 0 0 G [.ref (A 0), .int (J club), .int (J a), .int (J b), .int (J wins)] (MW A G.2.1 I F) (fun vo wo => ∃ (b1 : Int → Int) (b3 : Int → Int) (b4 : Int → Int), vo = some (.int (J (v_match (I 1) club a b wins))) ∧ wo = MW A G.2.1 (au (au (au I 1 b1) 3 b3) 4 b4) F ∧ (b1 = n_match (I 1) club a b wins)) := by
  refine CT_of (own := RX12) rfl rfl (Nat.le_of_ble_eq_true rfl) (fun K hl hnL hC hRT hin => ?_)
  subst hl
  show WW K G 0 0 (MW A G.2.1 I F) 0 [(0, .ref (A 0)), (1, .int (J club)), (2, .int (J a)), (3, .int (J b)), (4, .int (J wins))] []
  have hn := hR.n
  have hV := hR.bd
  have hB := VB_rng hV
  have htd := hR.td
  refine w_aload_n (pc := 0) hC dX12_match_0 0 rfl rfl ?_
  refine w_iload_n (pc := 1) hC dX12_match_1 1 rfl rfl ?_
  refine w_callV (pc := 2) (As := [.int (J club)]) (rest := []) hC dX12_match_2 cv_X12_156 (c_X12_isClub (kl K) G A I F club (show RI (I 1) from by first | assumption | omega) (show -2147483648 ≤ club ∧ club < 2147483648 from by first | assumption | omega)) (by decide) ⟨Nat.le_of_ble_eq_true rfl, Nat.le_of_ble_eq_true rfl⟩ (q0 := 0) rfl rfl rfl rfl (Nat.le_of_ble_eq_true rfl) rfl (fun vo wo hv => ?_)
  obtain ⟨hv1, hw1⟩ := hv
  rw [hv1, hw1]
  show WW K G 0 0 (MW A G.2.1 I F) 5 [(0, .ref (A 0)), (1, .int (J club)), (2, .int (J a)), (3, .int (J b)), (4, .int (J wins))] [.int (J (bI (0 ≤ club ∧ club < (I 1) 1)))]
  refine w_if_eq_b (pc := 5) (tgt := 24) hC dX12_match_5 (by decide) (fun c5 => ?_) (fun c5 => ?_)
  · refine w_iconst (pc := 24) hC dX12_match_24 ?_
    refine w_iret (pc := 25) hC hRT dX12_match_25 rfl ?_
    refine ⟨(I 1), (I 3), (I 4), retI (by first | (simp only [v_match]; (repeat' split) <;> first | rfl | omega)), rfl, ?_⟩
    · unfold n_match; rw [if_neg (by omega)]
  · refine w_aload_n (pc := 8) hC dX12_match_8 0 rfl rfl ?_
    refine w_iload_n (pc := 9) hC dX12_match_9 2 rfl rfl ?_
    refine w_callV (pc := 10) (As := [.int (J a)]) (rest := []) hC dX12_match_10 cv_X12_60 (c_X12_isName (kl K) G A I F a (show RI (I 1) from by first | assumption | omega) (show -2147483648 ≤ a ∧ a < 2147483648 from by first | assumption | omega)) (by decide) ⟨Nat.le_of_ble_eq_true rfl, Nat.le_of_ble_eq_true rfl⟩ (q0 := 0) rfl rfl rfl rfl (Nat.le_of_ble_eq_true rfl) rfl (fun vo wo hv => ?_)
    obtain ⟨hv1, hw1⟩ := hv
    rw [hv1, hw1]
    show WW K G 0 0 (MW A G.2.1 I F) 13 [(0, .ref (A 0)), (1, .int (J club)), (2, .int (J a)), (3, .int (J b)), (4, .int (J wins))] [.int (J (bI (0 ≤ a ∧ a < (I 1) 0)))]
    refine w_if_eq_b (pc := 13) (tgt := 24) hC dX12_match_13 (by decide) (fun c13 => ?_) (fun c13 => ?_)
    · refine w_iconst (pc := 24) hC dX12_match_24 ?_
      refine w_iret (pc := 25) hC hRT dX12_match_25 rfl ?_
      refine ⟨(I 1), (I 3), (I 4), retI (by first | (simp only [v_match]; (repeat' split) <;> first | rfl | omega)), rfl, ?_⟩
      · unfold n_match; rw [if_neg (by omega)]
    · refine w_aload_n (pc := 16) hC dX12_match_16 0 rfl rfl ?_
      refine w_iload_n (pc := 17) hC dX12_match_17 3 rfl rfl ?_
      refine w_callV (pc := 18) (As := [.int (J b)]) (rest := []) hC dX12_match_18 cv_X12_60 (c_X12_isName (kl K) G A I F b (show RI (I 1) from by first | assumption | omega) (show -2147483648 ≤ b ∧ b < 2147483648 from by first | assumption | omega)) (by decide) ⟨Nat.le_of_ble_eq_true rfl, Nat.le_of_ble_eq_true rfl⟩ (q0 := 0) rfl rfl rfl rfl (Nat.le_of_ble_eq_true rfl) rfl (fun vo wo hv => ?_)
      obtain ⟨hv1, hw1⟩ := hv
      rw [hv1, hw1]
      show WW K G 0 0 (MW A G.2.1 I F) 21 [(0, .ref (A 0)), (1, .int (J club)), (2, .int (J a)), (3, .int (J b)), (4, .int (J wins))] [.int (J (bI (0 ≤ b ∧ b < (I 1) 0)))]
      refine w_if_ne_b (pc := 21) (tgt := 26) hC dX12_match_21 (by decide) (fun c21 => ?_) (fun c21 => ?_)
      · refine w_iload_n (pc := 26) hC dX12_match_26 2 rfl rfl ?_
        refine w_iload_n (pc := 27) hC dX12_match_27 3 rfl rfl ?_
        refine w_icmp_ne (pc := 28) (tgt := 34) hC dX12_match_28 (by decide) (by omega) (fun c28 => ?_) (fun c28 => ?_)
        · refine w_aload_n (pc := 34) hC dX12_match_34 0 rfl rfl ?_
          refine w_iload_n (pc := 35) hC dX12_match_35 1 rfl rfl ?_
          refine w_aload_n (pc := 36) hC dX12_match_36 0 rfl rfl ?_
          refine w_getf (pc := 37) (v := .ref (A 1)) hC dX12_match_37 fi_X12_9 0 rfl rfl ?_
          refine w_bipush (pc := 40) hC dX12_match_40 (z := 6) rfl ?_
          refine w_iald (pc := 42) (g := (I 1)) hC dX12_match_42 1 rfl (by omega) (Nat.le_of_ble_eq_true rfl) ?_
          refine w_iload_n (pc := 43) hC dX12_match_43 2 rfl rfl ?_
          refine w_aload_n (pc := 44) hC dX12_match_44 0 rfl rfl ?_
          refine w_getf (pc := 45) (v := .ref (A 1)) hC dX12_match_45 fi_X12_9 0 rfl rfl ?_
          refine w_iconst (pc := 48) hC dX12_match_48 ?_
          refine w_iald (pc := 49) (g := (I 1)) hC dX12_match_49 1 rfl (by omega) (Nat.le_of_ble_eq_true rfl) ?_
          refine w_callV (pc := 50) (As := [.int (J club), .int (J ((I 1) 6)), .int (J a), .int (J ((I 1) 2))]) (rest := []) hC dX12_match_50 cv_X12_162 (c_X12_mayAll (kl K) G A I F club ((I 1) 6) a ((I 1) 2) (show RI (I 1) from by first | assumption | omega) (show 0 ≤ club ∧ club < (I 1) 1 from by first | assumption | omega) (show VB ((I 1) 0) ((I 1) 6) from by first | assumption | omega) (show 0 ≤ a ∧ a < (I 1) 0 from by first | assumption | omega) (show 0 ≤ ((I 1) 2) ∧ ((I 1) 2) ≤ 2000 from by first | assumption | omega) (show -1 ≤ (F 11) ∧ (F 11) ≤ 5 from by first | assumption | omega)) (by decide) ⟨Nat.le_of_ble_eq_true rfl, Nat.le_of_ble_eq_true rfl⟩ (q0 := 0) rfl rfl rfl rfl (Nat.le_of_ble_eq_true rfl) rfl (fun vo wo hv => ?_)
          obtain ⟨b3_50, b4_50, hv1, hw1⟩ := hv
          rw [hv1, hw1]
          show WW K G 0 0 (MW A G.2.1 (au (au I 3 b3_50) 4 b4_50) F) 53 [(0, .ref (A 0)), (1, .int (J club)), (2, .int (J a)), (3, .int (J b)), (4, .int (J wins))] [.int (J (MSK (I 1) club (F 11) ((I 1) 6) a ((I 1) 2)))]
          have q50_0 := @MSK_bd (I 1) club (F 11) ((I 1) 6) a ((I 1) 2) (by assumption) (by omega)
          refine w_iload_n (pc := 53) hC dX12_match_53 3 rfl rfl ?_
          refine w_ishr (pc := 54) hC dX12_match_54 (by omega) ?_
          refine w_iconst (pc := 55) hC dX12_match_55 ?_
          refine w_iand (pc := 56) hC dX12_match_56 (v := ((MSK (I 1) club (F 11) ((I 1) 6) a ((I 1) 2)) / 2 ^ b.toNat) % 2) (J_and1 _) ?_
          have hup := fun (g1 : 0 ≤ a ∧ a < I 1 0) (g2 : 0 ≤ b ∧ b < I 1 0) (g3 : MSK (I 1) club (F 11) (I 1 6) a (I 1 2) / 2 ^ b.toNat % 2 = 1) => MSK_up hV g1 g2 g3
          refine w_if_ne (pc := 57) (tgt := 63) hC dX12_match_57 (by decide) (by omega) (fun c57 => ?_) (fun c57 => ?_)
          · refine w_aload_n (pc := 63) hC dX12_match_63 0 rfl rfl ?_
            refine w_getf (pc := 64) (v := .ref (A 1)) hC dX12_match_64 fi_X12_9 0 rfl rfl ?_
            refine w_bipush (pc := 67) hC dX12_match_67 (z := 6) rfl ?_
            refine w_iload (pc := 69) hC dX12_match_69 4 rfl ?_
            refine w_if_eq (pc := 71) (tgt := 91) hC dX12_match_71 (by decide) (by omega) (fun c71 => ?_) (fun c71 => ?_)
            · refine w_aload_n (pc := 91) hC dX12_match_91 0 rfl rfl ?_
              refine w_getf (pc := 92) (v := .ref (A 1)) hC dX12_match_92 fi_X12_9 0 rfl rfl ?_
              refine w_bipush (pc := 95) hC dX12_match_95 (z := 6) rfl ?_
              refine w_iald (pc := 97) (g := (I 1)) hC dX12_match_97 1 rfl (by omega) (Nat.le_of_ble_eq_true rfl) ?_
              refine w_iast (pc := 98) (g := (I 1)) (w2 := MW A G.2.1 (au (au (au I 1 (gu (I 1) 6 ((I 1) 6))) 3 b3_50) 4 b4_50) F) hC dX12_match_98 1 rfl (by omega) (Nat.le_of_ble_eq_true rfl) rfl ?_
              generalize h98 : gu (I 1) 6 ((I 1) 6) = s98
              have e98 := congrFun h98.symm 6
              rw [gu_eq] at e98
              have hV98 : VB (I 1 0) (s98 6) := by rw [e98]; first | exact hV | exact VB_WON hV (by omega) (by omega) hrk
              refine w_aload_n (pc := 99) hC dX12_match_99 0 rfl rfl ?_
              refine w_aload_n (pc := 100) hC dX12_match_100 0 rfl rfl ?_
              refine w_getf (pc := 101) (v := .ref (A 1)) hC dX12_match_101 fi_X12_9 0 rfl rfl ?_
              refine w_bipush (pc := 104) hC dX12_match_104 (z := 6) rfl ?_
              refine w_iald (pc := 106) (g := s98) hC dX12_match_106 1 rfl (by omega) (Nat.le_of_ble_eq_true rfl) ?_
              refine w_iload_n (pc := 107) hC dX12_match_107 2 rfl rfl ?_
              refine w_callV (pc := 108) (As := [.int (J (s98 6)), .int (J a)]) (rest := []) hC dX12_match_108 cv_X12_68 (c_X12_rungOf (kl K) G A (au (au (au I 1 s98) 3 b3_50) 4 b4_50) F ((I 1) 0) (s98 6) a (show VB ((I 1) 0) (s98 6) from by first | (rw [e98]; exact VB_WON hV (by omega) (by omega) hrk) | (rw [e98]; exact hV)) (show 0 ≤ a ∧ a < ((I 1) 0) from by first | assumption | omega)) (by decide) ⟨Nat.le_of_ble_eq_true rfl, Nat.le_of_ble_eq_true rfl⟩ (q0 := 0) rfl rfl rfl rfl (Nat.le_of_ble_eq_true rfl) rfl (fun vo wo hv => ?_)
              obtain ⟨hv1, hw1⟩ := hv
              rw [hv1, hw1]
              show WW K G 0 0 (MW A G.2.1 (au (au (au I 1 s98) 3 b3_50) 4 b4_50) F) 111 [(0, .ref (A 0)), (1, .int (J club)), (2, .int (J a)), (3, .int (J b)), (4, .int (J wins))] [.int (J (rk ((I 1) 0) (s98 6) a))]
              have q108_0 := (@rk_spec ((I 1) 0) (s98 6) a (by assumption) (by omega) (by omega)).1
              refine w_iret (pc := 111) hC hRT dX12_match_111 rfl ?_
              refine ⟨s98, b3_50, b4_50, retI (by rw [e98]; unfold v_match; rw [← hrf, if_neg (by omega), if_neg (by omega), if_neg (by omega)]; first | rw [if_pos (by omega)] | rw [if_neg (by omega)]), rfl, ?_⟩
              · subst h98; unfold n_match; rw [← hrf]; first | (rw [if_pos (by omega)]) | (rw [if_neg (by omega)]; exact gu_same _)
            · refine w_aload_n (pc := 74) hC dX12_match_74 0 rfl rfl ?_
              refine w_iload_n (pc := 75) hC dX12_match_75 1 rfl rfl ?_
              refine w_aload_n (pc := 76) hC dX12_match_76 0 rfl rfl ?_
              refine w_getf (pc := 77) (v := .ref (A 1)) hC dX12_match_77 fi_X12_9 0 rfl rfl ?_
              refine w_bipush (pc := 80) hC dX12_match_80 (z := 6) rfl ?_
              refine w_iald (pc := 82) (g := (I 1)) hC dX12_match_82 1 rfl (by omega) (Nat.le_of_ble_eq_true rfl) ?_
              refine w_iload_n (pc := 83) hC dX12_match_83 2 rfl rfl ?_
              have hrk := hup (by omega) (by omega) (by omega)
              refine w_iload_n (pc := 84) hC dX12_match_84 3 rfl rfl ?_
              refine w_callV (pc := 85) (As := [.int (J club), .int (J ((I 1) 6)), .int (J a), .int (J b)]) (rest := [.int (J 6), .ref (A 1)]) hC dX12_match_85 cv_X12_172 (c_X12_won (kl K) G A (au (au I 3 b3_50) 4 b4_50) F club ((I 1) 6) a b (show RI (I 1) from by first | assumption | omega) (show 0 ≤ club ∧ club < (I 1) 1 from by first | assumption | omega) (show VB ((I 1) 0) ((I 1) 6) from by first | assumption | omega) (show 0 ≤ a ∧ a < (I 1) 0 from by first | assumption | omega) (show 0 ≤ b ∧ b < (I 1) 0 from by first | assumption | omega) (show rk ((I 1) 0) ((I 1) 6) b < rk ((I 1) 0) ((I 1) 6) a from by first | assumption | omega)) (by decide) ⟨Nat.le_of_ble_eq_true rfl, Nat.le_of_ble_eq_true rfl⟩ (q0 := 0) rfl rfl rfl rfl (Nat.le_of_ble_eq_true rfl) rfl (fun vo wo hv => ?_)
              obtain ⟨hv1, hw1⟩ := hv
              rw [hv1, hw1]
              show WW K G 0 0 (MW A G.2.1 (au (au I 3 b3_50) 4 b4_50) F) 88 [(0, .ref (A 0)), (1, .int (J club)), (2, .int (J a)), (3, .int (J b)), (4, .int (J wins))] [.int (J (WON (I 1) club ((I 1) 6) a b)), .int (J 6), .ref (A 1)]
              have q85_0 := @VB_WON (I 1) club ((I 1) 6) a b (by assumption) (by omega) (by omega) (by omega)
              refine w_goto (pc := 88) hC dX12_match_88 (tgt := 98) (by decide) ?_
              refine w_iast (pc := 98) (g := (I 1)) (w2 := MW A G.2.1 (au (au (au I 1 (gu (I 1) 6 (WON (I 1) club ((I 1) 6) a b))) 3 b3_50) 4 b4_50) F) hC dX12_match_98 1 rfl (by omega) (Nat.le_of_ble_eq_true rfl) rfl ?_
              generalize h98 : gu (I 1) 6 (WON (I 1) club ((I 1) 6) a b) = s98
              have e98 := congrFun h98.symm 6
              rw [gu_eq] at e98
              have hV98 : VB (I 1 0) (s98 6) := by rw [e98]; first | exact hV | exact VB_WON hV (by omega) (by omega) hrk
              refine w_aload_n (pc := 99) hC dX12_match_99 0 rfl rfl ?_
              refine w_aload_n (pc := 100) hC dX12_match_100 0 rfl rfl ?_
              refine w_getf (pc := 101) (v := .ref (A 1)) hC dX12_match_101 fi_X12_9 0 rfl rfl ?_
              refine w_bipush (pc := 104) hC dX12_match_104 (z := 6) rfl ?_
              refine w_iald (pc := 106) (g := s98) hC dX12_match_106 1 rfl (by omega) (Nat.le_of_ble_eq_true rfl) ?_
              refine w_iload_n (pc := 107) hC dX12_match_107 2 rfl rfl ?_
              refine w_callV (pc := 108) (As := [.int (J (s98 6)), .int (J a)]) (rest := []) hC dX12_match_108 cv_X12_68 (c_X12_rungOf (kl K) G A (au (au (au I 1 s98) 3 b3_50) 4 b4_50) F ((I 1) 0) (s98 6) a (show VB ((I 1) 0) (s98 6) from by first | (rw [e98]; exact VB_WON hV (by omega) (by omega) hrk) | (rw [e98]; exact hV)) (show 0 ≤ a ∧ a < ((I 1) 0) from by first | assumption | omega)) (by decide) ⟨Nat.le_of_ble_eq_true rfl, Nat.le_of_ble_eq_true rfl⟩ (q0 := 0) rfl rfl rfl rfl (Nat.le_of_ble_eq_true rfl) rfl (fun vo wo hv => ?_)
              obtain ⟨hv1, hw1⟩ := hv
              rw [hv1, hw1]
              show WW K G 0 0 (MW A G.2.1 (au (au (au I 1 s98) 3 b3_50) 4 b4_50) F) 111 [(0, .ref (A 0)), (1, .int (J club)), (2, .int (J a)), (3, .int (J b)), (4, .int (J wins))] [.int (J (rk ((I 1) 0) (s98 6) a))]
              have q108_0 := (@rk_spec ((I 1) 0) (s98 6) a (by assumption) (by omega) (by omega)).1
              refine w_iret (pc := 111) hC hRT dX12_match_111 rfl ?_
              refine ⟨s98, b3_50, b4_50, retI (by rw [e98]; unfold v_match; rw [← hrf, if_neg (by omega), if_neg (by omega), if_neg (by omega)]; first | rw [if_pos (by omega)] | rw [if_neg (by omega)]), rfl, ?_⟩
              · subst h98; unfold n_match; rw [← hrf]; first | (rw [if_pos (by omega)]) | (rw [if_neg (by omega)]; exact gu_same _)
          · refine w_bipush (pc := 60) hC dX12_match_60 (z := (-3)) rfl ?_
            refine w_iret (pc := 62) hC hRT dX12_match_62 rfl ?_
            refine ⟨(I 1), b3_50, b4_50, retI (by unfold v_match; rw [← hrf, if_neg (by omega), if_neg (by omega), if_pos (by omega)]), rfl, ?_⟩
            · unfold n_match; rw [← hrf, if_neg (by omega)]
        · refine w_bipush (pc := 31) hC dX12_match_31 (z := (-2)) rfl ?_
          refine w_iret (pc := 33) hC hRT dX12_match_33 rfl ?_
          refine ⟨(I 1), (I 3), (I 4), retI (by first | (simp only [v_match]; (repeat' split) <;> first | rfl | omega)), rfl, ?_⟩
          · unfold n_match; rw [if_neg (by omega)]
      · refine w_iconst (pc := 24) hC dX12_match_24 ?_
        refine w_iret (pc := 25) hC hRT dX12_match_25 rfl ?_
        refine ⟨(I 1), (I 3), (I 4), retI (by first | (simp only [v_match]; (repeat' split) <;> first | rfl | omega)), rfl, ?_⟩
        · unfold n_match; rw [if_neg (by omega)]
