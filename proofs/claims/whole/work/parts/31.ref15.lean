
theorem CLS_1 {S : Int → Int} {a : Int} {l : List Int} {u w : Int} (ha : 0 ≤ a) : CLS S a l u w 1 = S 1 := by
  unfold CLS
  rw [if_neg (by decide), if_neg (by omega), if_neg (by omega), if_neg (by omega), if_neg (by omega)]

set_option maxRecDepth 100000 in
set_option maxHeartbeats 4000000 in
theorem c_X12_club (l : Launch) (G : GT) (A : Nat → Nat) (I : Nat → Int → Int) (F : Nat → Int)   (hR : RI (I 1)) : CT l yX12_club cX12_club 2 (some .int) 27 0 0 G [.ref (A 0)] (MW A G.2.1 I F) (fun vo wo => ∃ (b1 : Int → Int) (g4 : Int) (g5 : Int) (g6 : Int) (g7 : Int) (g8 : Int), vo = some (.int (J (v_club (I 1)))) ∧ wo = MW A G.2.1 (au I 1 b1) (fu (fu (fu (fu (fu F 4 g4) 5 g5) 6 g6) 7 g7) 8 g8) ∧ (b1 = n_club (I 1))) := by
  refine CT_of (own := RX12) rfl rfl (Nat.le_of_ble_eq_true rfl) (fun K hl hnL hC hRT hin => ?_)
  subst hl
  show WW K G 0 0 (MW A G.2.1 I F) 0 [(0, .ref (A 0))] []
  have hcl := hR.cl
  have htp := hR.tp
  refine w_aload_n (pc := 0) hC dX12_club_0 0 rfl rfl ?_
  refine w_getf (pc := 1) (v := .ref (A 1)) hC dX12_club_1 fi_X12_9 0 rfl rfl ?_
  refine w_iconst (pc := 4) hC dX12_club_4 ?_
  refine w_iald (pc := 5) (g := (I 1)) hC dX12_club_5 1 rfl (by omega) (Nat.le_of_ble_eq_true rfl) ?_
  refine w_iconst (pc := 6) hC dX12_club_6 ?_
  refine w_icmp_ne (pc := 7) (tgt := 13) hC dX12_club_7 (by decide) (by omega) (fun c7 => ?_) (fun c7 => ?_)
  · refine w_aload_n (pc := 13) hC dX12_club_13 0 rfl rfl ?_
    refine w_aload_n (pc := 14) hC dX12_club_14 0 rfl rfl ?_
    refine w_getf (pc := 15) (v := .ref (A 1)) hC dX12_club_15 fi_X12_9 0 rfl rfl ?_
    refine w_iconst (pc := 18) hC dX12_club_18 ?_
    refine w_iald (pc := 19) (g := (I 1)) hC dX12_club_19 1 rfl (by omega) (Nat.le_of_ble_eq_true rfl) ?_
    refine w_putf (pc := 20) (w2 := MW A G.2.1 I (fu F 4 ((I 1) 1))) hC dX12_club_20 fi_X12_103 fp_X12_4 rfl 0 rfl (rfl) (rfl) (Nat.le_of_ble_eq_true rfl) rfl ?_
    refine w_aload_n (pc := 23) hC dX12_club_23 0 rfl rfl ?_
    refine w_aload_n (pc := 24) hC dX12_club_24 0 rfl rfl ?_
    refine w_getf (pc := 25) (v := .ref (A 1)) hC dX12_club_25 fi_X12_9 0 rfl rfl ?_
    refine w_iconst (pc := 28) hC dX12_club_28 ?_
    refine w_iald (pc := 29) (g := (I 1)) hC dX12_club_29 1 rfl (by omega) (Nat.le_of_ble_eq_true rfl) ?_
    refine w_putf (pc := 30) (w2 := MW A G.2.1 I (fu (fu F 4 ((I 1) 1)) 6 ((I 1) 5))) hC dX12_club_30 fi_X12_80 fp_X12_6 rfl 0 rfl (rfl) (rfl) (Nat.le_of_ble_eq_true rfl) rfl ?_
    refine w_aload_n (pc := 33) hC dX12_club_33 0 rfl rfl ?_
    refine w_getf (pc := 34) (v := .ref (A 1)) hC dX12_club_34 fi_X12_9 0 rfl rfl ?_
    refine w_iconst (pc := 37) hC dX12_club_37 ?_
    refine w_iconst (pc := 38) hC dX12_club_38 ?_
    refine w_iast (pc := 39) (g := (I 1)) (w2 := MW A G.2.1 (au I 1 (gu (I 1) 5 0)) (fu (fu F 4 ((I 1) 1)) 6 ((I 1) 5))) hC dX12_club_39 1 rfl (by omega) (Nat.le_of_ble_eq_true rfl) rfl ?_
    generalize h39 : gu (I 1) 5 0 = s39
    refine w_aload_n (pc := 40) hC dX12_club_40 0 rfl rfl ?_
    refine w_getf (pc := 41) (v := .ref (A 1)) hC dX12_club_41 fi_X12_9 0 rfl rfl ?_
    refine w_sipush (pc := 44) hC dX12_club_44 (z := 178) rfl ?_
    refine w_aload_n (pc := 47) hC dX12_club_47 0 rfl rfl ?_
    refine w_getf (pc := 48) (v := .int (J ((I 1) 1))) hC dX12_club_48 fi_X12_103 0 rfl rfl ?_
    refine w_iadd (pc := 51) hC dX12_club_51 ?_
    refine w_iconst (pc := 52) hC dX12_club_52 ?_
    refine w_iast (pc := 53) (g := s39) (w2 := MW A G.2.1 (au I 1 (gu s39 (178 + ((I 1) 1)) 0)) (fu (fu F 4 ((I 1) 1)) 6 ((I 1) 5))) hC dX12_club_53 1 rfl (by omega) (Nat.le_of_ble_eq_true rfl) rfl ?_
    generalize h53 : gu s39 (178 + ((I 1) 1)) 0 = s53
    refine w_aload_n (pc := 54) hC dX12_club_54 0 rfl rfl ?_
    refine w_getf (pc := 55) (v := .ref (A 1)) hC dX12_club_55 fi_X12_9 0 rfl rfl ?_
    refine w_sipush (pc := 58) hC dX12_club_58 (z := 183) rfl ?_
    refine w_aload_n (pc := 61) hC dX12_club_61 0 rfl rfl ?_
    refine w_getf (pc := 62) (v := .int (J ((I 1) 1))) hC dX12_club_62 fi_X12_103 0 rfl rfl ?_
    refine w_iadd (pc := 65) hC dX12_club_65 ?_
    refine w_iconst (pc := 66) hC dX12_club_66 ?_
    refine w_iast (pc := 67) (g := s53) (w2 := MW A G.2.1 (au I 1 (gu s53 (183 + ((I 1) 1)) 0)) (fu (fu F 4 ((I 1) 1)) 6 ((I 1) 5))) hC dX12_club_67 1 rfl (by omega) (Nat.le_of_ble_eq_true rfl) rfl ?_
    generalize h67 : gu s53 (183 + ((I 1) 1)) 0 = s67
    refine w_aload_n (pc := 68) hC dX12_club_68 0 rfl rfl ?_
    refine w_getf (pc := 69) (v := .ref (A 1)) hC dX12_club_69 fi_X12_9 0 rfl rfl ?_
    refine w_sipush (pc := 72) hC dX12_club_72 (z := 188) rfl ?_
    refine w_aload_n (pc := 75) hC dX12_club_75 0 rfl rfl ?_
    refine w_getf (pc := 76) (v := .int (J ((I 1) 1))) hC dX12_club_76 fi_X12_103 0 rfl rfl ?_
    refine w_iadd (pc := 79) hC dX12_club_79 ?_
    refine w_iconst (pc := 80) hC dX12_club_80 ?_
    refine w_iast (pc := 81) (g := s67) (w2 := MW A G.2.1 (au I 1 (gu s67 (188 + ((I 1) 1)) 0)) (fu (fu F 4 ((I 1) 1)) 6 ((I 1) 5))) hC dX12_club_81 1 rfl (by omega) (Nat.le_of_ble_eq_true rfl) rfl ?_
    generalize h81 : gu s67 (188 + ((I 1) 1)) 0 = s81
    refine w_aload_n (pc := 82) hC dX12_club_82 0 rfl rfl ?_
    refine w_iconst (pc := 83) hC dX12_club_83 ?_
    refine w_putf (pc := 84) (w2 := MW A G.2.1 (au I 1 s81) (fu (fu (fu F 4 ((I 1) 1)) 5 0) 6 ((I 1) 5))) hC dX12_club_84 fi_X12_77 fp_X12_5 rfl 0 rfl (rfl) (rfl) (Nat.le_of_ble_eq_true rfl) rfl ?_
    refine w_aload_n (pc := 87) hC dX12_club_87 0 rfl rfl ?_
    refine w_iconst (pc := 88) hC dX12_club_88 ?_
    refine w_putf (pc := 89) (w2 := MW A G.2.1 (au I 1 s81) (fu (fu (fu (fu F 4 ((I 1) 1)) 5 0) 6 ((I 1) 5)) 7 0)) hC dX12_club_89 fi_X12_83 fp_X12_7 rfl 0 rfl (rfl) (rfl) (Nat.le_of_ble_eq_true rfl) rfl ?_
    refine w_aload_n (pc := 92) hC dX12_club_92 0 rfl rfl ?_
    refine w_iconst (pc := 93) hC dX12_club_93 ?_
    refine w_putf (pc := 94) (w2 := MW A G.2.1 (au I 1 s81) (fu (fu (fu (fu (fu F 4 ((I 1) 1)) 5 0) 6 ((I 1) 5)) 7 0) 8 0)) hC dX12_club_94 fi_X12_106 fp_X12_8 rfl 0 rfl (rfl) (rfl) (Nat.le_of_ble_eq_true rfl) rfl ?_
    refine w_iconst (pc := 97) hC dX12_club_97 ?_
    refine w_istore_n (pc := 98) hC dX12_club_98 rfl (lv2 := [(1, .int (J 1)), (0, .ref (A 0))]) (by rw [hnL]; decide) rfl ?_
    have hS0 : s81 = CLS (I 1) ((I 1) 1) [] 0 0 := by
      subst h81 h67 h53 h39; exact CLS_0 ⟨hcl.1, by omega⟩
    refine w_aload_n (pc := 99) hC dX12_club_99 1 rfl rfl ?_
    refine w_callV (pc := 100) (As := []) (rest := []) hC dX12_club_100 cv_X12_146 (c_X12_clauseHere (kl K) G A (au I 1 s81) (fu (fu (fu (fu (fu F 4 ((I 1) 1)) 5 0) 6 ((I 1) 5)) 7 0) 8 0) (I 1) ([] : List Int) 0 0 (show s81 = CLS (I 1) ((I 1) 1) ([] : List Int) 0 0 from by exact hS0) (show RI (I 1) from by first | assumption | omega) (show 0 ≤ ((I 1) 1) ∧ ((I 1) 1) < 5 from by first | assumption | omega) (show (0 ≤ 0 ∧ 0 ≤ ((I 1) 5)) ∧ ((I 1) 5) ≤ 120 from by first | assumption | omega) (show 0 = 0 ∨ 0 = 1 from by first | assumption | omega) (show (([] : List Int).length : Int) ≤ 0 from by decide) (show 0 = 0 from by first | assumption | omega) (show (0 ≤ 0 ∧ 0 ≤ 99) ∧ 0 ≤ 0 ∧ 0 ≤ 2 from by decide)) (by decide) ⟨Nat.le_of_ble_eq_true rfl, Nat.le_of_ble_eq_true rfl⟩ (q0 := 0) rfl rfl rfl rfl (Nat.le_of_ble_eq_true rfl) rfl (fun vo wo hv => ?_)
    obtain ⟨b1_100, g5_100, g7_100, g8_100, hv1, hw1, r100⟩ := hv
    rw [hv1, hw1]
    show WW K G 0 0 (MW A G.2.1 (au I 1 b1_100) (fu (fu (fu (fu (fu F 4 ((I 1) 1)) 5 g5_100) 6 ((I 1) 5)) 7 g7_100) 8 g8_100)) 103 [(1, .int (J 1)), (0, .ref (A 0))] []
    have r100 : (∃ z2 : CQ, z2 = clq (I 1) ((I 1) 5) ((0, 0, ([] : List Int)), 0, 0) ∧ g5_100 = z2.1.1 ∧ g7_100 = z2.1.2.1 ∧ b1_100 = CLS (I 1) ((I 1) 1) z2.1.2.2 z2.2.1 z2.2.2) ∧ g8_100 = 0 := r100
    obtain ⟨⟨z1, hz1, e5, e7, e1⟩, e8⟩ := r100
    have hb0 : PB ((I 1) 5) ((0, 0, []) : PQ) := ⟨⟨by decide, htp.1⟩, Or.inl rfl⟩
    have hg0 := clq_gr (S := I 1) (z := ((0, 0, []), 0, 0)) hb0
    rw [← hz1] at hg0
    have hl0 := hg0.2.2
    simp only [List.length_nil] at hl0
    have hu0 := clq_ub (S := I 1) (e := (I 1) 5) (z := ((0, 0, []), 0, 0)) ⟨by decide, by decide⟩
    rw [← hz1] at hu0
    have loop103 : ∀ (nF : Nat) (n : Int) (a1_103 : Int → Int) (f5_103 : Int) (f7_103 : Int) (f8_103 : Int), (1 ≤ n ∧ n ≤ 8) → (∃ z : CQ, f5_103 = z.1.1 ∧ f7_103 = z.1.2.1 ∧ a1_103 = CLS (I 1) ((I 1) 1) z.1.2.2 z.2.1 z.2.2 ∧ lpc (I 1) ((I 1) 5) (8 - n).toNat z = RES (I 1) ∧ PB ((I 1) 5) z.1 ∧ (z.1.2.2.length : Int) ≤ z.1.1 ∧ UB z) → (f8_103 = 0) → (8 - n) < (nF : Int) → WW K G 0 0 (MW A G.2.1 (au I 1 a1_103) (fu (fu (fu (fu (fu F 4 ((I 1) 1)) 5 f5_103) 6 ((I 1) 5)) 7 f7_103) 8 f8_103)) 103 [(0, .ref (A 0)), (1, .int (J n))] [] := by
      intro nF
      induction nF with
      | zero => intro n a1_103 f5_103 f7_103 f8_103 i1 i2 i3 hm103; exact absurd hm103 (by omega)
      | succ nF ih103 =>
        intro n a1_103 f5_103 f7_103 f8_103 i1 i2 i3 hm103
        obtain ⟨z, j1, j2, j3, j4, j5, j6, j7⟩ := i2
        have jb := j5.1
        have jw := j5.2
        have hT1 := CLS_tp (S := I 1) (a := (I 1) 1) (l := z.1.2.2) (u := z.2.1) (w := z.2.2) hcl.1
        rw [← j3] at hT1
        refine w_aload_n (pc := 103) hC dX12_club_103 0 rfl rfl ?_
        refine w_getf (pc := 104) (v := .int (J f7_103)) hC dX12_club_104 fi_X12_83 0 rfl rfl ?_
        refine w_if_ne (pc := 107) (tgt := 145) hC dX12_club_107 (by decide) (by omega) (fun c107 => ?_) (fun c107 => ?_)
        · have hz : z = RES (I 1) := by
            rw [← j4]
            exact (lpc_end _ (fun h => by omega)).symm
          refine w_aload_n (pc := 145) hC dX12_club_145 0 rfl rfl ?_
          refine w_getf (pc := 146) (v := .int (J f7_103)) hC dX12_club_146 fi_X12_83 0 rfl rfl ?_
          refine w_if_ne (pc := 149) (tgt := 163) hC dX12_club_149 (by decide) (by omega) (fun c149 => ?_) (fun c149 => ?_)
          · refine w_bipush (pc := 163) hC dX12_club_163 (z := (-10)) rfl ?_
            refine w_aload_n (pc := 165) hC dX12_club_165 0 rfl rfl ?_
            refine w_getf (pc := 166) (v := .int (J f5_103)) hC dX12_club_166 fi_X12_77 0 rfl rfl ?_
            refine w_isub (pc := 169) hC dX12_club_169 ?_
            refine w_iret (pc := 170) hC hRT dX12_club_170 rfl ?_
            refine ⟨a1_103, (I 1) 1, f5_103, (I 1) 5, f7_103, f8_103, retI (by unfold v_club; rw [if_neg (by omega), ← hz, if_pos (by omega), j1]), rfl, ?_⟩
            · unfold n_club; rw [if_neg (by omega), ← hz, if_pos (by omega)]; exact j3
          · refine w_aload_n (pc := 152) hC dX12_club_152 0 rfl rfl ?_
            refine w_getf (pc := 153) (v := .int (J f5_103)) hC dX12_club_153 fi_X12_77 0 rfl rfl ?_
            refine w_aload_n (pc := 156) hC dX12_club_156 0 rfl rfl ?_
            refine w_getf (pc := 157) (v := .int (J ((I 1) 5))) hC dX12_club_157 fi_X12_80 0 rfl rfl ?_
            refine w_icmp_eq (pc := 160) (tgt := 171) hC dX12_club_160 (by decide) (by omega) (fun c160 => ?_) (fun c160 => ?_)
            · refine w_aload_n (pc := 171) hC dX12_club_171 0 rfl rfl ?_
              refine w_getf (pc := 172) (v := .ref (A 1)) hC dX12_club_172 fi_X12_9 0 rfl rfl ?_
              refine w_iconst (pc := 175) hC dX12_club_175 ?_
              refine w_dup2 (pc := 176) hC dX12_club_176 rfl rfl ?_
              have hc1 := CLS_1 (S := I 1) (a := (I 1) 1) (l := z.1.2.2) (u := z.2.1) (w := z.2.2) hcl.1
              rw [← j3] at hc1
              refine w_iald (pc := 177) (g := a1_103) hC dX12_club_177 1 rfl (by omega) (Nat.le_of_ble_eq_true rfl) ?_
              refine w_iconst (pc := 178) hC dX12_club_178 ?_
              refine w_iadd (pc := 179) hC dX12_club_179 ?_
              refine w_iast (pc := 180) (g := a1_103) (w2 := MW A G.2.1 (au I 1 (gu a1_103 1 ((a1_103 1) + 1))) (fu (fu (fu (fu (fu F 4 ((I 1) 1)) 5 f5_103) 6 ((I 1) 5)) 7 f7_103) 8 f8_103)) hC dX12_club_180 1 rfl (by omega) (Nat.le_of_ble_eq_true rfl) rfl ?_
              generalize h180 : gu a1_103 1 ((a1_103 1) + 1) = s180
              refine w_aload_n (pc := 181) hC dX12_club_181 0 rfl rfl ?_
              refine w_getf (pc := 182) (v := .int (J ((I 1) 1))) hC dX12_club_182 fi_X12_103 0 rfl rfl ?_
              refine w_iret (pc := 185) hC hRT dX12_club_185 rfl ?_
              refine ⟨s180, (I 1) 1, f5_103, (I 1) 5, f7_103, f8_103, retI (by unfold v_club; rw [if_neg (by omega), ← hz, if_neg (by omega)]), rfl, ?_⟩
              · subst h180; unfold n_club; rw [if_neg (by omega), ← hz, if_neg (by omega), ← j3, hc1]
            · refine w_bipush (pc := 163) hC dX12_club_163 (z := (-10)) rfl ?_
              refine w_aload_n (pc := 165) hC dX12_club_165 0 rfl rfl ?_
              refine w_getf (pc := 166) (v := .int (J f5_103)) hC dX12_club_166 fi_X12_77 0 rfl rfl ?_
              refine w_isub (pc := 169) hC dX12_club_169 ?_
              refine w_iret (pc := 170) hC hRT dX12_club_170 rfl ?_
              refine ⟨a1_103, (I 1) 1, f5_103, (I 1) 5, f7_103, f8_103, retI (by unfold v_club; rw [if_neg (by omega), ← hz, if_pos (by omega), j1]), rfl, ?_⟩
              · unfold n_club; rw [if_neg (by omega), ← hz, if_pos (by omega)]; exact j3
        · refine w_iload_n (pc := 110) hC dX12_club_110 1 rfl rfl ?_
          refine w_bipush (pc := 111) hC dX12_club_111 (z := 8) rfl ?_
          refine w_icmp_ge (pc := 113) (tgt := 145) hC dX12_club_113 (by decide) (by omega) (fun c113 => ?_) (fun c113 => ?_)
          · have hz : z = RES (I 1) := by
              rw [← j4]
              rw [show (8 - n).toNat = 0 by omega]; rfl
            refine w_aload_n (pc := 145) hC dX12_club_145 0 rfl rfl ?_
            refine w_getf (pc := 146) (v := .int (J f7_103)) hC dX12_club_146 fi_X12_83 0 rfl rfl ?_
            refine w_if_ne (pc := 149) (tgt := 163) hC dX12_club_149 (by decide) (by omega) (fun c149 => ?_) (fun c149 => ?_)
            · refine w_bipush (pc := 163) hC dX12_club_163 (z := (-10)) rfl ?_
              refine w_aload_n (pc := 165) hC dX12_club_165 0 rfl rfl ?_
              refine w_getf (pc := 166) (v := .int (J f5_103)) hC dX12_club_166 fi_X12_77 0 rfl rfl ?_
              refine w_isub (pc := 169) hC dX12_club_169 ?_
              refine w_iret (pc := 170) hC hRT dX12_club_170 rfl ?_
              refine ⟨a1_103, (I 1) 1, f5_103, (I 1) 5, f7_103, f8_103, retI (by unfold v_club; rw [if_neg (by omega), ← hz, if_pos (by omega), j1]), rfl, ?_⟩
              · unfold n_club; rw [if_neg (by omega), ← hz, if_pos (by omega)]; exact j3
            · refine w_aload_n (pc := 152) hC dX12_club_152 0 rfl rfl ?_
              refine w_getf (pc := 153) (v := .int (J f5_103)) hC dX12_club_153 fi_X12_77 0 rfl rfl ?_
              refine w_aload_n (pc := 156) hC dX12_club_156 0 rfl rfl ?_
              refine w_getf (pc := 157) (v := .int (J ((I 1) 5))) hC dX12_club_157 fi_X12_80 0 rfl rfl ?_
              refine w_icmp_eq (pc := 160) (tgt := 171) hC dX12_club_160 (by decide) (by omega) (fun c160 => ?_) (fun c160 => ?_)
              · refine w_aload_n (pc := 171) hC dX12_club_171 0 rfl rfl ?_
                refine w_getf (pc := 172) (v := .ref (A 1)) hC dX12_club_172 fi_X12_9 0 rfl rfl ?_
                refine w_iconst (pc := 175) hC dX12_club_175 ?_
                refine w_dup2 (pc := 176) hC dX12_club_176 rfl rfl ?_
                have hc1 := CLS_1 (S := I 1) (a := (I 1) 1) (l := z.1.2.2) (u := z.2.1) (w := z.2.2) hcl.1
                rw [← j3] at hc1
                refine w_iald (pc := 177) (g := a1_103) hC dX12_club_177 1 rfl (by omega) (Nat.le_of_ble_eq_true rfl) ?_
                refine w_iconst (pc := 178) hC dX12_club_178 ?_
                refine w_iadd (pc := 179) hC dX12_club_179 ?_
                refine w_iast (pc := 180) (g := a1_103) (w2 := MW A G.2.1 (au I 1 (gu a1_103 1 ((a1_103 1) + 1))) (fu (fu (fu (fu (fu F 4 ((I 1) 1)) 5 f5_103) 6 ((I 1) 5)) 7 f7_103) 8 f8_103)) hC dX12_club_180 1 rfl (by omega) (Nat.le_of_ble_eq_true rfl) rfl ?_
                generalize h180 : gu a1_103 1 ((a1_103 1) + 1) = s180
                refine w_aload_n (pc := 181) hC dX12_club_181 0 rfl rfl ?_
                refine w_getf (pc := 182) (v := .int (J ((I 1) 1))) hC dX12_club_182 fi_X12_103 0 rfl rfl ?_
                refine w_iret (pc := 185) hC hRT dX12_club_185 rfl ?_
                refine ⟨s180, (I 1) 1, f5_103, (I 1) 5, f7_103, f8_103, retI (by unfold v_club; rw [if_neg (by omega), ← hz, if_neg (by omega)]), rfl, ?_⟩
                · subst h180; unfold n_club; rw [if_neg (by omega), ← hz, if_neg (by omega), ← j3, hc1]
              · refine w_bipush (pc := 163) hC dX12_club_163 (z := (-10)) rfl ?_
                refine w_aload_n (pc := 165) hC dX12_club_165 0 rfl rfl ?_
                refine w_getf (pc := 166) (v := .int (J f5_103)) hC dX12_club_166 fi_X12_77 0 rfl rfl ?_
                refine w_isub (pc := 169) hC dX12_club_169 ?_
                refine w_iret (pc := 170) hC hRT dX12_club_170 rfl ?_
                refine ⟨a1_103, (I 1) 1, f5_103, (I 1) 5, f7_103, f8_103, retI (by unfold v_club; rw [if_neg (by omega), ← hz, if_pos (by omega), j1]), rfl, ?_⟩
                · unfold n_club; rw [if_neg (by omega), ← hz, if_pos (by omega)]; exact j3
          · refine w_aload_n (pc := 116) hC dX12_club_116 0 rfl rfl ?_
            refine w_callV (pc := 117) (As := []) (rest := []) hC dX12_club_117 cv_X12_87 (c_X12_here (kl K) G A (au I 1 a1_103) (fu (fu (fu (fu (fu F 4 ((I 1) 1)) 5 f5_103) 6 ((I 1) 5)) 7 f7_103) 8 f8_103) (I 1) (show TP a1_103 (I 1) from by exact hT1) (show RI (I 1) from by first | assumption | omega) (show (0 ≤ f5_103 ∧ f5_103 ≤ ((I 1) 5)) ∧ ((I 1) 5) ≤ 120 from by first | assumption | omega)) (by decide) ⟨Nat.le_of_ble_eq_true rfl, Nat.le_of_ble_eq_true rfl⟩ (q0 := 0) rfl rfl rfl rfl (Nat.le_of_ble_eq_true rfl) rfl (fun vo wo hv => ?_)
            obtain ⟨hv1, hw1⟩ := hv
            rw [hv1, hw1]
            show WW K G 0 0 (MW A G.2.1 (au I 1 a1_103) (fu (fu (fu (fu (fu F 4 ((I 1) 1)) 5 f5_103) 6 ((I 1) 5)) 7 f7_103) 8 f8_103)) 120 [(0, .ref (A 0)), (1, .int (J n))] [.int (J (hr (I 1) ((I 1) 5) f5_103))]
            have q117_0 := hr_bd (e := ((I 1) 5)) (sp := f5_103) (by assumption : RI (I 1)) (by omega) (by omega)
            refine w_bipush (pc := 120) hC dX12_club_120 (z := 59) rfl ?_
            refine w_icmp_ne (pc := 122) (tgt := 145) hC dX12_club_122 (by decide) (by omega) (fun c122 => ?_) (fun c122 => ?_)
            · have hz : z = RES (I 1) := by
                rw [← j4]
                exact (lpc_end _ (fun h => c122 (by rw [j1]; exact h.2))).symm
              refine w_aload_n (pc := 145) hC dX12_club_145 0 rfl rfl ?_
              refine w_getf (pc := 146) (v := .int (J f7_103)) hC dX12_club_146 fi_X12_83 0 rfl rfl ?_
              refine w_if_ne (pc := 149) (tgt := 163) hC dX12_club_149 (by decide) (by omega) (fun c149 => ?_) (fun c149 => ?_)
              · refine w_bipush (pc := 163) hC dX12_club_163 (z := (-10)) rfl ?_
                refine w_aload_n (pc := 165) hC dX12_club_165 0 rfl rfl ?_
                refine w_getf (pc := 166) (v := .int (J f5_103)) hC dX12_club_166 fi_X12_77 0 rfl rfl ?_
                refine w_isub (pc := 169) hC dX12_club_169 ?_
                refine w_iret (pc := 170) hC hRT dX12_club_170 rfl ?_
                refine ⟨a1_103, (I 1) 1, f5_103, (I 1) 5, f7_103, f8_103, retI (by unfold v_club; rw [if_neg (by omega), ← hz, if_pos (by omega), j1]), rfl, ?_⟩
                · unfold n_club; rw [if_neg (by omega), ← hz, if_pos (by omega)]; exact j3
              · refine w_aload_n (pc := 152) hC dX12_club_152 0 rfl rfl ?_
                refine w_getf (pc := 153) (v := .int (J f5_103)) hC dX12_club_153 fi_X12_77 0 rfl rfl ?_
                refine w_aload_n (pc := 156) hC dX12_club_156 0 rfl rfl ?_
                refine w_getf (pc := 157) (v := .int (J ((I 1) 5))) hC dX12_club_157 fi_X12_80 0 rfl rfl ?_
                refine w_icmp_eq (pc := 160) (tgt := 171) hC dX12_club_160 (by decide) (by omega) (fun c160 => ?_) (fun c160 => ?_)
                · refine w_aload_n (pc := 171) hC dX12_club_171 0 rfl rfl ?_
                  refine w_getf (pc := 172) (v := .ref (A 1)) hC dX12_club_172 fi_X12_9 0 rfl rfl ?_
                  refine w_iconst (pc := 175) hC dX12_club_175 ?_
                  refine w_dup2 (pc := 176) hC dX12_club_176 rfl rfl ?_
                  have hc1 := CLS_1 (S := I 1) (a := (I 1) 1) (l := z.1.2.2) (u := z.2.1) (w := z.2.2) hcl.1
                  rw [← j3] at hc1
                  refine w_iald (pc := 177) (g := a1_103) hC dX12_club_177 1 rfl (by omega) (Nat.le_of_ble_eq_true rfl) ?_
                  refine w_iconst (pc := 178) hC dX12_club_178 ?_
                  refine w_iadd (pc := 179) hC dX12_club_179 ?_
                  refine w_iast (pc := 180) (g := a1_103) (w2 := MW A G.2.1 (au I 1 (gu a1_103 1 ((a1_103 1) + 1))) (fu (fu (fu (fu (fu F 4 ((I 1) 1)) 5 f5_103) 6 ((I 1) 5)) 7 f7_103) 8 f8_103)) hC dX12_club_180 1 rfl (by omega) (Nat.le_of_ble_eq_true rfl) rfl ?_
                  generalize h180 : gu a1_103 1 ((a1_103 1) + 1) = s180
                  refine w_aload_n (pc := 181) hC dX12_club_181 0 rfl rfl ?_
                  refine w_getf (pc := 182) (v := .int (J ((I 1) 1))) hC dX12_club_182 fi_X12_103 0 rfl rfl ?_
                  refine w_iret (pc := 185) hC hRT dX12_club_185 rfl ?_
                  refine ⟨s180, (I 1) 1, f5_103, (I 1) 5, f7_103, f8_103, retI (by unfold v_club; rw [if_neg (by omega), ← hz, if_neg (by omega)]), rfl, ?_⟩
                  · subst h180; unfold n_club; rw [if_neg (by omega), ← hz, if_neg (by omega), ← j3, hc1]
                · refine w_bipush (pc := 163) hC dX12_club_163 (z := (-10)) rfl ?_
                  refine w_aload_n (pc := 165) hC dX12_club_165 0 rfl rfl ?_
                  refine w_getf (pc := 166) (v := .int (J f5_103)) hC dX12_club_166 fi_X12_77 0 rfl rfl ?_
                  refine w_isub (pc := 169) hC dX12_club_169 ?_
                  refine w_iret (pc := 170) hC hRT dX12_club_170 rfl ?_
                  refine ⟨a1_103, (I 1) 1, f5_103, (I 1) 5, f7_103, f8_103, retI (by unfold v_club; rw [if_neg (by omega), ← hz, if_pos (by omega), j1]), rfl, ?_⟩
                  · unfold n_club; rw [if_neg (by omega), ← hz, if_pos (by omega)]; exact j3
            · have hat := hr_at c122 (by decide)
              have hb2 : PB ((I 1) 5) (f5_103 + 1, f7_103, z.1.2.2) := ⟨⟨by dsimp only; omega, by dsimp only; omega⟩, by dsimp only; omega⟩
              refine w_aload_n (pc := 125) hC dX12_club_125 0 rfl rfl ?_
              refine w_dup (pc := 126) hC dX12_club_126 rfl ?_
              refine w_getf (pc := 127) (v := .int (J f5_103)) hC dX12_club_127 fi_X12_77 0 rfl rfl ?_
              refine w_iconst (pc := 130) hC dX12_club_130 ?_
              refine w_iadd (pc := 131) hC dX12_club_131 ?_
              refine w_putf (pc := 132) (w2 := MW A G.2.1 (au I 1 a1_103) (fu (fu (fu (fu (fu F 4 ((I 1) 1)) 5 (f5_103 + 1)) 6 ((I 1) 5)) 7 f7_103) 8 f8_103)) hC dX12_club_132 fi_X12_77 fp_X12_5 rfl 0 rfl (rfl) (rfl) (Nat.le_of_ble_eq_true rfl) rfl ?_
              refine w_aload_n (pc := 135) hC dX12_club_135 0 rfl rfl ?_
              refine w_callV (pc := 136) (As := []) (rest := []) hC dX12_club_136 cv_X12_146 (c_X12_clauseHere (kl K) G A (au I 1 a1_103) (fu (fu (fu (fu (fu F 4 ((I 1) 1)) 5 (f5_103 + 1)) 6 ((I 1) 5)) 7 f7_103) 8 f8_103) (I 1) z.1.2.2 z.2.1 z.2.2 (show a1_103 = CLS (I 1) ((I 1) 1) z.1.2.2 z.2.1 z.2.2 from by exact j3) (show RI (I 1) from by first | assumption | omega) (show 0 ≤ ((I 1) 1) ∧ ((I 1) 1) < 5 from by first | assumption | omega) (show (0 ≤ (f5_103 + 1) ∧ (f5_103 + 1) ≤ ((I 1) 5)) ∧ ((I 1) 5) ≤ 120 from by first | assumption | omega) (show f7_103 = 0 ∨ f7_103 = 1 from by omega) (show (z.1.2.2.length : Int) ≤ (f5_103 + 1) from by omega) (show f8_103 = 0 from by first | assumption | omega) (show (0 ≤ z.2.1 ∧ z.2.1 ≤ 99) ∧ 0 ≤ z.2.2 ∧ z.2.2 ≤ 2 from by exact j7)) (by decide) ⟨Nat.le_of_ble_eq_true rfl, Nat.le_of_ble_eq_true rfl⟩ (q0 := 0) rfl rfl rfl rfl (Nat.le_of_ble_eq_true rfl) rfl (fun vo wo hv => ?_)
              obtain ⟨b1_136, g5_136, g7_136, g8_136, hv1, hw1, r136⟩ := hv
              rw [hv1, hw1]
              show WW K G 0 0 (MW A G.2.1 (au I 1 b1_136) (fu (fu (fu (fu (fu F 4 ((I 1) 1)) 5 g5_136) 6 ((I 1) 5)) 7 g7_136) 8 g8_136)) 139 [(0, .ref (A 0)), (1, .int (J n))] []
              have r136 : (∃ z2 : CQ, z2 = clq (I 1) ((I 1) 5) (((f5_103 + 1), f7_103, z.1.2.2), z.2.1, z.2.2) ∧ g5_136 = z2.1.1 ∧ g7_136 = z2.1.2.1 ∧ b1_136 = CLS (I 1) ((I 1) 1) z2.1.2.2 z2.2.1 z2.2.2) ∧ g8_136 = f8_103 := r136
              refine w_iinc (pc := 139) hC dX12_club_139 (lv2 := [(1, .int (J (n + 1))), (0, .ref (A 0))]) 1 rfl (by rw [hnL]; decide) rfl ?_
              refine w_goto (pc := 142) hC dX12_club_142 (tgt := 103) (by decide) ?_
              refine w_sub [1, 0] (lv2 := [(0, .ref (A 0)), (1, .int (J (n + 1)))]) rfl ?_
              refine ih103 (n + 1) b1_136 g5_136 g7_136 g8_136 ?_ ?_ ?_ ?_
              · first | assumption | omega
              · obtain ⟨⟨z2, hz2, k5, k7, k1⟩, k8⟩ := r136
                have hg2 := clq_gr (S := I 1) (z := ((f5_103 + 1, f7_103, z.1.2.2), z.2.1, z.2.2)) hb2
                rw [← hz2] at hg2
                have hl2 := hg2.2.2
                dsimp only at hl2
                have hu2 := clq_ub (S := I 1) (e := (I 1) 5) (z := ((f5_103 + 1, f7_103, z.1.2.2), z.2.1, z.2.2)) j7
                rw [← hz2] at hu2
                refine ⟨z2, k5, k7, k1, ?_, hg2.pb hb2, by omega, hu2⟩
                rw [hz2, j1, j2, ← j4, show (8 - n).toNat = (8 - (n + 1)).toNat + 1 by omega]
                show _ = (if z.1.2.1 = 0 ∧ hr (I 1) ((I 1) 5) z.1.1 = 59 then _ else z)
                rw [if_pos (And.intro (by omega) (by rw [← j1]; exact c122))]
              · first | assumption | omega
              · omega
    refine w_sub [1, 0] (lv2 := [(0, .ref (A 0)), (1, .int (J 1))]) rfl ?_
    refine loop103 ((8 - 1) + 1 : Int).toNat 1 b1_100 g5_100 g7_100 g8_100 ?_ ?_ ?_ ?_
    · first | assumption | omega
    · exact ⟨z1, e5, e7, e1, by rw [hz1]; rfl, hg0.pb hb0, by omega, hu0⟩
    · first | assumption | omega
    · omega
  · refine w_bipush (pc := 10) hC dX12_club_10 (z := (-4)) rfl ?_
    refine w_iret (pc := 12) hC hRT dX12_club_12 rfl ?_
    refine ⟨(I 1), (F 4), (F 5), (F 6), (F 7), (F 8), retI (by unfold v_club; rw [if_pos (by omega)]), rfl, ?_⟩
    · unfold n_club; rw [if_pos (by omega)]
