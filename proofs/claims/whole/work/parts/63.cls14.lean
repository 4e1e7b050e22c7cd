
theorem clb_ob {A D : Nat → Nat} {T : Nat} {I2 : Nat → Int → Int} {F2 : Nat → Int} {Q2 : Nat → Nat → Option Nat} {b f : Nat} {cy : Nat → ClassId} {S : Int → Int} {I : Nat → Int → Int} {F : Nat → Int} {Q : Nat → Nat → Option Nat} {P : va_W} (h : LRb b f cy S I F Q P) (hz : ∀ c : Nat, c < 5 → S 1 ≤ (c : Int) → Q (b + 11) c = none) {c : Nat} (hc : c < 5) : ∀ v : Nat, Q (b + 11) c = some v → ∃ (qk ci : Nat) (vs : List Value) (r : vw_C), (CW A D T cy I2 F2 Q2 P)[qk]? = some (v, .inr (ci, vs)) ∧ vwCl[ci]? = some r ∧ (r.1 = "LadderClub$Club" ∨ (r.1, "LadderClub$Club") ∈ nCs) := by
  intro v hv
  rcases Int.lt_or_le (c : Int) (S 1) with g | g
  · obtain ⟨q, e1, i, j, qc, gg, h1, -, -⟩ := h.2.2.2.2.2.2.2.2 (c : Int) (by omega) g
    rw [Int.toNat_natCast, hv] at e1
    cases e1
    exact ⟨60 + i, 2, _, _, CW_P h1, rfl, Or.inl rfl⟩
  · rw [hz c hc g] at hv
    cases hv
theorem akb_ob {A D : Nat → Nat} {T : Nat} {I2 : Nat → Int → Int} {F2 : Nat → Int} {Q2 : Nat → Nat → Option Nat} {b f : Nat} {cy : Nat → ClassId} {S : Int → Int} {I : Nat → Int → Int} {F : Nat → Int} {Q : Nat → Nat → Option Nat} {P : va_W} (h : LRb b f cy S I F Q P) (hR : RI S) {c : Nat} (hc : c < 6) : ∀ v : Nat, Q (b + 9) c = some v → ∃ (qk ci : Nat) (vs : List Value) (r : vw_C), (CW A D T cy I2 F2 Q2 P)[qk]? = some (v, .inr (ci, vs)) ∧ vwCl[ci]? = some r ∧ (r.1 = "LadderClub$Asker" ∨ (r.1, "LadderClub$Asker") ∈ nCs) := by
  intro v hv
  obtain ⟨q, e1, i, h1⟩ := h.2.2.2.2.2.2.2.1 (c : Int) (by omega) (by omega)
  rw [Int.toNat_natCast, hv] at e1
  cases e1
  have hk : 0 ≤ (if (c : Int) < S 0 then S (166 + (c : Int)) else 0) ∧ (if (c : Int) < S 0 then S (166 + (c : Int)) else 0) ≤ 6 := by
    split
    · exact hR.kd _ (by omega) (by omega)
    · omega
  have hcl := kCn_nCs hk
  exact ⟨60 + i, _, _, _, CW_P h1, hcl.1, hcl.2⟩

set_option maxRecDepth 100000 in
set_option maxHeartbeats 4000000 in
theorem c_X6_copy_v24 (l : Launch) (G : GT) (A D : Nat → Nat) (T : Nat) (I : Nat → Int → Int) (F : Nat → Int) (Q : Nat → Nat → Option Nat) (P : va_W) (S : Int → Int)  (hR : RI S) (hL : LRb 1 1 G.2.1 S I F Q P) (hby : ∀ j : Int, 0 ≤ j → j < 120 → -128 ≤ (I 11) j ∧ (I 11) j ≤ 127) (hz : ∀ c : Nat, c < 5 → S 1 ≤ (c : Int) → Q 12 c = none) : CT l yX6_copy cX6_copy 3 none 1 0 0 G [.ref (A 24), .ref (A 1)] (CW A D T G.2.1 I F Q P) (fun vo wo => ∃ (b25 : Int → Int) (b27 : Int → Int) (b28 : Int → Int) (b29 : Int → Int) (b30 : Int → Int) (b31 : Int → Int) (b32 : Int → Int) (b34 : Int → Int) (b36 : Int → Int) (b37 : Int → Int) (b38 : Int → Int) (b40 : Int → Int) (b41 : Int → Int) (b42 : Int → Int) (b43 : Int → Int) (b44 : Int → Int) (b45 : Int → Int) (g11 : Int) (g12 : Int) (g13 : Int) (g14 : Int) (g15 : Int) (g16 : Int) (q33 : Nat → Option Nat) (q35 : Nat → Option Nat), vo = none ∧ wo = CW A D T G.2.1 (au (au (au (au (au (au (au (au (au (au (au (au (au (au (au (au (au I 25 b25) 27 b27) 28 b28) 29 b29) 30 b30) 31 b31) 32 b32) 34 b34) 36 b36) 37 b37) 38 b38) 40 b40) 41 b41) 42 b42) 43 b43) 44 b44) 45 b45) (fu (fu (fu (fu (fu (fu F 11 g11) 12 g12) 13 g13) 14 g14) 15 g15) 16 g16) (qu (qu Q 33 q33) 35 q35) P ∧ (LRb 24 11 G.2.1 S (au (au (au (au (au (au (au (au (au (au (au (au (au (au (au (au (au I 25 b25) 27 b27) 28 b28) 29 b29) 30 b30) 31 b31) 32 b32) 34 b34) 36 b36) 37 b37) 38 b38) 40 b40) 41 b41) 42 b42) 43 b43) 44 b44) 45 b45) (fu (fu (fu (fu (fu (fu F 11 g11) 12 g12) 13 g13) 14 g14) 15 g15) 16 g16) (qu (qu Q 33 q33) 35 q35) P ∧ (∀ j : Int, 0 ≤ j → j < 120 → -128 ≤ b34 j ∧ b34 j ≤ 127) ∧ ∀ c : Nat, c < 5 → S 1 ≤ (c : Int) → (qu (qu Q 33 q33) 35 q35) 35 c = none)) := by
  refine CT_of (own := RX6) rfl rfl (Nat.le_of_ble_eq_true rfl) (fun K hl hnL hC hRT hin => ?_)
  subst hl
  show WW K G 0 0 (CW A D T G.2.1 I F Q P) 0 [(0, .ref (A 24)), (1, .ref (A 1))] []
  refine w_aload_n (pc := 0) hC dX6_copy_0 0 rfl rfl ?_
  refine w_aload_n (pc := 1) hC dX6_copy_1 1 rfl rfl ?_
  refine w_getf (pc := 2) (v := .int (J (F 1))) hC dX6_copy_2 fi_X6_9 1 CW_1 rfl ?_
  refine w_putf (pc := 5) (w2 := CW A D T G.2.1 I (fu F 11 (F 1)) Q P) hC dX6_copy_5 fi_X6_9 fp_X6_0 rfl 24 CW_24 (rfl) (rfl) (Nat.le_of_ble_eq_true rfl) (CWf_11 rfl) ?_
  refine w_aload_n (pc := 8) hC dX6_copy_8 0 rfl rfl ?_
  refine w_aload_n (pc := 9) hC dX6_copy_9 1 rfl rfl ?_
  refine w_getf (pc := 10) (v := .int (J (F 2))) hC dX6_copy_10 fi_X6_24 1 CW_1 rfl ?_
  refine w_putf (pc := 13) (w2 := CW A D T G.2.1 I (fu (fu F 11 (F 1)) 12 (F 2)) Q P) hC dX6_copy_13 fi_X6_24 fp_X6_3 rfl 24 CW_24 (rfl) (rfl) (Nat.le_of_ble_eq_true rfl) (CWf_12 rfl) ?_
  refine w_aload_n (pc := 16) hC dX6_copy_16 0 rfl rfl ?_
  refine w_aload_n (pc := 17) hC dX6_copy_17 1 rfl rfl ?_
  refine w_getf (pc := 18) (v := .int (J (F 3))) hC dX6_copy_18 fi_X6_37 1 CW_1 rfl ?_
  refine w_putf (pc := 21) (w2 := CW A D T G.2.1 I (fu (fu (fu F 11 (F 1)) 12 (F 2)) 13 (F 3)) Q P) hC dX6_copy_21 fi_X6_37 fp_X6_6 rfl 24 CW_24 (rfl) (rfl) (Nat.le_of_ble_eq_true rfl) (CWf_13 rfl) ?_
  refine w_aload_n (pc := 24) hC dX6_copy_24 0 rfl rfl ?_
  refine w_aload_n (pc := 25) hC dX6_copy_25 1 rfl rfl ?_
  refine w_getf (pc := 26) (v := .int (J (F 4))) hC dX6_copy_26 fi_X6_46 1 CW_1 rfl ?_
  refine w_putf (pc := 29) (w2 := CW A D T G.2.1 I (fu (fu (fu (fu F 11 (F 1)) 12 (F 2)) 13 (F 3)) 14 (F 4)) Q P) hC dX6_copy_29 fi_X6_46 fp_X6_8 rfl 24 CW_24 (rfl) (rfl) (Nat.le_of_ble_eq_true rfl) (CWf_14 rfl) ?_
  refine w_aload_n (pc := 32) hC dX6_copy_32 0 rfl rfl ?_
  refine w_aload_n (pc := 33) hC dX6_copy_33 1 rfl rfl ?_
  refine w_getf (pc := 34) (v := .int (J (F 5))) hC dX6_copy_34 fi_X6_52 1 CW_1 rfl ?_
  refine w_putf (pc := 37) (w2 := CW A D T G.2.1 I (fu (fu (fu (fu (fu F 11 (F 1)) 12 (F 2)) 13 (F 3)) 14 (F 4)) 15 (F 5)) Q P) hC dX6_copy_37 fi_X6_52 fp_X6_10 rfl 24 CW_24 (rfl) (rfl) (Nat.le_of_ble_eq_true rfl) (CWf_15 rfl) ?_
  refine w_aload_n (pc := 40) hC dX6_copy_40 0 rfl rfl ?_
  refine w_aload_n (pc := 41) hC dX6_copy_41 1 rfl rfl ?_
  refine w_getf (pc := 42) (v := .int (J (F 6))) hC dX6_copy_42 fi_X6_61 1 CW_1 rfl ?_
  refine w_putf (pc := 45) (w2 := CW A D T G.2.1 I (fu (fu (fu (fu (fu (fu F 11 (F 1)) 12 (F 2)) 13 (F 3)) 14 (F 4)) 15 (F 5)) 16 (F 6)) Q P) hC dX6_copy_45 fi_X6_61 fp_X6_13 rfl 24 CW_24 (rfl) (rfl) (Nat.le_of_ble_eq_true rfl) (CWf_16 rfl) ?_
  refine w_aload_n (pc := 48) hC dX6_copy_48 1 rfl rfl ?_
  refine w_getf (pc := 49) (v := .ref (A 2)) hC dX6_copy_49 fi_X6_15 1 CW_1 rfl ?_
  refine w_iconst (pc := 52) hC dX6_copy_52 ?_
  refine w_aload_n (pc := 53) hC dX6_copy_53 0 rfl rfl ?_
  refine w_getf (pc := 54) (v := .ref (A 25)) hC dX6_copy_54 fi_X6_15 24 CW_24 rfl ?_
  refine w_iconst (pc := 57) hC dX6_copy_57 ?_
  refine w_bipush (pc := 58) hC dX6_copy_58 (z := 6) rfl ?_
  refine w_copyI (pc := 60) (f := (I 2)) (g := (I 25)) (w2 := CW A D T G.2.1 (au I 25 (cpg (I 2) (I 25) 6)) (fu (fu (fu (fu (fu (fu F 11 (F 1)) 12 (F 2)) 13 (F 3)) 14 (F 4)) 15 (F 5)) 16 (F 6)) Q P) hC dX6_copy_60 tw_5_26 2 25 CW_2 CW_25 (by omega) (Nat.le_of_ble_eq_true rfl) (Nat.le_of_ble_eq_true rfl) (CWa_25 rfl) ?_
  generalize h60_1 : cpg (I 2) (I 25) 6 = s60_1
  refine w_aload_n (pc := 63) hC dX6_copy_63 1 rfl rfl ?_
  refine w_getf (pc := 64) (v := .ref (A 11)) hC dX6_copy_64 fi_X6_33 1 CW_1 rfl ?_
  refine w_iconst (pc := 67) hC dX6_copy_67 ?_
  refine w_aload_n (pc := 68) hC dX6_copy_68 0 rfl rfl ?_
  refine w_getf (pc := 69) (v := .ref (A 34)) hC dX6_copy_69 fi_X6_33 24 CW_24 rfl ?_
  refine w_iconst (pc := 72) hC dX6_copy_72 ?_
  refine w_bipush (pc := 73) hC dX6_copy_73 (z := 120) rfl ?_
  refine w_copyB (pc := 75) (f := (I 11)) (g := (I 34)) (w2 := CW A D T G.2.1 (au (au I 25 s60_1) 34 (cpg (I 11) (I 34) 120)) (fu (fu (fu (fu (fu (fu F 11 (F 1)) 12 (F 2)) 13 (F 3)) 14 (F 4)) 15 (F 5)) 16 (F 6)) Q P) hC dX6_copy_75 tw_5_26 11 34 CW_11 CW_34 (by omega) (hby) (Nat.le_of_ble_eq_true rfl) (Nat.le_of_ble_eq_true rfl) (CWa_34 rfl) ?_
  generalize h75_2 : cpg (I 11) (I 34) 120 = s75_2
  refine w_aload_n (pc := 78) hC dX6_copy_78 1 rfl rfl ?_
  refine w_getf (pc := 79) (v := .ref (A 13)) hC dX6_copy_79 fi_X6_49 1 CW_1 rfl ?_
  refine w_iconst (pc := 82) hC dX6_copy_82 ?_
  refine w_aload_n (pc := 83) hC dX6_copy_83 0 rfl rfl ?_
  refine w_getf (pc := 84) (v := .ref (A 36)) hC dX6_copy_84 fi_X6_49 24 CW_24 rfl ?_
  refine w_iconst (pc := 87) hC dX6_copy_87 ?_
  refine w_bipush (pc := 88) hC dX6_copy_88 (z := 6) rfl ?_
  refine w_copyI (pc := 90) (f := (I 13)) (g := (I 36)) (w2 := CW A D T G.2.1 (au (au (au I 25 s60_1) 34 s75_2) 36 (cpg (I 13) (I 36) 6)) (fu (fu (fu (fu (fu (fu F 11 (F 1)) 12 (F 2)) 13 (F 3)) 14 (F 4)) 15 (F 5)) 16 (F 6)) Q P) hC dX6_copy_90 tw_5_26 13 36 CW_13 CW_36 (by omega) (Nat.le_of_ble_eq_true rfl) (Nat.le_of_ble_eq_true rfl) (CWa_36 rfl) ?_
  generalize h90_3 : cpg (I 13) (I 36) 6 = s90_3
  refine w_aload_n (pc := 93) hC dX6_copy_93 1 rfl rfl ?_
  refine w_getf (pc := 94) (v := .ref (A 14)) hC dX6_copy_94 fi_X6_55 1 CW_1 rfl ?_
  refine w_iconst (pc := 97) hC dX6_copy_97 ?_
  refine w_aload_n (pc := 98) hC dX6_copy_98 0 rfl rfl ?_
  refine w_getf (pc := 99) (v := .ref (A 37)) hC dX6_copy_99 fi_X6_55 24 CW_24 rfl ?_
  refine w_iconst (pc := 102) hC dX6_copy_102 ?_
  refine w_bipush (pc := 103) hC dX6_copy_103 (z := 15) rfl ?_
  refine w_copyI (pc := 105) (f := (I 14)) (g := (I 37)) (w2 := CW A D T G.2.1 (au (au (au (au I 25 s60_1) 34 s75_2) 36 s90_3) 37 (cpg (I 14) (I 37) 15)) (fu (fu (fu (fu (fu (fu F 11 (F 1)) 12 (F 2)) 13 (F 3)) 14 (F 4)) 15 (F 5)) 16 (F 6)) Q P) hC dX6_copy_105 tw_5_26 14 37 CW_14 CW_37 (by omega) (Nat.le_of_ble_eq_true rfl) (Nat.le_of_ble_eq_true rfl) (CWa_37 rfl) ?_
  generalize h105_4 : cpg (I 14) (I 37) 15 = s105_4
  refine w_aload_n (pc := 108) hC dX6_copy_108 1 rfl rfl ?_
  refine w_getf (pc := 109) (v := .ref (A 15)) hC dX6_copy_109 fi_X6_58 1 CW_1 rfl ?_
  refine w_iconst (pc := 112) hC dX6_copy_112 ?_
  refine w_aload_n (pc := 113) hC dX6_copy_113 0 rfl rfl ?_
  refine w_getf (pc := 114) (v := .ref (A 38)) hC dX6_copy_114 fi_X6_58 24 CW_24 rfl ?_
  refine w_iconst (pc := 117) hC dX6_copy_117 ?_
  refine w_bipush (pc := 118) hC dX6_copy_118 (z := 15) rfl ?_
  refine w_copyI (pc := 120) (f := (I 15)) (g := (I 38)) (w2 := CW A D T G.2.1 (au (au (au (au (au I 25 s60_1) 34 s75_2) 36 s90_3) 37 s105_4) 38 (cpg (I 15) (I 38) 15)) (fu (fu (fu (fu (fu (fu F 11 (F 1)) 12 (F 2)) 13 (F 3)) 14 (F 4)) 15 (F 5)) 16 (F 6)) Q P) hC dX6_copy_120 tw_5_26 15 38 CW_15 CW_38 (by omega) (Nat.le_of_ble_eq_true rfl) (Nat.le_of_ble_eq_true rfl) (CWa_38 rfl) ?_
  generalize h120_5 : cpg (I 15) (I 38) 15 = s120_5
  refine w_iconst (pc := 123) hC dX6_copy_123 ?_
  refine w_istore_n (pc := 124) hC dX6_copy_124 rfl (lv2 := [(2, .int (J 0)), (0, .ref (A 24)), (1, .ref (A 1))]) (by rw [hnL]; decide) rfl ?_
  refine w_iload_n (pc := 125) hC dX6_copy_125 0 rfl rfl ?_
  refine w_iconst (pc := 126) hC dX6_copy_126 ?_
  refine w_icmp_ge (pc := 127) (tgt := 148) hC dX6_copy_127 (by decide) (by omega) (fun c127 => ?_) (fun c127 => ?_)
  · exact absurd c127 (by decide)
  · refine w_aload_n (pc := 130) hC dX6_copy_130 1 rfl rfl ?_
    refine w_getf (pc := 131) (v := .ref (A 35)) hC dX6_copy_131 fi_X6_42 24 CW_24 rfl ?_
    refine w_iload_n (pc := 134) hC dX6_copy_134 0 rfl rfl ?_
    refine w_aload_n (pc := 135) hC dX6_copy_135 2 rfl rfl ?_
    refine w_getf (pc := 136) (v := .ref (A 12)) hC dX6_copy_136 fi_X6_42 1 CW_1 rfl ?_
    refine w_iload_n (pc := 139) hC dX6_copy_139 0 rfl rfl ?_
    refine w_aald (t0 := 5) (f := Q 12) hC dX6_copy_140 12 CW_12 rfl rfl (by omega) (Nat.le_of_ble_eq_true rfl) ?_
    refine w_aastO (pc := 141) (t0 := 5) (f := Q 35) (o := (Q 12) (0 : Int).toNat) (w2 := CW A D T G.2.1 (au (au (au (au (au I 25 s60_1) 34 s75_2) 36 s90_3) 37 s105_4) 38 s120_5) (fu (fu (fu (fu (fu (fu F 11 (F 1)) 12 (F 2)) 13 (F 3)) 14 (F 4)) 15 (F 5)) 16 (F 6)) (qu Q 35 (va_up (Q 35) (0 : Int).toNat ((Q 12) (0 : Int).toNat))) P) hC dX6_copy_141 35 CW_35 rfl (clb_ob hL hz (by decide)) (by omega) (Nat.le_of_ble_eq_true rfl) (CWq_35 rfl) ?_
    refine w_iinc (pc := 142) hC dX6_copy_142 (lv2 := [(2, .int (J 1)), (0, .ref (A 24)), (1, .ref (A 1))]) 0 rfl (by rw [hnL]; decide) rfl ?_
    refine w_goto (pc := 145) hC dX6_copy_145 (tgt := 125) (by decide) ?_
    refine w_iload_n (pc := 125) hC dX6_copy_125 0 rfl rfl ?_
    refine w_iconst (pc := 126) hC dX6_copy_126 ?_
    refine w_icmp_ge (pc := 127) (tgt := 148) hC dX6_copy_127 (by decide) (by omega) (fun c127 => ?_) (fun c127 => ?_)
    · exact absurd c127 (by decide)
    · refine w_aload_n (pc := 130) hC dX6_copy_130 1 rfl rfl ?_
      refine w_getf (pc := 131) (v := .ref (A 35)) hC dX6_copy_131 fi_X6_42 24 CW_24 rfl ?_
      refine w_iload_n (pc := 134) hC dX6_copy_134 0 rfl rfl ?_
      refine w_aload_n (pc := 135) hC dX6_copy_135 2 rfl rfl ?_
      refine w_getf (pc := 136) (v := .ref (A 12)) hC dX6_copy_136 fi_X6_42 1 CW_1 rfl ?_
      refine w_iload_n (pc := 139) hC dX6_copy_139 0 rfl rfl ?_
      refine w_aald (t0 := 5) (f := Q 12) hC dX6_copy_140 12 CW_12 rfl rfl (by omega) (Nat.le_of_ble_eq_true rfl) ?_
      refine w_aastO (pc := 141) (t0 := 5) (f := va_up (Q 35) (0 : Int).toNat ((Q 12) (0 : Int).toNat)) (o := (Q 12) (1 : Int).toNat) (w2 := CW A D T G.2.1 (au (au (au (au (au I 25 s60_1) 34 s75_2) 36 s90_3) 37 s105_4) 38 s120_5) (fu (fu (fu (fu (fu (fu F 11 (F 1)) 12 (F 2)) 13 (F 3)) 14 (F 4)) 15 (F 5)) 16 (F 6)) (qu Q 35 (va_up (va_up (Q 35) (0 : Int).toNat ((Q 12) (0 : Int).toNat)) (1 : Int).toNat ((Q 12) (1 : Int).toNat))) P) hC dX6_copy_141 35 CW_35 rfl (clb_ob hL hz (by decide)) (by omega) (Nat.le_of_ble_eq_true rfl) (CWq_35 qu_rp) ?_
      refine w_iinc (pc := 142) hC dX6_copy_142 (lv2 := [(2, .int (J 2)), (0, .ref (A 24)), (1, .ref (A 1))]) 0 rfl (by rw [hnL]; decide) rfl ?_
      refine w_goto (pc := 145) hC dX6_copy_145 (tgt := 125) (by decide) ?_
      refine w_iload_n (pc := 125) hC dX6_copy_125 0 rfl rfl ?_
      refine w_iconst (pc := 126) hC dX6_copy_126 ?_
      refine w_icmp_ge (pc := 127) (tgt := 148) hC dX6_copy_127 (by decide) (by omega) (fun c127 => ?_) (fun c127 => ?_)
      · exact absurd c127 (by decide)
      · refine w_aload_n (pc := 130) hC dX6_copy_130 1 rfl rfl ?_
        refine w_getf (pc := 131) (v := .ref (A 35)) hC dX6_copy_131 fi_X6_42 24 CW_24 rfl ?_
        refine w_iload_n (pc := 134) hC dX6_copy_134 0 rfl rfl ?_
        refine w_aload_n (pc := 135) hC dX6_copy_135 2 rfl rfl ?_
        refine w_getf (pc := 136) (v := .ref (A 12)) hC dX6_copy_136 fi_X6_42 1 CW_1 rfl ?_
        refine w_iload_n (pc := 139) hC dX6_copy_139 0 rfl rfl ?_
        refine w_aald (t0 := 5) (f := Q 12) hC dX6_copy_140 12 CW_12 rfl rfl (by omega) (Nat.le_of_ble_eq_true rfl) ?_
        refine w_aastO (pc := 141) (t0 := 5) (f := va_up (va_up (Q 35) (0 : Int).toNat ((Q 12) (0 : Int).toNat)) (1 : Int).toNat ((Q 12) (1 : Int).toNat)) (o := (Q 12) (2 : Int).toNat) (w2 := CW A D T G.2.1 (au (au (au (au (au I 25 s60_1) 34 s75_2) 36 s90_3) 37 s105_4) 38 s120_5) (fu (fu (fu (fu (fu (fu F 11 (F 1)) 12 (F 2)) 13 (F 3)) 14 (F 4)) 15 (F 5)) 16 (F 6)) (qu Q 35 (va_up (va_up (va_up (Q 35) (0 : Int).toNat ((Q 12) (0 : Int).toNat)) (1 : Int).toNat ((Q 12) (1 : Int).toNat)) (2 : Int).toNat ((Q 12) (2 : Int).toNat))) P) hC dX6_copy_141 35 CW_35 rfl (clb_ob hL hz (by decide)) (by omega) (Nat.le_of_ble_eq_true rfl) (CWq_35 qu_rp) ?_
        refine w_iinc (pc := 142) hC dX6_copy_142 (lv2 := [(2, .int (J 3)), (0, .ref (A 24)), (1, .ref (A 1))]) 0 rfl (by rw [hnL]; decide) rfl ?_
        refine w_goto (pc := 145) hC dX6_copy_145 (tgt := 125) (by decide) ?_
        refine w_iload_n (pc := 125) hC dX6_copy_125 0 rfl rfl ?_
        refine w_iconst (pc := 126) hC dX6_copy_126 ?_
        refine w_icmp_ge (pc := 127) (tgt := 148) hC dX6_copy_127 (by decide) (by omega) (fun c127 => ?_) (fun c127 => ?_)
        · exact absurd c127 (by decide)
        · refine w_aload_n (pc := 130) hC dX6_copy_130 1 rfl rfl ?_
          refine w_getf (pc := 131) (v := .ref (A 35)) hC dX6_copy_131 fi_X6_42 24 CW_24 rfl ?_
          refine w_iload_n (pc := 134) hC dX6_copy_134 0 rfl rfl ?_
          refine w_aload_n (pc := 135) hC dX6_copy_135 2 rfl rfl ?_
          refine w_getf (pc := 136) (v := .ref (A 12)) hC dX6_copy_136 fi_X6_42 1 CW_1 rfl ?_
          refine w_iload_n (pc := 139) hC dX6_copy_139 0 rfl rfl ?_
          refine w_aald (t0 := 5) (f := Q 12) hC dX6_copy_140 12 CW_12 rfl rfl (by omega) (Nat.le_of_ble_eq_true rfl) ?_
          refine w_aastO (pc := 141) (t0 := 5) (f := va_up (va_up (va_up (Q 35) (0 : Int).toNat ((Q 12) (0 : Int).toNat)) (1 : Int).toNat ((Q 12) (1 : Int).toNat)) (2 : Int).toNat ((Q 12) (2 : Int).toNat)) (o := (Q 12) (3 : Int).toNat) (w2 := CW A D T G.2.1 (au (au (au (au (au I 25 s60_1) 34 s75_2) 36 s90_3) 37 s105_4) 38 s120_5) (fu (fu (fu (fu (fu (fu F 11 (F 1)) 12 (F 2)) 13 (F 3)) 14 (F 4)) 15 (F 5)) 16 (F 6)) (qu Q 35 (va_up (va_up (va_up (va_up (Q 35) (0 : Int).toNat ((Q 12) (0 : Int).toNat)) (1 : Int).toNat ((Q 12) (1 : Int).toNat)) (2 : Int).toNat ((Q 12) (2 : Int).toNat)) (3 : Int).toNat ((Q 12) (3 : Int).toNat))) P) hC dX6_copy_141 35 CW_35 rfl (clb_ob hL hz (by decide)) (by omega) (Nat.le_of_ble_eq_true rfl) (CWq_35 qu_rp) ?_
          refine w_iinc (pc := 142) hC dX6_copy_142 (lv2 := [(2, .int (J 4)), (0, .ref (A 24)), (1, .ref (A 1))]) 0 rfl (by rw [hnL]; decide) rfl ?_
          refine w_goto (pc := 145) hC dX6_copy_145 (tgt := 125) (by decide) ?_
          refine w_iload_n (pc := 125) hC dX6_copy_125 0 rfl rfl ?_
          refine w_iconst (pc := 126) hC dX6_copy_126 ?_
          refine w_icmp_ge (pc := 127) (tgt := 148) hC dX6_copy_127 (by decide) (by omega) (fun c127 => ?_) (fun c127 => ?_)
          · exact absurd c127 (by decide)
          · refine w_aload_n (pc := 130) hC dX6_copy_130 1 rfl rfl ?_
            refine w_getf (pc := 131) (v := .ref (A 35)) hC dX6_copy_131 fi_X6_42 24 CW_24 rfl ?_
            refine w_iload_n (pc := 134) hC dX6_copy_134 0 rfl rfl ?_
            refine w_aload_n (pc := 135) hC dX6_copy_135 2 rfl rfl ?_
            refine w_getf (pc := 136) (v := .ref (A 12)) hC dX6_copy_136 fi_X6_42 1 CW_1 rfl ?_
            refine w_iload_n (pc := 139) hC dX6_copy_139 0 rfl rfl ?_
            refine w_aald (t0 := 5) (f := Q 12) hC dX6_copy_140 12 CW_12 rfl rfl (by omega) (Nat.le_of_ble_eq_true rfl) ?_
            refine w_aastO (pc := 141) (t0 := 5) (f := va_up (va_up (va_up (va_up (Q 35) (0 : Int).toNat ((Q 12) (0 : Int).toNat)) (1 : Int).toNat ((Q 12) (1 : Int).toNat)) (2 : Int).toNat ((Q 12) (2 : Int).toNat)) (3 : Int).toNat ((Q 12) (3 : Int).toNat)) (o := (Q 12) (4 : Int).toNat) (w2 := CW A D T G.2.1 (au (au (au (au (au I 25 s60_1) 34 s75_2) 36 s90_3) 37 s105_4) 38 s120_5) (fu (fu (fu (fu (fu (fu F 11 (F 1)) 12 (F 2)) 13 (F 3)) 14 (F 4)) 15 (F 5)) 16 (F 6)) (qu Q 35 (va_up (va_up (va_up (va_up (va_up (Q 35) (0 : Int).toNat ((Q 12) (0 : Int).toNat)) (1 : Int).toNat ((Q 12) (1 : Int).toNat)) (2 : Int).toNat ((Q 12) (2 : Int).toNat)) (3 : Int).toNat ((Q 12) (3 : Int).toNat)) (4 : Int).toNat ((Q 12) (4 : Int).toNat))) P) hC dX6_copy_141 35 CW_35 rfl (clb_ob hL hz (by decide)) (by omega) (Nat.le_of_ble_eq_true rfl) (CWq_35 qu_rp) ?_
            refine w_iinc (pc := 142) hC dX6_copy_142 (lv2 := [(2, .int (J 5)), (0, .ref (A 24)), (1, .ref (A 1))]) 0 rfl (by rw [hnL]; decide) rfl ?_
            refine w_goto (pc := 145) hC dX6_copy_145 (tgt := 125) (by decide) ?_
            refine w_iload_n (pc := 125) hC dX6_copy_125 0 rfl rfl ?_
            refine w_iconst (pc := 126) hC dX6_copy_126 ?_
            refine w_icmp_ge (pc := 127) (tgt := 148) hC dX6_copy_127 (by decide) (by omega) (fun c127 => ?_) (fun c127 => ?_)
            · refine w_iconst (pc := 148) hC dX6_copy_148 ?_
              refine w_istore_n (pc := 149) hC dX6_copy_149 rfl (lv2 := [(2, .int (J 0)), (0, .ref (A 24)), (1, .ref (A 1))]) (by rw [hnL]; decide) rfl ?_
              refine w_iload_n (pc := 150) hC dX6_copy_150 0 rfl rfl ?_
              refine w_bipush (pc := 151) hC dX6_copy_151 (z := 6) rfl ?_
              refine w_icmp_ge (pc := 153) (tgt := 212) hC dX6_copy_153 (by decide) (by omega) (fun c153 => ?_) (fun c153 => ?_)
              · exact absurd c153 (by decide)
              · refine w_aload_n (pc := 156) hC dX6_copy_156 1 rfl rfl ?_
                refine w_getf (pc := 157) (v := .ref (A 33)) hC dX6_copy_157 fi_X6_29 24 CW_24 rfl ?_
                refine w_iload_n (pc := 160) hC dX6_copy_160 0 rfl rfl ?_
                refine w_aload_n (pc := 161) hC dX6_copy_161 2 rfl rfl ?_
                refine w_getf (pc := 162) (v := .ref (A 10)) hC dX6_copy_162 fi_X6_29 1 CW_1 rfl ?_
                refine w_iload_n (pc := 165) hC dX6_copy_165 0 rfl rfl ?_
                refine w_aald (t0 := 4) (f := Q 10) hC dX6_copy_166 10 CW_10 rfl rfl (by omega) (Nat.le_of_ble_eq_true rfl) ?_
                refine w_aastO (pc := 167) (t0 := 4) (f := Q 33) (o := (Q 10) (0 : Int).toNat) (w2 := CW A D T G.2.1 (au (au (au (au (au I 25 s60_1) 34 s75_2) 36 s90_3) 37 s105_4) 38 s120_5) (fu (fu (fu (fu (fu (fu F 11 (F 1)) 12 (F 2)) 13 (F 3)) 14 (F 4)) 15 (F 5)) 16 (F 6)) (qu (qu Q 33 (va_up (Q 33) (0 : Int).toNat ((Q 10) (0 : Int).toNat))) 35 (va_up (va_up (va_up (va_up (va_up (Q 35) (0 : Int).toNat ((Q 12) (0 : Int).toNat)) (1 : Int).toNat ((Q 12) (1 : Int).toNat)) (2 : Int).toNat ((Q 12) (2 : Int).toNat)) (3 : Int).toNat ((Q 12) (3 : Int).toNat)) (4 : Int).toNat ((Q 12) (4 : Int).toNat))) P) hC dX6_copy_167 33 CW_33 rfl (akb_ob hL hR (by decide)) (by omega) (Nat.le_of_ble_eq_true rfl) (CWq_33 (qu_cm (by decide) rfl)) ?_
                refine w_aload_n (pc := 168) hC dX6_copy_168 2 rfl rfl ?_
                refine w_getf (pc := 169) (v := .ref (A 3)) hC dX6_copy_169 fi_X6_21 1 CW_1 rfl ?_
                refine w_iload_n (pc := 172) hC dX6_copy_172 0 rfl rfl ?_
                refine w_aaldS (t0 := 6) (q := A 4) hC dX6_copy_173 3 CW_3 rfl rfl (by decide) (Nat.le_of_ble_eq_true rfl) rfl ?_
                refine w_iconst (pc := 174) hC dX6_copy_174 ?_
                refine w_aload_n (pc := 175) hC dX6_copy_175 1 rfl rfl ?_
                refine w_getf (pc := 176) (v := .ref (A 26)) hC dX6_copy_176 fi_X6_21 24 CW_24 rfl ?_
                refine w_iload_n (pc := 179) hC dX6_copy_179 0 rfl rfl ?_
                refine w_aaldS (t0 := 6) (q := A 27) hC dX6_copy_180 26 CW_26 rfl rfl (by decide) (Nat.le_of_ble_eq_true rfl) rfl ?_
                refine w_iconst (pc := 181) hC dX6_copy_181 ?_
                refine w_bipush (pc := 182) hC dX6_copy_182 (z := 6) rfl ?_
                refine w_copyI (pc := 184) (f := (I 4)) (g := (I 27)) (w2 := CW A D T G.2.1 (au (au (au (au (au (au I 25 s60_1) 27 (cpg (I 4) (I 27) 6)) 34 s75_2) 36 s90_3) 37 s105_4) 38 s120_5) (fu (fu (fu (fu (fu (fu F 11 (F 1)) 12 (F 2)) 13 (F 3)) 14 (F 4)) 15 (F 5)) 16 (F 6)) (qu (qu Q 33 (va_up (Q 33) (0 : Int).toNat ((Q 10) (0 : Int).toNat))) 35 (va_up (va_up (va_up (va_up (va_up (Q 35) (0 : Int).toNat ((Q 12) (0 : Int).toNat)) (1 : Int).toNat ((Q 12) (1 : Int).toNat)) (2 : Int).toNat ((Q 12) (2 : Int).toNat)) (3 : Int).toNat ((Q 12) (3 : Int).toNat)) (4 : Int).toNat ((Q 12) (4 : Int).toNat))) P) hC dX6_copy_184 tw_5_26 4 27 CW_4 CW_27 (by omega) (Nat.le_of_ble_eq_true rfl) (Nat.le_of_ble_eq_true rfl) (CWa_27 (au_cm (by decide) (au_cm (by decide) (au_cm (by decide) (au_cm (by decide) rfl))))) ?_
                generalize h184_6 : cpg (I 4) (I 27) 6 = s184_6
                refine w_aload_n (pc := 187) hC dX6_copy_187 2 rfl rfl ?_
                refine w_getf (pc := 188) (v := .ref (A 16)) hC dX6_copy_188 fi_X6_64 1 CW_1 rfl ?_
                refine w_iload_n (pc := 191) hC dX6_copy_191 0 rfl rfl ?_
                refine w_aaldS (t0 := 6) (q := A 17) hC dX6_copy_192 16 CW_16 rfl rfl (by decide) (Nat.le_of_ble_eq_true rfl) rfl ?_
                refine w_iconst (pc := 193) hC dX6_copy_193 ?_
                refine w_aload_n (pc := 194) hC dX6_copy_194 1 rfl rfl ?_
                refine w_getf (pc := 195) (v := .ref (A 39)) hC dX6_copy_195 fi_X6_64 24 CW_24 rfl ?_
                refine w_iload_n (pc := 198) hC dX6_copy_198 0 rfl rfl ?_
                refine w_aaldS (t0 := 6) (q := A 40) hC dX6_copy_199 39 CW_39 rfl rfl (by decide) (Nat.le_of_ble_eq_true rfl) rfl ?_
                refine w_iconst (pc := 200) hC dX6_copy_200 ?_
                refine w_bipush (pc := 201) hC dX6_copy_201 (z := 6) rfl ?_
                refine w_copyI (pc := 203) (f := (I 17)) (g := (I 40)) (w2 := CW A D T G.2.1 (au (au (au (au (au (au (au I 25 s60_1) 27 s184_6) 34 s75_2) 36 s90_3) 37 s105_4) 38 s120_5) 40 (cpg (I 17) (I 40) 6)) (fu (fu (fu (fu (fu (fu F 11 (F 1)) 12 (F 2)) 13 (F 3)) 14 (F 4)) 15 (F 5)) 16 (F 6)) (qu (qu Q 33 (va_up (Q 33) (0 : Int).toNat ((Q 10) (0 : Int).toNat))) 35 (va_up (va_up (va_up (va_up (va_up (Q 35) (0 : Int).toNat ((Q 12) (0 : Int).toNat)) (1 : Int).toNat ((Q 12) (1 : Int).toNat)) (2 : Int).toNat ((Q 12) (2 : Int).toNat)) (3 : Int).toNat ((Q 12) (3 : Int).toNat)) (4 : Int).toNat ((Q 12) (4 : Int).toNat))) P) hC dX6_copy_203 tw_5_26 17 40 CW_17 CW_40 (by omega) (Nat.le_of_ble_eq_true rfl) (Nat.le_of_ble_eq_true rfl) (CWa_40 rfl) ?_
                generalize h203_7 : cpg (I 17) (I 40) 6 = s203_7
                refine w_iinc (pc := 206) hC dX6_copy_206 (lv2 := [(2, .int (J 1)), (0, .ref (A 24)), (1, .ref (A 1))]) 0 rfl (by rw [hnL]; decide) rfl ?_
                refine w_goto (pc := 209) hC dX6_copy_209 (tgt := 150) (by decide) ?_
                refine w_iload_n (pc := 150) hC dX6_copy_150 0 rfl rfl ?_
                refine w_bipush (pc := 151) hC dX6_copy_151 (z := 6) rfl ?_
                refine w_icmp_ge (pc := 153) (tgt := 212) hC dX6_copy_153 (by decide) (by omega) (fun c153 => ?_) (fun c153 => ?_)
                · exact absurd c153 (by decide)
                · refine w_aload_n (pc := 156) hC dX6_copy_156 1 rfl rfl ?_
                  refine w_getf (pc := 157) (v := .ref (A 33)) hC dX6_copy_157 fi_X6_29 24 CW_24 rfl ?_
                  refine w_iload_n (pc := 160) hC dX6_copy_160 0 rfl rfl ?_
                  refine w_aload_n (pc := 161) hC dX6_copy_161 2 rfl rfl ?_
                  refine w_getf (pc := 162) (v := .ref (A 10)) hC dX6_copy_162 fi_X6_29 1 CW_1 rfl ?_
                  refine w_iload_n (pc := 165) hC dX6_copy_165 0 rfl rfl ?_
                  refine w_aald (t0 := 4) (f := Q 10) hC dX6_copy_166 10 CW_10 rfl rfl (by omega) (Nat.le_of_ble_eq_true rfl) ?_
                  refine w_aastO (pc := 167) (t0 := 4) (f := va_up (Q 33) (0 : Int).toNat ((Q 10) (0 : Int).toNat)) (o := (Q 10) (1 : Int).toNat) (w2 := CW A D T G.2.1 (au (au (au (au (au (au (au I 25 s60_1) 27 s184_6) 34 s75_2) 36 s90_3) 37 s105_4) 38 s120_5) 40 s203_7) (fu (fu (fu (fu (fu (fu F 11 (F 1)) 12 (F 2)) 13 (F 3)) 14 (F 4)) 15 (F 5)) 16 (F 6)) (qu (qu Q 33 (va_up (va_up (Q 33) (0 : Int).toNat ((Q 10) (0 : Int).toNat)) (1 : Int).toNat ((Q 10) (1 : Int).toNat))) 35 (va_up (va_up (va_up (va_up (va_up (Q 35) (0 : Int).toNat ((Q 12) (0 : Int).toNat)) (1 : Int).toNat ((Q 12) (1 : Int).toNat)) (2 : Int).toNat ((Q 12) (2 : Int).toNat)) (3 : Int).toNat ((Q 12) (3 : Int).toNat)) (4 : Int).toNat ((Q 12) (4 : Int).toNat))) P) hC dX6_copy_167 33 CW_33 rfl (akb_ob hL hR (by decide)) (by omega) (Nat.le_of_ble_eq_true rfl) (CWq_33 (qu_cm (by decide) qu_rp)) ?_
                  refine w_aload_n (pc := 168) hC dX6_copy_168 2 rfl rfl ?_
                  refine w_getf (pc := 169) (v := .ref (A 3)) hC dX6_copy_169 fi_X6_21 1 CW_1 rfl ?_
                  refine w_iload_n (pc := 172) hC dX6_copy_172 0 rfl rfl ?_
                  refine w_aaldS (t0 := 6) (q := A 5) hC dX6_copy_173 3 CW_3 rfl rfl (by decide) (Nat.le_of_ble_eq_true rfl) rfl ?_
                  refine w_iconst (pc := 174) hC dX6_copy_174 ?_
                  refine w_aload_n (pc := 175) hC dX6_copy_175 1 rfl rfl ?_
                  refine w_getf (pc := 176) (v := .ref (A 26)) hC dX6_copy_176 fi_X6_21 24 CW_24 rfl ?_
                  refine w_iload_n (pc := 179) hC dX6_copy_179 0 rfl rfl ?_
                  refine w_aaldS (t0 := 6) (q := A 28) hC dX6_copy_180 26 CW_26 rfl rfl (by decide) (Nat.le_of_ble_eq_true rfl) rfl ?_
                  refine w_iconst (pc := 181) hC dX6_copy_181 ?_
                  refine w_bipush (pc := 182) hC dX6_copy_182 (z := 6) rfl ?_
                  refine w_copyI (pc := 184) (f := (I 5)) (g := (I 28)) (w2 := CW A D T G.2.1 (au (au (au (au (au (au (au (au I 25 s60_1) 27 s184_6) 28 (cpg (I 5) (I 28) 6)) 34 s75_2) 36 s90_3) 37 s105_4) 38 s120_5) 40 s203_7) (fu (fu (fu (fu (fu (fu F 11 (F 1)) 12 (F 2)) 13 (F 3)) 14 (F 4)) 15 (F 5)) 16 (F 6)) (qu (qu Q 33 (va_up (va_up (Q 33) (0 : Int).toNat ((Q 10) (0 : Int).toNat)) (1 : Int).toNat ((Q 10) (1 : Int).toNat))) 35 (va_up (va_up (va_up (va_up (va_up (Q 35) (0 : Int).toNat ((Q 12) (0 : Int).toNat)) (1 : Int).toNat ((Q 12) (1 : Int).toNat)) (2 : Int).toNat ((Q 12) (2 : Int).toNat)) (3 : Int).toNat ((Q 12) (3 : Int).toNat)) (4 : Int).toNat ((Q 12) (4 : Int).toNat))) P) hC dX6_copy_184 tw_5_26 5 28 CW_5 CW_28 (by omega) (Nat.le_of_ble_eq_true rfl) (Nat.le_of_ble_eq_true rfl) (CWa_28 (au_cm (by decide) (au_cm (by decide) (au_cm (by decide) (au_cm (by decide) (au_cm (by decide) rfl)))))) ?_
                  generalize h184_8 : cpg (I 5) (I 28) 6 = s184_8
                  refine w_aload_n (pc := 187) hC dX6_copy_187 2 rfl rfl ?_
                  refine w_getf (pc := 188) (v := .ref (A 16)) hC dX6_copy_188 fi_X6_64 1 CW_1 rfl ?_
                  refine w_iload_n (pc := 191) hC dX6_copy_191 0 rfl rfl ?_
                  refine w_aaldS (t0 := 6) (q := A 18) hC dX6_copy_192 16 CW_16 rfl rfl (by decide) (Nat.le_of_ble_eq_true rfl) rfl ?_
                  refine w_iconst (pc := 193) hC dX6_copy_193 ?_
                  refine w_aload_n (pc := 194) hC dX6_copy_194 1 rfl rfl ?_
                  refine w_getf (pc := 195) (v := .ref (A 39)) hC dX6_copy_195 fi_X6_64 24 CW_24 rfl ?_
                  refine w_iload_n (pc := 198) hC dX6_copy_198 0 rfl rfl ?_
                  refine w_aaldS (t0 := 6) (q := A 41) hC dX6_copy_199 39 CW_39 rfl rfl (by decide) (Nat.le_of_ble_eq_true rfl) rfl ?_
                  refine w_iconst (pc := 200) hC dX6_copy_200 ?_
                  refine w_bipush (pc := 201) hC dX6_copy_201 (z := 6) rfl ?_
                  refine w_copyI (pc := 203) (f := (I 18)) (g := (I 41)) (w2 := CW A D T G.2.1 (au (au (au (au (au (au (au (au (au I 25 s60_1) 27 s184_6) 28 s184_8) 34 s75_2) 36 s90_3) 37 s105_4) 38 s120_5) 40 s203_7) 41 (cpg (I 18) (I 41) 6)) (fu (fu (fu (fu (fu (fu F 11 (F 1)) 12 (F 2)) 13 (F 3)) 14 (F 4)) 15 (F 5)) 16 (F 6)) (qu (qu Q 33 (va_up (va_up (Q 33) (0 : Int).toNat ((Q 10) (0 : Int).toNat)) (1 : Int).toNat ((Q 10) (1 : Int).toNat))) 35 (va_up (va_up (va_up (va_up (va_up (Q 35) (0 : Int).toNat ((Q 12) (0 : Int).toNat)) (1 : Int).toNat ((Q 12) (1 : Int).toNat)) (2 : Int).toNat ((Q 12) (2 : Int).toNat)) (3 : Int).toNat ((Q 12) (3 : Int).toNat)) (4 : Int).toNat ((Q 12) (4 : Int).toNat))) P) hC dX6_copy_203 tw_5_26 18 41 CW_18 CW_41 (by omega) (Nat.le_of_ble_eq_true rfl) (Nat.le_of_ble_eq_true rfl) (CWa_41 rfl) ?_
                  generalize h203_9 : cpg (I 18) (I 41) 6 = s203_9
                  refine w_iinc (pc := 206) hC dX6_copy_206 (lv2 := [(2, .int (J 2)), (0, .ref (A 24)), (1, .ref (A 1))]) 0 rfl (by rw [hnL]; decide) rfl ?_
                  refine w_goto (pc := 209) hC dX6_copy_209 (tgt := 150) (by decide) ?_
                  refine w_iload_n (pc := 150) hC dX6_copy_150 0 rfl rfl ?_
                  refine w_bipush (pc := 151) hC dX6_copy_151 (z := 6) rfl ?_
                  refine w_icmp_ge (pc := 153) (tgt := 212) hC dX6_copy_153 (by decide) (by omega) (fun c153 => ?_) (fun c153 => ?_)
                  · exact absurd c153 (by decide)
                  · refine w_aload_n (pc := 156) hC dX6_copy_156 1 rfl rfl ?_
                    refine w_getf (pc := 157) (v := .ref (A 33)) hC dX6_copy_157 fi_X6_29 24 CW_24 rfl ?_
                    refine w_iload_n (pc := 160) hC dX6_copy_160 0 rfl rfl ?_
                    refine w_aload_n (pc := 161) hC dX6_copy_161 2 rfl rfl ?_
                    refine w_getf (pc := 162) (v := .ref (A 10)) hC dX6_copy_162 fi_X6_29 1 CW_1 rfl ?_
                    refine w_iload_n (pc := 165) hC dX6_copy_165 0 rfl rfl ?_
                    refine w_aald (t0 := 4) (f := Q 10) hC dX6_copy_166 10 CW_10 rfl rfl (by omega) (Nat.le_of_ble_eq_true rfl) ?_
                    refine w_aastO (pc := 167) (t0 := 4) (f := va_up (va_up (Q 33) (0 : Int).toNat ((Q 10) (0 : Int).toNat)) (1 : Int).toNat ((Q 10) (1 : Int).toNat)) (o := (Q 10) (2 : Int).toNat) (w2 := CW A D T G.2.1 (au (au (au (au (au (au (au (au (au I 25 s60_1) 27 s184_6) 28 s184_8) 34 s75_2) 36 s90_3) 37 s105_4) 38 s120_5) 40 s203_7) 41 s203_9) (fu (fu (fu (fu (fu (fu F 11 (F 1)) 12 (F 2)) 13 (F 3)) 14 (F 4)) 15 (F 5)) 16 (F 6)) (qu (qu Q 33 (va_up (va_up (va_up (Q 33) (0 : Int).toNat ((Q 10) (0 : Int).toNat)) (1 : Int).toNat ((Q 10) (1 : Int).toNat)) (2 : Int).toNat ((Q 10) (2 : Int).toNat))) 35 (va_up (va_up (va_up (va_up (va_up (Q 35) (0 : Int).toNat ((Q 12) (0 : Int).toNat)) (1 : Int).toNat ((Q 12) (1 : Int).toNat)) (2 : Int).toNat ((Q 12) (2 : Int).toNat)) (3 : Int).toNat ((Q 12) (3 : Int).toNat)) (4 : Int).toNat ((Q 12) (4 : Int).toNat))) P) hC dX6_copy_167 33 CW_33 rfl (akb_ob hL hR (by decide)) (by omega) (Nat.le_of_ble_eq_true rfl) (CWq_33 (qu_cm (by decide) qu_rp)) ?_
                    refine w_aload_n (pc := 168) hC dX6_copy_168 2 rfl rfl ?_
                    refine w_getf (pc := 169) (v := .ref (A 3)) hC dX6_copy_169 fi_X6_21 1 CW_1 rfl ?_
                    refine w_iload_n (pc := 172) hC dX6_copy_172 0 rfl rfl ?_
                    refine w_aaldS (t0 := 6) (q := A 6) hC dX6_copy_173 3 CW_3 rfl rfl (by decide) (Nat.le_of_ble_eq_true rfl) rfl ?_
                    refine w_iconst (pc := 174) hC dX6_copy_174 ?_
                    refine w_aload_n (pc := 175) hC dX6_copy_175 1 rfl rfl ?_
                    refine w_getf (pc := 176) (v := .ref (A 26)) hC dX6_copy_176 fi_X6_21 24 CW_24 rfl ?_
                    refine w_iload_n (pc := 179) hC dX6_copy_179 0 rfl rfl ?_
                    refine w_aaldS (t0 := 6) (q := A 29) hC dX6_copy_180 26 CW_26 rfl rfl (by decide) (Nat.le_of_ble_eq_true rfl) rfl ?_
                    refine w_iconst (pc := 181) hC dX6_copy_181 ?_
                    refine w_bipush (pc := 182) hC dX6_copy_182 (z := 6) rfl ?_
                    refine w_copyI (pc := 184) (f := (I 6)) (g := (I 29)) (w2 := CW A D T G.2.1 (au (au (au (au (au (au (au (au (au (au I 25 s60_1) 27 s184_6) 28 s184_8) 29 (cpg (I 6) (I 29) 6)) 34 s75_2) 36 s90_3) 37 s105_4) 38 s120_5) 40 s203_7) 41 s203_9) (fu (fu (fu (fu (fu (fu F 11 (F 1)) 12 (F 2)) 13 (F 3)) 14 (F 4)) 15 (F 5)) 16 (F 6)) (qu (qu Q 33 (va_up (va_up (va_up (Q 33) (0 : Int).toNat ((Q 10) (0 : Int).toNat)) (1 : Int).toNat ((Q 10) (1 : Int).toNat)) (2 : Int).toNat ((Q 10) (2 : Int).toNat))) 35 (va_up (va_up (va_up (va_up (va_up (Q 35) (0 : Int).toNat ((Q 12) (0 : Int).toNat)) (1 : Int).toNat ((Q 12) (1 : Int).toNat)) (2 : Int).toNat ((Q 12) (2 : Int).toNat)) (3 : Int).toNat ((Q 12) (3 : Int).toNat)) (4 : Int).toNat ((Q 12) (4 : Int).toNat))) P) hC dX6_copy_184 tw_5_26 6 29 CW_6 CW_29 (by omega) (Nat.le_of_ble_eq_true rfl) (Nat.le_of_ble_eq_true rfl) (CWa_29 (au_cm (by decide) (au_cm (by decide) (au_cm (by decide) (au_cm (by decide) (au_cm (by decide) (au_cm (by decide) rfl))))))) ?_
                    generalize h184_10 : cpg (I 6) (I 29) 6 = s184_10
                    refine w_aload_n (pc := 187) hC dX6_copy_187 2 rfl rfl ?_
                    refine w_getf (pc := 188) (v := .ref (A 16)) hC dX6_copy_188 fi_X6_64 1 CW_1 rfl ?_
                    refine w_iload_n (pc := 191) hC dX6_copy_191 0 rfl rfl ?_
                    refine w_aaldS (t0 := 6) (q := A 19) hC dX6_copy_192 16 CW_16 rfl rfl (by decide) (Nat.le_of_ble_eq_true rfl) rfl ?_
                    refine w_iconst (pc := 193) hC dX6_copy_193 ?_
                    refine w_aload_n (pc := 194) hC dX6_copy_194 1 rfl rfl ?_
                    refine w_getf (pc := 195) (v := .ref (A 39)) hC dX6_copy_195 fi_X6_64 24 CW_24 rfl ?_
                    refine w_iload_n (pc := 198) hC dX6_copy_198 0 rfl rfl ?_
                    refine w_aaldS (t0 := 6) (q := A 42) hC dX6_copy_199 39 CW_39 rfl rfl (by decide) (Nat.le_of_ble_eq_true rfl) rfl ?_
                    refine w_iconst (pc := 200) hC dX6_copy_200 ?_
                    refine w_bipush (pc := 201) hC dX6_copy_201 (z := 6) rfl ?_
                    refine w_copyI (pc := 203) (f := (I 19)) (g := (I 42)) (w2 := CW A D T G.2.1 (au (au (au (au (au (au (au (au (au (au (au I 25 s60_1) 27 s184_6) 28 s184_8) 29 s184_10) 34 s75_2) 36 s90_3) 37 s105_4) 38 s120_5) 40 s203_7) 41 s203_9) 42 (cpg (I 19) (I 42) 6)) (fu (fu (fu (fu (fu (fu F 11 (F 1)) 12 (F 2)) 13 (F 3)) 14 (F 4)) 15 (F 5)) 16 (F 6)) (qu (qu Q 33 (va_up (va_up (va_up (Q 33) (0 : Int).toNat ((Q 10) (0 : Int).toNat)) (1 : Int).toNat ((Q 10) (1 : Int).toNat)) (2 : Int).toNat ((Q 10) (2 : Int).toNat))) 35 (va_up (va_up (va_up (va_up (va_up (Q 35) (0 : Int).toNat ((Q 12) (0 : Int).toNat)) (1 : Int).toNat ((Q 12) (1 : Int).toNat)) (2 : Int).toNat ((Q 12) (2 : Int).toNat)) (3 : Int).toNat ((Q 12) (3 : Int).toNat)) (4 : Int).toNat ((Q 12) (4 : Int).toNat))) P) hC dX6_copy_203 tw_5_26 19 42 CW_19 CW_42 (by omega) (Nat.le_of_ble_eq_true rfl) (Nat.le_of_ble_eq_true rfl) (CWa_42 rfl) ?_
                    generalize h203_11 : cpg (I 19) (I 42) 6 = s203_11
                    refine w_iinc (pc := 206) hC dX6_copy_206 (lv2 := [(2, .int (J 3)), (0, .ref (A 24)), (1, .ref (A 1))]) 0 rfl (by rw [hnL]; decide) rfl ?_
                    refine w_goto (pc := 209) hC dX6_copy_209 (tgt := 150) (by decide) ?_
                    refine w_iload_n (pc := 150) hC dX6_copy_150 0 rfl rfl ?_
                    refine w_bipush (pc := 151) hC dX6_copy_151 (z := 6) rfl ?_
                    refine w_icmp_ge (pc := 153) (tgt := 212) hC dX6_copy_153 (by decide) (by omega) (fun c153 => ?_) (fun c153 => ?_)
                    · exact absurd c153 (by decide)
                    · refine w_aload_n (pc := 156) hC dX6_copy_156 1 rfl rfl ?_
                      refine w_getf (pc := 157) (v := .ref (A 33)) hC dX6_copy_157 fi_X6_29 24 CW_24 rfl ?_
                      refine w_iload_n (pc := 160) hC dX6_copy_160 0 rfl rfl ?_
                      refine w_aload_n (pc := 161) hC dX6_copy_161 2 rfl rfl ?_
                      refine w_getf (pc := 162) (v := .ref (A 10)) hC dX6_copy_162 fi_X6_29 1 CW_1 rfl ?_
                      refine w_iload_n (pc := 165) hC dX6_copy_165 0 rfl rfl ?_
                      refine w_aald (t0 := 4) (f := Q 10) hC dX6_copy_166 10 CW_10 rfl rfl (by omega) (Nat.le_of_ble_eq_true rfl) ?_
                      refine w_aastO (pc := 167) (t0 := 4) (f := va_up (va_up (va_up (Q 33) (0 : Int).toNat ((Q 10) (0 : Int).toNat)) (1 : Int).toNat ((Q 10) (1 : Int).toNat)) (2 : Int).toNat ((Q 10) (2 : Int).toNat)) (o := (Q 10) (3 : Int).toNat) (w2 := CW A D T G.2.1 (au (au (au (au (au (au (au (au (au (au (au I 25 s60_1) 27 s184_6) 28 s184_8) 29 s184_10) 34 s75_2) 36 s90_3) 37 s105_4) 38 s120_5) 40 s203_7) 41 s203_9) 42 s203_11) (fu (fu (fu (fu (fu (fu F 11 (F 1)) 12 (F 2)) 13 (F 3)) 14 (F 4)) 15 (F 5)) 16 (F 6)) (qu (qu Q 33 (va_up (va_up (va_up (va_up (Q 33) (0 : Int).toNat ((Q 10) (0 : Int).toNat)) (1 : Int).toNat ((Q 10) (1 : Int).toNat)) (2 : Int).toNat ((Q 10) (2 : Int).toNat)) (3 : Int).toNat ((Q 10) (3 : Int).toNat))) 35 (va_up (va_up (va_up (va_up (va_up (Q 35) (0 : Int).toNat ((Q 12) (0 : Int).toNat)) (1 : Int).toNat ((Q 12) (1 : Int).toNat)) (2 : Int).toNat ((Q 12) (2 : Int).toNat)) (3 : Int).toNat ((Q 12) (3 : Int).toNat)) (4 : Int).toNat ((Q 12) (4 : Int).toNat))) P) hC dX6_copy_167 33 CW_33 rfl (akb_ob hL hR (by decide)) (by omega) (Nat.le_of_ble_eq_true rfl) (CWq_33 (qu_cm (by decide) qu_rp)) ?_
                      refine w_aload_n (pc := 168) hC dX6_copy_168 2 rfl rfl ?_
                      refine w_getf (pc := 169) (v := .ref (A 3)) hC dX6_copy_169 fi_X6_21 1 CW_1 rfl ?_
                      refine w_iload_n (pc := 172) hC dX6_copy_172 0 rfl rfl ?_
                      refine w_aaldS (t0 := 6) (q := A 7) hC dX6_copy_173 3 CW_3 rfl rfl (by decide) (Nat.le_of_ble_eq_true rfl) rfl ?_
                      refine w_iconst (pc := 174) hC dX6_copy_174 ?_
                      refine w_aload_n (pc := 175) hC dX6_copy_175 1 rfl rfl ?_
                      refine w_getf (pc := 176) (v := .ref (A 26)) hC dX6_copy_176 fi_X6_21 24 CW_24 rfl ?_
                      refine w_iload_n (pc := 179) hC dX6_copy_179 0 rfl rfl ?_
                      refine w_aaldS (t0 := 6) (q := A 30) hC dX6_copy_180 26 CW_26 rfl rfl (by decide) (Nat.le_of_ble_eq_true rfl) rfl ?_
                      refine w_iconst (pc := 181) hC dX6_copy_181 ?_
                      refine w_bipush (pc := 182) hC dX6_copy_182 (z := 6) rfl ?_
                      refine w_copyI (pc := 184) (f := (I 7)) (g := (I 30)) (w2 := CW A D T G.2.1 (au (au (au (au (au (au (au (au (au (au (au (au I 25 s60_1) 27 s184_6) 28 s184_8) 29 s184_10) 30 (cpg (I 7) (I 30) 6)) 34 s75_2) 36 s90_3) 37 s105_4) 38 s120_5) 40 s203_7) 41 s203_9) 42 s203_11) (fu (fu (fu (fu (fu (fu F 11 (F 1)) 12 (F 2)) 13 (F 3)) 14 (F 4)) 15 (F 5)) 16 (F 6)) (qu (qu Q 33 (va_up (va_up (va_up (va_up (Q 33) (0 : Int).toNat ((Q 10) (0 : Int).toNat)) (1 : Int).toNat ((Q 10) (1 : Int).toNat)) (2 : Int).toNat ((Q 10) (2 : Int).toNat)) (3 : Int).toNat ((Q 10) (3 : Int).toNat))) 35 (va_up (va_up (va_up (va_up (va_up (Q 35) (0 : Int).toNat ((Q 12) (0 : Int).toNat)) (1 : Int).toNat ((Q 12) (1 : Int).toNat)) (2 : Int).toNat ((Q 12) (2 : Int).toNat)) (3 : Int).toNat ((Q 12) (3 : Int).toNat)) (4 : Int).toNat ((Q 12) (4 : Int).toNat))) P) hC dX6_copy_184 tw_5_26 7 30 CW_7 CW_30 (by omega) (Nat.le_of_ble_eq_true rfl) (Nat.le_of_ble_eq_true rfl) (CWa_30 (au_cm (by decide) (au_cm (by decide) (au_cm (by decide) (au_cm (by decide) (au_cm (by decide) (au_cm (by decide) (au_cm (by decide) rfl)))))))) ?_
                      generalize h184_12 : cpg (I 7) (I 30) 6 = s184_12
                      refine w_aload_n (pc := 187) hC dX6_copy_187 2 rfl rfl ?_
                      refine w_getf (pc := 188) (v := .ref (A 16)) hC dX6_copy_188 fi_X6_64 1 CW_1 rfl ?_
                      refine w_iload_n (pc := 191) hC dX6_copy_191 0 rfl rfl ?_
                      refine w_aaldS (t0 := 6) (q := A 20) hC dX6_copy_192 16 CW_16 rfl rfl (by decide) (Nat.le_of_ble_eq_true rfl) rfl ?_
                      refine w_iconst (pc := 193) hC dX6_copy_193 ?_
                      refine w_aload_n (pc := 194) hC dX6_copy_194 1 rfl rfl ?_
                      refine w_getf (pc := 195) (v := .ref (A 39)) hC dX6_copy_195 fi_X6_64 24 CW_24 rfl ?_
                      refine w_iload_n (pc := 198) hC dX6_copy_198 0 rfl rfl ?_
                      refine w_aaldS (t0 := 6) (q := A 43) hC dX6_copy_199 39 CW_39 rfl rfl (by decide) (Nat.le_of_ble_eq_true rfl) rfl ?_
                      refine w_iconst (pc := 200) hC dX6_copy_200 ?_
                      refine w_bipush (pc := 201) hC dX6_copy_201 (z := 6) rfl ?_
                      refine w_copyI (pc := 203) (f := (I 20)) (g := (I 43)) (w2 := CW A D T G.2.1 (au (au (au (au (au (au (au (au (au (au (au (au (au I 25 s60_1) 27 s184_6) 28 s184_8) 29 s184_10) 30 s184_12) 34 s75_2) 36 s90_3) 37 s105_4) 38 s120_5) 40 s203_7) 41 s203_9) 42 s203_11) 43 (cpg (I 20) (I 43) 6)) (fu (fu (fu (fu (fu (fu F 11 (F 1)) 12 (F 2)) 13 (F 3)) 14 (F 4)) 15 (F 5)) 16 (F 6)) (qu (qu Q 33 (va_up (va_up (va_up (va_up (Q 33) (0 : Int).toNat ((Q 10) (0 : Int).toNat)) (1 : Int).toNat ((Q 10) (1 : Int).toNat)) (2 : Int).toNat ((Q 10) (2 : Int).toNat)) (3 : Int).toNat ((Q 10) (3 : Int).toNat))) 35 (va_up (va_up (va_up (va_up (va_up (Q 35) (0 : Int).toNat ((Q 12) (0 : Int).toNat)) (1 : Int).toNat ((Q 12) (1 : Int).toNat)) (2 : Int).toNat ((Q 12) (2 : Int).toNat)) (3 : Int).toNat ((Q 12) (3 : Int).toNat)) (4 : Int).toNat ((Q 12) (4 : Int).toNat))) P) hC dX6_copy_203 tw_5_26 20 43 CW_20 CW_43 (by omega) (Nat.le_of_ble_eq_true rfl) (Nat.le_of_ble_eq_true rfl) (CWa_43 rfl) ?_
                      generalize h203_13 : cpg (I 20) (I 43) 6 = s203_13
                      refine w_iinc (pc := 206) hC dX6_copy_206 (lv2 := [(2, .int (J 4)), (0, .ref (A 24)), (1, .ref (A 1))]) 0 rfl (by rw [hnL]; decide) rfl ?_
                      refine w_goto (pc := 209) hC dX6_copy_209 (tgt := 150) (by decide) ?_
                      refine w_iload_n (pc := 150) hC dX6_copy_150 0 rfl rfl ?_
                      refine w_bipush (pc := 151) hC dX6_copy_151 (z := 6) rfl ?_
                      refine w_icmp_ge (pc := 153) (tgt := 212) hC dX6_copy_153 (by decide) (by omega) (fun c153 => ?_) (fun c153 => ?_)
                      · exact absurd c153 (by decide)
                      · refine w_aload_n (pc := 156) hC dX6_copy_156 1 rfl rfl ?_
                        refine w_getf (pc := 157) (v := .ref (A 33)) hC dX6_copy_157 fi_X6_29 24 CW_24 rfl ?_
                        refine w_iload_n (pc := 160) hC dX6_copy_160 0 rfl rfl ?_
                        refine w_aload_n (pc := 161) hC dX6_copy_161 2 rfl rfl ?_
                        refine w_getf (pc := 162) (v := .ref (A 10)) hC dX6_copy_162 fi_X6_29 1 CW_1 rfl ?_
                        refine w_iload_n (pc := 165) hC dX6_copy_165 0 rfl rfl ?_
                        refine w_aald (t0 := 4) (f := Q 10) hC dX6_copy_166 10 CW_10 rfl rfl (by omega) (Nat.le_of_ble_eq_true rfl) ?_
                        refine w_aastO (pc := 167) (t0 := 4) (f := va_up (va_up (va_up (va_up (Q 33) (0 : Int).toNat ((Q 10) (0 : Int).toNat)) (1 : Int).toNat ((Q 10) (1 : Int).toNat)) (2 : Int).toNat ((Q 10) (2 : Int).toNat)) (3 : Int).toNat ((Q 10) (3 : Int).toNat)) (o := (Q 10) (4 : Int).toNat) (w2 := CW A D T G.2.1 (au (au (au (au (au (au (au (au (au (au (au (au (au I 25 s60_1) 27 s184_6) 28 s184_8) 29 s184_10) 30 s184_12) 34 s75_2) 36 s90_3) 37 s105_4) 38 s120_5) 40 s203_7) 41 s203_9) 42 s203_11) 43 s203_13) (fu (fu (fu (fu (fu (fu F 11 (F 1)) 12 (F 2)) 13 (F 3)) 14 (F 4)) 15 (F 5)) 16 (F 6)) (qu (qu Q 33 (va_up (va_up (va_up (va_up (va_up (Q 33) (0 : Int).toNat ((Q 10) (0 : Int).toNat)) (1 : Int).toNat ((Q 10) (1 : Int).toNat)) (2 : Int).toNat ((Q 10) (2 : Int).toNat)) (3 : Int).toNat ((Q 10) (3 : Int).toNat)) (4 : Int).toNat ((Q 10) (4 : Int).toNat))) 35 (va_up (va_up (va_up (va_up (va_up (Q 35) (0 : Int).toNat ((Q 12) (0 : Int).toNat)) (1 : Int).toNat ((Q 12) (1 : Int).toNat)) (2 : Int).toNat ((Q 12) (2 : Int).toNat)) (3 : Int).toNat ((Q 12) (3 : Int).toNat)) (4 : Int).toNat ((Q 12) (4 : Int).toNat))) P) hC dX6_copy_167 33 CW_33 rfl (akb_ob hL hR (by decide)) (by omega) (Nat.le_of_ble_eq_true rfl) (CWq_33 (qu_cm (by decide) qu_rp)) ?_
                        refine w_aload_n (pc := 168) hC dX6_copy_168 2 rfl rfl ?_
                        refine w_getf (pc := 169) (v := .ref (A 3)) hC dX6_copy_169 fi_X6_21 1 CW_1 rfl ?_
                        refine w_iload_n (pc := 172) hC dX6_copy_172 0 rfl rfl ?_
                        refine w_aaldS (t0 := 6) (q := A 8) hC dX6_copy_173 3 CW_3 rfl rfl (by decide) (Nat.le_of_ble_eq_true rfl) rfl ?_
                        refine w_iconst (pc := 174) hC dX6_copy_174 ?_
                        refine w_aload_n (pc := 175) hC dX6_copy_175 1 rfl rfl ?_
                        refine w_getf (pc := 176) (v := .ref (A 26)) hC dX6_copy_176 fi_X6_21 24 CW_24 rfl ?_
                        refine w_iload_n (pc := 179) hC dX6_copy_179 0 rfl rfl ?_
                        refine w_aaldS (t0 := 6) (q := A 31) hC dX6_copy_180 26 CW_26 rfl rfl (by decide) (Nat.le_of_ble_eq_true rfl) rfl ?_
                        refine w_iconst (pc := 181) hC dX6_copy_181 ?_
                        refine w_bipush (pc := 182) hC dX6_copy_182 (z := 6) rfl ?_
                        refine w_copyI (pc := 184) (f := (I 8)) (g := (I 31)) (w2 := CW A D T G.2.1 (au (au (au (au (au (au (au (au (au (au (au (au (au (au I 25 s60_1) 27 s184_6) 28 s184_8) 29 s184_10) 30 s184_12) 31 (cpg (I 8) (I 31) 6)) 34 s75_2) 36 s90_3) 37 s105_4) 38 s120_5) 40 s203_7) 41 s203_9) 42 s203_11) 43 s203_13) (fu (fu (fu (fu (fu (fu F 11 (F 1)) 12 (F 2)) 13 (F 3)) 14 (F 4)) 15 (F 5)) 16 (F 6)) (qu (qu Q 33 (va_up (va_up (va_up (va_up (va_up (Q 33) (0 : Int).toNat ((Q 10) (0 : Int).toNat)) (1 : Int).toNat ((Q 10) (1 : Int).toNat)) (2 : Int).toNat ((Q 10) (2 : Int).toNat)) (3 : Int).toNat ((Q 10) (3 : Int).toNat)) (4 : Int).toNat ((Q 10) (4 : Int).toNat))) 35 (va_up (va_up (va_up (va_up (va_up (Q 35) (0 : Int).toNat ((Q 12) (0 : Int).toNat)) (1 : Int).toNat ((Q 12) (1 : Int).toNat)) (2 : Int).toNat ((Q 12) (2 : Int).toNat)) (3 : Int).toNat ((Q 12) (3 : Int).toNat)) (4 : Int).toNat ((Q 12) (4 : Int).toNat))) P) hC dX6_copy_184 tw_5_26 8 31 CW_8 CW_31 (by omega) (Nat.le_of_ble_eq_true rfl) (Nat.le_of_ble_eq_true rfl) (CWa_31 (au_cm (by decide) (au_cm (by decide) (au_cm (by decide) (au_cm (by decide) (au_cm (by decide) (au_cm (by decide) (au_cm (by decide) (au_cm (by decide) rfl))))))))) ?_
                        generalize h184_14 : cpg (I 8) (I 31) 6 = s184_14
                        refine w_aload_n (pc := 187) hC dX6_copy_187 2 rfl rfl ?_
                        refine w_getf (pc := 188) (v := .ref (A 16)) hC dX6_copy_188 fi_X6_64 1 CW_1 rfl ?_
                        refine w_iload_n (pc := 191) hC dX6_copy_191 0 rfl rfl ?_
                        refine w_aaldS (t0 := 6) (q := A 21) hC dX6_copy_192 16 CW_16 rfl rfl (by decide) (Nat.le_of_ble_eq_true rfl) rfl ?_
                        refine w_iconst (pc := 193) hC dX6_copy_193 ?_
                        refine w_aload_n (pc := 194) hC dX6_copy_194 1 rfl rfl ?_
                        refine w_getf (pc := 195) (v := .ref (A 39)) hC dX6_copy_195 fi_X6_64 24 CW_24 rfl ?_
                        refine w_iload_n (pc := 198) hC dX6_copy_198 0 rfl rfl ?_
                        refine w_aaldS (t0 := 6) (q := A 44) hC dX6_copy_199 39 CW_39 rfl rfl (by decide) (Nat.le_of_ble_eq_true rfl) rfl ?_
                        refine w_iconst (pc := 200) hC dX6_copy_200 ?_
                        refine w_bipush (pc := 201) hC dX6_copy_201 (z := 6) rfl ?_
                        refine w_copyI (pc := 203) (f := (I 21)) (g := (I 44)) (w2 := CW A D T G.2.1 (au (au (au (au (au (au (au (au (au (au (au (au (au (au (au I 25 s60_1) 27 s184_6) 28 s184_8) 29 s184_10) 30 s184_12) 31 s184_14) 34 s75_2) 36 s90_3) 37 s105_4) 38 s120_5) 40 s203_7) 41 s203_9) 42 s203_11) 43 s203_13) 44 (cpg (I 21) (I 44) 6)) (fu (fu (fu (fu (fu (fu F 11 (F 1)) 12 (F 2)) 13 (F 3)) 14 (F 4)) 15 (F 5)) 16 (F 6)) (qu (qu Q 33 (va_up (va_up (va_up (va_up (va_up (Q 33) (0 : Int).toNat ((Q 10) (0 : Int).toNat)) (1 : Int).toNat ((Q 10) (1 : Int).toNat)) (2 : Int).toNat ((Q 10) (2 : Int).toNat)) (3 : Int).toNat ((Q 10) (3 : Int).toNat)) (4 : Int).toNat ((Q 10) (4 : Int).toNat))) 35 (va_up (va_up (va_up (va_up (va_up (Q 35) (0 : Int).toNat ((Q 12) (0 : Int).toNat)) (1 : Int).toNat ((Q 12) (1 : Int).toNat)) (2 : Int).toNat ((Q 12) (2 : Int).toNat)) (3 : Int).toNat ((Q 12) (3 : Int).toNat)) (4 : Int).toNat ((Q 12) (4 : Int).toNat))) P) hC dX6_copy_203 tw_5_26 21 44 CW_21 CW_44 (by omega) (Nat.le_of_ble_eq_true rfl) (Nat.le_of_ble_eq_true rfl) (CWa_44 rfl) ?_
                        generalize h203_15 : cpg (I 21) (I 44) 6 = s203_15
                        refine w_iinc (pc := 206) hC dX6_copy_206 (lv2 := [(2, .int (J 5)), (0, .ref (A 24)), (1, .ref (A 1))]) 0 rfl (by rw [hnL]; decide) rfl ?_
                        refine w_goto (pc := 209) hC dX6_copy_209 (tgt := 150) (by decide) ?_
                        refine w_iload_n (pc := 150) hC dX6_copy_150 0 rfl rfl ?_
                        refine w_bipush (pc := 151) hC dX6_copy_151 (z := 6) rfl ?_
                        refine w_icmp_ge (pc := 153) (tgt := 212) hC dX6_copy_153 (by decide) (by omega) (fun c153 => ?_) (fun c153 => ?_)
                        · exact absurd c153 (by decide)
                        · refine w_aload_n (pc := 156) hC dX6_copy_156 1 rfl rfl ?_
                          refine w_getf (pc := 157) (v := .ref (A 33)) hC dX6_copy_157 fi_X6_29 24 CW_24 rfl ?_
                          refine w_iload_n (pc := 160) hC dX6_copy_160 0 rfl rfl ?_
                          refine w_aload_n (pc := 161) hC dX6_copy_161 2 rfl rfl ?_
                          refine w_getf (pc := 162) (v := .ref (A 10)) hC dX6_copy_162 fi_X6_29 1 CW_1 rfl ?_
                          refine w_iload_n (pc := 165) hC dX6_copy_165 0 rfl rfl ?_
                          refine w_aald (t0 := 4) (f := Q 10) hC dX6_copy_166 10 CW_10 rfl rfl (by omega) (Nat.le_of_ble_eq_true rfl) ?_
                          refine w_aastO (pc := 167) (t0 := 4) (f := va_up (va_up (va_up (va_up (va_up (Q 33) (0 : Int).toNat ((Q 10) (0 : Int).toNat)) (1 : Int).toNat ((Q 10) (1 : Int).toNat)) (2 : Int).toNat ((Q 10) (2 : Int).toNat)) (3 : Int).toNat ((Q 10) (3 : Int).toNat)) (4 : Int).toNat ((Q 10) (4 : Int).toNat)) (o := (Q 10) (5 : Int).toNat) (w2 := CW A D T G.2.1 (au (au (au (au (au (au (au (au (au (au (au (au (au (au (au I 25 s60_1) 27 s184_6) 28 s184_8) 29 s184_10) 30 s184_12) 31 s184_14) 34 s75_2) 36 s90_3) 37 s105_4) 38 s120_5) 40 s203_7) 41 s203_9) 42 s203_11) 43 s203_13) 44 s203_15) (fu (fu (fu (fu (fu (fu F 11 (F 1)) 12 (F 2)) 13 (F 3)) 14 (F 4)) 15 (F 5)) 16 (F 6)) (qu (qu Q 33 (va_up (va_up (va_up (va_up (va_up (va_up (Q 33) (0 : Int).toNat ((Q 10) (0 : Int).toNat)) (1 : Int).toNat ((Q 10) (1 : Int).toNat)) (2 : Int).toNat ((Q 10) (2 : Int).toNat)) (3 : Int).toNat ((Q 10) (3 : Int).toNat)) (4 : Int).toNat ((Q 10) (4 : Int).toNat)) (5 : Int).toNat ((Q 10) (5 : Int).toNat))) 35 (va_up (va_up (va_up (va_up (va_up (Q 35) (0 : Int).toNat ((Q 12) (0 : Int).toNat)) (1 : Int).toNat ((Q 12) (1 : Int).toNat)) (2 : Int).toNat ((Q 12) (2 : Int).toNat)) (3 : Int).toNat ((Q 12) (3 : Int).toNat)) (4 : Int).toNat ((Q 12) (4 : Int).toNat))) P) hC dX6_copy_167 33 CW_33 rfl (akb_ob hL hR (by decide)) (by omega) (Nat.le_of_ble_eq_true rfl) (CWq_33 (qu_cm (by decide) qu_rp)) ?_
                          refine w_aload_n (pc := 168) hC dX6_copy_168 2 rfl rfl ?_
                          refine w_getf (pc := 169) (v := .ref (A 3)) hC dX6_copy_169 fi_X6_21 1 CW_1 rfl ?_
                          refine w_iload_n (pc := 172) hC dX6_copy_172 0 rfl rfl ?_
                          refine w_aaldS (t0 := 6) (q := A 9) hC dX6_copy_173 3 CW_3 rfl rfl (by decide) (Nat.le_of_ble_eq_true rfl) rfl ?_
                          refine w_iconst (pc := 174) hC dX6_copy_174 ?_
                          refine w_aload_n (pc := 175) hC dX6_copy_175 1 rfl rfl ?_
                          refine w_getf (pc := 176) (v := .ref (A 26)) hC dX6_copy_176 fi_X6_21 24 CW_24 rfl ?_
                          refine w_iload_n (pc := 179) hC dX6_copy_179 0 rfl rfl ?_
                          refine w_aaldS (t0 := 6) (q := A 32) hC dX6_copy_180 26 CW_26 rfl rfl (by decide) (Nat.le_of_ble_eq_true rfl) rfl ?_
                          refine w_iconst (pc := 181) hC dX6_copy_181 ?_
                          refine w_bipush (pc := 182) hC dX6_copy_182 (z := 6) rfl ?_
                          refine w_copyI (pc := 184) (f := (I 9)) (g := (I 32)) (w2 := CW A D T G.2.1 (au (au (au (au (au (au (au (au (au (au (au (au (au (au (au (au I 25 s60_1) 27 s184_6) 28 s184_8) 29 s184_10) 30 s184_12) 31 s184_14) 32 (cpg (I 9) (I 32) 6)) 34 s75_2) 36 s90_3) 37 s105_4) 38 s120_5) 40 s203_7) 41 s203_9) 42 s203_11) 43 s203_13) 44 s203_15) (fu (fu (fu (fu (fu (fu F 11 (F 1)) 12 (F 2)) 13 (F 3)) 14 (F 4)) 15 (F 5)) 16 (F 6)) (qu (qu Q 33 (va_up (va_up (va_up (va_up (va_up (va_up (Q 33) (0 : Int).toNat ((Q 10) (0 : Int).toNat)) (1 : Int).toNat ((Q 10) (1 : Int).toNat)) (2 : Int).toNat ((Q 10) (2 : Int).toNat)) (3 : Int).toNat ((Q 10) (3 : Int).toNat)) (4 : Int).toNat ((Q 10) (4 : Int).toNat)) (5 : Int).toNat ((Q 10) (5 : Int).toNat))) 35 (va_up (va_up (va_up (va_up (va_up (Q 35) (0 : Int).toNat ((Q 12) (0 : Int).toNat)) (1 : Int).toNat ((Q 12) (1 : Int).toNat)) (2 : Int).toNat ((Q 12) (2 : Int).toNat)) (3 : Int).toNat ((Q 12) (3 : Int).toNat)) (4 : Int).toNat ((Q 12) (4 : Int).toNat))) P) hC dX6_copy_184 tw_5_26 9 32 CW_9 CW_32 (by omega) (Nat.le_of_ble_eq_true rfl) (Nat.le_of_ble_eq_true rfl) (CWa_32 (au_cm (by decide) (au_cm (by decide) (au_cm (by decide) (au_cm (by decide) (au_cm (by decide) (au_cm (by decide) (au_cm (by decide) (au_cm (by decide) (au_cm (by decide) rfl)))))))))) ?_
                          generalize h184_16 : cpg (I 9) (I 32) 6 = s184_16
                          refine w_aload_n (pc := 187) hC dX6_copy_187 2 rfl rfl ?_
                          refine w_getf (pc := 188) (v := .ref (A 16)) hC dX6_copy_188 fi_X6_64 1 CW_1 rfl ?_
                          refine w_iload_n (pc := 191) hC dX6_copy_191 0 rfl rfl ?_
                          refine w_aaldS (t0 := 6) (q := A 22) hC dX6_copy_192 16 CW_16 rfl rfl (by decide) (Nat.le_of_ble_eq_true rfl) rfl ?_
                          refine w_iconst (pc := 193) hC dX6_copy_193 ?_
                          refine w_aload_n (pc := 194) hC dX6_copy_194 1 rfl rfl ?_
                          refine w_getf (pc := 195) (v := .ref (A 39)) hC dX6_copy_195 fi_X6_64 24 CW_24 rfl ?_
                          refine w_iload_n (pc := 198) hC dX6_copy_198 0 rfl rfl ?_
                          refine w_aaldS (t0 := 6) (q := A 45) hC dX6_copy_199 39 CW_39 rfl rfl (by decide) (Nat.le_of_ble_eq_true rfl) rfl ?_
                          refine w_iconst (pc := 200) hC dX6_copy_200 ?_
                          refine w_bipush (pc := 201) hC dX6_copy_201 (z := 6) rfl ?_
                          refine w_copyI (pc := 203) (f := (I 22)) (g := (I 45)) (w2 := CW A D T G.2.1 (au (au (au (au (au (au (au (au (au (au (au (au (au (au (au (au (au I 25 s60_1) 27 s184_6) 28 s184_8) 29 s184_10) 30 s184_12) 31 s184_14) 32 s184_16) 34 s75_2) 36 s90_3) 37 s105_4) 38 s120_5) 40 s203_7) 41 s203_9) 42 s203_11) 43 s203_13) 44 s203_15) 45 (cpg (I 22) (I 45) 6)) (fu (fu (fu (fu (fu (fu F 11 (F 1)) 12 (F 2)) 13 (F 3)) 14 (F 4)) 15 (F 5)) 16 (F 6)) (qu (qu Q 33 (va_up (va_up (va_up (va_up (va_up (va_up (Q 33) (0 : Int).toNat ((Q 10) (0 : Int).toNat)) (1 : Int).toNat ((Q 10) (1 : Int).toNat)) (2 : Int).toNat ((Q 10) (2 : Int).toNat)) (3 : Int).toNat ((Q 10) (3 : Int).toNat)) (4 : Int).toNat ((Q 10) (4 : Int).toNat)) (5 : Int).toNat ((Q 10) (5 : Int).toNat))) 35 (va_up (va_up (va_up (va_up (va_up (Q 35) (0 : Int).toNat ((Q 12) (0 : Int).toNat)) (1 : Int).toNat ((Q 12) (1 : Int).toNat)) (2 : Int).toNat ((Q 12) (2 : Int).toNat)) (3 : Int).toNat ((Q 12) (3 : Int).toNat)) (4 : Int).toNat ((Q 12) (4 : Int).toNat))) P) hC dX6_copy_203 tw_5_26 22 45 CW_22 CW_45 (by omega) (Nat.le_of_ble_eq_true rfl) (Nat.le_of_ble_eq_true rfl) (CWa_45 rfl) ?_
                          generalize h203_17 : cpg (I 22) (I 45) 6 = s203_17
                          refine w_iinc (pc := 206) hC dX6_copy_206 (lv2 := [(2, .int (J 6)), (0, .ref (A 24)), (1, .ref (A 1))]) 0 rfl (by rw [hnL]; decide) rfl ?_
                          refine w_goto (pc := 209) hC dX6_copy_209 (tgt := 150) (by decide) ?_
                          refine w_iload_n (pc := 150) hC dX6_copy_150 0 rfl rfl ?_
                          refine w_bipush (pc := 151) hC dX6_copy_151 (z := 6) rfl ?_
                          refine w_icmp_ge (pc := 153) (tgt := 212) hC dX6_copy_153 (by decide) (by omega) (fun c153 => ?_) (fun c153 => ?_)
                          · refine w_vret (pc := 212) hC hRT dX6_copy_212 ?_
                            refine ⟨s60_1, s184_6, s184_8, s184_10, s184_12, s184_14, s184_16, s75_2, s90_3, s105_4, s120_5, s203_7, s203_9, s203_11, s203_13, s203_15, s203_17, (F 1), (F 2), (F 3), (F 4), (F 5), (F 6), va_up (va_up (va_up (va_up (va_up (va_up (Q 33) (0 : Int).toNat ((Q 10) (0 : Int).toNat)) (1 : Int).toNat ((Q 10) (1 : Int).toNat)) (2 : Int).toNat ((Q 10) (2 : Int).toNat)) (3 : Int).toNat ((Q 10) (3 : Int).toNat)) (4 : Int).toNat ((Q 10) (4 : Int).toNat)) (5 : Int).toNat ((Q 10) (5 : Int).toNat), va_up (va_up (va_up (va_up (va_up (Q 35) (0 : Int).toNat ((Q 12) (0 : Int).toNat)) (1 : Int).toNat ((Q 12) (1 : Int).toNat)) (2 : Int).toNat ((Q 12) (2 : Int).toNat)) (3 : Int).toNat ((Q 12) (3 : Int).toNat)) (4 : Int).toNat ((Q 12) (4 : Int).toNat), rfl, rfl, ?_⟩
                            · refine ⟨LR_copy hL hR (fun a ha => match a, ha with | 0, _ => rfl | 1, _ => rfl | 2, _ => rfl | 3, _ => rfl | 4, _ => rfl | 5, _ => rfl | n + 6, h => absurd h (by omega)) (fun r r0 r1 => cpg_at h60_1 r0 r1) (fun a ha => match a, ha with | 0, _ => fun r r0 r1 => cpg_at h184_6 r0 r1 | 1, _ => fun r r0 r1 => cpg_at h184_8 r0 r1 | 2, _ => fun r r0 r1 => cpg_at h184_10 r0 r1 | 3, _ => fun r r0 r1 => cpg_at h184_12 r0 r1 | 4, _ => fun r r0 r1 => cpg_at h184_14 r0 r1 | 5, _ => fun r r0 r1 => cpg_at h184_16 r0 r1 | n + 6, h => absurd h (by omega)) (fun r r0 r1 => cpg_at h75_2 r0 r1) (fun r r0 r1 => cpg_at h90_3 r0 r1) (fun r r0 r1 => ⟨cpg_at h105_4 r0 r1, cpg_at h120_5 r0 r1⟩) (fun a ha => match a, ha with | 0, _ => fun r r0 r1 => cpg_at h203_7 r0 r1 | 1, _ => fun r r0 r1 => cpg_at h203_9 r0 r1 | 2, _ => fun r r0 r1 => cpg_at h203_11 r0 r1 | 3, _ => fun r r0 r1 => cpg_at h203_13 r0 r1 | 4, _ => fun r r0 r1 => cpg_at h203_15 r0 r1 | 5, _ => fun r r0 r1 => cpg_at h203_17 r0 r1 | n + 6, h => absurd h (by omega)) (fun a ha => match a, ha with | 0, _ => rfl | 1, _ => rfl | 2, _ => rfl | 3, _ => rfl | 4, _ => rfl | 5, _ => rfl | n + 6, h => absurd h (by omega)) (fun a ha => match a, ha with | 0, _ => rfl | 1, _ => rfl | 2, _ => rfl | 3, _ => rfl | 4, _ => rfl | n + 5, h => absurd h (by omega)), fun j j0 j1 => ?_, ?_⟩
                              · show -128 ≤ s75_2 j ∧ s75_2 j ≤ 127
                                rw [cpg_at h75_2 j0 j1]
                                exact hby j j0 j1
                              · exact fun a ha => match a, ha with | 0, _ => hz 0 (by decide) | 1, _ => hz 1 (by decide) | 2, _ => hz 2 (by decide) | 3, _ => hz 3 (by decide) | 4, _ => hz 4 (by decide) | n + 5, h => absurd h (by omega)
                          · exact absurd c153 (by decide)
            · exact absurd c127 (by decide)
set_option maxRecDepth 100000 in
set_option maxHeartbeats 4000000 in
theorem c_X6_copy_v1 (l : Launch) (G : GT) (A D : Nat → Nat) (T : Nat) (I : Nat → Int → Int) (F : Nat → Int) (Q : Nat → Nat → Option Nat) (P : va_W) (S : Int → Int)  (hR : RI S) (hL : LRb 24 11 G.2.1 S I F Q P) (hby : ∀ j : Int, 0 ≤ j → j < 120 → -128 ≤ (I 34) j ∧ (I 34) j ≤ 127) (hz : ∀ c : Nat, c < 5 → S 1 ≤ (c : Int) → Q 35 c = none) : CT l yX6_copy cX6_copy 3 none 1 0 0 G [.ref (A 1), .ref (A 24)] (CW A D T G.2.1 I F Q P) (fun vo wo => ∃ (b2 : Int → Int) (b4 : Int → Int) (b5 : Int → Int) (b6 : Int → Int) (b7 : Int → Int) (b8 : Int → Int) (b9 : Int → Int) (b11 : Int → Int) (b13 : Int → Int) (b14 : Int → Int) (b15 : Int → Int) (b17 : Int → Int) (b18 : Int → Int) (b19 : Int → Int) (b20 : Int → Int) (b21 : Int → Int) (b22 : Int → Int) (g1 : Int) (g2 : Int) (g3 : Int) (g4 : Int) (g5 : Int) (g6 : Int) (q10 : Nat → Option Nat) (q12 : Nat → Option Nat), vo = none ∧ wo = CW A D T G.2.1 (au (au (au (au (au (au (au (au (au (au (au (au (au (au (au (au (au I 2 b2) 4 b4) 5 b5) 6 b6) 7 b7) 8 b8) 9 b9) 11 b11) 13 b13) 14 b14) 15 b15) 17 b17) 18 b18) 19 b19) 20 b20) 21 b21) 22 b22) (fu (fu (fu (fu (fu (fu F 1 g1) 2 g2) 3 g3) 4 g4) 5 g5) 6 g6) (qu (qu Q 10 q10) 12 q12) P ∧ (LRb 1 1 G.2.1 S (au (au (au (au (au (au (au (au (au (au (au (au (au (au (au (au (au I 2 b2) 4 b4) 5 b5) 6 b6) 7 b7) 8 b8) 9 b9) 11 b11) 13 b13) 14 b14) 15 b15) 17 b17) 18 b18) 19 b19) 20 b20) 21 b21) 22 b22) (fu (fu (fu (fu (fu (fu F 1 g1) 2 g2) 3 g3) 4 g4) 5 g5) 6 g6) (qu (qu Q 10 q10) 12 q12) P ∧ (∀ j : Int, 0 ≤ j → j < 120 → -128 ≤ b11 j ∧ b11 j ≤ 127) ∧ ∀ c : Nat, c < 5 → S 1 ≤ (c : Int) → (qu (qu Q 10 q10) 12 q12) 12 c = none)) := by
  refine CT_of (own := RX6) rfl rfl (Nat.le_of_ble_eq_true rfl) (fun K hl hnL hC hRT hin => ?_)
  subst hl
  show WW K G 0 0 (CW A D T G.2.1 I F Q P) 0 [(0, .ref (A 1)), (1, .ref (A 24))] []
  refine w_aload_n (pc := 0) hC dX6_copy_0 0 rfl rfl ?_
  refine w_aload_n (pc := 1) hC dX6_copy_1 1 rfl rfl ?_
  refine w_getf (pc := 2) (v := .int (J (F 11))) hC dX6_copy_2 fi_X6_9 24 CW_24 rfl ?_
  refine w_putf (pc := 5) (w2 := CW A D T G.2.1 I (fu F 1 (F 11)) Q P) hC dX6_copy_5 fi_X6_9 fp_X6_0 rfl 1 CW_1 (rfl) (rfl) (Nat.le_of_ble_eq_true rfl) (CWf_1 rfl) ?_
  refine w_aload_n (pc := 8) hC dX6_copy_8 0 rfl rfl ?_
  refine w_aload_n (pc := 9) hC dX6_copy_9 1 rfl rfl ?_
  refine w_getf (pc := 10) (v := .int (J (F 12))) hC dX6_copy_10 fi_X6_24 24 CW_24 rfl ?_
  refine w_putf (pc := 13) (w2 := CW A D T G.2.1 I (fu (fu F 1 (F 11)) 2 (F 12)) Q P) hC dX6_copy_13 fi_X6_24 fp_X6_3 rfl 1 CW_1 (rfl) (rfl) (Nat.le_of_ble_eq_true rfl) (CWf_2 rfl) ?_
  refine w_aload_n (pc := 16) hC dX6_copy_16 0 rfl rfl ?_
  refine w_aload_n (pc := 17) hC dX6_copy_17 1 rfl rfl ?_
  refine w_getf (pc := 18) (v := .int (J (F 13))) hC dX6_copy_18 fi_X6_37 24 CW_24 rfl ?_
  refine w_putf (pc := 21) (w2 := CW A D T G.2.1 I (fu (fu (fu F 1 (F 11)) 2 (F 12)) 3 (F 13)) Q P) hC dX6_copy_21 fi_X6_37 fp_X6_6 rfl 1 CW_1 (rfl) (rfl) (Nat.le_of_ble_eq_true rfl) (CWf_3 rfl) ?_
  refine w_aload_n (pc := 24) hC dX6_copy_24 0 rfl rfl ?_
  refine w_aload_n (pc := 25) hC dX6_copy_25 1 rfl rfl ?_
  refine w_getf (pc := 26) (v := .int (J (F 14))) hC dX6_copy_26 fi_X6_46 24 CW_24 rfl ?_
  refine w_putf (pc := 29) (w2 := CW A D T G.2.1 I (fu (fu (fu (fu F 1 (F 11)) 2 (F 12)) 3 (F 13)) 4 (F 14)) Q P) hC dX6_copy_29 fi_X6_46 fp_X6_8 rfl 1 CW_1 (rfl) (rfl) (Nat.le_of_ble_eq_true rfl) (CWf_4 rfl) ?_
  refine w_aload_n (pc := 32) hC dX6_copy_32 0 rfl rfl ?_
  refine w_aload_n (pc := 33) hC dX6_copy_33 1 rfl rfl ?_
  refine w_getf (pc := 34) (v := .int (J (F 15))) hC dX6_copy_34 fi_X6_52 24 CW_24 rfl ?_
  refine w_putf (pc := 37) (w2 := CW A D T G.2.1 I (fu (fu (fu (fu (fu F 1 (F 11)) 2 (F 12)) 3 (F 13)) 4 (F 14)) 5 (F 15)) Q P) hC dX6_copy_37 fi_X6_52 fp_X6_10 rfl 1 CW_1 (rfl) (rfl) (Nat.le_of_ble_eq_true rfl) (CWf_5 rfl) ?_
  refine w_aload_n (pc := 40) hC dX6_copy_40 0 rfl rfl ?_
  refine w_aload_n (pc := 41) hC dX6_copy_41 1 rfl rfl ?_
  refine w_getf (pc := 42) (v := .int (J (F 16))) hC dX6_copy_42 fi_X6_61 24 CW_24 rfl ?_
  refine w_putf (pc := 45) (w2 := CW A D T G.2.1 I (fu (fu (fu (fu (fu (fu F 1 (F 11)) 2 (F 12)) 3 (F 13)) 4 (F 14)) 5 (F 15)) 6 (F 16)) Q P) hC dX6_copy_45 fi_X6_61 fp_X6_13 rfl 1 CW_1 (rfl) (rfl) (Nat.le_of_ble_eq_true rfl) (CWf_6 rfl) ?_
  refine w_aload_n (pc := 48) hC dX6_copy_48 1 rfl rfl ?_
  refine w_getf (pc := 49) (v := .ref (A 25)) hC dX6_copy_49 fi_X6_15 24 CW_24 rfl ?_
  refine w_iconst (pc := 52) hC dX6_copy_52 ?_
  refine w_aload_n (pc := 53) hC dX6_copy_53 0 rfl rfl ?_
  refine w_getf (pc := 54) (v := .ref (A 2)) hC dX6_copy_54 fi_X6_15 1 CW_1 rfl ?_
  refine w_iconst (pc := 57) hC dX6_copy_57 ?_
  refine w_bipush (pc := 58) hC dX6_copy_58 (z := 6) rfl ?_
  refine w_copyI (pc := 60) (f := (I 25)) (g := (I 2)) (w2 := CW A D T G.2.1 (au I 2 (cpg (I 25) (I 2) 6)) (fu (fu (fu (fu (fu (fu F 1 (F 11)) 2 (F 12)) 3 (F 13)) 4 (F 14)) 5 (F 15)) 6 (F 16)) Q P) hC dX6_copy_60 tw_5_26 25 2 CW_25 CW_2 (by omega) (Nat.le_of_ble_eq_true rfl) (Nat.le_of_ble_eq_true rfl) (CWa_2 rfl) ?_
  generalize h60_1 : cpg (I 25) (I 2) 6 = s60_1
  refine w_aload_n (pc := 63) hC dX6_copy_63 1 rfl rfl ?_
  refine w_getf (pc := 64) (v := .ref (A 34)) hC dX6_copy_64 fi_X6_33 24 CW_24 rfl ?_
  refine w_iconst (pc := 67) hC dX6_copy_67 ?_
  refine w_aload_n (pc := 68) hC dX6_copy_68 0 rfl rfl ?_
  refine w_getf (pc := 69) (v := .ref (A 11)) hC dX6_copy_69 fi_X6_33 1 CW_1 rfl ?_
  refine w_iconst (pc := 72) hC dX6_copy_72 ?_
  refine w_bipush (pc := 73) hC dX6_copy_73 (z := 120) rfl ?_
  refine w_copyB (pc := 75) (f := (I 34)) (g := (I 11)) (w2 := CW A D T G.2.1 (au (au I 2 s60_1) 11 (cpg (I 34) (I 11) 120)) (fu (fu (fu (fu (fu (fu F 1 (F 11)) 2 (F 12)) 3 (F 13)) 4 (F 14)) 5 (F 15)) 6 (F 16)) Q P) hC dX6_copy_75 tw_5_26 34 11 CW_34 CW_11 (by omega) (hby) (Nat.le_of_ble_eq_true rfl) (Nat.le_of_ble_eq_true rfl) (CWa_11 rfl) ?_
  generalize h75_2 : cpg (I 34) (I 11) 120 = s75_2
  refine w_aload_n (pc := 78) hC dX6_copy_78 1 rfl rfl ?_
  refine w_getf (pc := 79) (v := .ref (A 36)) hC dX6_copy_79 fi_X6_49 24 CW_24 rfl ?_
  refine w_iconst (pc := 82) hC dX6_copy_82 ?_
  refine w_aload_n (pc := 83) hC dX6_copy_83 0 rfl rfl ?_
  refine w_getf (pc := 84) (v := .ref (A 13)) hC dX6_copy_84 fi_X6_49 1 CW_1 rfl ?_
  refine w_iconst (pc := 87) hC dX6_copy_87 ?_
  refine w_bipush (pc := 88) hC dX6_copy_88 (z := 6) rfl ?_
  refine w_copyI (pc := 90) (f := (I 36)) (g := (I 13)) (w2 := CW A D T G.2.1 (au (au (au I 2 s60_1) 11 s75_2) 13 (cpg (I 36) (I 13) 6)) (fu (fu (fu (fu (fu (fu F 1 (F 11)) 2 (F 12)) 3 (F 13)) 4 (F 14)) 5 (F 15)) 6 (F 16)) Q P) hC dX6_copy_90 tw_5_26 36 13 CW_36 CW_13 (by omega) (Nat.le_of_ble_eq_true rfl) (Nat.le_of_ble_eq_true rfl) (CWa_13 rfl) ?_
  generalize h90_3 : cpg (I 36) (I 13) 6 = s90_3
  refine w_aload_n (pc := 93) hC dX6_copy_93 1 rfl rfl ?_
  refine w_getf (pc := 94) (v := .ref (A 37)) hC dX6_copy_94 fi_X6_55 24 CW_24 rfl ?_
  refine w_iconst (pc := 97) hC dX6_copy_97 ?_
  refine w_aload_n (pc := 98) hC dX6_copy_98 0 rfl rfl ?_
  refine w_getf (pc := 99) (v := .ref (A 14)) hC dX6_copy_99 fi_X6_55 1 CW_1 rfl ?_
  refine w_iconst (pc := 102) hC dX6_copy_102 ?_
  refine w_bipush (pc := 103) hC dX6_copy_103 (z := 15) rfl ?_
  refine w_copyI (pc := 105) (f := (I 37)) (g := (I 14)) (w2 := CW A D T G.2.1 (au (au (au (au I 2 s60_1) 11 s75_2) 13 s90_3) 14 (cpg (I 37) (I 14) 15)) (fu (fu (fu (fu (fu (fu F 1 (F 11)) 2 (F 12)) 3 (F 13)) 4 (F 14)) 5 (F 15)) 6 (F 16)) Q P) hC dX6_copy_105 tw_5_26 37 14 CW_37 CW_14 (by omega) (Nat.le_of_ble_eq_true rfl) (Nat.le_of_ble_eq_true rfl) (CWa_14 rfl) ?_
  generalize h105_4 : cpg (I 37) (I 14) 15 = s105_4
  refine w_aload_n (pc := 108) hC dX6_copy_108 1 rfl rfl ?_
  refine w_getf (pc := 109) (v := .ref (A 38)) hC dX6_copy_109 fi_X6_58 24 CW_24 rfl ?_
  refine w_iconst (pc := 112) hC dX6_copy_112 ?_
  refine w_aload_n (pc := 113) hC dX6_copy_113 0 rfl rfl ?_
  refine w_getf (pc := 114) (v := .ref (A 15)) hC dX6_copy_114 fi_X6_58 1 CW_1 rfl ?_
  refine w_iconst (pc := 117) hC dX6_copy_117 ?_
  refine w_bipush (pc := 118) hC dX6_copy_118 (z := 15) rfl ?_
  refine w_copyI (pc := 120) (f := (I 38)) (g := (I 15)) (w2 := CW A D T G.2.1 (au (au (au (au (au I 2 s60_1) 11 s75_2) 13 s90_3) 14 s105_4) 15 (cpg (I 38) (I 15) 15)) (fu (fu (fu (fu (fu (fu F 1 (F 11)) 2 (F 12)) 3 (F 13)) 4 (F 14)) 5 (F 15)) 6 (F 16)) Q P) hC dX6_copy_120 tw_5_26 38 15 CW_38 CW_15 (by omega) (Nat.le_of_ble_eq_true rfl) (Nat.le_of_ble_eq_true rfl) (CWa_15 rfl) ?_
  generalize h120_5 : cpg (I 38) (I 15) 15 = s120_5
  refine w_iconst (pc := 123) hC dX6_copy_123 ?_
  refine w_istore_n (pc := 124) hC dX6_copy_124 rfl (lv2 := [(2, .int (J 0)), (0, .ref (A 1)), (1, .ref (A 24))]) (by rw [hnL]; decide) rfl ?_
  refine w_iload_n (pc := 125) hC dX6_copy_125 0 rfl rfl ?_
  refine w_iconst (pc := 126) hC dX6_copy_126 ?_
  refine w_icmp_ge (pc := 127) (tgt := 148) hC dX6_copy_127 (by decide) (by omega) (fun c127 => ?_) (fun c127 => ?_)
  · exact absurd c127 (by decide)
  · refine w_aload_n (pc := 130) hC dX6_copy_130 1 rfl rfl ?_
    refine w_getf (pc := 131) (v := .ref (A 12)) hC dX6_copy_131 fi_X6_42 1 CW_1 rfl ?_
    refine w_iload_n (pc := 134) hC dX6_copy_134 0 rfl rfl ?_
    refine w_aload_n (pc := 135) hC dX6_copy_135 2 rfl rfl ?_
    refine w_getf (pc := 136) (v := .ref (A 35)) hC dX6_copy_136 fi_X6_42 24 CW_24 rfl ?_
    refine w_iload_n (pc := 139) hC dX6_copy_139 0 rfl rfl ?_
    refine w_aald (t0 := 5) (f := Q 35) hC dX6_copy_140 35 CW_35 rfl rfl (by omega) (Nat.le_of_ble_eq_true rfl) ?_
    refine w_aastO (pc := 141) (t0 := 5) (f := Q 12) (o := (Q 35) (0 : Int).toNat) (w2 := CW A D T G.2.1 (au (au (au (au (au I 2 s60_1) 11 s75_2) 13 s90_3) 14 s105_4) 15 s120_5) (fu (fu (fu (fu (fu (fu F 1 (F 11)) 2 (F 12)) 3 (F 13)) 4 (F 14)) 5 (F 15)) 6 (F 16)) (qu Q 12 (va_up (Q 12) (0 : Int).toNat ((Q 35) (0 : Int).toNat))) P) hC dX6_copy_141 12 CW_12 rfl (clb_ob hL hz (by decide)) (by omega) (Nat.le_of_ble_eq_true rfl) (CWq_12 rfl) ?_
    refine w_iinc (pc := 142) hC dX6_copy_142 (lv2 := [(2, .int (J 1)), (0, .ref (A 1)), (1, .ref (A 24))]) 0 rfl (by rw [hnL]; decide) rfl ?_
    refine w_goto (pc := 145) hC dX6_copy_145 (tgt := 125) (by decide) ?_
    refine w_iload_n (pc := 125) hC dX6_copy_125 0 rfl rfl ?_
    refine w_iconst (pc := 126) hC dX6_copy_126 ?_
    refine w_icmp_ge (pc := 127) (tgt := 148) hC dX6_copy_127 (by decide) (by omega) (fun c127 => ?_) (fun c127 => ?_)
    · exact absurd c127 (by decide)
    · refine w_aload_n (pc := 130) hC dX6_copy_130 1 rfl rfl ?_
      refine w_getf (pc := 131) (v := .ref (A 12)) hC dX6_copy_131 fi_X6_42 1 CW_1 rfl ?_
      refine w_iload_n (pc := 134) hC dX6_copy_134 0 rfl rfl ?_
      refine w_aload_n (pc := 135) hC dX6_copy_135 2 rfl rfl ?_
      refine w_getf (pc := 136) (v := .ref (A 35)) hC dX6_copy_136 fi_X6_42 24 CW_24 rfl ?_
      refine w_iload_n (pc := 139) hC dX6_copy_139 0 rfl rfl ?_
      refine w_aald (t0 := 5) (f := Q 35) hC dX6_copy_140 35 CW_35 rfl rfl (by omega) (Nat.le_of_ble_eq_true rfl) ?_
      refine w_aastO (pc := 141) (t0 := 5) (f := va_up (Q 12) (0 : Int).toNat ((Q 35) (0 : Int).toNat)) (o := (Q 35) (1 : Int).toNat) (w2 := CW A D T G.2.1 (au (au (au (au (au I 2 s60_1) 11 s75_2) 13 s90_3) 14 s105_4) 15 s120_5) (fu (fu (fu (fu (fu (fu F 1 (F 11)) 2 (F 12)) 3 (F 13)) 4 (F 14)) 5 (F 15)) 6 (F 16)) (qu Q 12 (va_up (va_up (Q 12) (0 : Int).toNat ((Q 35) (0 : Int).toNat)) (1 : Int).toNat ((Q 35) (1 : Int).toNat))) P) hC dX6_copy_141 12 CW_12 rfl (clb_ob hL hz (by decide)) (by omega) (Nat.le_of_ble_eq_true rfl) (CWq_12 qu_rp) ?_
      refine w_iinc (pc := 142) hC dX6_copy_142 (lv2 := [(2, .int (J 2)), (0, .ref (A 1)), (1, .ref (A 24))]) 0 rfl (by rw [hnL]; decide) rfl ?_
      refine w_goto (pc := 145) hC dX6_copy_145 (tgt := 125) (by decide) ?_
      refine w_iload_n (pc := 125) hC dX6_copy_125 0 rfl rfl ?_
      refine w_iconst (pc := 126) hC dX6_copy_126 ?_
      refine w_icmp_ge (pc := 127) (tgt := 148) hC dX6_copy_127 (by decide) (by omega) (fun c127 => ?_) (fun c127 => ?_)
      · exact absurd c127 (by decide)
      · refine w_aload_n (pc := 130) hC dX6_copy_130 1 rfl rfl ?_
        refine w_getf (pc := 131) (v := .ref (A 12)) hC dX6_copy_131 fi_X6_42 1 CW_1 rfl ?_
        refine w_iload_n (pc := 134) hC dX6_copy_134 0 rfl rfl ?_
        refine w_aload_n (pc := 135) hC dX6_copy_135 2 rfl rfl ?_
        refine w_getf (pc := 136) (v := .ref (A 35)) hC dX6_copy_136 fi_X6_42 24 CW_24 rfl ?_
        refine w_iload_n (pc := 139) hC dX6_copy_139 0 rfl rfl ?_
        refine w_aald (t0 := 5) (f := Q 35) hC dX6_copy_140 35 CW_35 rfl rfl (by omega) (Nat.le_of_ble_eq_true rfl) ?_
        refine w_aastO (pc := 141) (t0 := 5) (f := va_up (va_up (Q 12) (0 : Int).toNat ((Q 35) (0 : Int).toNat)) (1 : Int).toNat ((Q 35) (1 : Int).toNat)) (o := (Q 35) (2 : Int).toNat) (w2 := CW A D T G.2.1 (au (au (au (au (au I 2 s60_1) 11 s75_2) 13 s90_3) 14 s105_4) 15 s120_5) (fu (fu (fu (fu (fu (fu F 1 (F 11)) 2 (F 12)) 3 (F 13)) 4 (F 14)) 5 (F 15)) 6 (F 16)) (qu Q 12 (va_up (va_up (va_up (Q 12) (0 : Int).toNat ((Q 35) (0 : Int).toNat)) (1 : Int).toNat ((Q 35) (1 : Int).toNat)) (2 : Int).toNat ((Q 35) (2 : Int).toNat))) P) hC dX6_copy_141 12 CW_12 rfl (clb_ob hL hz (by decide)) (by omega) (Nat.le_of_ble_eq_true rfl) (CWq_12 qu_rp) ?_
        refine w_iinc (pc := 142) hC dX6_copy_142 (lv2 := [(2, .int (J 3)), (0, .ref (A 1)), (1, .ref (A 24))]) 0 rfl (by rw [hnL]; decide) rfl ?_
        refine w_goto (pc := 145) hC dX6_copy_145 (tgt := 125) (by decide) ?_
        refine w_iload_n (pc := 125) hC dX6_copy_125 0 rfl rfl ?_
        refine w_iconst (pc := 126) hC dX6_copy_126 ?_
        refine w_icmp_ge (pc := 127) (tgt := 148) hC dX6_copy_127 (by decide) (by omega) (fun c127 => ?_) (fun c127 => ?_)
        · exact absurd c127 (by decide)
        · refine w_aload_n (pc := 130) hC dX6_copy_130 1 rfl rfl ?_
          refine w_getf (pc := 131) (v := .ref (A 12)) hC dX6_copy_131 fi_X6_42 1 CW_1 rfl ?_
          refine w_iload_n (pc := 134) hC dX6_copy_134 0 rfl rfl ?_
          refine w_aload_n (pc := 135) hC dX6_copy_135 2 rfl rfl ?_
          refine w_getf (pc := 136) (v := .ref (A 35)) hC dX6_copy_136 fi_X6_42 24 CW_24 rfl ?_
          refine w_iload_n (pc := 139) hC dX6_copy_139 0 rfl rfl ?_
          refine w_aald (t0 := 5) (f := Q 35) hC dX6_copy_140 35 CW_35 rfl rfl (by omega) (Nat.le_of_ble_eq_true rfl) ?_
          refine w_aastO (pc := 141) (t0 := 5) (f := va_up (va_up (va_up (Q 12) (0 : Int).toNat ((Q 35) (0 : Int).toNat)) (1 : Int).toNat ((Q 35) (1 : Int).toNat)) (2 : Int).toNat ((Q 35) (2 : Int).toNat)) (o := (Q 35) (3 : Int).toNat) (w2 := CW A D T G.2.1 (au (au (au (au (au I 2 s60_1) 11 s75_2) 13 s90_3) 14 s105_4) 15 s120_5) (fu (fu (fu (fu (fu (fu F 1 (F 11)) 2 (F 12)) 3 (F 13)) 4 (F 14)) 5 (F 15)) 6 (F 16)) (qu Q 12 (va_up (va_up (va_up (va_up (Q 12) (0 : Int).toNat ((Q 35) (0 : Int).toNat)) (1 : Int).toNat ((Q 35) (1 : Int).toNat)) (2 : Int).toNat ((Q 35) (2 : Int).toNat)) (3 : Int).toNat ((Q 35) (3 : Int).toNat))) P) hC dX6_copy_141 12 CW_12 rfl (clb_ob hL hz (by decide)) (by omega) (Nat.le_of_ble_eq_true rfl) (CWq_12 qu_rp) ?_
          refine w_iinc (pc := 142) hC dX6_copy_142 (lv2 := [(2, .int (J 4)), (0, .ref (A 1)), (1, .ref (A 24))]) 0 rfl (by rw [hnL]; decide) rfl ?_
          refine w_goto (pc := 145) hC dX6_copy_145 (tgt := 125) (by decide) ?_
          refine w_iload_n (pc := 125) hC dX6_copy_125 0 rfl rfl ?_
          refine w_iconst (pc := 126) hC dX6_copy_126 ?_
          refine w_icmp_ge (pc := 127) (tgt := 148) hC dX6_copy_127 (by decide) (by omega) (fun c127 => ?_) (fun c127 => ?_)
          · exact absurd c127 (by decide)
          · refine w_aload_n (pc := 130) hC dX6_copy_130 1 rfl rfl ?_
            refine w_getf (pc := 131) (v := .ref (A 12)) hC dX6_copy_131 fi_X6_42 1 CW_1 rfl ?_
            refine w_iload_n (pc := 134) hC dX6_copy_134 0 rfl rfl ?_
            refine w_aload_n (pc := 135) hC dX6_copy_135 2 rfl rfl ?_
            refine w_getf (pc := 136) (v := .ref (A 35)) hC dX6_copy_136 fi_X6_42 24 CW_24 rfl ?_
            refine w_iload_n (pc := 139) hC dX6_copy_139 0 rfl rfl ?_
            refine w_aald (t0 := 5) (f := Q 35) hC dX6_copy_140 35 CW_35 rfl rfl (by omega) (Nat.le_of_ble_eq_true rfl) ?_
            refine w_aastO (pc := 141) (t0 := 5) (f := va_up (va_up (va_up (va_up (Q 12) (0 : Int).toNat ((Q 35) (0 : Int).toNat)) (1 : Int).toNat ((Q 35) (1 : Int).toNat)) (2 : Int).toNat ((Q 35) (2 : Int).toNat)) (3 : Int).toNat ((Q 35) (3 : Int).toNat)) (o := (Q 35) (4 : Int).toNat) (w2 := CW A D T G.2.1 (au (au (au (au (au I 2 s60_1) 11 s75_2) 13 s90_3) 14 s105_4) 15 s120_5) (fu (fu (fu (fu (fu (fu F 1 (F 11)) 2 (F 12)) 3 (F 13)) 4 (F 14)) 5 (F 15)) 6 (F 16)) (qu Q 12 (va_up (va_up (va_up (va_up (va_up (Q 12) (0 : Int).toNat ((Q 35) (0 : Int).toNat)) (1 : Int).toNat ((Q 35) (1 : Int).toNat)) (2 : Int).toNat ((Q 35) (2 : Int).toNat)) (3 : Int).toNat ((Q 35) (3 : Int).toNat)) (4 : Int).toNat ((Q 35) (4 : Int).toNat))) P) hC dX6_copy_141 12 CW_12 rfl (clb_ob hL hz (by decide)) (by omega) (Nat.le_of_ble_eq_true rfl) (CWq_12 qu_rp) ?_
            refine w_iinc (pc := 142) hC dX6_copy_142 (lv2 := [(2, .int (J 5)), (0, .ref (A 1)), (1, .ref (A 24))]) 0 rfl (by rw [hnL]; decide) rfl ?_
            refine w_goto (pc := 145) hC dX6_copy_145 (tgt := 125) (by decide) ?_
            refine w_iload_n (pc := 125) hC dX6_copy_125 0 rfl rfl ?_
            refine w_iconst (pc := 126) hC dX6_copy_126 ?_
            refine w_icmp_ge (pc := 127) (tgt := 148) hC dX6_copy_127 (by decide) (by omega) (fun c127 => ?_) (fun c127 => ?_)
            · refine w_iconst (pc := 148) hC dX6_copy_148 ?_
              refine w_istore_n (pc := 149) hC dX6_copy_149 rfl (lv2 := [(2, .int (J 0)), (0, .ref (A 1)), (1, .ref (A 24))]) (by rw [hnL]; decide) rfl ?_
              refine w_iload_n (pc := 150) hC dX6_copy_150 0 rfl rfl ?_
              refine w_bipush (pc := 151) hC dX6_copy_151 (z := 6) rfl ?_
              refine w_icmp_ge (pc := 153) (tgt := 212) hC dX6_copy_153 (by decide) (by omega) (fun c153 => ?_) (fun c153 => ?_)
              · exact absurd c153 (by decide)
              · refine w_aload_n (pc := 156) hC dX6_copy_156 1 rfl rfl ?_
                refine w_getf (pc := 157) (v := .ref (A 10)) hC dX6_copy_157 fi_X6_29 1 CW_1 rfl ?_
                refine w_iload_n (pc := 160) hC dX6_copy_160 0 rfl rfl ?_
                refine w_aload_n (pc := 161) hC dX6_copy_161 2 rfl rfl ?_
                refine w_getf (pc := 162) (v := .ref (A 33)) hC dX6_copy_162 fi_X6_29 24 CW_24 rfl ?_
                refine w_iload_n (pc := 165) hC dX6_copy_165 0 rfl rfl ?_
                refine w_aald (t0 := 4) (f := Q 33) hC dX6_copy_166 33 CW_33 rfl rfl (by omega) (Nat.le_of_ble_eq_true rfl) ?_
                refine w_aastO (pc := 167) (t0 := 4) (f := Q 10) (o := (Q 33) (0 : Int).toNat) (w2 := CW A D T G.2.1 (au (au (au (au (au I 2 s60_1) 11 s75_2) 13 s90_3) 14 s105_4) 15 s120_5) (fu (fu (fu (fu (fu (fu F 1 (F 11)) 2 (F 12)) 3 (F 13)) 4 (F 14)) 5 (F 15)) 6 (F 16)) (qu (qu Q 10 (va_up (Q 10) (0 : Int).toNat ((Q 33) (0 : Int).toNat))) 12 (va_up (va_up (va_up (va_up (va_up (Q 12) (0 : Int).toNat ((Q 35) (0 : Int).toNat)) (1 : Int).toNat ((Q 35) (1 : Int).toNat)) (2 : Int).toNat ((Q 35) (2 : Int).toNat)) (3 : Int).toNat ((Q 35) (3 : Int).toNat)) (4 : Int).toNat ((Q 35) (4 : Int).toNat))) P) hC dX6_copy_167 10 CW_10 rfl (akb_ob hL hR (by decide)) (by omega) (Nat.le_of_ble_eq_true rfl) (CWq_10 (qu_cm (by decide) rfl)) ?_
                refine w_aload_n (pc := 168) hC dX6_copy_168 2 rfl rfl ?_
                refine w_getf (pc := 169) (v := .ref (A 26)) hC dX6_copy_169 fi_X6_21 24 CW_24 rfl ?_
                refine w_iload_n (pc := 172) hC dX6_copy_172 0 rfl rfl ?_
                refine w_aaldS (t0 := 6) (q := A 27) hC dX6_copy_173 26 CW_26 rfl rfl (by decide) (Nat.le_of_ble_eq_true rfl) rfl ?_
                refine w_iconst (pc := 174) hC dX6_copy_174 ?_
                refine w_aload_n (pc := 175) hC dX6_copy_175 1 rfl rfl ?_
                refine w_getf (pc := 176) (v := .ref (A 3)) hC dX6_copy_176 fi_X6_21 1 CW_1 rfl ?_
                refine w_iload_n (pc := 179) hC dX6_copy_179 0 rfl rfl ?_
                refine w_aaldS (t0 := 6) (q := A 4) hC dX6_copy_180 3 CW_3 rfl rfl (by decide) (Nat.le_of_ble_eq_true rfl) rfl ?_
                refine w_iconst (pc := 181) hC dX6_copy_181 ?_
                refine w_bipush (pc := 182) hC dX6_copy_182 (z := 6) rfl ?_
                refine w_copyI (pc := 184) (f := (I 27)) (g := (I 4)) (w2 := CW A D T G.2.1 (au (au (au (au (au (au I 2 s60_1) 4 (cpg (I 27) (I 4) 6)) 11 s75_2) 13 s90_3) 14 s105_4) 15 s120_5) (fu (fu (fu (fu (fu (fu F 1 (F 11)) 2 (F 12)) 3 (F 13)) 4 (F 14)) 5 (F 15)) 6 (F 16)) (qu (qu Q 10 (va_up (Q 10) (0 : Int).toNat ((Q 33) (0 : Int).toNat))) 12 (va_up (va_up (va_up (va_up (va_up (Q 12) (0 : Int).toNat ((Q 35) (0 : Int).toNat)) (1 : Int).toNat ((Q 35) (1 : Int).toNat)) (2 : Int).toNat ((Q 35) (2 : Int).toNat)) (3 : Int).toNat ((Q 35) (3 : Int).toNat)) (4 : Int).toNat ((Q 35) (4 : Int).toNat))) P) hC dX6_copy_184 tw_5_26 27 4 CW_27 CW_4 (by omega) (Nat.le_of_ble_eq_true rfl) (Nat.le_of_ble_eq_true rfl) (CWa_4 (au_cm (by decide) (au_cm (by decide) (au_cm (by decide) (au_cm (by decide) rfl))))) ?_
                generalize h184_6 : cpg (I 27) (I 4) 6 = s184_6
                refine w_aload_n (pc := 187) hC dX6_copy_187 2 rfl rfl ?_
                refine w_getf (pc := 188) (v := .ref (A 39)) hC dX6_copy_188 fi_X6_64 24 CW_24 rfl ?_
                refine w_iload_n (pc := 191) hC dX6_copy_191 0 rfl rfl ?_
                refine w_aaldS (t0 := 6) (q := A 40) hC dX6_copy_192 39 CW_39 rfl rfl (by decide) (Nat.le_of_ble_eq_true rfl) rfl ?_
                refine w_iconst (pc := 193) hC dX6_copy_193 ?_
                refine w_aload_n (pc := 194) hC dX6_copy_194 1 rfl rfl ?_
                refine w_getf (pc := 195) (v := .ref (A 16)) hC dX6_copy_195 fi_X6_64 1 CW_1 rfl ?_
                refine w_iload_n (pc := 198) hC dX6_copy_198 0 rfl rfl ?_
                refine w_aaldS (t0 := 6) (q := A 17) hC dX6_copy_199 16 CW_16 rfl rfl (by decide) (Nat.le_of_ble_eq_true rfl) rfl ?_
                refine w_iconst (pc := 200) hC dX6_copy_200 ?_
                refine w_bipush (pc := 201) hC dX6_copy_201 (z := 6) rfl ?_
                refine w_copyI (pc := 203) (f := (I 40)) (g := (I 17)) (w2 := CW A D T G.2.1 (au (au (au (au (au (au (au I 2 s60_1) 4 s184_6) 11 s75_2) 13 s90_3) 14 s105_4) 15 s120_5) 17 (cpg (I 40) (I 17) 6)) (fu (fu (fu (fu (fu (fu F 1 (F 11)) 2 (F 12)) 3 (F 13)) 4 (F 14)) 5 (F 15)) 6 (F 16)) (qu (qu Q 10 (va_up (Q 10) (0 : Int).toNat ((Q 33) (0 : Int).toNat))) 12 (va_up (va_up (va_up (va_up (va_up (Q 12) (0 : Int).toNat ((Q 35) (0 : Int).toNat)) (1 : Int).toNat ((Q 35) (1 : Int).toNat)) (2 : Int).toNat ((Q 35) (2 : Int).toNat)) (3 : Int).toNat ((Q 35) (3 : Int).toNat)) (4 : Int).toNat ((Q 35) (4 : Int).toNat))) P) hC dX6_copy_203 tw_5_26 40 17 CW_40 CW_17 (by omega) (Nat.le_of_ble_eq_true rfl) (Nat.le_of_ble_eq_true rfl) (CWa_17 rfl) ?_
                generalize h203_7 : cpg (I 40) (I 17) 6 = s203_7
                refine w_iinc (pc := 206) hC dX6_copy_206 (lv2 := [(2, .int (J 1)), (0, .ref (A 1)), (1, .ref (A 24))]) 0 rfl (by rw [hnL]; decide) rfl ?_
                refine w_goto (pc := 209) hC dX6_copy_209 (tgt := 150) (by decide) ?_
                refine w_iload_n (pc := 150) hC dX6_copy_150 0 rfl rfl ?_
                refine w_bipush (pc := 151) hC dX6_copy_151 (z := 6) rfl ?_
                refine w_icmp_ge (pc := 153) (tgt := 212) hC dX6_copy_153 (by decide) (by omega) (fun c153 => ?_) (fun c153 => ?_)
                · exact absurd c153 (by decide)
                · refine w_aload_n (pc := 156) hC dX6_copy_156 1 rfl rfl ?_
                  refine w_getf (pc := 157) (v := .ref (A 10)) hC dX6_copy_157 fi_X6_29 1 CW_1 rfl ?_
                  refine w_iload_n (pc := 160) hC dX6_copy_160 0 rfl rfl ?_
                  refine w_aload_n (pc := 161) hC dX6_copy_161 2 rfl rfl ?_
                  refine w_getf (pc := 162) (v := .ref (A 33)) hC dX6_copy_162 fi_X6_29 24 CW_24 rfl ?_
                  refine w_iload_n (pc := 165) hC dX6_copy_165 0 rfl rfl ?_
                  refine w_aald (t0 := 4) (f := Q 33) hC dX6_copy_166 33 CW_33 rfl rfl (by omega) (Nat.le_of_ble_eq_true rfl) ?_
                  refine w_aastO (pc := 167) (t0 := 4) (f := va_up (Q 10) (0 : Int).toNat ((Q 33) (0 : Int).toNat)) (o := (Q 33) (1 : Int).toNat) (w2 := CW A D T G.2.1 (au (au (au (au (au (au (au I 2 s60_1) 4 s184_6) 11 s75_2) 13 s90_3) 14 s105_4) 15 s120_5) 17 s203_7) (fu (fu (fu (fu (fu (fu F 1 (F 11)) 2 (F 12)) 3 (F 13)) 4 (F 14)) 5 (F 15)) 6 (F 16)) (qu (qu Q 10 (va_up (va_up (Q 10) (0 : Int).toNat ((Q 33) (0 : Int).toNat)) (1 : Int).toNat ((Q 33) (1 : Int).toNat))) 12 (va_up (va_up (va_up (va_up (va_up (Q 12) (0 : Int).toNat ((Q 35) (0 : Int).toNat)) (1 : Int).toNat ((Q 35) (1 : Int).toNat)) (2 : Int).toNat ((Q 35) (2 : Int).toNat)) (3 : Int).toNat ((Q 35) (3 : Int).toNat)) (4 : Int).toNat ((Q 35) (4 : Int).toNat))) P) hC dX6_copy_167 10 CW_10 rfl (akb_ob hL hR (by decide)) (by omega) (Nat.le_of_ble_eq_true rfl) (CWq_10 (qu_cm (by decide) qu_rp)) ?_
                  refine w_aload_n (pc := 168) hC dX6_copy_168 2 rfl rfl ?_
                  refine w_getf (pc := 169) (v := .ref (A 26)) hC dX6_copy_169 fi_X6_21 24 CW_24 rfl ?_
                  refine w_iload_n (pc := 172) hC dX6_copy_172 0 rfl rfl ?_
                  refine w_aaldS (t0 := 6) (q := A 28) hC dX6_copy_173 26 CW_26 rfl rfl (by decide) (Nat.le_of_ble_eq_true rfl) rfl ?_
                  refine w_iconst (pc := 174) hC dX6_copy_174 ?_
                  refine w_aload_n (pc := 175) hC dX6_copy_175 1 rfl rfl ?_
                  refine w_getf (pc := 176) (v := .ref (A 3)) hC dX6_copy_176 fi_X6_21 1 CW_1 rfl ?_
                  refine w_iload_n (pc := 179) hC dX6_copy_179 0 rfl rfl ?_
                  refine w_aaldS (t0 := 6) (q := A 5) hC dX6_copy_180 3 CW_3 rfl rfl (by decide) (Nat.le_of_ble_eq_true rfl) rfl ?_
                  refine w_iconst (pc := 181) hC dX6_copy_181 ?_
                  refine w_bipush (pc := 182) hC dX6_copy_182 (z := 6) rfl ?_
                  refine w_copyI (pc := 184) (f := (I 28)) (g := (I 5)) (w2 := CW A D T G.2.1 (au (au (au (au (au (au (au (au I 2 s60_1) 4 s184_6) 5 (cpg (I 28) (I 5) 6)) 11 s75_2) 13 s90_3) 14 s105_4) 15 s120_5) 17 s203_7) (fu (fu (fu (fu (fu (fu F 1 (F 11)) 2 (F 12)) 3 (F 13)) 4 (F 14)) 5 (F 15)) 6 (F 16)) (qu (qu Q 10 (va_up (va_up (Q 10) (0 : Int).toNat ((Q 33) (0 : Int).toNat)) (1 : Int).toNat ((Q 33) (1 : Int).toNat))) 12 (va_up (va_up (va_up (va_up (va_up (Q 12) (0 : Int).toNat ((Q 35) (0 : Int).toNat)) (1 : Int).toNat ((Q 35) (1 : Int).toNat)) (2 : Int).toNat ((Q 35) (2 : Int).toNat)) (3 : Int).toNat ((Q 35) (3 : Int).toNat)) (4 : Int).toNat ((Q 35) (4 : Int).toNat))) P) hC dX6_copy_184 tw_5_26 28 5 CW_28 CW_5 (by omega) (Nat.le_of_ble_eq_true rfl) (Nat.le_of_ble_eq_true rfl) (CWa_5 (au_cm (by decide) (au_cm (by decide) (au_cm (by decide) (au_cm (by decide) (au_cm (by decide) rfl)))))) ?_
                  generalize h184_8 : cpg (I 28) (I 5) 6 = s184_8
                  refine w_aload_n (pc := 187) hC dX6_copy_187 2 rfl rfl ?_
                  refine w_getf (pc := 188) (v := .ref (A 39)) hC dX6_copy_188 fi_X6_64 24 CW_24 rfl ?_
                  refine w_iload_n (pc := 191) hC dX6_copy_191 0 rfl rfl ?_
                  refine w_aaldS (t0 := 6) (q := A 41) hC dX6_copy_192 39 CW_39 rfl rfl (by decide) (Nat.le_of_ble_eq_true rfl) rfl ?_
                  refine w_iconst (pc := 193) hC dX6_copy_193 ?_
                  refine w_aload_n (pc := 194) hC dX6_copy_194 1 rfl rfl ?_
                  refine w_getf (pc := 195) (v := .ref (A 16)) hC dX6_copy_195 fi_X6_64 1 CW_1 rfl ?_
                  refine w_iload_n (pc := 198) hC dX6_copy_198 0 rfl rfl ?_
                  refine w_aaldS (t0 := 6) (q := A 18) hC dX6_copy_199 16 CW_16 rfl rfl (by decide) (Nat.le_of_ble_eq_true rfl) rfl ?_
                  refine w_iconst (pc := 200) hC dX6_copy_200 ?_
                  refine w_bipush (pc := 201) hC dX6_copy_201 (z := 6) rfl ?_
                  refine w_copyI (pc := 203) (f := (I 41)) (g := (I 18)) (w2 := CW A D T G.2.1 (au (au (au (au (au (au (au (au (au I 2 s60_1) 4 s184_6) 5 s184_8) 11 s75_2) 13 s90_3) 14 s105_4) 15 s120_5) 17 s203_7) 18 (cpg (I 41) (I 18) 6)) (fu (fu (fu (fu (fu (fu F 1 (F 11)) 2 (F 12)) 3 (F 13)) 4 (F 14)) 5 (F 15)) 6 (F 16)) (qu (qu Q 10 (va_up (va_up (Q 10) (0 : Int).toNat ((Q 33) (0 : Int).toNat)) (1 : Int).toNat ((Q 33) (1 : Int).toNat))) 12 (va_up (va_up (va_up (va_up (va_up (Q 12) (0 : Int).toNat ((Q 35) (0 : Int).toNat)) (1 : Int).toNat ((Q 35) (1 : Int).toNat)) (2 : Int).toNat ((Q 35) (2 : Int).toNat)) (3 : Int).toNat ((Q 35) (3 : Int).toNat)) (4 : Int).toNat ((Q 35) (4 : Int).toNat))) P) hC dX6_copy_203 tw_5_26 41 18 CW_41 CW_18 (by omega) (Nat.le_of_ble_eq_true rfl) (Nat.le_of_ble_eq_true rfl) (CWa_18 rfl) ?_
                  generalize h203_9 : cpg (I 41) (I 18) 6 = s203_9
                  refine w_iinc (pc := 206) hC dX6_copy_206 (lv2 := [(2, .int (J 2)), (0, .ref (A 1)), (1, .ref (A 24))]) 0 rfl (by rw [hnL]; decide) rfl ?_
                  refine w_goto (pc := 209) hC dX6_copy_209 (tgt := 150) (by decide) ?_
                  refine w_iload_n (pc := 150) hC dX6_copy_150 0 rfl rfl ?_
                  refine w_bipush (pc := 151) hC dX6_copy_151 (z := 6) rfl ?_
                  refine w_icmp_ge (pc := 153) (tgt := 212) hC dX6_copy_153 (by decide) (by omega) (fun c153 => ?_) (fun c153 => ?_)
                  · exact absurd c153 (by decide)
                  · refine w_aload_n (pc := 156) hC dX6_copy_156 1 rfl rfl ?_
                    refine w_getf (pc := 157) (v := .ref (A 10)) hC dX6_copy_157 fi_X6_29 1 CW_1 rfl ?_
                    refine w_iload_n (pc := 160) hC dX6_copy_160 0 rfl rfl ?_
                    refine w_aload_n (pc := 161) hC dX6_copy_161 2 rfl rfl ?_
                    refine w_getf (pc := 162) (v := .ref (A 33)) hC dX6_copy_162 fi_X6_29 24 CW_24 rfl ?_
                    refine w_iload_n (pc := 165) hC dX6_copy_165 0 rfl rfl ?_
                    refine w_aald (t0 := 4) (f := Q 33) hC dX6_copy_166 33 CW_33 rfl rfl (by omega) (Nat.le_of_ble_eq_true rfl) ?_
                    refine w_aastO (pc := 167) (t0 := 4) (f := va_up (va_up (Q 10) (0 : Int).toNat ((Q 33) (0 : Int).toNat)) (1 : Int).toNat ((Q 33) (1 : Int).toNat)) (o := (Q 33) (2 : Int).toNat) (w2 := CW A D T G.2.1 (au (au (au (au (au (au (au (au (au I 2 s60_1) 4 s184_6) 5 s184_8) 11 s75_2) 13 s90_3) 14 s105_4) 15 s120_5) 17 s203_7) 18 s203_9) (fu (fu (fu (fu (fu (fu F 1 (F 11)) 2 (F 12)) 3 (F 13)) 4 (F 14)) 5 (F 15)) 6 (F 16)) (qu (qu Q 10 (va_up (va_up (va_up (Q 10) (0 : Int).toNat ((Q 33) (0 : Int).toNat)) (1 : Int).toNat ((Q 33) (1 : Int).toNat)) (2 : Int).toNat ((Q 33) (2 : Int).toNat))) 12 (va_up (va_up (va_up (va_up (va_up (Q 12) (0 : Int).toNat ((Q 35) (0 : Int).toNat)) (1 : Int).toNat ((Q 35) (1 : Int).toNat)) (2 : Int).toNat ((Q 35) (2 : Int).toNat)) (3 : Int).toNat ((Q 35) (3 : Int).toNat)) (4 : Int).toNat ((Q 35) (4 : Int).toNat))) P) hC dX6_copy_167 10 CW_10 rfl (akb_ob hL hR (by decide)) (by omega) (Nat.le_of_ble_eq_true rfl) (CWq_10 (qu_cm (by decide) qu_rp)) ?_
                    refine w_aload_n (pc := 168) hC dX6_copy_168 2 rfl rfl ?_
                    refine w_getf (pc := 169) (v := .ref (A 26)) hC dX6_copy_169 fi_X6_21 24 CW_24 rfl ?_
                    refine w_iload_n (pc := 172) hC dX6_copy_172 0 rfl rfl ?_
                    refine w_aaldS (t0 := 6) (q := A 29) hC dX6_copy_173 26 CW_26 rfl rfl (by decide) (Nat.le_of_ble_eq_true rfl) rfl ?_
                    refine w_iconst (pc := 174) hC dX6_copy_174 ?_
                    refine w_aload_n (pc := 175) hC dX6_copy_175 1 rfl rfl ?_
                    refine w_getf (pc := 176) (v := .ref (A 3)) hC dX6_copy_176 fi_X6_21 1 CW_1 rfl ?_
                    refine w_iload_n (pc := 179) hC dX6_copy_179 0 rfl rfl ?_
                    refine w_aaldS (t0 := 6) (q := A 6) hC dX6_copy_180 3 CW_3 rfl rfl (by decide) (Nat.le_of_ble_eq_true rfl) rfl ?_
                    refine w_iconst (pc := 181) hC dX6_copy_181 ?_
                    refine w_bipush (pc := 182) hC dX6_copy_182 (z := 6) rfl ?_
                    refine w_copyI (pc := 184) (f := (I 29)) (g := (I 6)) (w2 := CW A D T G.2.1 (au (au (au (au (au (au (au (au (au (au I 2 s60_1) 4 s184_6) 5 s184_8) 6 (cpg (I 29) (I 6) 6)) 11 s75_2) 13 s90_3) 14 s105_4) 15 s120_5) 17 s203_7) 18 s203_9) (fu (fu (fu (fu (fu (fu F 1 (F 11)) 2 (F 12)) 3 (F 13)) 4 (F 14)) 5 (F 15)) 6 (F 16)) (qu (qu Q 10 (va_up (va_up (va_up (Q 10) (0 : Int).toNat ((Q 33) (0 : Int).toNat)) (1 : Int).toNat ((Q 33) (1 : Int).toNat)) (2 : Int).toNat ((Q 33) (2 : Int).toNat))) 12 (va_up (va_up (va_up (va_up (va_up (Q 12) (0 : Int).toNat ((Q 35) (0 : Int).toNat)) (1 : Int).toNat ((Q 35) (1 : Int).toNat)) (2 : Int).toNat ((Q 35) (2 : Int).toNat)) (3 : Int).toNat ((Q 35) (3 : Int).toNat)) (4 : Int).toNat ((Q 35) (4 : Int).toNat))) P) hC dX6_copy_184 tw_5_26 29 6 CW_29 CW_6 (by omega) (Nat.le_of_ble_eq_true rfl) (Nat.le_of_ble_eq_true rfl) (CWa_6 (au_cm (by decide) (au_cm (by decide) (au_cm (by decide) (au_cm (by decide) (au_cm (by decide) (au_cm (by decide) rfl))))))) ?_
                    generalize h184_10 : cpg (I 29) (I 6) 6 = s184_10
                    refine w_aload_n (pc := 187) hC dX6_copy_187 2 rfl rfl ?_
                    refine w_getf (pc := 188) (v := .ref (A 39)) hC dX6_copy_188 fi_X6_64 24 CW_24 rfl ?_
                    refine w_iload_n (pc := 191) hC dX6_copy_191 0 rfl rfl ?_
                    refine w_aaldS (t0 := 6) (q := A 42) hC dX6_copy_192 39 CW_39 rfl rfl (by decide) (Nat.le_of_ble_eq_true rfl) rfl ?_
                    refine w_iconst (pc := 193) hC dX6_copy_193 ?_
                    refine w_aload_n (pc := 194) hC dX6_copy_194 1 rfl rfl ?_
                    refine w_getf (pc := 195) (v := .ref (A 16)) hC dX6_copy_195 fi_X6_64 1 CW_1 rfl ?_
                    refine w_iload_n (pc := 198) hC dX6_copy_198 0 rfl rfl ?_
                    refine w_aaldS (t0 := 6) (q := A 19) hC dX6_copy_199 16 CW_16 rfl rfl (by decide) (Nat.le_of_ble_eq_true rfl) rfl ?_
                    refine w_iconst (pc := 200) hC dX6_copy_200 ?_
                    refine w_bipush (pc := 201) hC dX6_copy_201 (z := 6) rfl ?_
                    refine w_copyI (pc := 203) (f := (I 42)) (g := (I 19)) (w2 := CW A D T G.2.1 (au (au (au (au (au (au (au (au (au (au (au I 2 s60_1) 4 s184_6) 5 s184_8) 6 s184_10) 11 s75_2) 13 s90_3) 14 s105_4) 15 s120_5) 17 s203_7) 18 s203_9) 19 (cpg (I 42) (I 19) 6)) (fu (fu (fu (fu (fu (fu F 1 (F 11)) 2 (F 12)) 3 (F 13)) 4 (F 14)) 5 (F 15)) 6 (F 16)) (qu (qu Q 10 (va_up (va_up (va_up (Q 10) (0 : Int).toNat ((Q 33) (0 : Int).toNat)) (1 : Int).toNat ((Q 33) (1 : Int).toNat)) (2 : Int).toNat ((Q 33) (2 : Int).toNat))) 12 (va_up (va_up (va_up (va_up (va_up (Q 12) (0 : Int).toNat ((Q 35) (0 : Int).toNat)) (1 : Int).toNat ((Q 35) (1 : Int).toNat)) (2 : Int).toNat ((Q 35) (2 : Int).toNat)) (3 : Int).toNat ((Q 35) (3 : Int).toNat)) (4 : Int).toNat ((Q 35) (4 : Int).toNat))) P) hC dX6_copy_203 tw_5_26 42 19 CW_42 CW_19 (by omega) (Nat.le_of_ble_eq_true rfl) (Nat.le_of_ble_eq_true rfl) (CWa_19 rfl) ?_
                    generalize h203_11 : cpg (I 42) (I 19) 6 = s203_11
                    refine w_iinc (pc := 206) hC dX6_copy_206 (lv2 := [(2, .int (J 3)), (0, .ref (A 1)), (1, .ref (A 24))]) 0 rfl (by rw [hnL]; decide) rfl ?_
                    refine w_goto (pc := 209) hC dX6_copy_209 (tgt := 150) (by decide) ?_
                    refine w_iload_n (pc := 150) hC dX6_copy_150 0 rfl rfl ?_
                    refine w_bipush (pc := 151) hC dX6_copy_151 (z := 6) rfl ?_
                    refine w_icmp_ge (pc := 153) (tgt := 212) hC dX6_copy_153 (by decide) (by omega) (fun c153 => ?_) (fun c153 => ?_)
                    · exact absurd c153 (by decide)
                    · refine w_aload_n (pc := 156) hC dX6_copy_156 1 rfl rfl ?_
                      refine w_getf (pc := 157) (v := .ref (A 10)) hC dX6_copy_157 fi_X6_29 1 CW_1 rfl ?_
                      refine w_iload_n (pc := 160) hC dX6_copy_160 0 rfl rfl ?_
                      refine w_aload_n (pc := 161) hC dX6_copy_161 2 rfl rfl ?_
                      refine w_getf (pc := 162) (v := .ref (A 33)) hC dX6_copy_162 fi_X6_29 24 CW_24 rfl ?_
                      refine w_iload_n (pc := 165) hC dX6_copy_165 0 rfl rfl ?_
                      refine w_aald (t0 := 4) (f := Q 33) hC dX6_copy_166 33 CW_33 rfl rfl (by omega) (Nat.le_of_ble_eq_true rfl) ?_
                      refine w_aastO (pc := 167) (t0 := 4) (f := va_up (va_up (va_up (Q 10) (0 : Int).toNat ((Q 33) (0 : Int).toNat)) (1 : Int).toNat ((Q 33) (1 : Int).toNat)) (2 : Int).toNat ((Q 33) (2 : Int).toNat)) (o := (Q 33) (3 : Int).toNat) (w2 := CW A D T G.2.1 (au (au (au (au (au (au (au (au (au (au (au I 2 s60_1) 4 s184_6) 5 s184_8) 6 s184_10) 11 s75_2) 13 s90_3) 14 s105_4) 15 s120_5) 17 s203_7) 18 s203_9) 19 s203_11) (fu (fu (fu (fu (fu (fu F 1 (F 11)) 2 (F 12)) 3 (F 13)) 4 (F 14)) 5 (F 15)) 6 (F 16)) (qu (qu Q 10 (va_up (va_up (va_up (va_up (Q 10) (0 : Int).toNat ((Q 33) (0 : Int).toNat)) (1 : Int).toNat ((Q 33) (1 : Int).toNat)) (2 : Int).toNat ((Q 33) (2 : Int).toNat)) (3 : Int).toNat ((Q 33) (3 : Int).toNat))) 12 (va_up (va_up (va_up (va_up (va_up (Q 12) (0 : Int).toNat ((Q 35) (0 : Int).toNat)) (1 : Int).toNat ((Q 35) (1 : Int).toNat)) (2 : Int).toNat ((Q 35) (2 : Int).toNat)) (3 : Int).toNat ((Q 35) (3 : Int).toNat)) (4 : Int).toNat ((Q 35) (4 : Int).toNat))) P) hC dX6_copy_167 10 CW_10 rfl (akb_ob hL hR (by decide)) (by omega) (Nat.le_of_ble_eq_true rfl) (CWq_10 (qu_cm (by decide) qu_rp)) ?_
                      refine w_aload_n (pc := 168) hC dX6_copy_168 2 rfl rfl ?_
                      refine w_getf (pc := 169) (v := .ref (A 26)) hC dX6_copy_169 fi_X6_21 24 CW_24 rfl ?_
                      refine w_iload_n (pc := 172) hC dX6_copy_172 0 rfl rfl ?_
                      refine w_aaldS (t0 := 6) (q := A 30) hC dX6_copy_173 26 CW_26 rfl rfl (by decide) (Nat.le_of_ble_eq_true rfl) rfl ?_
                      refine w_iconst (pc := 174) hC dX6_copy_174 ?_
                      refine w_aload_n (pc := 175) hC dX6_copy_175 1 rfl rfl ?_
                      refine w_getf (pc := 176) (v := .ref (A 3)) hC dX6_copy_176 fi_X6_21 1 CW_1 rfl ?_
                      refine w_iload_n (pc := 179) hC dX6_copy_179 0 rfl rfl ?_
                      refine w_aaldS (t0 := 6) (q := A 7) hC dX6_copy_180 3 CW_3 rfl rfl (by decide) (Nat.le_of_ble_eq_true rfl) rfl ?_
                      refine w_iconst (pc := 181) hC dX6_copy_181 ?_
                      refine w_bipush (pc := 182) hC dX6_copy_182 (z := 6) rfl ?_
                      refine w_copyI (pc := 184) (f := (I 30)) (g := (I 7)) (w2 := CW A D T G.2.1 (au (au (au (au (au (au (au (au (au (au (au (au I 2 s60_1) 4 s184_6) 5 s184_8) 6 s184_10) 7 (cpg (I 30) (I 7) 6)) 11 s75_2) 13 s90_3) 14 s105_4) 15 s120_5) 17 s203_7) 18 s203_9) 19 s203_11) (fu (fu (fu (fu (fu (fu F 1 (F 11)) 2 (F 12)) 3 (F 13)) 4 (F 14)) 5 (F 15)) 6 (F 16)) (qu (qu Q 10 (va_up (va_up (va_up (va_up (Q 10) (0 : Int).toNat ((Q 33) (0 : Int).toNat)) (1 : Int).toNat ((Q 33) (1 : Int).toNat)) (2 : Int).toNat ((Q 33) (2 : Int).toNat)) (3 : Int).toNat ((Q 33) (3 : Int).toNat))) 12 (va_up (va_up (va_up (va_up (va_up (Q 12) (0 : Int).toNat ((Q 35) (0 : Int).toNat)) (1 : Int).toNat ((Q 35) (1 : Int).toNat)) (2 : Int).toNat ((Q 35) (2 : Int).toNat)) (3 : Int).toNat ((Q 35) (3 : Int).toNat)) (4 : Int).toNat ((Q 35) (4 : Int).toNat))) P) hC dX6_copy_184 tw_5_26 30 7 CW_30 CW_7 (by omega) (Nat.le_of_ble_eq_true rfl) (Nat.le_of_ble_eq_true rfl) (CWa_7 (au_cm (by decide) (au_cm (by decide) (au_cm (by decide) (au_cm (by decide) (au_cm (by decide) (au_cm (by decide) (au_cm (by decide) rfl)))))))) ?_
                      generalize h184_12 : cpg (I 30) (I 7) 6 = s184_12
                      refine w_aload_n (pc := 187) hC dX6_copy_187 2 rfl rfl ?_
                      refine w_getf (pc := 188) (v := .ref (A 39)) hC dX6_copy_188 fi_X6_64 24 CW_24 rfl ?_
                      refine w_iload_n (pc := 191) hC dX6_copy_191 0 rfl rfl ?_
                      refine w_aaldS (t0 := 6) (q := A 43) hC dX6_copy_192 39 CW_39 rfl rfl (by decide) (Nat.le_of_ble_eq_true rfl) rfl ?_
                      refine w_iconst (pc := 193) hC dX6_copy_193 ?_
                      refine w_aload_n (pc := 194) hC dX6_copy_194 1 rfl rfl ?_
                      refine w_getf (pc := 195) (v := .ref (A 16)) hC dX6_copy_195 fi_X6_64 1 CW_1 rfl ?_
                      refine w_iload_n (pc := 198) hC dX6_copy_198 0 rfl rfl ?_
                      refine w_aaldS (t0 := 6) (q := A 20) hC dX6_copy_199 16 CW_16 rfl rfl (by decide) (Nat.le_of_ble_eq_true rfl) rfl ?_
                      refine w_iconst (pc := 200) hC dX6_copy_200 ?_
                      refine w_bipush (pc := 201) hC dX6_copy_201 (z := 6) rfl ?_
                      refine w_copyI (pc := 203) (f := (I 43)) (g := (I 20)) (w2 := CW A D T G.2.1 (au (au (au (au (au (au (au (au (au (au (au (au (au I 2 s60_1) 4 s184_6) 5 s184_8) 6 s184_10) 7 s184_12) 11 s75_2) 13 s90_3) 14 s105_4) 15 s120_5) 17 s203_7) 18 s203_9) 19 s203_11) 20 (cpg (I 43) (I 20) 6)) (fu (fu (fu (fu (fu (fu F 1 (F 11)) 2 (F 12)) 3 (F 13)) 4 (F 14)) 5 (F 15)) 6 (F 16)) (qu (qu Q 10 (va_up (va_up (va_up (va_up (Q 10) (0 : Int).toNat ((Q 33) (0 : Int).toNat)) (1 : Int).toNat ((Q 33) (1 : Int).toNat)) (2 : Int).toNat ((Q 33) (2 : Int).toNat)) (3 : Int).toNat ((Q 33) (3 : Int).toNat))) 12 (va_up (va_up (va_up (va_up (va_up (Q 12) (0 : Int).toNat ((Q 35) (0 : Int).toNat)) (1 : Int).toNat ((Q 35) (1 : Int).toNat)) (2 : Int).toNat ((Q 35) (2 : Int).toNat)) (3 : Int).toNat ((Q 35) (3 : Int).toNat)) (4 : Int).toNat ((Q 35) (4 : Int).toNat))) P) hC dX6_copy_203 tw_5_26 43 20 CW_43 CW_20 (by omega) (Nat.le_of_ble_eq_true rfl) (Nat.le_of_ble_eq_true rfl) (CWa_20 rfl) ?_
                      generalize h203_13 : cpg (I 43) (I 20) 6 = s203_13
                      refine w_iinc (pc := 206) hC dX6_copy_206 (lv2 := [(2, .int (J 4)), (0, .ref (A 1)), (1, .ref (A 24))]) 0 rfl (by rw [hnL]; decide) rfl ?_
                      refine w_goto (pc := 209) hC dX6_copy_209 (tgt := 150) (by decide) ?_
                      refine w_iload_n (pc := 150) hC dX6_copy_150 0 rfl rfl ?_
                      refine w_bipush (pc := 151) hC dX6_copy_151 (z := 6) rfl ?_
                      refine w_icmp_ge (pc := 153) (tgt := 212) hC dX6_copy_153 (by decide) (by omega) (fun c153 => ?_) (fun c153 => ?_)
                      · exact absurd c153 (by decide)
                      · refine w_aload_n (pc := 156) hC dX6_copy_156 1 rfl rfl ?_
                        refine w_getf (pc := 157) (v := .ref (A 10)) hC dX6_copy_157 fi_X6_29 1 CW_1 rfl ?_
                        refine w_iload_n (pc := 160) hC dX6_copy_160 0 rfl rfl ?_
                        refine w_aload_n (pc := 161) hC dX6_copy_161 2 rfl rfl ?_
                        refine w_getf (pc := 162) (v := .ref (A 33)) hC dX6_copy_162 fi_X6_29 24 CW_24 rfl ?_
                        refine w_iload_n (pc := 165) hC dX6_copy_165 0 rfl rfl ?_
                        refine w_aald (t0 := 4) (f := Q 33) hC dX6_copy_166 33 CW_33 rfl rfl (by omega) (Nat.le_of_ble_eq_true rfl) ?_
                        refine w_aastO (pc := 167) (t0 := 4) (f := va_up (va_up (va_up (va_up (Q 10) (0 : Int).toNat ((Q 33) (0 : Int).toNat)) (1 : Int).toNat ((Q 33) (1 : Int).toNat)) (2 : Int).toNat ((Q 33) (2 : Int).toNat)) (3 : Int).toNat ((Q 33) (3 : Int).toNat)) (o := (Q 33) (4 : Int).toNat) (w2 := CW A D T G.2.1 (au (au (au (au (au (au (au (au (au (au (au (au (au I 2 s60_1) 4 s184_6) 5 s184_8) 6 s184_10) 7 s184_12) 11 s75_2) 13 s90_3) 14 s105_4) 15 s120_5) 17 s203_7) 18 s203_9) 19 s203_11) 20 s203_13) (fu (fu (fu (fu (fu (fu F 1 (F 11)) 2 (F 12)) 3 (F 13)) 4 (F 14)) 5 (F 15)) 6 (F 16)) (qu (qu Q 10 (va_up (va_up (va_up (va_up (va_up (Q 10) (0 : Int).toNat ((Q 33) (0 : Int).toNat)) (1 : Int).toNat ((Q 33) (1 : Int).toNat)) (2 : Int).toNat ((Q 33) (2 : Int).toNat)) (3 : Int).toNat ((Q 33) (3 : Int).toNat)) (4 : Int).toNat ((Q 33) (4 : Int).toNat))) 12 (va_up (va_up (va_up (va_up (va_up (Q 12) (0 : Int).toNat ((Q 35) (0 : Int).toNat)) (1 : Int).toNat ((Q 35) (1 : Int).toNat)) (2 : Int).toNat ((Q 35) (2 : Int).toNat)) (3 : Int).toNat ((Q 35) (3 : Int).toNat)) (4 : Int).toNat ((Q 35) (4 : Int).toNat))) P) hC dX6_copy_167 10 CW_10 rfl (akb_ob hL hR (by decide)) (by omega) (Nat.le_of_ble_eq_true rfl) (CWq_10 (qu_cm (by decide) qu_rp)) ?_
                        refine w_aload_n (pc := 168) hC dX6_copy_168 2 rfl rfl ?_
                        refine w_getf (pc := 169) (v := .ref (A 26)) hC dX6_copy_169 fi_X6_21 24 CW_24 rfl ?_
                        refine w_iload_n (pc := 172) hC dX6_copy_172 0 rfl rfl ?_
                        refine w_aaldS (t0 := 6) (q := A 31) hC dX6_copy_173 26 CW_26 rfl rfl (by decide) (Nat.le_of_ble_eq_true rfl) rfl ?_
                        refine w_iconst (pc := 174) hC dX6_copy_174 ?_
                        refine w_aload_n (pc := 175) hC dX6_copy_175 1 rfl rfl ?_
                        refine w_getf (pc := 176) (v := .ref (A 3)) hC dX6_copy_176 fi_X6_21 1 CW_1 rfl ?_
                        refine w_iload_n (pc := 179) hC dX6_copy_179 0 rfl rfl ?_
                        refine w_aaldS (t0 := 6) (q := A 8) hC dX6_copy_180 3 CW_3 rfl rfl (by decide) (Nat.le_of_ble_eq_true rfl) rfl ?_
                        refine w_iconst (pc := 181) hC dX6_copy_181 ?_
                        refine w_bipush (pc := 182) hC dX6_copy_182 (z := 6) rfl ?_
                        refine w_copyI (pc := 184) (f := (I 31)) (g := (I 8)) (w2 := CW A D T G.2.1 (au (au (au (au (au (au (au (au (au (au (au (au (au (au I 2 s60_1) 4 s184_6) 5 s184_8) 6 s184_10) 7 s184_12) 8 (cpg (I 31) (I 8) 6)) 11 s75_2) 13 s90_3) 14 s105_4) 15 s120_5) 17 s203_7) 18 s203_9) 19 s203_11) 20 s203_13) (fu (fu (fu (fu (fu (fu F 1 (F 11)) 2 (F 12)) 3 (F 13)) 4 (F 14)) 5 (F 15)) 6 (F 16)) (qu (qu Q 10 (va_up (va_up (va_up (va_up (va_up (Q 10) (0 : Int).toNat ((Q 33) (0 : Int).toNat)) (1 : Int).toNat ((Q 33) (1 : Int).toNat)) (2 : Int).toNat ((Q 33) (2 : Int).toNat)) (3 : Int).toNat ((Q 33) (3 : Int).toNat)) (4 : Int).toNat ((Q 33) (4 : Int).toNat))) 12 (va_up (va_up (va_up (va_up (va_up (Q 12) (0 : Int).toNat ((Q 35) (0 : Int).toNat)) (1 : Int).toNat ((Q 35) (1 : Int).toNat)) (2 : Int).toNat ((Q 35) (2 : Int).toNat)) (3 : Int).toNat ((Q 35) (3 : Int).toNat)) (4 : Int).toNat ((Q 35) (4 : Int).toNat))) P) hC dX6_copy_184 tw_5_26 31 8 CW_31 CW_8 (by omega) (Nat.le_of_ble_eq_true rfl) (Nat.le_of_ble_eq_true rfl) (CWa_8 (au_cm (by decide) (au_cm (by decide) (au_cm (by decide) (au_cm (by decide) (au_cm (by decide) (au_cm (by decide) (au_cm (by decide) (au_cm (by decide) rfl))))))))) ?_
                        generalize h184_14 : cpg (I 31) (I 8) 6 = s184_14
                        refine w_aload_n (pc := 187) hC dX6_copy_187 2 rfl rfl ?_
                        refine w_getf (pc := 188) (v := .ref (A 39)) hC dX6_copy_188 fi_X6_64 24 CW_24 rfl ?_
                        refine w_iload_n (pc := 191) hC dX6_copy_191 0 rfl rfl ?_
                        refine w_aaldS (t0 := 6) (q := A 44) hC dX6_copy_192 39 CW_39 rfl rfl (by decide) (Nat.le_of_ble_eq_true rfl) rfl ?_
                        refine w_iconst (pc := 193) hC dX6_copy_193 ?_
                        refine w_aload_n (pc := 194) hC dX6_copy_194 1 rfl rfl ?_
                        refine w_getf (pc := 195) (v := .ref (A 16)) hC dX6_copy_195 fi_X6_64 1 CW_1 rfl ?_
                        refine w_iload_n (pc := 198) hC dX6_copy_198 0 rfl rfl ?_
                        refine w_aaldS (t0 := 6) (q := A 21) hC dX6_copy_199 16 CW_16 rfl rfl (by decide) (Nat.le_of_ble_eq_true rfl) rfl ?_
                        refine w_iconst (pc := 200) hC dX6_copy_200 ?_
                        refine w_bipush (pc := 201) hC dX6_copy_201 (z := 6) rfl ?_
                        refine w_copyI (pc := 203) (f := (I 44)) (g := (I 21)) (w2 := CW A D T G.2.1 (au (au (au (au (au (au (au (au (au (au (au (au (au (au (au I 2 s60_1) 4 s184_6) 5 s184_8) 6 s184_10) 7 s184_12) 8 s184_14) 11 s75_2) 13 s90_3) 14 s105_4) 15 s120_5) 17 s203_7) 18 s203_9) 19 s203_11) 20 s203_13) 21 (cpg (I 44) (I 21) 6)) (fu (fu (fu (fu (fu (fu F 1 (F 11)) 2 (F 12)) 3 (F 13)) 4 (F 14)) 5 (F 15)) 6 (F 16)) (qu (qu Q 10 (va_up (va_up (va_up (va_up (va_up (Q 10) (0 : Int).toNat ((Q 33) (0 : Int).toNat)) (1 : Int).toNat ((Q 33) (1 : Int).toNat)) (2 : Int).toNat ((Q 33) (2 : Int).toNat)) (3 : Int).toNat ((Q 33) (3 : Int).toNat)) (4 : Int).toNat ((Q 33) (4 : Int).toNat))) 12 (va_up (va_up (va_up (va_up (va_up (Q 12) (0 : Int).toNat ((Q 35) (0 : Int).toNat)) (1 : Int).toNat ((Q 35) (1 : Int).toNat)) (2 : Int).toNat ((Q 35) (2 : Int).toNat)) (3 : Int).toNat ((Q 35) (3 : Int).toNat)) (4 : Int).toNat ((Q 35) (4 : Int).toNat))) P) hC dX6_copy_203 tw_5_26 44 21 CW_44 CW_21 (by omega) (Nat.le_of_ble_eq_true rfl) (Nat.le_of_ble_eq_true rfl) (CWa_21 rfl) ?_
                        generalize h203_15 : cpg (I 44) (I 21) 6 = s203_15
                        refine w_iinc (pc := 206) hC dX6_copy_206 (lv2 := [(2, .int (J 5)), (0, .ref (A 1)), (1, .ref (A 24))]) 0 rfl (by rw [hnL]; decide) rfl ?_
                        refine w_goto (pc := 209) hC dX6_copy_209 (tgt := 150) (by decide) ?_
                        refine w_iload_n (pc := 150) hC dX6_copy_150 0 rfl rfl ?_
                        refine w_bipush (pc := 151) hC dX6_copy_151 (z := 6) rfl ?_
                        refine w_icmp_ge (pc := 153) (tgt := 212) hC dX6_copy_153 (by decide) (by omega) (fun c153 => ?_) (fun c153 => ?_)
                        · exact absurd c153 (by decide)
                        · refine w_aload_n (pc := 156) hC dX6_copy_156 1 rfl rfl ?_
                          refine w_getf (pc := 157) (v := .ref (A 10)) hC dX6_copy_157 fi_X6_29 1 CW_1 rfl ?_
                          refine w_iload_n (pc := 160) hC dX6_copy_160 0 rfl rfl ?_
                          refine w_aload_n (pc := 161) hC dX6_copy_161 2 rfl rfl ?_
                          refine w_getf (pc := 162) (v := .ref (A 33)) hC dX6_copy_162 fi_X6_29 24 CW_24 rfl ?_
                          refine w_iload_n (pc := 165) hC dX6_copy_165 0 rfl rfl ?_
                          refine w_aald (t0 := 4) (f := Q 33) hC dX6_copy_166 33 CW_33 rfl rfl (by omega) (Nat.le_of_ble_eq_true rfl) ?_
                          refine w_aastO (pc := 167) (t0 := 4) (f := va_up (va_up (va_up (va_up (va_up (Q 10) (0 : Int).toNat ((Q 33) (0 : Int).toNat)) (1 : Int).toNat ((Q 33) (1 : Int).toNat)) (2 : Int).toNat ((Q 33) (2 : Int).toNat)) (3 : Int).toNat ((Q 33) (3 : Int).toNat)) (4 : Int).toNat ((Q 33) (4 : Int).toNat)) (o := (Q 33) (5 : Int).toNat) (w2 := CW A D T G.2.1 (au (au (au (au (au (au (au (au (au (au (au (au (au (au (au I 2 s60_1) 4 s184_6) 5 s184_8) 6 s184_10) 7 s184_12) 8 s184_14) 11 s75_2) 13 s90_3) 14 s105_4) 15 s120_5) 17 s203_7) 18 s203_9) 19 s203_11) 20 s203_13) 21 s203_15) (fu (fu (fu (fu (fu (fu F 1 (F 11)) 2 (F 12)) 3 (F 13)) 4 (F 14)) 5 (F 15)) 6 (F 16)) (qu (qu Q 10 (va_up (va_up (va_up (va_up (va_up (va_up (Q 10) (0 : Int).toNat ((Q 33) (0 : Int).toNat)) (1 : Int).toNat ((Q 33) (1 : Int).toNat)) (2 : Int).toNat ((Q 33) (2 : Int).toNat)) (3 : Int).toNat ((Q 33) (3 : Int).toNat)) (4 : Int).toNat ((Q 33) (4 : Int).toNat)) (5 : Int).toNat ((Q 33) (5 : Int).toNat))) 12 (va_up (va_up (va_up (va_up (va_up (Q 12) (0 : Int).toNat ((Q 35) (0 : Int).toNat)) (1 : Int).toNat ((Q 35) (1 : Int).toNat)) (2 : Int).toNat ((Q 35) (2 : Int).toNat)) (3 : Int).toNat ((Q 35) (3 : Int).toNat)) (4 : Int).toNat ((Q 35) (4 : Int).toNat))) P) hC dX6_copy_167 10 CW_10 rfl (akb_ob hL hR (by decide)) (by omega) (Nat.le_of_ble_eq_true rfl) (CWq_10 (qu_cm (by decide) qu_rp)) ?_
                          refine w_aload_n (pc := 168) hC dX6_copy_168 2 rfl rfl ?_
                          refine w_getf (pc := 169) (v := .ref (A 26)) hC dX6_copy_169 fi_X6_21 24 CW_24 rfl ?_
                          refine w_iload_n (pc := 172) hC dX6_copy_172 0 rfl rfl ?_
                          refine w_aaldS (t0 := 6) (q := A 32) hC dX6_copy_173 26 CW_26 rfl rfl (by decide) (Nat.le_of_ble_eq_true rfl) rfl ?_
                          refine w_iconst (pc := 174) hC dX6_copy_174 ?_
                          refine w_aload_n (pc := 175) hC dX6_copy_175 1 rfl rfl ?_
                          refine w_getf (pc := 176) (v := .ref (A 3)) hC dX6_copy_176 fi_X6_21 1 CW_1 rfl ?_
                          refine w_iload_n (pc := 179) hC dX6_copy_179 0 rfl rfl ?_
                          refine w_aaldS (t0 := 6) (q := A 9) hC dX6_copy_180 3 CW_3 rfl rfl (by decide) (Nat.le_of_ble_eq_true rfl) rfl ?_
                          refine w_iconst (pc := 181) hC dX6_copy_181 ?_
                          refine w_bipush (pc := 182) hC dX6_copy_182 (z := 6) rfl ?_
                          refine w_copyI (pc := 184) (f := (I 32)) (g := (I 9)) (w2 := CW A D T G.2.1 (au (au (au (au (au (au (au (au (au (au (au (au (au (au (au (au I 2 s60_1) 4 s184_6) 5 s184_8) 6 s184_10) 7 s184_12) 8 s184_14) 9 (cpg (I 32) (I 9) 6)) 11 s75_2) 13 s90_3) 14 s105_4) 15 s120_5) 17 s203_7) 18 s203_9) 19 s203_11) 20 s203_13) 21 s203_15) (fu (fu (fu (fu (fu (fu F 1 (F 11)) 2 (F 12)) 3 (F 13)) 4 (F 14)) 5 (F 15)) 6 (F 16)) (qu (qu Q 10 (va_up (va_up (va_up (va_up (va_up (va_up (Q 10) (0 : Int).toNat ((Q 33) (0 : Int).toNat)) (1 : Int).toNat ((Q 33) (1 : Int).toNat)) (2 : Int).toNat ((Q 33) (2 : Int).toNat)) (3 : Int).toNat ((Q 33) (3 : Int).toNat)) (4 : Int).toNat ((Q 33) (4 : Int).toNat)) (5 : Int).toNat ((Q 33) (5 : Int).toNat))) 12 (va_up (va_up (va_up (va_up (va_up (Q 12) (0 : Int).toNat ((Q 35) (0 : Int).toNat)) (1 : Int).toNat ((Q 35) (1 : Int).toNat)) (2 : Int).toNat ((Q 35) (2 : Int).toNat)) (3 : Int).toNat ((Q 35) (3 : Int).toNat)) (4 : Int).toNat ((Q 35) (4 : Int).toNat))) P) hC dX6_copy_184 tw_5_26 32 9 CW_32 CW_9 (by omega) (Nat.le_of_ble_eq_true rfl) (Nat.le_of_ble_eq_true rfl) (CWa_9 (au_cm (by decide) (au_cm (by decide) (au_cm (by decide) (au_cm (by decide) (au_cm (by decide) (au_cm (by decide) (au_cm (by decide) (au_cm (by decide) (au_cm (by decide) rfl)))))))))) ?_
                          generalize h184_16 : cpg (I 32) (I 9) 6 = s184_16
                          refine w_aload_n (pc := 187) hC dX6_copy_187 2 rfl rfl ?_
                          refine w_getf (pc := 188) (v := .ref (A 39)) hC dX6_copy_188 fi_X6_64 24 CW_24 rfl ?_
                          refine w_iload_n (pc := 191) hC dX6_copy_191 0 rfl rfl ?_
                          refine w_aaldS (t0 := 6) (q := A 45) hC dX6_copy_192 39 CW_39 rfl rfl (by decide) (Nat.le_of_ble_eq_true rfl) rfl ?_
                          refine w_iconst (pc := 193) hC dX6_copy_193 ?_
                          refine w_aload_n (pc := 194) hC dX6_copy_194 1 rfl rfl ?_
                          refine w_getf (pc := 195) (v := .ref (A 16)) hC dX6_copy_195 fi_X6_64 1 CW_1 rfl ?_
                          refine w_iload_n (pc := 198) hC dX6_copy_198 0 rfl rfl ?_
                          refine w_aaldS (t0 := 6) (q := A 22) hC dX6_copy_199 16 CW_16 rfl rfl (by decide) (Nat.le_of_ble_eq_true rfl) rfl ?_
                          refine w_iconst (pc := 200) hC dX6_copy_200 ?_
                          refine w_bipush (pc := 201) hC dX6_copy_201 (z := 6) rfl ?_
                          refine w_copyI (pc := 203) (f := (I 45)) (g := (I 22)) (w2 := CW A D T G.2.1 (au (au (au (au (au (au (au (au (au (au (au (au (au (au (au (au (au I 2 s60_1) 4 s184_6) 5 s184_8) 6 s184_10) 7 s184_12) 8 s184_14) 9 s184_16) 11 s75_2) 13 s90_3) 14 s105_4) 15 s120_5) 17 s203_7) 18 s203_9) 19 s203_11) 20 s203_13) 21 s203_15) 22 (cpg (I 45) (I 22) 6)) (fu (fu (fu (fu (fu (fu F 1 (F 11)) 2 (F 12)) 3 (F 13)) 4 (F 14)) 5 (F 15)) 6 (F 16)) (qu (qu Q 10 (va_up (va_up (va_up (va_up (va_up (va_up (Q 10) (0 : Int).toNat ((Q 33) (0 : Int).toNat)) (1 : Int).toNat ((Q 33) (1 : Int).toNat)) (2 : Int).toNat ((Q 33) (2 : Int).toNat)) (3 : Int).toNat ((Q 33) (3 : Int).toNat)) (4 : Int).toNat ((Q 33) (4 : Int).toNat)) (5 : Int).toNat ((Q 33) (5 : Int).toNat))) 12 (va_up (va_up (va_up (va_up (va_up (Q 12) (0 : Int).toNat ((Q 35) (0 : Int).toNat)) (1 : Int).toNat ((Q 35) (1 : Int).toNat)) (2 : Int).toNat ((Q 35) (2 : Int).toNat)) (3 : Int).toNat ((Q 35) (3 : Int).toNat)) (4 : Int).toNat ((Q 35) (4 : Int).toNat))) P) hC dX6_copy_203 tw_5_26 45 22 CW_45 CW_22 (by omega) (Nat.le_of_ble_eq_true rfl) (Nat.le_of_ble_eq_true rfl) (CWa_22 rfl) ?_
                          generalize h203_17 : cpg (I 45) (I 22) 6 = s203_17
                          refine w_iinc (pc := 206) hC dX6_copy_206 (lv2 := [(2, .int (J 6)), (0, .ref (A 1)), (1, .ref (A 24))]) 0 rfl (by rw [hnL]; decide) rfl ?_
                          refine w_goto (pc := 209) hC dX6_copy_209 (tgt := 150) (by decide) ?_
                          refine w_iload_n (pc := 150) hC dX6_copy_150 0 rfl rfl ?_
                          refine w_bipush (pc := 151) hC dX6_copy_151 (z := 6) rfl ?_
                          refine w_icmp_ge (pc := 153) (tgt := 212) hC dX6_copy_153 (by decide) (by omega) (fun c153 => ?_) (fun c153 => ?_)
                          · refine w_vret (pc := 212) hC hRT dX6_copy_212 ?_
                            refine ⟨s60_1, s184_6, s184_8, s184_10, s184_12, s184_14, s184_16, s75_2, s90_3, s105_4, s120_5, s203_7, s203_9, s203_11, s203_13, s203_15, s203_17, (F 11), (F 12), (F 13), (F 14), (F 15), (F 16), va_up (va_up (va_up (va_up (va_up (va_up (Q 10) (0 : Int).toNat ((Q 33) (0 : Int).toNat)) (1 : Int).toNat ((Q 33) (1 : Int).toNat)) (2 : Int).toNat ((Q 33) (2 : Int).toNat)) (3 : Int).toNat ((Q 33) (3 : Int).toNat)) (4 : Int).toNat ((Q 33) (4 : Int).toNat)) (5 : Int).toNat ((Q 33) (5 : Int).toNat), va_up (va_up (va_up (va_up (va_up (Q 12) (0 : Int).toNat ((Q 35) (0 : Int).toNat)) (1 : Int).toNat ((Q 35) (1 : Int).toNat)) (2 : Int).toNat ((Q 35) (2 : Int).toNat)) (3 : Int).toNat ((Q 35) (3 : Int).toNat)) (4 : Int).toNat ((Q 35) (4 : Int).toNat), rfl, rfl, ?_⟩
                            · refine ⟨LR_copy hL hR (fun a ha => match a, ha with | 0, _ => rfl | 1, _ => rfl | 2, _ => rfl | 3, _ => rfl | 4, _ => rfl | 5, _ => rfl | n + 6, h => absurd h (by omega)) (fun r r0 r1 => cpg_at h60_1 r0 r1) (fun a ha => match a, ha with | 0, _ => fun r r0 r1 => cpg_at h184_6 r0 r1 | 1, _ => fun r r0 r1 => cpg_at h184_8 r0 r1 | 2, _ => fun r r0 r1 => cpg_at h184_10 r0 r1 | 3, _ => fun r r0 r1 => cpg_at h184_12 r0 r1 | 4, _ => fun r r0 r1 => cpg_at h184_14 r0 r1 | 5, _ => fun r r0 r1 => cpg_at h184_16 r0 r1 | n + 6, h => absurd h (by omega)) (fun r r0 r1 => cpg_at h75_2 r0 r1) (fun r r0 r1 => cpg_at h90_3 r0 r1) (fun r r0 r1 => ⟨cpg_at h105_4 r0 r1, cpg_at h120_5 r0 r1⟩) (fun a ha => match a, ha with | 0, _ => fun r r0 r1 => cpg_at h203_7 r0 r1 | 1, _ => fun r r0 r1 => cpg_at h203_9 r0 r1 | 2, _ => fun r r0 r1 => cpg_at h203_11 r0 r1 | 3, _ => fun r r0 r1 => cpg_at h203_13 r0 r1 | 4, _ => fun r r0 r1 => cpg_at h203_15 r0 r1 | 5, _ => fun r r0 r1 => cpg_at h203_17 r0 r1 | n + 6, h => absurd h (by omega)) (fun a ha => match a, ha with | 0, _ => rfl | 1, _ => rfl | 2, _ => rfl | 3, _ => rfl | 4, _ => rfl | 5, _ => rfl | n + 6, h => absurd h (by omega)) (fun a ha => match a, ha with | 0, _ => rfl | 1, _ => rfl | 2, _ => rfl | 3, _ => rfl | 4, _ => rfl | n + 5, h => absurd h (by omega)), fun j j0 j1 => ?_, ?_⟩
                              · show -128 ≤ s75_2 j ∧ s75_2 j ≤ 127
                                rw [cpg_at h75_2 j0 j1]
                                exact hby j j0 j1
                              · exact fun a ha => match a, ha with | 0, _ => hz 0 (by decide) | 1, _ => hz 1 (by decide) | 2, _ => hz 2 (by decide) | 3, _ => hz 3 (by decide) | 4, _ => hz 4 (by decide) | n + 5, h => absurd h (by omega)
                          · exact absurd c153 (by decide)
            · exact absurd c127 (by decide)
