
theorem fnk_276 {k : Int} (h : 0 ≤ k ∧ k ≤ 6) : ∃ i : Nat, FN RX11 276 (kci k) 1 (kCn k) (kTn k) 2 i := by
  obtain ⟨i, hi⟩ : ∃ i : Nat, FN RX11 276 0 1 RX0 TX0 2 i := ⟨_, fn_X11_276⟩
  refine ⟨i, ?_⟩
  rcases k7 h with e | e | e | e | e | e | e <;> subst e
  · exact hi
  · exact ⟨rfl, by decide, hi.2.2.1, inX7⟩
  · exact ⟨rfl, by decide, hi.2.2.1, inX5⟩
  · exact ⟨rfl, by decide, hi.2.2.1, inX9⟩
  · exact ⟨rfl, by decide, hi.2.2.1, inX1⟩
  · exact ⟨rfl, by decide, hi.2.2.1, inX10⟩
  · exact ⟨rfl, by decide, hi.2.2.1, inX8⟩

set_option maxRecDepth 100000 in
set_option maxHeartbeats 4000000 in
theorem c_X11_image (l : Launch) (G : GT) (A D : Nat → Nat) (T : Nat) (I : Nat → Int → Int) (F : Nat → Int) (Q : Nat → Nat → Option Nat) (P : va_W) (S : Int → Int)  (hR : RI S) (hL : LRn G.2.1 S I F Q P) (hby : ∀ j : Int, 0 ≤ j → j < 120 → -128 ≤ (I 11) j ∧ (I 11) j ≤ 127) (hz : ∀ c : Nat, c < 5 → S 1 ≤ (c : Int) → Q 12 c = none) : CT l yX11_image cX11_image 1 (some .int) 2 0 0 G [.ref (A 0)] (CW A D T G.2.1 I F Q P) (fun vo wo => ∃ (g0 : Int) (b25 : Int → Int) (b27 : Int → Int) (b28 : Int → Int) (b29 : Int → Int) (b30 : Int → Int) (b31 : Int → Int) (b32 : Int → Int) (b34 : Int → Int) (b36 : Int → Int) (b37 : Int → Int) (b38 : Int → Int) (b40 : Int → Int) (b41 : Int → Int) (b42 : Int → Int) (b43 : Int → Int) (b44 : Int → Int) (b45 : Int → Int) (g11 : Int) (g12 : Int) (g13 : Int) (g14 : Int) (g15 : Int) (g16 : Int) (q33 : Nat → Option Nat) (q35 : Nat → Option Nat), vo = some (.int (J (S 2))) ∧ wo = CW A D T G.2.1 (au (au (au (au (au (au (au (au (au (au (au (au (au (au (au (au (au I 25 b25) 27 b27) 28 b28) 29 b29) 30 b30) 31 b31) 32 b32) 34 b34) 36 b36) 37 b37) 38 b38) 40 b40) 41 b41) 42 b42) 43 b43) 44 b44) 45 b45) (fu (fu (fu (fu (fu (fu (fu F 0 g0) 11 g11) 12 g12) 13 g13) 14 g14) 15 g15) 16 g16) (qu (qu Q 33 q33) 35 q35) P ∧ (LRb 24 11 G.2.1 S (au (au (au (au (au (au (au (au (au (au (au (au (au (au (au (au (au I 25 b25) 27 b27) 28 b28) 29 b29) 30 b30) 31 b31) 32 b32) 34 b34) 36 b36) 37 b37) 38 b38) 40 b40) 41 b41) 42 b42) 43 b43) 44 b44) 45 b45) (fu (fu (fu (fu (fu (fu (fu F 0 g0) 11 g11) 12 g12) 13 g13) 14 g14) 15 g15) 16 g16) (qu (qu Q 33 q33) 35 q35) P ∧ (∀ j : Int, 0 ≤ j → j < 120 → -128 ≤ b34 j ∧ b34 j ≤ 127) ∧ (∀ c : Nat, c < 5 → S 1 ≤ (c : Int) → (qu (qu Q 33 q33) 35 q35) 35 c = none) ∧ g0 = 1)) := by
  refine CT_of (own := RX11) rfl rfl (Nat.le_of_ble_eq_true rfl) (fun K hl hnL hC hRT hin => ?_)
  subst hl
  show WW K G 0 0 (CW A D T G.2.1 I F Q P) 0 [(0, .ref (A 0))] []
  have hn := hR.n
  have hbd := hR.bd
  refine w_aload_n (pc := 0) hC dX11_image_0 0 rfl rfl ?_
  refine w_getf (pc := 1) (v := .ref (A 24)) hC dX11_image_1 fi_X11_18 0 CW_0 rfl ?_
  refine w_aload_n (pc := 4) hC dX11_image_4 0 rfl rfl ?_
  refine w_getf (pc := 5) (v := .ref (A 1)) hC dX11_image_5 fi_X11_12 0 CW_0 rfl ?_
  refine w_callV (pc := 8) (As := [.ref (A 1)]) (rest := []) hC dX11_image_8 cv_X11_279 (c_X6_copy_v24 (kl K) G A D T I F Q P S (show RI S from by first | assumption | omega) (show LRb 1 1 G.2.1 S I F Q P from by exact hL) (show ∀ j : Int, 0 ≤ j → j < 120 → -128 ≤ (I 11) j ∧ (I 11) j ≤ 127 from by first | assumption | omega) (show ∀ c : Nat, c < 5 → S 1 ≤ (c : Int) → Q 12 c = none from by first | assumption | omega)) (by decide) ⟨Nat.le_of_ble_eq_true rfl, Nat.le_of_ble_eq_true rfl⟩ (q0 := 24) CW_24 rfl rfl rfl (Nat.le_of_ble_eq_true rfl) rfl (fun vo wo hv => ?_)
  obtain ⟨b25_8, b27_8, b28_8, b29_8, b30_8, b31_8, b32_8, b34_8, b36_8, b37_8, b38_8, b40_8, b41_8, b42_8, b43_8, b44_8, b45_8, g11_8, g12_8, g13_8, g14_8, g15_8, g16_8, q33_8, q35_8, hv1, hw1, r8⟩ := hv
  rw [hv1, hw1]
  show WW K G 0 0 (CW A D T G.2.1 (au (au (au (au (au (au (au (au (au (au (au (au (au (au (au (au (au I 25 b25_8) 27 b27_8) 28 b28_8) 29 b29_8) 30 b30_8) 31 b31_8) 32 b32_8) 34 b34_8) 36 b36_8) 37 b37_8) 38 b38_8) 40 b40_8) 41 b41_8) 42 b42_8) 43 b43_8) 44 b44_8) 45 b45_8) (fu (fu (fu (fu (fu (fu F 11 g11_8) 12 g12_8) 13 g13_8) 14 g14_8) 15 g15_8) 16 g16_8) (qu (qu Q 33 q33_8) 35 q35_8) P) 11 [(0, .ref (A 0))] []
  have r8 : LRb 24 11 G.2.1 S (au (au (au (au (au (au (au (au (au (au (au (au (au (au (au (au (au I 25 b25_8) 27 b27_8) 28 b28_8) 29 b29_8) 30 b30_8) 31 b31_8) 32 b32_8) 34 b34_8) 36 b36_8) 37 b37_8) 38 b38_8) 40 b40_8) 41 b41_8) 42 b42_8) 43 b43_8) 44 b44_8) 45 b45_8) (fu (fu (fu (fu (fu (fu F 11 g11_8) 12 g12_8) 13 g13_8) 14 g14_8) 15 g15_8) 16 g16_8) (qu (qu Q 33 q33_8) 35 q35_8) P ∧ (∀ j : Int, 0 ≤ j → j < 120 → -128 ≤ b34_8 j ∧ b34_8 j ≤ 127) ∧ ∀ c : Nat, c < 5 → S 1 ≤ (c : Int) → (qu (qu Q 33 q33_8) 35 q35_8) 35 c = none := r8
  refine w_aload_n (pc := 11) hC dX11_image_11 0 rfl rfl ?_
  refine w_iconst (pc := 12) hC dX11_image_12 ?_
  refine w_putf (pc := 13) (w2 := CW A D T G.2.1 (au (au (au (au (au (au (au (au (au (au (au (au (au (au (au (au (au I 25 b25_8) 27 b27_8) 28 b28_8) 29 b29_8) 30 b30_8) 31 b31_8) 32 b32_8) 34 b34_8) 36 b36_8) 37 b37_8) 38 b38_8) 40 b40_8) 41 b41_8) 42 b42_8) 43 b43_8) 44 b44_8) 45 b45_8) (fu (fu (fu (fu (fu (fu (fu F 0 1) 11 g11_8) 12 g12_8) 13 g13_8) 14 g14_8) 15 g15_8) 16 g16_8) (qu (qu Q 33 q33_8) 35 q35_8) P) hC dX11_image_13 fi_X11_21 fp_X11_2 rfl 0 CW_0 (rfl) (rfl) (Nat.le_of_ble_eq_true rfl) (CWf_0 (fu_cm (by decide) (fu_cm (by decide) (fu_cm (by decide) (fu_cm (by decide) (fu_cm (by decide) (fu_cm (by decide) rfl))))))) ?_
  refine w_aload_n (pc := 16) hC dX11_image_16 0 rfl rfl ?_
  refine w_getf (pc := 17) (v := .ref (A 1)) hC dX11_image_17 fi_X11_12 0 CW_0 rfl ?_
  refine w_getfN (pc := 20) (v := .int (J (S 2))) hC dX11_image_20 fn_X11_143 1 CW_1 (congrArg (fun z : Int => some (Value.int (J z))) (l_td hL)) ?_
  refine w_iret (pc := 23) hC hRT dX11_image_23 rfl ?_
  refine ⟨1, b25_8, b27_8, b28_8, b29_8, b30_8, b31_8, b32_8, b34_8, b36_8, b37_8, b38_8, b40_8, b41_8, b42_8, b43_8, b44_8, b45_8, g11_8, g12_8, g13_8, g14_8, g15_8, g16_8, q33_8, q35_8, retI (by first | rfl | exact (bI_t (by omega)).symm | exact (bI_f (by omega)).symm | omega), rfl, ?_⟩
  · exact ⟨LR_cong rfl (fu_cm (by decide) (fu_cm (by decide) (fu_cm (by decide) (fu_cm (by decide) (fu_cm (by decide) (fu_cm (by decide) rfl)))))) rfl (LRb_fu (k := 0) (v := 1) (by decide) r8.1), r8.2.1, r8.2.2, rfl⟩
set_option maxRecDepth 100000 in
set_option maxHeartbeats 4000000 in
theorem c_X11_undo (l : Launch) (G : GT) (A D : Nat → Nat) (T : Nat) (I : Nat → Int → Int) (F : Nat → Int) (Q : Nat → Nat → Option Nat) (P : va_W) (S : Int → Int) (S2 : Int → Int)  (hR : RI S) (hL : LRn G.2.1 S I F Q P) (hR2 : RI S2) (hL2 : LRb 24 11 G.2.1 S2 I F Q P) (him : (F 0) = 0 ∨ (F 0) = 1) (hby : ∀ j : Int, 0 ≤ j → j < 120 → -128 ≤ (I 34) j ∧ (I 34) j ≤ 127) (hz : ∀ c : Nat, c < 5 → S2 1 ≤ (c : Int) → Q 35 c = none) : CT l yX11_undo cX11_undo 1 (some .int) 2 0 0 G [.ref (A 0)] (CW A D T G.2.1 I F Q P) (fun vo wo => ∃ (b2 : Int → Int) (b4 : Int → Int) (b5 : Int → Int) (b6 : Int → Int) (b7 : Int → Int) (b8 : Int → Int) (b9 : Int → Int) (b11 : Int → Int) (b13 : Int → Int) (b14 : Int → Int) (b15 : Int → Int) (b17 : Int → Int) (b18 : Int → Int) (b19 : Int → Int) (b20 : Int → Int) (b21 : Int → Int) (b22 : Int → Int) (g1 : Int) (g2 : Int) (g3 : Int) (g4 : Int) (g5 : Int) (g6 : Int) (q10 : Nat → Option Nat) (q12 : Nat → Option Nat), vo = some (.int (J (if (F 0) = 0 then -3 else S2 2))) ∧ wo = CW A D T G.2.1 (au (au (au (au (au (au (au (au (au (au (au (au (au (au (au (au (au I 2 b2) 4 b4) 5 b5) 6 b6) 7 b7) 8 b8) 9 b9) 11 b11) 13 b13) 14 b14) 15 b15) 17 b17) 18 b18) 19 b19) 20 b20) 21 b21) 22 b22) (fu (fu (fu (fu (fu (fu F 1 g1) 2 g2) 3 g3) 4 g4) 5 g5) 6 g6) (qu (qu Q 10 q10) 12 q12) P ∧ (((F 0) = 0 → LRn G.2.1 S (au (au (au (au (au (au (au (au (au (au (au (au (au (au (au (au (au I 2 b2) 4 b4) 5 b5) 6 b6) 7 b7) 8 b8) 9 b9) 11 b11) 13 b13) 14 b14) 15 b15) 17 b17) 18 b18) 19 b19) 20 b20) 21 b21) 22 b22) (fu (fu (fu (fu (fu (fu F 1 g1) 2 g2) 3 g3) 4 g4) 5 g5) 6 g6) (qu (qu Q 10 q10) 12 q12) P ∧ b11 = (I 11) ∧ (qu (qu Q 10 q10) 12 q12) 12 = Q 12) ∧ (¬ (F 0) = 0 → LRn G.2.1 S2 (au (au (au (au (au (au (au (au (au (au (au (au (au (au (au (au (au I 2 b2) 4 b4) 5 b5) 6 b6) 7 b7) 8 b8) 9 b9) 11 b11) 13 b13) 14 b14) 15 b15) 17 b17) 18 b18) 19 b19) 20 b20) 21 b21) 22 b22) (fu (fu (fu (fu (fu (fu F 1 g1) 2 g2) 3 g3) 4 g4) 5 g5) 6 g6) (qu (qu Q 10 q10) 12 q12) P ∧ (∀ j : Int, 0 ≤ j → j < 120 → -128 ≤ b11 j ∧ b11 j ≤ 127) ∧ ∀ c : Nat, c < 5 → S2 1 ≤ (c : Int) → (qu (qu Q 10 q10) 12 q12) 12 c = none))) := by
  refine CT_of (own := RX11) rfl rfl (Nat.le_of_ble_eq_true rfl) (fun K hl hnL hC hRT hin => ?_)
  subst hl
  show WW K G 0 0 (CW A D T G.2.1 I F Q P) 0 [(0, .ref (A 0))] []
  have hn := hR.n
  have hbd := hR.bd
  refine w_aload_n (pc := 0) hC dX11_undo_0 0 rfl rfl ?_
  refine w_getf (pc := 1) (v := .int (J (F 0))) hC dX11_undo_1 fi_X11_21 0 CW_0 rfl ?_
  refine w_if_ne (pc := 4) (tgt := 10) hC dX11_undo_4 (by decide) (by omega) (fun c4 => ?_) (fun c4 => ?_)
  · refine w_aload_n (pc := 10) hC dX11_undo_10 0 rfl rfl ?_
    refine w_getf (pc := 11) (v := .ref (A 1)) hC dX11_undo_11 fi_X11_12 0 CW_0 rfl ?_
    refine w_aload_n (pc := 14) hC dX11_undo_14 0 rfl rfl ?_
    refine w_getf (pc := 15) (v := .ref (A 24)) hC dX11_undo_15 fi_X11_18 0 CW_0 rfl ?_
    refine w_callV (pc := 18) (As := [.ref (A 24)]) (rest := []) hC dX11_undo_18 cv_X11_279 (c_X6_copy_v1 (kl K) G A D T I F Q P S2 (show RI S2 from by exact hR2) (show LRb 24 11 G.2.1 S2 I F Q P from by exact hL2) (show ∀ j : Int, 0 ≤ j → j < 120 → -128 ≤ (I 34) j ∧ (I 34) j ≤ 127 from by first | assumption | omega) (show ∀ c : Nat, c < 5 → S2 1 ≤ (c : Int) → Q 35 c = none from by first | assumption | omega)) (by decide) ⟨Nat.le_of_ble_eq_true rfl, Nat.le_of_ble_eq_true rfl⟩ (q0 := 1) CW_1 rfl rfl rfl (Nat.le_of_ble_eq_true rfl) rfl (fun vo wo hv => ?_)
    obtain ⟨b2_18, b4_18, b5_18, b6_18, b7_18, b8_18, b9_18, b11_18, b13_18, b14_18, b15_18, b17_18, b18_18, b19_18, b20_18, b21_18, b22_18, g1_18, g2_18, g3_18, g4_18, g5_18, g6_18, q10_18, q12_18, hv1, hw1, r18⟩ := hv
    rw [hv1, hw1]
    show WW K G 0 0 (CW A D T G.2.1 (au (au (au (au (au (au (au (au (au (au (au (au (au (au (au (au (au I 2 b2_18) 4 b4_18) 5 b5_18) 6 b6_18) 7 b7_18) 8 b8_18) 9 b9_18) 11 b11_18) 13 b13_18) 14 b14_18) 15 b15_18) 17 b17_18) 18 b18_18) 19 b19_18) 20 b20_18) 21 b21_18) 22 b22_18) (fu (fu (fu (fu (fu (fu F 1 g1_18) 2 g2_18) 3 g3_18) 4 g4_18) 5 g5_18) 6 g6_18) (qu (qu Q 10 q10_18) 12 q12_18) P) 21 [(0, .ref (A 0))] []
    have r18 : LRb 1 1 G.2.1 S2 (au (au (au (au (au (au (au (au (au (au (au (au (au (au (au (au (au I 2 b2_18) 4 b4_18) 5 b5_18) 6 b6_18) 7 b7_18) 8 b8_18) 9 b9_18) 11 b11_18) 13 b13_18) 14 b14_18) 15 b15_18) 17 b17_18) 18 b18_18) 19 b19_18) 20 b20_18) 21 b21_18) 22 b22_18) (fu (fu (fu (fu (fu (fu F 1 g1_18) 2 g2_18) 3 g3_18) 4 g4_18) 5 g5_18) 6 g6_18) (qu (qu Q 10 q10_18) 12 q12_18) P ∧ (∀ j : Int, 0 ≤ j → j < 120 → -128 ≤ b11_18 j ∧ b11_18 j ≤ 127) ∧ ∀ c : Nat, c < 5 → S2 1 ≤ (c : Int) → (qu (qu Q 10 q10_18) 12 q12_18) 12 c = none := r18
    refine w_aload_n (pc := 21) hC dX11_undo_21 0 rfl rfl ?_
    refine w_getf (pc := 22) (v := .ref (A 1)) hC dX11_undo_22 fi_X11_12 0 CW_0 rfl ?_
    refine w_getfN (pc := 25) (v := .int (J g2_18)) hC dX11_undo_25 fn_X11_143 1 CW_1 rfl ?_
    refine w_iret (pc := 28) hC hRT dX11_undo_28 rfl ?_
    refine ⟨b2_18, b4_18, b5_18, b6_18, b7_18, b8_18, b9_18, b11_18, b13_18, b14_18, b15_18, b17_18, b18_18, b19_18, b20_18, b21_18, b22_18, g1_18, g2_18, g3_18, g4_18, g5_18, g6_18, q10_18, q12_18, retI (by rw [if_neg c4]; exact (show _ = S2 2 from l_td r18.1)), rfl, ?_⟩
    · exact ⟨fun h9 => absurd h9 c4, fun _ => r18⟩
  · refine w_bipush (pc := 7) hC dX11_undo_7 (z := (-3)) rfl ?_
    refine w_iret (pc := 9) hC hRT dX11_undo_9 rfl ?_
    refine ⟨(I 2), (I 4), (I 5), (I 6), (I 7), (I 8), (I 9), (I 11), (I 13), (I 14), (I 15), (I 17), (I 18), (I 19), (I 20), (I 21), (I 22), (F 1), (F 2), (F 3), (F 4), (F 5), (F 6), Q 10, Q 12, retI (by rw [if_pos c4]), CW_cong (au_ms (k := 2) (v := I 2) rfl rfl (au_ms (k := 4) (v := I 4) rfl rfl (au_ms (k := 5) (v := I 5) rfl rfl (au_ms (k := 6) (v := I 6) rfl rfl (au_ms (k := 7) (v := I 7) rfl rfl (au_ms (k := 8) (v := I 8) rfl rfl (au_ms (k := 9) (v := I 9) rfl rfl (au_ms (k := 11) (v := I 11) rfl rfl (au_ms (k := 13) (v := I 13) rfl rfl (au_ms (k := 14) (v := I 14) rfl rfl (au_ms (k := 15) (v := I 15) rfl rfl (au_ms (k := 17) (v := I 17) rfl rfl (au_ms (k := 18) (v := I 18) rfl rfl (au_ms (k := 19) (v := I 19) rfl rfl (au_ms (k := 20) (v := I 20) rfl rfl (au_ms (k := 21) (v := I 21) rfl rfl (au_ms (k := 22) (v := I 22) rfl rfl rfl))))))))))))))))) (fu_ms (k := 1) (v := F 1) rfl rfl (fu_ms (k := 2) (v := F 2) rfl rfl (fu_ms (k := 3) (v := F 3) rfl rfl (fu_ms (k := 4) (v := F 4) rfl rfl (fu_ms (k := 5) (v := F 5) rfl rfl (fu_ms (k := 6) (v := F 6) rfl rfl rfl)))))) (qu_ms (k := 10) (v := Q 10) rfl rfl (qu_ms (k := 12) (v := Q 12) rfl rfl rfl)), ?_⟩
    · exact ⟨fun _ => ⟨LR_cg (show LRn G.2.1 S I F Q P from hL) (au_ms (k := 2) (v := I 2) rfl rfl (au_ms (k := 4) (v := I 4) rfl rfl (au_ms (k := 5) (v := I 5) rfl rfl (au_ms (k := 6) (v := I 6) rfl rfl (au_ms (k := 7) (v := I 7) rfl rfl (au_ms (k := 8) (v := I 8) rfl rfl (au_ms (k := 9) (v := I 9) rfl rfl (au_ms (k := 11) (v := I 11) rfl rfl (au_ms (k := 13) (v := I 13) rfl rfl (au_ms (k := 14) (v := I 14) rfl rfl (au_ms (k := 15) (v := I 15) rfl rfl (au_ms (k := 17) (v := I 17) rfl rfl (au_ms (k := 18) (v := I 18) rfl rfl (au_ms (k := 19) (v := I 19) rfl rfl (au_ms (k := 20) (v := I 20) rfl rfl (au_ms (k := 21) (v := I 21) rfl rfl (au_ms (k := 22) (v := I 22) rfl rfl rfl))))))))))))))))) (fu_ms (k := 1) (v := F 1) rfl rfl (fu_ms (k := 2) (v := F 2) rfl rfl (fu_ms (k := 3) (v := F 3) rfl rfl (fu_ms (k := 4) (v := F 4) rfl rfl (fu_ms (k := 5) (v := F 5) rfl rfl (fu_ms (k := 6) (v := F 6) rfl rfl rfl)))))) (qu_ms (k := 10) (v := Q 10) rfl rfl (qu_ms (k := 12) (v := Q 12) rfl rfl rfl)), rfl, rfl⟩, fun h9 => absurd c4 h9⟩
set_option maxRecDepth 100000 in
set_option maxHeartbeats 4000000 in
theorem c_X11_isOfKind (l : Launch) (G : GT) (A D : Nat → Nat) (T : Nat) (I : Nat → Int → Int) (F : Nat → Int) (Q : Nat → Nat → Option Nat) (P : va_W) (i0 : Nat) (kd : Int) (m : Int) (v : Int) (q : Nat) (k2 : Int) (hq : P[i0]? = some (q, .inr (kci kd, [.int (J m), .int (J v)]))) (hkd : 0 ≤ kd ∧ kd ≤ 6) (hk2 : 0 ≤ k2 ∧ k2 ≤ 6) : CT l yX11_isOfKind cX11_isOfKind 2 (some .boolean) 0 0 0 G [.ref q, .int (J k2)] (CW A D T G.2.1 I F Q P) (fun vo wo => vo = some (.int (J (bI (k2 = 0 ∨ k2 = kd ∨ (k2 = 2 ∧ (kd = 3 ∨ kd = 4)) ∨ (k2 = 5 ∧ kd = 6))))) ∧ wo = CW A D T G.2.1 I F Q P) := by
  refine CT_of (own := RX11) rfl rfl (Nat.le_of_ble_eq_true rfl) (fun K hl hnL hC hRT hin => ?_)
  subst hl
  show WW K G 0 0 (CW A D T G.2.1 I F Q P) 0 [(0, .ref q), (1, .int (J k2))] []
  refine w_iload_n (pc := 0) hC dX11_isOfKind_0 1 rfl rfl ?_
  rcases (show k2 = 1 ∨ k2 = 2 ∨ k2 = 3 ∨ k2 = 4 ∨ k2 = 5 ∨ k2 = 6 ∨ (k2 < 1 ∨ 6 < k2) by omega) with c1 | c1 | c1 | c1 | c1 | c1 | c1
  · refine w_tableIn (pc := 1) (v := 1) (tgt := 40) hC dX11_isOfKind_1 c1 (by decide) rfl (by decide) ?_
    refine w_aload_n (pc := 40) hC dX11_isOfKind_40 0 rfl rfl ?_
    rcases k7 hkd with ek | ek | ek | ek | ek | ek | ek
    · have hq2 : P[i0]? = some (q, .inr (0, [.int (J m), .int (J v)])) := by rw [hq, ek]; rfl
      refine w_instN (pc := 41) (q0 := 60 + i0) (ci := 0) (r := (RX0, TX0, 2)) hC dX11_isOfKind_41 tw_3_48 (List.mem_of_getElem? (i := 2) rfl) (CW_P hq2) rfl ?_
      refine w_iret (pc := 44) hC hRT dX11_isOfKind_44 rfl ?_
      refine ⟨retI (by first | rfl | exact (bI_t (by omega)).symm | exact (bI_f (by omega)).symm | omega), rfl⟩
    · have hq2 : P[i0]? = some (q, .inr (7, [.int (J m), .int (J v)])) := by rw [hq, ek]; rfl
      refine w_instE (pc := 41) (q0 := 60 + i0) (ci := 7) (r := (RX7, TX7, 2)) hC dX11_isOfKind_41 tw_3_48 (CW_P hq2) rfl ?_
      refine w_iret (pc := 44) hC hRT dX11_isOfKind_44 rfl ?_
      refine ⟨retI (by first | rfl | exact (bI_t (by omega)).symm | exact (bI_f (by omega)).symm | omega), rfl⟩
    · have hq2 : P[i0]? = some (q, .inr (5, [.int (J m), .int (J v)])) := by rw [hq, ek]; rfl
      refine w_instN (pc := 41) (q0 := 60 + i0) (ci := 5) (r := (RX5, TX5, 2)) hC dX11_isOfKind_41 tw_3_48 (List.mem_of_getElem? (i := 11) rfl) (CW_P hq2) rfl ?_
      refine w_iret (pc := 44) hC hRT dX11_isOfKind_44 rfl ?_
      refine ⟨retI (by first | rfl | exact (bI_t (by omega)).symm | exact (bI_f (by omega)).symm | omega), rfl⟩
    · have hq2 : P[i0]? = some (q, .inr (9, [.int (J m), .int (J v)])) := by rw [hq, ek]; rfl
      refine w_instN (pc := 41) (q0 := 60 + i0) (ci := 9) (r := (RX9, TX9, 2)) hC dX11_isOfKind_41 tw_3_48 (List.mem_of_getElem? (i := 25) rfl) (CW_P hq2) rfl ?_
      refine w_iret (pc := 44) hC hRT dX11_isOfKind_44 rfl ?_
      refine ⟨retI (by first | rfl | exact (bI_t (by omega)).symm | exact (bI_f (by omega)).symm | omega), rfl⟩
    · have hq2 : P[i0]? = some (q, .inr (1, [.int (J m), .int (J v)])) := by rw [hq, ek]; rfl
      refine w_instN (pc := 41) (q0 := 60 + i0) (ci := 1) (r := (RX1, TX1, 2)) hC dX11_isOfKind_41 tw_3_48 (List.mem_of_getElem? (i := 6) rfl) (CW_P hq2) rfl ?_
      refine w_iret (pc := 44) hC hRT dX11_isOfKind_44 rfl ?_
      refine ⟨retI (by first | rfl | exact (bI_t (by omega)).symm | exact (bI_f (by omega)).symm | omega), rfl⟩
    · have hq2 : P[i0]? = some (q, .inr (10, [.int (J m), .int (J v)])) := by rw [hq, ek]; rfl
      refine w_instN (pc := 41) (q0 := 60 + i0) (ci := 10) (r := (RX10, TX10, 2)) hC dX11_isOfKind_41 tw_3_48 (List.mem_of_getElem? (i := 30) rfl) (CW_P hq2) rfl ?_
      refine w_iret (pc := 44) hC hRT dX11_isOfKind_44 rfl ?_
      refine ⟨retI (by first | rfl | exact (bI_t (by omega)).symm | exact (bI_f (by omega)).symm | omega), rfl⟩
    · have hq2 : P[i0]? = some (q, .inr (8, [.int (J m), .int (J v)])) := by rw [hq, ek]; rfl
      refine w_instN (pc := 41) (q0 := 60 + i0) (ci := 8) (r := (RX8, TX8, 2)) hC dX11_isOfKind_41 tw_3_48 (List.mem_of_getElem? (i := 22) rfl) (CW_P hq2) rfl ?_
      refine w_iret (pc := 44) hC hRT dX11_isOfKind_44 rfl ?_
      refine ⟨retI (by first | rfl | exact (bI_t (by omega)).symm | exact (bI_f (by omega)).symm | omega), rfl⟩
  · refine w_tableIn (pc := 1) (v := 2) (tgt := 45) hC dX11_isOfKind_1 c1 (by decide) rfl (by decide) ?_
    refine w_aload_n (pc := 45) hC dX11_isOfKind_45 0 rfl rfl ?_
    rcases k7 hkd with ek | ek | ek | ek | ek | ek | ek
    · have hq2 : P[i0]? = some (q, .inr (0, [.int (J m), .int (J v)])) := by rw [hq, ek]; rfl
      refine w_instN (pc := 46) (q0 := 60 + i0) (ci := 0) (r := (RX0, TX0, 2)) hC dX11_isOfKind_46 tw_3_57 (List.mem_of_getElem? (i := 1) rfl) (CW_P hq2) rfl ?_
      refine w_iret (pc := 49) hC hRT dX11_isOfKind_49 rfl ?_
      refine ⟨retI (by first | rfl | exact (bI_t (by omega)).symm | exact (bI_f (by omega)).symm | omega), rfl⟩
    · have hq2 : P[i0]? = some (q, .inr (7, [.int (J m), .int (J v)])) := by rw [hq, ek]; rfl
      refine w_instN (pc := 46) (q0 := 60 + i0) (ci := 7) (r := (RX7, TX7, 2)) hC dX11_isOfKind_46 tw_3_57 (List.mem_of_getElem? (i := 16) rfl) (CW_P hq2) rfl ?_
      refine w_iret (pc := 49) hC hRT dX11_isOfKind_49 rfl ?_
      refine ⟨retI (by first | rfl | exact (bI_t (by omega)).symm | exact (bI_f (by omega)).symm | omega), rfl⟩
    · have hq2 : P[i0]? = some (q, .inr (5, [.int (J m), .int (J v)])) := by rw [hq, ek]; rfl
      refine w_instE (pc := 46) (q0 := 60 + i0) (ci := 5) (r := (RX5, TX5, 2)) hC dX11_isOfKind_46 tw_3_57 (CW_P hq2) rfl ?_
      refine w_iret (pc := 49) hC hRT dX11_isOfKind_49 rfl ?_
      refine ⟨retI (by first | rfl | exact (bI_t (by omega)).symm | exact (bI_f (by omega)).symm | omega), rfl⟩
    · have hq2 : P[i0]? = some (q, .inr (9, [.int (J m), .int (J v)])) := by rw [hq, ek]; rfl
      refine w_instY (pc := 46) (q0 := 60 + i0) (ci := 9) (r := (RX9, TX9, 2)) hC dX11_isOfKind_46 tw_3_57 (List.mem_of_getElem? (i := 7) rfl) (CW_P hq2) rfl ?_
      refine w_iret (pc := 49) hC hRT dX11_isOfKind_49 rfl ?_
      refine ⟨retI (by first | rfl | exact (bI_t (by omega)).symm | exact (bI_f (by omega)).symm | omega), rfl⟩
    · have hq2 : P[i0]? = some (q, .inr (1, [.int (J m), .int (J v)])) := by rw [hq, ek]; rfl
      refine w_instY (pc := 46) (q0 := 60 + i0) (ci := 1) (r := (RX1, TX1, 2)) hC dX11_isOfKind_46 tw_3_57 (List.mem_of_getElem? (i := 1) rfl) (CW_P hq2) rfl ?_
      refine w_iret (pc := 49) hC hRT dX11_isOfKind_49 rfl ?_
      refine ⟨retI (by first | rfl | exact (bI_t (by omega)).symm | exact (bI_f (by omega)).symm | omega), rfl⟩
    · have hq2 : P[i0]? = some (q, .inr (10, [.int (J m), .int (J v)])) := by rw [hq, ek]; rfl
      refine w_instN (pc := 46) (q0 := 60 + i0) (ci := 10) (r := (RX10, TX10, 2)) hC dX11_isOfKind_46 tw_3_57 (List.mem_of_getElem? (i := 29) rfl) (CW_P hq2) rfl ?_
      refine w_iret (pc := 49) hC hRT dX11_isOfKind_49 rfl ?_
      refine ⟨retI (by first | rfl | exact (bI_t (by omega)).symm | exact (bI_f (by omega)).symm | omega), rfl⟩
    · have hq2 : P[i0]? = some (q, .inr (8, [.int (J m), .int (J v)])) := by rw [hq, ek]; rfl
      refine w_instN (pc := 46) (q0 := 60 + i0) (ci := 8) (r := (RX8, TX8, 2)) hC dX11_isOfKind_46 tw_3_57 (List.mem_of_getElem? (i := 21) rfl) (CW_P hq2) rfl ?_
      refine w_iret (pc := 49) hC hRT dX11_isOfKind_49 rfl ?_
      refine ⟨retI (by first | rfl | exact (bI_t (by omega)).symm | exact (bI_f (by omega)).symm | omega), rfl⟩
  · refine w_tableIn (pc := 1) (v := 3) (tgt := 50) hC dX11_isOfKind_1 c1 (by decide) rfl (by decide) ?_
    refine w_aload_n (pc := 50) hC dX11_isOfKind_50 0 rfl rfl ?_
    rcases k7 hkd with ek | ek | ek | ek | ek | ek | ek
    · have hq2 : P[i0]? = some (q, .inr (0, [.int (J m), .int (J v)])) := by rw [hq, ek]; rfl
      refine w_instN (pc := 51) (q0 := 60 + i0) (ci := 0) (r := (RX0, TX0, 2)) hC dX11_isOfKind_51 tw_3_66 (List.mem_of_getElem? (i := 4) rfl) (CW_P hq2) rfl ?_
      refine w_iret (pc := 54) hC hRT dX11_isOfKind_54 rfl ?_
      refine ⟨retI (by first | rfl | exact (bI_t (by omega)).symm | exact (bI_f (by omega)).symm | omega), rfl⟩
    · have hq2 : P[i0]? = some (q, .inr (7, [.int (J m), .int (J v)])) := by rw [hq, ek]; rfl
      refine w_instN (pc := 51) (q0 := 60 + i0) (ci := 7) (r := (RX7, TX7, 2)) hC dX11_isOfKind_51 tw_3_66 (List.mem_of_getElem? (i := 18) rfl) (CW_P hq2) rfl ?_
      refine w_iret (pc := 54) hC hRT dX11_isOfKind_54 rfl ?_
      refine ⟨retI (by first | rfl | exact (bI_t (by omega)).symm | exact (bI_f (by omega)).symm | omega), rfl⟩
    · have hq2 : P[i0]? = some (q, .inr (5, [.int (J m), .int (J v)])) := by rw [hq, ek]; rfl
      refine w_instN (pc := 51) (q0 := 60 + i0) (ci := 5) (r := (RX5, TX5, 2)) hC dX11_isOfKind_51 tw_3_66 (List.mem_of_getElem? (i := 13) rfl) (CW_P hq2) rfl ?_
      refine w_iret (pc := 54) hC hRT dX11_isOfKind_54 rfl ?_
      refine ⟨retI (by first | rfl | exact (bI_t (by omega)).symm | exact (bI_f (by omega)).symm | omega), rfl⟩
    · have hq2 : P[i0]? = some (q, .inr (9, [.int (J m), .int (J v)])) := by rw [hq, ek]; rfl
      refine w_instE (pc := 51) (q0 := 60 + i0) (ci := 9) (r := (RX9, TX9, 2)) hC dX11_isOfKind_51 tw_3_66 (CW_P hq2) rfl ?_
      refine w_iret (pc := 54) hC hRT dX11_isOfKind_54 rfl ?_
      refine ⟨retI (by first | rfl | exact (bI_t (by omega)).symm | exact (bI_f (by omega)).symm | omega), rfl⟩
    · have hq2 : P[i0]? = some (q, .inr (1, [.int (J m), .int (J v)])) := by rw [hq, ek]; rfl
      refine w_instN (pc := 51) (q0 := 60 + i0) (ci := 1) (r := (RX1, TX1, 2)) hC dX11_isOfKind_51 tw_3_66 (List.mem_of_getElem? (i := 8) rfl) (CW_P hq2) rfl ?_
      refine w_iret (pc := 54) hC hRT dX11_isOfKind_54 rfl ?_
      refine ⟨retI (by first | rfl | exact (bI_t (by omega)).symm | exact (bI_f (by omega)).symm | omega), rfl⟩
    · have hq2 : P[i0]? = some (q, .inr (10, [.int (J m), .int (J v)])) := by rw [hq, ek]; rfl
      refine w_instN (pc := 51) (q0 := 60 + i0) (ci := 10) (r := (RX10, TX10, 2)) hC dX11_isOfKind_51 tw_3_66 (List.mem_of_getElem? (i := 32) rfl) (CW_P hq2) rfl ?_
      refine w_iret (pc := 54) hC hRT dX11_isOfKind_54 rfl ?_
      refine ⟨retI (by first | rfl | exact (bI_t (by omega)).symm | exact (bI_f (by omega)).symm | omega), rfl⟩
    · have hq2 : P[i0]? = some (q, .inr (8, [.int (J m), .int (J v)])) := by rw [hq, ek]; rfl
      refine w_instN (pc := 51) (q0 := 60 + i0) (ci := 8) (r := (RX8, TX8, 2)) hC dX11_isOfKind_51 tw_3_66 (List.mem_of_getElem? (i := 23) rfl) (CW_P hq2) rfl ?_
      refine w_iret (pc := 54) hC hRT dX11_isOfKind_54 rfl ?_
      refine ⟨retI (by first | rfl | exact (bI_t (by omega)).symm | exact (bI_f (by omega)).symm | omega), rfl⟩
  · refine w_tableIn (pc := 1) (v := 4) (tgt := 55) hC dX11_isOfKind_1 c1 (by decide) rfl (by decide) ?_
    refine w_aload_n (pc := 55) hC dX11_isOfKind_55 0 rfl rfl ?_
    rcases k7 hkd with ek | ek | ek | ek | ek | ek | ek
    · have hq2 : P[i0]? = some (q, .inr (0, [.int (J m), .int (J v)])) := by rw [hq, ek]; rfl
      refine w_instN (pc := 56) (q0 := 60 + i0) (ci := 0) (r := (RX0, TX0, 2)) hC dX11_isOfKind_56 tw_3_75 (List.mem_of_getElem? (i := 0) rfl) (CW_P hq2) rfl ?_
      refine w_iret (pc := 59) hC hRT dX11_isOfKind_59 rfl ?_
      refine ⟨retI (by first | rfl | exact (bI_t (by omega)).symm | exact (bI_f (by omega)).symm | omega), rfl⟩
    · have hq2 : P[i0]? = some (q, .inr (7, [.int (J m), .int (J v)])) := by rw [hq, ek]; rfl
      refine w_instN (pc := 56) (q0 := 60 + i0) (ci := 7) (r := (RX7, TX7, 2)) hC dX11_isOfKind_56 tw_3_75 (List.mem_of_getElem? (i := 15) rfl) (CW_P hq2) rfl ?_
      refine w_iret (pc := 59) hC hRT dX11_isOfKind_59 rfl ?_
      refine ⟨retI (by first | rfl | exact (bI_t (by omega)).symm | exact (bI_f (by omega)).symm | omega), rfl⟩
    · have hq2 : P[i0]? = some (q, .inr (5, [.int (J m), .int (J v)])) := by rw [hq, ek]; rfl
      refine w_instN (pc := 56) (q0 := 60 + i0) (ci := 5) (r := (RX5, TX5, 2)) hC dX11_isOfKind_56 tw_3_75 (List.mem_of_getElem? (i := 10) rfl) (CW_P hq2) rfl ?_
      refine w_iret (pc := 59) hC hRT dX11_isOfKind_59 rfl ?_
      refine ⟨retI (by first | rfl | exact (bI_t (by omega)).symm | exact (bI_f (by omega)).symm | omega), rfl⟩
    · have hq2 : P[i0]? = some (q, .inr (9, [.int (J m), .int (J v)])) := by rw [hq, ek]; rfl
      refine w_instN (pc := 56) (q0 := 60 + i0) (ci := 9) (r := (RX9, TX9, 2)) hC dX11_isOfKind_56 tw_3_75 (List.mem_of_getElem? (i := 24) rfl) (CW_P hq2) rfl ?_
      refine w_iret (pc := 59) hC hRT dX11_isOfKind_59 rfl ?_
      refine ⟨retI (by first | rfl | exact (bI_t (by omega)).symm | exact (bI_f (by omega)).symm | omega), rfl⟩
    · have hq2 : P[i0]? = some (q, .inr (1, [.int (J m), .int (J v)])) := by rw [hq, ek]; rfl
      refine w_instE (pc := 56) (q0 := 60 + i0) (ci := 1) (r := (RX1, TX1, 2)) hC dX11_isOfKind_56 tw_3_75 (CW_P hq2) rfl ?_
      refine w_iret (pc := 59) hC hRT dX11_isOfKind_59 rfl ?_
      refine ⟨retI (by first | rfl | exact (bI_t (by omega)).symm | exact (bI_f (by omega)).symm | omega), rfl⟩
    · have hq2 : P[i0]? = some (q, .inr (10, [.int (J m), .int (J v)])) := by rw [hq, ek]; rfl
      refine w_instN (pc := 56) (q0 := 60 + i0) (ci := 10) (r := (RX10, TX10, 2)) hC dX11_isOfKind_56 tw_3_75 (List.mem_of_getElem? (i := 28) rfl) (CW_P hq2) rfl ?_
      refine w_iret (pc := 59) hC hRT dX11_isOfKind_59 rfl ?_
      refine ⟨retI (by first | rfl | exact (bI_t (by omega)).symm | exact (bI_f (by omega)).symm | omega), rfl⟩
    · have hq2 : P[i0]? = some (q, .inr (8, [.int (J m), .int (J v)])) := by rw [hq, ek]; rfl
      refine w_instN (pc := 56) (q0 := 60 + i0) (ci := 8) (r := (RX8, TX8, 2)) hC dX11_isOfKind_56 tw_3_75 (List.mem_of_getElem? (i := 20) rfl) (CW_P hq2) rfl ?_
      refine w_iret (pc := 59) hC hRT dX11_isOfKind_59 rfl ?_
      refine ⟨retI (by first | rfl | exact (bI_t (by omega)).symm | exact (bI_f (by omega)).symm | omega), rfl⟩
  · refine w_tableIn (pc := 1) (v := 5) (tgt := 60) hC dX11_isOfKind_1 c1 (by decide) rfl (by decide) ?_
    refine w_aload_n (pc := 60) hC dX11_isOfKind_60 0 rfl rfl ?_
    rcases k7 hkd with ek | ek | ek | ek | ek | ek | ek
    · have hq2 : P[i0]? = some (q, .inr (0, [.int (J m), .int (J v)])) := by rw [hq, ek]; rfl
      refine w_instN (pc := 61) (q0 := 60 + i0) (ci := 0) (r := (RX0, TX0, 2)) hC dX11_isOfKind_61 tw_3_84 (List.mem_of_getElem? (i := 5) rfl) (CW_P hq2) rfl ?_
      refine w_iret (pc := 64) hC hRT dX11_isOfKind_64 rfl ?_
      refine ⟨retI (by first | rfl | exact (bI_t (by omega)).symm | exact (bI_f (by omega)).symm | omega), rfl⟩
    · have hq2 : P[i0]? = some (q, .inr (7, [.int (J m), .int (J v)])) := by rw [hq, ek]; rfl
      refine w_instN (pc := 61) (q0 := 60 + i0) (ci := 7) (r := (RX7, TX7, 2)) hC dX11_isOfKind_61 tw_3_84 (List.mem_of_getElem? (i := 19) rfl) (CW_P hq2) rfl ?_
      refine w_iret (pc := 64) hC hRT dX11_isOfKind_64 rfl ?_
      refine ⟨retI (by first | rfl | exact (bI_t (by omega)).symm | exact (bI_f (by omega)).symm | omega), rfl⟩
    · have hq2 : P[i0]? = some (q, .inr (5, [.int (J m), .int (J v)])) := by rw [hq, ek]; rfl
      refine w_instN (pc := 61) (q0 := 60 + i0) (ci := 5) (r := (RX5, TX5, 2)) hC dX11_isOfKind_61 tw_3_84 (List.mem_of_getElem? (i := 14) rfl) (CW_P hq2) rfl ?_
      refine w_iret (pc := 64) hC hRT dX11_isOfKind_64 rfl ?_
      refine ⟨retI (by first | rfl | exact (bI_t (by omega)).symm | exact (bI_f (by omega)).symm | omega), rfl⟩
    · have hq2 : P[i0]? = some (q, .inr (9, [.int (J m), .int (J v)])) := by rw [hq, ek]; rfl
      refine w_instN (pc := 61) (q0 := 60 + i0) (ci := 9) (r := (RX9, TX9, 2)) hC dX11_isOfKind_61 tw_3_84 (List.mem_of_getElem? (i := 27) rfl) (CW_P hq2) rfl ?_
      refine w_iret (pc := 64) hC hRT dX11_isOfKind_64 rfl ?_
      refine ⟨retI (by first | rfl | exact (bI_t (by omega)).symm | exact (bI_f (by omega)).symm | omega), rfl⟩
    · have hq2 : P[i0]? = some (q, .inr (1, [.int (J m), .int (J v)])) := by rw [hq, ek]; rfl
      refine w_instN (pc := 61) (q0 := 60 + i0) (ci := 1) (r := (RX1, TX1, 2)) hC dX11_isOfKind_61 tw_3_84 (List.mem_of_getElem? (i := 9) rfl) (CW_P hq2) rfl ?_
      refine w_iret (pc := 64) hC hRT dX11_isOfKind_64 rfl ?_
      refine ⟨retI (by first | rfl | exact (bI_t (by omega)).symm | exact (bI_f (by omega)).symm | omega), rfl⟩
    · have hq2 : P[i0]? = some (q, .inr (10, [.int (J m), .int (J v)])) := by rw [hq, ek]; rfl
      refine w_instE (pc := 61) (q0 := 60 + i0) (ci := 10) (r := (RX10, TX10, 2)) hC dX11_isOfKind_61 tw_3_84 (CW_P hq2) rfl ?_
      refine w_iret (pc := 64) hC hRT dX11_isOfKind_64 rfl ?_
      refine ⟨retI (by first | rfl | exact (bI_t (by omega)).symm | exact (bI_f (by omega)).symm | omega), rfl⟩
    · have hq2 : P[i0]? = some (q, .inr (8, [.int (J m), .int (J v)])) := by rw [hq, ek]; rfl
      refine w_instY (pc := 61) (q0 := 60 + i0) (ci := 8) (r := (RX8, TX8, 2)) hC dX11_isOfKind_61 tw_3_84 (List.mem_of_getElem? (i := 5) rfl) (CW_P hq2) rfl ?_
      refine w_iret (pc := 64) hC hRT dX11_isOfKind_64 rfl ?_
      refine ⟨retI (by first | rfl | exact (bI_t (by omega)).symm | exact (bI_f (by omega)).symm | omega), rfl⟩
  · refine w_tableIn (pc := 1) (v := 6) (tgt := 65) hC dX11_isOfKind_1 c1 (by decide) rfl (by decide) ?_
    refine w_aload_n (pc := 65) hC dX11_isOfKind_65 0 rfl rfl ?_
    rcases k7 hkd with ek | ek | ek | ek | ek | ek | ek
    · have hq2 : P[i0]? = some (q, .inr (0, [.int (J m), .int (J v)])) := by rw [hq, ek]; rfl
      refine w_instN (pc := 66) (q0 := 60 + i0) (ci := 0) (r := (RX0, TX0, 2)) hC dX11_isOfKind_66 tw_3_93 (List.mem_of_getElem? (i := 3) rfl) (CW_P hq2) rfl ?_
      refine w_iret (pc := 69) hC hRT dX11_isOfKind_69 rfl ?_
      refine ⟨retI (by first | rfl | exact (bI_t (by omega)).symm | exact (bI_f (by omega)).symm | omega), rfl⟩
    · have hq2 : P[i0]? = some (q, .inr (7, [.int (J m), .int (J v)])) := by rw [hq, ek]; rfl
      refine w_instN (pc := 66) (q0 := 60 + i0) (ci := 7) (r := (RX7, TX7, 2)) hC dX11_isOfKind_66 tw_3_93 (List.mem_of_getElem? (i := 17) rfl) (CW_P hq2) rfl ?_
      refine w_iret (pc := 69) hC hRT dX11_isOfKind_69 rfl ?_
      refine ⟨retI (by first | rfl | exact (bI_t (by omega)).symm | exact (bI_f (by omega)).symm | omega), rfl⟩
    · have hq2 : P[i0]? = some (q, .inr (5, [.int (J m), .int (J v)])) := by rw [hq, ek]; rfl
      refine w_instN (pc := 66) (q0 := 60 + i0) (ci := 5) (r := (RX5, TX5, 2)) hC dX11_isOfKind_66 tw_3_93 (List.mem_of_getElem? (i := 12) rfl) (CW_P hq2) rfl ?_
      refine w_iret (pc := 69) hC hRT dX11_isOfKind_69 rfl ?_
      refine ⟨retI (by first | rfl | exact (bI_t (by omega)).symm | exact (bI_f (by omega)).symm | omega), rfl⟩
    · have hq2 : P[i0]? = some (q, .inr (9, [.int (J m), .int (J v)])) := by rw [hq, ek]; rfl
      refine w_instN (pc := 66) (q0 := 60 + i0) (ci := 9) (r := (RX9, TX9, 2)) hC dX11_isOfKind_66 tw_3_93 (List.mem_of_getElem? (i := 26) rfl) (CW_P hq2) rfl ?_
      refine w_iret (pc := 69) hC hRT dX11_isOfKind_69 rfl ?_
      refine ⟨retI (by first | rfl | exact (bI_t (by omega)).symm | exact (bI_f (by omega)).symm | omega), rfl⟩
    · have hq2 : P[i0]? = some (q, .inr (1, [.int (J m), .int (J v)])) := by rw [hq, ek]; rfl
      refine w_instN (pc := 66) (q0 := 60 + i0) (ci := 1) (r := (RX1, TX1, 2)) hC dX11_isOfKind_66 tw_3_93 (List.mem_of_getElem? (i := 7) rfl) (CW_P hq2) rfl ?_
      refine w_iret (pc := 69) hC hRT dX11_isOfKind_69 rfl ?_
      refine ⟨retI (by first | rfl | exact (bI_t (by omega)).symm | exact (bI_f (by omega)).symm | omega), rfl⟩
    · have hq2 : P[i0]? = some (q, .inr (10, [.int (J m), .int (J v)])) := by rw [hq, ek]; rfl
      refine w_instN (pc := 66) (q0 := 60 + i0) (ci := 10) (r := (RX10, TX10, 2)) hC dX11_isOfKind_66 tw_3_93 (List.mem_of_getElem? (i := 31) rfl) (CW_P hq2) rfl ?_
      refine w_iret (pc := 69) hC hRT dX11_isOfKind_69 rfl ?_
      refine ⟨retI (by first | rfl | exact (bI_t (by omega)).symm | exact (bI_f (by omega)).symm | omega), rfl⟩
    · have hq2 : P[i0]? = some (q, .inr (8, [.int (J m), .int (J v)])) := by rw [hq, ek]; rfl
      refine w_instE (pc := 66) (q0 := 60 + i0) (ci := 8) (r := (RX8, TX8, 2)) hC dX11_isOfKind_66 tw_3_93 (CW_P hq2) rfl ?_
      refine w_iret (pc := 69) hC hRT dX11_isOfKind_69 rfl ?_
      refine ⟨retI (by first | rfl | exact (bI_t (by omega)).symm | exact (bI_f (by omega)).symm | omega), rfl⟩
  · refine w_tableOut (pc := 1) (tgt := 70) hC dX11_isOfKind_1 (by omega) c1 (by decide) ?_
    refine w_iconst (pc := 70) hC dX11_isOfKind_70 ?_
    refine w_iret (pc := 71) hC hRT dX11_isOfKind_71 rfl ?_
    refine ⟨retI (by first | rfl | exact (bI_t (by omega)).symm | exact (bI_f (by omega)).symm | omega), rfl⟩
set_option maxRecDepth 100000 in
set_option maxHeartbeats 4000000 in
theorem c_X11_as (l : Launch) (G : GT) (A D : Nat → Nat) (T : Nat) (I : Nat → Int → Int) (F : Nat → Int) (Q : Nat → Nat → Option Nat) (P : va_W) (S : Int → Int) (a : Int) (k : Int) (hR : RI S) (hL : LRn G.2.1 S I F Q P) (h0 : -2147483648 ≤ a ∧ a < 2147483648) (h1 : -2147483648 ≤ k ∧ k < 2147483648) : CT l yX11_as cX11_as 3 (some .int) 1 0 0 G [.ref (A 0), .int (J a), .int (J k)] (CW A D T G.2.1 I F Q P) (fun vo wo => vo = some (.int (J (v_as S a k))) ∧ wo = CW A D T G.2.1 I F Q P) := by
  refine CT_of (own := RX11) rfl rfl (Nat.le_of_ble_eq_true rfl) (fun K hl hnL hC hRT hin => ?_)
  subst hl
  show WW K G 0 0 (CW A D T G.2.1 I F Q P) 0 [(0, .ref (A 0)), (1, .int (J a)), (2, .int (J k))] []
  have hn := hR.n
  have hbd := hR.bd
  refine w_aload_n (pc := 0) hC dX11_as_0 0 rfl rfl ?_
  refine w_iload_n (pc := 1) hC dX11_as_1 1 rfl rfl ?_
  refine w_callV (pc := 2) (As := [.int (J a)]) (rest := []) hC dX11_as_2 cv_X11_64 (c_X11_isName (kl K) G A D T I F Q P S a (show RI S from by first | assumption | omega) (show LRn G.2.1 S I F Q P from by exact hL) (show -2147483648 ≤ a ∧ a < 2147483648 from by first | assumption | omega)) (by decide) ⟨Nat.le_of_ble_eq_true rfl, Nat.le_of_ble_eq_true rfl⟩ (q0 := 0) CW_0 rfl rfl rfl (Nat.le_of_ble_eq_true rfl) rfl (fun vo wo hv => ?_)
  obtain ⟨hv1, hw1⟩ := hv
  rw [hv1, hw1]
  show WW K G 0 0 (CW A D T G.2.1 I F Q P) 5 [(0, .ref (A 0)), (1, .int (J a)), (2, .int (J k))] [.int (J (bI (0 ≤ a ∧ a < S 0)))]
  refine w_if_eq_b (pc := 5) (tgt := 15) hC dX11_as_5 (by decide) (fun c5 => ?_) (fun c5 => ?_)
  · refine w_iconst (pc := 15) hC dX11_as_15 ?_
    refine w_iret (pc := 16) hC hRT dX11_as_16 rfl ?_
    refine ⟨retI (by unfold v_as; first | rw [if_pos (by omega)] | rw [if_neg (by omega), if_pos (by omega)] | rw [if_neg (by omega), if_neg (by omega)]), rfl⟩
  · refine w_iload_n (pc := 8) hC dX11_as_8 2 rfl rfl ?_
    refine w_callS (pc := 9) (As := [.int (J k)]) (rest := []) hC dX11_as_9 cs_X11_123 (c_X11_isKind (kl K) G (CW A D T G.2.1 I F Q P) k (show -2147483648 ≤ k ∧ k < 2147483648 from by first | assumption | omega)) (by decide) ⟨Nat.le_of_ble_eq_true rfl, Nat.le_of_ble_eq_true rfl⟩ rfl (Nat.le_of_ble_eq_true rfl) rfl (fun vo wo hv => ?_)
    obtain ⟨hv1, hw1⟩ := hv
    rw [hv1, hw1]
    show WW K G 0 0 (CW A D T G.2.1 I F Q P) 12 [(0, .ref (A 0)), (1, .int (J a)), (2, .int (J k))] [.int (J (bI (0 ≤ k ∧ k ≤ 6)))]
    refine w_if_ne_b (pc := 12) (tgt := 17) hC dX11_as_12 (by decide) (fun c12 => ?_) (fun c12 => ?_)
    · obtain ⟨q, hQ, i0, hq⟩ := l_ak hL (show 0 ≤ a by omega) (show a < S 0 by omega) hR
      have hkd := hR.kd (166 + a) (by omega) (by omega)
      obtain ⟨ifn, hfn⟩ := fnk_276 hkd
      refine w_aload_n (pc := 17) hC dX11_as_17 0 rfl rfl ?_
      refine w_getf (pc := 18) (v := .ref (A 1)) hC dX11_as_18 fi_X11_12 0 CW_0 rfl ?_
      refine w_getfN (pc := 21) (v := .ref (A 10)) hC dX11_as_21 fn_X11_126 1 CW_1 rfl ?_
      refine w_iload_n (pc := 24) hC dX11_as_24 1 rfl rfl ?_
      refine w_aaldS (t0 := 4) (q := q) hC dX11_as_25 10 CW_10 rfl rfl (by omega) (Nat.le_of_ble_eq_true rfl) (hQ) ?_
      refine w_iload_n (pc := 26) hC dX11_as_26 2 rfl rfl ?_
      refine w_callS (pc := 27) (As := [.ref q, .int (J k)]) (rest := []) hC dX11_as_27 cs_X11_272 (c_X11_isOfKind (kl K) G A D T I F Q P i0 (S (166 + a)) a (S (172 + a)) q k (show P[i0]? = some (q, .inr (kci (S (166 + a)), [.int (J a), .int (J (S (172 + a)))])) from by first | assumption | omega) (show 0 ≤ (S (166 + a)) ∧ (S (166 + a)) ≤ 6 from by exact hkd) (show 0 ≤ k ∧ k ≤ 6 from by first | assumption | omega)) (by decide) ⟨Nat.le_of_ble_eq_true rfl, Nat.le_of_ble_eq_true rfl⟩ rfl (Nat.le_of_ble_eq_true rfl) rfl (fun vo wo hv => ?_)
      obtain ⟨hv1, hw1⟩ := hv
      rw [hv1, hw1]
      show WW K G 0 0 (CW A D T G.2.1 I F Q P) 30 [(0, .ref (A 0)), (1, .int (J a)), (2, .int (J k))] [.int (J (bI (k = 0 ∨ k = (S (166 + a)) ∨ (k = 2 ∧ ((S (166 + a)) = 3 ∨ (S (166 + a)) = 4)) ∨ (k = 5 ∧ (S (166 + a)) = 6))))]
      refine w_if_eq_b (pc := 30) (tgt := 48) hC dX11_as_30 (by decide) (fun c30 => ?_) (fun c30 => ?_)
      · refine w_bipush (pc := 48) hC dX11_as_48 (z := (-6)) rfl ?_
        refine w_iret (pc := 50) hC hRT dX11_as_50 rfl ?_
        refine ⟨retI (by unfold v_as; first | rw [if_pos (by omega)] | rw [if_neg (by omega), if_pos (by omega)] | rw [if_neg (by omega), if_neg (by omega)]), rfl⟩
      · refine w_aload_n (pc := 33) hC dX11_as_33 0 rfl rfl ?_
        refine w_getf (pc := 34) (v := .ref (A 1)) hC dX11_as_34 fi_X11_12 0 CW_0 rfl ?_
        refine w_getfN (pc := 37) (v := .ref (A 10)) hC dX11_as_37 fn_X11_126 1 CW_1 rfl ?_
        refine w_iload_n (pc := 40) hC dX11_as_40 1 rfl rfl ?_
        refine w_aaldS (t0 := 4) (q := q) hC dX11_as_41 10 CW_10 rfl rfl (by omega) (Nat.le_of_ble_eq_true rfl) (hQ) ?_
        refine w_getfN (pc := 42) (v := .int (J (S (172 + a)))) hC dX11_as_42 hfn (60 + i0) (CW_P hq) rfl ?_
        refine w_goto (pc := 45) hC dX11_as_45 (tgt := 50) (by decide) ?_
        refine w_iret (pc := 50) hC hRT dX11_as_50 rfl ?_
        refine ⟨retI (by unfold v_as; first | rw [if_pos (by omega)] | rw [if_neg (by omega), if_pos (by omega)] | rw [if_neg (by omega), if_neg (by omega)]), rfl⟩
    · refine w_iconst (pc := 15) hC dX11_as_15 ?_
      refine w_iret (pc := 16) hC hRT dX11_as_16 rfl ?_
      refine ⟨retI (by unfold v_as; first | rw [if_pos (by omega)] | rw [if_neg (by omega), if_pos (by omega)] | rw [if_neg (by omega), if_neg (by omega)]), rfl⟩
set_option maxRecDepth 100000 in
set_option maxHeartbeats 4000000 in
theorem c_X11_asker (l : Launch) (G : GT) (A D : Nat → Nat) (T : Nat) (I : Nat → Int → Int) (F : Nat → Int) (Q : Nat → Nat → Option Nat) (P : va_W) (S : Int → Int) (a : Int) (k : Int) (v : Int) (hR : RI S) (hL : LRn G.2.1 S I F Q P) (h0 : -2147483648 ≤ a ∧ a < 2147483648) (h1 : -2147483648 ≤ k ∧ k < 2147483648) (h2 : -2147483648 ≤ v ∧ v < 2147483648) : CT l yX11_asker cX11_asker 5 (some .int) 5 1 2 G [.ref (A 0), .int (J a), .int (J k), .int (J v)] (CW A D T G.2.1 I F Q P) (fun vo wo => ∃ (q10 : Nat → Option Nat) (P1 : va_W), vo = some (.int (J (v_asker S a k v))) ∧ wo = CW A D T G.2.1 I F (qu Q 10 q10) P1 ∧ (LRn G.2.1 (n_asker S a k v) I F (qu Q 10 q10) P1 ∧ ∃ R : va_W, P1 = P ++ R)) := by
  refine CT_of (own := RX11) rfl rfl (Nat.le_of_ble_eq_true rfl) (fun K hl hnL hC hRT hin => ?_)
  subst hl
  show WW K G 0 0 (CW A D T G.2.1 I F Q P) 0 [(0, .ref (A 0)), (1, .int (J a)), (2, .int (J k)), (3, .int (J v))] []
  have hn := hR.n
  have hbd := hR.bd
  refine w_aload_n (pc := 0) hC dX11_asker_0 0 rfl rfl ?_
  refine w_iload_n (pc := 1) hC dX11_asker_1 1 rfl rfl ?_
  refine w_callV (pc := 2) (As := [.int (J a)]) (rest := []) hC dX11_asker_2 cv_X11_64 (c_X11_isName (kl K) G A D T I F Q P S a (show RI S from by first | assumption | omega) (show LRn G.2.1 S I F Q P from by exact hL) (show -2147483648 ≤ a ∧ a < 2147483648 from by first | assumption | omega)) (by decide) ⟨Nat.le_of_ble_eq_true rfl, Nat.le_of_ble_eq_true rfl⟩ (q0 := 0) CW_0 rfl rfl rfl (Nat.le_of_ble_eq_true rfl) rfl (fun vo wo hv => ?_)
  obtain ⟨hv1, hw1⟩ := hv
  rw [hv1, hw1]
  show WW K G 0 0 (CW A D T G.2.1 I F Q P) 5 [(0, .ref (A 0)), (1, .int (J a)), (2, .int (J k)), (3, .int (J v))] [.int (J (bI (0 ≤ a ∧ a < S 0)))]
  refine w_if_eq_b (pc := 5) (tgt := 15) hC dX11_asker_5 (by decide) (fun c5 => ?_) (fun c5 => ?_)
  · refine w_iconst (pc := 15) hC dX11_asker_15 ?_
    refine w_up (cs2 := 1) (ss2 := 2) (Nat.le_of_ble_eq_true rfl) (Nat.le_of_ble_eq_true rfl) ?_
    refine w_iret (pc := 16) hC hRT dX11_asker_16 rfl ?_
    refine ⟨Q 10, P, retI (by unfold v_asker; rw [if_pos (by omega)]), CW_cong rfl rfl (qu_ms (k := 10) (v := Q 10) rfl rfl rfl), ?_⟩
    · unfold n_asker
      rw [if_neg (by omega)]
      exact ⟨LR_cong rfl rfl (qu_id (k := 10) (v := Q 10) rfl) hL, [], (List.append_nil _).symm⟩
  · refine w_iload_n (pc := 8) hC dX11_asker_8 2 rfl rfl ?_
    refine w_callS (pc := 9) (As := [.int (J k)]) (rest := []) hC dX11_asker_9 cs_X11_123 (c_X11_isKind (kl K) G (CW A D T G.2.1 I F Q P) k (show -2147483648 ≤ k ∧ k < 2147483648 from by first | assumption | omega)) (by decide) ⟨Nat.le_of_ble_eq_true rfl, Nat.le_of_ble_eq_true rfl⟩ rfl (Nat.le_of_ble_eq_true rfl) rfl (fun vo wo hv => ?_)
    obtain ⟨hv1, hw1⟩ := hv
    rw [hv1, hw1]
    show WW K G 0 0 (CW A D T G.2.1 I F Q P) 12 [(0, .ref (A 0)), (1, .int (J a)), (2, .int (J k)), (3, .int (J v))] [.int (J (bI (0 ≤ k ∧ k ≤ 6)))]
    refine w_if_ne_b (pc := 12) (tgt := 17) hC dX11_asker_12 (by decide) (fun c12 => ?_) (fun c12 => ?_)
    · refine w_iload_n (pc := 17) hC dX11_asker_17 3 rfl rfl ?_
      refine w_if_lt (pc := 18) (tgt := 27) hC dX11_asker_18 (by decide) (by omega) (fun c18 => ?_) (fun c18 => ?_)
      · refine w_bipush (pc := 27) hC dX11_asker_27 (z := (-2)) rfl ?_
        refine w_up (cs2 := 1) (ss2 := 2) (Nat.le_of_ble_eq_true rfl) (Nat.le_of_ble_eq_true rfl) ?_
        refine w_iret (pc := 29) hC hRT dX11_asker_29 rfl ?_
        refine ⟨Q 10, P, retI (by unfold v_asker; rw [if_neg (by omega), if_pos (by omega)]), CW_cong rfl rfl (qu_ms (k := 10) (v := Q 10) rfl rfl rfl), ?_⟩
        · unfold n_asker
          rw [if_neg (by omega)]
          exact ⟨LR_cong rfl rfl (qu_id (k := 10) (v := Q 10) rfl) hL, [], (List.append_nil _).symm⟩
      · refine w_iload_n (pc := 21) hC dX11_asker_21 3 rfl rfl ?_
        refine w_bipush (pc := 22) hC dX11_asker_22 (z := 100) rfl ?_
        refine w_icmp_le (pc := 24) (tgt := 30) hC dX11_asker_24 (by decide) (by omega) (fun c24 => ?_) (fun c24 => ?_)
        · obtain ⟨q, hQ, i0, hq⟩ := l_ak hL (show 0 ≤ a by omega) (show a < S 0 by omega) hR
          have hkd := hR.kd (166 + a) (by omega) (by omega)
          refine w_aload_n (pc := 30) hC dX11_asker_30 0 rfl rfl ?_
          refine w_getf (pc := 31) (v := .ref (A 1)) hC dX11_asker_31 fi_X11_12 0 CW_0 rfl ?_
          refine w_getfN (pc := 34) (v := .ref (A 10)) hC dX11_asker_34 fn_X11_126 1 CW_1 rfl ?_
          refine w_iload_n (pc := 37) hC dX11_asker_37 1 rfl rfl ?_
          refine w_aaldS (t0 := 4) (q := q) hC dX11_asker_38 10 CW_10 rfl rfl (by omega) (Nat.le_of_ble_eq_true rfl) (hQ) ?_
          rcases k7 hkd with hk | hk | hk | hk | hk | hk | hk
          · have hq2 : P[i0]? = some (q, .inr (0, [.int (J a), .int (J (S (172 + a)))])) := by rw [hq, hk]; rfl
            refine w_callV (pc := 39) (As := []) (rest := []) hC dX11_asker_39 cv_X11_130 (c_X0_kind (kl K) G A D T I F Q P q) (by decide) ⟨Nat.le_of_ble_eq_true rfl, Nat.le_of_ble_eq_true rfl⟩ (q0 := 60 + i0) (CW_P hq2) rfl rfl rfl (Nat.le_of_ble_eq_true rfl) rfl (fun vo wo hv => ?_)
            obtain ⟨hv1, hw1⟩ := hv
            rw [hv1, hw1]
            show WW K G 0 0 (CW A D T G.2.1 I F Q P) 42 [(0, .ref (A 0)), (1, .int (J a)), (2, .int (J k)), (3, .int (J v))] [.int (J 0)]
            refine w_istore (pc := 42) hC dX11_asker_42 (lv2 := [(4, .int (J 0)), (0, .ref (A 0)), (1, .int (J a)), (2, .int (J k)), (3, .int (J v))]) (by rw [hnL]; decide) rfl ?_
            refine w_aload_n (pc := 44) hC dX11_asker_44 1 rfl rfl ?_
            refine w_getf (pc := 45) (v := .ref (A 1)) hC dX11_asker_45 fi_X11_12 0 CW_0 rfl ?_
            refine w_getfN (pc := 48) (v := .ref (A 10)) hC dX11_asker_48 fn_X11_126 1 CW_1 rfl ?_
            refine w_iload_n (pc := 51) hC dX11_asker_51 2 rfl rfl ?_
            refine w_iload_n (pc := 52) hC dX11_asker_52 3 rfl rfl ?_
            refine w_iload_n (pc := 53) hC dX11_asker_53 2 rfl rfl ?_
            refine w_iload_n (pc := 54) hC dX11_asker_54 4 rfl rfl ?_
            refine w_callS (pc := 55) (As := [.int (J k), .int (J a), .int (J v)]) (rest := [.int (J a), .ref (A 10)]) hC dX11_asker_55 cs_X11_135 (c_X11_newAsker (kl K) G A D T I F Q P k a v (by omega)) (by decide) ⟨Nat.le_of_ble_eq_true rfl, Nat.le_of_ble_eq_true rfl⟩ rfl (Nat.le_of_ble_eq_true rfl) rfl (fun vo wo hv => ?_)
            obtain ⟨q2, hv1, hw1⟩ := hv
            rw [hv1, hw1]
            show WW K G 1 2 (CW A D T G.2.1 I F Q (P ++ [(q2, .inr (kci k, [.int (J a), .int (J v)]))])) 58 [(4, .int (J 0)), (0, .ref (A 0)), (1, .int (J a)), (2, .int (J k)), (3, .int (J v))] [.ref q2, .int (J a), .ref (A 10)]
            refine w_aastO (pc := 58) (t0 := 4) (f := Q 10) (o := some q2) (w2 := CW A D T G.2.1 I F (qu Q 10 (va_up (Q 10) (a : Int).toNat (some q2))) (P ++ [(q2, .inr (kci k, [.int (J a), .int (J v)]))])) hC dX11_asker_58 10 CW_10 rfl (fun v9 hv9 => by cases hv9; exact ⟨60 + P.length, kci k, _, _, CW_last, (kCn_nCs (by omega)).1, (kCn_nCs (by omega)).2⟩) (by omega) (Nat.le_of_ble_eq_true rfl) (CWq_10 rfl) ?_
            refine w_iload (pc := 59) hC dX11_asker_59 0 rfl ?_
            refine w_iret (pc := 61) hC hRT dX11_asker_61 rfl ?_
            refine ⟨va_up (Q 10) (a : Int).toNat (some q2), P ++ [(q2, .inr (kci k, [.int (J a), .int (J v)]))], retI (by unfold v_asker; rw [if_neg (by omega), if_neg (by omega), hk]), rfl, ?_⟩
            · unfold n_asker
              rw [if_pos ⟨by omega, by omega, by omega⟩]
              exact ⟨LR_asker hL hR (by omega), _, rfl⟩
          · have hq2 : P[i0]? = some (q, .inr (7, [.int (J a), .int (J (S (172 + a)))])) := by rw [hq, hk]; rfl
            refine w_callO (pc := 39) (As := []) (rest := []) hC dX11_asker_39 vo_X11_130_X7 (c_X7_kind (kl K) G A D T I F Q P q) (by decide) ⟨Nat.le_of_ble_eq_true rfl, Nat.le_of_ble_eq_true rfl⟩ (q0 := 60 + i0) (CW_P hq2) rfl rfl rfl (Nat.le_of_ble_eq_true rfl) rfl (fun vo wo hv => ?_)
            obtain ⟨hv1, hw1⟩ := hv
            rw [hv1, hw1]
            show WW K G 0 0 (CW A D T G.2.1 I F Q P) 42 [(0, .ref (A 0)), (1, .int (J a)), (2, .int (J k)), (3, .int (J v))] [.int (J 1)]
            refine w_istore (pc := 42) hC dX11_asker_42 (lv2 := [(4, .int (J 1)), (0, .ref (A 0)), (1, .int (J a)), (2, .int (J k)), (3, .int (J v))]) (by rw [hnL]; decide) rfl ?_
            refine w_aload_n (pc := 44) hC dX11_asker_44 1 rfl rfl ?_
            refine w_getf (pc := 45) (v := .ref (A 1)) hC dX11_asker_45 fi_X11_12 0 CW_0 rfl ?_
            refine w_getfN (pc := 48) (v := .ref (A 10)) hC dX11_asker_48 fn_X11_126 1 CW_1 rfl ?_
            refine w_iload_n (pc := 51) hC dX11_asker_51 2 rfl rfl ?_
            refine w_iload_n (pc := 52) hC dX11_asker_52 3 rfl rfl ?_
            refine w_iload_n (pc := 53) hC dX11_asker_53 2 rfl rfl ?_
            refine w_iload_n (pc := 54) hC dX11_asker_54 4 rfl rfl ?_
            refine w_callS (pc := 55) (As := [.int (J k), .int (J a), .int (J v)]) (rest := [.int (J a), .ref (A 10)]) hC dX11_asker_55 cs_X11_135 (c_X11_newAsker (kl K) G A D T I F Q P k a v (by omega)) (by decide) ⟨Nat.le_of_ble_eq_true rfl, Nat.le_of_ble_eq_true rfl⟩ rfl (Nat.le_of_ble_eq_true rfl) rfl (fun vo wo hv => ?_)
            obtain ⟨q2, hv1, hw1⟩ := hv
            rw [hv1, hw1]
            show WW K G 1 2 (CW A D T G.2.1 I F Q (P ++ [(q2, .inr (kci k, [.int (J a), .int (J v)]))])) 58 [(4, .int (J 1)), (0, .ref (A 0)), (1, .int (J a)), (2, .int (J k)), (3, .int (J v))] [.ref q2, .int (J a), .ref (A 10)]
            refine w_aastO (pc := 58) (t0 := 4) (f := Q 10) (o := some q2) (w2 := CW A D T G.2.1 I F (qu Q 10 (va_up (Q 10) (a : Int).toNat (some q2))) (P ++ [(q2, .inr (kci k, [.int (J a), .int (J v)]))])) hC dX11_asker_58 10 CW_10 rfl (fun v9 hv9 => by cases hv9; exact ⟨60 + P.length, kci k, _, _, CW_last, (kCn_nCs (by omega)).1, (kCn_nCs (by omega)).2⟩) (by omega) (Nat.le_of_ble_eq_true rfl) (CWq_10 rfl) ?_
            refine w_iload (pc := 59) hC dX11_asker_59 0 rfl ?_
            refine w_iret (pc := 61) hC hRT dX11_asker_61 rfl ?_
            refine ⟨va_up (Q 10) (a : Int).toNat (some q2), P ++ [(q2, .inr (kci k, [.int (J a), .int (J v)]))], retI (by unfold v_asker; rw [if_neg (by omega), if_neg (by omega), hk]), rfl, ?_⟩
            · unfold n_asker
              rw [if_pos ⟨by omega, by omega, by omega⟩]
              exact ⟨LR_asker hL hR (by omega), _, rfl⟩
          · have hq2 : P[i0]? = some (q, .inr (5, [.int (J a), .int (J (S (172 + a)))])) := by rw [hq, hk]; rfl
            refine w_callO (pc := 39) (As := []) (rest := []) hC dX11_asker_39 vo_X11_130_X5 (c_X5_kind (kl K) G A D T I F Q P q) (by decide) ⟨Nat.le_of_ble_eq_true rfl, Nat.le_of_ble_eq_true rfl⟩ (q0 := 60 + i0) (CW_P hq2) rfl rfl rfl (Nat.le_of_ble_eq_true rfl) rfl (fun vo wo hv => ?_)
            obtain ⟨hv1, hw1⟩ := hv
            rw [hv1, hw1]
            show WW K G 0 0 (CW A D T G.2.1 I F Q P) 42 [(0, .ref (A 0)), (1, .int (J a)), (2, .int (J k)), (3, .int (J v))] [.int (J 2)]
            refine w_istore (pc := 42) hC dX11_asker_42 (lv2 := [(4, .int (J 2)), (0, .ref (A 0)), (1, .int (J a)), (2, .int (J k)), (3, .int (J v))]) (by rw [hnL]; decide) rfl ?_
            refine w_aload_n (pc := 44) hC dX11_asker_44 1 rfl rfl ?_
            refine w_getf (pc := 45) (v := .ref (A 1)) hC dX11_asker_45 fi_X11_12 0 CW_0 rfl ?_
            refine w_getfN (pc := 48) (v := .ref (A 10)) hC dX11_asker_48 fn_X11_126 1 CW_1 rfl ?_
            refine w_iload_n (pc := 51) hC dX11_asker_51 2 rfl rfl ?_
            refine w_iload_n (pc := 52) hC dX11_asker_52 3 rfl rfl ?_
            refine w_iload_n (pc := 53) hC dX11_asker_53 2 rfl rfl ?_
            refine w_iload_n (pc := 54) hC dX11_asker_54 4 rfl rfl ?_
            refine w_callS (pc := 55) (As := [.int (J k), .int (J a), .int (J v)]) (rest := [.int (J a), .ref (A 10)]) hC dX11_asker_55 cs_X11_135 (c_X11_newAsker (kl K) G A D T I F Q P k a v (by omega)) (by decide) ⟨Nat.le_of_ble_eq_true rfl, Nat.le_of_ble_eq_true rfl⟩ rfl (Nat.le_of_ble_eq_true rfl) rfl (fun vo wo hv => ?_)
            obtain ⟨q2, hv1, hw1⟩ := hv
            rw [hv1, hw1]
            show WW K G 1 2 (CW A D T G.2.1 I F Q (P ++ [(q2, .inr (kci k, [.int (J a), .int (J v)]))])) 58 [(4, .int (J 2)), (0, .ref (A 0)), (1, .int (J a)), (2, .int (J k)), (3, .int (J v))] [.ref q2, .int (J a), .ref (A 10)]
            refine w_aastO (pc := 58) (t0 := 4) (f := Q 10) (o := some q2) (w2 := CW A D T G.2.1 I F (qu Q 10 (va_up (Q 10) (a : Int).toNat (some q2))) (P ++ [(q2, .inr (kci k, [.int (J a), .int (J v)]))])) hC dX11_asker_58 10 CW_10 rfl (fun v9 hv9 => by cases hv9; exact ⟨60 + P.length, kci k, _, _, CW_last, (kCn_nCs (by omega)).1, (kCn_nCs (by omega)).2⟩) (by omega) (Nat.le_of_ble_eq_true rfl) (CWq_10 rfl) ?_
            refine w_iload (pc := 59) hC dX11_asker_59 0 rfl ?_
            refine w_iret (pc := 61) hC hRT dX11_asker_61 rfl ?_
            refine ⟨va_up (Q 10) (a : Int).toNat (some q2), P ++ [(q2, .inr (kci k, [.int (J a), .int (J v)]))], retI (by unfold v_asker; rw [if_neg (by omega), if_neg (by omega), hk]), rfl, ?_⟩
            · unfold n_asker
              rw [if_pos ⟨by omega, by omega, by omega⟩]
              exact ⟨LR_asker hL hR (by omega), _, rfl⟩
          · have hq2 : P[i0]? = some (q, .inr (9, [.int (J a), .int (J (S (172 + a)))])) := by rw [hq, hk]; rfl
            refine w_callO (pc := 39) (As := []) (rest := []) hC dX11_asker_39 vo_X11_130_X9 (c_X9_kind (kl K) G A D T I F Q P q) (by decide) ⟨Nat.le_of_ble_eq_true rfl, Nat.le_of_ble_eq_true rfl⟩ (q0 := 60 + i0) (CW_P hq2) rfl rfl rfl (Nat.le_of_ble_eq_true rfl) rfl (fun vo wo hv => ?_)
            obtain ⟨hv1, hw1⟩ := hv
            rw [hv1, hw1]
            show WW K G 0 0 (CW A D T G.2.1 I F Q P) 42 [(0, .ref (A 0)), (1, .int (J a)), (2, .int (J k)), (3, .int (J v))] [.int (J 3)]
            refine w_istore (pc := 42) hC dX11_asker_42 (lv2 := [(4, .int (J 3)), (0, .ref (A 0)), (1, .int (J a)), (2, .int (J k)), (3, .int (J v))]) (by rw [hnL]; decide) rfl ?_
            refine w_aload_n (pc := 44) hC dX11_asker_44 1 rfl rfl ?_
            refine w_getf (pc := 45) (v := .ref (A 1)) hC dX11_asker_45 fi_X11_12 0 CW_0 rfl ?_
            refine w_getfN (pc := 48) (v := .ref (A 10)) hC dX11_asker_48 fn_X11_126 1 CW_1 rfl ?_
            refine w_iload_n (pc := 51) hC dX11_asker_51 2 rfl rfl ?_
            refine w_iload_n (pc := 52) hC dX11_asker_52 3 rfl rfl ?_
            refine w_iload_n (pc := 53) hC dX11_asker_53 2 rfl rfl ?_
            refine w_iload_n (pc := 54) hC dX11_asker_54 4 rfl rfl ?_
            refine w_callS (pc := 55) (As := [.int (J k), .int (J a), .int (J v)]) (rest := [.int (J a), .ref (A 10)]) hC dX11_asker_55 cs_X11_135 (c_X11_newAsker (kl K) G A D T I F Q P k a v (by omega)) (by decide) ⟨Nat.le_of_ble_eq_true rfl, Nat.le_of_ble_eq_true rfl⟩ rfl (Nat.le_of_ble_eq_true rfl) rfl (fun vo wo hv => ?_)
            obtain ⟨q2, hv1, hw1⟩ := hv
            rw [hv1, hw1]
            show WW K G 1 2 (CW A D T G.2.1 I F Q (P ++ [(q2, .inr (kci k, [.int (J a), .int (J v)]))])) 58 [(4, .int (J 3)), (0, .ref (A 0)), (1, .int (J a)), (2, .int (J k)), (3, .int (J v))] [.ref q2, .int (J a), .ref (A 10)]
            refine w_aastO (pc := 58) (t0 := 4) (f := Q 10) (o := some q2) (w2 := CW A D T G.2.1 I F (qu Q 10 (va_up (Q 10) (a : Int).toNat (some q2))) (P ++ [(q2, .inr (kci k, [.int (J a), .int (J v)]))])) hC dX11_asker_58 10 CW_10 rfl (fun v9 hv9 => by cases hv9; exact ⟨60 + P.length, kci k, _, _, CW_last, (kCn_nCs (by omega)).1, (kCn_nCs (by omega)).2⟩) (by omega) (Nat.le_of_ble_eq_true rfl) (CWq_10 rfl) ?_
            refine w_iload (pc := 59) hC dX11_asker_59 0 rfl ?_
            refine w_iret (pc := 61) hC hRT dX11_asker_61 rfl ?_
            refine ⟨va_up (Q 10) (a : Int).toNat (some q2), P ++ [(q2, .inr (kci k, [.int (J a), .int (J v)]))], retI (by unfold v_asker; rw [if_neg (by omega), if_neg (by omega), hk]), rfl, ?_⟩
            · unfold n_asker
              rw [if_pos ⟨by omega, by omega, by omega⟩]
              exact ⟨LR_asker hL hR (by omega), _, rfl⟩
          · have hq2 : P[i0]? = some (q, .inr (1, [.int (J a), .int (J (S (172 + a)))])) := by rw [hq, hk]; rfl
            refine w_callO (pc := 39) (As := []) (rest := []) hC dX11_asker_39 vo_X11_130_X1 (c_X1_kind (kl K) G A D T I F Q P q) (by decide) ⟨Nat.le_of_ble_eq_true rfl, Nat.le_of_ble_eq_true rfl⟩ (q0 := 60 + i0) (CW_P hq2) rfl rfl rfl (Nat.le_of_ble_eq_true rfl) rfl (fun vo wo hv => ?_)
            obtain ⟨hv1, hw1⟩ := hv
            rw [hv1, hw1]
            show WW K G 0 0 (CW A D T G.2.1 I F Q P) 42 [(0, .ref (A 0)), (1, .int (J a)), (2, .int (J k)), (3, .int (J v))] [.int (J 4)]
            refine w_istore (pc := 42) hC dX11_asker_42 (lv2 := [(4, .int (J 4)), (0, .ref (A 0)), (1, .int (J a)), (2, .int (J k)), (3, .int (J v))]) (by rw [hnL]; decide) rfl ?_
            refine w_aload_n (pc := 44) hC dX11_asker_44 1 rfl rfl ?_
            refine w_getf (pc := 45) (v := .ref (A 1)) hC dX11_asker_45 fi_X11_12 0 CW_0 rfl ?_
            refine w_getfN (pc := 48) (v := .ref (A 10)) hC dX11_asker_48 fn_X11_126 1 CW_1 rfl ?_
            refine w_iload_n (pc := 51) hC dX11_asker_51 2 rfl rfl ?_
            refine w_iload_n (pc := 52) hC dX11_asker_52 3 rfl rfl ?_
            refine w_iload_n (pc := 53) hC dX11_asker_53 2 rfl rfl ?_
            refine w_iload_n (pc := 54) hC dX11_asker_54 4 rfl rfl ?_
            refine w_callS (pc := 55) (As := [.int (J k), .int (J a), .int (J v)]) (rest := [.int (J a), .ref (A 10)]) hC dX11_asker_55 cs_X11_135 (c_X11_newAsker (kl K) G A D T I F Q P k a v (by omega)) (by decide) ⟨Nat.le_of_ble_eq_true rfl, Nat.le_of_ble_eq_true rfl⟩ rfl (Nat.le_of_ble_eq_true rfl) rfl (fun vo wo hv => ?_)
            obtain ⟨q2, hv1, hw1⟩ := hv
            rw [hv1, hw1]
            show WW K G 1 2 (CW A D T G.2.1 I F Q (P ++ [(q2, .inr (kci k, [.int (J a), .int (J v)]))])) 58 [(4, .int (J 4)), (0, .ref (A 0)), (1, .int (J a)), (2, .int (J k)), (3, .int (J v))] [.ref q2, .int (J a), .ref (A 10)]
            refine w_aastO (pc := 58) (t0 := 4) (f := Q 10) (o := some q2) (w2 := CW A D T G.2.1 I F (qu Q 10 (va_up (Q 10) (a : Int).toNat (some q2))) (P ++ [(q2, .inr (kci k, [.int (J a), .int (J v)]))])) hC dX11_asker_58 10 CW_10 rfl (fun v9 hv9 => by cases hv9; exact ⟨60 + P.length, kci k, _, _, CW_last, (kCn_nCs (by omega)).1, (kCn_nCs (by omega)).2⟩) (by omega) (Nat.le_of_ble_eq_true rfl) (CWq_10 rfl) ?_
            refine w_iload (pc := 59) hC dX11_asker_59 0 rfl ?_
            refine w_iret (pc := 61) hC hRT dX11_asker_61 rfl ?_
            refine ⟨va_up (Q 10) (a : Int).toNat (some q2), P ++ [(q2, .inr (kci k, [.int (J a), .int (J v)]))], retI (by unfold v_asker; rw [if_neg (by omega), if_neg (by omega), hk]), rfl, ?_⟩
            · unfold n_asker
              rw [if_pos ⟨by omega, by omega, by omega⟩]
              exact ⟨LR_asker hL hR (by omega), _, rfl⟩
          · have hq2 : P[i0]? = some (q, .inr (10, [.int (J a), .int (J (S (172 + a)))])) := by rw [hq, hk]; rfl
            refine w_callO (pc := 39) (As := []) (rest := []) hC dX11_asker_39 vo_X11_130_X10 (c_X10_kind (kl K) G A D T I F Q P q) (by decide) ⟨Nat.le_of_ble_eq_true rfl, Nat.le_of_ble_eq_true rfl⟩ (q0 := 60 + i0) (CW_P hq2) rfl rfl rfl (Nat.le_of_ble_eq_true rfl) rfl (fun vo wo hv => ?_)
            obtain ⟨hv1, hw1⟩ := hv
            rw [hv1, hw1]
            show WW K G 0 0 (CW A D T G.2.1 I F Q P) 42 [(0, .ref (A 0)), (1, .int (J a)), (2, .int (J k)), (3, .int (J v))] [.int (J 5)]
            refine w_istore (pc := 42) hC dX11_asker_42 (lv2 := [(4, .int (J 5)), (0, .ref (A 0)), (1, .int (J a)), (2, .int (J k)), (3, .int (J v))]) (by rw [hnL]; decide) rfl ?_
            refine w_aload_n (pc := 44) hC dX11_asker_44 1 rfl rfl ?_
            refine w_getf (pc := 45) (v := .ref (A 1)) hC dX11_asker_45 fi_X11_12 0 CW_0 rfl ?_
            refine w_getfN (pc := 48) (v := .ref (A 10)) hC dX11_asker_48 fn_X11_126 1 CW_1 rfl ?_
            refine w_iload_n (pc := 51) hC dX11_asker_51 2 rfl rfl ?_
            refine w_iload_n (pc := 52) hC dX11_asker_52 3 rfl rfl ?_
            refine w_iload_n (pc := 53) hC dX11_asker_53 2 rfl rfl ?_
            refine w_iload_n (pc := 54) hC dX11_asker_54 4 rfl rfl ?_
            refine w_callS (pc := 55) (As := [.int (J k), .int (J a), .int (J v)]) (rest := [.int (J a), .ref (A 10)]) hC dX11_asker_55 cs_X11_135 (c_X11_newAsker (kl K) G A D T I F Q P k a v (by omega)) (by decide) ⟨Nat.le_of_ble_eq_true rfl, Nat.le_of_ble_eq_true rfl⟩ rfl (Nat.le_of_ble_eq_true rfl) rfl (fun vo wo hv => ?_)
            obtain ⟨q2, hv1, hw1⟩ := hv
            rw [hv1, hw1]
            show WW K G 1 2 (CW A D T G.2.1 I F Q (P ++ [(q2, .inr (kci k, [.int (J a), .int (J v)]))])) 58 [(4, .int (J 5)), (0, .ref (A 0)), (1, .int (J a)), (2, .int (J k)), (3, .int (J v))] [.ref q2, .int (J a), .ref (A 10)]
            refine w_aastO (pc := 58) (t0 := 4) (f := Q 10) (o := some q2) (w2 := CW A D T G.2.1 I F (qu Q 10 (va_up (Q 10) (a : Int).toNat (some q2))) (P ++ [(q2, .inr (kci k, [.int (J a), .int (J v)]))])) hC dX11_asker_58 10 CW_10 rfl (fun v9 hv9 => by cases hv9; exact ⟨60 + P.length, kci k, _, _, CW_last, (kCn_nCs (by omega)).1, (kCn_nCs (by omega)).2⟩) (by omega) (Nat.le_of_ble_eq_true rfl) (CWq_10 rfl) ?_
            refine w_iload (pc := 59) hC dX11_asker_59 0 rfl ?_
            refine w_iret (pc := 61) hC hRT dX11_asker_61 rfl ?_
            refine ⟨va_up (Q 10) (a : Int).toNat (some q2), P ++ [(q2, .inr (kci k, [.int (J a), .int (J v)]))], retI (by unfold v_asker; rw [if_neg (by omega), if_neg (by omega), hk]), rfl, ?_⟩
            · unfold n_asker
              rw [if_pos ⟨by omega, by omega, by omega⟩]
              exact ⟨LR_asker hL hR (by omega), _, rfl⟩
          · have hq2 : P[i0]? = some (q, .inr (8, [.int (J a), .int (J (S (172 + a)))])) := by rw [hq, hk]; rfl
            refine w_callO (pc := 39) (As := []) (rest := []) hC dX11_asker_39 vo_X11_130_X8 (c_X8_kind (kl K) G A D T I F Q P q) (by decide) ⟨Nat.le_of_ble_eq_true rfl, Nat.le_of_ble_eq_true rfl⟩ (q0 := 60 + i0) (CW_P hq2) rfl rfl rfl (Nat.le_of_ble_eq_true rfl) rfl (fun vo wo hv => ?_)
            obtain ⟨hv1, hw1⟩ := hv
            rw [hv1, hw1]
            show WW K G 0 0 (CW A D T G.2.1 I F Q P) 42 [(0, .ref (A 0)), (1, .int (J a)), (2, .int (J k)), (3, .int (J v))] [.int (J 6)]
            refine w_istore (pc := 42) hC dX11_asker_42 (lv2 := [(4, .int (J 6)), (0, .ref (A 0)), (1, .int (J a)), (2, .int (J k)), (3, .int (J v))]) (by rw [hnL]; decide) rfl ?_
            refine w_aload_n (pc := 44) hC dX11_asker_44 1 rfl rfl ?_
            refine w_getf (pc := 45) (v := .ref (A 1)) hC dX11_asker_45 fi_X11_12 0 CW_0 rfl ?_
            refine w_getfN (pc := 48) (v := .ref (A 10)) hC dX11_asker_48 fn_X11_126 1 CW_1 rfl ?_
            refine w_iload_n (pc := 51) hC dX11_asker_51 2 rfl rfl ?_
            refine w_iload_n (pc := 52) hC dX11_asker_52 3 rfl rfl ?_
            refine w_iload_n (pc := 53) hC dX11_asker_53 2 rfl rfl ?_
            refine w_iload_n (pc := 54) hC dX11_asker_54 4 rfl rfl ?_
            refine w_callS (pc := 55) (As := [.int (J k), .int (J a), .int (J v)]) (rest := [.int (J a), .ref (A 10)]) hC dX11_asker_55 cs_X11_135 (c_X11_newAsker (kl K) G A D T I F Q P k a v (by omega)) (by decide) ⟨Nat.le_of_ble_eq_true rfl, Nat.le_of_ble_eq_true rfl⟩ rfl (Nat.le_of_ble_eq_true rfl) rfl (fun vo wo hv => ?_)
            obtain ⟨q2, hv1, hw1⟩ := hv
            rw [hv1, hw1]
            show WW K G 1 2 (CW A D T G.2.1 I F Q (P ++ [(q2, .inr (kci k, [.int (J a), .int (J v)]))])) 58 [(4, .int (J 6)), (0, .ref (A 0)), (1, .int (J a)), (2, .int (J k)), (3, .int (J v))] [.ref q2, .int (J a), .ref (A 10)]
            refine w_aastO (pc := 58) (t0 := 4) (f := Q 10) (o := some q2) (w2 := CW A D T G.2.1 I F (qu Q 10 (va_up (Q 10) (a : Int).toNat (some q2))) (P ++ [(q2, .inr (kci k, [.int (J a), .int (J v)]))])) hC dX11_asker_58 10 CW_10 rfl (fun v9 hv9 => by cases hv9; exact ⟨60 + P.length, kci k, _, _, CW_last, (kCn_nCs (by omega)).1, (kCn_nCs (by omega)).2⟩) (by omega) (Nat.le_of_ble_eq_true rfl) (CWq_10 rfl) ?_
            refine w_iload (pc := 59) hC dX11_asker_59 0 rfl ?_
            refine w_iret (pc := 61) hC hRT dX11_asker_61 rfl ?_
            refine ⟨va_up (Q 10) (a : Int).toNat (some q2), P ++ [(q2, .inr (kci k, [.int (J a), .int (J v)]))], retI (by unfold v_asker; rw [if_neg (by omega), if_neg (by omega), hk]), rfl, ?_⟩
            · unfold n_asker
              rw [if_pos ⟨by omega, by omega, by omega⟩]
              exact ⟨LR_asker hL hR (by omega), _, rfl⟩
        · refine w_bipush (pc := 27) hC dX11_asker_27 (z := (-2)) rfl ?_
          refine w_up (cs2 := 1) (ss2 := 2) (Nat.le_of_ble_eq_true rfl) (Nat.le_of_ble_eq_true rfl) ?_
          refine w_iret (pc := 29) hC hRT dX11_asker_29 rfl ?_
          refine ⟨Q 10, P, retI (by unfold v_asker; rw [if_neg (by omega), if_pos (by omega)]), CW_cong rfl rfl (qu_ms (k := 10) (v := Q 10) rfl rfl rfl), ?_⟩
          · unfold n_asker
            rw [if_neg (by omega)]
            exact ⟨LR_cong rfl rfl (qu_id (k := 10) (v := Q 10) rfl) hL, [], (List.append_nil _).symm⟩
    · refine w_iconst (pc := 15) hC dX11_asker_15 ?_
      refine w_up (cs2 := 1) (ss2 := 2) (Nat.le_of_ble_eq_true rfl) (Nat.le_of_ble_eq_true rfl) ?_
      refine w_iret (pc := 16) hC hRT dX11_asker_16 rfl ?_
      refine ⟨Q 10, P, retI (by unfold v_asker; rw [if_pos (by omega)]), CW_cong rfl rfl (qu_ms (k := 10) (v := Q 10) rfl rfl rfl), ?_⟩
      · unfold n_asker
        rw [if_neg (by omega)]
        exact ⟨LR_cong rfl rfl (qu_id (k := 10) (v := Q 10) rfl) hL, [], (List.append_nil _).symm⟩
