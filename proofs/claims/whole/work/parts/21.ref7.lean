
theorem p100 {n : Int} (h1 : 0 ≤ n) (h2 : n ≤ 6) : 1 ≤ (100 : Int) ^ n.toNat ∧ (100 : Int) ^ n.toNat ≤ 1000000000000 := by
  have : n.toNat = 0 ∨ n.toNat = 1 ∨ n.toNat = 2 ∨ n.toNat = 3 ∨ n.toNat = 4 ∨ n.toNat = 5 ∨ n.toNat = 6 := by omega
  rcases this with e | e | e | e | e | e | e <;> rw [e] <;> decide
theorem p100s {k : Int} (h : 0 ≤ k) : (100 : Int) ^ (k + 1).toNat = 100 ^ k.toNat * 100 := by
  rw [show (k + 1).toNat = k.toNat + 1 by omega, Int.pow_succ]
theorem p2s {k : Int} (h : 0 ≤ k) : (2 : Int) ^ (k + 1).toNat = 2 * 2 ^ k.toNat := by
  rw [show (k + 1).toNat = k.toNat + 1 by omega, Int.pow_succ, Int.mul_comm]
theorem mul_in {w c : Int} (h1 : 0 ≤ w) (h2 : w ≤ 1000000000000) (h3 : 0 ≤ c) (h4 : c ≤ 100) : 0 ≤ w * c ∧ w * c ≤ w * 100 := ⟨Int.mul_nonneg h1 h3, Int.mul_le_mul_of_nonneg_left h4 h1⟩

theorem STEP_tot {S : Int → Int} {c rf day first : Int} {B W : Int → Int} {m : Nat} (hR : RI S) (h0 : 0 < S 0) (hd : 0 ≤ day) (hb : ∀ k : Int, 0 ≤ k → k < (m : Int) → VB (S 0) (B k)) (hf : ∀ k : Int, 0 ≤ k → k < (m : Int) → FST S (B k) day first) : isum (STEP S c rf day first one1) B W m = isum one1 B W m * 100 := by
  rw [← isum_mul]
  refine isum_congr (fun k h1 h2 => ?_)
  rw [STEP_one (CHW_in hR (hb k h1 h2) h0 hd (hf k h1 h2))]
  rfl
theorem isum_le1 {B W : Int → Int} {m k : Int} (h : LK B W m) (h1 : 0 ≤ k) (h2 : k ≤ m) : isum one1 B W k.toNat ≤ isum one1 B W m.toNat := by
  obtain ⟨j, hj⟩ : ∃ j : Nat, m.toNat = k.toNat + j := ⟨m.toNat - k.toNat, by omega⟩
  rw [hj]
  exact isum_mono (fun i g1 g2 => ⟨by show (0 : Int) ≤ 1; decide, by have := h.2.2 i g1 (by omega); omega⟩)

set_option maxRecDepth 100000 in
set_option maxHeartbeats 4000000 in
theorem c_X12_gathers (l : Launch) (G : GT) (A : Nat → Nat) (I : Nat → Int → Int) (F : Nat → Int)  (board : Int) (weight : Int) (hk : LK (I 6) (I 8) (F 17)) (h1 : (F 17) < 64) (h2 : -2147483648 ≤ board ∧ board < 2147483648) (h3 : 0 < weight ∧ weight ≤ 1000000000000000) (h4 : ∀ k : Int, 0 ≤ k → k < (F 17) → -2147483648 ≤ (I 6) k ∧ (I 6) k < 2147483648) (h5 : isum one1 (I 6) (I 8) (F 17).toNat ≤ 1000000000000000) : CT l yX12_gathers cX12_gathers 5 none 0 0 0 G [.ref (A 0), .int (J board), .long (JL weight)] (MW A G.2.1 I F) (fun vo wo => ∃ (b6 : Int → Int) (b8 : Int → Int) (g17 : Int), vo = none ∧ wo = MW A G.2.1 (au (au I 6 b6) 8 b8) (fu F 17 g17) ∧ ((∀ f : Int → Int, isum f b6 b8 (g17).toNat = isum f (I 6) (I 8) (F 17).toNat + f board * weight) ∧ LK b6 b8 g17 ∧ ((F 17) ≤ g17 ∧ g17 ≤ (F 17) + 1) ∧ ∀ P : Int → Prop, (∀ k : Int, 0 ≤ k → k < (F 17) → P ((I 6) k)) → P board → ∀ k : Int, 0 ≤ k → k < g17 → P (b6 k))) := by
  refine CT_of (own := RX12) rfl rfl (Nat.le_of_ble_eq_true rfl) (fun K hl hnL hC hRT hin => ?_)
  subst hl
  show WW K G 0 0 (MW A G.2.1 I F) 0 [(0, .ref (A 0)), (1, .int (J board)), (2, .long (JL weight))] []
  have hm := hk.1
  refine w_iconst (pc := 0) hC dX12_gathers_0 ?_
  refine w_istore (pc := 1) hC dX12_gathers_1 (lv2 := [(4, .int (J 0)), (0, .ref (A 0)), (1, .int (J board)), (2, .long (JL weight))]) (by rw [hnL]; decide) rfl ?_
  have loop3 : ∀ (nF : Nat) (k : Int), (0 ≤ k ∧ k ≤ (F 17)) → (∀ j : Int, 0 ≤ j → j < k → ¬ (I 6) j = board) → ((F 17) - k) < (nF : Int) → WW K G 0 0 (MW A G.2.1 I F) 3 [(0, .ref (A 0)), (1, .int (J board)), (2, .long (JL weight)), (4, .int (J k))] [] := by
    intro nF
    induction nF with
    | zero => intro k i1 i2 hm3; exact absurd hm3 (by omega)
    | succ nF ih3 =>
      intro k i1 i2 hm3
      refine w_iload (pc := 3) hC dX12_gathers_3 3 rfl ?_
      refine w_aload_n (pc := 5) hC dX12_gathers_5 0 rfl rfl ?_
      refine w_getf (pc := 6) (v := .int (J (F 17))) hC dX12_gathers_6 fi_X12_175 0 rfl rfl ?_
      refine w_icmp_ge (pc := 9) (tgt := 29) hC dX12_gathers_9 (by decide) (by omega) (fun c9 => ?_) (fun c9 => ?_)
      · refine w_iload (pc := 29) hC dX12_gathers_29 3 rfl ?_
        refine w_aload_n (pc := 31) hC dX12_gathers_31 0 rfl rfl ?_
        refine w_getf (pc := 32) (v := .int (J (F 17))) hC dX12_gathers_32 fi_X12_175 0 rfl rfl ?_
        refine w_icmp_ne (pc := 35) (tgt := 64) hC dX12_gathers_35 (by decide) (by omega) (fun c35 => ?_) (fun c35 => ?_)
        · refine w_aload_n (pc := 64) hC dX12_gathers_64 0 rfl rfl ?_
          refine w_getf (pc := 65) (v := .ref (A 8)) hC dX12_gathers_65 fi_X12_39 0 rfl rfl ?_
          refine w_iload (pc := 68) hC dX12_gathers_68 3 rfl ?_
          refine w_dup2 (pc := 70) hC dX12_gathers_70 rfl rfl ?_
          refine w_lald (pc := 71) (g := (I 8)) hC dX12_gathers_71 8 rfl (by omega) (Nat.le_of_ble_eq_true rfl) ?_
          refine w_lload_n (pc := 72) hC dX12_gathers_72 2 rfl rfl ?_
          refine w_ladd (pc := 73) hC dX12_gathers_73 ?_
          refine w_last (pc := 74) (g := (I 8)) (w2 := MW A G.2.1 (au I 8 (gu (I 8) k (((I 8) k) + weight))) F) hC dX12_gathers_74 8 rfl (by omega) (Nat.le_of_ble_eq_true rfl) rfl ?_
          generalize h74 : gu (I 8) k (((I 8) k) + weight) = s74
          refine w_vret (pc := 75) hC hRT dX12_gathers_75 ?_
          refine ⟨(I 6), s74, (F 17), rfl, rfl, ?_⟩
          · subst h74
            have hkm : k < F 17 := by omega
            have e : I 6 k = board := by first | exact c20 | omega
            refine ⟨fun f => ?_, ⟨hm, hk.2.1, fun i g1 g2 => ?_⟩, by omega, fun P p1 p2 => p1⟩
            · rw [isum_more i1.1 (by omega), e]
            · unfold gu; split
              · have := hk.2.2 k i1.1 hkm; omega
              · exact hk.2.2 i g1 g2
        · refine w_aload_n (pc := 38) hC dX12_gathers_38 0 rfl rfl ?_
          refine w_getf (pc := 39) (v := .ref (A 6)) hC dX12_gathers_39 fi_X12_32 0 rfl rfl ?_
          refine w_iload (pc := 42) hC dX12_gathers_42 3 rfl ?_
          refine w_iload_n (pc := 44) hC dX12_gathers_44 1 rfl rfl ?_
          refine w_iast (pc := 45) (g := (I 6)) (w2 := MW A G.2.1 (au I 6 (gu (I 6) k board)) F) hC dX12_gathers_45 6 rfl (by omega) (Nat.le_of_ble_eq_true rfl) rfl ?_
          generalize h45 : gu (I 6) k board = s45
          refine w_aload_n (pc := 46) hC dX12_gathers_46 0 rfl rfl ?_
          refine w_getf (pc := 47) (v := .ref (A 8)) hC dX12_gathers_47 fi_X12_39 0 rfl rfl ?_
          refine w_iload (pc := 50) hC dX12_gathers_50 3 rfl ?_
          refine w_lconst (pc := 52) hC dX12_gathers_52 (z := 0) rfl ?_
          refine w_last (pc := 53) (g := (I 8)) (w2 := MW A G.2.1 (au (au I 6 s45) 8 (gu (I 8) k 0)) F) hC dX12_gathers_53 8 rfl (by omega) (Nat.le_of_ble_eq_true rfl) rfl ?_
          generalize h53 : gu (I 8) k 0 = s53
          refine w_aload_n (pc := 54) hC dX12_gathers_54 0 rfl rfl ?_
          refine w_dup (pc := 55) hC dX12_gathers_55 rfl ?_
          refine w_getf (pc := 56) (v := .int (J (F 17))) hC dX12_gathers_56 fi_X12_175 0 rfl rfl ?_
          refine w_iconst (pc := 59) hC dX12_gathers_59 ?_
          refine w_iadd (pc := 60) hC dX12_gathers_60 ?_
          refine w_putf (pc := 61) (w2 := MW A G.2.1 (au (au I 6 s45) 8 s53) (fu F 17 ((F 17) + 1))) hC dX12_gathers_61 fi_X12_175 fp_X12_17 rfl 0 rfl (rfl) (rfl) (Nat.le_of_ble_eq_true rfl) rfl ?_
          refine w_aload_n (pc := 64) hC dX12_gathers_64 0 rfl rfl ?_
          refine w_getf (pc := 65) (v := .ref (A 8)) hC dX12_gathers_65 fi_X12_39 0 rfl rfl ?_
          refine w_iload (pc := 68) hC dX12_gathers_68 3 rfl ?_
          refine w_dup2 (pc := 70) hC dX12_gathers_70 rfl rfl ?_
          refine w_lald (pc := 71) (g := s53) hC dX12_gathers_71 8 rfl (by omega) (Nat.le_of_ble_eq_true rfl) ?_
          have e71 := congrFun h53.symm k
          rw [gu_eq] at e71
          refine w_lload_n (pc := 72) hC dX12_gathers_72 2 rfl rfl ?_
          refine w_ladd (pc := 73) hC dX12_gathers_73 ?_
          refine w_last (pc := 74) (g := s53) (w2 := MW A G.2.1 (au (au I 6 s45) 8 (gu s53 k ((s53 k) + weight))) (fu F 17 ((F 17) + 1))) hC dX12_gathers_74 8 rfl (by omega) (Nat.le_of_ble_eq_true rfl) rfl ?_
          generalize h74 : gu s53 k ((s53 k) + weight) = s74
          refine w_vret (pc := 75) hC hRT dX12_gathers_75 ?_
          refine ⟨s45, s74, (F 17) + 1, rfl, rfl, ?_⟩
          · subst h74 h53 h45
            have hkm : k = F 17 := by omega
            subst hkm
            refine ⟨fun f => ?_, ⟨by omega, fun i j g1 g2 g3 g4 e => ?_, fun i g1 g2 => ?_⟩, by omega, fun P p1 p2 i g1 g2 => ?_⟩
            · rw [gu_eq, Int.zero_add, show gu (gu (I 8) (F 17) 0) (F 17) weight = gu (I 8) (F 17) weight by funext j; unfold gu; split <;> rfl]; exact isum_put hm.1
            · unfold gu at e; (repeat' split at e) <;> first | omega | exact absurd e.symm (i2 _ (by omega) (by omega)) | exact absurd e (i2 _ (by omega) (by omega)) | exact hk.2.1 i j g1 (by omega) g3 (by omega) e
            · rw [gu_eq]; unfold gu; (repeat' split) <;> first | omega | exact hk.2.2 i g1 (by omega)
            · unfold gu; split
              · exact p2
              · exact p1 i g1 (by omega)
      · refine w_aload_n (pc := 12) hC dX12_gathers_12 0 rfl rfl ?_
        refine w_getf (pc := 13) (v := .ref (A 6)) hC dX12_gathers_13 fi_X12_32 0 rfl rfl ?_
        refine w_iload (pc := 16) hC dX12_gathers_16 3 rfl ?_
        refine w_iald (pc := 18) (g := (I 6)) hC dX12_gathers_18 6 rfl (by omega) (Nat.le_of_ble_eq_true rfl) ?_
        have h4k := h4 k i1.1 (by omega)
        refine w_iload_n (pc := 19) hC dX12_gathers_19 1 rfl rfl ?_
        refine w_icmp_eq (pc := 20) (tgt := 29) hC dX12_gathers_20 (by decide) (by omega) (fun c20 => ?_) (fun c20 => ?_)
        · refine w_iload (pc := 29) hC dX12_gathers_29 3 rfl ?_
          refine w_aload_n (pc := 31) hC dX12_gathers_31 0 rfl rfl ?_
          refine w_getf (pc := 32) (v := .int (J (F 17))) hC dX12_gathers_32 fi_X12_175 0 rfl rfl ?_
          refine w_icmp_ne (pc := 35) (tgt := 64) hC dX12_gathers_35 (by decide) (by omega) (fun c35 => ?_) (fun c35 => ?_)
          · refine w_aload_n (pc := 64) hC dX12_gathers_64 0 rfl rfl ?_
            refine w_getf (pc := 65) (v := .ref (A 8)) hC dX12_gathers_65 fi_X12_39 0 rfl rfl ?_
            refine w_iload (pc := 68) hC dX12_gathers_68 3 rfl ?_
            refine w_dup2 (pc := 70) hC dX12_gathers_70 rfl rfl ?_
            refine w_lald (pc := 71) (g := (I 8)) hC dX12_gathers_71 8 rfl (by omega) (Nat.le_of_ble_eq_true rfl) ?_
            refine w_lload_n (pc := 72) hC dX12_gathers_72 2 rfl rfl ?_
            refine w_ladd (pc := 73) hC dX12_gathers_73 ?_
            refine w_last (pc := 74) (g := (I 8)) (w2 := MW A G.2.1 (au I 8 (gu (I 8) k (((I 8) k) + weight))) F) hC dX12_gathers_74 8 rfl (by omega) (Nat.le_of_ble_eq_true rfl) rfl ?_
            generalize h74 : gu (I 8) k (((I 8) k) + weight) = s74
            refine w_vret (pc := 75) hC hRT dX12_gathers_75 ?_
            refine ⟨(I 6), s74, (F 17), rfl, rfl, ?_⟩
            · subst h74
              have hkm : k < F 17 := by omega
              have e : I 6 k = board := by first | exact c20 | omega
              refine ⟨fun f => ?_, ⟨hm, hk.2.1, fun i g1 g2 => ?_⟩, by omega, fun P p1 p2 => p1⟩
              · rw [isum_more i1.1 (by omega), e]
              · unfold gu; split
                · have := hk.2.2 k i1.1 hkm; omega
                · exact hk.2.2 i g1 g2
          · refine w_aload_n (pc := 38) hC dX12_gathers_38 0 rfl rfl ?_
            refine w_getf (pc := 39) (v := .ref (A 6)) hC dX12_gathers_39 fi_X12_32 0 rfl rfl ?_
            refine w_iload (pc := 42) hC dX12_gathers_42 3 rfl ?_
            refine w_iload_n (pc := 44) hC dX12_gathers_44 1 rfl rfl ?_
            refine w_iast (pc := 45) (g := (I 6)) (w2 := MW A G.2.1 (au I 6 (gu (I 6) k board)) F) hC dX12_gathers_45 6 rfl (by omega) (Nat.le_of_ble_eq_true rfl) rfl ?_
            generalize h45 : gu (I 6) k board = s45
            refine w_aload_n (pc := 46) hC dX12_gathers_46 0 rfl rfl ?_
            refine w_getf (pc := 47) (v := .ref (A 8)) hC dX12_gathers_47 fi_X12_39 0 rfl rfl ?_
            refine w_iload (pc := 50) hC dX12_gathers_50 3 rfl ?_
            refine w_lconst (pc := 52) hC dX12_gathers_52 (z := 0) rfl ?_
            refine w_last (pc := 53) (g := (I 8)) (w2 := MW A G.2.1 (au (au I 6 s45) 8 (gu (I 8) k 0)) F) hC dX12_gathers_53 8 rfl (by omega) (Nat.le_of_ble_eq_true rfl) rfl ?_
            generalize h53 : gu (I 8) k 0 = s53
            refine w_aload_n (pc := 54) hC dX12_gathers_54 0 rfl rfl ?_
            refine w_dup (pc := 55) hC dX12_gathers_55 rfl ?_
            refine w_getf (pc := 56) (v := .int (J (F 17))) hC dX12_gathers_56 fi_X12_175 0 rfl rfl ?_
            refine w_iconst (pc := 59) hC dX12_gathers_59 ?_
            refine w_iadd (pc := 60) hC dX12_gathers_60 ?_
            refine w_putf (pc := 61) (w2 := MW A G.2.1 (au (au I 6 s45) 8 s53) (fu F 17 ((F 17) + 1))) hC dX12_gathers_61 fi_X12_175 fp_X12_17 rfl 0 rfl (rfl) (rfl) (Nat.le_of_ble_eq_true rfl) rfl ?_
            refine w_aload_n (pc := 64) hC dX12_gathers_64 0 rfl rfl ?_
            refine w_getf (pc := 65) (v := .ref (A 8)) hC dX12_gathers_65 fi_X12_39 0 rfl rfl ?_
            refine w_iload (pc := 68) hC dX12_gathers_68 3 rfl ?_
            refine w_dup2 (pc := 70) hC dX12_gathers_70 rfl rfl ?_
            refine w_lald (pc := 71) (g := s53) hC dX12_gathers_71 8 rfl (by omega) (Nat.le_of_ble_eq_true rfl) ?_
            have e71 := congrFun h53.symm k
            rw [gu_eq] at e71
            refine w_lload_n (pc := 72) hC dX12_gathers_72 2 rfl rfl ?_
            refine w_ladd (pc := 73) hC dX12_gathers_73 ?_
            refine w_last (pc := 74) (g := s53) (w2 := MW A G.2.1 (au (au I 6 s45) 8 (gu s53 k ((s53 k) + weight))) (fu F 17 ((F 17) + 1))) hC dX12_gathers_74 8 rfl (by omega) (Nat.le_of_ble_eq_true rfl) rfl ?_
            generalize h74 : gu s53 k ((s53 k) + weight) = s74
            refine w_vret (pc := 75) hC hRT dX12_gathers_75 ?_
            refine ⟨s45, s74, (F 17) + 1, rfl, rfl, ?_⟩
            · subst h74 h53 h45
              have hkm : k = F 17 := by omega
              subst hkm
              refine ⟨fun f => ?_, ⟨by omega, fun i j g1 g2 g3 g4 e => ?_, fun i g1 g2 => ?_⟩, by omega, fun P p1 p2 i g1 g2 => ?_⟩
              · rw [gu_eq, Int.zero_add, show gu (gu (I 8) (F 17) 0) (F 17) weight = gu (I 8) (F 17) weight by funext j; unfold gu; split <;> rfl]; exact isum_put hm.1
              · unfold gu at e; (repeat' split at e) <;> first | omega | exact absurd e.symm (i2 _ (by omega) (by omega)) | exact absurd e (i2 _ (by omega) (by omega)) | exact hk.2.1 i j g1 (by omega) g3 (by omega) e
              · rw [gu_eq]; unfold gu; (repeat' split) <;> first | omega | exact hk.2.2 i g1 (by omega)
              · unfold gu; split
                · exact p2
                · exact p1 i g1 (by omega)
        · refine w_iinc (pc := 23) hC dX12_gathers_23 (lv2 := [(4, .int (J (k + 1))), (0, .ref (A 0)), (1, .int (J board)), (2, .long (JL weight))]) 3 rfl (by rw [hnL]; decide) rfl ?_
          refine w_goto (pc := 26) hC dX12_gathers_26 (tgt := 3) (by decide) ?_
          refine w_sub [1, 2, 3, 0] (lv2 := [(0, .ref (A 0)), (1, .int (J board)), (2, .long (JL weight)), (4, .int (J (k + 1)))]) rfl ?_
          refine ih3 (k + 1) ?_ ?_ ?_
          · first | assumption | omega
          · intro j g1 g2; by_cases e : j = k
            · rw [e]; exact c20
            · exact i2 j g1 (by omega)
          · omega
  refine w_sub [1, 2, 3, 0] (lv2 := [(0, .ref (A 0)), (1, .int (J board)), (2, .long (JL weight)), (4, .int (J 0))]) rfl ?_
  refine loop3 (((F 17) - 0) + 1 : Int).toNat 0 ?_ ?_ ?_
  · first | assumption | omega
  · intro j g1 g2; omega
  · omega
set_option maxRecDepth 100000 in
set_option maxHeartbeats 4000000 in
theorem c_X12_dayGoes (l : Launch) (G : GT) (A : Nat → Nat) (I : Nat → Int → Int) (F : Nat → Int)  (c : Int) (day : Int) (first : Int) (hR : RI (I 1)) (hc : 0 ≤ c ∧ c < (I 1) 1) (h0 : 0 < (I 1) 0) (hd : 0 ≤ day ∧ day ≤ 2000) (hf : -1 ≤ (F 11) ∧ (F 11) ≤ 5) (hk : LK (I 5) (I 7) (F 16)) (h32 : (F 16) ≤ 32) (hb : ∀ k : Int, 0 ≤ k → k < (F 16) → VB ((I 1) 0) ((I 5) k)) (hf1 : ∀ k : Int, 0 ≤ k → k < (F 16) → FST (I 1) ((I 5) k) day first) (hff : first = -7 ∨ first = -5 ∨ (0 ≤ first ∧ first < (I 1) 0)) (ht : isum one1 (I 5) (I 7) (F 16).toNat = (F 18)) (hl : 1 ≤ (F 18) ∧ (F 18) ≤ 10000000000) : CT l yX12_dayGoes cX12_dayGoes 8 none 4 0 0 G [.ref (A 0), .int (J c), .int (J day), .int (J first)] (MW A G.2.1 I F) (fun vo wo => ∃ (b3 : Int → Int) (b4 : Int → Int) (b5 : Int → Int) (b6 : Int → Int) (b7 : Int → Int) (b8 : Int → Int) (g16 : Int) (g17 : Int) (g18 : Int), vo = none ∧ wo = MW A G.2.1 (au (au (au (au (au (au I 3 b3) 4 b4) 5 b5) 6 b6) 7 b7) 8 b8) (fu (fu (fu F 16 g16) 17 g17) 18 g18) ∧ ((∀ f : Int → Int, isum f b5 b7 (g16).toNat = isum (STEP (I 1) c (F 11) day first f) (I 5) (I 7) (F 16).toNat) ∧ LK b5 b7 g16 ∧ g16 ≤ 2 * (F 16) ∧ (∀ k : Int, 0 ≤ k → k < g16 → VB ((I 1) 0) (b5 k)) ∧ isum one1 b5 b7 (g16).toNat = g18 ∧ g18 = (F 18) * 100)) := by
  refine CT_of (own := RX12) rfl rfl (Nat.le_of_ble_eq_true rfl) (fun K hl hnL hC hRT hin => ?_)
  subst hl
  show WW K G 0 0 (MW A G.2.1 I F) 0 [(0, .ref (A 0)), (1, .int (J c)), (2, .int (J day)), (3, .int (J first))] []
  have hn := hR.n
  have hm := hk.1
  have e1 := Int.emod_nonneg day (show I 1 0 ≠ 0 by omega)
  have e2 := Int.emod_lt_of_pos day h0
  refine w_aload_n (pc := 0) hC dX12_dayGoes_0 0 rfl rfl ?_
  refine w_iconst (pc := 1) hC dX12_dayGoes_1 ?_
  refine w_putf (pc := 2) (w2 := MW A G.2.1 I (fu F 17 0)) hC dX12_dayGoes_2 fi_X12_175 fp_X12_17 rfl 0 rfl (rfl) (rfl) (Nat.le_of_ble_eq_true rfl) rfl ?_
  refine w_iconst (pc := 5) hC dX12_dayGoes_5 ?_
  refine w_istore (pc := 6) hC dX12_dayGoes_6 (lv2 := [(4, .int (J 0)), (0, .ref (A 0)), (1, .int (J c)), (2, .int (J day)), (3, .int (J first))]) (by rw [hnL]; decide) rfl ?_
  have loop8 : ∀ (nF : Nat) (k : Int) (a3_8 : Int → Int) (a4_8 : Int → Int) (a6_8 : Int → Int) (a8_8 : Int → Int) (f17_8 : Int), (0 ≤ k ∧ k ≤ (F 16)) → (∀ f : Int → Int, isum f a6_8 a8_8 f17_8.toNat = isum (STEP (I 1) c (F 11) day first f) (I 5) (I 7) k.toNat) → (LK a6_8 a8_8 f17_8 ∧ f17_8 ≤ 2 * k) → (∀ j : Int, 0 ≤ j → j < f17_8 → VB (I 1 0) (a6_8 j)) → ((F 16) - k) < (nF : Int) → WW K G 0 0 (MW A G.2.1 (au (au (au (au I 3 a3_8) 4 a4_8) 6 a6_8) 8 a8_8) (fu F 17 f17_8)) 8 [(0, .ref (A 0)), (1, .int (J c)), (2, .int (J day)), (3, .int (J first)), (4, .int (J k))] [] := by
    intro nF
    induction nF with
    | zero => intro k a3_8 a4_8 a6_8 a8_8 f17_8 i1 i2 i3 i4 hm8; exact absurd hm8 (by omega)
    | succ nF ih8 =>
      intro k a3_8 a4_8 a6_8 a8_8 f17_8 i1 i2 i3 i4 hm8
      refine w_iload (pc := 8) hC dX12_dayGoes_8 4 rfl ?_
      refine w_aload_n (pc := 10) hC dX12_dayGoes_10 0 rfl rfl ?_
      refine w_getf (pc := 11) (v := .int (J (F 16))) hC dX12_dayGoes_11 fi_X12_178 0 rfl rfl ?_
      refine w_icmp_ge (pc := 14) (tgt := 177) hC dX12_dayGoes_14 (by decide) (by omega) (fun c14 => ?_) (fun c14 => ?_)
      · have hi3 := i3.1.1
        refine w_aload_n (pc := 177) hC dX12_dayGoes_177 0 rfl rfl ?_
        refine w_aload_n (pc := 178) hC dX12_dayGoes_178 0 rfl rfl ?_
        refine w_getf (pc := 179) (v := .int (J f17_8)) hC dX12_dayGoes_179 fi_X12_175 0 rfl rfl ?_
        refine w_putf (pc := 182) (w2 := MW A G.2.1 (au (au (au (au I 3 a3_8) 4 a4_8) 6 a6_8) 8 a8_8) (fu (fu F 16 f17_8) 17 f17_8)) hC dX12_dayGoes_182 fi_X12_178 fp_X12_16 rfl 0 rfl (rfl) (rfl) (Nat.le_of_ble_eq_true rfl) rfl ?_
        refine w_iconst (pc := 185) hC dX12_dayGoes_185 ?_
        refine w_istore (pc := 186) hC dX12_dayGoes_186 (lv2 := [(4, .int (J 0)), (0, .ref (A 0)), (1, .int (J c)), (2, .int (J day)), (3, .int (J first))]) (by rw [hnL]; decide) rfl ?_
        have loop188 : ∀ (nF : Nat) (q : Int) (a5_188 : Int → Int) (a7_188 : Int → Int), (0 ≤ q ∧ q ≤ f17_8) → (∀ j : Int, 0 ≤ j → j < q → a5_188 j = a6_8 j ∧ a7_188 j = a8_8 j) → (f17_8 - q) < (nF : Int) → WW K G 0 0 (MW A G.2.1 (au (au (au (au (au (au I 3 a3_8) 4 a4_8) 5 a5_188) 6 a6_8) 7 a7_188) 8 a8_8) (fu (fu F 16 f17_8) 17 f17_8)) 188 [(0, .ref (A 0)), (4, .int (J q))] [] := by
          intro nF
          induction nF with
          | zero => intro q a5_188 a7_188 j1 j2 hm188; exact absurd hm188 (by omega)
          | succ nF ih188 =>
            intro q a5_188 a7_188 j1 j2 hm188
            refine w_iload (pc := 188) hC dX12_dayGoes_188 1 rfl ?_
            refine w_aload_n (pc := 190) hC dX12_dayGoes_190 0 rfl rfl ?_
            refine w_getf (pc := 191) (v := .int (J f17_8)) hC dX12_dayGoes_191 fi_X12_178 0 rfl rfl ?_
            refine w_icmp_ge (pc := 194) (tgt := 231) hC dX12_dayGoes_194 (by decide) (by omega) (fun c194 => ?_) (fun c194 => ?_)
            · refine w_aload_n (pc := 231) hC dX12_dayGoes_231 0 rfl rfl ?_
              refine w_dup (pc := 232) hC dX12_dayGoes_232 rfl ?_
              refine w_getf (pc := 233) (v := .long (JL (F 18))) hC dX12_dayGoes_233 fi_X12_185 0 rfl rfl ?_
              refine w_ldc2 (pc := 236) hC dX12_dayGoes_236 (z := 100) tw_6_62 (by decide) ?_
              refine w_lmul (pc := 239) hC dX12_dayGoes_239 ?_
              refine w_putf (pc := 240) (w2 := MW A G.2.1 (au (au (au (au (au (au I 3 a3_8) 4 a4_8) 5 a5_188) 6 a6_8) 7 a7_188) 8 a8_8) (fu (fu (fu F 16 f17_8) 17 f17_8) 18 ((F 18) * 100))) hC dX12_dayGoes_240 fi_X12_185 fp_X12_18 rfl 0 rfl (rfl) (rfl) (Nat.le_of_ble_eq_true rfl) rfl ?_
              refine w_vret (pc := 243) hC hRT dX12_dayGoes_243 ?_
              refine ⟨a3_8, a4_8, a5_188, a6_8, a7_188, a8_8, f17_8, f17_8, (F 18) * 100, rfl, rfl, ?_⟩
              · have hq : q = f17_8 := by omega
                have z : ∀ f : Int → Int, isum f a5_188 a7_188 f17_8.toNat = isum f a6_8 a8_8 f17_8.toNat := fun f => isum_congr (fun j g1 g2 => by have := j2 j g1 (by omega); rw [this.1, this.2])
                have hkk : k = F 16 := by omega
                have hs1 := STEP_tot (c := c) (rf := F 11) (first := first) (m := (F 16).toNat) (W := I 7) hR h0 hd.1 (fun i g1 g2 => hb i g1 (by omega)) (fun i g1 g2 => hf1 i g1 (by omega))
                refine ⟨fun f => ?_, ⟨i3.1.1, fun a b g1 g2 g3 g4 e => ?_, fun a g1 g2 => ?_⟩, by omega, fun a g1 g2 => ?_, ?_, rfl⟩
                · rw [z, i2, hkk]
                · rw [(j2 a g1 (by omega)).1, (j2 b g3 (by omega)).1] at e; exact i3.1.2.1 a b g1 g2 g3 g4 e
                · rw [(j2 a g1 (by omega)).2]; exact i3.1.2.2 a g1 g2
                · rw [(j2 a g1 (by omega)).1]; exact i4 a g1 g2
                · rw [z, i2, hkk, hs1, ht]
            · refine w_aload_n (pc := 197) hC dX12_dayGoes_197 0 rfl rfl ?_
              refine w_getf (pc := 198) (v := .ref (A 5)) hC dX12_dayGoes_198 fi_X12_29 0 rfl rfl ?_
              refine w_iload (pc := 201) hC dX12_dayGoes_201 1 rfl ?_
              refine w_aload_n (pc := 203) hC dX12_dayGoes_203 0 rfl rfl ?_
              refine w_getf (pc := 204) (v := .ref (A 6)) hC dX12_dayGoes_204 fi_X12_32 0 rfl rfl ?_
              refine w_iload (pc := 207) hC dX12_dayGoes_207 1 rfl ?_
              refine w_iald (pc := 209) (g := a6_8) hC dX12_dayGoes_209 6 rfl (by omega) (Nat.le_of_ble_eq_true rfl) ?_
              refine w_iast (pc := 210) (g := a5_188) (w2 := MW A G.2.1 (au (au (au (au (au (au I 3 a3_8) 4 a4_8) 5 (gu a5_188 q (a6_8 q))) 6 a6_8) 7 a7_188) 8 a8_8) (fu (fu F 16 f17_8) 17 f17_8)) hC dX12_dayGoes_210 5 rfl (by omega) (Nat.le_of_ble_eq_true rfl) rfl ?_
              generalize h210 : gu a5_188 q (a6_8 q) = s210
              refine w_aload_n (pc := 211) hC dX12_dayGoes_211 0 rfl rfl ?_
              refine w_getf (pc := 212) (v := .ref (A 7)) hC dX12_dayGoes_212 fi_X12_35 0 rfl rfl ?_
              refine w_iload (pc := 215) hC dX12_dayGoes_215 1 rfl ?_
              refine w_aload_n (pc := 217) hC dX12_dayGoes_217 0 rfl rfl ?_
              refine w_getf (pc := 218) (v := .ref (A 8)) hC dX12_dayGoes_218 fi_X12_39 0 rfl rfl ?_
              refine w_iload (pc := 221) hC dX12_dayGoes_221 1 rfl ?_
              refine w_lald (pc := 223) (g := a8_8) hC dX12_dayGoes_223 8 rfl (by omega) (Nat.le_of_ble_eq_true rfl) ?_
              refine w_last (pc := 224) (g := a7_188) (w2 := MW A G.2.1 (au (au (au (au (au (au I 3 a3_8) 4 a4_8) 5 s210) 6 a6_8) 7 (gu a7_188 q (a8_8 q))) 8 a8_8) (fu (fu F 16 f17_8) 17 f17_8)) hC dX12_dayGoes_224 7 rfl (by omega) (Nat.le_of_ble_eq_true rfl) rfl ?_
              generalize h224 : gu a7_188 q (a8_8 q) = s224
              refine w_iinc (pc := 225) hC dX12_dayGoes_225 (lv2 := [(4, .int (J (q + 1))), (0, .ref (A 0))]) 1 rfl (by rw [hnL]; decide) rfl ?_
              refine w_goto (pc := 228) hC dX12_dayGoes_228 (tgt := 188) (by decide) ?_
              refine w_sub [1, 0] (lv2 := [(0, .ref (A 0)), (4, .int (J (q + 1)))]) rfl ?_
              refine ih188 (q + 1) s210 s224 ?_ ?_ ?_
              · first | assumption | omega
              · intro j g1 g2; subst h210 h224; by_cases e : j = q
                · rw [e, gu_eq, gu_eq]; exact ⟨rfl, rfl⟩
                · rw [gu_ne e, gu_ne e]; exact j2 j g1 (by omega)
              · omega
        refine w_sub [1, 0] (lv2 := [(0, .ref (A 0)), (4, .int (J 0))]) rfl ?_
        refine loop188 ((f17_8 - 0) + 1 : Int).toNat 0 (I 5) (I 7) ?_ ?_ ?_
        · first | assumption | omega
        · intro j g1 g2; omega
        · omega
      · have hVk := hb k i1.1 (by omega)
        have hkr := VB_rng hVk
        have hw := hk.2.2 k i1.1 (by omega)
        have hw2 := hk.one i1.1 (show k < F 16 by omega)
        have hwho := WHO_in (c := c) (rf := F 11) hVk h0 hd.1 (hf1 k i1.1 (by omega))
        have hchw := CHW_in (c := c) (rf := F 11) hR hVk h0 hd.1 (hf1 k i1.1 (by omega))
        have htrn := TRN_in hVk h0 hd.1
        have hs1 := STEP_tot (c := c) (rf := F 11) (first := first) (m := k.toNat) (W := I 7) hR h0 hd.1 (fun i g1 g2 => hb i g1 (by omega)) (fun i g1 g2 => hf1 i g1 (by omega))
        rw [← i2 one1] at hs1
        have hs2 := isum_le1 hk i1.1 i1.2
        have hi3 := i3.1.1
        have hlk := i3.1
        have hi4 : ∀ j : Int, 0 ≤ j → j < f17_8 → -2147483648 ≤ a6_8 j ∧ a6_8 j < 2147483648 := fun j g1 g2 => by have := VB_rng (i4 j g1 g2); omega
        have hmul := mul_in (w := (I 7) k) (c := CHW (I 1) (TRN (I 1) ((I 5) k) day) (WHO (I 1) c (F 11) ((I 5) k) day first)) (by omega) (by omega) hchw.1 hchw.2
        have hmul2 := mul_in (w := (I 7) k) (c := 100 - CHW (I 1) (TRN (I 1) ((I 5) k) day) (WHO (I 1) c (F 11) ((I 5) k) day first)) (by omega) (by omega) (by omega) (by omega)
        refine w_aload_n (pc := 17) hC dX12_dayGoes_17 0 rfl rfl ?_
        refine w_getf (pc := 18) (v := .ref (A 5)) hC dX12_dayGoes_18 fi_X12_29 0 rfl rfl ?_
        refine w_iload (pc := 21) hC dX12_dayGoes_21 4 rfl ?_
        refine w_iald (pc := 23) (g := (I 5)) hC dX12_dayGoes_23 5 rfl (by omega) (Nat.le_of_ble_eq_true rfl) ?_
        refine w_aload_n (pc := 24) hC dX12_dayGoes_24 0 rfl rfl ?_
        refine w_getf (pc := 25) (v := .ref (A 1)) hC dX12_dayGoes_25 fi_X12_9 0 rfl rfl ?_
        refine w_iconst (pc := 28) hC dX12_dayGoes_28 ?_
        refine w_iald (pc := 29) (g := (I 1)) hC dX12_dayGoes_29 1 rfl (by omega) (Nat.le_of_ble_eq_true rfl) ?_
        refine w_iconst (pc := 30) hC dX12_dayGoes_30 ?_
        refine w_isub (pc := 31) hC dX12_dayGoes_31 ?_
        refine w_iload_n (pc := 32) hC dX12_dayGoes_32 2 rfl rfl ?_
        refine w_aload_n (pc := 33) hC dX12_dayGoes_33 0 rfl rfl ?_
        refine w_getf (pc := 34) (v := .ref (A 1)) hC dX12_dayGoes_34 fi_X12_9 0 rfl rfl ?_
        refine w_iconst (pc := 37) hC dX12_dayGoes_37 ?_
        refine w_iald (pc := 38) (g := (I 1)) hC dX12_dayGoes_38 1 rfl (by omega) (Nat.le_of_ble_eq_true rfl) ?_
        refine w_irem (pc := 39) hC dX12_dayGoes_39 (by omega) ?_
        refine w_isub (pc := 40) hC dX12_dayGoes_40 ?_
        refine w_callS (pc := 41) (As := [.int (J ((I 5) k)), .int (J ((((I 1) 0) - 1) - (day % ((I 1) 0))))]) (rest := []) hC dX12_dayGoes_41 cs_X12_52 (c_X12_nameOn (kl K) G (MW A G.2.1 (au (au (au (au I 3 a3_8) 4 a4_8) 6 a6_8) 8 a8_8) (fu F 17 f17_8)) ((I 5) k) ((((I 1) 0) - 1) - (day % ((I 1) 0))) (show -2147483648 ≤ ((I 5) k) ∧ ((I 5) k) < 2147483648 from by first | assumption | omega) (show 0 ≤ ((((I 1) 0) - 1) - (day % ((I 1) 0))) ∧ ((((I 1) 0) - 1) - (day % ((I 1) 0))) ≤ 10 from by first | assumption | omega)) (by decide) ⟨Nat.le_of_ble_eq_true rfl, Nat.le_of_ble_eq_true rfl⟩ rfl (Nat.le_of_ble_eq_true rfl) rfl (fun vo wo hv => ?_)
        obtain ⟨hv1, hw1⟩ := hv
        rw [hv1, hw1]
        show WW K G 0 0 (MW A G.2.1 (au (au (au (au I 3 a3_8) 4 a4_8) 6 a6_8) 8 a8_8) (fu F 17 f17_8)) 44 [(0, .ref (A 0)), (1, .int (J c)), (2, .int (J day)), (3, .int (J first)), (4, .int (J k))] [.int (J (dg ((I 5) k) ((((I 1) 0) - 1) - (day % ((I 1) 0)))))]
        have q41_0 := dg_bd ((I 5) k) ((((I 1) 0) - 1) - (day % ((I 1) 0)))
        refine w_top (e2 := TRN (I 1) ((I 5) k) day) (by rfl) ?_
        refine w_istore (pc := 44) hC dX12_dayGoes_44 (lv2 := [(5, .int (J (TRN (I 1) ((I 5) k) day))), (0, .ref (A 0)), (1, .int (J c)), (2, .int (J day)), (3, .int (J first)), (4, .int (J k))]) (by rw [hnL]; decide) rfl ?_
        refine w_iload_n (pc := 46) hC dX12_dayGoes_46 4 rfl rfl ?_
        refine w_bipush (pc := 47) hC dX12_dayGoes_47 (z := (-7)) rfl ?_
        refine w_icmp_ne (pc := 49) (tgt := 70) hC dX12_dayGoes_49 (by decide) (by omega) (fun c49 => ?_) (fun c49 => ?_)
        · refine w_iload_n (pc := 70) hC dX12_dayGoes_70 4 rfl rfl ?_
          refine w_top (e2 := WHO (I 1) c (F 11) ((I 5) k) day first) (by unfold WHO; rw [if_neg c49]) ?_
          refine w_istore (pc := 71) hC dX12_dayGoes_71 (lv2 := [(6, .int (J (WHO (I 1) c (F 11) ((I 5) k) day first))), (5, .int (J (TRN (I 1) ((I 5) k) day))), (0, .ref (A 0)), (1, .int (J c)), (2, .int (J day)), (3, .int (J first)), (4, .int (J k))]) (by rw [hnL]; decide) rfl ?_
          refine w_iload (pc := 73) hC dX12_dayGoes_73 0 rfl ?_
          refine w_bipush (pc := 75) hC dX12_dayGoes_75 (z := (-5)) rfl ?_
          refine w_icmp_ne (pc := 77) (tgt := 84) hC dX12_dayGoes_77 (by decide) (by omega) (fun c77 => ?_) (fun c77 => ?_)
          · refine w_aload_n (pc := 84) hC dX12_dayGoes_84 2 rfl rfl ?_
            refine w_getf (pc := 85) (v := .ref (A 1)) hC dX12_dayGoes_85 fi_X12_9 0 rfl rfl ?_
            refine w_sipush (pc := 88) hC dX12_dayGoes_88 (z := 130) rfl ?_
            refine w_bipush (pc := 91) hC dX12_dayGoes_91 (z := 6) rfl ?_
            refine w_iload (pc := 93) hC dX12_dayGoes_93 1 rfl ?_
            refine w_imul (pc := 95) hC dX12_dayGoes_95 ?_
            refine w_iadd (pc := 96) hC dX12_dayGoes_96 ?_
            refine w_iload (pc := 97) hC dX12_dayGoes_97 0 rfl ?_
            refine w_iadd (pc := 99) hC dX12_dayGoes_99 ?_
            refine w_iald (pc := 100) (g := (I 1)) hC dX12_dayGoes_100 1 rfl (by omega) (Nat.le_of_ble_eq_true rfl) ?_
            refine w_top (e2 := CHW (I 1) (TRN (I 1) ((I 5) k) day) (WHO (I 1) c (F 11) ((I 5) k) day first)) (by unfold CHW; rw [if_neg c77]) ?_
            refine w_istore (pc := 101) hC dX12_dayGoes_101 (lv2 := [(7, .int (J (CHW (I 1) (TRN (I 1) ((I 5) k) day) (WHO (I 1) c (F 11) ((I 5) k) day first)))), (6, .int (J (WHO (I 1) c (F 11) ((I 5) k) day first))), (5, .int (J (TRN (I 1) ((I 5) k) day))), (0, .ref (A 0)), (1, .int (J c)), (2, .int (J day)), (3, .int (J first)), (4, .int (J k))]) (by rw [hnL]; decide) rfl ?_
            refine w_iload (pc := 103) hC dX12_dayGoes_103 0 rfl ?_
            refine w_if_le (pc := 105) (tgt := 139) hC dX12_dayGoes_105 (by decide) (by omega) (fun c105 => ?_) (fun c105 => ?_)
            · refine w_iload (pc := 139) hC dX12_dayGoes_139 0 rfl ?_
              refine w_bipush (pc := 141) hC dX12_dayGoes_141 (z := 100) rfl ?_
              refine w_icmp_ge (pc := 143) (tgt := 171) hC dX12_dayGoes_143 (by decide) (by omega) (fun c143 => ?_) (fun c143 => ?_)
              · exfalso; omega
              · have hpos2 := Int.mul_pos hw (show 0 < 100 - CHW (I 1) (TRN (I 1) ((I 5) k) day) (WHO (I 1) c (F 11) ((I 5) k) day first) by omega)
                refine w_aload_n (pc := 146) hC dX12_dayGoes_146 3 rfl rfl ?_
                refine w_aload_n (pc := 147) hC dX12_dayGoes_147 3 rfl rfl ?_
                refine w_getf (pc := 148) (v := .ref (A 5)) hC dX12_dayGoes_148 fi_X12_29 0 rfl rfl ?_
                refine w_iload (pc := 151) hC dX12_dayGoes_151 7 rfl ?_
                refine w_iald (pc := 153) (g := (I 5)) hC dX12_dayGoes_153 5 rfl (by omega) (Nat.le_of_ble_eq_true rfl) ?_
                refine w_aload_n (pc := 154) hC dX12_dayGoes_154 3 rfl rfl ?_
                refine w_getf (pc := 155) (v := .ref (A 7)) hC dX12_dayGoes_155 fi_X12_35 0 rfl rfl ?_
                refine w_iload (pc := 158) hC dX12_dayGoes_158 7 rfl ?_
                refine w_lald (pc := 160) (g := (I 7)) hC dX12_dayGoes_160 7 rfl (by omega) (Nat.le_of_ble_eq_true rfl) ?_
                refine w_bipush (pc := 161) hC dX12_dayGoes_161 (z := 100) rfl ?_
                refine w_iload (pc := 163) hC dX12_dayGoes_163 0 rfl ?_
                refine w_isub (pc := 165) hC dX12_dayGoes_165 ?_
                refine w_i2l (pc := 166) hC dX12_dayGoes_166 (by omega) ?_
                refine w_lmul (pc := 167) hC dX12_dayGoes_167 ?_
                refine w_callV (pc := 168) (As := [.int (J ((I 5) k)), .long (JL (((I 7) k) * (100 - (CHW (I 1) (TRN (I 1) ((I 5) k) day) (WHO (I 1) c (F 11) ((I 5) k) day first)))))]) (rest := []) hC dX12_dayGoes_168 cv_X12_181 (c_X12_gathers (kl K) G A (au (au (au (au I 3 a3_8) 4 a4_8) 6 a6_8) 8 a8_8) (fu F 17 f17_8) ((I 5) k) (((I 7) k) * (100 - (CHW (I 1) (TRN (I 1) ((I 5) k) day) (WHO (I 1) c (F 11) ((I 5) k) day first)))) (show LK a6_8 a8_8 f17_8 from by first | assumption | omega) (show f17_8 < 64 from by first | assumption | omega) (show -2147483648 ≤ ((I 5) k) ∧ ((I 5) k) < 2147483648 from by first | assumption | omega) (show 0 < (((I 7) k) * (100 - (CHW (I 1) (TRN (I 1) ((I 5) k) day) (WHO (I 1) c (F 11) ((I 5) k) day first)))) ∧ (((I 7) k) * (100 - (CHW (I 1) (TRN (I 1) ((I 5) k) day) (WHO (I 1) c (F 11) ((I 5) k) day first)))) ≤ 1000000000000000 from by first | assumption | omega) (show ∀ k : Int, 0 ≤ k → k < f17_8 → -2147483648 ≤ a6_8 k ∧ a6_8 k < 2147483648 from by first | assumption | omega) (show isum one1 a6_8 a8_8 f17_8.toNat ≤ 1000000000000000 from by first | assumption | omega)) (by decide) ⟨Nat.le_of_ble_eq_true rfl, Nat.le_of_ble_eq_true rfl⟩ (q0 := 0) rfl rfl rfl rfl (Nat.le_of_ble_eq_true rfl) rfl (fun vo wo hv => ?_)
                obtain ⟨b6_168, b8_168, g17_168, hv1, hw1, r168⟩ := hv
                rw [hv1, hw1]
                show WW K G 0 0 (MW A G.2.1 (au (au (au (au I 3 a3_8) 4 a4_8) 6 b6_168) 8 b8_168) (fu F 17 g17_168)) 171 [(7, .int (J (CHW (I 1) (TRN (I 1) ((I 5) k) day) (WHO (I 1) c (F 11) ((I 5) k) day first)))), (6, .int (J (WHO (I 1) c (F 11) ((I 5) k) day first))), (5, .int (J (TRN (I 1) ((I 5) k) day))), (0, .ref (A 0)), (1, .int (J c)), (2, .int (J day)), (3, .int (J first)), (4, .int (J k))] []
                have r168 : (∀ f : Int → Int, isum f b6_168 b8_168 (g17_168).toNat = isum f a6_8 a8_8 f17_8.toNat + f ((I 5) k) * (((I 7) k) * (100 - (CHW (I 1) (TRN (I 1) ((I 5) k) day) (WHO (I 1) c (F 11) ((I 5) k) day first))))) ∧ LK b6_168 b8_168 g17_168 ∧ (f17_8 ≤ g17_168 ∧ g17_168 ≤ f17_8 + 1) ∧ ∀ P : Int → Prop, (∀ k : Int, 0 ≤ k → k < f17_8 → P (a6_8 k)) → P ((I 5) k) → ∀ k : Int, 0 ≤ k → k < g17_168 → P (b6_168 k) := r168
                refine w_iinc (pc := 171) hC dX12_dayGoes_171 (lv2 := [(4, .int (J (k + 1))), (7, .int (J (CHW (I 1) (TRN (I 1) ((I 5) k) day) (WHO (I 1) c (F 11) ((I 5) k) day first)))), (6, .int (J (WHO (I 1) c (F 11) ((I 5) k) day first))), (5, .int (J (TRN (I 1) ((I 5) k) day))), (0, .ref (A 0)), (1, .int (J c)), (2, .int (J day)), (3, .int (J first))]) 7 rfl (by rw [hnL]; decide) rfl ?_
                refine w_goto (pc := 174) hC dX12_dayGoes_174 (tgt := 8) (by decide) ?_
                refine w_sub [4, 5, 6, 7, 0] (lv2 := [(0, .ref (A 0)), (1, .int (J c)), (2, .int (J day)), (3, .int (J first)), (4, .int (J (k + 1)))]) rfl ?_
                refine ih8 (k + 1) a3_8 a4_8 b6_168 b8_168 g17_168 ?_ ?_ ?_ ?_ ?_
                · first | assumption | omega
                · intro f
                  rw [isum_s _ _ _ i1.1, ← i2 f]
                  rw [r168.1]; congr 1; unfold STEP; rw [if_neg (by omega), if_pos c143, Int.zero_add]; ac_rfl
                · exact ⟨r168.2.1, by omega⟩
                · exact r168.2.2.2 (fun x => VB (I 1 0) x) i4 hVk
                · omega
            · have hwonr := VB_rng (VB_WON (c := c) hVk htrn.1 (show 0 ≤ WHO (I 1) c (F 11) ((I 5) k) day first ∧ WHO (I 1) c (F 11) ((I 5) k) day first < I 1 0 by omega) (by omega))
              have hpos := Int.mul_pos hw c105
              refine w_aload_n (pc := 108) hC dX12_dayGoes_108 3 rfl rfl ?_
              refine w_aload_n (pc := 109) hC dX12_dayGoes_109 3 rfl rfl ?_
              refine w_iload_n (pc := 110) hC dX12_dayGoes_110 4 rfl rfl ?_
              refine w_aload_n (pc := 111) hC dX12_dayGoes_111 3 rfl rfl ?_
              refine w_getf (pc := 112) (v := .ref (A 5)) hC dX12_dayGoes_112 fi_X12_29 0 rfl rfl ?_
              refine w_iload (pc := 115) hC dX12_dayGoes_115 7 rfl ?_
              refine w_iald (pc := 117) (g := (I 5)) hC dX12_dayGoes_117 5 rfl (by omega) (Nat.le_of_ble_eq_true rfl) ?_
              refine w_iload (pc := 118) hC dX12_dayGoes_118 2 rfl ?_
              refine w_iload (pc := 120) hC dX12_dayGoes_120 1 rfl ?_
              refine w_callV (pc := 122) (As := [.int (J c), .int (J ((I 5) k)), .int (J (TRN (I 1) ((I 5) k) day)), .int (J (WHO (I 1) c (F 11) ((I 5) k) day first))]) (rest := [.ref (A 0)]) hC dX12_dayGoes_122 cv_X12_172 (c_X12_won (kl K) G A (au (au (au (au I 3 a3_8) 4 a4_8) 6 a6_8) 8 a8_8) (fu F 17 f17_8) c ((I 5) k) (TRN (I 1) ((I 5) k) day) (WHO (I 1) c (F 11) ((I 5) k) day first) (show RI (I 1) from by first | assumption | omega) (show 0 ≤ c ∧ c < (I 1) 1 from by first | assumption | omega) (show VB ((I 1) 0) ((I 5) k) from by first | assumption | omega) (show 0 ≤ (TRN (I 1) ((I 5) k) day) ∧ (TRN (I 1) ((I 5) k) day) < (I 1) 0 from by first | assumption | omega) (show 0 ≤ (WHO (I 1) c (F 11) ((I 5) k) day first) ∧ (WHO (I 1) c (F 11) ((I 5) k) day first) < (I 1) 0 from by first | assumption | omega) (show rk ((I 1) 0) ((I 5) k) (WHO (I 1) c (F 11) ((I 5) k) day first) < rk ((I 1) 0) ((I 5) k) (TRN (I 1) ((I 5) k) day) from by first | assumption | omega)) (by decide) ⟨Nat.le_of_ble_eq_true rfl, Nat.le_of_ble_eq_true rfl⟩ (q0 := 0) rfl rfl rfl rfl (Nat.le_of_ble_eq_true rfl) rfl (fun vo wo hv => ?_)
              obtain ⟨hv1, hw1⟩ := hv
              rw [hv1, hw1]
              show WW K G 0 0 (MW A G.2.1 (au (au (au (au I 3 a3_8) 4 a4_8) 6 a6_8) 8 a8_8) (fu F 17 f17_8)) 125 [(7, .int (J (CHW (I 1) (TRN (I 1) ((I 5) k) day) (WHO (I 1) c (F 11) ((I 5) k) day first)))), (6, .int (J (WHO (I 1) c (F 11) ((I 5) k) day first))), (5, .int (J (TRN (I 1) ((I 5) k) day))), (0, .ref (A 0)), (1, .int (J c)), (2, .int (J day)), (3, .int (J first)), (4, .int (J k))] [.int (J (WON (I 1) c ((I 5) k) (TRN (I 1) ((I 5) k) day) (WHO (I 1) c (F 11) ((I 5) k) day first))), .ref (A 0)]
              have q122_0 := @VB_WON (I 1) c ((I 5) k) (TRN (I 1) ((I 5) k) day) (WHO (I 1) c (F 11) ((I 5) k) day first) (by assumption) (by omega) (by omega) (by omega)
              refine w_aload_n (pc := 125) hC dX12_dayGoes_125 3 rfl rfl ?_
              refine w_getf (pc := 126) (v := .ref (A 7)) hC dX12_dayGoes_126 fi_X12_35 0 rfl rfl ?_
              refine w_iload (pc := 129) hC dX12_dayGoes_129 7 rfl ?_
              refine w_lald (pc := 131) (g := (I 7)) hC dX12_dayGoes_131 7 rfl (by omega) (Nat.le_of_ble_eq_true rfl) ?_
              refine w_iload (pc := 132) hC dX12_dayGoes_132 0 rfl ?_
              refine w_i2l (pc := 134) hC dX12_dayGoes_134 (by omega) ?_
              refine w_lmul (pc := 135) hC dX12_dayGoes_135 ?_
              refine w_callV (pc := 136) (As := [.int (J (WON (I 1) c ((I 5) k) (TRN (I 1) ((I 5) k) day) (WHO (I 1) c (F 11) ((I 5) k) day first))), .long (JL (((I 7) k) * (CHW (I 1) (TRN (I 1) ((I 5) k) day) (WHO (I 1) c (F 11) ((I 5) k) day first))))]) (rest := []) hC dX12_dayGoes_136 cv_X12_181 (c_X12_gathers (kl K) G A (au (au (au (au I 3 a3_8) 4 a4_8) 6 a6_8) 8 a8_8) (fu F 17 f17_8) (WON (I 1) c ((I 5) k) (TRN (I 1) ((I 5) k) day) (WHO (I 1) c (F 11) ((I 5) k) day first)) (((I 7) k) * (CHW (I 1) (TRN (I 1) ((I 5) k) day) (WHO (I 1) c (F 11) ((I 5) k) day first))) (show LK a6_8 a8_8 f17_8 from by first | assumption | omega) (show f17_8 < 64 from by first | assumption | omega) (show -2147483648 ≤ (WON (I 1) c ((I 5) k) (TRN (I 1) ((I 5) k) day) (WHO (I 1) c (F 11) ((I 5) k) day first)) ∧ (WON (I 1) c ((I 5) k) (TRN (I 1) ((I 5) k) day) (WHO (I 1) c (F 11) ((I 5) k) day first)) < 2147483648 from by first | assumption | omega) (show 0 < (((I 7) k) * (CHW (I 1) (TRN (I 1) ((I 5) k) day) (WHO (I 1) c (F 11) ((I 5) k) day first))) ∧ (((I 7) k) * (CHW (I 1) (TRN (I 1) ((I 5) k) day) (WHO (I 1) c (F 11) ((I 5) k) day first))) ≤ 1000000000000000 from by first | assumption | omega) (show ∀ k : Int, 0 ≤ k → k < f17_8 → -2147483648 ≤ a6_8 k ∧ a6_8 k < 2147483648 from by first | assumption | omega) (show isum one1 a6_8 a8_8 f17_8.toNat ≤ 1000000000000000 from by first | assumption | omega)) (by decide) ⟨Nat.le_of_ble_eq_true rfl, Nat.le_of_ble_eq_true rfl⟩ (q0 := 0) rfl rfl rfl rfl (Nat.le_of_ble_eq_true rfl) rfl (fun vo wo hv => ?_)
              obtain ⟨b6_136, b8_136, g17_136, hv1, hw1, r136⟩ := hv
              rw [hv1, hw1]
              show WW K G 0 0 (MW A G.2.1 (au (au (au (au I 3 a3_8) 4 a4_8) 6 b6_136) 8 b8_136) (fu F 17 g17_136)) 139 [(7, .int (J (CHW (I 1) (TRN (I 1) ((I 5) k) day) (WHO (I 1) c (F 11) ((I 5) k) day first)))), (6, .int (J (WHO (I 1) c (F 11) ((I 5) k) day first))), (5, .int (J (TRN (I 1) ((I 5) k) day))), (0, .ref (A 0)), (1, .int (J c)), (2, .int (J day)), (3, .int (J first)), (4, .int (J k))] []
              have r136 : (∀ f : Int → Int, isum f b6_136 b8_136 (g17_136).toNat = isum f a6_8 a8_8 f17_8.toNat + f (WON (I 1) c ((I 5) k) (TRN (I 1) ((I 5) k) day) (WHO (I 1) c (F 11) ((I 5) k) day first)) * (((I 7) k) * (CHW (I 1) (TRN (I 1) ((I 5) k) day) (WHO (I 1) c (F 11) ((I 5) k) day first)))) ∧ LK b6_136 b8_136 g17_136 ∧ (f17_8 ≤ g17_136 ∧ g17_136 ≤ f17_8 + 1) ∧ ∀ P : Int → Prop, (∀ k : Int, 0 ≤ k → k < f17_8 → P (a6_8 k)) → P (WON (I 1) c ((I 5) k) (TRN (I 1) ((I 5) k) day) (WHO (I 1) c (F 11) ((I 5) k) day first)) → ∀ k : Int, 0 ≤ k → k < g17_136 → P (b6_136 k) := r136
              have t136 : isum one1 b6_136 b8_136 g17_136.toNat = isum one1 a6_8 a8_8 f17_8.toNat + (I 7) k * CHW (I 1) (TRN (I 1) ((I 5) k) day) (WHO (I 1) c (F 11) ((I 5) k) day first) := by rw [r136.1]; show _ + 1 * _ = _; rw [Int.one_mul]
              have hlk2 := r136.2.1
              have v136 := r136.2.2.2 (fun x => VB (I 1 0) x) i4 (VB_WON hVk htrn.1 (by omega) (by omega))
              have hi4b : ∀ j : Int, 0 ≤ j → j < g17_136 → -2147483648 ≤ b6_136 j ∧ b6_136 j < 2147483648 := fun j g1 g2 => by have := VB_rng (v136 j g1 g2); omega
              refine w_iload (pc := 139) hC dX12_dayGoes_139 0 rfl ?_
              refine w_bipush (pc := 141) hC dX12_dayGoes_141 (z := 100) rfl ?_
              refine w_icmp_ge (pc := 143) (tgt := 171) hC dX12_dayGoes_143 (by decide) (by omega) (fun c143 => ?_) (fun c143 => ?_)
              · refine w_iinc (pc := 171) hC dX12_dayGoes_171 (lv2 := [(4, .int (J (k + 1))), (7, .int (J (CHW (I 1) (TRN (I 1) ((I 5) k) day) (WHO (I 1) c (F 11) ((I 5) k) day first)))), (6, .int (J (WHO (I 1) c (F 11) ((I 5) k) day first))), (5, .int (J (TRN (I 1) ((I 5) k) day))), (0, .ref (A 0)), (1, .int (J c)), (2, .int (J day)), (3, .int (J first))]) 7 rfl (by rw [hnL]; decide) rfl ?_
                refine w_goto (pc := 174) hC dX12_dayGoes_174 (tgt := 8) (by decide) ?_
                refine w_sub [4, 5, 6, 7, 0] (lv2 := [(0, .ref (A 0)), (1, .int (J c)), (2, .int (J day)), (3, .int (J first)), (4, .int (J (k + 1)))]) rfl ?_
                refine ih8 (k + 1) a3_8 a4_8 b6_136 b8_136 g17_136 ?_ ?_ ?_ ?_ ?_
                · first | assumption | omega
                · intro f
                  rw [isum_s _ _ _ i1.1, ← i2 f]
                  rw [r136.1]; congr 1; unfold STEP; rw [if_pos c105, if_neg (by omega), Int.add_zero]; ac_rfl
                · exact ⟨r136.2.1, by omega⟩
                · exact v136
                · omega
              · have hpos2 := Int.mul_pos hw (show 0 < 100 - CHW (I 1) (TRN (I 1) ((I 5) k) day) (WHO (I 1) c (F 11) ((I 5) k) day first) by omega)
                refine w_aload_n (pc := 146) hC dX12_dayGoes_146 3 rfl rfl ?_
                refine w_aload_n (pc := 147) hC dX12_dayGoes_147 3 rfl rfl ?_
                refine w_getf (pc := 148) (v := .ref (A 5)) hC dX12_dayGoes_148 fi_X12_29 0 rfl rfl ?_
                refine w_iload (pc := 151) hC dX12_dayGoes_151 7 rfl ?_
                refine w_iald (pc := 153) (g := (I 5)) hC dX12_dayGoes_153 5 rfl (by omega) (Nat.le_of_ble_eq_true rfl) ?_
                refine w_aload_n (pc := 154) hC dX12_dayGoes_154 3 rfl rfl ?_
                refine w_getf (pc := 155) (v := .ref (A 7)) hC dX12_dayGoes_155 fi_X12_35 0 rfl rfl ?_
                refine w_iload (pc := 158) hC dX12_dayGoes_158 7 rfl ?_
                refine w_lald (pc := 160) (g := (I 7)) hC dX12_dayGoes_160 7 rfl (by omega) (Nat.le_of_ble_eq_true rfl) ?_
                refine w_bipush (pc := 161) hC dX12_dayGoes_161 (z := 100) rfl ?_
                refine w_iload (pc := 163) hC dX12_dayGoes_163 0 rfl ?_
                refine w_isub (pc := 165) hC dX12_dayGoes_165 ?_
                refine w_i2l (pc := 166) hC dX12_dayGoes_166 (by omega) ?_
                refine w_lmul (pc := 167) hC dX12_dayGoes_167 ?_
                refine w_callV (pc := 168) (As := [.int (J ((I 5) k)), .long (JL (((I 7) k) * (100 - (CHW (I 1) (TRN (I 1) ((I 5) k) day) (WHO (I 1) c (F 11) ((I 5) k) day first)))))]) (rest := []) hC dX12_dayGoes_168 cv_X12_181 (c_X12_gathers (kl K) G A (au (au (au (au I 3 a3_8) 4 a4_8) 6 b6_136) 8 b8_136) (fu F 17 g17_136) ((I 5) k) (((I 7) k) * (100 - (CHW (I 1) (TRN (I 1) ((I 5) k) day) (WHO (I 1) c (F 11) ((I 5) k) day first)))) (show LK b6_136 b8_136 g17_136 from by first | assumption | omega) (show g17_136 < 64 from by first | assumption | omega) (show -2147483648 ≤ ((I 5) k) ∧ ((I 5) k) < 2147483648 from by first | assumption | omega) (show 0 < (((I 7) k) * (100 - (CHW (I 1) (TRN (I 1) ((I 5) k) day) (WHO (I 1) c (F 11) ((I 5) k) day first)))) ∧ (((I 7) k) * (100 - (CHW (I 1) (TRN (I 1) ((I 5) k) day) (WHO (I 1) c (F 11) ((I 5) k) day first)))) ≤ 1000000000000000 from by first | assumption | omega) (show ∀ k : Int, 0 ≤ k → k < g17_136 → -2147483648 ≤ b6_136 k ∧ b6_136 k < 2147483648 from by first | assumption | omega) (show isum one1 b6_136 b8_136 g17_136.toNat ≤ 1000000000000000 from by first | assumption | omega)) (by decide) ⟨Nat.le_of_ble_eq_true rfl, Nat.le_of_ble_eq_true rfl⟩ (q0 := 0) rfl rfl rfl rfl (Nat.le_of_ble_eq_true rfl) rfl (fun vo wo hv => ?_)
                obtain ⟨b6_168, b8_168, g17_168, hv1, hw1, r168⟩ := hv
                rw [hv1, hw1]
                show WW K G 0 0 (MW A G.2.1 (au (au (au (au I 3 a3_8) 4 a4_8) 6 b6_168) 8 b8_168) (fu F 17 g17_168)) 171 [(7, .int (J (CHW (I 1) (TRN (I 1) ((I 5) k) day) (WHO (I 1) c (F 11) ((I 5) k) day first)))), (6, .int (J (WHO (I 1) c (F 11) ((I 5) k) day first))), (5, .int (J (TRN (I 1) ((I 5) k) day))), (0, .ref (A 0)), (1, .int (J c)), (2, .int (J day)), (3, .int (J first)), (4, .int (J k))] []
                have r168 : (∀ f : Int → Int, isum f b6_168 b8_168 (g17_168).toNat = isum f b6_136 b8_136 g17_136.toNat + f ((I 5) k) * (((I 7) k) * (100 - (CHW (I 1) (TRN (I 1) ((I 5) k) day) (WHO (I 1) c (F 11) ((I 5) k) day first))))) ∧ LK b6_168 b8_168 g17_168 ∧ (g17_136 ≤ g17_168 ∧ g17_168 ≤ g17_136 + 1) ∧ ∀ P : Int → Prop, (∀ k : Int, 0 ≤ k → k < g17_136 → P (b6_136 k)) → P ((I 5) k) → ∀ k : Int, 0 ≤ k → k < g17_168 → P (b6_168 k) := r168
                refine w_iinc (pc := 171) hC dX12_dayGoes_171 (lv2 := [(4, .int (J (k + 1))), (7, .int (J (CHW (I 1) (TRN (I 1) ((I 5) k) day) (WHO (I 1) c (F 11) ((I 5) k) day first)))), (6, .int (J (WHO (I 1) c (F 11) ((I 5) k) day first))), (5, .int (J (TRN (I 1) ((I 5) k) day))), (0, .ref (A 0)), (1, .int (J c)), (2, .int (J day)), (3, .int (J first))]) 7 rfl (by rw [hnL]; decide) rfl ?_
                refine w_goto (pc := 174) hC dX12_dayGoes_174 (tgt := 8) (by decide) ?_
                refine w_sub [4, 5, 6, 7, 0] (lv2 := [(0, .ref (A 0)), (1, .int (J c)), (2, .int (J day)), (3, .int (J first)), (4, .int (J (k + 1)))]) rfl ?_
                refine ih8 (k + 1) a3_8 a4_8 b6_168 b8_168 g17_168 ?_ ?_ ?_ ?_ ?_
                · first | assumption | omega
                · intro f
                  rw [isum_s _ _ _ i1.1, ← i2 f]
                  rw [r168.1, r136.1, Int.add_assoc, st2]; congr 1; congr 1; unfold STEP; rw [if_pos c105, if_pos c143]
                · exact ⟨r168.2.1, by omega⟩
                · exact r168.2.2.2 (fun x => VB (I 1 0) x) v136 hVk
                · omega
          · refine w_iconst (pc := 80) hC dX12_dayGoes_80 ?_
            refine w_top (e2 := CHW (I 1) (TRN (I 1) ((I 5) k) day) (WHO (I 1) c (F 11) ((I 5) k) day first)) (by unfold CHW; rw [if_pos c77]) ?_
            refine w_goto (pc := 81) hC dX12_dayGoes_81 (tgt := 101) (by decide) ?_
            refine w_istore (pc := 101) hC dX12_dayGoes_101 (lv2 := [(7, .int (J (CHW (I 1) (TRN (I 1) ((I 5) k) day) (WHO (I 1) c (F 11) ((I 5) k) day first)))), (6, .int (J (WHO (I 1) c (F 11) ((I 5) k) day first))), (5, .int (J (TRN (I 1) ((I 5) k) day))), (0, .ref (A 0)), (1, .int (J c)), (2, .int (J day)), (3, .int (J first)), (4, .int (J k))]) (by rw [hnL]; decide) rfl ?_
            refine w_iload (pc := 103) hC dX12_dayGoes_103 0 rfl ?_
            refine w_if_le (pc := 105) (tgt := 139) hC dX12_dayGoes_105 (by decide) (by omega) (fun c105 => ?_) (fun c105 => ?_)
            · refine w_iload (pc := 139) hC dX12_dayGoes_139 0 rfl ?_
              refine w_bipush (pc := 141) hC dX12_dayGoes_141 (z := 100) rfl ?_
              refine w_icmp_ge (pc := 143) (tgt := 171) hC dX12_dayGoes_143 (by decide) (by omega) (fun c143 => ?_) (fun c143 => ?_)
              · exfalso; omega
              · have hpos2 := Int.mul_pos hw (show 0 < 100 - CHW (I 1) (TRN (I 1) ((I 5) k) day) (WHO (I 1) c (F 11) ((I 5) k) day first) by omega)
                refine w_aload_n (pc := 146) hC dX12_dayGoes_146 3 rfl rfl ?_
                refine w_aload_n (pc := 147) hC dX12_dayGoes_147 3 rfl rfl ?_
                refine w_getf (pc := 148) (v := .ref (A 5)) hC dX12_dayGoes_148 fi_X12_29 0 rfl rfl ?_
                refine w_iload (pc := 151) hC dX12_dayGoes_151 7 rfl ?_
                refine w_iald (pc := 153) (g := (I 5)) hC dX12_dayGoes_153 5 rfl (by omega) (Nat.le_of_ble_eq_true rfl) ?_
                refine w_aload_n (pc := 154) hC dX12_dayGoes_154 3 rfl rfl ?_
                refine w_getf (pc := 155) (v := .ref (A 7)) hC dX12_dayGoes_155 fi_X12_35 0 rfl rfl ?_
                refine w_iload (pc := 158) hC dX12_dayGoes_158 7 rfl ?_
                refine w_lald (pc := 160) (g := (I 7)) hC dX12_dayGoes_160 7 rfl (by omega) (Nat.le_of_ble_eq_true rfl) ?_
                refine w_bipush (pc := 161) hC dX12_dayGoes_161 (z := 100) rfl ?_
                refine w_iload (pc := 163) hC dX12_dayGoes_163 0 rfl ?_
                refine w_isub (pc := 165) hC dX12_dayGoes_165 ?_
                refine w_i2l (pc := 166) hC dX12_dayGoes_166 (by omega) ?_
                refine w_lmul (pc := 167) hC dX12_dayGoes_167 ?_
                refine w_callV (pc := 168) (As := [.int (J ((I 5) k)), .long (JL (((I 7) k) * (100 - (CHW (I 1) (TRN (I 1) ((I 5) k) day) (WHO (I 1) c (F 11) ((I 5) k) day first)))))]) (rest := []) hC dX12_dayGoes_168 cv_X12_181 (c_X12_gathers (kl K) G A (au (au (au (au I 3 a3_8) 4 a4_8) 6 a6_8) 8 a8_8) (fu F 17 f17_8) ((I 5) k) (((I 7) k) * (100 - (CHW (I 1) (TRN (I 1) ((I 5) k) day) (WHO (I 1) c (F 11) ((I 5) k) day first)))) (show LK a6_8 a8_8 f17_8 from by first | assumption | omega) (show f17_8 < 64 from by first | assumption | omega) (show -2147483648 ≤ ((I 5) k) ∧ ((I 5) k) < 2147483648 from by first | assumption | omega) (show 0 < (((I 7) k) * (100 - (CHW (I 1) (TRN (I 1) ((I 5) k) day) (WHO (I 1) c (F 11) ((I 5) k) day first)))) ∧ (((I 7) k) * (100 - (CHW (I 1) (TRN (I 1) ((I 5) k) day) (WHO (I 1) c (F 11) ((I 5) k) day first)))) ≤ 1000000000000000 from by first | assumption | omega) (show ∀ k : Int, 0 ≤ k → k < f17_8 → -2147483648 ≤ a6_8 k ∧ a6_8 k < 2147483648 from by first | assumption | omega) (show isum one1 a6_8 a8_8 f17_8.toNat ≤ 1000000000000000 from by first | assumption | omega)) (by decide) ⟨Nat.le_of_ble_eq_true rfl, Nat.le_of_ble_eq_true rfl⟩ (q0 := 0) rfl rfl rfl rfl (Nat.le_of_ble_eq_true rfl) rfl (fun vo wo hv => ?_)
                obtain ⟨b6_168, b8_168, g17_168, hv1, hw1, r168⟩ := hv
                rw [hv1, hw1]
                show WW K G 0 0 (MW A G.2.1 (au (au (au (au I 3 a3_8) 4 a4_8) 6 b6_168) 8 b8_168) (fu F 17 g17_168)) 171 [(7, .int (J (CHW (I 1) (TRN (I 1) ((I 5) k) day) (WHO (I 1) c (F 11) ((I 5) k) day first)))), (6, .int (J (WHO (I 1) c (F 11) ((I 5) k) day first))), (5, .int (J (TRN (I 1) ((I 5) k) day))), (0, .ref (A 0)), (1, .int (J c)), (2, .int (J day)), (3, .int (J first)), (4, .int (J k))] []
                have r168 : (∀ f : Int → Int, isum f b6_168 b8_168 (g17_168).toNat = isum f a6_8 a8_8 f17_8.toNat + f ((I 5) k) * (((I 7) k) * (100 - (CHW (I 1) (TRN (I 1) ((I 5) k) day) (WHO (I 1) c (F 11) ((I 5) k) day first))))) ∧ LK b6_168 b8_168 g17_168 ∧ (f17_8 ≤ g17_168 ∧ g17_168 ≤ f17_8 + 1) ∧ ∀ P : Int → Prop, (∀ k : Int, 0 ≤ k → k < f17_8 → P (a6_8 k)) → P ((I 5) k) → ∀ k : Int, 0 ≤ k → k < g17_168 → P (b6_168 k) := r168
                refine w_iinc (pc := 171) hC dX12_dayGoes_171 (lv2 := [(4, .int (J (k + 1))), (7, .int (J (CHW (I 1) (TRN (I 1) ((I 5) k) day) (WHO (I 1) c (F 11) ((I 5) k) day first)))), (6, .int (J (WHO (I 1) c (F 11) ((I 5) k) day first))), (5, .int (J (TRN (I 1) ((I 5) k) day))), (0, .ref (A 0)), (1, .int (J c)), (2, .int (J day)), (3, .int (J first))]) 7 rfl (by rw [hnL]; decide) rfl ?_
                refine w_goto (pc := 174) hC dX12_dayGoes_174 (tgt := 8) (by decide) ?_
                refine w_sub [4, 5, 6, 7, 0] (lv2 := [(0, .ref (A 0)), (1, .int (J c)), (2, .int (J day)), (3, .int (J first)), (4, .int (J (k + 1)))]) rfl ?_
                refine ih8 (k + 1) a3_8 a4_8 b6_168 b8_168 g17_168 ?_ ?_ ?_ ?_ ?_
                · first | assumption | omega
                · intro f
                  rw [isum_s _ _ _ i1.1, ← i2 f]
                  rw [r168.1]; congr 1; unfold STEP; rw [if_neg (by omega), if_pos c143, Int.zero_add]; ac_rfl
                · exact ⟨r168.2.1, by omega⟩
                · exact r168.2.2.2 (fun x => VB (I 1 0) x) i4 hVk
                · omega
            · have hch0 : CHW (I 1) (TRN (I 1) ((I 5) k) day) (WHO (I 1) c (F 11) ((I 5) k) day first) = 0 := by unfold CHW; rw [if_pos c77]
              omega
        · refine w_aload_n (pc := 52) hC dX12_dayGoes_52 1 rfl rfl ?_
          refine w_iload_n (pc := 53) hC dX12_dayGoes_53 2 rfl rfl ?_
          refine w_aload_n (pc := 54) hC dX12_dayGoes_54 1 rfl rfl ?_
          refine w_getf (pc := 55) (v := .ref (A 5)) hC dX12_dayGoes_55 fi_X12_29 0 rfl rfl ?_
          refine w_iload (pc := 58) hC dX12_dayGoes_58 5 rfl ?_
          refine w_iald (pc := 60) (g := (I 5)) hC dX12_dayGoes_60 5 rfl (by omega) (Nat.le_of_ble_eq_true rfl) ?_
          refine w_iload (pc := 61) hC dX12_dayGoes_61 0 rfl ?_
          refine w_iload_n (pc := 63) hC dX12_dayGoes_63 3 rfl rfl ?_
          refine w_callV (pc := 64) (As := [.int (J c), .int (J ((I 5) k)), .int (J (TRN (I 1) ((I 5) k) day)), .int (J day)]) (rest := []) hC dX12_dayGoes_64 cv_X12_169 (c_X12_asked (kl K) G A (au (au (au (au I 3 a3_8) 4 a4_8) 6 a6_8) 8 a8_8) (fu F 17 f17_8) c ((I 5) k) (TRN (I 1) ((I 5) k) day) day (show RI (I 1) from by first | assumption | omega) (show 0 ≤ c ∧ c < (I 1) 1 from by first | assumption | omega) (show VB ((I 1) 0) ((I 5) k) from by first | assumption | omega) (show 0 ≤ (TRN (I 1) ((I 5) k) day) ∧ (TRN (I 1) ((I 5) k) day) < (I 1) 0 from by first | assumption | omega) (show 0 ≤ day ∧ day ≤ 2000 from by first | assumption | omega) (show -1 ≤ (F 11) ∧ (F 11) ≤ 5 from by first | assumption | omega)) (by decide) ⟨Nat.le_of_ble_eq_true rfl, Nat.le_of_ble_eq_true rfl⟩ (q0 := 0) rfl rfl rfl rfl (Nat.le_of_ble_eq_true rfl) rfl (fun vo wo hv => ?_)
          obtain ⟨b3_64, b4_64, hv1, hw1⟩ := hv
          rw [hv1, hw1]
          show WW K G 0 0 (MW A G.2.1 (au (au (au (au I 3 b3_64) 4 b4_64) 6 a6_8) 8 a8_8) (fu F 17 f17_8)) 67 [(5, .int (J (TRN (I 1) ((I 5) k) day))), (0, .ref (A 0)), (1, .int (J c)), (2, .int (J day)), (3, .int (J first)), (4, .int (J k))] [.int (J (ASK (I 1) c (F 11) ((I 5) k) (TRN (I 1) ((I 5) k) day) day))]
          have q64_0 := @ASK_in (I 1) c (F 11) ((I 5) k) (TRN (I 1) ((I 5) k) day) day (by assumption) (by omega)
          refine w_top (e2 := WHO (I 1) c (F 11) ((I 5) k) day first) (by unfold WHO; rw [if_pos c49]) ?_
          refine w_goto (pc := 67) hC dX12_dayGoes_67 (tgt := 71) (by decide) ?_
          refine w_istore (pc := 71) hC dX12_dayGoes_71 (lv2 := [(6, .int (J (WHO (I 1) c (F 11) ((I 5) k) day first))), (5, .int (J (TRN (I 1) ((I 5) k) day))), (0, .ref (A 0)), (1, .int (J c)), (2, .int (J day)), (3, .int (J first)), (4, .int (J k))]) (by rw [hnL]; decide) rfl ?_
          refine w_iload (pc := 73) hC dX12_dayGoes_73 0 rfl ?_
          refine w_bipush (pc := 75) hC dX12_dayGoes_75 (z := (-5)) rfl ?_
          refine w_icmp_ne (pc := 77) (tgt := 84) hC dX12_dayGoes_77 (by decide) (by omega) (fun c77 => ?_) (fun c77 => ?_)
          · refine w_aload_n (pc := 84) hC dX12_dayGoes_84 2 rfl rfl ?_
            refine w_getf (pc := 85) (v := .ref (A 1)) hC dX12_dayGoes_85 fi_X12_9 0 rfl rfl ?_
            refine w_sipush (pc := 88) hC dX12_dayGoes_88 (z := 130) rfl ?_
            refine w_bipush (pc := 91) hC dX12_dayGoes_91 (z := 6) rfl ?_
            refine w_iload (pc := 93) hC dX12_dayGoes_93 1 rfl ?_
            refine w_imul (pc := 95) hC dX12_dayGoes_95 ?_
            refine w_iadd (pc := 96) hC dX12_dayGoes_96 ?_
            refine w_iload (pc := 97) hC dX12_dayGoes_97 0 rfl ?_
            refine w_iadd (pc := 99) hC dX12_dayGoes_99 ?_
            refine w_iald (pc := 100) (g := (I 1)) hC dX12_dayGoes_100 1 rfl (by omega) (Nat.le_of_ble_eq_true rfl) ?_
            refine w_top (e2 := CHW (I 1) (TRN (I 1) ((I 5) k) day) (WHO (I 1) c (F 11) ((I 5) k) day first)) (by unfold CHW; rw [if_neg c77]) ?_
            refine w_istore (pc := 101) hC dX12_dayGoes_101 (lv2 := [(7, .int (J (CHW (I 1) (TRN (I 1) ((I 5) k) day) (WHO (I 1) c (F 11) ((I 5) k) day first)))), (6, .int (J (WHO (I 1) c (F 11) ((I 5) k) day first))), (5, .int (J (TRN (I 1) ((I 5) k) day))), (0, .ref (A 0)), (1, .int (J c)), (2, .int (J day)), (3, .int (J first)), (4, .int (J k))]) (by rw [hnL]; decide) rfl ?_
            refine w_iload (pc := 103) hC dX12_dayGoes_103 0 rfl ?_
            refine w_if_le (pc := 105) (tgt := 139) hC dX12_dayGoes_105 (by decide) (by omega) (fun c105 => ?_) (fun c105 => ?_)
            · refine w_iload (pc := 139) hC dX12_dayGoes_139 0 rfl ?_
              refine w_bipush (pc := 141) hC dX12_dayGoes_141 (z := 100) rfl ?_
              refine w_icmp_ge (pc := 143) (tgt := 171) hC dX12_dayGoes_143 (by decide) (by omega) (fun c143 => ?_) (fun c143 => ?_)
              · exfalso; omega
              · have hpos2 := Int.mul_pos hw (show 0 < 100 - CHW (I 1) (TRN (I 1) ((I 5) k) day) (WHO (I 1) c (F 11) ((I 5) k) day first) by omega)
                refine w_aload_n (pc := 146) hC dX12_dayGoes_146 3 rfl rfl ?_
                refine w_aload_n (pc := 147) hC dX12_dayGoes_147 3 rfl rfl ?_
                refine w_getf (pc := 148) (v := .ref (A 5)) hC dX12_dayGoes_148 fi_X12_29 0 rfl rfl ?_
                refine w_iload (pc := 151) hC dX12_dayGoes_151 7 rfl ?_
                refine w_iald (pc := 153) (g := (I 5)) hC dX12_dayGoes_153 5 rfl (by omega) (Nat.le_of_ble_eq_true rfl) ?_
                refine w_aload_n (pc := 154) hC dX12_dayGoes_154 3 rfl rfl ?_
                refine w_getf (pc := 155) (v := .ref (A 7)) hC dX12_dayGoes_155 fi_X12_35 0 rfl rfl ?_
                refine w_iload (pc := 158) hC dX12_dayGoes_158 7 rfl ?_
                refine w_lald (pc := 160) (g := (I 7)) hC dX12_dayGoes_160 7 rfl (by omega) (Nat.le_of_ble_eq_true rfl) ?_
                refine w_bipush (pc := 161) hC dX12_dayGoes_161 (z := 100) rfl ?_
                refine w_iload (pc := 163) hC dX12_dayGoes_163 0 rfl ?_
                refine w_isub (pc := 165) hC dX12_dayGoes_165 ?_
                refine w_i2l (pc := 166) hC dX12_dayGoes_166 (by omega) ?_
                refine w_lmul (pc := 167) hC dX12_dayGoes_167 ?_
                refine w_callV (pc := 168) (As := [.int (J ((I 5) k)), .long (JL (((I 7) k) * (100 - (CHW (I 1) (TRN (I 1) ((I 5) k) day) (WHO (I 1) c (F 11) ((I 5) k) day first)))))]) (rest := []) hC dX12_dayGoes_168 cv_X12_181 (c_X12_gathers (kl K) G A (au (au (au (au I 3 b3_64) 4 b4_64) 6 a6_8) 8 a8_8) (fu F 17 f17_8) ((I 5) k) (((I 7) k) * (100 - (CHW (I 1) (TRN (I 1) ((I 5) k) day) (WHO (I 1) c (F 11) ((I 5) k) day first)))) (show LK a6_8 a8_8 f17_8 from by first | assumption | omega) (show f17_8 < 64 from by first | assumption | omega) (show -2147483648 ≤ ((I 5) k) ∧ ((I 5) k) < 2147483648 from by first | assumption | omega) (show 0 < (((I 7) k) * (100 - (CHW (I 1) (TRN (I 1) ((I 5) k) day) (WHO (I 1) c (F 11) ((I 5) k) day first)))) ∧ (((I 7) k) * (100 - (CHW (I 1) (TRN (I 1) ((I 5) k) day) (WHO (I 1) c (F 11) ((I 5) k) day first)))) ≤ 1000000000000000 from by first | assumption | omega) (show ∀ k : Int, 0 ≤ k → k < f17_8 → -2147483648 ≤ a6_8 k ∧ a6_8 k < 2147483648 from by first | assumption | omega) (show isum one1 a6_8 a8_8 f17_8.toNat ≤ 1000000000000000 from by first | assumption | omega)) (by decide) ⟨Nat.le_of_ble_eq_true rfl, Nat.le_of_ble_eq_true rfl⟩ (q0 := 0) rfl rfl rfl rfl (Nat.le_of_ble_eq_true rfl) rfl (fun vo wo hv => ?_)
                obtain ⟨b6_168, b8_168, g17_168, hv1, hw1, r168⟩ := hv
                rw [hv1, hw1]
                show WW K G 0 0 (MW A G.2.1 (au (au (au (au I 3 b3_64) 4 b4_64) 6 b6_168) 8 b8_168) (fu F 17 g17_168)) 171 [(7, .int (J (CHW (I 1) (TRN (I 1) ((I 5) k) day) (WHO (I 1) c (F 11) ((I 5) k) day first)))), (6, .int (J (WHO (I 1) c (F 11) ((I 5) k) day first))), (5, .int (J (TRN (I 1) ((I 5) k) day))), (0, .ref (A 0)), (1, .int (J c)), (2, .int (J day)), (3, .int (J first)), (4, .int (J k))] []
                have r168 : (∀ f : Int → Int, isum f b6_168 b8_168 (g17_168).toNat = isum f a6_8 a8_8 f17_8.toNat + f ((I 5) k) * (((I 7) k) * (100 - (CHW (I 1) (TRN (I 1) ((I 5) k) day) (WHO (I 1) c (F 11) ((I 5) k) day first))))) ∧ LK b6_168 b8_168 g17_168 ∧ (f17_8 ≤ g17_168 ∧ g17_168 ≤ f17_8 + 1) ∧ ∀ P : Int → Prop, (∀ k : Int, 0 ≤ k → k < f17_8 → P (a6_8 k)) → P ((I 5) k) → ∀ k : Int, 0 ≤ k → k < g17_168 → P (b6_168 k) := r168
                refine w_iinc (pc := 171) hC dX12_dayGoes_171 (lv2 := [(4, .int (J (k + 1))), (7, .int (J (CHW (I 1) (TRN (I 1) ((I 5) k) day) (WHO (I 1) c (F 11) ((I 5) k) day first)))), (6, .int (J (WHO (I 1) c (F 11) ((I 5) k) day first))), (5, .int (J (TRN (I 1) ((I 5) k) day))), (0, .ref (A 0)), (1, .int (J c)), (2, .int (J day)), (3, .int (J first))]) 7 rfl (by rw [hnL]; decide) rfl ?_
                refine w_goto (pc := 174) hC dX12_dayGoes_174 (tgt := 8) (by decide) ?_
                refine w_sub [4, 5, 6, 7, 0] (lv2 := [(0, .ref (A 0)), (1, .int (J c)), (2, .int (J day)), (3, .int (J first)), (4, .int (J (k + 1)))]) rfl ?_
                refine ih8 (k + 1) b3_64 b4_64 b6_168 b8_168 g17_168 ?_ ?_ ?_ ?_ ?_
                · first | assumption | omega
                · intro f
                  rw [isum_s _ _ _ i1.1, ← i2 f]
                  rw [r168.1]; congr 1; unfold STEP; rw [if_neg (by omega), if_pos c143, Int.zero_add]; ac_rfl
                · exact ⟨r168.2.1, by omega⟩
                · exact r168.2.2.2 (fun x => VB (I 1 0) x) i4 hVk
                · omega
            · have hwonr := VB_rng (VB_WON (c := c) hVk htrn.1 (show 0 ≤ WHO (I 1) c (F 11) ((I 5) k) day first ∧ WHO (I 1) c (F 11) ((I 5) k) day first < I 1 0 by omega) (by omega))
              have hpos := Int.mul_pos hw c105
              refine w_aload_n (pc := 108) hC dX12_dayGoes_108 3 rfl rfl ?_
              refine w_aload_n (pc := 109) hC dX12_dayGoes_109 3 rfl rfl ?_
              refine w_iload_n (pc := 110) hC dX12_dayGoes_110 4 rfl rfl ?_
              refine w_aload_n (pc := 111) hC dX12_dayGoes_111 3 rfl rfl ?_
              refine w_getf (pc := 112) (v := .ref (A 5)) hC dX12_dayGoes_112 fi_X12_29 0 rfl rfl ?_
              refine w_iload (pc := 115) hC dX12_dayGoes_115 7 rfl ?_
              refine w_iald (pc := 117) (g := (I 5)) hC dX12_dayGoes_117 5 rfl (by omega) (Nat.le_of_ble_eq_true rfl) ?_
              refine w_iload (pc := 118) hC dX12_dayGoes_118 2 rfl ?_
              refine w_iload (pc := 120) hC dX12_dayGoes_120 1 rfl ?_
              refine w_callV (pc := 122) (As := [.int (J c), .int (J ((I 5) k)), .int (J (TRN (I 1) ((I 5) k) day)), .int (J (WHO (I 1) c (F 11) ((I 5) k) day first))]) (rest := [.ref (A 0)]) hC dX12_dayGoes_122 cv_X12_172 (c_X12_won (kl K) G A (au (au (au (au I 3 b3_64) 4 b4_64) 6 a6_8) 8 a8_8) (fu F 17 f17_8) c ((I 5) k) (TRN (I 1) ((I 5) k) day) (WHO (I 1) c (F 11) ((I 5) k) day first) (show RI (I 1) from by first | assumption | omega) (show 0 ≤ c ∧ c < (I 1) 1 from by first | assumption | omega) (show VB ((I 1) 0) ((I 5) k) from by first | assumption | omega) (show 0 ≤ (TRN (I 1) ((I 5) k) day) ∧ (TRN (I 1) ((I 5) k) day) < (I 1) 0 from by first | assumption | omega) (show 0 ≤ (WHO (I 1) c (F 11) ((I 5) k) day first) ∧ (WHO (I 1) c (F 11) ((I 5) k) day first) < (I 1) 0 from by first | assumption | omega) (show rk ((I 1) 0) ((I 5) k) (WHO (I 1) c (F 11) ((I 5) k) day first) < rk ((I 1) 0) ((I 5) k) (TRN (I 1) ((I 5) k) day) from by first | assumption | omega)) (by decide) ⟨Nat.le_of_ble_eq_true rfl, Nat.le_of_ble_eq_true rfl⟩ (q0 := 0) rfl rfl rfl rfl (Nat.le_of_ble_eq_true rfl) rfl (fun vo wo hv => ?_)
              obtain ⟨hv1, hw1⟩ := hv
              rw [hv1, hw1]
              show WW K G 0 0 (MW A G.2.1 (au (au (au (au I 3 b3_64) 4 b4_64) 6 a6_8) 8 a8_8) (fu F 17 f17_8)) 125 [(7, .int (J (CHW (I 1) (TRN (I 1) ((I 5) k) day) (WHO (I 1) c (F 11) ((I 5) k) day first)))), (6, .int (J (WHO (I 1) c (F 11) ((I 5) k) day first))), (5, .int (J (TRN (I 1) ((I 5) k) day))), (0, .ref (A 0)), (1, .int (J c)), (2, .int (J day)), (3, .int (J first)), (4, .int (J k))] [.int (J (WON (I 1) c ((I 5) k) (TRN (I 1) ((I 5) k) day) (WHO (I 1) c (F 11) ((I 5) k) day first))), .ref (A 0)]
              have q122_0 := @VB_WON (I 1) c ((I 5) k) (TRN (I 1) ((I 5) k) day) (WHO (I 1) c (F 11) ((I 5) k) day first) (by assumption) (by omega) (by omega) (by omega)
              refine w_aload_n (pc := 125) hC dX12_dayGoes_125 3 rfl rfl ?_
              refine w_getf (pc := 126) (v := .ref (A 7)) hC dX12_dayGoes_126 fi_X12_35 0 rfl rfl ?_
              refine w_iload (pc := 129) hC dX12_dayGoes_129 7 rfl ?_
              refine w_lald (pc := 131) (g := (I 7)) hC dX12_dayGoes_131 7 rfl (by omega) (Nat.le_of_ble_eq_true rfl) ?_
              refine w_iload (pc := 132) hC dX12_dayGoes_132 0 rfl ?_
              refine w_i2l (pc := 134) hC dX12_dayGoes_134 (by omega) ?_
              refine w_lmul (pc := 135) hC dX12_dayGoes_135 ?_
              refine w_callV (pc := 136) (As := [.int (J (WON (I 1) c ((I 5) k) (TRN (I 1) ((I 5) k) day) (WHO (I 1) c (F 11) ((I 5) k) day first))), .long (JL (((I 7) k) * (CHW (I 1) (TRN (I 1) ((I 5) k) day) (WHO (I 1) c (F 11) ((I 5) k) day first))))]) (rest := []) hC dX12_dayGoes_136 cv_X12_181 (c_X12_gathers (kl K) G A (au (au (au (au I 3 b3_64) 4 b4_64) 6 a6_8) 8 a8_8) (fu F 17 f17_8) (WON (I 1) c ((I 5) k) (TRN (I 1) ((I 5) k) day) (WHO (I 1) c (F 11) ((I 5) k) day first)) (((I 7) k) * (CHW (I 1) (TRN (I 1) ((I 5) k) day) (WHO (I 1) c (F 11) ((I 5) k) day first))) (show LK a6_8 a8_8 f17_8 from by first | assumption | omega) (show f17_8 < 64 from by first | assumption | omega) (show -2147483648 ≤ (WON (I 1) c ((I 5) k) (TRN (I 1) ((I 5) k) day) (WHO (I 1) c (F 11) ((I 5) k) day first)) ∧ (WON (I 1) c ((I 5) k) (TRN (I 1) ((I 5) k) day) (WHO (I 1) c (F 11) ((I 5) k) day first)) < 2147483648 from by first | assumption | omega) (show 0 < (((I 7) k) * (CHW (I 1) (TRN (I 1) ((I 5) k) day) (WHO (I 1) c (F 11) ((I 5) k) day first))) ∧ (((I 7) k) * (CHW (I 1) (TRN (I 1) ((I 5) k) day) (WHO (I 1) c (F 11) ((I 5) k) day first))) ≤ 1000000000000000 from by first | assumption | omega) (show ∀ k : Int, 0 ≤ k → k < f17_8 → -2147483648 ≤ a6_8 k ∧ a6_8 k < 2147483648 from by first | assumption | omega) (show isum one1 a6_8 a8_8 f17_8.toNat ≤ 1000000000000000 from by first | assumption | omega)) (by decide) ⟨Nat.le_of_ble_eq_true rfl, Nat.le_of_ble_eq_true rfl⟩ (q0 := 0) rfl rfl rfl rfl (Nat.le_of_ble_eq_true rfl) rfl (fun vo wo hv => ?_)
              obtain ⟨b6_136, b8_136, g17_136, hv1, hw1, r136⟩ := hv
              rw [hv1, hw1]
              show WW K G 0 0 (MW A G.2.1 (au (au (au (au I 3 b3_64) 4 b4_64) 6 b6_136) 8 b8_136) (fu F 17 g17_136)) 139 [(7, .int (J (CHW (I 1) (TRN (I 1) ((I 5) k) day) (WHO (I 1) c (F 11) ((I 5) k) day first)))), (6, .int (J (WHO (I 1) c (F 11) ((I 5) k) day first))), (5, .int (J (TRN (I 1) ((I 5) k) day))), (0, .ref (A 0)), (1, .int (J c)), (2, .int (J day)), (3, .int (J first)), (4, .int (J k))] []
              have r136 : (∀ f : Int → Int, isum f b6_136 b8_136 (g17_136).toNat = isum f a6_8 a8_8 f17_8.toNat + f (WON (I 1) c ((I 5) k) (TRN (I 1) ((I 5) k) day) (WHO (I 1) c (F 11) ((I 5) k) day first)) * (((I 7) k) * (CHW (I 1) (TRN (I 1) ((I 5) k) day) (WHO (I 1) c (F 11) ((I 5) k) day first)))) ∧ LK b6_136 b8_136 g17_136 ∧ (f17_8 ≤ g17_136 ∧ g17_136 ≤ f17_8 + 1) ∧ ∀ P : Int → Prop, (∀ k : Int, 0 ≤ k → k < f17_8 → P (a6_8 k)) → P (WON (I 1) c ((I 5) k) (TRN (I 1) ((I 5) k) day) (WHO (I 1) c (F 11) ((I 5) k) day first)) → ∀ k : Int, 0 ≤ k → k < g17_136 → P (b6_136 k) := r136
              have t136 : isum one1 b6_136 b8_136 g17_136.toNat = isum one1 a6_8 a8_8 f17_8.toNat + (I 7) k * CHW (I 1) (TRN (I 1) ((I 5) k) day) (WHO (I 1) c (F 11) ((I 5) k) day first) := by rw [r136.1]; show _ + 1 * _ = _; rw [Int.one_mul]
              have hlk2 := r136.2.1
              have v136 := r136.2.2.2 (fun x => VB (I 1 0) x) i4 (VB_WON hVk htrn.1 (by omega) (by omega))
              have hi4b : ∀ j : Int, 0 ≤ j → j < g17_136 → -2147483648 ≤ b6_136 j ∧ b6_136 j < 2147483648 := fun j g1 g2 => by have := VB_rng (v136 j g1 g2); omega
              refine w_iload (pc := 139) hC dX12_dayGoes_139 0 rfl ?_
              refine w_bipush (pc := 141) hC dX12_dayGoes_141 (z := 100) rfl ?_
              refine w_icmp_ge (pc := 143) (tgt := 171) hC dX12_dayGoes_143 (by decide) (by omega) (fun c143 => ?_) (fun c143 => ?_)
              · refine w_iinc (pc := 171) hC dX12_dayGoes_171 (lv2 := [(4, .int (J (k + 1))), (7, .int (J (CHW (I 1) (TRN (I 1) ((I 5) k) day) (WHO (I 1) c (F 11) ((I 5) k) day first)))), (6, .int (J (WHO (I 1) c (F 11) ((I 5) k) day first))), (5, .int (J (TRN (I 1) ((I 5) k) day))), (0, .ref (A 0)), (1, .int (J c)), (2, .int (J day)), (3, .int (J first))]) 7 rfl (by rw [hnL]; decide) rfl ?_
                refine w_goto (pc := 174) hC dX12_dayGoes_174 (tgt := 8) (by decide) ?_
                refine w_sub [4, 5, 6, 7, 0] (lv2 := [(0, .ref (A 0)), (1, .int (J c)), (2, .int (J day)), (3, .int (J first)), (4, .int (J (k + 1)))]) rfl ?_
                refine ih8 (k + 1) b3_64 b4_64 b6_136 b8_136 g17_136 ?_ ?_ ?_ ?_ ?_
                · first | assumption | omega
                · intro f
                  rw [isum_s _ _ _ i1.1, ← i2 f]
                  rw [r136.1]; congr 1; unfold STEP; rw [if_pos c105, if_neg (by omega), Int.add_zero]; ac_rfl
                · exact ⟨r136.2.1, by omega⟩
                · exact v136
                · omega
              · have hpos2 := Int.mul_pos hw (show 0 < 100 - CHW (I 1) (TRN (I 1) ((I 5) k) day) (WHO (I 1) c (F 11) ((I 5) k) day first) by omega)
                refine w_aload_n (pc := 146) hC dX12_dayGoes_146 3 rfl rfl ?_
                refine w_aload_n (pc := 147) hC dX12_dayGoes_147 3 rfl rfl ?_
                refine w_getf (pc := 148) (v := .ref (A 5)) hC dX12_dayGoes_148 fi_X12_29 0 rfl rfl ?_
                refine w_iload (pc := 151) hC dX12_dayGoes_151 7 rfl ?_
                refine w_iald (pc := 153) (g := (I 5)) hC dX12_dayGoes_153 5 rfl (by omega) (Nat.le_of_ble_eq_true rfl) ?_
                refine w_aload_n (pc := 154) hC dX12_dayGoes_154 3 rfl rfl ?_
                refine w_getf (pc := 155) (v := .ref (A 7)) hC dX12_dayGoes_155 fi_X12_35 0 rfl rfl ?_
                refine w_iload (pc := 158) hC dX12_dayGoes_158 7 rfl ?_
                refine w_lald (pc := 160) (g := (I 7)) hC dX12_dayGoes_160 7 rfl (by omega) (Nat.le_of_ble_eq_true rfl) ?_
                refine w_bipush (pc := 161) hC dX12_dayGoes_161 (z := 100) rfl ?_
                refine w_iload (pc := 163) hC dX12_dayGoes_163 0 rfl ?_
                refine w_isub (pc := 165) hC dX12_dayGoes_165 ?_
                refine w_i2l (pc := 166) hC dX12_dayGoes_166 (by omega) ?_
                refine w_lmul (pc := 167) hC dX12_dayGoes_167 ?_
                refine w_callV (pc := 168) (As := [.int (J ((I 5) k)), .long (JL (((I 7) k) * (100 - (CHW (I 1) (TRN (I 1) ((I 5) k) day) (WHO (I 1) c (F 11) ((I 5) k) day first)))))]) (rest := []) hC dX12_dayGoes_168 cv_X12_181 (c_X12_gathers (kl K) G A (au (au (au (au I 3 b3_64) 4 b4_64) 6 b6_136) 8 b8_136) (fu F 17 g17_136) ((I 5) k) (((I 7) k) * (100 - (CHW (I 1) (TRN (I 1) ((I 5) k) day) (WHO (I 1) c (F 11) ((I 5) k) day first)))) (show LK b6_136 b8_136 g17_136 from by first | assumption | omega) (show g17_136 < 64 from by first | assumption | omega) (show -2147483648 ≤ ((I 5) k) ∧ ((I 5) k) < 2147483648 from by first | assumption | omega) (show 0 < (((I 7) k) * (100 - (CHW (I 1) (TRN (I 1) ((I 5) k) day) (WHO (I 1) c (F 11) ((I 5) k) day first)))) ∧ (((I 7) k) * (100 - (CHW (I 1) (TRN (I 1) ((I 5) k) day) (WHO (I 1) c (F 11) ((I 5) k) day first)))) ≤ 1000000000000000 from by first | assumption | omega) (show ∀ k : Int, 0 ≤ k → k < g17_136 → -2147483648 ≤ b6_136 k ∧ b6_136 k < 2147483648 from by first | assumption | omega) (show isum one1 b6_136 b8_136 g17_136.toNat ≤ 1000000000000000 from by first | assumption | omega)) (by decide) ⟨Nat.le_of_ble_eq_true rfl, Nat.le_of_ble_eq_true rfl⟩ (q0 := 0) rfl rfl rfl rfl (Nat.le_of_ble_eq_true rfl) rfl (fun vo wo hv => ?_)
                obtain ⟨b6_168, b8_168, g17_168, hv1, hw1, r168⟩ := hv
                rw [hv1, hw1]
                show WW K G 0 0 (MW A G.2.1 (au (au (au (au I 3 b3_64) 4 b4_64) 6 b6_168) 8 b8_168) (fu F 17 g17_168)) 171 [(7, .int (J (CHW (I 1) (TRN (I 1) ((I 5) k) day) (WHO (I 1) c (F 11) ((I 5) k) day first)))), (6, .int (J (WHO (I 1) c (F 11) ((I 5) k) day first))), (5, .int (J (TRN (I 1) ((I 5) k) day))), (0, .ref (A 0)), (1, .int (J c)), (2, .int (J day)), (3, .int (J first)), (4, .int (J k))] []
                have r168 : (∀ f : Int → Int, isum f b6_168 b8_168 (g17_168).toNat = isum f b6_136 b8_136 g17_136.toNat + f ((I 5) k) * (((I 7) k) * (100 - (CHW (I 1) (TRN (I 1) ((I 5) k) day) (WHO (I 1) c (F 11) ((I 5) k) day first))))) ∧ LK b6_168 b8_168 g17_168 ∧ (g17_136 ≤ g17_168 ∧ g17_168 ≤ g17_136 + 1) ∧ ∀ P : Int → Prop, (∀ k : Int, 0 ≤ k → k < g17_136 → P (b6_136 k)) → P ((I 5) k) → ∀ k : Int, 0 ≤ k → k < g17_168 → P (b6_168 k) := r168
                refine w_iinc (pc := 171) hC dX12_dayGoes_171 (lv2 := [(4, .int (J (k + 1))), (7, .int (J (CHW (I 1) (TRN (I 1) ((I 5) k) day) (WHO (I 1) c (F 11) ((I 5) k) day first)))), (6, .int (J (WHO (I 1) c (F 11) ((I 5) k) day first))), (5, .int (J (TRN (I 1) ((I 5) k) day))), (0, .ref (A 0)), (1, .int (J c)), (2, .int (J day)), (3, .int (J first))]) 7 rfl (by rw [hnL]; decide) rfl ?_
                refine w_goto (pc := 174) hC dX12_dayGoes_174 (tgt := 8) (by decide) ?_
                refine w_sub [4, 5, 6, 7, 0] (lv2 := [(0, .ref (A 0)), (1, .int (J c)), (2, .int (J day)), (3, .int (J first)), (4, .int (J (k + 1)))]) rfl ?_
                refine ih8 (k + 1) b3_64 b4_64 b6_168 b8_168 g17_168 ?_ ?_ ?_ ?_ ?_
                · first | assumption | omega
                · intro f
                  rw [isum_s _ _ _ i1.1, ← i2 f]
                  rw [r168.1, r136.1, Int.add_assoc, st2]; congr 1; congr 1; unfold STEP; rw [if_pos c105, if_pos c143]
                · exact ⟨r168.2.1, by omega⟩
                · exact r168.2.2.2 (fun x => VB (I 1 0) x) v136 hVk
                · omega
          · refine w_iconst (pc := 80) hC dX12_dayGoes_80 ?_
            refine w_top (e2 := CHW (I 1) (TRN (I 1) ((I 5) k) day) (WHO (I 1) c (F 11) ((I 5) k) day first)) (by unfold CHW; rw [if_pos c77]) ?_
            refine w_goto (pc := 81) hC dX12_dayGoes_81 (tgt := 101) (by decide) ?_
            refine w_istore (pc := 101) hC dX12_dayGoes_101 (lv2 := [(7, .int (J (CHW (I 1) (TRN (I 1) ((I 5) k) day) (WHO (I 1) c (F 11) ((I 5) k) day first)))), (6, .int (J (WHO (I 1) c (F 11) ((I 5) k) day first))), (5, .int (J (TRN (I 1) ((I 5) k) day))), (0, .ref (A 0)), (1, .int (J c)), (2, .int (J day)), (3, .int (J first)), (4, .int (J k))]) (by rw [hnL]; decide) rfl ?_
            refine w_iload (pc := 103) hC dX12_dayGoes_103 0 rfl ?_
            refine w_if_le (pc := 105) (tgt := 139) hC dX12_dayGoes_105 (by decide) (by omega) (fun c105 => ?_) (fun c105 => ?_)
            · refine w_iload (pc := 139) hC dX12_dayGoes_139 0 rfl ?_
              refine w_bipush (pc := 141) hC dX12_dayGoes_141 (z := 100) rfl ?_
              refine w_icmp_ge (pc := 143) (tgt := 171) hC dX12_dayGoes_143 (by decide) (by omega) (fun c143 => ?_) (fun c143 => ?_)
              · exfalso; omega
              · have hpos2 := Int.mul_pos hw (show 0 < 100 - CHW (I 1) (TRN (I 1) ((I 5) k) day) (WHO (I 1) c (F 11) ((I 5) k) day first) by omega)
                refine w_aload_n (pc := 146) hC dX12_dayGoes_146 3 rfl rfl ?_
                refine w_aload_n (pc := 147) hC dX12_dayGoes_147 3 rfl rfl ?_
                refine w_getf (pc := 148) (v := .ref (A 5)) hC dX12_dayGoes_148 fi_X12_29 0 rfl rfl ?_
                refine w_iload (pc := 151) hC dX12_dayGoes_151 7 rfl ?_
                refine w_iald (pc := 153) (g := (I 5)) hC dX12_dayGoes_153 5 rfl (by omega) (Nat.le_of_ble_eq_true rfl) ?_
                refine w_aload_n (pc := 154) hC dX12_dayGoes_154 3 rfl rfl ?_
                refine w_getf (pc := 155) (v := .ref (A 7)) hC dX12_dayGoes_155 fi_X12_35 0 rfl rfl ?_
                refine w_iload (pc := 158) hC dX12_dayGoes_158 7 rfl ?_
                refine w_lald (pc := 160) (g := (I 7)) hC dX12_dayGoes_160 7 rfl (by omega) (Nat.le_of_ble_eq_true rfl) ?_
                refine w_bipush (pc := 161) hC dX12_dayGoes_161 (z := 100) rfl ?_
                refine w_iload (pc := 163) hC dX12_dayGoes_163 0 rfl ?_
                refine w_isub (pc := 165) hC dX12_dayGoes_165 ?_
                refine w_i2l (pc := 166) hC dX12_dayGoes_166 (by omega) ?_
                refine w_lmul (pc := 167) hC dX12_dayGoes_167 ?_
                refine w_callV (pc := 168) (As := [.int (J ((I 5) k)), .long (JL (((I 7) k) * (100 - (CHW (I 1) (TRN (I 1) ((I 5) k) day) (WHO (I 1) c (F 11) ((I 5) k) day first)))))]) (rest := []) hC dX12_dayGoes_168 cv_X12_181 (c_X12_gathers (kl K) G A (au (au (au (au I 3 b3_64) 4 b4_64) 6 a6_8) 8 a8_8) (fu F 17 f17_8) ((I 5) k) (((I 7) k) * (100 - (CHW (I 1) (TRN (I 1) ((I 5) k) day) (WHO (I 1) c (F 11) ((I 5) k) day first)))) (show LK a6_8 a8_8 f17_8 from by first | assumption | omega) (show f17_8 < 64 from by first | assumption | omega) (show -2147483648 ≤ ((I 5) k) ∧ ((I 5) k) < 2147483648 from by first | assumption | omega) (show 0 < (((I 7) k) * (100 - (CHW (I 1) (TRN (I 1) ((I 5) k) day) (WHO (I 1) c (F 11) ((I 5) k) day first)))) ∧ (((I 7) k) * (100 - (CHW (I 1) (TRN (I 1) ((I 5) k) day) (WHO (I 1) c (F 11) ((I 5) k) day first)))) ≤ 1000000000000000 from by first | assumption | omega) (show ∀ k : Int, 0 ≤ k → k < f17_8 → -2147483648 ≤ a6_8 k ∧ a6_8 k < 2147483648 from by first | assumption | omega) (show isum one1 a6_8 a8_8 f17_8.toNat ≤ 1000000000000000 from by first | assumption | omega)) (by decide) ⟨Nat.le_of_ble_eq_true rfl, Nat.le_of_ble_eq_true rfl⟩ (q0 := 0) rfl rfl rfl rfl (Nat.le_of_ble_eq_true rfl) rfl (fun vo wo hv => ?_)
                obtain ⟨b6_168, b8_168, g17_168, hv1, hw1, r168⟩ := hv
                rw [hv1, hw1]
                show WW K G 0 0 (MW A G.2.1 (au (au (au (au I 3 b3_64) 4 b4_64) 6 b6_168) 8 b8_168) (fu F 17 g17_168)) 171 [(7, .int (J (CHW (I 1) (TRN (I 1) ((I 5) k) day) (WHO (I 1) c (F 11) ((I 5) k) day first)))), (6, .int (J (WHO (I 1) c (F 11) ((I 5) k) day first))), (5, .int (J (TRN (I 1) ((I 5) k) day))), (0, .ref (A 0)), (1, .int (J c)), (2, .int (J day)), (3, .int (J first)), (4, .int (J k))] []
                have r168 : (∀ f : Int → Int, isum f b6_168 b8_168 (g17_168).toNat = isum f a6_8 a8_8 f17_8.toNat + f ((I 5) k) * (((I 7) k) * (100 - (CHW (I 1) (TRN (I 1) ((I 5) k) day) (WHO (I 1) c (F 11) ((I 5) k) day first))))) ∧ LK b6_168 b8_168 g17_168 ∧ (f17_8 ≤ g17_168 ∧ g17_168 ≤ f17_8 + 1) ∧ ∀ P : Int → Prop, (∀ k : Int, 0 ≤ k → k < f17_8 → P (a6_8 k)) → P ((I 5) k) → ∀ k : Int, 0 ≤ k → k < g17_168 → P (b6_168 k) := r168
                refine w_iinc (pc := 171) hC dX12_dayGoes_171 (lv2 := [(4, .int (J (k + 1))), (7, .int (J (CHW (I 1) (TRN (I 1) ((I 5) k) day) (WHO (I 1) c (F 11) ((I 5) k) day first)))), (6, .int (J (WHO (I 1) c (F 11) ((I 5) k) day first))), (5, .int (J (TRN (I 1) ((I 5) k) day))), (0, .ref (A 0)), (1, .int (J c)), (2, .int (J day)), (3, .int (J first))]) 7 rfl (by rw [hnL]; decide) rfl ?_
                refine w_goto (pc := 174) hC dX12_dayGoes_174 (tgt := 8) (by decide) ?_
                refine w_sub [4, 5, 6, 7, 0] (lv2 := [(0, .ref (A 0)), (1, .int (J c)), (2, .int (J day)), (3, .int (J first)), (4, .int (J (k + 1)))]) rfl ?_
                refine ih8 (k + 1) b3_64 b4_64 b6_168 b8_168 g17_168 ?_ ?_ ?_ ?_ ?_
                · first | assumption | omega
                · intro f
                  rw [isum_s _ _ _ i1.1, ← i2 f]
                  rw [r168.1]; congr 1; unfold STEP; rw [if_neg (by omega), if_pos c143, Int.zero_add]; ac_rfl
                · exact ⟨r168.2.1, by omega⟩
                · exact r168.2.2.2 (fun x => VB (I 1 0) x) i4 hVk
                · omega
            · have hch0 : CHW (I 1) (TRN (I 1) ((I 5) k) day) (WHO (I 1) c (F 11) ((I 5) k) day first) = 0 := by unfold CHW; rw [if_pos c77]
              omega
  refine w_sub [1, 2, 3, 4, 0] (lv2 := [(0, .ref (A 0)), (1, .int (J c)), (2, .int (J day)), (3, .int (J first)), (4, .int (J 0))]) rfl ?_
  refine loop8 (((F 16) - 0) + 1 : Int).toNat 0 (I 3) (I 4) (I 6) (I 8) 0 ?_ ?_ ?_ ?_ ?_
  · first | assumption | omega
  · intro f; rfl
  · exact ⟨⟨⟨by decide, by decide⟩, fun a b g1 g2 => by omega, fun a g1 g2 => by omega⟩, by decide⟩
  · intro j g1 g2; omega
  · omega
