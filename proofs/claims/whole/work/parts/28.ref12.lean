
theorem nST_13 : (13 : Nat) = nST := rfl

set_option maxRecDepth 100000 in
set_option maxHeartbeats 4000000 in
theorem c_X12_here (l : Launch) (G : GT) (A : Nat → Nat) (I : Nat → Int → Int) (F : Nat → Int) (S0 : Int → Int)  (hT : TP (I 1) S0) (hR : RI S0) (h5 : (0 ≤ (F 5) ∧ (F 5) ≤ (F 6)) ∧ (F 6) ≤ 120) : CT l yX12_here cX12_here 1 (some .int) 0 0 0 G [.ref (A 0)] (MW A G.2.1 I F) (fun vo wo => vo = some (.int (J (hr S0 (F 6) (F 5)))) ∧ wo = MW A G.2.1 I F) := by
  refine CT_of (own := RX12) rfl rfl (Nat.le_of_ble_eq_true rfl) (fun K hl hnL hC hRT hin => ?_)
  subst hl
  show WW K G 0 0 (MW A G.2.1 I F) 0 [(0, .ref (A 0))] []
  refine w_aload_n (pc := 0) hC dX12_here_0 0 rfl rfl ?_
  refine w_getf (pc := 1) (v := .int (J (F 5))) hC dX12_here_1 fi_X12_77 0 rfl rfl ?_
  refine w_aload_n (pc := 4) hC dX12_here_4 0 rfl rfl ?_
  refine w_getf (pc := 5) (v := .int (J (F 6))) hC dX12_here_5 fi_X12_80 0 rfl rfl ?_
  refine w_icmp_ge (pc := 8) (tgt := 26) hC dX12_here_8 (by decide) (by omega) (fun c8 => ?_) (fun c8 => ?_)
  · refine w_iconst (pc := 26) hC dX12_here_26 ?_
    refine w_iret (pc := 27) hC hRT dX12_here_27 rfl ?_
    refine ⟨retI (by unfold hr; first | (rw [if_pos (by omega)]; exact hT _ (by omega) (by omega)) | rw [if_neg (by omega)]), rfl⟩
  · refine w_aload_n (pc := 11) hC dX12_here_11 0 rfl rfl ?_
    refine w_getf (pc := 12) (v := .ref (A 1)) hC dX12_here_12 fi_X12_9 0 rfl rfl ?_
    refine w_bipush (pc := 15) hC dX12_here_15 (z := 10) rfl ?_
    refine w_aload_n (pc := 17) hC dX12_here_17 0 rfl rfl ?_
    refine w_getf (pc := 18) (v := .int (J (F 5))) hC dX12_here_18 fi_X12_77 0 rfl rfl ?_
    refine w_iadd (pc := 21) hC dX12_here_21 ?_
    refine w_iald (pc := 22) (g := (I 1)) hC dX12_here_22 1 rfl (by omega) (Nat.le_of_ble_eq_true rfl) ?_
    refine w_goto (pc := 23) hC dX12_here_23 (tgt := 27) (by decide) ?_
    refine w_iret (pc := 27) hC hRT dX12_here_27 rfl ?_
    refine ⟨retI (by unfold hr; first | (rw [if_pos (by omega)]; exact hT _ (by omega) (by omega)) | rw [if_neg (by omega)]), rfl⟩
set_option maxRecDepth 100000 in
set_option maxHeartbeats 4000000 in
theorem c_X12_must (l : Launch) (G : GT) (A : Nat → Nat) (I : Nat → Int → Int) (F : Nat → Int) (S0 : Int → Int) (ql : List Int) (c : Int) (hT : TP (I 1) S0) (hR : RI S0) (he : (0 ≤ (F 5) ∧ (F 5) ≤ (F 6)) ∧ (F 6) ≤ 120) (hw : (F 7) = 0 ∨ (F 7) = 1) (hc : 0 ≤ c ∧ c < 65536) : CT l yX12_must cX12_must 2 none 1 0 0 G [.ref (A 0), .int (J c)] (MW A G.2.1 I F) (fun vo wo => ∃ (g5 : Int) (g7 : Int), vo = none ∧ wo = MW A G.2.1 I (fu (fu F 5 g5) 7 g7) ∧ ((g5, g7, ql) = mst S0 (F 6) c ((F 5), (F 7), ql) ∧ ((0 ≤ g5 ∧ g5 ≤ (F 6)) ∧ (g7 = 0 ∨ g7 = 1)))) := by
  refine CT_of (own := RX12) rfl rfl (Nat.le_of_ble_eq_true rfl) (fun K hl hnL hC hRT hin => ?_)
  subst hl
  show WW K G 0 0 (MW A G.2.1 I F) 0 [(0, .ref (A 0)), (1, .int (J c))] []
  refine w_aload_n (pc := 0) hC dX12_must_0 0 rfl rfl ?_
  refine w_aload_n (pc := 1) hC dX12_must_1 0 rfl rfl ?_
  refine w_getf (pc := 2) (v := .int (J (F 7))) hC dX12_must_2 fi_X12_83 0 rfl rfl ?_
  refine w_if_ne (pc := 5) (tgt := 16) hC dX12_must_5 (by decide) (by omega) (fun c5 => ?_) (fun c5 => ?_)
  · refine w_iconst (pc := 16) hC dX12_must_16 ?_
    refine w_goto (pc := 17) hC dX12_must_17 (tgt := 21) (by decide) ?_
    refine w_putf (pc := 21) (w2 := MW A G.2.1 I (fu F 7 1)) hC dX12_must_21 fi_X12_83 fp_X12_7 rfl 0 rfl (rfl) (rfl) (Nat.le_of_ble_eq_true rfl) rfl ?_
    refine w_aload_n (pc := 24) hC dX12_must_24 0 rfl rfl ?_
    refine w_dup (pc := 25) hC dX12_must_25 rfl ?_
    refine w_getf (pc := 26) (v := .int (J (F 5))) hC dX12_must_26 fi_X12_77 0 rfl rfl ?_
    refine w_aload_n (pc := 29) hC dX12_must_29 0 rfl rfl ?_
    refine w_getf (pc := 30) (v := .int (J 1)) hC dX12_must_30 fi_X12_83 0 rfl rfl ?_
    refine w_if_eq (pc := 33) (tgt := 40) hC dX12_must_33 (by decide) (by omega) (fun c33 => ?_) (fun c33 => ?_)
    · exact absurd c33 (by decide)
    · refine w_iconst (pc := 36) hC dX12_must_36 ?_
      refine w_goto (pc := 37) hC dX12_must_37 (tgt := 41) (by decide) ?_
      refine w_iadd (pc := 41) hC dX12_must_41 ?_
      refine w_putf (pc := 42) (w2 := MW A G.2.1 I (fu (fu F 5 ((F 5) + 0)) 7 1)) hC dX12_must_42 fi_X12_77 fp_X12_5 rfl 0 rfl (rfl) (rfl) (Nat.le_of_ble_eq_true rfl) rfl ?_
      refine w_vret (pc := 45) hC hRT dX12_must_45 ?_
      refine ⟨(F 5) + 0, 1, rfl, rfl, ?_⟩
      · refine ⟨?_, by omega, by omega⟩
        unfold mst; dsimp only
        first | rw [if_pos (Or.inl (by omega))] | rw [if_pos (Or.inr (by omega))] | rw [if_neg (by omega)]
        all_goals first | rfl | (rw [Int.add_zero])
  · refine w_aload_n (pc := 8) hC dX12_must_8 0 rfl rfl ?_
    refine w_callV (pc := 9) (As := []) (rest := [.ref (A 0)]) hC dX12_must_9 cv_X12_87 (c_X12_here (kl K) G A I F S0 (show TP (I 1) S0 from by first | assumption | omega) (show RI S0 from by first | assumption | omega) (show (0 ≤ (F 5) ∧ (F 5) ≤ (F 6)) ∧ (F 6) ≤ 120 from by first | assumption | omega)) (by decide) ⟨Nat.le_of_ble_eq_true rfl, Nat.le_of_ble_eq_true rfl⟩ (q0 := 0) rfl rfl rfl rfl (Nat.le_of_ble_eq_true rfl) rfl (fun vo wo hv => ?_)
    obtain ⟨hv1, hw1⟩ := hv
    rw [hv1, hw1]
    show WW K G 0 0 (MW A G.2.1 I F) 12 [(0, .ref (A 0)), (1, .int (J c))] [.int (J (hr S0 (F 6) (F 5))), .ref (A 0)]
    have q9_0 := hr_bd (e := (F 6)) (sp := (F 5)) (by assumption : RI S0) (by omega) (by omega)
    refine w_iload_n (pc := 12) hC dX12_must_12 1 rfl rfl ?_
    have hat := fun (g : hr S0 (F 6) (F 5) = c) => hr_at g hc.1
    refine w_icmp_eq (pc := 13) (tgt := 20) hC dX12_must_13 (by decide) (by omega) (fun c13 => ?_) (fun c13 => ?_)
    · refine w_iconst (pc := 20) hC dX12_must_20 ?_
      refine w_putf (pc := 21) (w2 := MW A G.2.1 I (fu F 7 0)) hC dX12_must_21 fi_X12_83 fp_X12_7 rfl 0 rfl (rfl) (rfl) (Nat.le_of_ble_eq_true rfl) rfl ?_
      refine w_aload_n (pc := 24) hC dX12_must_24 0 rfl rfl ?_
      refine w_dup (pc := 25) hC dX12_must_25 rfl ?_
      refine w_getf (pc := 26) (v := .int (J (F 5))) hC dX12_must_26 fi_X12_77 0 rfl rfl ?_
      refine w_aload_n (pc := 29) hC dX12_must_29 0 rfl rfl ?_
      refine w_getf (pc := 30) (v := .int (J 0)) hC dX12_must_30 fi_X12_83 0 rfl rfl ?_
      refine w_if_eq (pc := 33) (tgt := 40) hC dX12_must_33 (by decide) (by omega) (fun c33 => ?_) (fun c33 => ?_)
      · refine w_iconst (pc := 40) hC dX12_must_40 ?_
        refine w_iadd (pc := 41) hC dX12_must_41 ?_
        refine w_putf (pc := 42) (w2 := MW A G.2.1 I (fu (fu F 5 ((F 5) + 1)) 7 0)) hC dX12_must_42 fi_X12_77 fp_X12_5 rfl 0 rfl (rfl) (rfl) (Nat.le_of_ble_eq_true rfl) rfl ?_
        refine w_vret (pc := 45) hC hRT dX12_must_45 ?_
        refine ⟨(F 5) + 1, 0, rfl, rfl, ?_⟩
        · refine ⟨?_, by omega, by omega⟩
          unfold mst; dsimp only
          first | rw [if_pos (Or.inl (by omega))] | rw [if_pos (Or.inr (by omega))] | rw [if_neg (by omega)]
          all_goals first | rfl | (rw [Int.add_zero])
      · exact absurd c33 (by decide)
    · refine w_iconst (pc := 16) hC dX12_must_16 ?_
      refine w_goto (pc := 17) hC dX12_must_17 (tgt := 21) (by decide) ?_
      refine w_putf (pc := 21) (w2 := MW A G.2.1 I (fu F 7 1)) hC dX12_must_21 fi_X12_83 fp_X12_7 rfl 0 rfl (rfl) (rfl) (Nat.le_of_ble_eq_true rfl) rfl ?_
      refine w_aload_n (pc := 24) hC dX12_must_24 0 rfl rfl ?_
      refine w_dup (pc := 25) hC dX12_must_25 rfl ?_
      refine w_getf (pc := 26) (v := .int (J (F 5))) hC dX12_must_26 fi_X12_77 0 rfl rfl ?_
      refine w_aload_n (pc := 29) hC dX12_must_29 0 rfl rfl ?_
      refine w_getf (pc := 30) (v := .int (J 1)) hC dX12_must_30 fi_X12_83 0 rfl rfl ?_
      refine w_if_eq (pc := 33) (tgt := 40) hC dX12_must_33 (by decide) (by omega) (fun c33 => ?_) (fun c33 => ?_)
      · exact absurd c33 (by decide)
      · refine w_iconst (pc := 36) hC dX12_must_36 ?_
        refine w_goto (pc := 37) hC dX12_must_37 (tgt := 41) (by decide) ?_
        refine w_iadd (pc := 41) hC dX12_must_41 ?_
        refine w_putf (pc := 42) (w2 := MW A G.2.1 I (fu (fu F 5 ((F 5) + 0)) 7 1)) hC dX12_must_42 fi_X12_77 fp_X12_5 rfl 0 rfl (rfl) (rfl) (Nat.le_of_ble_eq_true rfl) rfl ?_
        refine w_vret (pc := 45) hC hRT dX12_must_45 ?_
        refine ⟨(F 5) + 0, 1, rfl, rfl, ?_⟩
        · refine ⟨?_, by omega, by omega⟩
          unfold mst; dsimp only
          first | rw [if_pos (Or.inl (by omega))] | rw [if_pos (Or.inr (by omega))] | rw [if_neg (by omega)]
          all_goals first | rfl | (rw [Int.add_zero])
set_option maxRecDepth 100000 in
set_option maxHeartbeats 4000000 in
theorem c_X12_spells (l : Launch) (G : GT) (A : Nat → Nat) (I : Nat → Int → Int) (F : Nat → Int) (i : Nat) (S0 : Int → Int) (ql : List Int)  (hi : i < nST) (hT : TP (I 1) S0) (hR : RI S0) (he : (0 ≤ (F 5) ∧ (F 5) ≤ (F 6)) ∧ (F 6) ≤ 120) (hw : (F 7) = 0 ∨ (F 7) = 1) : CT l yX12_spells cX12_spells 3 none 4 0 0 G [.ref (A 0), .ref (G.2.2.1 i)] (MW A G.2.1 I F) (fun vo wo => ∃ (g5 : Int) (g7 : Int), vo = none ∧ wo = MW A G.2.1 I (fu (fu F 5 g5) 7 g7) ∧ ((g5, g7, ql) = spl S0 (F 6) i ((F 5), (F 7), ql) ∧ ((0 ≤ g5 ∧ g5 ≤ (F 6)) ∧ (g7 = 0 ∨ g7 = 1)))) := by
  refine CT_of (own := RX12) rfl rfl (Nat.le_of_ble_eq_true rfl) (fun K hl hnL hC hRT hin => ?_)
  subst hl
  show WW K G 0 0 (MW A G.2.1 I F) 0 [(0, .ref (A 0)), (1, .ref (G.2.2.1 i))] []
  have hl9 := stl_bd i hi
  refine w_iconst (pc := 0) hC dX12_spells_0 ?_
  refine w_istore_n (pc := 1) hC dX12_spells_1 rfl (lv2 := [(2, .int (J 0)), (0, .ref (A 0)), (1, .ref (G.2.2.1 i))]) (by rw [hnL]; decide) rfl ?_
  have loop2 : ∀ (nF : Nat) (k : Int) (f5_2 : Int) (f7_2 : Int), (0 ≤ k ∧ k ≤ stl i) → ((f5_2, f7_2, ql) = spN S0 (F 6) i k.toNat ((F 5), (F 7), ql)) → ((0 ≤ f5_2 ∧ f5_2 ≤ (F 6))) → (f7_2 = 0 ∨ f7_2 = 1) → (stl i - k) < (nF : Int) → WW K G 0 0 (MW A G.2.1 I (fu (fu F 5 f5_2) 7 f7_2)) 2 [(0, .ref (A 0)), (1, .ref (G.2.2.1 i)), (2, .int (J k))] [] := by
    intro nF
    induction nF with
    | zero => intro k f5_2 f7_2 i1 i2 i3 i4 hm2; exact absurd hm2 (by omega)
    | succ nF ih2 =>
      intro k f5_2 f7_2 i1 i2 i3 i4 hm2
      refine w_iload_n (pc := 2) hC dX12_spells_2 2 rfl rfl ?_
      refine w_aload_n (pc := 3) hC dX12_spells_3 1 rfl rfl ?_
      refine w_callVT (pc := 4) (As := []) (rest := [.int (J k)]) hC dX12_spells_4 cv_X12_90 (c_J0_length_8abf5 (kl K) G (MW A G.2.1 I (fu (fu F 5 f5_2) 7 f7_2)) i (show i < nST from by first | assumption | omega)) (by decide) ⟨Nat.le_of_ble_eq_true rfl, Nat.le_of_ble_eq_true rfl⟩ (i := i) hi rfl (Nat.le_of_ble_eq_true rfl) rfl (fun vo wo hv => ?_)
      obtain ⟨hv1, hw1⟩ := hv
      rw [hv1, hw1]
      show WW K G 0 0 (MW A G.2.1 I (fu (fu F 5 f5_2) 7 f7_2)) 7 [(0, .ref (A 0)), (1, .ref (G.2.2.1 i)), (2, .int (J k))] [.int (J (stl i)), .int (J k)]
      have q4_0 := stl_bd i (by assumption)
      refine w_icmp_ge (pc := 7) (tgt := 25) hC dX12_spells_7 (by decide) (by omega) (fun c7 => ?_) (fun c7 => ?_)
      · refine w_vret (pc := 25) hC hRT dX12_spells_25 ?_
        refine ⟨f5_2, f7_2, rfl, rfl, ?_⟩
        · refine ⟨?_, by omega, by omega⟩
          rw [i2, show k = stl i by omega]; rfl
      · have hc9 := stc_bd hi i1.1 (show k < stl i by omega)
        refine w_aload_n (pc := 10) hC dX12_spells_10 0 rfl rfl ?_
        refine w_aload_n (pc := 11) hC dX12_spells_11 1 rfl rfl ?_
        refine w_iload_n (pc := 12) hC dX12_spells_12 2 rfl rfl ?_
        refine w_callVT (pc := 13) (As := [.int (J k)]) (rest := [.ref (A 0)]) hC dX12_spells_13 cv_X12_95 (c_J0_charAt_5068e (kl K) G (MW A G.2.1 I (fu (fu F 5 f5_2) 7 f7_2)) i k (show i < nST from by first | assumption | omega) (show 0 ≤ k ∧ k < stl i from by first | assumption | omega)) (by decide) ⟨Nat.le_of_ble_eq_true rfl, Nat.le_of_ble_eq_true rfl⟩ (i := i) hi rfl (Nat.le_of_ble_eq_true rfl) rfl (fun vo wo hv => ?_)
        obtain ⟨hv1, hw1⟩ := hv
        rw [hv1, hw1]
        show WW K G 0 0 (MW A G.2.1 I (fu (fu F 5 f5_2) 7 f7_2)) 16 [(0, .ref (A 0)), (1, .ref (G.2.2.1 i)), (2, .int (J k))] [.int (J (stc i k)), .ref (A 0)]
        have q13_0 := stc_bd (by assumption : i < nST) (by omega : 0 ≤ k) (by omega)
        refine w_callV (pc := 16) (As := [.int (J (stc i k))]) (rest := []) hC dX12_spells_16 cv_X12_99 (c_X12_must (kl K) G A I (fu (fu F 5 f5_2) 7 f7_2) S0 ql (stc i k) (show TP (I 1) S0 from by first | assumption | omega) (show RI S0 from by first | assumption | omega) (show (0 ≤ f5_2 ∧ f5_2 ≤ (F 6)) ∧ (F 6) ≤ 120 from by first | assumption | omega) (show f7_2 = 0 ∨ f7_2 = 1 from by first | assumption | omega) (show 0 ≤ (stc i k) ∧ (stc i k) < 65536 from by first | assumption | omega)) (by decide) ⟨Nat.le_of_ble_eq_true rfl, Nat.le_of_ble_eq_true rfl⟩ (q0 := 0) rfl rfl rfl rfl (Nat.le_of_ble_eq_true rfl) rfl (fun vo wo hv => ?_)
        obtain ⟨g5_16, g7_16, hv1, hw1, r16⟩ := hv
        rw [hv1, hw1]
        show WW K G 0 0 (MW A G.2.1 I (fu (fu F 5 g5_16) 7 g7_16)) 19 [(0, .ref (A 0)), (1, .ref (G.2.2.1 i)), (2, .int (J k))] []
        have r16 : (g5_16, g7_16, ql) = mst S0 (F 6) (stc i k) (f5_2, f7_2, ql) ∧ ((0 ≤ g5_16 ∧ g5_16 ≤ (F 6)) ∧ (g7_16 = 0 ∨ g7_16 = 1)) := r16
        refine w_iinc (pc := 19) hC dX12_spells_19 (lv2 := [(2, .int (J (k + 1))), (0, .ref (A 0)), (1, .ref (G.2.2.1 i))]) 2 rfl (by rw [hnL]; decide) rfl ?_
        refine w_goto (pc := 22) hC dX12_spells_22 (tgt := 2) (by decide) ?_
        refine w_sub [1, 2, 0] (lv2 := [(0, .ref (A 0)), (1, .ref (G.2.2.1 i)), (2, .int (J (k + 1)))]) rfl ?_
        refine ih2 (k + 1) g5_16 g7_16 ?_ ?_ ?_ ?_ ?_
        · first | assumption | omega
        · rw [spN_s _ _ _ _ i1.1, ← i2]; exact r16.1
        · first | assumption | omega
        · first | assumption | omega
        · omega
  refine w_sub [1, 2, 0] (lv2 := [(0, .ref (A 0)), (1, .ref (G.2.2.1 i)), (2, .int (J 0))]) rfl ?_
  refine loop2 ((stl i - 0) + 1 : Int).toNat 0 (F 5) (F 7) ?_ ?_ ?_ ?_ ?_
  · first | assumption | omega
  · rfl
  · first | assumption | omega
  · first | assumption | omega
  · omega
set_option maxRecDepth 100000 in
set_option maxHeartbeats 4000000 in
theorem c_X12_among (l : Launch) (G : GT) (A : Nat → Nat) (I : Nat → Int → Int) (F : Nat → Int) (i : Nat) (S0 : Int → Int)  (hi : i < nST) (hT : TP (I 1) S0) (hR : RI S0) (he : (0 ≤ (F 5) ∧ (F 5) ≤ (F 6)) ∧ (F 6) ≤ 120) : CT l yX12_among cX12_among 3 (some .int) 4 0 0 G [.ref (A 0), .ref (G.2.2.1 i)] (MW A G.2.1 I F) (fun vo wo => ∃ (g5 : Int), vo = some (.int (J (SX i (hr S0 (F 6) (F 5))))) ∧ wo = MW A G.2.1 I (fu F 5 g5) ∧ (g5 = (if SX i (hr S0 (F 6) (F 5)) = -1 then (F 5) else (F 5) + 1) ∧ ((F 5) ≤ g5 ∧ g5 ≤ (F 6)))) := by
  refine CT_of (own := RX12) rfl rfl (Nat.le_of_ble_eq_true rfl) (fun K hl hnL hC hRT hin => ?_)
  subst hl
  show WW K G 0 0 (MW A G.2.1 I F) 0 [(0, .ref (A 0)), (1, .ref (G.2.2.1 i))] []
  have hl9 := stl_bd i hi
  have hsx := SX_bd (hr S0 (F 6) (F 5)) hi
  refine w_iconst (pc := 0) hC dX12_among_0 ?_
  refine w_istore_n (pc := 1) hC dX12_among_1 rfl (lv2 := [(2, .int (J 0)), (0, .ref (A 0)), (1, .ref (G.2.2.1 i))]) (by rw [hnL]; decide) rfl ?_
  have loop2 : ∀ (nF : Nat) (k : Int), (0 ≤ k ∧ k ≤ stl i) → (sxF i (hr S0 (F 6) (F 5)) (stl i - k).toNat k = SX i (hr S0 (F 6) (F 5))) → (stl i - k) < (nF : Int) → WW K G 0 0 (MW A G.2.1 I F) 2 [(0, .ref (A 0)), (1, .ref (G.2.2.1 i)), (2, .int (J k))] [] := by
    intro nF
    induction nF with
    | zero => intro k i1 i2 hm2; exact absurd hm2 (by omega)
    | succ nF ih2 =>
      intro k i1 i2 hm2
      refine w_iload_n (pc := 2) hC dX12_among_2 2 rfl rfl ?_
      refine w_aload_n (pc := 3) hC dX12_among_3 1 rfl rfl ?_
      refine w_callVT (pc := 4) (As := []) (rest := [.int (J k)]) hC dX12_among_4 cv_X12_90 (c_J0_length_8abf5 (kl K) G (MW A G.2.1 I F) i (show i < nST from by first | assumption | omega)) (by decide) ⟨Nat.le_of_ble_eq_true rfl, Nat.le_of_ble_eq_true rfl⟩ (i := i) hi rfl (Nat.le_of_ble_eq_true rfl) rfl (fun vo wo hv => ?_)
      obtain ⟨hv1, hw1⟩ := hv
      rw [hv1, hw1]
      show WW K G 0 0 (MW A G.2.1 I F) 7 [(0, .ref (A 0)), (1, .ref (G.2.2.1 i)), (2, .int (J k))] [.int (J (stl i)), .int (J k)]
      have q4_0 := stl_bd i (by assumption)
      refine w_icmp_ge (pc := 7) (tgt := 40) hC dX12_among_7 (by decide) (by omega) (fun c7 => ?_) (fun c7 => ?_)
      · have hk := i2
        rw [show (stl i - k).toNat = 0 by omega] at hk
        have hk2 : SX i (hr S0 (F 6) (F 5)) = -1 := hk.symm
        refine w_iconst (pc := 40) hC dX12_among_40 ?_
        refine w_iret (pc := 41) hC hRT dX12_among_41 rfl ?_
        refine ⟨(F 5), retI (by exact hk2.symm), rfl, ?_⟩
        · rw [if_pos hk2]; omega
      · have hc9 := stc_bd hi i1.1 (show k < stl i by omega)
        refine w_aload_n (pc := 10) hC dX12_among_10 0 rfl rfl ?_
        refine w_callV (pc := 11) (As := []) (rest := []) hC dX12_among_11 cv_X12_87 (c_X12_here (kl K) G A I F S0 (show TP (I 1) S0 from by first | assumption | omega) (show RI S0 from by first | assumption | omega) (show (0 ≤ (F 5) ∧ (F 5) ≤ (F 6)) ∧ (F 6) ≤ 120 from by first | assumption | omega)) (by decide) ⟨Nat.le_of_ble_eq_true rfl, Nat.le_of_ble_eq_true rfl⟩ (q0 := 0) rfl rfl rfl rfl (Nat.le_of_ble_eq_true rfl) rfl (fun vo wo hv => ?_)
        obtain ⟨hv1, hw1⟩ := hv
        rw [hv1, hw1]
        show WW K G 0 0 (MW A G.2.1 I F) 14 [(0, .ref (A 0)), (1, .ref (G.2.2.1 i)), (2, .int (J k))] [.int (J (hr S0 (F 6) (F 5)))]
        have q11_0 := hr_bd (e := (F 6)) (sp := (F 5)) (by assumption : RI S0) (by omega) (by omega)
        refine w_aload_n (pc := 14) hC dX12_among_14 1 rfl rfl ?_
        refine w_iload_n (pc := 15) hC dX12_among_15 2 rfl rfl ?_
        refine w_callVT (pc := 16) (As := [.int (J k)]) (rest := [.int (J (hr S0 (F 6) (F 5)))]) hC dX12_among_16 cv_X12_95 (c_J0_charAt_5068e (kl K) G (MW A G.2.1 I F) i k (show i < nST from by first | assumption | omega) (show 0 ≤ k ∧ k < stl i from by first | assumption | omega)) (by decide) ⟨Nat.le_of_ble_eq_true rfl, Nat.le_of_ble_eq_true rfl⟩ (i := i) hi rfl (Nat.le_of_ble_eq_true rfl) rfl (fun vo wo hv => ?_)
        obtain ⟨hv1, hw1⟩ := hv
        rw [hv1, hw1]
        show WW K G 0 0 (MW A G.2.1 I F) 19 [(0, .ref (A 0)), (1, .ref (G.2.2.1 i)), (2, .int (J k))] [.int (J (stc i k)), .int (J (hr S0 (F 6) (F 5)))]
        have q16_0 := stc_bd (by assumption : i < nST) (by omega : 0 ≤ k) (by omega)
        refine w_icmp_ne (pc := 19) (tgt := 34) hC dX12_among_19 (by decide) (by omega) (fun c19 => ?_) (fun c19 => ?_)
        · refine w_iinc (pc := 34) hC dX12_among_34 (lv2 := [(2, .int (J (k + 1))), (0, .ref (A 0)), (1, .ref (G.2.2.1 i))]) 2 rfl (by rw [hnL]; decide) rfl ?_
          refine w_goto (pc := 37) hC dX12_among_37 (tgt := 2) (by decide) ?_
          refine w_sub [1, 2, 0] (lv2 := [(0, .ref (A 0)), (1, .ref (G.2.2.1 i)), (2, .int (J (k + 1)))]) rfl ?_
          refine ih2 (k + 1) ?_ ?_ ?_
          · first | assumption | omega
          · rw [← i2, sxF_s i _ (show k < stl i by omega), if_neg (fun e => c19 e.symm)]
          · omega
        · have hk := i2
          rw [sxF_s i _ (show k < stl i by omega), if_pos c19.symm] at hk
          have hat := hr_at c19 hc9.1
          refine w_aload_n (pc := 22) hC dX12_among_22 0 rfl rfl ?_
          refine w_dup (pc := 23) hC dX12_among_23 rfl ?_
          refine w_getf (pc := 24) (v := .int (J (F 5))) hC dX12_among_24 fi_X12_77 0 rfl rfl ?_
          refine w_iconst (pc := 27) hC dX12_among_27 ?_
          refine w_iadd (pc := 28) hC dX12_among_28 ?_
          refine w_putf (pc := 29) (w2 := MW A G.2.1 I (fu F 5 ((F 5) + 1))) hC dX12_among_29 fi_X12_77 fp_X12_5 rfl 0 rfl (rfl) (rfl) (Nat.le_of_ble_eq_true rfl) rfl ?_
          refine w_iload_n (pc := 32) hC dX12_among_32 2 rfl rfl ?_
          refine w_iret (pc := 33) hC hRT dX12_among_33 rfl ?_
          refine ⟨(F 5) + 1, retI (by exact hk), rfl, ?_⟩
          · rw [if_neg (by omega)]; omega
  refine w_sub [1, 2, 0] (lv2 := [(0, .ref (A 0)), (1, .ref (G.2.2.1 i)), (2, .int (J 0))]) rfl ?_
  refine loop2 ((stl i - 0) + 1 : Int).toNat 0 ?_ ?_ ?_
  · first | assumption | omega
  · rw [Int.sub_zero]; rfl
  · omega
set_option maxRecDepth 100000 in
set_option maxHeartbeats 4000000 in
theorem c_X12_figures (l : Launch) (G : GT) (A : Nat → Nat) (I : Nat → Int → Int) (F : Nat → Int) (S0 : Int → Int) (ql : List Int)  (hT : TP (I 1) S0) (hR : RI S0) (he : (0 ≤ (F 5) ∧ (F 5) ≤ (F 6)) ∧ (F 6) ≤ 120) (hw : (F 7) = 0 ∨ (F 7) = 1) : CT l yX12_figures cX12_figures 3 (some .int) 1 0 0 G [.ref (A 0)] (MW A G.2.1 I F) (fun vo wo => ∃ (g5 : Int) (g7 : Int), vo = some (.int (J ((figQ S0 (F 6) ((F 5), (F 7), ql)).1))) ∧ wo = MW A G.2.1 I (fu (fu F 5 g5) 7 g7) ∧ ((g5, g7, ql) = (figQ S0 (F 6) ((F 5), (F 7), ql)).2 ∧ ((0 ≤ g5 ∧ g5 ≤ (F 6)) ∧ (g7 = 0 ∨ g7 = 1)))) := by
  refine CT_of (own := RX12) rfl rfl (Nat.le_of_ble_eq_true rfl) (fun K hl hnL hC hRT hin => ?_)
  subst hl
  show WW K G 0 0 (MW A G.2.1 I F) 0 [(0, .ref (A 0))] []
  refine w_aload_n (pc := 0) hC dX12_figures_0 0 rfl rfl ?_
  refine w_aload_n (pc := 1) hC dX12_figures_1 0 rfl rfl ?_
  refine w_getf (pc := 2) (v := .int (J (F 7))) hC dX12_figures_2 fi_X12_83 0 rfl rfl ?_
  refine w_if_ne (pc := 5) (tgt := 22) hC dX12_figures_5 (by decide) (by omega) (fun c5 => ?_) (fun c5 => ?_)
  · refine w_iconst (pc := 22) hC dX12_figures_22 ?_
    refine w_goto (pc := 23) hC dX12_figures_23 (tgt := 27) (by decide) ?_
    refine w_putf (pc := 27) (w2 := MW A G.2.1 I (fu F 7 1)) hC dX12_figures_27 fi_X12_83 fp_X12_7 rfl 0 rfl (rfl) (rfl) (Nat.le_of_ble_eq_true rfl) rfl ?_
    refine w_iconst (pc := 30) hC dX12_figures_30 ?_
    refine w_istore_n (pc := 31) hC dX12_figures_31 rfl (lv2 := [(1, .int (J 0)), (0, .ref (A 0))]) (by rw [hnL]; decide) rfl ?_
    refine w_iconst (pc := 32) hC dX12_figures_32 ?_
    refine w_istore_n (pc := 33) hC dX12_figures_33 rfl (lv2 := [(2, .int (J 0)), (1, .int (J 0)), (0, .ref (A 0))]) (by rw [hnL]; decide) rfl ?_
    have loop34 : ∀ (nF : Nat) (v : Int) (k : Int) (f5_34 : Int), (0 ≤ k ∧ k ≤ 2) → ((k = 0 ∧ v = 0 ∧ f5_34 = F 5) ∨ ((48 ≤ hr S0 (F 6) (F 5) ∧ hr S0 (F 6) (F 5) ≤ 57) ∧ k = 1 ∧ v = hr S0 (F 6) (F 5) - 48 ∧ f5_34 = F 5 + 1) ∨ ((48 ≤ hr S0 (F 6) (F 5) ∧ hr S0 (F 6) (F 5) ≤ 57) ∧ k = 2 ∧ v = 10 * (hr S0 (F 6) (F 5) - 48) + hr S0 (F 6) (F 5 + 1) - 48 ∧ f5_34 = F 5 + 2 ∧ 0 < hr S0 (F 6) (F 5) - 48 ∧ 48 ≤ hr S0 (F 6) (F 5 + 1) ∧ hr S0 (F 6) (F 5 + 1) ≤ 57)) → (0 ≤ f5_34 ∧ f5_34 ≤ (F 6)) → (1 = 0 ∨ k = 0) → (2 - k) < (nF : Int) → WW K G 0 0 (MW A G.2.1 I (fu (fu F 5 f5_34) 7 1)) 34 [(0, .ref (A 0)), (1, .int (J v)), (2, .int (J k))] [] := by
      intro nF
      induction nF with
      | zero => intro v k f5_34 i1 i2 i3 i4 hm34; exact absurd hm34 (by omega)
      | succ nF ih34 =>
        intro v k f5_34 i1 i2 i3 i4 hm34
        refine w_iload_n (pc := 34) hC dX12_figures_34 2 rfl rfl ?_
        refine w_iconst (pc := 35) hC dX12_figures_35 ?_
        refine w_icmp_ge (pc := 36) (tgt := 97) hC dX12_figures_36 (by decide) (by omega) (fun c36 => ?_) (fun c36 => ?_)
        · refine w_iload_n (pc := 97) hC dX12_figures_97 1 rfl rfl ?_
          refine w_iret (pc := 98) hC hRT dX12_figures_98 rfl ?_
          refine ⟨f5_34, 1, retI (by first | (unfold figQ; dsimp only; rw [if_pos (by omega)]; dsimp only; omega) | ((rcases i2 with ⟨e1, e2, e3⟩ | ⟨e0, e1, e2, e3⟩ | ⟨e0, e1, e2, e3, e4⟩) <;> first | (exfalso; subst e3; omega) | (subst e3; unfold figQ; dsimp only; rw [if_neg (by omega)]; dsimp only; unfold fgv; first | (rw [if_pos (by omega)]; omega) | (rw [if_neg (by omega)]; omega)))), rfl, ?_⟩
          · refine ⟨?_, by omega, by omega⟩
            first | (unfold figQ; dsimp only; rw [if_pos (by omega)]; dsimp only; rw [show f5_34 = F 5 by omega]) | ((rcases i2 with ⟨e1, e2, e3⟩ | ⟨e0, e1, e2, e3⟩ | ⟨e0, e1, e2, e3, e4⟩) <;> first | (exfalso; subst e3; omega) | (subst e3; unfold figQ; dsimp only; rw [if_neg (by omega)]; dsimp only; unfold fgs; first | (rw [if_pos (by omega)]) | (rw [if_neg (by omega)])))
        · refine w_aload_n (pc := 39) hC dX12_figures_39 0 rfl rfl ?_
          refine w_getf (pc := 40) (v := .int (J 1)) hC dX12_figures_40 fi_X12_83 0 rfl rfl ?_
          refine w_if_ne (pc := 43) (tgt := 97) hC dX12_figures_43 (by decide) (by omega) (fun c43 => ?_) (fun c43 => ?_)
          · refine w_iload_n (pc := 97) hC dX12_figures_97 1 rfl rfl ?_
            refine w_iret (pc := 98) hC hRT dX12_figures_98 rfl ?_
            refine ⟨f5_34, 1, retI (by first | (unfold figQ; dsimp only; rw [if_pos (by omega)]; dsimp only; omega) | ((rcases i2 with ⟨e1, e2, e3⟩ | ⟨e0, e1, e2, e3⟩ | ⟨e0, e1, e2, e3, e4⟩) <;> first | (exfalso; subst e3; omega) | (subst e3; unfold figQ; dsimp only; rw [if_neg (by omega)]; dsimp only; unfold fgv; first | (rw [if_pos (by omega)]; omega) | (rw [if_neg (by omega)]; omega)))), rfl, ?_⟩
            · refine ⟨?_, by omega, by omega⟩
              first | (unfold figQ; dsimp only; rw [if_pos (by omega)]; dsimp only; rw [show f5_34 = F 5 by omega]) | ((rcases i2 with ⟨e1, e2, e3⟩ | ⟨e0, e1, e2, e3⟩ | ⟨e0, e1, e2, e3, e4⟩) <;> first | (exfalso; subst e3; omega) | (subst e3; unfold figQ; dsimp only; rw [if_neg (by omega)]; dsimp only; unfold fgs; first | (rw [if_pos (by omega)]) | (rw [if_neg (by omega)])))
          · exact absurd c43 (by decide)
    refine w_sub [2, 1, 0] (lv2 := [(0, .ref (A 0)), (1, .int (J 0)), (2, .int (J 0))]) rfl ?_
    refine loop34 ((2 - 0) + 1 : Int).toNat 0 0 (F 5) ?_ ?_ ?_ ?_ ?_
    · first | assumption | omega
    · exact Or.inl ⟨rfl, rfl, rfl⟩
    · omega
    · first | assumption | omega
    · omega
  · refine w_aload_n (pc := 8) hC dX12_figures_8 0 rfl rfl ?_
    refine w_callV (pc := 9) (As := []) (rest := [.ref (A 0)]) hC dX12_figures_9 cv_X12_87 (c_X12_here (kl K) G A I F S0 (show TP (I 1) S0 from by first | assumption | omega) (show RI S0 from by first | assumption | omega) (show (0 ≤ (F 5) ∧ (F 5) ≤ (F 6)) ∧ (F 6) ≤ 120 from by first | assumption | omega)) (by decide) ⟨Nat.le_of_ble_eq_true rfl, Nat.le_of_ble_eq_true rfl⟩ (q0 := 0) rfl rfl rfl rfl (Nat.le_of_ble_eq_true rfl) rfl (fun vo wo hv => ?_)
    obtain ⟨hv1, hw1⟩ := hv
    rw [hv1, hw1]
    show WW K G 0 0 (MW A G.2.1 I F) 12 [(0, .ref (A 0))] [.int (J (hr S0 (F 6) (F 5))), .ref (A 0)]
    have q9_0 := hr_bd (e := (F 6)) (sp := (F 5)) (by assumption : RI S0) (by omega) (by omega)
    refine w_bipush (pc := 12) hC dX12_figures_12 (z := 48) rfl ?_
    refine w_bipush (pc := 14) hC dX12_figures_14 (z := 57) rfl ?_
    refine w_callS (pc := 16) (As := [.int (J (hr S0 (F 6) (F 5))), .int (J 48), .int (J 57)]) (rest := [.ref (A 0)]) hC dX12_figures_16 cs_X12_48 (c_X12_in (kl K) G (MW A G.2.1 I F) (hr S0 (F 6) (F 5)) 48 57 (show (-2147483648 ≤ (hr S0 (F 6) (F 5)) ∧ (hr S0 (F 6) (F 5)) < 2147483648) ∧ (-2147483648 ≤ 48 ∧ 48 < 2147483648) ∧ -2147483648 ≤ 57 ∧ 57 < 2147483648 from by first | assumption | omega)) (by decide) ⟨Nat.le_of_ble_eq_true rfl, Nat.le_of_ble_eq_true rfl⟩ rfl (Nat.le_of_ble_eq_true rfl) rfl (fun vo wo hv => ?_)
    obtain ⟨hv1, hw1⟩ := hv
    rw [hv1, hw1]
    show WW K G 0 0 (MW A G.2.1 I F) 19 [(0, .ref (A 0))] [.int (J (bI (48 ≤ (hr S0 (F 6) (F 5)) ∧ (hr S0 (F 6) (F 5)) ≤ 57))), .ref (A 0)]
    refine w_if_ne_b (pc := 19) (tgt := 26) hC dX12_figures_19 (by decide) (fun c19 => ?_) (fun c19 => ?_)
    · refine w_iconst (pc := 26) hC dX12_figures_26 ?_
      refine w_putf (pc := 27) (w2 := MW A G.2.1 I (fu F 7 0)) hC dX12_figures_27 fi_X12_83 fp_X12_7 rfl 0 rfl (rfl) (rfl) (Nat.le_of_ble_eq_true rfl) rfl ?_
      refine w_iconst (pc := 30) hC dX12_figures_30 ?_
      refine w_istore_n (pc := 31) hC dX12_figures_31 rfl (lv2 := [(1, .int (J 0)), (0, .ref (A 0))]) (by rw [hnL]; decide) rfl ?_
      refine w_iconst (pc := 32) hC dX12_figures_32 ?_
      refine w_istore_n (pc := 33) hC dX12_figures_33 rfl (lv2 := [(2, .int (J 0)), (1, .int (J 0)), (0, .ref (A 0))]) (by rw [hnL]; decide) rfl ?_
      have loop34 : ∀ (nF : Nat) (v : Int) (k : Int) (f5_34 : Int), (0 ≤ k ∧ k ≤ 2) → ((k = 0 ∧ v = 0 ∧ f5_34 = F 5) ∨ ((48 ≤ hr S0 (F 6) (F 5) ∧ hr S0 (F 6) (F 5) ≤ 57) ∧ k = 1 ∧ v = hr S0 (F 6) (F 5) - 48 ∧ f5_34 = F 5 + 1) ∨ ((48 ≤ hr S0 (F 6) (F 5) ∧ hr S0 (F 6) (F 5) ≤ 57) ∧ k = 2 ∧ v = 10 * (hr S0 (F 6) (F 5) - 48) + hr S0 (F 6) (F 5 + 1) - 48 ∧ f5_34 = F 5 + 2 ∧ 0 < hr S0 (F 6) (F 5) - 48 ∧ 48 ≤ hr S0 (F 6) (F 5 + 1) ∧ hr S0 (F 6) (F 5 + 1) ≤ 57)) → (0 ≤ f5_34 ∧ f5_34 ≤ (F 6)) → (0 = 0 ∨ k = 0) → (2 - k) < (nF : Int) → WW K G 0 0 (MW A G.2.1 I (fu (fu F 5 f5_34) 7 0)) 34 [(0, .ref (A 0)), (1, .int (J v)), (2, .int (J k))] [] := by
        intro nF
        induction nF with
        | zero => intro v k f5_34 i1 i2 i3 i4 hm34; exact absurd hm34 (by omega)
        | succ nF ih34 =>
          intro v k f5_34 i1 i2 i3 i4 hm34
          refine w_iload_n (pc := 34) hC dX12_figures_34 2 rfl rfl ?_
          refine w_iconst (pc := 35) hC dX12_figures_35 ?_
          refine w_icmp_ge (pc := 36) (tgt := 97) hC dX12_figures_36 (by decide) (by omega) (fun c36 => ?_) (fun c36 => ?_)
          · refine w_iload_n (pc := 97) hC dX12_figures_97 1 rfl rfl ?_
            refine w_iret (pc := 98) hC hRT dX12_figures_98 rfl ?_
            refine ⟨f5_34, 0, retI (by first | (unfold figQ; dsimp only; rw [if_pos (by omega)]; dsimp only; omega) | ((rcases i2 with ⟨e1, e2, e3⟩ | ⟨e0, e1, e2, e3⟩ | ⟨e0, e1, e2, e3, e4⟩) <;> first | (exfalso; subst e3; omega) | (subst e3; unfold figQ; dsimp only; rw [if_neg (by omega)]; dsimp only; unfold fgv; first | (rw [if_pos (by omega)]; omega) | (rw [if_neg (by omega)]; omega)))), rfl, ?_⟩
            · refine ⟨?_, by omega, by omega⟩
              first | (unfold figQ; dsimp only; rw [if_pos (by omega)]; dsimp only; rw [show f5_34 = F 5 by omega]) | ((rcases i2 with ⟨e1, e2, e3⟩ | ⟨e0, e1, e2, e3⟩ | ⟨e0, e1, e2, e3, e4⟩) <;> first | (exfalso; subst e3; omega) | (subst e3; unfold figQ; dsimp only; rw [if_neg (by omega)]; dsimp only; unfold fgs; first | (rw [if_pos (by omega)]) | (rw [if_neg (by omega)])))
          · refine w_aload_n (pc := 39) hC dX12_figures_39 0 rfl rfl ?_
            refine w_getf (pc := 40) (v := .int (J 0)) hC dX12_figures_40 fi_X12_83 0 rfl rfl ?_
            refine w_if_ne (pc := 43) (tgt := 97) hC dX12_figures_43 (by decide) (by omega) (fun c43 => ?_) (fun c43 => ?_)
            · exact absurd c43 (by decide)
            · refine w_aload_n (pc := 46) hC dX12_figures_46 0 rfl rfl ?_
              refine w_callV (pc := 47) (As := []) (rest := []) hC dX12_figures_47 cv_X12_87 (c_X12_here (kl K) G A I (fu (fu F 5 f5_34) 7 0) S0 (show TP (I 1) S0 from by first | assumption | omega) (show RI S0 from by first | assumption | omega) (show (0 ≤ f5_34 ∧ f5_34 ≤ (F 6)) ∧ (F 6) ≤ 120 from by first | assumption | omega)) (by decide) ⟨Nat.le_of_ble_eq_true rfl, Nat.le_of_ble_eq_true rfl⟩ (q0 := 0) rfl rfl rfl rfl (Nat.le_of_ble_eq_true rfl) rfl (fun vo wo hv => ?_)
              obtain ⟨hv1, hw1⟩ := hv
              rw [hv1, hw1]
              show WW K G 0 0 (MW A G.2.1 I (fu (fu F 5 f5_34) 7 0)) 50 [(0, .ref (A 0)), (1, .int (J v)), (2, .int (J k))] [.int (J (hr S0 (F 6) f5_34))]
              have q47_0 := hr_bd (e := (F 6)) (sp := f5_34) (by assumption : RI S0) (by omega) (by omega)
              refine w_bipush (pc := 50) hC dX12_figures_50 (z := 48) rfl ?_
              refine w_bipush (pc := 52) hC dX12_figures_52 (z := 57) rfl ?_
              refine w_callS (pc := 54) (As := [.int (J (hr S0 (F 6) f5_34)), .int (J 48), .int (J 57)]) (rest := []) hC dX12_figures_54 cs_X12_48 (c_X12_in (kl K) G (MW A G.2.1 I (fu (fu F 5 f5_34) 7 0)) (hr S0 (F 6) f5_34) 48 57 (show (-2147483648 ≤ (hr S0 (F 6) f5_34) ∧ (hr S0 (F 6) f5_34) < 2147483648) ∧ (-2147483648 ≤ 48 ∧ 48 < 2147483648) ∧ -2147483648 ≤ 57 ∧ 57 < 2147483648 from by first | assumption | omega)) (by decide) ⟨Nat.le_of_ble_eq_true rfl, Nat.le_of_ble_eq_true rfl⟩ rfl (Nat.le_of_ble_eq_true rfl) rfl (fun vo wo hv => ?_)
              obtain ⟨hv1, hw1⟩ := hv
              rw [hv1, hw1]
              show WW K G 0 0 (MW A G.2.1 I (fu (fu F 5 f5_34) 7 0)) 57 [(0, .ref (A 0)), (1, .int (J v)), (2, .int (J k))] [.int (J (bI (48 ≤ (hr S0 (F 6) f5_34) ∧ (hr S0 (F 6) f5_34) ≤ 57)))]
              refine w_if_eq_b (pc := 57) (tgt := 97) hC dX12_figures_57 (by decide) (fun c57 => ?_) (fun c57 => ?_)
              · refine w_iload_n (pc := 97) hC dX12_figures_97 1 rfl rfl ?_
                refine w_iret (pc := 98) hC hRT dX12_figures_98 rfl ?_
                refine ⟨f5_34, 0, retI (by first | (unfold figQ; dsimp only; rw [if_pos (by omega)]; dsimp only; omega) | ((rcases i2 with ⟨e1, e2, e3⟩ | ⟨e0, e1, e2, e3⟩ | ⟨e0, e1, e2, e3, e4⟩) <;> first | (exfalso; subst e3; omega) | (subst e3; unfold figQ; dsimp only; rw [if_neg (by omega)]; dsimp only; unfold fgv; first | (rw [if_pos (by omega)]; omega) | (rw [if_neg (by omega)]; omega)))), rfl, ?_⟩
                · refine ⟨?_, by omega, by omega⟩
                  first | (unfold figQ; dsimp only; rw [if_pos (by omega)]; dsimp only; rw [show f5_34 = F 5 by omega]) | ((rcases i2 with ⟨e1, e2, e3⟩ | ⟨e0, e1, e2, e3⟩ | ⟨e0, e1, e2, e3, e4⟩) <;> first | (exfalso; subst e3; omega) | (subst e3; unfold figQ; dsimp only; rw [if_neg (by omega)]; dsimp only; unfold fgs; first | (rw [if_pos (by omega)]) | (rw [if_neg (by omega)])))
              · refine w_iload_n (pc := 60) hC dX12_figures_60 2 rfl rfl ?_
                refine w_if_eq (pc := 61) (tgt := 68) hC dX12_figures_61 (by decide) (by omega) (fun c61 => ?_) (fun c61 => ?_)
                · refine w_bipush (pc := 68) hC dX12_figures_68 (z := 10) rfl ?_
                  refine w_iload_n (pc := 70) hC dX12_figures_70 1 rfl rfl ?_
                  refine w_imul (pc := 71) hC dX12_figures_71 ?_
                  refine w_aload_n (pc := 72) hC dX12_figures_72 0 rfl rfl ?_
                  refine w_callV (pc := 73) (As := []) (rest := [.int (J (10 * v))]) hC dX12_figures_73 cv_X12_87 (c_X12_here (kl K) G A I (fu (fu F 5 f5_34) 7 0) S0 (show TP (I 1) S0 from by first | assumption | omega) (show RI S0 from by first | assumption | omega) (show (0 ≤ f5_34 ∧ f5_34 ≤ (F 6)) ∧ (F 6) ≤ 120 from by first | assumption | omega)) (by decide) ⟨Nat.le_of_ble_eq_true rfl, Nat.le_of_ble_eq_true rfl⟩ (q0 := 0) rfl rfl rfl rfl (Nat.le_of_ble_eq_true rfl) rfl (fun vo wo hv => ?_)
                  obtain ⟨hv1, hw1⟩ := hv
                  rw [hv1, hw1]
                  show WW K G 0 0 (MW A G.2.1 I (fu (fu F 5 f5_34) 7 0)) 76 [(0, .ref (A 0)), (1, .int (J v)), (2, .int (J k))] [.int (J (hr S0 (F 6) f5_34)), .int (J (10 * v))]
                  have q73_0 := hr_bd (e := (F 6)) (sp := f5_34) (by assumption : RI S0) (by omega) (by omega)
                  refine w_iadd (pc := 76) hC dX12_figures_76 ?_
                  refine w_bipush (pc := 77) hC dX12_figures_77 (z := 48) rfl ?_
                  refine w_isub (pc := 79) hC dX12_figures_79 ?_
                  refine w_istore_n (pc := 80) hC dX12_figures_80 rfl (lv2 := [(1, .int (J (((10 * v) + (hr S0 (F 6) f5_34)) - 48))), (0, .ref (A 0)), (2, .int (J k))]) (by rw [hnL]; decide) rfl ?_
                  refine w_aload_n (pc := 81) hC dX12_figures_81 1 rfl rfl ?_
                  refine w_dup (pc := 82) hC dX12_figures_82 rfl ?_
                  refine w_getf (pc := 83) (v := .int (J f5_34)) hC dX12_figures_83 fi_X12_77 0 rfl rfl ?_
                  refine w_iconst (pc := 86) hC dX12_figures_86 ?_
                  refine w_iadd (pc := 87) hC dX12_figures_87 ?_
                  refine w_putf (pc := 88) (w2 := MW A G.2.1 I (fu (fu F 5 (f5_34 + 1)) 7 0)) hC dX12_figures_88 fi_X12_77 fp_X12_5 rfl 0 rfl (rfl) (rfl) (Nat.le_of_ble_eq_true rfl) rfl ?_
                  refine w_iinc (pc := 91) hC dX12_figures_91 (lv2 := [(2, .int (J (k + 1))), (1, .int (J (((10 * v) + (hr S0 (F 6) f5_34)) - 48))), (0, .ref (A 0))]) 2 rfl (by rw [hnL]; decide) rfl ?_
                  refine w_goto (pc := 94) hC dX12_figures_94 (tgt := 34) (by decide) ?_
                  refine w_sub [2, 1, 0] (lv2 := [(0, .ref (A 0)), (1, .int (J (((10 * v) + (hr S0 (F 6) f5_34)) - 48))), (2, .int (J (k + 1)))]) rfl ?_
                  refine ih34 (((10 * v) + (hr S0 (F 6) f5_34)) - 48) (k + 1) (f5_34 + 1) ?_ ?_ ?_ ?_ ?_
                  · first | assumption | omega
                  · (rcases i2 with ⟨e1, e2, e3⟩ | ⟨e0, e1, e2, e3⟩ | ⟨e0, e1, e2⟩) <;> first | (exfalso; omega) | (subst e3; first | exact Or.inr (Or.inl ⟨by omega, by omega, by omega, by omega⟩) | exact Or.inr (Or.inr ⟨e0, by omega, by omega, by omega, by omega, by omega, by omega⟩))
                  · have hat := hr_at (S := S0) (e := F 6) (sp := f5_34) rfl (by omega); omega
                  · first | assumption | omega
                  · omega
                · refine w_iload_n (pc := 64) hC dX12_figures_64 1 rfl rfl ?_
                  refine w_if_le (pc := 65) (tgt := 97) hC dX12_figures_65 (by decide) (by omega) (fun c65 => ?_) (fun c65 => ?_)
                  · refine w_iload_n (pc := 97) hC dX12_figures_97 1 rfl rfl ?_
                    refine w_iret (pc := 98) hC hRT dX12_figures_98 rfl ?_
                    refine ⟨f5_34, 0, retI (by first | (unfold figQ; dsimp only; rw [if_pos (by omega)]; dsimp only; omega) | ((rcases i2 with ⟨e1, e2, e3⟩ | ⟨e0, e1, e2, e3⟩ | ⟨e0, e1, e2, e3, e4⟩) <;> first | (exfalso; subst e3; omega) | (subst e3; unfold figQ; dsimp only; rw [if_neg (by omega)]; dsimp only; unfold fgv; first | (rw [if_pos (by omega)]; omega) | (rw [if_neg (by omega)]; omega)))), rfl, ?_⟩
                    · refine ⟨?_, by omega, by omega⟩
                      first | (unfold figQ; dsimp only; rw [if_pos (by omega)]; dsimp only; rw [show f5_34 = F 5 by omega]) | ((rcases i2 with ⟨e1, e2, e3⟩ | ⟨e0, e1, e2, e3⟩ | ⟨e0, e1, e2, e3, e4⟩) <;> first | (exfalso; subst e3; omega) | (subst e3; unfold figQ; dsimp only; rw [if_neg (by omega)]; dsimp only; unfold fgs; first | (rw [if_pos (by omega)]) | (rw [if_neg (by omega)])))
                  · refine w_bipush (pc := 68) hC dX12_figures_68 (z := 10) rfl ?_
                    refine w_iload_n (pc := 70) hC dX12_figures_70 1 rfl rfl ?_
                    refine w_imul (pc := 71) hC dX12_figures_71 ?_
                    refine w_aload_n (pc := 72) hC dX12_figures_72 0 rfl rfl ?_
                    refine w_callV (pc := 73) (As := []) (rest := [.int (J (10 * v))]) hC dX12_figures_73 cv_X12_87 (c_X12_here (kl K) G A I (fu (fu F 5 f5_34) 7 0) S0 (show TP (I 1) S0 from by first | assumption | omega) (show RI S0 from by first | assumption | omega) (show (0 ≤ f5_34 ∧ f5_34 ≤ (F 6)) ∧ (F 6) ≤ 120 from by first | assumption | omega)) (by decide) ⟨Nat.le_of_ble_eq_true rfl, Nat.le_of_ble_eq_true rfl⟩ (q0 := 0) rfl rfl rfl rfl (Nat.le_of_ble_eq_true rfl) rfl (fun vo wo hv => ?_)
                    obtain ⟨hv1, hw1⟩ := hv
                    rw [hv1, hw1]
                    show WW K G 0 0 (MW A G.2.1 I (fu (fu F 5 f5_34) 7 0)) 76 [(0, .ref (A 0)), (1, .int (J v)), (2, .int (J k))] [.int (J (hr S0 (F 6) f5_34)), .int (J (10 * v))]
                    have q73_0 := hr_bd (e := (F 6)) (sp := f5_34) (by assumption : RI S0) (by omega) (by omega)
                    refine w_iadd (pc := 76) hC dX12_figures_76 ?_
                    refine w_bipush (pc := 77) hC dX12_figures_77 (z := 48) rfl ?_
                    refine w_isub (pc := 79) hC dX12_figures_79 ?_
                    refine w_istore_n (pc := 80) hC dX12_figures_80 rfl (lv2 := [(1, .int (J (((10 * v) + (hr S0 (F 6) f5_34)) - 48))), (0, .ref (A 0)), (2, .int (J k))]) (by rw [hnL]; decide) rfl ?_
                    refine w_aload_n (pc := 81) hC dX12_figures_81 1 rfl rfl ?_
                    refine w_dup (pc := 82) hC dX12_figures_82 rfl ?_
                    refine w_getf (pc := 83) (v := .int (J f5_34)) hC dX12_figures_83 fi_X12_77 0 rfl rfl ?_
                    refine w_iconst (pc := 86) hC dX12_figures_86 ?_
                    refine w_iadd (pc := 87) hC dX12_figures_87 ?_
                    refine w_putf (pc := 88) (w2 := MW A G.2.1 I (fu (fu F 5 (f5_34 + 1)) 7 0)) hC dX12_figures_88 fi_X12_77 fp_X12_5 rfl 0 rfl (rfl) (rfl) (Nat.le_of_ble_eq_true rfl) rfl ?_
                    refine w_iinc (pc := 91) hC dX12_figures_91 (lv2 := [(2, .int (J (k + 1))), (1, .int (J (((10 * v) + (hr S0 (F 6) f5_34)) - 48))), (0, .ref (A 0))]) 2 rfl (by rw [hnL]; decide) rfl ?_
                    refine w_goto (pc := 94) hC dX12_figures_94 (tgt := 34) (by decide) ?_
                    refine w_sub [2, 1, 0] (lv2 := [(0, .ref (A 0)), (1, .int (J (((10 * v) + (hr S0 (F 6) f5_34)) - 48))), (2, .int (J (k + 1)))]) rfl ?_
                    refine ih34 (((10 * v) + (hr S0 (F 6) f5_34)) - 48) (k + 1) (f5_34 + 1) ?_ ?_ ?_ ?_ ?_
                    · first | assumption | omega
                    · (rcases i2 with ⟨e1, e2, e3⟩ | ⟨e0, e1, e2, e3⟩ | ⟨e0, e1, e2⟩) <;> first | (exfalso; omega) | (subst e3; first | exact Or.inr (Or.inl ⟨by omega, by omega, by omega, by omega⟩) | exact Or.inr (Or.inr ⟨e0, by omega, by omega, by omega, by omega, by omega, by omega⟩))
                    · have hat := hr_at (S := S0) (e := F 6) (sp := f5_34) rfl (by omega); omega
                    · first | assumption | omega
                    · omega
      refine w_sub [2, 1, 0] (lv2 := [(0, .ref (A 0)), (1, .int (J 0)), (2, .int (J 0))]) rfl ?_
      refine loop34 ((2 - 0) + 1 : Int).toNat 0 0 (F 5) ?_ ?_ ?_ ?_ ?_
      · first | assumption | omega
      · exact Or.inl ⟨rfl, rfl, rfl⟩
      · omega
      · first | assumption | omega
      · omega
    · refine w_iconst (pc := 22) hC dX12_figures_22 ?_
      refine w_goto (pc := 23) hC dX12_figures_23 (tgt := 27) (by decide) ?_
      refine w_putf (pc := 27) (w2 := MW A G.2.1 I (fu F 7 1)) hC dX12_figures_27 fi_X12_83 fp_X12_7 rfl 0 rfl (rfl) (rfl) (Nat.le_of_ble_eq_true rfl) rfl ?_
      refine w_iconst (pc := 30) hC dX12_figures_30 ?_
      refine w_istore_n (pc := 31) hC dX12_figures_31 rfl (lv2 := [(1, .int (J 0)), (0, .ref (A 0))]) (by rw [hnL]; decide) rfl ?_
      refine w_iconst (pc := 32) hC dX12_figures_32 ?_
      refine w_istore_n (pc := 33) hC dX12_figures_33 rfl (lv2 := [(2, .int (J 0)), (1, .int (J 0)), (0, .ref (A 0))]) (by rw [hnL]; decide) rfl ?_
      have loop34 : ∀ (nF : Nat) (v : Int) (k : Int) (f5_34 : Int), (0 ≤ k ∧ k ≤ 2) → ((k = 0 ∧ v = 0 ∧ f5_34 = F 5) ∨ ((48 ≤ hr S0 (F 6) (F 5) ∧ hr S0 (F 6) (F 5) ≤ 57) ∧ k = 1 ∧ v = hr S0 (F 6) (F 5) - 48 ∧ f5_34 = F 5 + 1) ∨ ((48 ≤ hr S0 (F 6) (F 5) ∧ hr S0 (F 6) (F 5) ≤ 57) ∧ k = 2 ∧ v = 10 * (hr S0 (F 6) (F 5) - 48) + hr S0 (F 6) (F 5 + 1) - 48 ∧ f5_34 = F 5 + 2 ∧ 0 < hr S0 (F 6) (F 5) - 48 ∧ 48 ≤ hr S0 (F 6) (F 5 + 1) ∧ hr S0 (F 6) (F 5 + 1) ≤ 57)) → (0 ≤ f5_34 ∧ f5_34 ≤ (F 6)) → (1 = 0 ∨ k = 0) → (2 - k) < (nF : Int) → WW K G 0 0 (MW A G.2.1 I (fu (fu F 5 f5_34) 7 1)) 34 [(0, .ref (A 0)), (1, .int (J v)), (2, .int (J k))] [] := by
        intro nF
        induction nF with
        | zero => intro v k f5_34 i1 i2 i3 i4 hm34; exact absurd hm34 (by omega)
        | succ nF ih34 =>
          intro v k f5_34 i1 i2 i3 i4 hm34
          refine w_iload_n (pc := 34) hC dX12_figures_34 2 rfl rfl ?_
          refine w_iconst (pc := 35) hC dX12_figures_35 ?_
          refine w_icmp_ge (pc := 36) (tgt := 97) hC dX12_figures_36 (by decide) (by omega) (fun c36 => ?_) (fun c36 => ?_)
          · refine w_iload_n (pc := 97) hC dX12_figures_97 1 rfl rfl ?_
            refine w_iret (pc := 98) hC hRT dX12_figures_98 rfl ?_
            refine ⟨f5_34, 1, retI (by first | (unfold figQ; dsimp only; rw [if_pos (by omega)]; dsimp only; omega) | ((rcases i2 with ⟨e1, e2, e3⟩ | ⟨e0, e1, e2, e3⟩ | ⟨e0, e1, e2, e3, e4⟩) <;> first | (exfalso; subst e3; omega) | (subst e3; unfold figQ; dsimp only; rw [if_neg (by omega)]; dsimp only; unfold fgv; first | (rw [if_pos (by omega)]; omega) | (rw [if_neg (by omega)]; omega)))), rfl, ?_⟩
            · refine ⟨?_, by omega, by omega⟩
              first | (unfold figQ; dsimp only; rw [if_pos (by omega)]; dsimp only; rw [show f5_34 = F 5 by omega]) | ((rcases i2 with ⟨e1, e2, e3⟩ | ⟨e0, e1, e2, e3⟩ | ⟨e0, e1, e2, e3, e4⟩) <;> first | (exfalso; subst e3; omega) | (subst e3; unfold figQ; dsimp only; rw [if_neg (by omega)]; dsimp only; unfold fgs; first | (rw [if_pos (by omega)]) | (rw [if_neg (by omega)])))
          · refine w_aload_n (pc := 39) hC dX12_figures_39 0 rfl rfl ?_
            refine w_getf (pc := 40) (v := .int (J 1)) hC dX12_figures_40 fi_X12_83 0 rfl rfl ?_
            refine w_if_ne (pc := 43) (tgt := 97) hC dX12_figures_43 (by decide) (by omega) (fun c43 => ?_) (fun c43 => ?_)
            · refine w_iload_n (pc := 97) hC dX12_figures_97 1 rfl rfl ?_
              refine w_iret (pc := 98) hC hRT dX12_figures_98 rfl ?_
              refine ⟨f5_34, 1, retI (by first | (unfold figQ; dsimp only; rw [if_pos (by omega)]; dsimp only; omega) | ((rcases i2 with ⟨e1, e2, e3⟩ | ⟨e0, e1, e2, e3⟩ | ⟨e0, e1, e2, e3, e4⟩) <;> first | (exfalso; subst e3; omega) | (subst e3; unfold figQ; dsimp only; rw [if_neg (by omega)]; dsimp only; unfold fgv; first | (rw [if_pos (by omega)]; omega) | (rw [if_neg (by omega)]; omega)))), rfl, ?_⟩
              · refine ⟨?_, by omega, by omega⟩
                first | (unfold figQ; dsimp only; rw [if_pos (by omega)]; dsimp only; rw [show f5_34 = F 5 by omega]) | ((rcases i2 with ⟨e1, e2, e3⟩ | ⟨e0, e1, e2, e3⟩ | ⟨e0, e1, e2, e3, e4⟩) <;> first | (exfalso; subst e3; omega) | (subst e3; unfold figQ; dsimp only; rw [if_neg (by omega)]; dsimp only; unfold fgs; first | (rw [if_pos (by omega)]) | (rw [if_neg (by omega)])))
            · exact absurd c43 (by decide)
      refine w_sub [2, 1, 0] (lv2 := [(0, .ref (A 0)), (1, .int (J 0)), (2, .int (J 0))]) rfl ?_
      refine loop34 ((2 - 0) + 1 : Int).toNat 0 0 (F 5) ?_ ?_ ?_ ?_ ?_
      · first | assumption | omega
      · exact Or.inl ⟨rfl, rfl, rfl⟩
      · omega
      · first | assumption | omega
      · omega
set_option maxRecDepth 100000 in
set_option maxHeartbeats 4000000 in
theorem c_X12_emits (l : Launch) (G : GT) (A : Nat → Nat) (I : Nat → Int → Int) (F : Nat → Int) (S0 : Int → Int) (ql : List Int) (u : Int) (wi : Int) (step : Int) (hS : (I 1) = CLS S0 (F 4) ql u wi) (ha : 0 ≤ (F 4) ∧ (F 4) < 5) (hw : (F 7) = 0 ∨ (F 7) = 1) (hs : -2147483648 ≤ step ∧ step < 2147483648) (hl : (ql.length : Int) < 140) : CT l yX12_emits cX12_emits 2 none 0 0 0 G [.ref (A 0), .int (J step)] (MW A G.2.1 I F) (fun vo wo => ∃ (b1 : Int → Int), vo = none ∧ wo = MW A G.2.1 (au I 1 b1) F ∧ (b1 = CLS S0 (F 4) (emt step ((F 5), (F 7), ql)).2.2 u wi)) := by
  refine CT_of (own := RX12) rfl rfl (Nat.le_of_ble_eq_true rfl) (fun K hl hnL hC hRT hin => ?_)
  subst hl
  show WW K G 0 0 (MW A G.2.1 I F) 0 [(0, .ref (A 0)), (1, .int (J step))] []
  have h188 := CLS_188 (S := S0) (a := F 4) (l := ql) (u := u) (w := wi) ha.1
  rw [← hS] at h188
  refine w_aload_n (pc := 0) hC dX12_emits_0 0 rfl rfl ?_
  refine w_getf (pc := 1) (v := .int (J (F 7))) hC dX12_emits_1 fi_X12_83 0 rfl rfl ?_
  refine w_if_ne (pc := 4) (tgt := 56) hC dX12_emits_4 (by decide) (by omega) (fun c4 => ?_) (fun c4 => ?_)
  · refine w_vret (pc := 56) hC hRT dX12_emits_56 ?_
    refine ⟨(I 1), rfl, rfl, ?_⟩
    · unfold emt; rw [if_pos (show F 7 = 1 by omega)]; exact hS
  · refine w_aload_n (pc := 7) hC dX12_emits_7 0 rfl rfl ?_
    refine w_getf (pc := 8) (v := .ref (A 1)) hC dX12_emits_8 fi_X12_9 0 rfl rfl ?_
    refine w_sipush (pc := 11) hC dX12_emits_11 (z := 193) rfl ?_
    refine w_sipush (pc := 14) hC dX12_emits_14 (z := 140) rfl ?_
    refine w_aload_n (pc := 17) hC dX12_emits_17 0 rfl rfl ?_
    refine w_getf (pc := 18) (v := .int (J (F 4))) hC dX12_emits_18 fi_X12_103 0 rfl rfl ?_
    refine w_imul (pc := 21) hC dX12_emits_21 ?_
    refine w_iadd (pc := 22) hC dX12_emits_22 ?_
    refine w_aload_n (pc := 23) hC dX12_emits_23 0 rfl rfl ?_
    refine w_getf (pc := 24) (v := .ref (A 1)) hC dX12_emits_24 fi_X12_9 0 rfl rfl ?_
    refine w_sipush (pc := 27) hC dX12_emits_27 (z := 188) rfl ?_
    refine w_aload_n (pc := 30) hC dX12_emits_30 0 rfl rfl ?_
    refine w_getf (pc := 31) (v := .int (J (F 4))) hC dX12_emits_31 fi_X12_103 0 rfl rfl ?_
    refine w_iadd (pc := 34) hC dX12_emits_34 ?_
    refine w_iald (pc := 35) (g := (I 1)) hC dX12_emits_35 1 rfl (by omega) (Nat.le_of_ble_eq_true rfl) ?_
    refine w_iadd (pc := 36) hC dX12_emits_36 ?_
    refine w_iload_n (pc := 37) hC dX12_emits_37 1 rfl rfl ?_
    refine w_iast (pc := 38) (g := (I 1)) (w2 := MW A G.2.1 (au I 1 (gu (I 1) ((193 + (140 * (F 4))) + ((I 1) (188 + (F 4)))) step)) F) hC dX12_emits_38 1 rfl (by omega) (Nat.le_of_ble_eq_true rfl) rfl ?_
    generalize h38 : gu (I 1) ((193 + (140 * (F 4))) + ((I 1) (188 + (F 4)))) step = s38
    refine w_aload_n (pc := 39) hC dX12_emits_39 0 rfl rfl ?_
    refine w_getf (pc := 40) (v := .ref (A 1)) hC dX12_emits_40 fi_X12_9 0 rfl rfl ?_
    refine w_sipush (pc := 43) hC dX12_emits_43 (z := 188) rfl ?_
    refine w_aload_n (pc := 46) hC dX12_emits_46 0 rfl rfl ?_
    refine w_getf (pc := 47) (v := .int (J (F 4))) hC dX12_emits_47 fi_X12_103 0 rfl rfl ?_
    refine w_iadd (pc := 50) hC dX12_emits_50 ?_
    refine w_dup2 (pc := 51) hC dX12_emits_51 rfl rfl ?_
    have e52 := congrFun h38.symm (188 + F 4)
    rw [gu_ne (by omega), h188] at e52
    refine w_iald (pc := 52) (g := s38) hC dX12_emits_52 1 rfl (by omega) (Nat.le_of_ble_eq_true rfl) ?_
    refine w_iconst (pc := 53) hC dX12_emits_53 ?_
    refine w_iadd (pc := 54) hC dX12_emits_54 ?_
    refine w_iast (pc := 55) (g := s38) (w2 := MW A G.2.1 (au I 1 (gu s38 (188 + (F 4)) ((s38 (188 + (F 4))) + 1))) F) hC dX12_emits_55 1 rfl (by omega) (Nat.le_of_ble_eq_true rfl) rfl ?_
    generalize h55 : gu s38 (188 + (F 4)) ((s38 (188 + (F 4))) + 1) = s55
    refine w_vret (pc := 56) hC hRT dX12_emits_56 ?_
    refine ⟨s55, rfl, rfl, ?_⟩
    · unfold emt; rw [if_neg (show ¬ F 7 = 1 by omega)]; subst h55; rw [e52]; subst h38; rw [h188, hS]; exact CLS_app ha
