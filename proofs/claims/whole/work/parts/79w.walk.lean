/-! ===== the law: its loop, its start ===== -/
theorem CR_0 {cy : Nat → ClassId} {fa fb : Nat → Option Nat} {P : va_W} (ha : ∀ a : Int, 0 ≤ a → a < 6 → ∃ q : Nat, fa a.toNat = some q ∧ AKB P q 0 a 0) (hb : ∀ a : Int, 0 ≤ a → a < 6 → ∃ q : Nat, fb a.toNat = some q ∧ AKB P q 0 a 0) : CR cy czI czF (czQ fa fb) P (fun _ _ => 0) F0M := by
  have six : ∀ a : Int, 0 ≤ a → a < 6 → a = 0 ∨ a = 1 ∨ a = 2 ∨ a = 3 ∨ a = 4 ∨ a = 5 := fun a h0 h1 => by omega
  refine ⟨RI_0, ⟨⟨rfl, rfl, rfl, rfl, rfl, rfl⟩, ?_, ?_, ?_, ?_, ?_, ?_, ?_, ?_⟩, rfl, ⟨fun _ => 0, RI_0, ⟨⟨rfl, rfl, rfl, rfl, rfl, rfl⟩, ?_, ?_, ?_, ?_, ?_, ?_, ?_, ?_⟩, ?_, ?_, Or.inl ⟨rfl, rfl⟩⟩, ⟨BDY_0 rfl, Int.le_refl 0, (by decide : (0 : Int) ≤ 100)⟩, ?_, ?_⟩
  · exact fun r r0 r1 => absurd r1 (Int.not_lt.mpr r0)
  · intro a c a0 a1 c0 c1
    rw [if_neg (fun h9 => Int.not_lt.mpr a0 h9.1)]
    rcases six a a0 a1 with e | e | e | e | e | e <;> subst e <;> exact g50_at c0 c1
  · exact fun r r0 r1 => absurd r1 (Int.not_lt.mpr r0)
  · exact fun r r0 r1 => absurd r1 (Int.not_lt.mpr r0)
  · exact fun r r0 r1 => absurd r1 (Int.not_lt.mpr r0)
  · intro a c a0 a1 c0 c1
    rcases six a a0 a1 with e | e | e | e | e | e <;> subst e <;> rfl
  · intro a a0 a1
    rw [if_neg (Int.not_lt.mpr a0)]
    exact ha a a0 a1
  · exact fun r r0 r1 => absurd r1 (Int.not_lt.mpr r0)
  · exact fun r r0 r1 => absurd r1 (Int.not_lt.mpr r0)
  · intro a c a0 a1 c0 c1
    rw [if_neg (fun h9 => Int.not_lt.mpr a0 h9.1)]
    rcases six a a0 a1 with e | e | e | e | e | e <;> subst e <;> exact g50_at c0 c1
  · exact fun r r0 r1 => absurd r1 (Int.not_lt.mpr r0)
  · exact fun r r0 r1 => absurd r1 (Int.not_lt.mpr r0)
  · exact fun r r0 r1 => absurd r1 (Int.not_lt.mpr r0)
  · intro a c a0 a1 c0 c1
    rcases six a a0 a1 with e | e | e | e | e | e <;> subst e <;> rfl
  · intro a a0 a1
    rw [if_neg (Int.not_lt.mpr a0)]
    exact hb a a0 a1
  · exact fun r r0 r1 => absurd r1 (Int.not_lt.mpr r0)
  · exact fun j _ _ => (by decide : (-128 : Int) ≤ 0 ∧ (0 : Int) ≤ 127)
  · exact fun c _ _ => rfl
  · exact fun j _ _ => (by decide : (-128 : Int) ≤ 0 ∧ (0 : Int) ≤ 127)
  · exact fun c _ _ => rfl
set_option maxRecDepth 100000 in
set_option maxHeartbeats 4000000 in
theorem law_loop {K : KT} {G : GT} (hC : KOK K G code RL 2000 600000 7302250) {b L : Nat} {xs : Nat → Int32} (hX : va_X b L xs (ks K) (ks K).heap) (hbl : b < (ks K).heap.size) (hbA : ¬ kA K b) (hL : L ≤ 384) (hnL : knL K = 4) {ox om : Nat} (hend : ∀ (k : Nat) (w : va_W), 6 * (k : Int) ≤ 384 → WW K G (100 + 6 * k) (4000 + 126 * k) w 1456 [(3, .int (J (6 * (k : Int)))), (2, .ref om), (1, .ref ox), (0, .ref b)] []) : ∀ n k : Nat, k + n = 64 → ∀ w : va_W, CRel G.2.1 ox om w → WW K G (100 + 6 * k) (4000 + 126 * k) w 18 [(3, .int (J (6 * (k : Int)))), (2, .ref om), (1, .ref ox), (0, .ref b)] [] := by
  intro n
  induction n with
  | zero =>
    intro k hkn w hW
    refine w_iload_n (pc := 18) hC dL_law_18 0 rfl rfl ?_
    refine w_aload_n (pc := 19) hC dL_law_19 3 rfl rfl ?_
    refine w_slen (pc := 20) hC hX hbl hbA dL_law_20 ?_
    refine w_bipush (pc := 21) hC dL_law_21 (z := 6) rfl ?_
    refine w_isub (pc := 23) hC dL_law_23 ?_
    refine w_icmp_gt (pc := 24) (tgt := 1456) hC dL_law_24 (by decide) (by omega) (fun c1 => ?_) (fun c1 => ?_)
    · exact hend k w (by omega)
    · exact absurd c1 (by omega)
  | succ n ih =>
    intro k hkn w hW
    refine w_iload_n (pc := 18) hC dL_law_18 0 rfl rfl ?_
    refine w_aload_n (pc := 19) hC dL_law_19 3 rfl rfl ?_
    refine w_slen (pc := 20) hC hX hbl hbA dL_law_20 ?_
    refine w_bipush (pc := 21) hC dL_law_21 (z := 6) rfl ?_
    refine w_isub (pc := 23) hC dL_law_23 ?_
    refine w_icmp_gt (pc := 24) (tgt := 1456) hC dL_law_24 (by decide) (by omega) (fun c1 => ?_) (fun c1 => ?_)
    · exact hend k w (by omega)
    have hk : 6 * (k : Int) + 6 ≤ (L : Int) := by omega
    have next : ∀ w2 : va_W, CRel G.2.1 ox om w2 → WW K G (100 + 6 * (k + 1)) (4000 + 126 * (k + 1)) w2 1450 [(3, .int (J (6 * (k : Int)))), (2, .ref om), (1, .ref ox), (0, .ref b)] [] := fun w2 hW2 => by
      refine w_iinc (pc := 1450) hC dL_law_1450 (lv2 := [(3, .int (J (6 * (k : Int) + 6))), (2, .ref om), (1, .ref ox), (0, .ref b)]) 0 rfl (by rw [hnL]; decide) rfl ?_
      refine w_goto (pc := 1453) (tgt := 18) hC dL_law_1453 (by decide) ?_
      have h := ih (k + 1) (by omega) w2 hW2
      rw [show (6 : Int) * ((k + 1 : Nat) : Int) = 6 * (k : Int) + 6 by omega] at h
      exact h
    refine w_aload_n (pc := 27) hC dL_law_27 3 rfl rfl ?_
    refine w_iload_n (pc := 28) hC dL_law_28 0 rfl rfl ?_
    refine w_sld (pc := 29) hC hX hbl hbA (by omega) hL dL_law_29 ?_
    refine w_bipush (pc := 30) hC dL_law_30 (z := 63) rfl ?_
    refine w_iand (pc := 32) hC dL_law_32 (v := (J (sc xs (6 * (k : Int))) &&& J 63).toInt) (J_of _) ?_
    generalize hv : (J (sc xs (6 * (k : Int))) &&& J 63).toInt = v
    have hv1 : -2147483648 ≤ v ∧ v < 2147483648 := by rw [← hv]; exact ⟨Int32.le_toInt _, Int32.toInt_lt _⟩
    rcases (show v = 0 ∨ v = 1 ∨ v = 2 ∨ v = 3 ∨ v = 4 ∨ v = 5 ∨ v = 6 ∨ v = 7 ∨ v = 8 ∨ v = 9 ∨ v = 10 ∨ v = 11 ∨ v = 12 ∨ v = 13 ∨ v = 14 ∨ v = 15 ∨ v = 16 ∨ v = 17 ∨ v = 18 ∨ v = 19 ∨ v = 20 ∨ v = 21 ∨ v = 22 ∨ v = 23 ∨ v = 24 ∨ v = 25 ∨ v = 26 ∨ v = 27 ∨ v = 28 ∨ v = 29 ∨ v = 30 ∨ v = 31 ∨ v = 32 ∨ v = 33 ∨ v = 34 ∨ v = 35 ∨ (v < 0 ∨ 35 < v) by omega) with e | e | e | e | e | e | e | e | e | e | e | e | e | e | e | e | e | e | e | e | e | e | e | e | e | e | e | e | e | e | e | e | e | e | e | e | e
    · refine w_tableIn (pc := 33) (v := 0) (tgt := 192) hC dL_law_33 e (by decide) rfl (by decide) ?_
      exact lc_name hC hX hbl hbA hL hk hW next
    · refine w_tableIn (pc := 33) (v := 1) (tgt := 205) hC dL_law_33 e (by decide) rfl (by decide) ?_
      exact lc_chance hC hX hbl hbA hL hk hW next
    · refine w_tableIn (pc := 33) (v := 2) (tgt := 248) hC dL_law_33 e (by decide) rfl (by decide) ?_
      exact lc_beats hC hX hbl hbA hL hk hW next
    · refine w_tableIn (pc := 33) (v := 3) (tgt := 281) hC dL_law_33 e (by decide) rfl (by decide) ?_
      exact lc_board hC hX hbl hbA hL hk hW next
    · refine w_tableIn (pc := 33) (v := 4) (tgt := 314) hC dL_law_33 e (by decide) rfl (by decide) ?_
      exact lc_hang hC hX hbl hbA hL hk hW next
    · refine w_tableIn (pc := 33) (v := 5) (tgt := 347) hC dL_law_33 e (by decide) rfl (by decide) ?_
      exact lc_far hC hX hbl hbA hL hk hW next
    · refine w_tableIn (pc := 33) (v := 6) (tgt := 360) hC dL_law_33 e (by decide) rfl (by decide) ?_
      exact lc_feed hC hX hbl hbA hL hk hW next
    · refine w_tableIn (pc := 33) (v := 7) (tgt := 423) hC dL_law_33 e (by decide) rfl (by decide) ?_
      exact lc_club hC hX hbl hbA hL hk hW next
    · refine w_tableIn (pc := 33) (v := 8) (tgt := 436) hC dL_law_33 e (by decide) rfl (by decide) ?_
      exact lc_may hC hX hbl hbA hL hk hW next
    · refine w_tableIn (pc := 33) (v := 9) (tgt := 479) hC dL_law_33 e (by decide) rfl (by decide) ?_
      exact lc_asker hC hX hbl hbA hL hk hW next
    · refine w_tableIn (pc := 33) (v := 10) (tgt := 522) hC dL_law_33 e (by decide) rfl (by decide) ?_
      exact lc_asks hC hX hbl hbA hL hk hW next
    · refine w_tableIn (pc := 33) (v := 11) (tgt := 565) hC dL_law_33 e (by decide) rfl (by decide) ?_
      exact lc_match hC hX hbl hbA hL hk hW next
    · refine w_tableIn (pc := 33) (v := 12) (tgt := 634) hC dL_law_33 e (by decide) rfl (by decide) ?_
      exact lc_pass hC hX hbl hbA hL hk hW next
    · refine w_tableIn (pc := 33) (v := 13) (tgt := 657) hC dL_law_33 e (by decide) rfl (by decide) ?_
      exact lc_share hC hX hbl hbA hL hk hW next
    · refine w_tableIn (pc := 33) (v := 14) (tgt := 721) hC dL_law_33 e (by decide) rfl (by decide) ?_
      exact lc_truly hC hX hbl hbA hL hk hW next
    · refine w_tableIn (pc := 33) (v := 15) (tgt := 765) hC dL_law_33 e (by decide) rfl (by decide) ?_
      exact lc_likely hC hX hbl hbA hL hk hW next
    · refine w_tableIn (pc := 33) (v := 16) (tgt := 808) hC dL_law_33 e (by decide) rfl (by decide) ?_
      exact lc_mean hC hX hbl hbA hL hk hW next
    · refine w_tableIn (pc := 33) (v := 17) (tgt := 862) hC dL_law_33 e (by decide) rfl (by decide) ?_
      exact lc_stuck hC hX hbl hbA hL hk hW next
    · refine w_tableIn (pc := 33) (v := 18) (tgt := 895) hC dL_law_33 e (by decide) rfl (by decide) ?_
      exact lc_ought hC hX hbl hbA hL hk hW next
    · refine w_tableIn (pc := 33) (v := 19) (tgt := 938) hC dL_law_33 e (by decide) rfl (by decide) ?_
      exact lc_row hC hX hbl hbA hL hk hW next
    · refine w_tableIn (pc := 33) (v := 20) (tgt := 961) hC dL_law_33 e (by decide) rfl (by decide) ?_
      exact lc_judged hC hX hbl hbA hL hk hW next
    · refine w_tableIn (pc := 33) (v := 21) (tgt := 994) hC dL_law_33 e (by decide) rfl (by decide) ?_
      exact lc_refuse hC hX hbl hbA hL hk hW next
    · refine w_tableIn (pc := 33) (v := 22) (tgt := 1048) hC dL_law_33 e (by decide) rfl (by decide) ?_
      exact lc_begin hC hX hbl hbA hL hk hW next
    · refine w_tableIn (pc := 33) (v := 23) (tgt := 1091) hC dL_law_33 e (by decide) rfl (by decide) ?_
      exact lc_best hC hX hbl hbA hL hk hW next
    · refine w_tableIn (pc := 33) (v := 24) (tgt := 1114) hC dL_law_33 e (by decide) rfl (by decide) ?_
      exact lc_round hC hX hbl hbA hL hk hW next
    · refine w_tableIn (pc := 33) (v := 25) (tgt := 1147) hC dL_law_33 e (by decide) rfl (by decide) ?_
      exact lc_sorts hC hX hbl hbA hL hk hW next
    · refine w_tableIn (pc := 33) (v := 26) (tgt := 1170) hC dL_law_33 e (by decide) rfl (by decide) ?_
      exact lc_past hC hX hbl hbA hL hk hW next
    · refine w_tableIn (pc := 33) (v := 27) (tgt := 1213) hC dL_law_33 e (by decide) rfl (by decide) ?_
      exact lc_really hC hX hbl hbA hL hk hW next
    · refine w_tableIn (pc := 33) (v := 28) (tgt := 1236) hC dL_law_33 e (by decide) rfl (by decide) ?_
      exact lc_order hC hX hbl hbA hL hk hW next
    · refine w_tableIn (pc := 33) (v := 29) (tgt := 1259) hC dL_law_33 e (by decide) rfl (by decide) ?_
      exact lc_run hC hX hbl hbA hL hk hW next
    · refine w_tableIn (pc := 33) (v := 30) (tgt := 1302) hC dL_law_33 e (by decide) rfl (by decide) ?_
      exact lc_act hC hX hbl hbA hL hk hW next
    · refine w_tableIn (pc := 33) (v := 31) (tgt := 1345) hC dL_law_33 e (by decide) rfl (by decide) ?_
      exact lc_trace hC hX hbl hbA hL hk hW next
    · refine w_tableIn (pc := 33) (v := 32) (tgt := 1368) hC dL_law_33 e (by decide) rfl (by decide) ?_
      exact lc_as hC hX hbl hbA hL hk hW next
    · refine w_tableIn (pc := 33) (v := 33) (tgt := 1401) hC dL_law_33 e (by decide) rfl (by decide) ?_
      exact lc_image hC hX hbl hbA hL hk hW next
    · refine w_tableIn (pc := 33) (v := 34) (tgt := 1414) hC dL_law_33 e (by decide) rfl (by decide) ?_
      exact lc_undo hC hX hbl hbA hL hk hW next
    · refine w_tableIn (pc := 33) (v := 35) (tgt := 1427) hC dL_law_33 e (by decide) rfl (by decide) ?_
      exact lc_count hC hX hbl hbA hL hk hW next
    · refine w_tableOut (pc := 33) (tgt := 1450) hC dL_law_33 hv1 e (by decide) ?_
      exact w_up (by omega) (by omega) (next w hW)
theorem cn_L_7 : CN RL 7 11 RX11 TX11 10 tyX11 [.null, .null, .int (J 0), .null, .null, .null, .null, .null, .null, .null] := ⟨rfl, inX11, fp_X11_0.1, tw_1_21, tw_1_22, tw_1_1, fun j hj => match j, hj with | 0, _ => rfl | 1, _ => rfl | 2, _ => rfl | 3, _ => rfl | 4, _ => rfl | 5, _ => rfl | 6, _ => rfl | 7, _ => rfl | 8, _ => rfl | 9, _ => rfl | n + 10, h => absurd h (by omega)⟩
theorem cn_L_10 : CN RL 10 12 RX12 TX12 28 tyX12 [.int (J 0), .null, .null, .int (J 0), .int (J 0), .int (J 0), .int (J 0), .int (J 0), .int (J 0), .null, .null, .int (J 0), .null, .null, .null, .null, .int (J 0), .int (J 0), .long (JL 0), .int (J 0), .int (J 0), .int (J 0), .int (J 0), .null, .int (J 0), .int (J 0), .int (J 0), .int (J 0)] := ⟨rfl, inX12, fp_X12_0.1, tw_5_35, tw_5_36, tw_1_6, fun j hj => match j, hj with | 0, _ => rfl | 1, _ => rfl | 2, _ => rfl | 3, _ => rfl | 4, _ => rfl | 5, _ => rfl | 6, _ => rfl | 7, _ => rfl | 8, _ => rfl | 9, _ => rfl | 10, _ => rfl | 11, _ => rfl | 12, _ => rfl | 13, _ => rfl | 14, _ => rfl | 15, _ => rfl | 16, _ => rfl | 17, _ => rfl | 18, _ => rfl | 19, _ => rfl | 20, _ => rfl | 21, _ => rfl | 22, _ => rfl | 23, _ => rfl | 24, _ => rfl | 25, _ => rfl | 26, _ => rfl | 27, _ => rfl | n + 28, h => absurd h (by omega)⟩
theorem cc_L_9 : CC RL 9 yX11_init cX11_init 1 0 := ⟨tw_1_23, tw_1_24, tw_1_1, tw_1_25, by decide, rfl, by decide, by decide, by decide +kernel⟩
theorem cc_L_12 : CC RL 12 yX12_init cX12_init 1 0 := ⟨tw_5_37, tw_5_38, tw_1_6, tw_5_39, by decide, rfl, by decide, by decide, by decide +kernel⟩
set_option maxRecDepth 100000 in
set_option maxHeartbeats 4000000 in
theorem law_start {K : KT} {G : GT} (hC : KOK K G code RL 2000 600000 7302250) {b L : Nat} {xs : Nat → Int32} (hX : va_X b L xs (ks K) (ks K).heap) (hbl : b < (ks K).heap.size) (hbA : ¬ kA K b) (hL : L ≤ 384) (hnL : knL K = 4) (hend : ∀ (ox om k : Nat) (w : va_W), 6 * (k : Int) ≤ 384 → WW K G (100 + 6 * k) (4000 + 126 * k) w 1456 [(3, .int (J (6 * (k : Int)))), (2, .ref om), (1, .ref ox), (0, .ref b)] []) : WW K G 0 0 [] 0 [(0, .ref b)] [] := by
  refine w_newC (pc := 0) hC dL_law_0 cn_L_7 (by decide) (fun ox => ?_)
  show WW K G 1 10 [(ox, .inr (11, [.null, .null, .int (J 0), .null, .null, .null, .null, .null, .null, .null]))] 3 [(0, .ref b)] [.ref ox]
  refine w_dup (pc := 3) hC dL_law_3 rfl ?_
  refine w_callI (pc := 4) (As := []) (rest := [.ref ox]) hC dL_law_4 cc_L_9 (c_X11_init (kl K) G ox) (by decide) (by decide) rfl (Nat.le_of_ble_eq_true rfl) rfl (fun vo wo hv => ?_)
  obtain ⟨hv1, A, D, T, fa, fb, P, hA0, hw, ha, hb⟩ := hv
  rw [hv1, hw]
  show WW K G _ _ _ 7 [(0, .ref b)] [.ref ox]
  refine w_astore_n (pc := 7) hC dL_law_7 rfl (lv2 := [(1, .ref ox), (0, .ref b)]) (by rw [hnL]; decide) rfl ?_
  refine w_newC (pc := 8) hC dL_law_8 cn_L_10 (by decide) (fun om => ?_)
  refine w_dup (pc := 11) hC dL_law_11 rfl ?_
  refine w_callI (pc := 12) (As := []) (rest := [.ref om]) hC dL_law_12 cc_L_12 (CT_frL _ (c_X12_init (kl K) G om)) (by decide) (by decide) rfl (Nat.le_of_ble_eq_true rfl) rfl (fun vo wo hv => ?_)
  obtain ⟨w9, ⟨hv2, A2, hA2, hw2⟩, hw3⟩ := hv
  rw [hv2, hw3, hw2]
  show WW K G _ _ _ 15 [(1, .ref ox), (0, .ref b)] [.ref om]
  refine w_astore_n (pc := 15) hC dL_law_15 rfl (lv2 := [(2, .ref om), (1, .ref ox), (0, .ref b)]) (by rw [hnL]; decide) rfl ?_
  refine w_iconst (pc := 16) hC dL_law_16 ?_
  refine w_istore_n (pc := 17) hC dL_law_17 rfl (lv2 := [(3, .int (J 0)), (2, .ref om), (1, .ref ox), (0, .ref b)]) (by rw [hnL]; decide) rfl ?_
  exact w_up (by decide) (by decide) (law_loop hC hX hbl hbA hL hnL (hend ox om) 64 0 rfl _ ⟨A, D, T, _, _, _, P, A2, _, _, hA0, hA2, rfl, CR_0 ha hb⟩)
