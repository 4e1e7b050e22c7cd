/-! ===== the askers are made ===== -/
theorem w_up {K : KT} {G : GT} {cs ss cs2 ss2 pc : Nat} {w : va_W} {lv : List (Nat × Value)} {st : List Value} (h1 : cs ≤ cs2) (h2 : ss ≤ ss2) (k : WW K G cs2 ss2 w pc lv st) : WW K G cs ss w pc lv st := fun H locs ls hP hD hS hl => W.widen h1 h2 (k H locs ls hP hD hS hl)
theorem set_at {w : va_W} {k : Nat} {c d : Nat × va_E} (h : w[k]? = some c) : (w.set k d)[k]? = some d := by
  rw [List.getElem?_set]
  rw [if_pos rfl, if_pos (List.getElem?_eq_some_iff.mp h).1]
theorem fpk_0 {k : Int} (h : 0 ≤ k ∧ k ≤ 6) : ∃ ty0 : Nat → FieldType, FP 0 (kCn k) (kTn k) 2 .int ty0 ∧ FP 1 (kCn k) (kTn k) 2 .int ty0 ∧ ((kTn k 0).2.2.2 = true ∧ (kTn k 1).2.2.2 = true) ∧ (kTn k 0).1 = RX0 ∧ (kTn k 1).1 = RX0 := by
  rcases k7 h with e | e | e | e | e | e | e <;> subst e
  · exact ⟨tyX0, fp_X0_0, fp_X0_1, ⟨rfl, rfl⟩, rfl, rfl⟩
  · exact ⟨tyX7, fp_X7_0, fp_X7_1, ⟨rfl, rfl⟩, rfl, rfl⟩
  · exact ⟨tyX5, fp_X5_0, fp_X5_1, ⟨rfl, rfl⟩, rfl, rfl⟩
  · exact ⟨tyX9, fp_X9_0, fp_X9_1, ⟨rfl, rfl⟩, rfl, rfl⟩
  · exact ⟨tyX1, fp_X1_0, fp_X1_1, ⟨rfl, rfl⟩, rfl, rfl⟩
  · exact ⟨tyX10, fp_X10_0, fp_X10_1, ⟨rfl, rfl⟩, rfl, rfl⟩
  · exact ⟨tyX8, fp_X8_0, fp_X8_1, ⟨rfl, rfl⟩, rfl, rfl⟩
set_option maxRecDepth 100000 in
set_option maxHeartbeats 4000000 in
theorem c_X0_init (l : Launch) (G : GT) (w0 : va_W) (k0 q : Nat) (k x y n v : Int) (hk : 0 ≤ k ∧ k ≤ 6) (hc : w0[k0]? = some (q, .inr (kci k, [.int (J x), .int (J y)]))) : CT l yX0_init cX0_init 3 none 1 0 0 G [.ref q, .int (J n), .int (J v)] w0 (fun vo wo => vo = none ∧ wo = w0.set k0 (q, .inr (kci k, [.int (J n), .int (J v)]))) := by
  refine CT_of (own := RX0) rfl rfl (Nat.le_of_ble_eq_true rfl) (fun K hl hnL hC hRT hin => ?_)
  subst hl
  show WW K G 0 0 w0 0 [(0, .ref q), (1, .int (J n)), (2, .int (J v))] []
  obtain ⟨ty0, f0, f1, ⟨t0, t1⟩, d0, d1⟩ := fpk_0 hk
  have h1 : (w0.set k0 (q, .inr (kci k, [.int (J n), .int (J y)])))[k0]? = some (q, .inr (kci k, [.int (J n), .int (J y)])) := set_at hc
  refine w_aload_n (pc := 0) hC dX0_init_0 0 rfl rfl ?_
  refine w_oinit (pc := 1) hC dX0_init_1 tw_1_45 (by decide) (Nat.le_of_ble_eq_true rfl) ?_
  refine w_aload_n (pc := 4) hC dX0_init_4 0 rfl rfl ?_
  refine w_iload_n (pc := 5) hC dX0_init_5 1 rfl rfl ?_
  refine w_putfF (pc := 6) (w2 := w0.set k0 (q, .inr (kci k, [.int (J n), .int (J y)]))) hC dX0_init_6 (fik_9 hk) f0 t0 (hin rfl) d0 k0 hc rfl rfl (Nat.le_of_ble_eq_true rfl) rfl ?_
  refine w_aload_n (pc := 9) hC dX0_init_9 0 rfl rfl ?_
  refine w_iload_n (pc := 10) hC dX0_init_10 2 rfl rfl ?_
  refine w_putfF (pc := 11) (w2 := w0.set k0 (q, .inr (kci k, [.int (J n), .int (J v)]))) hC dX0_init_11 (fik_15 hk) f1 t1 (hin rfl) d1 k0 h1 rfl rfl (Nat.le_of_ble_eq_true rfl) (List.set_set _) ?_
  refine w_vret (pc := 14) hC hRT dX0_init_14 ?_
  exact ⟨rfl, rfl⟩
set_option maxRecDepth 100000 in
set_option maxHeartbeats 4000000 in
theorem c_X7_init (l : Launch) (G : GT) (w0 : va_W) (k0 q : Nat) (k x y n v : Int) (hk : 0 ≤ k ∧ k ≤ 6) (hc : w0[k0]? = some (q, .inr (kci k, [.int (J x), .int (J y)]))) : CT l yX7_init cX7_init 3 none 2 0 0 G [.ref q, .int (J n), .int (J v)] w0 (fun vo wo => vo = none ∧ wo = w0.set k0 (q, .inr (kci k, [.int (J n), .int (J v)]))) := by
  refine CT_of (own := RX7) rfl rfl (Nat.le_of_ble_eq_true rfl) (fun K hl hnL hC hRT hin => ?_)
  subst hl
  show WW K G 0 0 w0 0 [(0, .ref q), (1, .int (J n)), (2, .int (J v))] []
  refine w_aload_n (pc := 0) hC dX7_init_0 0 rfl rfl ?_
  refine w_iload_n (pc := 1) hC dX7_init_1 1 rfl rfl ?_
  refine w_iload_n (pc := 2) hC dX7_init_2 2 rfl rfl ?_
  refine w_callI (pc := 3) (As := [.int (J n), .int (J v)]) (rest := []) hC dX7_init_3 cc_X7_3 (c_X0_init (kl K) G w0 k0 q k x y n v hk hc) (by decide) ⟨Nat.le_of_ble_eq_true rfl, Nat.le_of_ble_eq_true rfl⟩ rfl (Nat.le_of_ble_eq_true rfl) rfl (fun vo wo hv => ?_)
  obtain ⟨hv1, hw1⟩ := hv
  rw [hv1, hw1]
  refine w_vret (pc := 6) hC hRT dX7_init_6 ?_
  exact ⟨rfl, rfl⟩
set_option maxRecDepth 100000 in
set_option maxHeartbeats 4000000 in
theorem c_X5_init (l : Launch) (G : GT) (w0 : va_W) (k0 q : Nat) (k x y n v : Int) (hk : 0 ≤ k ∧ k ≤ 6) (hc : w0[k0]? = some (q, .inr (kci k, [.int (J x), .int (J y)]))) : CT l yX5_init cX5_init 3 none 2 0 0 G [.ref q, .int (J n), .int (J v)] w0 (fun vo wo => vo = none ∧ wo = w0.set k0 (q, .inr (kci k, [.int (J n), .int (J v)]))) := by
  refine CT_of (own := RX5) rfl rfl (Nat.le_of_ble_eq_true rfl) (fun K hl hnL hC hRT hin => ?_)
  subst hl
  show WW K G 0 0 w0 0 [(0, .ref q), (1, .int (J n)), (2, .int (J v))] []
  refine w_aload_n (pc := 0) hC dX5_init_0 0 rfl rfl ?_
  refine w_iload_n (pc := 1) hC dX5_init_1 1 rfl rfl ?_
  refine w_iload_n (pc := 2) hC dX5_init_2 2 rfl rfl ?_
  refine w_callI (pc := 3) (As := [.int (J n), .int (J v)]) (rest := []) hC dX5_init_3 cc_X5_3 (c_X0_init (kl K) G w0 k0 q k x y n v hk hc) (by decide) ⟨Nat.le_of_ble_eq_true rfl, Nat.le_of_ble_eq_true rfl⟩ rfl (Nat.le_of_ble_eq_true rfl) rfl (fun vo wo hv => ?_)
  obtain ⟨hv1, hw1⟩ := hv
  rw [hv1, hw1]
  refine w_vret (pc := 6) hC hRT dX5_init_6 ?_
  exact ⟨rfl, rfl⟩
set_option maxRecDepth 100000 in
set_option maxHeartbeats 4000000 in
theorem c_X9_init (l : Launch) (G : GT) (w0 : va_W) (k0 q : Nat) (k x y n v : Int) (hk : 0 ≤ k ∧ k ≤ 6) (hc : w0[k0]? = some (q, .inr (kci k, [.int (J x), .int (J y)]))) : CT l yX9_init cX9_init 3 none 3 0 0 G [.ref q, .int (J n), .int (J v)] w0 (fun vo wo => vo = none ∧ wo = w0.set k0 (q, .inr (kci k, [.int (J n), .int (J v)]))) := by
  refine CT_of (own := RX9) rfl rfl (Nat.le_of_ble_eq_true rfl) (fun K hl hnL hC hRT hin => ?_)
  subst hl
  show WW K G 0 0 w0 0 [(0, .ref q), (1, .int (J n)), (2, .int (J v))] []
  refine w_aload_n (pc := 0) hC dX9_init_0 0 rfl rfl ?_
  refine w_iload_n (pc := 1) hC dX9_init_1 1 rfl rfl ?_
  refine w_iload_n (pc := 2) hC dX9_init_2 2 rfl rfl ?_
  refine w_callI (pc := 3) (As := [.int (J n), .int (J v)]) (rest := []) hC dX9_init_3 cc_X9_3 (c_X5_init (kl K) G w0 k0 q k x y n v hk hc) (by decide) ⟨Nat.le_of_ble_eq_true rfl, Nat.le_of_ble_eq_true rfl⟩ rfl (Nat.le_of_ble_eq_true rfl) rfl (fun vo wo hv => ?_)
  obtain ⟨hv1, hw1⟩ := hv
  rw [hv1, hw1]
  refine w_vret (pc := 6) hC hRT dX9_init_6 ?_
  exact ⟨rfl, rfl⟩
set_option maxRecDepth 100000 in
set_option maxHeartbeats 4000000 in
theorem c_X1_init (l : Launch) (G : GT) (w0 : va_W) (k0 q : Nat) (k x y n v : Int) (hk : 0 ≤ k ∧ k ≤ 6) (hc : w0[k0]? = some (q, .inr (kci k, [.int (J x), .int (J y)]))) : CT l yX1_init cX1_init 3 none 3 0 0 G [.ref q, .int (J n), .int (J v)] w0 (fun vo wo => vo = none ∧ wo = w0.set k0 (q, .inr (kci k, [.int (J n), .int (J v)]))) := by
  refine CT_of (own := RX1) rfl rfl (Nat.le_of_ble_eq_true rfl) (fun K hl hnL hC hRT hin => ?_)
  subst hl
  show WW K G 0 0 w0 0 [(0, .ref q), (1, .int (J n)), (2, .int (J v))] []
  refine w_aload_n (pc := 0) hC dX1_init_0 0 rfl rfl ?_
  refine w_iload_n (pc := 1) hC dX1_init_1 1 rfl rfl ?_
  refine w_iload_n (pc := 2) hC dX1_init_2 2 rfl rfl ?_
  refine w_callI (pc := 3) (As := [.int (J n), .int (J v)]) (rest := []) hC dX1_init_3 cc_X1_3 (c_X5_init (kl K) G w0 k0 q k x y n v hk hc) (by decide) ⟨Nat.le_of_ble_eq_true rfl, Nat.le_of_ble_eq_true rfl⟩ rfl (Nat.le_of_ble_eq_true rfl) rfl (fun vo wo hv => ?_)
  obtain ⟨hv1, hw1⟩ := hv
  rw [hv1, hw1]
  refine w_vret (pc := 6) hC hRT dX1_init_6 ?_
  exact ⟨rfl, rfl⟩
set_option maxRecDepth 100000 in
set_option maxHeartbeats 4000000 in
theorem c_X10_init (l : Launch) (G : GT) (w0 : va_W) (k0 q : Nat) (k x y n v : Int) (hk : 0 ≤ k ∧ k ≤ 6) (hc : w0[k0]? = some (q, .inr (kci k, [.int (J x), .int (J y)]))) : CT l yX10_init cX10_init 3 none 2 0 0 G [.ref q, .int (J n), .int (J v)] w0 (fun vo wo => vo = none ∧ wo = w0.set k0 (q, .inr (kci k, [.int (J n), .int (J v)]))) := by
  refine CT_of (own := RX10) rfl rfl (Nat.le_of_ble_eq_true rfl) (fun K hl hnL hC hRT hin => ?_)
  subst hl
  show WW K G 0 0 w0 0 [(0, .ref q), (1, .int (J n)), (2, .int (J v))] []
  refine w_aload_n (pc := 0) hC dX10_init_0 0 rfl rfl ?_
  refine w_iload_n (pc := 1) hC dX10_init_1 1 rfl rfl ?_
  refine w_iload_n (pc := 2) hC dX10_init_2 2 rfl rfl ?_
  refine w_callI (pc := 3) (As := [.int (J n), .int (J v)]) (rest := []) hC dX10_init_3 cc_X10_3 (c_X0_init (kl K) G w0 k0 q k x y n v hk hc) (by decide) ⟨Nat.le_of_ble_eq_true rfl, Nat.le_of_ble_eq_true rfl⟩ rfl (Nat.le_of_ble_eq_true rfl) rfl (fun vo wo hv => ?_)
  obtain ⟨hv1, hw1⟩ := hv
  rw [hv1, hw1]
  refine w_vret (pc := 6) hC hRT dX10_init_6 ?_
  exact ⟨rfl, rfl⟩
set_option maxRecDepth 100000 in
set_option maxHeartbeats 4000000 in
theorem c_X8_init (l : Launch) (G : GT) (w0 : va_W) (k0 q : Nat) (k x y n v : Int) (hk : 0 ≤ k ∧ k ≤ 6) (hc : w0[k0]? = some (q, .inr (kci k, [.int (J x), .int (J y)]))) : CT l yX8_init cX8_init 3 none 3 0 0 G [.ref q, .int (J n), .int (J v)] w0 (fun vo wo => vo = none ∧ wo = w0.set k0 (q, .inr (kci k, [.int (J n), .int (J v)]))) := by
  refine CT_of (own := RX8) rfl rfl (Nat.le_of_ble_eq_true rfl) (fun K hl hnL hC hRT hin => ?_)
  subst hl
  show WW K G 0 0 w0 0 [(0, .ref q), (1, .int (J n)), (2, .int (J v))] []
  refine w_aload_n (pc := 0) hC dX8_init_0 0 rfl rfl ?_
  refine w_iload_n (pc := 1) hC dX8_init_1 1 rfl rfl ?_
  refine w_iload_n (pc := 2) hC dX8_init_2 2 rfl rfl ?_
  refine w_callI (pc := 3) (As := [.int (J n), .int (J v)]) (rest := []) hC dX8_init_3 cc_X8_3 (c_X10_init (kl K) G w0 k0 q k x y n v hk hc) (by decide) ⟨Nat.le_of_ble_eq_true rfl, Nat.le_of_ble_eq_true rfl⟩ rfl (Nat.le_of_ble_eq_true rfl) rfl (fun vo wo hv => ?_)
  obtain ⟨hv1, hw1⟩ := hv
  rw [hv1, hw1]
  refine w_vret (pc := 6) hC hRT dX8_init_6 ?_
  exact ⟨rfl, rfl⟩
section CWP
variable {A D : Nat → Nat} {T : Nat} {cy : Nat → ClassId} {I : Nat → Int → Int} {F : Nat → Int} {Q : Nat → Nat → Option Nat} {P : va_W}
theorem CW_last {c : Nat × va_E} : (CW A D T cy I F Q (P ++ [c]))[60 + P.length]? = some c := CW_P (by rw [List.getElem?_append_right (Nat.le_refl _), Nat.sub_self]; rfl)
theorem CW_setP {c d : Nat × va_E} : (CW A D T cy I F Q (P ++ [c])).set (60 + P.length) d = CW A D T cy I F Q (P ++ [d]) := by
  unfold CW CWE
  rw [List.set_append_right _ _ (by rw [List.length_map, List.length_range]; omega), List.length_map, List.length_range, Nat.add_sub_cancel_left, List.set_append_right _ _ (Nat.le_refl _), Nat.sub_self]
  rfl
end CWP
theorem cn_X11_322 : CN RX11 322 7 RX7 TX7 2 tyX7 [.int (J 0), .int (J 0)] := ⟨rfl, inX7, fp_X7_0.1, tw_3_48, tw_3_49, tw_1_15, fun j hj => match j, hj with | 0, _ => rfl | 1, _ => rfl | n + 2, h => absurd h (by omega)⟩
theorem cn_X11_327 : CN RX11 327 5 RX5 TX5 2 tyX5 [.int (J 0), .int (J 0)] := ⟨rfl, inX5, fp_X5_0.1, tw_3_57, tw_3_58, tw_1_16, fun j hj => match j, hj with | 0, _ => rfl | 1, _ => rfl | n + 2, h => absurd h (by omega)⟩
theorem cn_X11_330 : CN RX11 330 9 RX9 TX9 2 tyX9 [.int (J 0), .int (J 0)] := ⟨rfl, inX9, fp_X9_0.1, tw_3_66, tw_3_67, tw_1_17, fun j hj => match j, hj with | 0, _ => rfl | 1, _ => rfl | n + 2, h => absurd h (by omega)⟩
theorem cn_X11_333 : CN RX11 333 1 RX1 TX1 2 tyX1 [.int (J 0), .int (J 0)] := ⟨rfl, inX1, fp_X1_0.1, tw_3_75, tw_3_76, tw_1_18, fun j hj => match j, hj with | 0, _ => rfl | 1, _ => rfl | n + 2, h => absurd h (by omega)⟩
theorem cn_X11_336 : CN RX11 336 10 RX10 TX10 2 tyX10 [.int (J 0), .int (J 0)] := ⟨rfl, inX10, fp_X10_0.1, tw_3_84, tw_3_85, tw_1_19, fun j hj => match j, hj with | 0, _ => rfl | 1, _ => rfl | n + 2, h => absurd h (by omega)⟩
theorem cn_X11_282 : CN RX11 282 8 RX8 TX8 2 tyX8 [.int (J 0), .int (J 0)] := ⟨rfl, inX8, fp_X8_0.1, tw_3_93, tw_3_94, tw_1_20, fun j hj => match j, hj with | 0, _ => rfl | 1, _ => rfl | n + 2, h => absurd h (by omega)⟩
theorem cn_X11_131 : CN RX11 131 0 RX0 TX0 2 tyX0 [.int (J 0), .int (J 0)] := ⟨rfl, inX0, fp_X0_0.1, tw_3_102, tw_1_41, tw_1_3, fun j hj => match j, hj with | 0, _ => rfl | 1, _ => rfl | n + 2, h => absurd h (by omega)⟩
set_option maxRecDepth 100000 in
set_option maxHeartbeats 4000000 in
theorem c_X11_newAsker (l : Launch) (G : GT) (A D : Nat → Nat) (T : Nat) (I : Nat → Int → Int) (F : Nat → Int) (Q : Nat → Nat → Option Nat) (P : va_W) (k n v : Int) (hk : 0 ≤ k ∧ k ≤ 6) : CT l yX11_newAsker cX11_newAsker 3 (some (.object "LadderClub$Asker")) 4 1 2 G [.int (J k), .int (J n), .int (J v)] (CW A D T G.2.1 I F Q P) (fun vo wo => ∃ q : Nat, vo = some (.ref q) ∧ wo = CW A D T G.2.1 I F Q (P ++ [(q, .inr (kci k, [.int (J n), .int (J v)]))])) := by
  refine CT_of (own := RX11) rfl rfl (Nat.le_of_ble_eq_true rfl) (fun K hl hnL hC hRT hin => ?_)
  subst hl
  show WW K G 0 0 (CW A D T G.2.1 I F Q P) 0 [(0, .int (J k)), (1, .int (J n)), (2, .int (J v))] []
  refine w_iload_n (pc := 0) hC dX11_newAsker_0 0 rfl rfl ?_
  rcases k7 hk with e | e | e | e | e | e | e
  · subst e
    refine w_tableOut (pc := 1) (tgt := 100) hC dX11_newAsker_1 (by omega) (by omega) (by decide) ?_
    refine w_newC (pc := 100) hC dX11_newAsker_100 cn_X11_131 ⟨Nat.le_of_ble_eq_true rfl, Nat.le_of_ble_eq_true rfl⟩ (fun q => ?_)
    rw [CW_app]
    refine w_dup (pc := 103) hC dX11_newAsker_103 rfl ?_
    refine w_iload_n (pc := 104) hC dX11_newAsker_104 1 rfl rfl ?_
    refine w_iload_n (pc := 105) hC dX11_newAsker_105 2 rfl rfl ?_
    refine w_callI (cs := 1) (ss := 2) (pc := 106) (As := [.int (J n), .int (J v)]) (rest := [.ref q]) hC dX11_newAsker_106 cc_X11_340 (c_X0_init (kl K) G (CW A D T G.2.1 I F Q (P ++ [(q, .inr (kci 0, [.int (J 0), .int (J 0)]))])) (60 + P.length) q 0 0 0 n v (by decide) CW_last) (by decide) ⟨Nat.le_of_ble_eq_true rfl, Nat.le_of_ble_eq_true rfl⟩ rfl (Nat.le_of_ble_eq_true rfl) rfl (fun vo wo hv => ?_)
    obtain ⟨hv1, hw1⟩ := hv
    rw [hv1, hw1]
    refine w_weq CW_setP ?_
    refine w_aret (pc := 109) (o := some q) hC hRT dX11_newAsker_109 (Or.inl ⟨_, rfl⟩) ?_
    exact ⟨q, rfl, rfl⟩
  · subst e
    refine w_tableIn (pc := 1) (v := 1) (tgt := 40) hC dX11_newAsker_1 rfl (by decide) rfl (by decide) ?_
    refine w_newC (pc := 40) hC dX11_newAsker_40 cn_X11_322 ⟨Nat.le_of_ble_eq_true rfl, Nat.le_of_ble_eq_true rfl⟩ (fun q => ?_)
    rw [CW_app]
    refine w_dup (pc := 43) hC dX11_newAsker_43 rfl ?_
    refine w_iload_n (pc := 44) hC dX11_newAsker_44 1 rfl rfl ?_
    refine w_iload_n (pc := 45) hC dX11_newAsker_45 2 rfl rfl ?_
    refine w_callI (cs := 1) (ss := 2) (pc := 46) (As := [.int (J n), .int (J v)]) (rest := [.ref q]) hC dX11_newAsker_46 cc_X11_324 (c_X7_init (kl K) G (CW A D T G.2.1 I F Q (P ++ [(q, .inr (kci 1, [.int (J 0), .int (J 0)]))])) (60 + P.length) q 1 0 0 n v (by decide) CW_last) (by decide) ⟨Nat.le_of_ble_eq_true rfl, Nat.le_of_ble_eq_true rfl⟩ rfl (Nat.le_of_ble_eq_true rfl) rfl (fun vo wo hv => ?_)
    obtain ⟨hv1, hw1⟩ := hv
    rw [hv1, hw1]
    refine w_weq CW_setP ?_
    refine w_aret (pc := 49) (o := some q) hC hRT dX11_newAsker_49 (Or.inl ⟨_, rfl⟩) ?_
    exact ⟨q, rfl, rfl⟩
  · subst e
    refine w_tableIn (pc := 1) (v := 2) (tgt := 50) hC dX11_newAsker_1 rfl (by decide) rfl (by decide) ?_
    refine w_newC (pc := 50) hC dX11_newAsker_50 cn_X11_327 ⟨Nat.le_of_ble_eq_true rfl, Nat.le_of_ble_eq_true rfl⟩ (fun q => ?_)
    rw [CW_app]
    refine w_dup (pc := 53) hC dX11_newAsker_53 rfl ?_
    refine w_iload_n (pc := 54) hC dX11_newAsker_54 1 rfl rfl ?_
    refine w_iload_n (pc := 55) hC dX11_newAsker_55 2 rfl rfl ?_
    refine w_callI (cs := 1) (ss := 2) (pc := 56) (As := [.int (J n), .int (J v)]) (rest := [.ref q]) hC dX11_newAsker_56 cc_X11_329 (c_X5_init (kl K) G (CW A D T G.2.1 I F Q (P ++ [(q, .inr (kci 2, [.int (J 0), .int (J 0)]))])) (60 + P.length) q 2 0 0 n v (by decide) CW_last) (by decide) ⟨Nat.le_of_ble_eq_true rfl, Nat.le_of_ble_eq_true rfl⟩ rfl (Nat.le_of_ble_eq_true rfl) rfl (fun vo wo hv => ?_)
    obtain ⟨hv1, hw1⟩ := hv
    rw [hv1, hw1]
    refine w_weq CW_setP ?_
    refine w_aret (pc := 59) (o := some q) hC hRT dX11_newAsker_59 (Or.inl ⟨_, rfl⟩) ?_
    exact ⟨q, rfl, rfl⟩
  · subst e
    refine w_tableIn (pc := 1) (v := 3) (tgt := 60) hC dX11_newAsker_1 rfl (by decide) rfl (by decide) ?_
    refine w_newC (pc := 60) hC dX11_newAsker_60 cn_X11_330 ⟨Nat.le_of_ble_eq_true rfl, Nat.le_of_ble_eq_true rfl⟩ (fun q => ?_)
    rw [CW_app]
    refine w_dup (pc := 63) hC dX11_newAsker_63 rfl ?_
    refine w_iload_n (pc := 64) hC dX11_newAsker_64 1 rfl rfl ?_
    refine w_iload_n (pc := 65) hC dX11_newAsker_65 2 rfl rfl ?_
    refine w_callI (cs := 1) (ss := 2) (pc := 66) (As := [.int (J n), .int (J v)]) (rest := [.ref q]) hC dX11_newAsker_66 cc_X11_332 (c_X9_init (kl K) G (CW A D T G.2.1 I F Q (P ++ [(q, .inr (kci 3, [.int (J 0), .int (J 0)]))])) (60 + P.length) q 3 0 0 n v (by decide) CW_last) (by decide) ⟨Nat.le_of_ble_eq_true rfl, Nat.le_of_ble_eq_true rfl⟩ rfl (Nat.le_of_ble_eq_true rfl) rfl (fun vo wo hv => ?_)
    obtain ⟨hv1, hw1⟩ := hv
    rw [hv1, hw1]
    refine w_weq CW_setP ?_
    refine w_aret (pc := 69) (o := some q) hC hRT dX11_newAsker_69 (Or.inl ⟨_, rfl⟩) ?_
    exact ⟨q, rfl, rfl⟩
  · subst e
    refine w_tableIn (pc := 1) (v := 4) (tgt := 70) hC dX11_newAsker_1 rfl (by decide) rfl (by decide) ?_
    refine w_newC (pc := 70) hC dX11_newAsker_70 cn_X11_333 ⟨Nat.le_of_ble_eq_true rfl, Nat.le_of_ble_eq_true rfl⟩ (fun q => ?_)
    rw [CW_app]
    refine w_dup (pc := 73) hC dX11_newAsker_73 rfl ?_
    refine w_iload_n (pc := 74) hC dX11_newAsker_74 1 rfl rfl ?_
    refine w_iload_n (pc := 75) hC dX11_newAsker_75 2 rfl rfl ?_
    refine w_callI (cs := 1) (ss := 2) (pc := 76) (As := [.int (J n), .int (J v)]) (rest := [.ref q]) hC dX11_newAsker_76 cc_X11_335 (c_X1_init (kl K) G (CW A D T G.2.1 I F Q (P ++ [(q, .inr (kci 4, [.int (J 0), .int (J 0)]))])) (60 + P.length) q 4 0 0 n v (by decide) CW_last) (by decide) ⟨Nat.le_of_ble_eq_true rfl, Nat.le_of_ble_eq_true rfl⟩ rfl (Nat.le_of_ble_eq_true rfl) rfl (fun vo wo hv => ?_)
    obtain ⟨hv1, hw1⟩ := hv
    rw [hv1, hw1]
    refine w_weq CW_setP ?_
    refine w_aret (pc := 79) (o := some q) hC hRT dX11_newAsker_79 (Or.inl ⟨_, rfl⟩) ?_
    exact ⟨q, rfl, rfl⟩
  · subst e
    refine w_tableIn (pc := 1) (v := 5) (tgt := 80) hC dX11_newAsker_1 rfl (by decide) rfl (by decide) ?_
    refine w_newC (pc := 80) hC dX11_newAsker_80 cn_X11_336 ⟨Nat.le_of_ble_eq_true rfl, Nat.le_of_ble_eq_true rfl⟩ (fun q => ?_)
    rw [CW_app]
    refine w_dup (pc := 83) hC dX11_newAsker_83 rfl ?_
    refine w_iload_n (pc := 84) hC dX11_newAsker_84 1 rfl rfl ?_
    refine w_iload_n (pc := 85) hC dX11_newAsker_85 2 rfl rfl ?_
    refine w_callI (cs := 1) (ss := 2) (pc := 86) (As := [.int (J n), .int (J v)]) (rest := [.ref q]) hC dX11_newAsker_86 cc_X11_338 (c_X10_init (kl K) G (CW A D T G.2.1 I F Q (P ++ [(q, .inr (kci 5, [.int (J 0), .int (J 0)]))])) (60 + P.length) q 5 0 0 n v (by decide) CW_last) (by decide) ⟨Nat.le_of_ble_eq_true rfl, Nat.le_of_ble_eq_true rfl⟩ rfl (Nat.le_of_ble_eq_true rfl) rfl (fun vo wo hv => ?_)
    obtain ⟨hv1, hw1⟩ := hv
    rw [hv1, hw1]
    refine w_weq CW_setP ?_
    refine w_aret (pc := 89) (o := some q) hC hRT dX11_newAsker_89 (Or.inl ⟨_, rfl⟩) ?_
    exact ⟨q, rfl, rfl⟩
  · subst e
    refine w_tableIn (pc := 1) (v := 6) (tgt := 90) hC dX11_newAsker_1 rfl (by decide) rfl (by decide) ?_
    refine w_newC (pc := 90) hC dX11_newAsker_90 cn_X11_282 ⟨Nat.le_of_ble_eq_true rfl, Nat.le_of_ble_eq_true rfl⟩ (fun q => ?_)
    rw [CW_app]
    refine w_dup (pc := 93) hC dX11_newAsker_93 rfl ?_
    refine w_iload_n (pc := 94) hC dX11_newAsker_94 1 rfl rfl ?_
    refine w_iload_n (pc := 95) hC dX11_newAsker_95 2 rfl rfl ?_
    refine w_callI (cs := 1) (ss := 2) (pc := 96) (As := [.int (J n), .int (J v)]) (rest := [.ref q]) hC dX11_newAsker_96 cc_X11_339 (c_X8_init (kl K) G (CW A D T G.2.1 I F Q (P ++ [(q, .inr (kci 6, [.int (J 0), .int (J 0)]))])) (60 + P.length) q 6 0 0 n v (by decide) CW_last) (by decide) ⟨Nat.le_of_ble_eq_true rfl, Nat.le_of_ble_eq_true rfl⟩ rfl (Nat.le_of_ble_eq_true rfl) rfl (fun vo wo hv => ?_)
    obtain ⟨hv1, hw1⟩ := hv
    rw [hv1, hw1]
    refine w_weq CW_setP ?_
    refine w_aret (pc := 99) (o := some q) hC hRT dX11_newAsker_99 (Or.inl ⟨_, rfl⟩) ?_
    exact ⟨q, rfl, rfl⟩
