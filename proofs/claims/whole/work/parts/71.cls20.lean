
/-- one body more, in the class's row of bodies -/
def nt1 (g : Int → Int) (b : Int) : Int → Int := if g 0 + 1 < 21 then gu (gu g 0 (g 0 + 1)) (g 0 + 1) b else gu g 0 (g 0 + 1)
def ntL : List Int → (Int → Int) → (Int → Int)
  | [], g => g
  | b :: L, g => ntL L (nt1 g b)
theorem ntL_app : ∀ (L1 L2 : List Int) (g : Int → Int), ntL (L1 ++ L2) g = ntL L2 (ntL L1 g)
  | [], L2, g => rfl
  | b :: L, L2, g => ntL_app L L2 (nt1 g b)
theorem nt1_0 (g : Int → Int) (b : Int) (h : 0 ≤ g 0) : nt1 g b 0 = g 0 + 1 := by
  unfold nt1
  by_cases c : g 0 + 1 < 21
  · rw [if_pos c, gu_ne (by omega), gu_eq]
  · rw [if_neg c, gu_eq]
theorem ntL_0 : ∀ (L : List Int) (g : Int → Int), 0 ≤ g 0 → ntL L g 0 = g 0 + (L.length : Int)
  | [], g, h => by simp [ntL]
  | b :: L, g, h => by
    have e := nt1_0 g b h
    show ntL L (nt1 g b) 0 = _
    rw [ntL_0 L _ (by omega), e]
    simp only [List.length_cons]
    omega
def BDY (g bd : Int → Int) (ran : Int) : Prop := g 0 = ran ∧ ∀ z : Int, 0 ≤ z → z < ran → z < 20 → g (1 + z) = bd z
theorem BDY_1 {g bd : Int → Int} {ran b : Int} (h0 : 0 ≤ ran) (h : BDY g bd ran) : BDY (nt1 g b) (napp bd ran b) (ran + 1) := by
  obtain ⟨h1, h2⟩ := h
  refine ⟨by rw [nt1_0 g b (by omega), h1], fun z z0 z1 z2 => ?_⟩
  unfold nt1 napp
  rw [h1]
  by_cases c : ran < 20
  · rw [if_pos (by omega), if_pos c]
    by_cases e : z = ran
    · rw [e, show (1 + ran) = ran + 1 by omega, gu_eq, gu_eq]
    · rw [gu_ne (by omega), gu_ne (by omega), gu_ne e]
      exact h2 z z0 (by omega) z2
  · rw [if_neg (by omega), if_neg c, gu_ne (by omega)]
    exact h2 z z0 (by omega) z2
theorem BDY_L : ∀ (L : List Int) (g bd : Int → Int) (ran : Int), 0 ≤ ran → BDY g bd ran → BDY (ntL L g) (nb L bd ran) (ran + (L.length : Int))
  | [], g, bd, ran, h0, h => by simpa [ntL, nb] using h
  | b :: L, g, bd, ran, h0, h => by
    have e := BDY_L L _ _ (ran + 1) (by omega) (BDY_1 (b := b) h0 h)
    show BDY (ntL L (nt1 g b)) (nb L (napp bd ran b) (ran + 1)) _
    rw [show ran + ((b :: L).length : Int) = ran + 1 + (L.length : Int) by simp only [List.length_cons]; omega]
    exact e
theorem BDY_0 {g bd : Int → Int} (h : g 0 = 0) : BDY g bd 0 := ⟨h, fun z z0 z1 _ => absurd z1 (Int.not_lt.mpr z0)⟩
theorem vw_k {k : Int} (h : 0 ≤ k ∧ k ≤ 6) : vwCl[kci k]? = some (kCn k, kTn k, 2) := by
  rcases k7 h with e | e | e | e | e | e | e <;> subst e <;> rfl
theorem csi_X7_15 : CSI RX7 15 RX0 ⟨"LadderClub$Near", "note", "([II)V"⟩ cX0_note 2 none 2 := ⟨tw_4_185, tw_4_186, tw_1_3, tw_4_171, by decide, by decide, by decide +kernel⟩
theorem csi_X1_21 : CSI RX1 21 RX0 ⟨"LadderClub$Best", "note", "([II)V"⟩ cX0_note 2 none 2 := ⟨tw_4_168, tw_4_169, tw_1_3, tw_4_171, by decide, by decide, by decide +kernel⟩
theorem csi_X5_15 : CSI RX5 15 RX0 ⟨"LadderClub$Far", "note", "([II)V"⟩ cX0_note 2 none 2 := ⟨tw_4_200, tw_4_201, tw_1_3, tw_4_171, by decide, by decide, by decide +kernel⟩
theorem csi_X8_11 : CSI RX8 11 RX0 ⟨"LadderClub$Never", "note", "([II)V"⟩ cX0_note 2 none 2 := ⟨tw_4_208, tw_4_209, tw_1_3, tw_4_171, by decide, by decide, by decide +kernel⟩
theorem csi_X10_19 : CSI RX10 19 RX0 ⟨"LadderClub$Told", "note", "([II)V"⟩ cX0_note 2 none 2 := ⟨tw_4_230, tw_4_231, tw_1_3, tw_4_171, by decide, by decide, by decide +kernel⟩
theorem csi_X9_19 : CSI RX9 19 RX0 ⟨"LadderClub$Safe", "note", "([II)V"⟩ cX0_note 2 none 2 := ⟨tw_4_236, tw_4_237, tw_1_3, tw_4_171, by decide, by decide, by decide +kernel⟩
theorem csi_X1_25 : CSI RX1 25 RX0 ⟨"LadderClub$Far", "asking", "(I[I)I"⟩ cX0_asking 3 (some Jvm.ClassFile.FieldType.int) 2 := ⟨tw_4_172, tw_4_173, tw_1_3, tw_4_191, by decide, by decide, by decide +kernel⟩
theorem csi_X8_15 : CSI RX8 15 RX0 ⟨"LadderClub$Told", "taking", "(I[I)I"⟩ cX0_taking 3 (some Jvm.ClassFile.FieldType.int) 2 := ⟨tw_4_210, tw_4_211, tw_1_3, tw_4_218, by decide, by decide, by decide +kernel⟩
theorem csi_X9_23 : CSI RX9 23 RX0 ⟨"LadderClub$Far", "waiting", "(I[I)I"⟩ cX0_waiting 3 (some Jvm.ClassFile.FieldType.int) 2 := ⟨tw_4_238, tw_4_239, tw_1_3, tw_5_5, by decide, by decide, by decide +kernel⟩
theorem csup_X7_19 : CSup RX7 19 yX0_asking cX0_asking 3 (some Jvm.ClassFile.FieldType.int) 2 := ⟨tw_4_187, tw_4_164, sup_Near, tw_4_162, tw_1_3, tw_4_191, by decide, by decide, by decide +kernel⟩
theorem csup_X5_19 : CSup RX5 19 yX0_taking cX0_taking 3 (some Jvm.ClassFile.FieldType.int) 2 := ⟨tw_4_202, tw_4_196, sup_Far, tw_4_194, tw_1_3, tw_4_218, by decide, by decide, by decide +kernel⟩
theorem csup_X10_23 : CSup RX10 23 yX0_waiting cX0_waiting 3 (some Jvm.ClassFile.FieldType.int) 2 := ⟨tw_4_232, tw_4_223, sup_Told, tw_4_221, tw_1_3, tw_5_5, by decide, by decide, by decide +kernel⟩

set_option maxRecDepth 100000 in
set_option maxHeartbeats 4000000 in
theorem c_X0_note (l : Launch) (G : GT) (A D : Nat → Nat) (T : Nat) (I : Nat → Int → Int) (F : Nat → Int) (Q : Nat → Nat → Option Nat) (P : va_W)  (body : Int) (hb : 0 ≤ (I 55) 0 ∧ (I 55) 0 ≤ 200) : CT l yX0_note cX0_note 2 none 0 0 0 G [.ref (A 55), .int (J body)] (CW A D T G.2.1 I F Q P) (fun vo wo => ∃ (b55 : Int → Int), vo = none ∧ wo = CW A D T G.2.1 (au I 55 b55) F Q P ∧ (b55 = nt1 (I 55) body ∧ b55 0 = (I 55) 0 + 1)) := by
  refine CT_of (own := RX0) rfl rfl (Nat.le_of_ble_eq_true rfl) (fun K hl hnL hC hRT hin => ?_)
  subst hl
  show WW K G 0 0 (CW A D T G.2.1 I F Q P) 0 [(0, .ref (A 55)), (1, .int (J body))] []
  refine w_aload_n (pc := 0) hC dX0_note_0 0 rfl rfl ?_
  refine w_iconst (pc := 1) hC dX0_note_1 ?_
  refine w_dup2 (pc := 2) hC dX0_note_2 rfl rfl ?_
  refine w_ialdV (pc := 3) (g := (I 55)) (v := (I 55) 0) hC dX0_note_3 55 CW_55 (by omega) (Nat.le_of_ble_eq_true rfl) rfl ?_
  refine w_iconst (pc := 4) hC dX0_note_4 ?_
  refine w_iadd (pc := 5) hC dX0_note_5 ?_
  refine w_iast (pc := 6) (g := (I 55)) (w2 := CW A D T G.2.1 (au I 55 (gu (I 55) 0 (((I 55) 0) + 1))) F Q P) hC dX0_note_6 55 CW_55 (by omega) (Nat.le_of_ble_eq_true rfl) (CWa_55 rfl) ?_
  generalize h6 : gu (I 55) 0 (((I 55) 0) + 1) = s6
  have e6 : s6 0 = I 55 0 + 1 := by rw [← h6, gu_eq]
  refine w_aload_n (pc := 7) hC dX0_note_7 0 rfl rfl ?_
  refine w_iconst (pc := 8) hC dX0_note_8 ?_
  refine w_ialdV (pc := 9) (g := s6) (v := s6 0) hC dX0_note_9 55 CW_55 (by omega) (Nat.le_of_ble_eq_true rfl) rfl ?_
  refine w_aload_n (pc := 10) hC dX0_note_10 0 rfl rfl ?_
  refine w_alen (pc := 11) hC dX0_note_11 55 0 CW_55 rfl ?_
  refine w_icmp_ge (pc := 12) (tgt := 21) hC dX0_note_12 (by decide) (by omega) (fun c12 => ?_) (fun c12 => ?_)
  · refine w_vret (pc := 21) hC hRT dX0_note_21 ?_
    refine ⟨s6, rfl, rfl, ?_⟩
    · first | exact ⟨by unfold nt1; rw [if_pos (show I 55 0 + 1 < 21 by omega)]; rw [← h20, e6, ← h6], by rw [← h20, gu_ne (by omega)]; exact e6⟩ | exact ⟨by unfold nt1; rw [if_neg (show ¬ I 55 0 + 1 < 21 by omega)]; exact h6.symm, e6⟩
  · refine w_aload_n (pc := 15) hC dX0_note_15 0 rfl rfl ?_
    refine w_aload_n (pc := 16) hC dX0_note_16 0 rfl rfl ?_
    refine w_iconst (pc := 17) hC dX0_note_17 ?_
    refine w_ialdV (pc := 18) (g := s6) (v := s6 0) hC dX0_note_18 55 CW_55 (by omega) (Nat.le_of_ble_eq_true rfl) rfl ?_
    refine w_iload_n (pc := 19) hC dX0_note_19 1 rfl rfl ?_
    refine w_iast (pc := 20) (g := s6) (w2 := CW A D T G.2.1 (au I 55 (gu s6 (s6 0) body)) F Q P) hC dX0_note_20 55 CW_55 (by omega) (Nat.le_of_ble_eq_true rfl) (CWa_55 au_rp) ?_
    generalize h20 : gu s6 (s6 0) body = s20
    refine w_vret (pc := 21) hC hRT dX0_note_21 ?_
    refine ⟨s20, rfl, rfl, ?_⟩
    · first | exact ⟨by unfold nt1; rw [if_pos (show I 55 0 + 1 < 21 by omega)]; rw [← h20, e6, ← h6], by rw [← h20, gu_ne (by omega)]; exact e6⟩ | exact ⟨by unfold nt1; rw [if_neg (show ¬ I 55 0 + 1 < 21 by omega)]; exact h6.symm, e6⟩
set_option maxRecDepth 100000 in
set_option maxHeartbeats 4000000 in
theorem c_X0_asking (l : Launch) (G : GT) (A D : Nat → Nat) (T : Nat) (I : Nat → Int → Int) (F : Nat → Int) (Q : Nat → Nat → Option Nat) (P : va_W) (i0 : Nat) (k : Int) (m : Int) (v : Int) (q : Nat) (x : Int) (hq : P[i0]? = some (q, .inr (kci k, [.int (J m), .int (J v)]))) (hk : 0 ≤ k ∧ k ≤ 6) (hb : 0 ≤ (I 55) 0 ∧ (I 55) 0 ≤ 150) : CT l yX0_asking cX0_asking 3 (some .int) 1 0 0 G [.ref q, .int (J x), .ref (A 55)] (CW A D T G.2.1 I F Q P) (fun vo wo => ∃ (b55 : Int → Int), vo = some (.int (J (x + m))) ∧ wo = CW A D T G.2.1 (au I 55 b55) F Q P ∧ (b55 = ntL ([1]) (I 55) ∧ b55 0 = (I 55) 0 + 1)) := by
  refine CT_of (own := RX0) rfl rfl (Nat.le_of_ble_eq_true rfl) (fun K hl hnL hC hRT hin => ?_)
  subst hl
  show WW K G 0 0 (CW A D T G.2.1 I F Q P) 0 [(0, .ref q), (1, .int (J x)), (2, .ref (A 55))] []
  refine w_aload_n (pc := 0) hC dX0_asking_0 2 rfl rfl ?_
  refine w_iconst (pc := 1) hC dX0_asking_1 ?_
  refine w_callS (pc := 2) (As := [.ref (A 55), .int (J 1)]) (rest := []) hC dX0_asking_2 cs_X0_22 (c_X0_note (kl K) G A D T I F Q P 1 (show 0 ≤ (I 55) 0 ∧ (I 55) 0 ≤ 200 from by first | assumption | omega)) (by decide) ⟨Nat.le_of_ble_eq_true rfl, Nat.le_of_ble_eq_true rfl⟩ rfl (Nat.le_of_ble_eq_true rfl) rfl (fun vo wo hv => ?_)
  obtain ⟨b55_2, hv1, hw1, r2⟩ := hv
  rw [hv1, hw1]
  show WW K G 0 0 (CW A D T G.2.1 (au I 55 b55_2) F Q P) 5 [(0, .ref q), (1, .int (J x)), (2, .ref (A 55))] []
  have r2 : b55_2 = nt1 (I 55) 1 ∧ b55_2 0 = (I 55) 0 + 1 := r2
  refine w_iload_n (pc := 5) hC dX0_asking_5 1 rfl rfl ?_
  refine w_aload_n (pc := 6) hC dX0_asking_6 0 rfl rfl ?_
  refine w_getf (pc := 7) (v := .int (J m)) hC dX0_asking_7 (fik_9 hk) (60 + i0) (CW_P hq) rfl ?_
  refine w_iadd (pc := 10) hC dX0_asking_10 ?_
  refine w_iret (pc := 11) hC hRT dX0_asking_11 rfl ?_
  refine ⟨b55_2, retI (by first | rfl | exact (bI_t (by omega)).symm | exact (bI_f (by omega)).symm | omega), rfl, ?_⟩
  · exact ⟨by rw [r2.1]; rfl, by rw [r2.2]⟩
set_option maxRecDepth 100000 in
set_option maxHeartbeats 4000000 in
theorem c_X7_asking (l : Launch) (G : GT) (A D : Nat → Nat) (T : Nat) (I : Nat → Int → Int) (F : Nat → Int) (Q : Nat → Nat → Option Nat) (P : va_W) (i0 : Nat) (m : Int) (v : Int) (q : Nat) (x : Int) (hq : P[i0]? = some (q, .inr (7, [.int (J m), .int (J v)]))) (hb : 0 ≤ (I 55) 0 ∧ (I 55) 0 ≤ 140) : CT l yX7_asking cX7_asking 3 (some .int) 2 0 0 G [.ref q, .int (J x), .ref (A 55)] (CW A D T G.2.1 I F Q P) (fun vo wo => ∃ (b55 : Int → Int), vo = some (.int (J (asv 1 m x))) ∧ wo = CW A D T G.2.1 (au I 55 b55) F Q P ∧ (b55 = ntL (asL 1) (I 55) ∧ b55 0 = (I 55) 0 + ((asL 1).length : Int))) := by
  refine CT_of (own := RX7) rfl rfl (Nat.le_of_ble_eq_true rfl) (fun K hl hnL hC hRT hin => ?_)
  subst hl
  show WW K G 0 0 (CW A D T G.2.1 I F Q P) 0 [(0, .ref q), (1, .int (J x)), (2, .ref (A 55))] []
  refine w_aload_n (pc := 0) hC dX7_asking_0 2 rfl rfl ?_
  refine w_bipush (pc := 1) hC dX7_asking_1 (z := 11) rfl ?_
  refine w_callSI (pc := 3) (As := [.ref (A 55), .int (J 11)]) (rest := []) hC dX7_asking_3 csi_X7_15 rfl tw_4_170 (c_X0_note (kl K) G A D T I F Q P 11 (show 0 ≤ (I 55) 0 ∧ (I 55) 0 ≤ 200 from by first | assumption | omega)) (by decide) ⟨Nat.le_of_ble_eq_true rfl, Nat.le_of_ble_eq_true rfl⟩  rfl (Nat.le_of_ble_eq_true rfl) rfl (fun vo wo hv => ?_)
  obtain ⟨b55_3, hv1, hw1, r3⟩ := hv
  rw [hv1, hw1]
  show WW K G 0 0 (CW A D T G.2.1 (au I 55 b55_3) F Q P) 6 [(0, .ref q), (1, .int (J x)), (2, .ref (A 55))] []
  have r3 : b55_3 = nt1 (I 55) 11 ∧ b55_3 0 = (I 55) 0 + 1 := r3
  refine w_aload_n (pc := 6) hC dX7_asking_6 0 rfl rfl ?_
  refine w_iload_n (pc := 7) hC dX7_asking_7 1 rfl rfl ?_
  refine w_iconst (pc := 8) hC dX7_asking_8 ?_
  refine w_imul (pc := 9) hC dX7_asking_9 ?_
  refine w_aload_n (pc := 10) hC dX7_asking_10 2 rfl rfl ?_
  refine w_callSup (pc := 11) (As := [.int (J (x * 3)), .ref (A 55)]) (rest := []) hC dX7_asking_11 csup_X7_19 (c_X0_asking (kl K) G A D T (au I 55 b55_3) F Q P i0 1 m v q (x * 3) (show P[i0]? = some (q, .inr (kci 1, [.int (J m), .int (J v)])) from by exact hq) (show 0 ≤ 1 ∧ 1 ≤ 6 from by first | exact hk | decide) (show 0 ≤ b55_3 0 ∧ b55_3 0 ≤ 150 from by first | assumption | omega)) (by decide) ⟨Nat.le_of_ble_eq_true rfl, Nat.le_of_ble_eq_true rfl⟩ (CW_P hq) rfl rfl (Nat.le_of_ble_eq_true rfl) rfl (fun vo wo hv => ?_)
  obtain ⟨b55_11, hv1, hw1, r11⟩ := hv
  rw [hv1, hw1]
  refine w_weq (CW_cong (au_th rfl au_rp) rfl rfl) ?_
  show WW K G 0 0 (CW A D T G.2.1 (au I 55 b55_11) F Q P) 14 [(0, .ref q), (1, .int (J x)), (2, .ref (A 55))] [.int (J ((x * 3) + m))]
  have r11 : b55_11 = ntL ([1]) b55_3 ∧ b55_11 0 = b55_3 0 + 1 := r11
  refine w_iret (pc := 14) hC hRT dX7_asking_14 rfl ?_
  refine ⟨b55_11, retI (by first | rfl | exact (bI_t (by omega)).symm | exact (bI_f (by omega)).symm | omega), rfl, ?_⟩
  · exact ⟨by rw [r11.1, r3.1]; rfl, by rw [r11.2, r3.2]; simp [asL]; omega⟩
set_option maxRecDepth 100000 in
set_option maxHeartbeats 4000000 in
theorem c_X1_asking (l : Launch) (G : GT) (A D : Nat → Nat) (T : Nat) (I : Nat → Int → Int) (F : Nat → Int) (Q : Nat → Nat → Option Nat) (P : va_W) (i0 : Nat) (m : Int) (v : Int) (q : Nat) (x : Int) (hq : P[i0]? = some (q, .inr (1, [.int (J m), .int (J v)]))) (hb : 0 ≤ (I 55) 0 ∧ (I 55) 0 ≤ 140) : CT l yX1_asking cX1_asking 3 (some .int) 2 0 0 G [.ref q, .int (J x), .ref (A 55)] (CW A D T G.2.1 I F Q P) (fun vo wo => ∃ (b55 : Int → Int), vo = some (.int (J (asv 4 m x))) ∧ wo = CW A D T G.2.1 (au I 55 b55) F Q P ∧ (b55 = ntL (asL 4) (I 55) ∧ b55 0 = (I 55) 0 + ((asL 4).length : Int))) := by
  refine CT_of (own := RX1) rfl rfl (Nat.le_of_ble_eq_true rfl) (fun K hl hnL hC hRT hin => ?_)
  subst hl
  show WW K G 0 0 (CW A D T G.2.1 I F Q P) 0 [(0, .ref q), (1, .int (J x)), (2, .ref (A 55))] []
  refine w_aload_n (pc := 0) hC dX1_asking_0 2 rfl rfl ?_
  refine w_bipush (pc := 1) hC dX1_asking_1 (z := 51) rfl ?_
  refine w_callSI (pc := 3) (As := [.ref (A 55), .int (J 51)]) (rest := []) hC dX1_asking_3 csi_X1_21 rfl tw_4_170 (c_X0_note (kl K) G A D T I F Q P 51 (show 0 ≤ (I 55) 0 ∧ (I 55) 0 ≤ 200 from by first | assumption | omega)) (by decide) ⟨Nat.le_of_ble_eq_true rfl, Nat.le_of_ble_eq_true rfl⟩  rfl (Nat.le_of_ble_eq_true rfl) rfl (fun vo wo hv => ?_)
  obtain ⟨b55_3, hv1, hw1, r3⟩ := hv
  rw [hv1, hw1]
  show WW K G 0 0 (CW A D T G.2.1 (au I 55 b55_3) F Q P) 6 [(0, .ref q), (1, .int (J x)), (2, .ref (A 55))] []
  have r3 : b55_3 = nt1 (I 55) 51 ∧ b55_3 0 = (I 55) 0 + 1 := r3
  refine w_aload_n (pc := 6) hC dX1_asking_6 0 rfl rfl ?_
  refine w_iload_n (pc := 7) hC dX1_asking_7 1 rfl rfl ?_
  refine w_aload_n (pc := 8) hC dX1_asking_8 2 rfl rfl ?_
  refine w_callSupI (pc := 9) (As := [.int (J x), .ref (A 55)]) (rest := []) hC dX1_asking_9 csi_X1_25 rfl tw_4_162 sup_Best sup_Far (by decide) (c_X0_asking (kl K) G A D T (au I 55 b55_3) F Q P i0 4 m v q x (show P[i0]? = some (q, .inr (kci 4, [.int (J m), .int (J v)])) from by exact hq) (show 0 ≤ 4 ∧ 4 ≤ 6 from by first | exact hk | decide) (show 0 ≤ b55_3 0 ∧ b55_3 0 ≤ 150 from by first | assumption | omega)) (by decide) ⟨Nat.le_of_ble_eq_true rfl, Nat.le_of_ble_eq_true rfl⟩ (CW_P hq) rfl rfl (Nat.le_of_ble_eq_true rfl) rfl (fun vo wo hv => ?_)
  obtain ⟨b55_9, hv1, hw1, r9⟩ := hv
  rw [hv1, hw1]
  refine w_weq (CW_cong (au_th rfl au_rp) rfl rfl) ?_
  show WW K G 0 0 (CW A D T G.2.1 (au I 55 b55_9) F Q P) 12 [(0, .ref q), (1, .int (J x)), (2, .ref (A 55))] [.int (J (x + m))]
  have r9 : b55_9 = ntL ([1]) b55_3 ∧ b55_9 0 = b55_3 0 + 1 := r9
  refine w_aload_n (pc := 12) hC dX1_asking_12 0 rfl rfl ?_
  refine w_callO (pc := 13) (As := []) (rest := [.int (J (x + m))]) hC dX1_asking_13 vo_X1_29_X1 (c_X0_number (kl K) G A D T (au I 55 b55_9) F Q P i0 4 m v q (show P[i0]? = some (q, .inr (kci 4, [.int (J m), .int (J v)])) from by exact hq) (show 0 ≤ 4 ∧ 4 ≤ 6 from by decide)) (by decide) ⟨Nat.le_of_ble_eq_true rfl, Nat.le_of_ble_eq_true rfl⟩ (q0 := 60 + i0) (CW_P hq) rfl rfl rfl (Nat.le_of_ble_eq_true rfl) rfl (fun vo wo hv => ?_)
  obtain ⟨hv1, hw1⟩ := hv
  rw [hv1, hw1]
  show WW K G 0 0 (CW A D T G.2.1 (au I 55 b55_9) F Q P) 16 [(0, .ref q), (1, .int (J x)), (2, .ref (A 55))] [.int (J m), .int (J (x + m))]
  refine w_ixor (pc := 16) hC dX1_asking_16 (v := jx (x + m) m) (J_xor _ _) ?_
  refine w_iret (pc := 17) hC hRT dX1_asking_17 rfl ?_
  refine ⟨b55_9, retI (by first | rfl | exact (bI_t (by omega)).symm | exact (bI_f (by omega)).symm | omega), rfl, ?_⟩
  · exact ⟨by rw [r9.1, r3.1]; rfl, by rw [r9.2, r3.2]; simp [asL]; omega⟩
set_option maxRecDepth 100000 in
set_option maxHeartbeats 4000000 in
theorem c_X0_taking (l : Launch) (G : GT) (A D : Nat → Nat) (T : Nat) (I : Nat → Int → Int) (F : Nat → Int) (Q : Nat → Nat → Option Nat) (P : va_W) (i0 : Nat) (k : Int) (m : Int) (v : Int) (q : Nat) (x : Int) (hq : P[i0]? = some (q, .inr (kci k, [.int (J m), .int (J v)]))) (hk : 0 ≤ k ∧ k ≤ 6) (hb : 0 ≤ (I 55) 0 ∧ (I 55) 0 ≤ 130) : CT l yX0_taking cX0_taking 3 (some .int) 3 0 0 G [.ref q, .int (J x), .ref (A 55)] (CW A D T G.2.1 I F Q P) (fun vo wo => ∃ (b55 : Int → Int), vo = some (.int (J (asv k m x - v))) ∧ wo = CW A D T G.2.1 (au I 55 b55) F Q P ∧ (b55 = ntL (ptL k) (I 55) ∧ b55 0 = (I 55) 0 + ((ptL k).length : Int))) := by
  refine CT_of (own := RX0) rfl rfl (Nat.le_of_ble_eq_true rfl) (fun K hl hnL hC hRT hin => ?_)
  subst hl
  show WW K G 0 0 (CW A D T G.2.1 I F Q P) 0 [(0, .ref q), (1, .int (J x)), (2, .ref (A 55))] []
  refine w_aload_n (pc := 0) hC dX0_taking_0 2 rfl rfl ?_
  refine w_iconst (pc := 1) hC dX0_taking_1 ?_
  refine w_callS (pc := 2) (As := [.ref (A 55), .int (J 2)]) (rest := []) hC dX0_taking_2 cs_X0_22 (c_X0_note (kl K) G A D T I F Q P 2 (show 0 ≤ (I 55) 0 ∧ (I 55) 0 ≤ 200 from by first | assumption | omega)) (by decide) ⟨Nat.le_of_ble_eq_true rfl, Nat.le_of_ble_eq_true rfl⟩ rfl (Nat.le_of_ble_eq_true rfl) rfl (fun vo wo hv => ?_)
  obtain ⟨b55_2, hv1, hw1, r2⟩ := hv
  rw [hv1, hw1]
  show WW K G 0 0 (CW A D T G.2.1 (au I 55 b55_2) F Q P) 5 [(0, .ref q), (1, .int (J x)), (2, .ref (A 55))] []
  have r2 : b55_2 = nt1 (I 55) 2 ∧ b55_2 0 = (I 55) 0 + 1 := r2
  refine w_aload_n (pc := 5) hC dX0_taking_5 0 rfl rfl ?_
  refine w_iload_n (pc := 6) hC dX0_taking_6 1 rfl rfl ?_
  refine w_aload_n (pc := 7) hC dX0_taking_7 2 rfl rfl ?_
  rcases k7 hk with ek | ek | ek | ek | ek | ek | ek
  · have hq2 : P[i0]? = some (q, .inr (0, [.int (J m), .int (J v)])) := by rw [hq, ek]; rfl
    refine w_callV (pc := 8) (As := [.int (J x), .ref (A 55)]) (rest := []) hC dX0_taking_8 cv_X0_26 (c_X0_asking (kl K) G A D T (au I 55 b55_2) F Q P i0 0 m v q x (show P[i0]? = some (q, .inr (kci 0, [.int (J m), .int (J v)])) from by exact hq2) (show 0 ≤ 0 ∧ 0 ≤ 6 from by decide) (show 0 ≤ b55_2 0 ∧ b55_2 0 ≤ 150 from by first | assumption | omega)) (by decide) ⟨Nat.le_of_ble_eq_true rfl, Nat.le_of_ble_eq_true rfl⟩ (q0 := 60 + i0) (CW_P hq2) rfl rfl rfl (Nat.le_of_ble_eq_true rfl) rfl (fun vo wo hv => ?_)
    obtain ⟨b55_8, hv1, hw1, r8⟩ := hv
    rw [hv1, hw1]
    refine w_weq (CW_cong (au_th rfl au_rp) rfl rfl) ?_
    show WW K G 0 0 (CW A D T G.2.1 (au I 55 b55_8) F Q P) 11 [(0, .ref q), (1, .int (J x)), (2, .ref (A 55))] [.int (J (x + m))]
    have r8 : b55_8 = ntL ([1]) b55_2 ∧ b55_8 0 = b55_2 0 + 1 := r8
    refine w_aload_n (pc := 11) hC dX0_taking_11 0 rfl rfl ?_
    refine w_getf (pc := 12) (v := .int (J v)) hC dX0_taking_12 (fik_15 hk) (60 + i0) (CW_P hq) rfl ?_
    refine w_isub (pc := 15) hC dX0_taking_15 ?_
    refine w_iret (pc := 16) hC hRT dX0_taking_16 rfl ?_
    refine ⟨b55_8, retI (by subst ek; rfl), rfl, ?_⟩
    · subst ek; exact ⟨by rw [r8.1, r2.1]; rfl, by rw [r8.2, r2.2]; simp [ptL, asL]; try omega⟩
  · have hq2 : P[i0]? = some (q, .inr (7, [.int (J m), .int (J v)])) := by rw [hq, ek]; rfl
    refine w_callO (pc := 8) (As := [.int (J x), .ref (A 55)]) (rest := []) hC dX0_taking_8 vo_X0_26_X7 (c_X7_asking (kl K) G A D T (au I 55 b55_2) F Q P i0 m v q x (show P[i0]? = some (q, .inr (7, [.int (J m), .int (J v)])) from by exact hq2) (show 0 ≤ b55_2 0 ∧ b55_2 0 ≤ 140 from by first | assumption | omega)) (by decide) ⟨Nat.le_of_ble_eq_true rfl, Nat.le_of_ble_eq_true rfl⟩ (q0 := 60 + i0) (CW_P hq2) rfl rfl rfl (Nat.le_of_ble_eq_true rfl) rfl (fun vo wo hv => ?_)
    obtain ⟨b55_8, hv1, hw1, r8⟩ := hv
    rw [hv1, hw1]
    refine w_weq (CW_cong (au_th rfl au_rp) rfl rfl) ?_
    show WW K G 0 0 (CW A D T G.2.1 (au I 55 b55_8) F Q P) 11 [(0, .ref q), (1, .int (J x)), (2, .ref (A 55))] [.int (J (asv 1 m x))]
    have r8 : b55_8 = ntL (asL 1) b55_2 ∧ b55_8 0 = b55_2 0 + ((asL 1).length : Int) := r8
    refine w_aload_n (pc := 11) hC dX0_taking_11 0 rfl rfl ?_
    refine w_getf (pc := 12) (v := .int (J v)) hC dX0_taking_12 (fik_15 hk) (60 + i0) (CW_P hq) rfl ?_
    refine w_isub (pc := 15) hC dX0_taking_15 ?_
    refine w_iret (pc := 16) hC hRT dX0_taking_16 rfl ?_
    refine ⟨b55_8, retI (by subst ek; rfl), rfl, ?_⟩
    · subst ek; exact ⟨by rw [r8.1, r2.1]; rfl, by rw [r8.2, r2.2]; simp [ptL, asL]; try omega⟩
  · have hq2 : P[i0]? = some (q, .inr (5, [.int (J m), .int (J v)])) := by rw [hq, ek]; rfl
    refine w_callO (pc := 8) (As := [.int (J x), .ref (A 55)]) (rest := []) hC dX0_taking_8 vo_X0_26_X5 (c_X0_asking (kl K) G A D T (au I 55 b55_2) F Q P i0 2 m v q x (show P[i0]? = some (q, .inr (kci 2, [.int (J m), .int (J v)])) from by exact hq2) (show 0 ≤ 2 ∧ 2 ≤ 6 from by decide) (show 0 ≤ b55_2 0 ∧ b55_2 0 ≤ 150 from by first | assumption | omega)) (by decide) ⟨Nat.le_of_ble_eq_true rfl, Nat.le_of_ble_eq_true rfl⟩ (q0 := 60 + i0) (CW_P hq2) rfl rfl rfl (Nat.le_of_ble_eq_true rfl) rfl (fun vo wo hv => ?_)
    obtain ⟨b55_8, hv1, hw1, r8⟩ := hv
    rw [hv1, hw1]
    refine w_weq (CW_cong (au_th rfl au_rp) rfl rfl) ?_
    show WW K G 0 0 (CW A D T G.2.1 (au I 55 b55_8) F Q P) 11 [(0, .ref q), (1, .int (J x)), (2, .ref (A 55))] [.int (J (x + m))]
    have r8 : b55_8 = ntL ([1]) b55_2 ∧ b55_8 0 = b55_2 0 + 1 := r8
    refine w_aload_n (pc := 11) hC dX0_taking_11 0 rfl rfl ?_
    refine w_getf (pc := 12) (v := .int (J v)) hC dX0_taking_12 (fik_15 hk) (60 + i0) (CW_P hq) rfl ?_
    refine w_isub (pc := 15) hC dX0_taking_15 ?_
    refine w_iret (pc := 16) hC hRT dX0_taking_16 rfl ?_
    refine ⟨b55_8, retI (by subst ek; rfl), rfl, ?_⟩
    · subst ek; exact ⟨by rw [r8.1, r2.1]; rfl, by rw [r8.2, r2.2]; simp [ptL, asL]; try omega⟩
  · have hq2 : P[i0]? = some (q, .inr (9, [.int (J m), .int (J v)])) := by rw [hq, ek]; rfl
    refine w_callO (pc := 8) (As := [.int (J x), .ref (A 55)]) (rest := []) hC dX0_taking_8 vo_X0_26_X9 (c_X0_asking (kl K) G A D T (au I 55 b55_2) F Q P i0 3 m v q x (show P[i0]? = some (q, .inr (kci 3, [.int (J m), .int (J v)])) from by exact hq2) (show 0 ≤ 3 ∧ 3 ≤ 6 from by decide) (show 0 ≤ b55_2 0 ∧ b55_2 0 ≤ 150 from by first | assumption | omega)) (by decide) ⟨Nat.le_of_ble_eq_true rfl, Nat.le_of_ble_eq_true rfl⟩ (q0 := 60 + i0) (CW_P hq2) rfl rfl rfl (Nat.le_of_ble_eq_true rfl) rfl (fun vo wo hv => ?_)
    obtain ⟨b55_8, hv1, hw1, r8⟩ := hv
    rw [hv1, hw1]
    refine w_weq (CW_cong (au_th rfl au_rp) rfl rfl) ?_
    show WW K G 0 0 (CW A D T G.2.1 (au I 55 b55_8) F Q P) 11 [(0, .ref q), (1, .int (J x)), (2, .ref (A 55))] [.int (J (x + m))]
    have r8 : b55_8 = ntL ([1]) b55_2 ∧ b55_8 0 = b55_2 0 + 1 := r8
    refine w_aload_n (pc := 11) hC dX0_taking_11 0 rfl rfl ?_
    refine w_getf (pc := 12) (v := .int (J v)) hC dX0_taking_12 (fik_15 hk) (60 + i0) (CW_P hq) rfl ?_
    refine w_isub (pc := 15) hC dX0_taking_15 ?_
    refine w_iret (pc := 16) hC hRT dX0_taking_16 rfl ?_
    refine ⟨b55_8, retI (by subst ek; rfl), rfl, ?_⟩
    · subst ek; exact ⟨by rw [r8.1, r2.1]; rfl, by rw [r8.2, r2.2]; simp [ptL, asL]; try omega⟩
  · have hq2 : P[i0]? = some (q, .inr (1, [.int (J m), .int (J v)])) := by rw [hq, ek]; rfl
    refine w_callO (pc := 8) (As := [.int (J x), .ref (A 55)]) (rest := []) hC dX0_taking_8 vo_X0_26_X1 (c_X1_asking (kl K) G A D T (au I 55 b55_2) F Q P i0 m v q x (show P[i0]? = some (q, .inr (1, [.int (J m), .int (J v)])) from by exact hq2) (show 0 ≤ b55_2 0 ∧ b55_2 0 ≤ 140 from by first | assumption | omega)) (by decide) ⟨Nat.le_of_ble_eq_true rfl, Nat.le_of_ble_eq_true rfl⟩ (q0 := 60 + i0) (CW_P hq2) rfl rfl rfl (Nat.le_of_ble_eq_true rfl) rfl (fun vo wo hv => ?_)
    obtain ⟨b55_8, hv1, hw1, r8⟩ := hv
    rw [hv1, hw1]
    refine w_weq (CW_cong (au_th rfl au_rp) rfl rfl) ?_
    show WW K G 0 0 (CW A D T G.2.1 (au I 55 b55_8) F Q P) 11 [(0, .ref q), (1, .int (J x)), (2, .ref (A 55))] [.int (J (asv 4 m x))]
    have r8 : b55_8 = ntL (asL 4) b55_2 ∧ b55_8 0 = b55_2 0 + ((asL 4).length : Int) := r8
    refine w_aload_n (pc := 11) hC dX0_taking_11 0 rfl rfl ?_
    refine w_getf (pc := 12) (v := .int (J v)) hC dX0_taking_12 (fik_15 hk) (60 + i0) (CW_P hq) rfl ?_
    refine w_isub (pc := 15) hC dX0_taking_15 ?_
    refine w_iret (pc := 16) hC hRT dX0_taking_16 rfl ?_
    refine ⟨b55_8, retI (by subst ek; rfl), rfl, ?_⟩
    · subst ek; exact ⟨by rw [r8.1, r2.1]; rfl, by rw [r8.2, r2.2]; simp [ptL, asL]; try omega⟩
  · have hq2 : P[i0]? = some (q, .inr (10, [.int (J m), .int (J v)])) := by rw [hq, ek]; rfl
    refine w_callO (pc := 8) (As := [.int (J x), .ref (A 55)]) (rest := []) hC dX0_taking_8 vo_X0_26_X10 (c_X0_asking (kl K) G A D T (au I 55 b55_2) F Q P i0 5 m v q x (show P[i0]? = some (q, .inr (kci 5, [.int (J m), .int (J v)])) from by exact hq2) (show 0 ≤ 5 ∧ 5 ≤ 6 from by decide) (show 0 ≤ b55_2 0 ∧ b55_2 0 ≤ 150 from by first | assumption | omega)) (by decide) ⟨Nat.le_of_ble_eq_true rfl, Nat.le_of_ble_eq_true rfl⟩ (q0 := 60 + i0) (CW_P hq2) rfl rfl rfl (Nat.le_of_ble_eq_true rfl) rfl (fun vo wo hv => ?_)
    obtain ⟨b55_8, hv1, hw1, r8⟩ := hv
    rw [hv1, hw1]
    refine w_weq (CW_cong (au_th rfl au_rp) rfl rfl) ?_
    show WW K G 0 0 (CW A D T G.2.1 (au I 55 b55_8) F Q P) 11 [(0, .ref q), (1, .int (J x)), (2, .ref (A 55))] [.int (J (x + m))]
    have r8 : b55_8 = ntL ([1]) b55_2 ∧ b55_8 0 = b55_2 0 + 1 := r8
    refine w_aload_n (pc := 11) hC dX0_taking_11 0 rfl rfl ?_
    refine w_getf (pc := 12) (v := .int (J v)) hC dX0_taking_12 (fik_15 hk) (60 + i0) (CW_P hq) rfl ?_
    refine w_isub (pc := 15) hC dX0_taking_15 ?_
    refine w_iret (pc := 16) hC hRT dX0_taking_16 rfl ?_
    refine ⟨b55_8, retI (by subst ek; rfl), rfl, ?_⟩
    · subst ek; exact ⟨by rw [r8.1, r2.1]; rfl, by rw [r8.2, r2.2]; simp [ptL, asL]; try omega⟩
  · have hq2 : P[i0]? = some (q, .inr (8, [.int (J m), .int (J v)])) := by rw [hq, ek]; rfl
    refine w_callO (pc := 8) (As := [.int (J x), .ref (A 55)]) (rest := []) hC dX0_taking_8 vo_X0_26_X8 (c_X0_asking (kl K) G A D T (au I 55 b55_2) F Q P i0 6 m v q x (show P[i0]? = some (q, .inr (kci 6, [.int (J m), .int (J v)])) from by exact hq2) (show 0 ≤ 6 ∧ 6 ≤ 6 from by decide) (show 0 ≤ b55_2 0 ∧ b55_2 0 ≤ 150 from by first | assumption | omega)) (by decide) ⟨Nat.le_of_ble_eq_true rfl, Nat.le_of_ble_eq_true rfl⟩ (q0 := 60 + i0) (CW_P hq2) rfl rfl rfl (Nat.le_of_ble_eq_true rfl) rfl (fun vo wo hv => ?_)
    obtain ⟨b55_8, hv1, hw1, r8⟩ := hv
    rw [hv1, hw1]
    refine w_weq (CW_cong (au_th rfl au_rp) rfl rfl) ?_
    show WW K G 0 0 (CW A D T G.2.1 (au I 55 b55_8) F Q P) 11 [(0, .ref q), (1, .int (J x)), (2, .ref (A 55))] [.int (J (x + m))]
    have r8 : b55_8 = ntL ([1]) b55_2 ∧ b55_8 0 = b55_2 0 + 1 := r8
    refine w_aload_n (pc := 11) hC dX0_taking_11 0 rfl rfl ?_
    refine w_getf (pc := 12) (v := .int (J v)) hC dX0_taking_12 (fik_15 hk) (60 + i0) (CW_P hq) rfl ?_
    refine w_isub (pc := 15) hC dX0_taking_15 ?_
    refine w_iret (pc := 16) hC hRT dX0_taking_16 rfl ?_
    refine ⟨b55_8, retI (by subst ek; rfl), rfl, ?_⟩
    · subst ek; exact ⟨by rw [r8.1, r2.1]; rfl, by rw [r8.2, r2.2]; simp [ptL, asL]; try omega⟩
set_option maxRecDepth 100000 in
set_option maxHeartbeats 4000000 in
theorem c_X5_taking (l : Launch) (G : GT) (A D : Nat → Nat) (T : Nat) (I : Nat → Int → Int) (F : Nat → Int) (Q : Nat → Nat → Option Nat) (P : va_W) (i0 : Nat) (k : Int) (m : Int) (v : Int) (q : Nat) (x : Int) (hq : P[i0]? = some (q, .inr (kci k, [.int (J m), .int (J v)]))) (hk : 0 ≤ k ∧ k ≤ 6) (hk5 : k = 2 ∨ k = 3 ∨ k = 4) (hb : 0 ≤ (I 55) 0 ∧ (I 55) 0 ≤ 120) : CT l yX5_taking cX5_taking 3 (some .int) 4 0 0 G [.ref q, .int (J x), .ref (A 55)] (CW A D T G.2.1 I F Q P) (fun vo wo => ∃ (b55 : Int → Int), vo = some (.int (J (tkv k m v x))) ∧ wo = CW A D T G.2.1 (au I 55 b55) F Q P ∧ (b55 = ntL (tkL k) (I 55) ∧ b55 0 = (I 55) 0 + ((tkL k).length : Int))) := by
  refine CT_of (own := RX5) rfl rfl (Nat.le_of_ble_eq_true rfl) (fun K hl hnL hC hRT hin => ?_)
  subst hl
  show WW K G 0 0 (CW A D T G.2.1 I F Q P) 0 [(0, .ref q), (1, .int (J x)), (2, .ref (A 55))] []
  have hl := tkL_len k
  refine w_aload_n (pc := 0) hC dX5_taking_0 2 rfl rfl ?_
  refine w_bipush (pc := 1) hC dX5_taking_1 (z := 21) rfl ?_
  refine w_callSI (pc := 3) (As := [.ref (A 55), .int (J 21)]) (rest := []) hC dX5_taking_3 csi_X5_15 rfl tw_4_170 (c_X0_note (kl K) G A D T I F Q P 21 (show 0 ≤ (I 55) 0 ∧ (I 55) 0 ≤ 200 from by first | assumption | omega)) (by decide) ⟨Nat.le_of_ble_eq_true rfl, Nat.le_of_ble_eq_true rfl⟩  rfl (Nat.le_of_ble_eq_true rfl) rfl (fun vo wo hv => ?_)
  obtain ⟨b55_3, hv1, hw1, r3⟩ := hv
  rw [hv1, hw1]
  show WW K G 0 0 (CW A D T G.2.1 (au I 55 b55_3) F Q P) 6 [(0, .ref q), (1, .int (J x)), (2, .ref (A 55))] []
  have r3 : b55_3 = nt1 (I 55) 21 ∧ b55_3 0 = (I 55) 0 + 1 := r3
  refine w_aload_n (pc := 6) hC dX5_taking_6 0 rfl rfl ?_
  refine w_iload_n (pc := 7) hC dX5_taking_7 1 rfl rfl ?_
  refine w_aload_n (pc := 8) hC dX5_taking_8 2 rfl rfl ?_
  refine w_callSup (pc := 9) (As := [.int (J x), .ref (A 55)]) (rest := []) hC dX5_taking_9 csup_X5_19 (c_X0_taking (kl K) G A D T (au I 55 b55_3) F Q P i0 k m v q x (show P[i0]? = some (q, .inr (kci k, [.int (J m), .int (J v)])) from by exact hq) (show 0 ≤ k ∧ k ≤ 6 from by first | exact hk | decide) (show 0 ≤ b55_3 0 ∧ b55_3 0 ≤ 130 from by first | assumption | omega)) (by decide) ⟨Nat.le_of_ble_eq_true rfl, Nat.le_of_ble_eq_true rfl⟩ (CW_P hq) (vw_k hk) rfl (Nat.le_of_ble_eq_true rfl) rfl (fun vo wo hv => ?_)
  obtain ⟨b55_9, hv1, hw1, r9⟩ := hv
  rw [hv1, hw1]
  refine w_weq (CW_cong (au_th rfl au_rp) rfl rfl) ?_
  show WW K G 0 0 (CW A D T G.2.1 (au I 55 b55_9) F Q P) 12 [(0, .ref q), (1, .int (J x)), (2, .ref (A 55))] [.int (J (asv k m x - v))]
  have r9 : b55_9 = ntL (ptL k) b55_3 ∧ b55_9 0 = b55_3 0 + ((ptL k).length : Int) := r9
  refine w_ineg (pc := 12) hC dX5_taking_12 ?_
  refine w_iret (pc := 13) hC hRT dX5_taking_13 rfl ?_
  refine ⟨b55_9, retI (by rcases hk5 with ek | ek | ek <;> subst ek <;> rfl), rfl, ?_⟩
  · rcases hk5 with ek | ek | ek <;> subst ek <;> exact ⟨by rw [r9.1, r3.1]; rfl, by rw [r9.2, r3.2]; simp [ptL, tkL, asL]; try omega⟩
set_option maxRecDepth 100000 in
set_option maxHeartbeats 4000000 in
theorem c_X8_taking (l : Launch) (G : GT) (A D : Nat → Nat) (T : Nat) (I : Nat → Int → Int) (F : Nat → Int) (Q : Nat → Nat → Option Nat) (P : va_W) (i0 : Nat) (m : Int) (v : Int) (q : Nat) (x : Int) (hq : P[i0]? = some (q, .inr (8, [.int (J m), .int (J v)]))) (hb : 0 ≤ (I 55) 0 ∧ (I 55) 0 ≤ 120) : CT l yX8_taking cX8_taking 3 (some .int) 4 0 0 G [.ref q, .int (J x), .ref (A 55)] (CW A D T G.2.1 I F Q P) (fun vo wo => ∃ (b55 : Int → Int), vo = some (.int (J (tkv 6 m v x))) ∧ wo = CW A D T G.2.1 (au I 55 b55) F Q P ∧ (b55 = ntL (tkL 6) (I 55) ∧ b55 0 = (I 55) 0 + ((tkL 6).length : Int))) := by
  refine CT_of (own := RX8) rfl rfl (Nat.le_of_ble_eq_true rfl) (fun K hl hnL hC hRT hin => ?_)
  subst hl
  show WW K G 0 0 (CW A D T G.2.1 I F Q P) 0 [(0, .ref q), (1, .int (J x)), (2, .ref (A 55))] []
  refine w_aload_n (pc := 0) hC dX8_taking_0 2 rfl rfl ?_
  refine w_bipush (pc := 1) hC dX8_taking_1 (z := 61) rfl ?_
  refine w_callSI (pc := 3) (As := [.ref (A 55), .int (J 61)]) (rest := []) hC dX8_taking_3 csi_X8_11 rfl tw_4_170 (c_X0_note (kl K) G A D T I F Q P 61 (show 0 ≤ (I 55) 0 ∧ (I 55) 0 ≤ 200 from by first | assumption | omega)) (by decide) ⟨Nat.le_of_ble_eq_true rfl, Nat.le_of_ble_eq_true rfl⟩  rfl (Nat.le_of_ble_eq_true rfl) rfl (fun vo wo hv => ?_)
  obtain ⟨b55_3, hv1, hw1, r3⟩ := hv
  rw [hv1, hw1]
  show WW K G 0 0 (CW A D T G.2.1 (au I 55 b55_3) F Q P) 6 [(0, .ref q), (1, .int (J x)), (2, .ref (A 55))] []
  have r3 : b55_3 = nt1 (I 55) 61 ∧ b55_3 0 = (I 55) 0 + 1 := r3
  refine w_aload_n (pc := 6) hC dX8_taking_6 0 rfl rfl ?_
  refine w_iload_n (pc := 7) hC dX8_taking_7 1 rfl rfl ?_
  refine w_aload_n (pc := 8) hC dX8_taking_8 2 rfl rfl ?_
  refine w_callSupI (pc := 9) (As := [.int (J x), .ref (A 55)]) (rest := []) hC dX8_taking_9 csi_X8_15 rfl tw_4_194 sup_Never sup_Told (by decide) (c_X0_taking (kl K) G A D T (au I 55 b55_3) F Q P i0 6 m v q x (show P[i0]? = some (q, .inr (kci 6, [.int (J m), .int (J v)])) from by exact hq) (show 0 ≤ 6 ∧ 6 ≤ 6 from by first | exact hk | decide) (show 0 ≤ b55_3 0 ∧ b55_3 0 ≤ 130 from by first | assumption | omega)) (by decide) ⟨Nat.le_of_ble_eq_true rfl, Nat.le_of_ble_eq_true rfl⟩ (CW_P hq) rfl rfl (Nat.le_of_ble_eq_true rfl) rfl (fun vo wo hv => ?_)
  obtain ⟨b55_9, hv1, hw1, r9⟩ := hv
  rw [hv1, hw1]
  refine w_weq (CW_cong (au_th rfl au_rp) rfl rfl) ?_
  show WW K G 0 0 (CW A D T G.2.1 (au I 55 b55_9) F Q P) 12 [(0, .ref q), (1, .int (J x)), (2, .ref (A 55))] [.int (J (asv 6 m x - v))]
  have r9 : b55_9 = ntL (ptL 6) b55_3 ∧ b55_9 0 = b55_3 0 + ((ptL 6).length : Int) := r9
  refine w_aload_n (pc := 12) hC dX8_taking_12 0 rfl rfl ?_
  refine w_callO (pc := 13) (As := []) (rest := [.int (J (asv 6 m x - v))]) hC dX8_taking_13 vo_X8_19_X8 (c_X0_v (kl K) G A D T (au I 55 b55_9) F Q P i0 6 m v q (show P[i0]? = some (q, .inr (kci 6, [.int (J m), .int (J v)])) from by exact hq) (show 0 ≤ 6 ∧ 6 ≤ 6 from by decide)) (by decide) ⟨Nat.le_of_ble_eq_true rfl, Nat.le_of_ble_eq_true rfl⟩ (q0 := 60 + i0) (CW_P hq) rfl rfl rfl (Nat.le_of_ble_eq_true rfl) rfl (fun vo wo hv => ?_)
  obtain ⟨hv1, hw1⟩ := hv
  rw [hv1, hw1]
  show WW K G 0 0 (CW A D T G.2.1 (au I 55 b55_9) F Q P) 16 [(0, .ref q), (1, .int (J x)), (2, .ref (A 55))] [.int (J v), .int (J (asv 6 m x - v))]
  refine w_iadd (pc := 16) hC dX8_taking_16 ?_
  refine w_iret (pc := 17) hC hRT dX8_taking_17 rfl ?_
  refine ⟨b55_9, retI (by first | rfl | exact (bI_t (by omega)).symm | exact (bI_f (by omega)).symm | omega), rfl, ?_⟩
  · exact ⟨by rw [r9.1, r3.1]; rfl, by rw [r9.2, r3.2]; simp [ptL, tkL, asL]; try omega⟩
set_option maxRecDepth 100000 in
set_option maxHeartbeats 4000000 in
theorem c_X0_waiting (l : Launch) (G : GT) (A D : Nat → Nat) (T : Nat) (I : Nat → Int → Int) (F : Nat → Int) (Q : Nat → Nat → Option Nat) (P : va_W) (i0 : Nat) (k : Int) (m : Int) (v : Int) (q : Nat) (x : Int) (hq : P[i0]? = some (q, .inr (kci k, [.int (J m), .int (J v)]))) (hk : 0 ≤ k ∧ k ≤ 6) (hb : 0 ≤ (I 55) 0 ∧ (I 55) 0 ≤ 100) : CT l yX0_waiting cX0_waiting 3 (some .int) 5 0 0 G [.ref q, .int (J x), .ref (A 55)] (CW A D T G.2.1 I F Q P) (fun vo wo => ∃ (b55 : Int → Int), vo = some (.int (J (tkv k m v x * 2))) ∧ wo = CW A D T G.2.1 (au I 55 b55) F Q P ∧ (b55 = ntL (pwL k) (I 55) ∧ b55 0 = (I 55) 0 + ((pwL k).length : Int))) := by
  refine CT_of (own := RX0) rfl rfl (Nat.le_of_ble_eq_true rfl) (fun K hl hnL hC hRT hin => ?_)
  subst hl
  show WW K G 0 0 (CW A D T G.2.1 I F Q P) 0 [(0, .ref q), (1, .int (J x)), (2, .ref (A 55))] []
  refine w_aload_n (pc := 0) hC dX0_waiting_0 2 rfl rfl ?_
  refine w_iconst (pc := 1) hC dX0_waiting_1 ?_
  refine w_callS (pc := 2) (As := [.ref (A 55), .int (J 3)]) (rest := []) hC dX0_waiting_2 cs_X0_22 (c_X0_note (kl K) G A D T I F Q P 3 (show 0 ≤ (I 55) 0 ∧ (I 55) 0 ≤ 200 from by first | assumption | omega)) (by decide) ⟨Nat.le_of_ble_eq_true rfl, Nat.le_of_ble_eq_true rfl⟩ rfl (Nat.le_of_ble_eq_true rfl) rfl (fun vo wo hv => ?_)
  obtain ⟨b55_2, hv1, hw1, r2⟩ := hv
  rw [hv1, hw1]
  show WW K G 0 0 (CW A D T G.2.1 (au I 55 b55_2) F Q P) 5 [(0, .ref q), (1, .int (J x)), (2, .ref (A 55))] []
  have r2 : b55_2 = nt1 (I 55) 3 ∧ b55_2 0 = (I 55) 0 + 1 := r2
  refine w_aload_n (pc := 5) hC dX0_waiting_5 0 rfl rfl ?_
  refine w_iload_n (pc := 6) hC dX0_waiting_6 1 rfl rfl ?_
  refine w_aload_n (pc := 7) hC dX0_waiting_7 2 rfl rfl ?_
  rcases k7 hk with ek | ek | ek | ek | ek | ek | ek
  · have hq2 : P[i0]? = some (q, .inr (0, [.int (J m), .int (J v)])) := by rw [hq, ek]; rfl
    refine w_callV (pc := 8) (As := [.int (J x), .ref (A 55)]) (rest := []) hC dX0_waiting_8 cv_X0_30 (c_X0_taking (kl K) G A D T (au I 55 b55_2) F Q P i0 0 m v q x (show P[i0]? = some (q, .inr (kci 0, [.int (J m), .int (J v)])) from by exact hq2) (show 0 ≤ 0 ∧ 0 ≤ 6 from by decide) (show 0 ≤ b55_2 0 ∧ b55_2 0 ≤ 130 from by first | assumption | omega)) (by decide) ⟨Nat.le_of_ble_eq_true rfl, Nat.le_of_ble_eq_true rfl⟩ (q0 := 60 + i0) (CW_P hq2) rfl rfl rfl (Nat.le_of_ble_eq_true rfl) rfl (fun vo wo hv => ?_)
    obtain ⟨b55_8, hv1, hw1, r8⟩ := hv
    rw [hv1, hw1]
    refine w_weq (CW_cong (au_th rfl au_rp) rfl rfl) ?_
    show WW K G 0 0 (CW A D T G.2.1 (au I 55 b55_8) F Q P) 11 [(0, .ref q), (1, .int (J x)), (2, .ref (A 55))] [.int (J (asv 0 m x - v))]
    have r8 : b55_8 = ntL (ptL 0) b55_2 ∧ b55_8 0 = b55_2 0 + ((ptL 0).length : Int) := r8
    refine w_iconst (pc := 11) hC dX0_waiting_11 ?_
    refine w_imul (pc := 12) hC dX0_waiting_12 ?_
    refine w_iret (pc := 13) hC hRT dX0_waiting_13 rfl ?_
    refine ⟨b55_8, retI (by subst ek; rfl), rfl, ?_⟩
    · subst ek; exact ⟨by rw [r8.1, r2.1]; rfl, by rw [r8.2, r2.2]; simp [pwL, ptL, tkL, asL]; try omega⟩
  · have hq2 : P[i0]? = some (q, .inr (7, [.int (J m), .int (J v)])) := by rw [hq, ek]; rfl
    refine w_callO (pc := 8) (As := [.int (J x), .ref (A 55)]) (rest := []) hC dX0_waiting_8 vo_X0_30_X7 (c_X0_taking (kl K) G A D T (au I 55 b55_2) F Q P i0 1 m v q x (show P[i0]? = some (q, .inr (kci 1, [.int (J m), .int (J v)])) from by exact hq2) (show 0 ≤ 1 ∧ 1 ≤ 6 from by decide) (show 0 ≤ b55_2 0 ∧ b55_2 0 ≤ 130 from by first | assumption | omega)) (by decide) ⟨Nat.le_of_ble_eq_true rfl, Nat.le_of_ble_eq_true rfl⟩ (q0 := 60 + i0) (CW_P hq2) rfl rfl rfl (Nat.le_of_ble_eq_true rfl) rfl (fun vo wo hv => ?_)
    obtain ⟨b55_8, hv1, hw1, r8⟩ := hv
    rw [hv1, hw1]
    refine w_weq (CW_cong (au_th rfl au_rp) rfl rfl) ?_
    show WW K G 0 0 (CW A D T G.2.1 (au I 55 b55_8) F Q P) 11 [(0, .ref q), (1, .int (J x)), (2, .ref (A 55))] [.int (J (asv 1 m x - v))]
    have r8 : b55_8 = ntL (ptL 1) b55_2 ∧ b55_8 0 = b55_2 0 + ((ptL 1).length : Int) := r8
    refine w_iconst (pc := 11) hC dX0_waiting_11 ?_
    refine w_imul (pc := 12) hC dX0_waiting_12 ?_
    refine w_iret (pc := 13) hC hRT dX0_waiting_13 rfl ?_
    refine ⟨b55_8, retI (by subst ek; rfl), rfl, ?_⟩
    · subst ek; exact ⟨by rw [r8.1, r2.1]; rfl, by rw [r8.2, r2.2]; simp [pwL, ptL, tkL, asL]; try omega⟩
  · have hq2 : P[i0]? = some (q, .inr (5, [.int (J m), .int (J v)])) := by rw [hq, ek]; rfl
    refine w_callO (pc := 8) (As := [.int (J x), .ref (A 55)]) (rest := []) hC dX0_waiting_8 vo_X0_30_X5 (c_X5_taking (kl K) G A D T (au I 55 b55_2) F Q P i0 2 m v q x (show P[i0]? = some (q, .inr (kci 2, [.int (J m), .int (J v)])) from by exact hq2) (show 0 ≤ 2 ∧ 2 ≤ 6 from by decide) (show 2 = 2 ∨ 2 = 3 ∨ 2 = 4 from by decide) (show 0 ≤ b55_2 0 ∧ b55_2 0 ≤ 120 from by first | assumption | omega)) (by decide) ⟨Nat.le_of_ble_eq_true rfl, Nat.le_of_ble_eq_true rfl⟩ (q0 := 60 + i0) (CW_P hq2) rfl rfl rfl (Nat.le_of_ble_eq_true rfl) rfl (fun vo wo hv => ?_)
    obtain ⟨b55_8, hv1, hw1, r8⟩ := hv
    rw [hv1, hw1]
    refine w_weq (CW_cong (au_th rfl au_rp) rfl rfl) ?_
    show WW K G 0 0 (CW A D T G.2.1 (au I 55 b55_8) F Q P) 11 [(0, .ref q), (1, .int (J x)), (2, .ref (A 55))] [.int (J (tkv 2 m v x))]
    have r8 : b55_8 = ntL (tkL 2) b55_2 ∧ b55_8 0 = b55_2 0 + ((tkL 2).length : Int) := r8
    refine w_iconst (pc := 11) hC dX0_waiting_11 ?_
    refine w_imul (pc := 12) hC dX0_waiting_12 ?_
    refine w_iret (pc := 13) hC hRT dX0_waiting_13 rfl ?_
    refine ⟨b55_8, retI (by subst ek; rfl), rfl, ?_⟩
    · subst ek; exact ⟨by rw [r8.1, r2.1]; rfl, by rw [r8.2, r2.2]; simp [pwL, ptL, tkL, asL]; try omega⟩
  · have hq2 : P[i0]? = some (q, .inr (9, [.int (J m), .int (J v)])) := by rw [hq, ek]; rfl
    refine w_callO (pc := 8) (As := [.int (J x), .ref (A 55)]) (rest := []) hC dX0_waiting_8 vo_X0_30_X9 (c_X5_taking (kl K) G A D T (au I 55 b55_2) F Q P i0 3 m v q x (show P[i0]? = some (q, .inr (kci 3, [.int (J m), .int (J v)])) from by exact hq2) (show 0 ≤ 3 ∧ 3 ≤ 6 from by decide) (show 3 = 2 ∨ 3 = 3 ∨ 3 = 4 from by decide) (show 0 ≤ b55_2 0 ∧ b55_2 0 ≤ 120 from by first | assumption | omega)) (by decide) ⟨Nat.le_of_ble_eq_true rfl, Nat.le_of_ble_eq_true rfl⟩ (q0 := 60 + i0) (CW_P hq2) rfl rfl rfl (Nat.le_of_ble_eq_true rfl) rfl (fun vo wo hv => ?_)
    obtain ⟨b55_8, hv1, hw1, r8⟩ := hv
    rw [hv1, hw1]
    refine w_weq (CW_cong (au_th rfl au_rp) rfl rfl) ?_
    show WW K G 0 0 (CW A D T G.2.1 (au I 55 b55_8) F Q P) 11 [(0, .ref q), (1, .int (J x)), (2, .ref (A 55))] [.int (J (tkv 3 m v x))]
    have r8 : b55_8 = ntL (tkL 3) b55_2 ∧ b55_8 0 = b55_2 0 + ((tkL 3).length : Int) := r8
    refine w_iconst (pc := 11) hC dX0_waiting_11 ?_
    refine w_imul (pc := 12) hC dX0_waiting_12 ?_
    refine w_iret (pc := 13) hC hRT dX0_waiting_13 rfl ?_
    refine ⟨b55_8, retI (by subst ek; rfl), rfl, ?_⟩
    · subst ek; exact ⟨by rw [r8.1, r2.1]; rfl, by rw [r8.2, r2.2]; simp [pwL, ptL, tkL, asL]; try omega⟩
  · have hq2 : P[i0]? = some (q, .inr (1, [.int (J m), .int (J v)])) := by rw [hq, ek]; rfl
    refine w_callO (pc := 8) (As := [.int (J x), .ref (A 55)]) (rest := []) hC dX0_waiting_8 vo_X0_30_X1 (c_X5_taking (kl K) G A D T (au I 55 b55_2) F Q P i0 4 m v q x (show P[i0]? = some (q, .inr (kci 4, [.int (J m), .int (J v)])) from by exact hq2) (show 0 ≤ 4 ∧ 4 ≤ 6 from by decide) (show 4 = 2 ∨ 4 = 3 ∨ 4 = 4 from by decide) (show 0 ≤ b55_2 0 ∧ b55_2 0 ≤ 120 from by first | assumption | omega)) (by decide) ⟨Nat.le_of_ble_eq_true rfl, Nat.le_of_ble_eq_true rfl⟩ (q0 := 60 + i0) (CW_P hq2) rfl rfl rfl (Nat.le_of_ble_eq_true rfl) rfl (fun vo wo hv => ?_)
    obtain ⟨b55_8, hv1, hw1, r8⟩ := hv
    rw [hv1, hw1]
    refine w_weq (CW_cong (au_th rfl au_rp) rfl rfl) ?_
    show WW K G 0 0 (CW A D T G.2.1 (au I 55 b55_8) F Q P) 11 [(0, .ref q), (1, .int (J x)), (2, .ref (A 55))] [.int (J (tkv 4 m v x))]
    have r8 : b55_8 = ntL (tkL 4) b55_2 ∧ b55_8 0 = b55_2 0 + ((tkL 4).length : Int) := r8
    refine w_iconst (pc := 11) hC dX0_waiting_11 ?_
    refine w_imul (pc := 12) hC dX0_waiting_12 ?_
    refine w_iret (pc := 13) hC hRT dX0_waiting_13 rfl ?_
    refine ⟨b55_8, retI (by subst ek; rfl), rfl, ?_⟩
    · subst ek; exact ⟨by rw [r8.1, r2.1]; rfl, by rw [r8.2, r2.2]; simp [pwL, ptL, tkL, asL]; try omega⟩
  · have hq2 : P[i0]? = some (q, .inr (10, [.int (J m), .int (J v)])) := by rw [hq, ek]; rfl
    refine w_callO (pc := 8) (As := [.int (J x), .ref (A 55)]) (rest := []) hC dX0_waiting_8 vo_X0_30_X10 (c_X0_taking (kl K) G A D T (au I 55 b55_2) F Q P i0 5 m v q x (show P[i0]? = some (q, .inr (kci 5, [.int (J m), .int (J v)])) from by exact hq2) (show 0 ≤ 5 ∧ 5 ≤ 6 from by decide) (show 0 ≤ b55_2 0 ∧ b55_2 0 ≤ 130 from by first | assumption | omega)) (by decide) ⟨Nat.le_of_ble_eq_true rfl, Nat.le_of_ble_eq_true rfl⟩ (q0 := 60 + i0) (CW_P hq2) rfl rfl rfl (Nat.le_of_ble_eq_true rfl) rfl (fun vo wo hv => ?_)
    obtain ⟨b55_8, hv1, hw1, r8⟩ := hv
    rw [hv1, hw1]
    refine w_weq (CW_cong (au_th rfl au_rp) rfl rfl) ?_
    show WW K G 0 0 (CW A D T G.2.1 (au I 55 b55_8) F Q P) 11 [(0, .ref q), (1, .int (J x)), (2, .ref (A 55))] [.int (J (asv 5 m x - v))]
    have r8 : b55_8 = ntL (ptL 5) b55_2 ∧ b55_8 0 = b55_2 0 + ((ptL 5).length : Int) := r8
    refine w_iconst (pc := 11) hC dX0_waiting_11 ?_
    refine w_imul (pc := 12) hC dX0_waiting_12 ?_
    refine w_iret (pc := 13) hC hRT dX0_waiting_13 rfl ?_
    refine ⟨b55_8, retI (by subst ek; rfl), rfl, ?_⟩
    · subst ek; exact ⟨by rw [r8.1, r2.1]; rfl, by rw [r8.2, r2.2]; simp [pwL, ptL, tkL, asL]; try omega⟩
  · have hq2 : P[i0]? = some (q, .inr (8, [.int (J m), .int (J v)])) := by rw [hq, ek]; rfl
    refine w_callO (pc := 8) (As := [.int (J x), .ref (A 55)]) (rest := []) hC dX0_waiting_8 vo_X0_30_X8 (c_X8_taking (kl K) G A D T (au I 55 b55_2) F Q P i0 m v q x (show P[i0]? = some (q, .inr (8, [.int (J m), .int (J v)])) from by exact hq2) (show 0 ≤ b55_2 0 ∧ b55_2 0 ≤ 120 from by first | assumption | omega)) (by decide) ⟨Nat.le_of_ble_eq_true rfl, Nat.le_of_ble_eq_true rfl⟩ (q0 := 60 + i0) (CW_P hq2) rfl rfl rfl (Nat.le_of_ble_eq_true rfl) rfl (fun vo wo hv => ?_)
    obtain ⟨b55_8, hv1, hw1, r8⟩ := hv
    rw [hv1, hw1]
    refine w_weq (CW_cong (au_th rfl au_rp) rfl rfl) ?_
    show WW K G 0 0 (CW A D T G.2.1 (au I 55 b55_8) F Q P) 11 [(0, .ref q), (1, .int (J x)), (2, .ref (A 55))] [.int (J (tkv 6 m v x))]
    have r8 : b55_8 = ntL (tkL 6) b55_2 ∧ b55_8 0 = b55_2 0 + ((tkL 6).length : Int) := r8
    refine w_iconst (pc := 11) hC dX0_waiting_11 ?_
    refine w_imul (pc := 12) hC dX0_waiting_12 ?_
    refine w_iret (pc := 13) hC hRT dX0_waiting_13 rfl ?_
    refine ⟨b55_8, retI (by subst ek; rfl), rfl, ?_⟩
    · subst ek; exact ⟨by rw [r8.1, r2.1]; rfl, by rw [r8.2, r2.2]; simp [pwL, ptL, tkL, asL]; try omega⟩
set_option maxRecDepth 100000 in
set_option maxHeartbeats 4000000 in
theorem c_X9_waiting (l : Launch) (G : GT) (A D : Nat → Nat) (T : Nat) (I : Nat → Int → Int) (F : Nat → Int) (Q : Nat → Nat → Option Nat) (P : va_W) (i0 : Nat) (m : Int) (v : Int) (q : Nat) (x : Int) (hq : P[i0]? = some (q, .inr (9, [.int (J m), .int (J v)]))) (hb : 0 ≤ (I 55) 0 ∧ (I 55) 0 ≤ 80) : CT l yX9_waiting cX9_waiting 3 (some .int) 6 0 0 G [.ref q, .int (J x), .ref (A 55)] (CW A D T G.2.1 I F Q P) (fun vo wo => ∃ (b55 : Int → Int), vo = some (.int (J (wtv 3 m v x))) ∧ wo = CW A D T G.2.1 (au I 55 b55) F Q P ∧ (b55 = ntL (wtL 3) (I 55) ∧ b55 0 = (I 55) 0 + ((wtL 3).length : Int))) := by
  refine CT_of (own := RX9) rfl rfl (Nat.le_of_ble_eq_true rfl) (fun K hl hnL hC hRT hin => ?_)
  subst hl
  show WW K G 0 0 (CW A D T G.2.1 I F Q P) 0 [(0, .ref q), (1, .int (J x)), (2, .ref (A 55))] []
  refine w_aload_n (pc := 0) hC dX9_waiting_0 2 rfl rfl ?_
  refine w_bipush (pc := 1) hC dX9_waiting_1 (z := 41) rfl ?_
  refine w_callSI (pc := 3) (As := [.ref (A 55), .int (J 41)]) (rest := []) hC dX9_waiting_3 csi_X9_19 rfl tw_4_170 (c_X0_note (kl K) G A D T I F Q P 41 (show 0 ≤ (I 55) 0 ∧ (I 55) 0 ≤ 200 from by first | assumption | omega)) (by decide) ⟨Nat.le_of_ble_eq_true rfl, Nat.le_of_ble_eq_true rfl⟩  rfl (Nat.le_of_ble_eq_true rfl) rfl (fun vo wo hv => ?_)
  obtain ⟨b55_3, hv1, hw1, r3⟩ := hv
  rw [hv1, hw1]
  show WW K G 0 0 (CW A D T G.2.1 (au I 55 b55_3) F Q P) 6 [(0, .ref q), (1, .int (J x)), (2, .ref (A 55))] []
  have r3 : b55_3 = nt1 (I 55) 41 ∧ b55_3 0 = (I 55) 0 + 1 := r3
  refine w_aload_n (pc := 6) hC dX9_waiting_6 0 rfl rfl ?_
  refine w_iload_n (pc := 7) hC dX9_waiting_7 1 rfl rfl ?_
  refine w_iconst (pc := 8) hC dX9_waiting_8 ?_
  refine w_isub (pc := 9) hC dX9_waiting_9 ?_
  refine w_aload_n (pc := 10) hC dX9_waiting_10 2 rfl rfl ?_
  refine w_callSupI (pc := 11) (As := [.int (J (x - 1)), .ref (A 55)]) (rest := []) hC dX9_waiting_11 csi_X9_23 rfl tw_4_221 sup_Safe sup_Far (by decide) (c_X0_waiting (kl K) G A D T (au I 55 b55_3) F Q P i0 3 m v q (x - 1) (show P[i0]? = some (q, .inr (kci 3, [.int (J m), .int (J v)])) from by exact hq) (show 0 ≤ 3 ∧ 3 ≤ 6 from by first | exact hk | decide) (show 0 ≤ b55_3 0 ∧ b55_3 0 ≤ 100 from by first | assumption | omega)) (by decide) ⟨Nat.le_of_ble_eq_true rfl, Nat.le_of_ble_eq_true rfl⟩ (CW_P hq) rfl rfl (Nat.le_of_ble_eq_true rfl) rfl (fun vo wo hv => ?_)
  obtain ⟨b55_11, hv1, hw1, r11⟩ := hv
  rw [hv1, hw1]
  refine w_weq (CW_cong (au_th rfl au_rp) rfl rfl) ?_
  show WW K G 0 0 (CW A D T G.2.1 (au I 55 b55_11) F Q P) 14 [(0, .ref q), (1, .int (J x)), (2, .ref (A 55))] [.int (J (tkv 3 m v (x - 1) * 2))]
  have r11 : b55_11 = ntL (pwL 3) b55_3 ∧ b55_11 0 = b55_3 0 + ((pwL 3).length : Int) := r11
  have e14 : b55_11 0 = I 55 0 + 5 := by rw [r11.2, r3.2]; simp [pwL, tkL, ptL, asL]; omega
  refine w_aload_n (pc := 14) hC dX9_waiting_14 0 rfl rfl ?_
  refine w_iconst (pc := 15) hC dX9_waiting_15 ?_
  refine w_aload_n (pc := 16) hC dX9_waiting_16 2 rfl rfl ?_
  refine w_callO (pc := 17) (As := [.int (J 2), .ref (A 55)]) (rest := [.int (J (tkv 3 m v (x - 1) * 2))]) hC dX9_waiting_17 vo_X9_27_X9 (c_X0_asking (kl K) G A D T (au I 55 b55_11) F Q P i0 3 m v q 2 (show P[i0]? = some (q, .inr (kci 3, [.int (J m), .int (J v)])) from by exact hq) (show 0 ≤ 3 ∧ 3 ≤ 6 from by decide) (show 0 ≤ b55_11 0 ∧ b55_11 0 ≤ 150 from by first | assumption | omega)) (by decide) ⟨Nat.le_of_ble_eq_true rfl, Nat.le_of_ble_eq_true rfl⟩ (q0 := 60 + i0) (CW_P hq) rfl rfl rfl (Nat.le_of_ble_eq_true rfl) rfl (fun vo wo hv => ?_)
  obtain ⟨b55_17, hv1, hw1, r17⟩ := hv
  rw [hv1, hw1]
  refine w_weq (CW_cong (au_th rfl au_rp) rfl rfl) ?_
  show WW K G 0 0 (CW A D T G.2.1 (au I 55 b55_17) F Q P) 20 [(0, .ref q), (1, .int (J x)), (2, .ref (A 55))] [.int (J (2 + m)), .int (J (tkv 3 m v (x - 1) * 2))]
  have r17 : b55_17 = ntL ([1]) b55_11 ∧ b55_17 0 = b55_11 0 + 1 := r17
  refine w_iadd (pc := 20) hC dX9_waiting_20 ?_
  refine w_iret (pc := 21) hC hRT dX9_waiting_21 rfl ?_
  refine ⟨b55_17, retI (by first | rfl | exact (bI_t (by omega)).symm | exact (bI_f (by omega)).symm | omega), rfl, ?_⟩
  · exact ⟨by rw [r17.1, r11.1, r3.1]; rfl, by rw [r17.2, r11.2, r3.2]; simp [wtL, pwL, ptL, tkL, asL]; try omega⟩
set_option maxRecDepth 100000 in
set_option maxHeartbeats 4000000 in
theorem c_X10_waiting (l : Launch) (G : GT) (A D : Nat → Nat) (T : Nat) (I : Nat → Int → Int) (F : Nat → Int) (Q : Nat → Nat → Option Nat) (P : va_W) (i0 : Nat) (k : Int) (m : Int) (v : Int) (q : Nat) (x : Int) (hq : P[i0]? = some (q, .inr (kci k, [.int (J m), .int (J v)]))) (hk : 0 ≤ k ∧ k ≤ 6) (hk5 : k = 5 ∨ k = 6) (hb : 0 ≤ (I 55) 0 ∧ (I 55) 0 ≤ 80) : CT l yX10_waiting cX10_waiting 3 (some .int) 6 0 0 G [.ref q, .int (J x), .ref (A 55)] (CW A D T G.2.1 I F Q P) (fun vo wo => ∃ (b55 : Int → Int), vo = some (.int (J (wtv k m v x))) ∧ wo = CW A D T G.2.1 (au I 55 b55) F Q P ∧ (b55 = ntL (wtL k) (I 55) ∧ b55 0 = (I 55) 0 + ((wtL k).length : Int))) := by
  refine CT_of (own := RX10) rfl rfl (Nat.le_of_ble_eq_true rfl) (fun K hl hnL hC hRT hin => ?_)
  subst hl
  show WW K G 0 0 (CW A D T G.2.1 I F Q P) 0 [(0, .ref q), (1, .int (J x)), (2, .ref (A 55))] []
  refine w_aload_n (pc := 0) hC dX10_waiting_0 2 rfl rfl ?_
  refine w_bipush (pc := 1) hC dX10_waiting_1 (z := 31) rfl ?_
  refine w_callSI (pc := 3) (As := [.ref (A 55), .int (J 31)]) (rest := []) hC dX10_waiting_3 csi_X10_19 rfl tw_4_170 (c_X0_note (kl K) G A D T I F Q P 31 (show 0 ≤ (I 55) 0 ∧ (I 55) 0 ≤ 200 from by first | assumption | omega)) (by decide) ⟨Nat.le_of_ble_eq_true rfl, Nat.le_of_ble_eq_true rfl⟩  rfl (Nat.le_of_ble_eq_true rfl) rfl (fun vo wo hv => ?_)
  obtain ⟨b55_3, hv1, hw1, r3⟩ := hv
  rw [hv1, hw1]
  show WW K G 0 0 (CW A D T G.2.1 (au I 55 b55_3) F Q P) 6 [(0, .ref q), (1, .int (J x)), (2, .ref (A 55))] []
  have r3 : b55_3 = nt1 (I 55) 31 ∧ b55_3 0 = (I 55) 0 + 1 := r3
  refine w_aload_n (pc := 6) hC dX10_waiting_6 0 rfl rfl ?_
  refine w_iload_n (pc := 7) hC dX10_waiting_7 1 rfl rfl ?_
  refine w_aload_n (pc := 8) hC dX10_waiting_8 2 rfl rfl ?_
  refine w_callSup (pc := 9) (As := [.int (J x), .ref (A 55)]) (rest := []) hC dX10_waiting_9 csup_X10_23 (c_X0_waiting (kl K) G A D T (au I 55 b55_3) F Q P i0 k m v q x (show P[i0]? = some (q, .inr (kci k, [.int (J m), .int (J v)])) from by exact hq) (show 0 ≤ k ∧ k ≤ 6 from by first | exact hk | decide) (show 0 ≤ b55_3 0 ∧ b55_3 0 ≤ 100 from by first | assumption | omega)) (by decide) ⟨Nat.le_of_ble_eq_true rfl, Nat.le_of_ble_eq_true rfl⟩ (CW_P hq) (vw_k hk) rfl (Nat.le_of_ble_eq_true rfl) rfl (fun vo wo hv => ?_)
  obtain ⟨b55_9, hv1, hw1, r9⟩ := hv
  rw [hv1, hw1]
  refine w_weq (CW_cong (au_th rfl au_rp) rfl rfl) ?_
  show WW K G 0 0 (CW A D T G.2.1 (au I 55 b55_9) F Q P) 12 [(0, .ref q), (1, .int (J x)), (2, .ref (A 55))] [.int (J (tkv k m v x * 2))]
  have r9 : b55_9 = ntL (pwL k) b55_3 ∧ b55_9 0 = b55_3 0 + ((pwL k).length : Int) := r9
  refine w_bipush (pc := 12) hC dX10_waiting_12 (z := 7) rfl ?_
  refine w_ixor (pc := 14) hC dX10_waiting_14 (v := jx (tkv k m v x * 2) 7) (J_xor _ _) ?_
  refine w_iret (pc := 15) hC hRT dX10_waiting_15 rfl ?_
  refine ⟨b55_9, retI (by rcases hk5 with ek | ek <;> subst ek <;> rfl), rfl, ?_⟩
  · rcases hk5 with ek | ek <;> subst ek <;> exact ⟨by rw [r9.1, r3.1]; rfl, by rw [r9.2, r3.2]; simp [wtL, pwL, ptL, tkL, asL]; try omega⟩
set_option maxRecDepth 100000 in
set_option maxHeartbeats 4000000 in
theorem c_X11_act (l : Launch) (G : GT) (A D : Nat → Nat) (T : Nat) (I : Nat → Int → Int) (F : Nat → Int) (Q : Nat → Nat → Option Nat) (P : va_W) (S : Int → Int) (a : Int) (c : Int) (x : Int) (hR : RI S) (hL : LRn G.2.1 S I F Q P) (h0 : -2147483648 ≤ a ∧ a < 2147483648) (h1 : -2147483648 ≤ c ∧ c < 2147483648) (h2 : -2147483648 ≤ x ∧ x < 2147483648) : CT l yX11_act cX11_act 5 (some .int) 7 0 0 G [.ref (A 0), .int (J a), .int (J c), .int (J x)] (CW A D T G.2.1 I F Q P) (fun vo wo => ∃ (b55 : Int → Int), vo = some (.int (J (v_act S a c x))) ∧ wo = CW A D T G.2.1 (au I 55 b55) F Q P ∧ (∀ bd : Int → Int, BDY b55 (nb (actL S a c) bd 0) ((actL S a c).length : Int))) := by
  refine CT_of (own := RX11) rfl rfl (Nat.le_of_ble_eq_true rfl) (fun K hl hnL hC hRT hin => ?_)
  subst hl
  show WW K G 0 0 (CW A D T G.2.1 I F Q P) 0 [(0, .ref (A 0)), (1, .int (J a)), (2, .int (J c)), (3, .int (J x))] []
  have hn := hR.n
  have hbd := hR.bd
  refine w_aload_n (pc := 0) hC dX11_act_0 0 rfl rfl ?_
  refine w_getf (pc := 1) (v := .ref (A 55)) hC dX11_act_1 fi_X11_25 0 CW_0 rfl ?_
  refine w_iconst (pc := 4) hC dX11_act_4 ?_
  refine w_iconst (pc := 5) hC dX11_act_5 ?_
  refine w_iast (pc := 6) (g := (I 55)) (w2 := CW A D T G.2.1 (au I 55 (gu (I 55) 0 0)) F Q P) hC dX11_act_6 55 CW_55 (by omega) (Nat.le_of_ble_eq_true rfl) (CWa_55 rfl) ?_
  generalize h6 : gu (I 55) 0 0 = s6
  have e6 : s6 0 = 0 := by rw [← h6, gu_eq]
  refine w_aload_n (pc := 7) hC dX11_act_7 0 rfl rfl ?_
  refine w_iload_n (pc := 8) hC dX11_act_8 1 rfl rfl ?_
  refine w_callV (pc := 9) (As := [.int (J a)]) (rest := []) hC dX11_act_9 cv_X11_64 (c_X11_isName (kl K) G A D T (au I 55 s6) F Q P S a (show RI S from by first | assumption | omega) (show LRn G.2.1 S (au I 55 s6) F Q P from by exact (LRb_au (by decide) hL)) (show -2147483648 ≤ a ∧ a < 2147483648 from by first | assumption | omega)) (by decide) ⟨Nat.le_of_ble_eq_true rfl, Nat.le_of_ble_eq_true rfl⟩ (q0 := 0) CW_0 rfl rfl rfl (Nat.le_of_ble_eq_true rfl) rfl (fun vo wo hv => ?_)
  obtain ⟨hv1, hw1⟩ := hv
  rw [hv1, hw1]
  show WW K G 0 0 (CW A D T G.2.1 (au I 55 s6) F Q P) 12 [(0, .ref (A 0)), (1, .int (J a)), (2, .int (J c)), (3, .int (J x))] [.int (J (bI (0 ≤ a ∧ a < S 0)))]
  refine w_if_ne_b (pc := 12) (tgt := 17) hC dX11_act_12 (by decide) (fun c12 => ?_) (fun c12 => ?_)
  · obtain ⟨q, hQ, i0, hq⟩ := l_ak hL (show 0 ≤ a by omega) (show a < S 0 by omega) hR
    have hkd := hR.kd (166 + a) (by omega) (by omega)
    refine w_aload_n (pc := 17) hC dX11_act_17 0 rfl rfl ?_
    refine w_getf (pc := 18) (v := .ref (A 1)) hC dX11_act_18 fi_X11_12 0 CW_0 rfl ?_
    refine w_getfN (pc := 21) (v := .ref (A 10)) hC dX11_act_21 fn_X11_126 1 CW_1 rfl ?_
    refine w_iload_n (pc := 24) hC dX11_act_24 1 rfl rfl ?_
    refine w_aaldS (t0 := 4) (q := q) hC dX11_act_25 10 CW_10 rfl rfl (by omega) (Nat.le_of_ble_eq_true rfl) (hQ) ?_
    refine w_astore (pc := 26) hC dX11_act_26 (lv2 := [(4, .ref q), (0, .ref (A 0)), (1, .int (J a)), (2, .int (J c)), (3, .int (J x))]) (by rw [hnL]; decide) rfl ?_
    refine w_iload_n (pc := 28) hC dX11_act_28 3 rfl rfl ?_
    rcases (show c = 0 ∨ c = 1 ∨ c = 2 ∨ (c < 0 ∨ 2 < c) by omega) with c29 | c29 | c29 | c29
    · refine w_tableIn (pc := 29) (v := 0) (tgt := 56) hC dX11_act_29 c29 (by decide) rfl (by decide) ?_
      refine w_aload (pc := 56) hC dX11_act_56 0 rfl ?_
      refine w_iload_n (pc := 58) hC dX11_act_58 4 rfl rfl ?_
      refine w_aload_n (pc := 59) hC dX11_act_59 1 rfl rfl ?_
      refine w_getf (pc := 60) (v := .ref (A 55)) hC dX11_act_60 fi_X11_25 0 CW_0 rfl ?_
      rcases k7 hkd with ek | ek | ek | ek | ek | ek | ek
      · have hq2 : P[i0]? = some (q, .inr (0, [.int (J a), .int (J (S (172 + a)))])) := by rw [hq, ek]; rfl
        refine w_callV (pc := 63) (As := [.int (J x), .ref (A 55)]) (rest := []) hC dX11_act_63 cv_X11_262 (c_X0_asking (kl K) G A D T (au I 55 s6) F Q P i0 0 a (S (172 + a)) q x (show P[i0]? = some (q, .inr (kci 0, [.int (J a), .int (J (S (172 + a)))])) from by exact hq2) (show 0 ≤ 0 ∧ 0 ≤ 6 from by decide) (show 0 ≤ s6 0 ∧ s6 0 ≤ 150 from by first | assumption | omega)) (by decide) ⟨Nat.le_of_ble_eq_true rfl, Nat.le_of_ble_eq_true rfl⟩ (q0 := 60 + i0) (CW_P hq2) rfl rfl rfl (Nat.le_of_ble_eq_true rfl) rfl (fun vo wo hv => ?_)
        obtain ⟨b55_63, hv1, hw1, r63⟩ := hv
        rw [hv1, hw1]
        refine w_weq (CW_cong (au_th rfl au_rp) rfl rfl) ?_
        show WW K G 0 0 (CW A D T G.2.1 (au I 55 b55_63) F Q P) 66 [(4, .ref q), (0, .ref (A 0)), (1, .int (J a)), (2, .int (J c)), (3, .int (J x))] [.int (J (x + a))]
        have r63 : b55_63 = ntL ([1]) s6 ∧ b55_63 0 = s6 0 + 1 := r63
        refine w_iret (pc := 66) hC hRT dX11_act_66 rfl ?_
        refine ⟨b55_63, retI (by unfold v_act; first | rw [if_pos (by omega)] | (rw [if_neg (by omega), if_pos (by omega), ek]; try rfl) | (rw [if_neg (by omega), if_neg (by omega), if_pos (by omega), ek]; try rfl) | (rw [if_neg (by omega), if_neg (by omega), if_neg (by omega), ek]; try rfl)), rfl, ?_⟩
        · intro bd
          rw [r63.1, show actL S a c = asL (S (166 + a)) from by unfold actL; rw [if_neg (by omega), if_pos (by omega)]]
          rw [ek]
          have hb9 := fun L : List Int => BDY_L L s6 bd 0 (Int.le_refl 0) (BDY_0 e6)
          simp only [Int.zero_add] at hb9
          exact hb9 _
      · have hq2 : P[i0]? = some (q, .inr (7, [.int (J a), .int (J (S (172 + a)))])) := by rw [hq, ek]; rfl
        refine w_callO (pc := 63) (As := [.int (J x), .ref (A 55)]) (rest := []) hC dX11_act_63 vo_X11_262_X7 (c_X7_asking (kl K) G A D T (au I 55 s6) F Q P i0 a (S (172 + a)) q x (show P[i0]? = some (q, .inr (7, [.int (J a), .int (J (S (172 + a)))])) from by exact hq2) (show 0 ≤ s6 0 ∧ s6 0 ≤ 140 from by first | assumption | omega)) (by decide) ⟨Nat.le_of_ble_eq_true rfl, Nat.le_of_ble_eq_true rfl⟩ (q0 := 60 + i0) (CW_P hq2) rfl rfl rfl (Nat.le_of_ble_eq_true rfl) rfl (fun vo wo hv => ?_)
        obtain ⟨b55_63, hv1, hw1, r63⟩ := hv
        rw [hv1, hw1]
        refine w_weq (CW_cong (au_th rfl au_rp) rfl rfl) ?_
        show WW K G 0 0 (CW A D T G.2.1 (au I 55 b55_63) F Q P) 66 [(4, .ref q), (0, .ref (A 0)), (1, .int (J a)), (2, .int (J c)), (3, .int (J x))] [.int (J (asv 1 a x))]
        have r63 : b55_63 = ntL (asL 1) s6 ∧ b55_63 0 = s6 0 + ((asL 1).length : Int) := r63
        refine w_iret (pc := 66) hC hRT dX11_act_66 rfl ?_
        refine ⟨b55_63, retI (by unfold v_act; first | rw [if_pos (by omega)] | (rw [if_neg (by omega), if_pos (by omega), ek]; try rfl) | (rw [if_neg (by omega), if_neg (by omega), if_pos (by omega), ek]; try rfl) | (rw [if_neg (by omega), if_neg (by omega), if_neg (by omega), ek]; try rfl)), rfl, ?_⟩
        · intro bd
          rw [r63.1, show actL S a c = asL (S (166 + a)) from by unfold actL; rw [if_neg (by omega), if_pos (by omega)]]
          rw [ek]
          have hb9 := fun L : List Int => BDY_L L s6 bd 0 (Int.le_refl 0) (BDY_0 e6)
          simp only [Int.zero_add] at hb9
          exact hb9 _
      · have hq2 : P[i0]? = some (q, .inr (5, [.int (J a), .int (J (S (172 + a)))])) := by rw [hq, ek]; rfl
        refine w_callO (pc := 63) (As := [.int (J x), .ref (A 55)]) (rest := []) hC dX11_act_63 vo_X11_262_X5 (c_X0_asking (kl K) G A D T (au I 55 s6) F Q P i0 2 a (S (172 + a)) q x (show P[i0]? = some (q, .inr (kci 2, [.int (J a), .int (J (S (172 + a)))])) from by exact hq2) (show 0 ≤ 2 ∧ 2 ≤ 6 from by decide) (show 0 ≤ s6 0 ∧ s6 0 ≤ 150 from by first | assumption | omega)) (by decide) ⟨Nat.le_of_ble_eq_true rfl, Nat.le_of_ble_eq_true rfl⟩ (q0 := 60 + i0) (CW_P hq2) rfl rfl rfl (Nat.le_of_ble_eq_true rfl) rfl (fun vo wo hv => ?_)
        obtain ⟨b55_63, hv1, hw1, r63⟩ := hv
        rw [hv1, hw1]
        refine w_weq (CW_cong (au_th rfl au_rp) rfl rfl) ?_
        show WW K G 0 0 (CW A D T G.2.1 (au I 55 b55_63) F Q P) 66 [(4, .ref q), (0, .ref (A 0)), (1, .int (J a)), (2, .int (J c)), (3, .int (J x))] [.int (J (x + a))]
        have r63 : b55_63 = ntL ([1]) s6 ∧ b55_63 0 = s6 0 + 1 := r63
        refine w_iret (pc := 66) hC hRT dX11_act_66 rfl ?_
        refine ⟨b55_63, retI (by unfold v_act; first | rw [if_pos (by omega)] | (rw [if_neg (by omega), if_pos (by omega), ek]; try rfl) | (rw [if_neg (by omega), if_neg (by omega), if_pos (by omega), ek]; try rfl) | (rw [if_neg (by omega), if_neg (by omega), if_neg (by omega), ek]; try rfl)), rfl, ?_⟩
        · intro bd
          rw [r63.1, show actL S a c = asL (S (166 + a)) from by unfold actL; rw [if_neg (by omega), if_pos (by omega)]]
          rw [ek]
          have hb9 := fun L : List Int => BDY_L L s6 bd 0 (Int.le_refl 0) (BDY_0 e6)
          simp only [Int.zero_add] at hb9
          exact hb9 _
      · have hq2 : P[i0]? = some (q, .inr (9, [.int (J a), .int (J (S (172 + a)))])) := by rw [hq, ek]; rfl
        refine w_callO (pc := 63) (As := [.int (J x), .ref (A 55)]) (rest := []) hC dX11_act_63 vo_X11_262_X9 (c_X0_asking (kl K) G A D T (au I 55 s6) F Q P i0 3 a (S (172 + a)) q x (show P[i0]? = some (q, .inr (kci 3, [.int (J a), .int (J (S (172 + a)))])) from by exact hq2) (show 0 ≤ 3 ∧ 3 ≤ 6 from by decide) (show 0 ≤ s6 0 ∧ s6 0 ≤ 150 from by first | assumption | omega)) (by decide) ⟨Nat.le_of_ble_eq_true rfl, Nat.le_of_ble_eq_true rfl⟩ (q0 := 60 + i0) (CW_P hq2) rfl rfl rfl (Nat.le_of_ble_eq_true rfl) rfl (fun vo wo hv => ?_)
        obtain ⟨b55_63, hv1, hw1, r63⟩ := hv
        rw [hv1, hw1]
        refine w_weq (CW_cong (au_th rfl au_rp) rfl rfl) ?_
        show WW K G 0 0 (CW A D T G.2.1 (au I 55 b55_63) F Q P) 66 [(4, .ref q), (0, .ref (A 0)), (1, .int (J a)), (2, .int (J c)), (3, .int (J x))] [.int (J (x + a))]
        have r63 : b55_63 = ntL ([1]) s6 ∧ b55_63 0 = s6 0 + 1 := r63
        refine w_iret (pc := 66) hC hRT dX11_act_66 rfl ?_
        refine ⟨b55_63, retI (by unfold v_act; first | rw [if_pos (by omega)] | (rw [if_neg (by omega), if_pos (by omega), ek]; try rfl) | (rw [if_neg (by omega), if_neg (by omega), if_pos (by omega), ek]; try rfl) | (rw [if_neg (by omega), if_neg (by omega), if_neg (by omega), ek]; try rfl)), rfl, ?_⟩
        · intro bd
          rw [r63.1, show actL S a c = asL (S (166 + a)) from by unfold actL; rw [if_neg (by omega), if_pos (by omega)]]
          rw [ek]
          have hb9 := fun L : List Int => BDY_L L s6 bd 0 (Int.le_refl 0) (BDY_0 e6)
          simp only [Int.zero_add] at hb9
          exact hb9 _
      · have hq2 : P[i0]? = some (q, .inr (1, [.int (J a), .int (J (S (172 + a)))])) := by rw [hq, ek]; rfl
        refine w_callO (pc := 63) (As := [.int (J x), .ref (A 55)]) (rest := []) hC dX11_act_63 vo_X11_262_X1 (c_X1_asking (kl K) G A D T (au I 55 s6) F Q P i0 a (S (172 + a)) q x (show P[i0]? = some (q, .inr (1, [.int (J a), .int (J (S (172 + a)))])) from by exact hq2) (show 0 ≤ s6 0 ∧ s6 0 ≤ 140 from by first | assumption | omega)) (by decide) ⟨Nat.le_of_ble_eq_true rfl, Nat.le_of_ble_eq_true rfl⟩ (q0 := 60 + i0) (CW_P hq2) rfl rfl rfl (Nat.le_of_ble_eq_true rfl) rfl (fun vo wo hv => ?_)
        obtain ⟨b55_63, hv1, hw1, r63⟩ := hv
        rw [hv1, hw1]
        refine w_weq (CW_cong (au_th rfl au_rp) rfl rfl) ?_
        show WW K G 0 0 (CW A D T G.2.1 (au I 55 b55_63) F Q P) 66 [(4, .ref q), (0, .ref (A 0)), (1, .int (J a)), (2, .int (J c)), (3, .int (J x))] [.int (J (asv 4 a x))]
        have r63 : b55_63 = ntL (asL 4) s6 ∧ b55_63 0 = s6 0 + ((asL 4).length : Int) := r63
        refine w_iret (pc := 66) hC hRT dX11_act_66 rfl ?_
        refine ⟨b55_63, retI (by unfold v_act; first | rw [if_pos (by omega)] | (rw [if_neg (by omega), if_pos (by omega), ek]; try rfl) | (rw [if_neg (by omega), if_neg (by omega), if_pos (by omega), ek]; try rfl) | (rw [if_neg (by omega), if_neg (by omega), if_neg (by omega), ek]; try rfl)), rfl, ?_⟩
        · intro bd
          rw [r63.1, show actL S a c = asL (S (166 + a)) from by unfold actL; rw [if_neg (by omega), if_pos (by omega)]]
          rw [ek]
          have hb9 := fun L : List Int => BDY_L L s6 bd 0 (Int.le_refl 0) (BDY_0 e6)
          simp only [Int.zero_add] at hb9
          exact hb9 _
      · have hq2 : P[i0]? = some (q, .inr (10, [.int (J a), .int (J (S (172 + a)))])) := by rw [hq, ek]; rfl
        refine w_callO (pc := 63) (As := [.int (J x), .ref (A 55)]) (rest := []) hC dX11_act_63 vo_X11_262_X10 (c_X0_asking (kl K) G A D T (au I 55 s6) F Q P i0 5 a (S (172 + a)) q x (show P[i0]? = some (q, .inr (kci 5, [.int (J a), .int (J (S (172 + a)))])) from by exact hq2) (show 0 ≤ 5 ∧ 5 ≤ 6 from by decide) (show 0 ≤ s6 0 ∧ s6 0 ≤ 150 from by first | assumption | omega)) (by decide) ⟨Nat.le_of_ble_eq_true rfl, Nat.le_of_ble_eq_true rfl⟩ (q0 := 60 + i0) (CW_P hq2) rfl rfl rfl (Nat.le_of_ble_eq_true rfl) rfl (fun vo wo hv => ?_)
        obtain ⟨b55_63, hv1, hw1, r63⟩ := hv
        rw [hv1, hw1]
        refine w_weq (CW_cong (au_th rfl au_rp) rfl rfl) ?_
        show WW K G 0 0 (CW A D T G.2.1 (au I 55 b55_63) F Q P) 66 [(4, .ref q), (0, .ref (A 0)), (1, .int (J a)), (2, .int (J c)), (3, .int (J x))] [.int (J (x + a))]
        have r63 : b55_63 = ntL ([1]) s6 ∧ b55_63 0 = s6 0 + 1 := r63
        refine w_iret (pc := 66) hC hRT dX11_act_66 rfl ?_
        refine ⟨b55_63, retI (by unfold v_act; first | rw [if_pos (by omega)] | (rw [if_neg (by omega), if_pos (by omega), ek]; try rfl) | (rw [if_neg (by omega), if_neg (by omega), if_pos (by omega), ek]; try rfl) | (rw [if_neg (by omega), if_neg (by omega), if_neg (by omega), ek]; try rfl)), rfl, ?_⟩
        · intro bd
          rw [r63.1, show actL S a c = asL (S (166 + a)) from by unfold actL; rw [if_neg (by omega), if_pos (by omega)]]
          rw [ek]
          have hb9 := fun L : List Int => BDY_L L s6 bd 0 (Int.le_refl 0) (BDY_0 e6)
          simp only [Int.zero_add] at hb9
          exact hb9 _
      · have hq2 : P[i0]? = some (q, .inr (8, [.int (J a), .int (J (S (172 + a)))])) := by rw [hq, ek]; rfl
        refine w_callO (pc := 63) (As := [.int (J x), .ref (A 55)]) (rest := []) hC dX11_act_63 vo_X11_262_X8 (c_X0_asking (kl K) G A D T (au I 55 s6) F Q P i0 6 a (S (172 + a)) q x (show P[i0]? = some (q, .inr (kci 6, [.int (J a), .int (J (S (172 + a)))])) from by exact hq2) (show 0 ≤ 6 ∧ 6 ≤ 6 from by decide) (show 0 ≤ s6 0 ∧ s6 0 ≤ 150 from by first | assumption | omega)) (by decide) ⟨Nat.le_of_ble_eq_true rfl, Nat.le_of_ble_eq_true rfl⟩ (q0 := 60 + i0) (CW_P hq2) rfl rfl rfl (Nat.le_of_ble_eq_true rfl) rfl (fun vo wo hv => ?_)
        obtain ⟨b55_63, hv1, hw1, r63⟩ := hv
        rw [hv1, hw1]
        refine w_weq (CW_cong (au_th rfl au_rp) rfl rfl) ?_
        show WW K G 0 0 (CW A D T G.2.1 (au I 55 b55_63) F Q P) 66 [(4, .ref q), (0, .ref (A 0)), (1, .int (J a)), (2, .int (J c)), (3, .int (J x))] [.int (J (x + a))]
        have r63 : b55_63 = ntL ([1]) s6 ∧ b55_63 0 = s6 0 + 1 := r63
        refine w_iret (pc := 66) hC hRT dX11_act_66 rfl ?_
        refine ⟨b55_63, retI (by unfold v_act; first | rw [if_pos (by omega)] | (rw [if_neg (by omega), if_pos (by omega), ek]; try rfl) | (rw [if_neg (by omega), if_neg (by omega), if_pos (by omega), ek]; try rfl) | (rw [if_neg (by omega), if_neg (by omega), if_neg (by omega), ek]; try rfl)), rfl, ?_⟩
        · intro bd
          rw [r63.1, show actL S a c = asL (S (166 + a)) from by unfold actL; rw [if_neg (by omega), if_pos (by omega)]]
          rw [ek]
          have hb9 := fun L : List Int => BDY_L L s6 bd 0 (Int.le_refl 0) (BDY_0 e6)
          simp only [Int.zero_add] at hb9
          exact hb9 _
    · refine w_tableIn (pc := 29) (v := 1) (tgt := 67) hC dX11_act_29 c29 (by decide) rfl (by decide) ?_
      refine w_aload (pc := 67) hC dX11_act_67 0 rfl ?_
      refine w_iload_n (pc := 69) hC dX11_act_69 4 rfl rfl ?_
      refine w_aload_n (pc := 70) hC dX11_act_70 1 rfl rfl ?_
      refine w_getf (pc := 71) (v := .ref (A 55)) hC dX11_act_71 fi_X11_25 0 CW_0 rfl ?_
      rcases k7 hkd with ek | ek | ek | ek | ek | ek | ek
      · have hq2 : P[i0]? = some (q, .inr (0, [.int (J a), .int (J (S (172 + a)))])) := by rw [hq, ek]; rfl
        refine w_callV (pc := 74) (As := [.int (J x), .ref (A 55)]) (rest := []) hC dX11_act_74 cv_X11_266 (c_X0_taking (kl K) G A D T (au I 55 s6) F Q P i0 0 a (S (172 + a)) q x (show P[i0]? = some (q, .inr (kci 0, [.int (J a), .int (J (S (172 + a)))])) from by exact hq2) (show 0 ≤ 0 ∧ 0 ≤ 6 from by decide) (show 0 ≤ s6 0 ∧ s6 0 ≤ 130 from by first | assumption | omega)) (by decide) ⟨Nat.le_of_ble_eq_true rfl, Nat.le_of_ble_eq_true rfl⟩ (q0 := 60 + i0) (CW_P hq2) rfl rfl rfl (Nat.le_of_ble_eq_true rfl) rfl (fun vo wo hv => ?_)
        obtain ⟨b55_74, hv1, hw1, r74⟩ := hv
        rw [hv1, hw1]
        refine w_weq (CW_cong (au_th rfl au_rp) rfl rfl) ?_
        show WW K G 0 0 (CW A D T G.2.1 (au I 55 b55_74) F Q P) 77 [(4, .ref q), (0, .ref (A 0)), (1, .int (J a)), (2, .int (J c)), (3, .int (J x))] [.int (J (asv 0 a x - (S (172 + a))))]
        have r74 : b55_74 = ntL (ptL 0) s6 ∧ b55_74 0 = s6 0 + ((ptL 0).length : Int) := r74
        refine w_iret (pc := 77) hC hRT dX11_act_77 rfl ?_
        refine ⟨b55_74, retI (by unfold v_act; first | rw [if_pos (by omega)] | (rw [if_neg (by omega), if_pos (by omega), ek]; try rfl) | (rw [if_neg (by omega), if_neg (by omega), if_pos (by omega), ek]; try rfl) | (rw [if_neg (by omega), if_neg (by omega), if_neg (by omega), ek]; try rfl)), rfl, ?_⟩
        · intro bd
          rw [r74.1, show actL S a c = tkL (S (166 + a)) from by unfold actL; rw [if_neg (by omega), if_neg (by omega), if_pos (by omega)]]
          rw [ek]
          have hb9 := fun L : List Int => BDY_L L s6 bd 0 (Int.le_refl 0) (BDY_0 e6)
          simp only [Int.zero_add] at hb9
          exact hb9 _
      · have hq2 : P[i0]? = some (q, .inr (7, [.int (J a), .int (J (S (172 + a)))])) := by rw [hq, ek]; rfl
        refine w_callO (pc := 74) (As := [.int (J x), .ref (A 55)]) (rest := []) hC dX11_act_74 vo_X11_266_X7 (c_X0_taking (kl K) G A D T (au I 55 s6) F Q P i0 1 a (S (172 + a)) q x (show P[i0]? = some (q, .inr (kci 1, [.int (J a), .int (J (S (172 + a)))])) from by exact hq2) (show 0 ≤ 1 ∧ 1 ≤ 6 from by decide) (show 0 ≤ s6 0 ∧ s6 0 ≤ 130 from by first | assumption | omega)) (by decide) ⟨Nat.le_of_ble_eq_true rfl, Nat.le_of_ble_eq_true rfl⟩ (q0 := 60 + i0) (CW_P hq2) rfl rfl rfl (Nat.le_of_ble_eq_true rfl) rfl (fun vo wo hv => ?_)
        obtain ⟨b55_74, hv1, hw1, r74⟩ := hv
        rw [hv1, hw1]
        refine w_weq (CW_cong (au_th rfl au_rp) rfl rfl) ?_
        show WW K G 0 0 (CW A D T G.2.1 (au I 55 b55_74) F Q P) 77 [(4, .ref q), (0, .ref (A 0)), (1, .int (J a)), (2, .int (J c)), (3, .int (J x))] [.int (J (asv 1 a x - (S (172 + a))))]
        have r74 : b55_74 = ntL (ptL 1) s6 ∧ b55_74 0 = s6 0 + ((ptL 1).length : Int) := r74
        refine w_iret (pc := 77) hC hRT dX11_act_77 rfl ?_
        refine ⟨b55_74, retI (by unfold v_act; first | rw [if_pos (by omega)] | (rw [if_neg (by omega), if_pos (by omega), ek]; try rfl) | (rw [if_neg (by omega), if_neg (by omega), if_pos (by omega), ek]; try rfl) | (rw [if_neg (by omega), if_neg (by omega), if_neg (by omega), ek]; try rfl)), rfl, ?_⟩
        · intro bd
          rw [r74.1, show actL S a c = tkL (S (166 + a)) from by unfold actL; rw [if_neg (by omega), if_neg (by omega), if_pos (by omega)]]
          rw [ek]
          have hb9 := fun L : List Int => BDY_L L s6 bd 0 (Int.le_refl 0) (BDY_0 e6)
          simp only [Int.zero_add] at hb9
          exact hb9 _
      · have hq2 : P[i0]? = some (q, .inr (5, [.int (J a), .int (J (S (172 + a)))])) := by rw [hq, ek]; rfl
        refine w_callO (pc := 74) (As := [.int (J x), .ref (A 55)]) (rest := []) hC dX11_act_74 vo_X11_266_X5 (c_X5_taking (kl K) G A D T (au I 55 s6) F Q P i0 2 a (S (172 + a)) q x (show P[i0]? = some (q, .inr (kci 2, [.int (J a), .int (J (S (172 + a)))])) from by exact hq2) (show 0 ≤ 2 ∧ 2 ≤ 6 from by decide) (show 2 = 2 ∨ 2 = 3 ∨ 2 = 4 from by decide) (show 0 ≤ s6 0 ∧ s6 0 ≤ 120 from by first | assumption | omega)) (by decide) ⟨Nat.le_of_ble_eq_true rfl, Nat.le_of_ble_eq_true rfl⟩ (q0 := 60 + i0) (CW_P hq2) rfl rfl rfl (Nat.le_of_ble_eq_true rfl) rfl (fun vo wo hv => ?_)
        obtain ⟨b55_74, hv1, hw1, r74⟩ := hv
        rw [hv1, hw1]
        refine w_weq (CW_cong (au_th rfl au_rp) rfl rfl) ?_
        show WW K G 0 0 (CW A D T G.2.1 (au I 55 b55_74) F Q P) 77 [(4, .ref q), (0, .ref (A 0)), (1, .int (J a)), (2, .int (J c)), (3, .int (J x))] [.int (J (tkv 2 a (S (172 + a)) x))]
        have r74 : b55_74 = ntL (tkL 2) s6 ∧ b55_74 0 = s6 0 + ((tkL 2).length : Int) := r74
        refine w_iret (pc := 77) hC hRT dX11_act_77 rfl ?_
        refine ⟨b55_74, retI (by unfold v_act; first | rw [if_pos (by omega)] | (rw [if_neg (by omega), if_pos (by omega), ek]; try rfl) | (rw [if_neg (by omega), if_neg (by omega), if_pos (by omega), ek]; try rfl) | (rw [if_neg (by omega), if_neg (by omega), if_neg (by omega), ek]; try rfl)), rfl, ?_⟩
        · intro bd
          rw [r74.1, show actL S a c = tkL (S (166 + a)) from by unfold actL; rw [if_neg (by omega), if_neg (by omega), if_pos (by omega)]]
          rw [ek]
          have hb9 := fun L : List Int => BDY_L L s6 bd 0 (Int.le_refl 0) (BDY_0 e6)
          simp only [Int.zero_add] at hb9
          exact hb9 _
      · have hq2 : P[i0]? = some (q, .inr (9, [.int (J a), .int (J (S (172 + a)))])) := by rw [hq, ek]; rfl
        refine w_callO (pc := 74) (As := [.int (J x), .ref (A 55)]) (rest := []) hC dX11_act_74 vo_X11_266_X9 (c_X5_taking (kl K) G A D T (au I 55 s6) F Q P i0 3 a (S (172 + a)) q x (show P[i0]? = some (q, .inr (kci 3, [.int (J a), .int (J (S (172 + a)))])) from by exact hq2) (show 0 ≤ 3 ∧ 3 ≤ 6 from by decide) (show 3 = 2 ∨ 3 = 3 ∨ 3 = 4 from by decide) (show 0 ≤ s6 0 ∧ s6 0 ≤ 120 from by first | assumption | omega)) (by decide) ⟨Nat.le_of_ble_eq_true rfl, Nat.le_of_ble_eq_true rfl⟩ (q0 := 60 + i0) (CW_P hq2) rfl rfl rfl (Nat.le_of_ble_eq_true rfl) rfl (fun vo wo hv => ?_)
        obtain ⟨b55_74, hv1, hw1, r74⟩ := hv
        rw [hv1, hw1]
        refine w_weq (CW_cong (au_th rfl au_rp) rfl rfl) ?_
        show WW K G 0 0 (CW A D T G.2.1 (au I 55 b55_74) F Q P) 77 [(4, .ref q), (0, .ref (A 0)), (1, .int (J a)), (2, .int (J c)), (3, .int (J x))] [.int (J (tkv 3 a (S (172 + a)) x))]
        have r74 : b55_74 = ntL (tkL 3) s6 ∧ b55_74 0 = s6 0 + ((tkL 3).length : Int) := r74
        refine w_iret (pc := 77) hC hRT dX11_act_77 rfl ?_
        refine ⟨b55_74, retI (by unfold v_act; first | rw [if_pos (by omega)] | (rw [if_neg (by omega), if_pos (by omega), ek]; try rfl) | (rw [if_neg (by omega), if_neg (by omega), if_pos (by omega), ek]; try rfl) | (rw [if_neg (by omega), if_neg (by omega), if_neg (by omega), ek]; try rfl)), rfl, ?_⟩
        · intro bd
          rw [r74.1, show actL S a c = tkL (S (166 + a)) from by unfold actL; rw [if_neg (by omega), if_neg (by omega), if_pos (by omega)]]
          rw [ek]
          have hb9 := fun L : List Int => BDY_L L s6 bd 0 (Int.le_refl 0) (BDY_0 e6)
          simp only [Int.zero_add] at hb9
          exact hb9 _
      · have hq2 : P[i0]? = some (q, .inr (1, [.int (J a), .int (J (S (172 + a)))])) := by rw [hq, ek]; rfl
        refine w_callO (pc := 74) (As := [.int (J x), .ref (A 55)]) (rest := []) hC dX11_act_74 vo_X11_266_X1 (c_X5_taking (kl K) G A D T (au I 55 s6) F Q P i0 4 a (S (172 + a)) q x (show P[i0]? = some (q, .inr (kci 4, [.int (J a), .int (J (S (172 + a)))])) from by exact hq2) (show 0 ≤ 4 ∧ 4 ≤ 6 from by decide) (show 4 = 2 ∨ 4 = 3 ∨ 4 = 4 from by decide) (show 0 ≤ s6 0 ∧ s6 0 ≤ 120 from by first | assumption | omega)) (by decide) ⟨Nat.le_of_ble_eq_true rfl, Nat.le_of_ble_eq_true rfl⟩ (q0 := 60 + i0) (CW_P hq2) rfl rfl rfl (Nat.le_of_ble_eq_true rfl) rfl (fun vo wo hv => ?_)
        obtain ⟨b55_74, hv1, hw1, r74⟩ := hv
        rw [hv1, hw1]
        refine w_weq (CW_cong (au_th rfl au_rp) rfl rfl) ?_
        show WW K G 0 0 (CW A D T G.2.1 (au I 55 b55_74) F Q P) 77 [(4, .ref q), (0, .ref (A 0)), (1, .int (J a)), (2, .int (J c)), (3, .int (J x))] [.int (J (tkv 4 a (S (172 + a)) x))]
        have r74 : b55_74 = ntL (tkL 4) s6 ∧ b55_74 0 = s6 0 + ((tkL 4).length : Int) := r74
        refine w_iret (pc := 77) hC hRT dX11_act_77 rfl ?_
        refine ⟨b55_74, retI (by unfold v_act; first | rw [if_pos (by omega)] | (rw [if_neg (by omega), if_pos (by omega), ek]; try rfl) | (rw [if_neg (by omega), if_neg (by omega), if_pos (by omega), ek]; try rfl) | (rw [if_neg (by omega), if_neg (by omega), if_neg (by omega), ek]; try rfl)), rfl, ?_⟩
        · intro bd
          rw [r74.1, show actL S a c = tkL (S (166 + a)) from by unfold actL; rw [if_neg (by omega), if_neg (by omega), if_pos (by omega)]]
          rw [ek]
          have hb9 := fun L : List Int => BDY_L L s6 bd 0 (Int.le_refl 0) (BDY_0 e6)
          simp only [Int.zero_add] at hb9
          exact hb9 _
      · have hq2 : P[i0]? = some (q, .inr (10, [.int (J a), .int (J (S (172 + a)))])) := by rw [hq, ek]; rfl
        refine w_callO (pc := 74) (As := [.int (J x), .ref (A 55)]) (rest := []) hC dX11_act_74 vo_X11_266_X10 (c_X0_taking (kl K) G A D T (au I 55 s6) F Q P i0 5 a (S (172 + a)) q x (show P[i0]? = some (q, .inr (kci 5, [.int (J a), .int (J (S (172 + a)))])) from by exact hq2) (show 0 ≤ 5 ∧ 5 ≤ 6 from by decide) (show 0 ≤ s6 0 ∧ s6 0 ≤ 130 from by first | assumption | omega)) (by decide) ⟨Nat.le_of_ble_eq_true rfl, Nat.le_of_ble_eq_true rfl⟩ (q0 := 60 + i0) (CW_P hq2) rfl rfl rfl (Nat.le_of_ble_eq_true rfl) rfl (fun vo wo hv => ?_)
        obtain ⟨b55_74, hv1, hw1, r74⟩ := hv
        rw [hv1, hw1]
        refine w_weq (CW_cong (au_th rfl au_rp) rfl rfl) ?_
        show WW K G 0 0 (CW A D T G.2.1 (au I 55 b55_74) F Q P) 77 [(4, .ref q), (0, .ref (A 0)), (1, .int (J a)), (2, .int (J c)), (3, .int (J x))] [.int (J (asv 5 a x - (S (172 + a))))]
        have r74 : b55_74 = ntL (ptL 5) s6 ∧ b55_74 0 = s6 0 + ((ptL 5).length : Int) := r74
        refine w_iret (pc := 77) hC hRT dX11_act_77 rfl ?_
        refine ⟨b55_74, retI (by unfold v_act; first | rw [if_pos (by omega)] | (rw [if_neg (by omega), if_pos (by omega), ek]; try rfl) | (rw [if_neg (by omega), if_neg (by omega), if_pos (by omega), ek]; try rfl) | (rw [if_neg (by omega), if_neg (by omega), if_neg (by omega), ek]; try rfl)), rfl, ?_⟩
        · intro bd
          rw [r74.1, show actL S a c = tkL (S (166 + a)) from by unfold actL; rw [if_neg (by omega), if_neg (by omega), if_pos (by omega)]]
          rw [ek]
          have hb9 := fun L : List Int => BDY_L L s6 bd 0 (Int.le_refl 0) (BDY_0 e6)
          simp only [Int.zero_add] at hb9
          exact hb9 _
      · have hq2 : P[i0]? = some (q, .inr (8, [.int (J a), .int (J (S (172 + a)))])) := by rw [hq, ek]; rfl
        refine w_callO (pc := 74) (As := [.int (J x), .ref (A 55)]) (rest := []) hC dX11_act_74 vo_X11_266_X8 (c_X8_taking (kl K) G A D T (au I 55 s6) F Q P i0 a (S (172 + a)) q x (show P[i0]? = some (q, .inr (8, [.int (J a), .int (J (S (172 + a)))])) from by exact hq2) (show 0 ≤ s6 0 ∧ s6 0 ≤ 120 from by first | assumption | omega)) (by decide) ⟨Nat.le_of_ble_eq_true rfl, Nat.le_of_ble_eq_true rfl⟩ (q0 := 60 + i0) (CW_P hq2) rfl rfl rfl (Nat.le_of_ble_eq_true rfl) rfl (fun vo wo hv => ?_)
        obtain ⟨b55_74, hv1, hw1, r74⟩ := hv
        rw [hv1, hw1]
        refine w_weq (CW_cong (au_th rfl au_rp) rfl rfl) ?_
        show WW K G 0 0 (CW A D T G.2.1 (au I 55 b55_74) F Q P) 77 [(4, .ref q), (0, .ref (A 0)), (1, .int (J a)), (2, .int (J c)), (3, .int (J x))] [.int (J (tkv 6 a (S (172 + a)) x))]
        have r74 : b55_74 = ntL (tkL 6) s6 ∧ b55_74 0 = s6 0 + ((tkL 6).length : Int) := r74
        refine w_iret (pc := 77) hC hRT dX11_act_77 rfl ?_
        refine ⟨b55_74, retI (by unfold v_act; first | rw [if_pos (by omega)] | (rw [if_neg (by omega), if_pos (by omega), ek]; try rfl) | (rw [if_neg (by omega), if_neg (by omega), if_pos (by omega), ek]; try rfl) | (rw [if_neg (by omega), if_neg (by omega), if_neg (by omega), ek]; try rfl)), rfl, ?_⟩
        · intro bd
          rw [r74.1, show actL S a c = tkL (S (166 + a)) from by unfold actL; rw [if_neg (by omega), if_neg (by omega), if_pos (by omega)]]
          rw [ek]
          have hb9 := fun L : List Int => BDY_L L s6 bd 0 (Int.le_refl 0) (BDY_0 e6)
          simp only [Int.zero_add] at hb9
          exact hb9 _
    · refine w_tableIn (pc := 29) (v := 2) (tgt := 78) hC dX11_act_29 c29 (by decide) rfl (by decide) ?_
      refine w_aload (pc := 78) hC dX11_act_78 0 rfl ?_
      refine w_iload_n (pc := 80) hC dX11_act_80 4 rfl rfl ?_
      refine w_aload_n (pc := 81) hC dX11_act_81 1 rfl rfl ?_
      refine w_getf (pc := 82) (v := .ref (A 55)) hC dX11_act_82 fi_X11_25 0 CW_0 rfl ?_
      rcases k7 hkd with ek | ek | ek | ek | ek | ek | ek
      · have hq2 : P[i0]? = some (q, .inr (0, [.int (J a), .int (J (S (172 + a)))])) := by rw [hq, ek]; rfl
        refine w_callV (pc := 85) (As := [.int (J x), .ref (A 55)]) (rest := []) hC dX11_act_85 cv_X11_269 (c_X0_waiting (kl K) G A D T (au I 55 s6) F Q P i0 0 a (S (172 + a)) q x (show P[i0]? = some (q, .inr (kci 0, [.int (J a), .int (J (S (172 + a)))])) from by exact hq2) (show 0 ≤ 0 ∧ 0 ≤ 6 from by decide) (show 0 ≤ s6 0 ∧ s6 0 ≤ 100 from by first | assumption | omega)) (by decide) ⟨Nat.le_of_ble_eq_true rfl, Nat.le_of_ble_eq_true rfl⟩ (q0 := 60 + i0) (CW_P hq2) rfl rfl rfl (Nat.le_of_ble_eq_true rfl) rfl (fun vo wo hv => ?_)
        obtain ⟨b55_85, hv1, hw1, r85⟩ := hv
        rw [hv1, hw1]
        refine w_weq (CW_cong (au_th rfl au_rp) rfl rfl) ?_
        show WW K G 0 0 (CW A D T G.2.1 (au I 55 b55_85) F Q P) 88 [(4, .ref q), (0, .ref (A 0)), (1, .int (J a)), (2, .int (J c)), (3, .int (J x))] [.int (J (tkv 0 a (S (172 + a)) x * 2))]
        have r85 : b55_85 = ntL (pwL 0) s6 ∧ b55_85 0 = s6 0 + ((pwL 0).length : Int) := r85
        refine w_iret (pc := 88) hC hRT dX11_act_88 rfl ?_
        refine ⟨b55_85, retI (by unfold v_act; first | rw [if_pos (by omega)] | (rw [if_neg (by omega), if_pos (by omega), ek]; try rfl) | (rw [if_neg (by omega), if_neg (by omega), if_pos (by omega), ek]; try rfl) | (rw [if_neg (by omega), if_neg (by omega), if_neg (by omega), ek]; try rfl)), rfl, ?_⟩
        · intro bd
          rw [r85.1, show actL S a c = wtL (S (166 + a)) from by unfold actL; rw [if_neg (by omega), if_neg (by omega), if_neg (by omega)]]
          rw [ek]
          have hb9 := fun L : List Int => BDY_L L s6 bd 0 (Int.le_refl 0) (BDY_0 e6)
          simp only [Int.zero_add] at hb9
          exact hb9 _
      · have hq2 : P[i0]? = some (q, .inr (7, [.int (J a), .int (J (S (172 + a)))])) := by rw [hq, ek]; rfl
        refine w_callO (pc := 85) (As := [.int (J x), .ref (A 55)]) (rest := []) hC dX11_act_85 vo_X11_269_X7 (c_X0_waiting (kl K) G A D T (au I 55 s6) F Q P i0 1 a (S (172 + a)) q x (show P[i0]? = some (q, .inr (kci 1, [.int (J a), .int (J (S (172 + a)))])) from by exact hq2) (show 0 ≤ 1 ∧ 1 ≤ 6 from by decide) (show 0 ≤ s6 0 ∧ s6 0 ≤ 100 from by first | assumption | omega)) (by decide) ⟨Nat.le_of_ble_eq_true rfl, Nat.le_of_ble_eq_true rfl⟩ (q0 := 60 + i0) (CW_P hq2) rfl rfl rfl (Nat.le_of_ble_eq_true rfl) rfl (fun vo wo hv => ?_)
        obtain ⟨b55_85, hv1, hw1, r85⟩ := hv
        rw [hv1, hw1]
        refine w_weq (CW_cong (au_th rfl au_rp) rfl rfl) ?_
        show WW K G 0 0 (CW A D T G.2.1 (au I 55 b55_85) F Q P) 88 [(4, .ref q), (0, .ref (A 0)), (1, .int (J a)), (2, .int (J c)), (3, .int (J x))] [.int (J (tkv 1 a (S (172 + a)) x * 2))]
        have r85 : b55_85 = ntL (pwL 1) s6 ∧ b55_85 0 = s6 0 + ((pwL 1).length : Int) := r85
        refine w_iret (pc := 88) hC hRT dX11_act_88 rfl ?_
        refine ⟨b55_85, retI (by unfold v_act; first | rw [if_pos (by omega)] | (rw [if_neg (by omega), if_pos (by omega), ek]; try rfl) | (rw [if_neg (by omega), if_neg (by omega), if_pos (by omega), ek]; try rfl) | (rw [if_neg (by omega), if_neg (by omega), if_neg (by omega), ek]; try rfl)), rfl, ?_⟩
        · intro bd
          rw [r85.1, show actL S a c = wtL (S (166 + a)) from by unfold actL; rw [if_neg (by omega), if_neg (by omega), if_neg (by omega)]]
          rw [ek]
          have hb9 := fun L : List Int => BDY_L L s6 bd 0 (Int.le_refl 0) (BDY_0 e6)
          simp only [Int.zero_add] at hb9
          exact hb9 _
      · have hq2 : P[i0]? = some (q, .inr (5, [.int (J a), .int (J (S (172 + a)))])) := by rw [hq, ek]; rfl
        refine w_callO (pc := 85) (As := [.int (J x), .ref (A 55)]) (rest := []) hC dX11_act_85 vo_X11_269_X5 (c_X0_waiting (kl K) G A D T (au I 55 s6) F Q P i0 2 a (S (172 + a)) q x (show P[i0]? = some (q, .inr (kci 2, [.int (J a), .int (J (S (172 + a)))])) from by exact hq2) (show 0 ≤ 2 ∧ 2 ≤ 6 from by decide) (show 0 ≤ s6 0 ∧ s6 0 ≤ 100 from by first | assumption | omega)) (by decide) ⟨Nat.le_of_ble_eq_true rfl, Nat.le_of_ble_eq_true rfl⟩ (q0 := 60 + i0) (CW_P hq2) rfl rfl rfl (Nat.le_of_ble_eq_true rfl) rfl (fun vo wo hv => ?_)
        obtain ⟨b55_85, hv1, hw1, r85⟩ := hv
        rw [hv1, hw1]
        refine w_weq (CW_cong (au_th rfl au_rp) rfl rfl) ?_
        show WW K G 0 0 (CW A D T G.2.1 (au I 55 b55_85) F Q P) 88 [(4, .ref q), (0, .ref (A 0)), (1, .int (J a)), (2, .int (J c)), (3, .int (J x))] [.int (J (tkv 2 a (S (172 + a)) x * 2))]
        have r85 : b55_85 = ntL (pwL 2) s6 ∧ b55_85 0 = s6 0 + ((pwL 2).length : Int) := r85
        refine w_iret (pc := 88) hC hRT dX11_act_88 rfl ?_
        refine ⟨b55_85, retI (by unfold v_act; first | rw [if_pos (by omega)] | (rw [if_neg (by omega), if_pos (by omega), ek]; try rfl) | (rw [if_neg (by omega), if_neg (by omega), if_pos (by omega), ek]; try rfl) | (rw [if_neg (by omega), if_neg (by omega), if_neg (by omega), ek]; try rfl)), rfl, ?_⟩
        · intro bd
          rw [r85.1, show actL S a c = wtL (S (166 + a)) from by unfold actL; rw [if_neg (by omega), if_neg (by omega), if_neg (by omega)]]
          rw [ek]
          have hb9 := fun L : List Int => BDY_L L s6 bd 0 (Int.le_refl 0) (BDY_0 e6)
          simp only [Int.zero_add] at hb9
          exact hb9 _
      · have hq2 : P[i0]? = some (q, .inr (9, [.int (J a), .int (J (S (172 + a)))])) := by rw [hq, ek]; rfl
        refine w_callO (pc := 85) (As := [.int (J x), .ref (A 55)]) (rest := []) hC dX11_act_85 vo_X11_269_X9 (c_X9_waiting (kl K) G A D T (au I 55 s6) F Q P i0 a (S (172 + a)) q x (show P[i0]? = some (q, .inr (9, [.int (J a), .int (J (S (172 + a)))])) from by exact hq2) (show 0 ≤ s6 0 ∧ s6 0 ≤ 80 from by first | assumption | omega)) (by decide) ⟨Nat.le_of_ble_eq_true rfl, Nat.le_of_ble_eq_true rfl⟩ (q0 := 60 + i0) (CW_P hq2) rfl rfl rfl (Nat.le_of_ble_eq_true rfl) rfl (fun vo wo hv => ?_)
        obtain ⟨b55_85, hv1, hw1, r85⟩ := hv
        rw [hv1, hw1]
        refine w_weq (CW_cong (au_th rfl au_rp) rfl rfl) ?_
        show WW K G 0 0 (CW A D T G.2.1 (au I 55 b55_85) F Q P) 88 [(4, .ref q), (0, .ref (A 0)), (1, .int (J a)), (2, .int (J c)), (3, .int (J x))] [.int (J (wtv 3 a (S (172 + a)) x))]
        have r85 : b55_85 = ntL (wtL 3) s6 ∧ b55_85 0 = s6 0 + ((wtL 3).length : Int) := r85
        refine w_iret (pc := 88) hC hRT dX11_act_88 rfl ?_
        refine ⟨b55_85, retI (by unfold v_act; first | rw [if_pos (by omega)] | (rw [if_neg (by omega), if_pos (by omega), ek]; try rfl) | (rw [if_neg (by omega), if_neg (by omega), if_pos (by omega), ek]; try rfl) | (rw [if_neg (by omega), if_neg (by omega), if_neg (by omega), ek]; try rfl)), rfl, ?_⟩
        · intro bd
          rw [r85.1, show actL S a c = wtL (S (166 + a)) from by unfold actL; rw [if_neg (by omega), if_neg (by omega), if_neg (by omega)]]
          rw [ek]
          have hb9 := fun L : List Int => BDY_L L s6 bd 0 (Int.le_refl 0) (BDY_0 e6)
          simp only [Int.zero_add] at hb9
          exact hb9 _
      · have hq2 : P[i0]? = some (q, .inr (1, [.int (J a), .int (J (S (172 + a)))])) := by rw [hq, ek]; rfl
        refine w_callO (pc := 85) (As := [.int (J x), .ref (A 55)]) (rest := []) hC dX11_act_85 vo_X11_269_X1 (c_X0_waiting (kl K) G A D T (au I 55 s6) F Q P i0 4 a (S (172 + a)) q x (show P[i0]? = some (q, .inr (kci 4, [.int (J a), .int (J (S (172 + a)))])) from by exact hq2) (show 0 ≤ 4 ∧ 4 ≤ 6 from by decide) (show 0 ≤ s6 0 ∧ s6 0 ≤ 100 from by first | assumption | omega)) (by decide) ⟨Nat.le_of_ble_eq_true rfl, Nat.le_of_ble_eq_true rfl⟩ (q0 := 60 + i0) (CW_P hq2) rfl rfl rfl (Nat.le_of_ble_eq_true rfl) rfl (fun vo wo hv => ?_)
        obtain ⟨b55_85, hv1, hw1, r85⟩ := hv
        rw [hv1, hw1]
        refine w_weq (CW_cong (au_th rfl au_rp) rfl rfl) ?_
        show WW K G 0 0 (CW A D T G.2.1 (au I 55 b55_85) F Q P) 88 [(4, .ref q), (0, .ref (A 0)), (1, .int (J a)), (2, .int (J c)), (3, .int (J x))] [.int (J (tkv 4 a (S (172 + a)) x * 2))]
        have r85 : b55_85 = ntL (pwL 4) s6 ∧ b55_85 0 = s6 0 + ((pwL 4).length : Int) := r85
        refine w_iret (pc := 88) hC hRT dX11_act_88 rfl ?_
        refine ⟨b55_85, retI (by unfold v_act; first | rw [if_pos (by omega)] | (rw [if_neg (by omega), if_pos (by omega), ek]; try rfl) | (rw [if_neg (by omega), if_neg (by omega), if_pos (by omega), ek]; try rfl) | (rw [if_neg (by omega), if_neg (by omega), if_neg (by omega), ek]; try rfl)), rfl, ?_⟩
        · intro bd
          rw [r85.1, show actL S a c = wtL (S (166 + a)) from by unfold actL; rw [if_neg (by omega), if_neg (by omega), if_neg (by omega)]]
          rw [ek]
          have hb9 := fun L : List Int => BDY_L L s6 bd 0 (Int.le_refl 0) (BDY_0 e6)
          simp only [Int.zero_add] at hb9
          exact hb9 _
      · have hq2 : P[i0]? = some (q, .inr (10, [.int (J a), .int (J (S (172 + a)))])) := by rw [hq, ek]; rfl
        refine w_callO (pc := 85) (As := [.int (J x), .ref (A 55)]) (rest := []) hC dX11_act_85 vo_X11_269_X10 (c_X10_waiting (kl K) G A D T (au I 55 s6) F Q P i0 5 a (S (172 + a)) q x (show P[i0]? = some (q, .inr (kci 5, [.int (J a), .int (J (S (172 + a)))])) from by exact hq2) (show 0 ≤ 5 ∧ 5 ≤ 6 from by decide) (show 5 = 5 ∨ 5 = 6 from by decide) (show 0 ≤ s6 0 ∧ s6 0 ≤ 80 from by first | assumption | omega)) (by decide) ⟨Nat.le_of_ble_eq_true rfl, Nat.le_of_ble_eq_true rfl⟩ (q0 := 60 + i0) (CW_P hq2) rfl rfl rfl (Nat.le_of_ble_eq_true rfl) rfl (fun vo wo hv => ?_)
        obtain ⟨b55_85, hv1, hw1, r85⟩ := hv
        rw [hv1, hw1]
        refine w_weq (CW_cong (au_th rfl au_rp) rfl rfl) ?_
        show WW K G 0 0 (CW A D T G.2.1 (au I 55 b55_85) F Q P) 88 [(4, .ref q), (0, .ref (A 0)), (1, .int (J a)), (2, .int (J c)), (3, .int (J x))] [.int (J (wtv 5 a (S (172 + a)) x))]
        have r85 : b55_85 = ntL (wtL 5) s6 ∧ b55_85 0 = s6 0 + ((wtL 5).length : Int) := r85
        refine w_iret (pc := 88) hC hRT dX11_act_88 rfl ?_
        refine ⟨b55_85, retI (by unfold v_act; first | rw [if_pos (by omega)] | (rw [if_neg (by omega), if_pos (by omega), ek]; try rfl) | (rw [if_neg (by omega), if_neg (by omega), if_pos (by omega), ek]; try rfl) | (rw [if_neg (by omega), if_neg (by omega), if_neg (by omega), ek]; try rfl)), rfl, ?_⟩
        · intro bd
          rw [r85.1, show actL S a c = wtL (S (166 + a)) from by unfold actL; rw [if_neg (by omega), if_neg (by omega), if_neg (by omega)]]
          rw [ek]
          have hb9 := fun L : List Int => BDY_L L s6 bd 0 (Int.le_refl 0) (BDY_0 e6)
          simp only [Int.zero_add] at hb9
          exact hb9 _
      · have hq2 : P[i0]? = some (q, .inr (8, [.int (J a), .int (J (S (172 + a)))])) := by rw [hq, ek]; rfl
        refine w_callO (pc := 85) (As := [.int (J x), .ref (A 55)]) (rest := []) hC dX11_act_85 vo_X11_269_X8 (c_X10_waiting (kl K) G A D T (au I 55 s6) F Q P i0 6 a (S (172 + a)) q x (show P[i0]? = some (q, .inr (kci 6, [.int (J a), .int (J (S (172 + a)))])) from by exact hq2) (show 0 ≤ 6 ∧ 6 ≤ 6 from by decide) (show 6 = 5 ∨ 6 = 6 from by decide) (show 0 ≤ s6 0 ∧ s6 0 ≤ 80 from by first | assumption | omega)) (by decide) ⟨Nat.le_of_ble_eq_true rfl, Nat.le_of_ble_eq_true rfl⟩ (q0 := 60 + i0) (CW_P hq2) rfl rfl rfl (Nat.le_of_ble_eq_true rfl) rfl (fun vo wo hv => ?_)
        obtain ⟨b55_85, hv1, hw1, r85⟩ := hv
        rw [hv1, hw1]
        refine w_weq (CW_cong (au_th rfl au_rp) rfl rfl) ?_
        show WW K G 0 0 (CW A D T G.2.1 (au I 55 b55_85) F Q P) 88 [(4, .ref q), (0, .ref (A 0)), (1, .int (J a)), (2, .int (J c)), (3, .int (J x))] [.int (J (wtv 6 a (S (172 + a)) x))]
        have r85 : b55_85 = ntL (wtL 6) s6 ∧ b55_85 0 = s6 0 + ((wtL 6).length : Int) := r85
        refine w_iret (pc := 88) hC hRT dX11_act_88 rfl ?_
        refine ⟨b55_85, retI (by unfold v_act; first | rw [if_pos (by omega)] | (rw [if_neg (by omega), if_pos (by omega), ek]; try rfl) | (rw [if_neg (by omega), if_neg (by omega), if_pos (by omega), ek]; try rfl) | (rw [if_neg (by omega), if_neg (by omega), if_neg (by omega), ek]; try rfl)), rfl, ?_⟩
        · intro bd
          rw [r85.1, show actL S a c = wtL (S (166 + a)) from by unfold actL; rw [if_neg (by omega), if_neg (by omega), if_neg (by omega)]]
          rw [ek]
          have hb9 := fun L : List Int => BDY_L L s6 bd 0 (Int.le_refl 0) (BDY_0 e6)
          simp only [Int.zero_add] at hb9
          exact hb9 _
    · refine w_tableOut (pc := 29) (tgt := 89) hC dX11_act_29 (by omega) c29 (by decide) ?_
      refine w_iconst (pc := 89) hC dX11_act_89 ?_
      refine w_iret (pc := 90) hC hRT dX11_act_90 rfl ?_
      refine ⟨s6, retI (by unfold v_act; first | rw [if_pos (by omega)] | (rw [if_neg (by omega), if_pos (by omega), ek]; try rfl) | (rw [if_neg (by omega), if_neg (by omega), if_pos (by omega), ek]; try rfl) | (rw [if_neg (by omega), if_neg (by omega), if_neg (by omega), ek]; try rfl)), rfl, ?_⟩
      · intro bd
        rw [show actL S a c = [] from by unfold actL; rw [if_pos (by omega)]]
        exact BDY_0 e6
  · refine w_iconst (pc := 15) hC dX11_act_15 ?_
    refine w_iret (pc := 16) hC hRT dX11_act_16 rfl ?_
    refine ⟨s6, retI (by unfold v_act; first | rw [if_pos (by omega)] | (rw [if_neg (by omega), if_pos (by omega), ek]; try rfl) | (rw [if_neg (by omega), if_neg (by omega), if_pos (by omega), ek]; try rfl) | (rw [if_neg (by omega), if_neg (by omega), if_neg (by omega), ek]; try rfl)), rfl, ?_⟩
    · intro bd
      rw [show actL S a c = [] from by unfold actL; rw [if_pos (by omega)]]
      exact BDY_0 e6
