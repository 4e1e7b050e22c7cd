
theorem PBT_may {S : Int → Int} {c rf b rung day : Int} (hV : VB (S 0) b) (hr : 0 ≤ rung ∧ rung < S 0) (hrf : rf = -1 ∨ (0 ≤ rf ∧ rf < 6)) : PBT S c rf b rung day (andn (MSK S c (-1) b (dg b rung) day) (if rf = -1 then 0 else 2 ^ rf.toNat)) := by
  have ha := VB_dg hV hr.1 hr.2
  have hb := MSK_bd (c := c) (rf := -1) (day := day) hV ha
  have hd := andn_bd (x := MSK S c (-1) b (dg b rung) day) (y := if rf = -1 then 0 else 2 ^ rf.toNat) hb.1
  have hg : 0 ≤ (if rf = -1 then 0 else (2 : Int) ^ rf.toNat) ∧ (if rf = -1 then 0 else (2 : Int) ^ rf.toNat) < 2147483648 := by
    split
    · omega
    · have := p2_6 (x := rf) (by omega) (by omega)
      omega
  have hbit : ∀ x : Int, 0 ≤ x → (((if rf = -1 then 0 else (2 : Int) ^ rf.toNat) / 2 ^ x.toNat % 2 = 1) ↔ rf = x) := fun x hx => by
    rcases hrf with e | e
    · rw [if_pos e]
      exact ⟨fun h => absurd h (bt_0 x), fun h => by omega⟩
    · rw [if_neg (by omega)]
      exact bt_pow hx e.1
  refine ⟨by omega, fun q h0 h1 => ?_, fun x hx h => ?_⟩
  · have hq := VB_dg hV h0 (r := q) (by omega)
    have hm := MSK_bt (c := c) (rf := -1) (day := day) hV ha (u := rung - q) (by rw [rk_ru hV hr]; omega)
    rw [rk_ru hV hr, show rung - (rung - q) = q by omega] at hm
    show _ / 2 ^ (dg b q).toNat % 2 = 1 ↔ _
    rw [bt_andn ⟨hb.1, by omega⟩ hg hq.1, hm, hbit _ hq.1]
    have e : rung - (rung - q) = q := by omega
    constructor
    · intro h9
      exact ⟨h9.1.1, by rw [e]; exact fun h8 => h9.2 h8.symm, h9.1.2.2⟩
    · intro h9
      exact ⟨⟨h9.1, by rw [e]; omega, h9.2.2⟩, fun h8 => h9.2.1 (by rw [e]; exact h8.symm)⟩
  · have h2 := ((bt_andn ⟨hb.1, by omega⟩ hg hx).mp h).1
    have hup : imin (S (178 + c)) rung ≤ rung := by unfold imin; split <;> omega
    rw [MSK_ru hV hr, bt_mskN _ _ hx _ (fun u g1 g2 => by have := VB_dg hV (r := rung - u) (by omega) (by omega); have := hV.1; omega)] at h2
    obtain ⟨u, g1, -, g2⟩ := h2
    exact ⟨rung - u, by omega, g2⟩

set_option maxRecDepth 100000 in
set_option maxHeartbeats 4000000 in
theorem c_X6_whom_v2 (l : Launch) (G : GT) (A D : Nat → Nat) (T : Nat) (I : Nat → Int → Int) (F : Nat → Int) (Q : Nat → Nat → Option Nat) (P : va_W) (S : Int → Int) (c : Int) (b : Int) (rf : Int) (qb : Nat) (rung : Int) (day : Int) (ref : Int) (hR : RI S) (hL : LRn G.2.1 S I F Q P) (hc : 0 ≤ c ∧ c < S 1) (hcl : CLB P G.2.1 S c qb) (hV : VB (S 0) b) (hB : ∀ r : Int, 0 ≤ r → r < S 0 → (I 2) r = dg b r) (hr : 0 ≤ rung ∧ rung < S 0) (hd : 0 ≤ day ∧ day ≤ 5000) (hrf : rf = -1 ∨ (0 ≤ rf ∧ rf < 6)) (href : ref = if rf = -1 then 0 else 2 ^ rf.toNat) : CT l yX6_whom cX6_whom 7 (some .int) 3 0 0 G [.ref (A 1), .ref qb, .ref (A 2), .int (J rung), .int (J day), .int (J ref)] (CW A D T G.2.1 I F Q P) (fun vo wo => ∃ (b23 : Int → Int), vo = some (.int (J (ASK S c rf b (dg b rung) day))) ∧ wo = CW A D T G.2.1 (au I 23 b23) F Q P) := by
  refine CT_of (own := RX6) rfl rfl (Nat.le_of_ble_eq_true rfl) (fun K hl hnL hC hRT hin => ?_)
  subst hl
  show WW K G 0 0 (CW A D T G.2.1 I F Q P) 0 [(0, .ref (A 1)), (1, .ref qb), (2, .ref (A 2)), (3, .int (J rung)), (4, .int (J day)), (5, .int (J ref))] []
  have hn := hR.n
  have g1 := VB_dg hV hr.1 hr.2
  have g9 : 0 ≤ ref ∧ ref < 64 := by rw [href]; split; exact ⟨by decide, by decide⟩; exact ⟨by have := p2_6 (x := rf) (by omega) (by omega); omega, (p2_6 (x := rf) (by omega) (by omega)).2⟩
  have hp : PBT S c rf b rung day (andn (MSK S c (-1) b (dg b rung) day) ref) := by rw [href]; exact PBT_may hV hr hrf
  obtain ⟨q, hQ, i0, hq⟩ := l_ak hL g1.1 g1.2 hR
  have hpb := hp.1
  refine w_aload_n (pc := 0) hC dX6_whom_0 0 rfl rfl ?_
  refine w_aload_n (pc := 1) hC dX6_whom_1 1 rfl rfl ?_
  refine w_aload_n (pc := 2) hC dX6_whom_2 2 rfl rfl ?_
  refine w_iload_n (pc := 3) hC dX6_whom_3 3 rfl rfl ?_
  refine w_iload (pc := 4) hC dX6_whom_4 4 rfl ?_
  refine w_callV (pc := 6) (As := [.ref qb, .ref (A 2), .int (J rung), .int (J day)]) (rest := []) hC dX6_whom_6 cv_X6_94 (c_X6_mayBits_v2 (kl K) G A D T I F Q P S c b qb rung day (show RI S from by first | assumption | omega) (show LRn G.2.1 S I F Q P from by exact hL) (show 0 ≤ c ∧ c < S 1 from by first | assumption | omega) (show CLB P G.2.1 S c qb from by first | assumption | omega) (show VB (S 0) b from by first | assumption | omega) (show ∀ r : Int, 0 ≤ r → r < S 0 → (I 2) r = dg b r from by first | assumption | omega) (show 0 ≤ rung ∧ rung < S 0 from by first | assumption | omega) (show 0 ≤ day ∧ day ≤ 5000 from by first | assumption | omega)) (by decide) ⟨Nat.le_of_ble_eq_true rfl, Nat.le_of_ble_eq_true rfl⟩ (q0 := 1) CW_1 rfl rfl rfl (Nat.le_of_ble_eq_true rfl) rfl (fun vo wo hv => ?_)
  obtain ⟨b23_6, hv1, hw1⟩ := hv
  rw [hv1, hw1]
  show WW K G 0 0 (CW A D T G.2.1 (au I 23 b23_6) F Q P) 9 [(0, .ref (A 1)), (1, .ref qb), (2, .ref (A 2)), (3, .int (J rung)), (4, .int (J day)), (5, .int (J ref))] [.int (J (MSK S c (-1) b (dg b rung) day))]
  have q6_0 := @MSK_bd S c (-1) b (dg b rung) day (by assumption) (by first | exact VB_dg (by assumption) (by omega) (by omega) | omega)
  refine w_iload (pc := 9) hC dX6_whom_9 5 rfl ?_
  refine w_iconst (pc := 11) hC dX6_whom_11 ?_
  refine w_ixor (pc := 12) hC dX6_whom_12 (v := -1 - ref) (J_not _) ?_
  refine w_iand (pc := 13) hC dX6_whom_13 (v := andn (MSK S c (-1) b (dg b rung) day) ref) (J_andn (by omega) (by omega) (by omega) (by omega)) ?_
  refine w_istore (pc := 14) hC dX6_whom_14 (lv2 := [(6, .int (J (andn (MSK S c (-1) b (dg b rung) day) ref))), (0, .ref (A 1)), (1, .ref qb), (2, .ref (A 2)), (3, .int (J rung)), (4, .int (J day)), (5, .int (J ref))]) (by rw [hnL]; decide) rfl ?_
  refine w_iload (pc := 16) hC dX6_whom_16 0 rfl ?_
  refine w_if_ne (pc := 18) (tgt := 26) hC dX6_whom_18 (by decide) (by omega) (fun c18 => ?_) (fun c18 => ?_)
  · refine w_aload_n (pc := 26) hC dX6_whom_26 1 rfl rfl ?_
    refine w_getf (pc := 27) (v := .ref (A 10)) hC dX6_whom_27 fi_X6_29 1 CW_1 rfl ?_
    refine w_aload_n (pc := 30) hC dX6_whom_30 3 rfl rfl ?_
    refine w_iload_n (pc := 31) hC dX6_whom_31 4 rfl rfl ?_
    refine w_ialdV (pc := 32) (g := (I 2)) (v := dg b rung) hC dX6_whom_32 2 CW_2 (by omega) (Nat.le_of_ble_eq_true rfl) (hB _ (by omega) (by omega)) ?_
    refine w_aaldS (t0 := 4) (q := q) hC dX6_whom_33 10 CW_10 rfl rfl (by omega) (Nat.le_of_ble_eq_true rfl) (hQ) ?_
    refine w_aload_n (pc := 34) hC dX6_whom_34 1 rfl rfl ?_
    refine w_getf (pc := 35) (v := .ref (A 3)) hC dX6_whom_35 fi_X6_21 1 CW_1 rfl ?_
    refine w_aload_n (pc := 38) hC dX6_whom_38 2 rfl rfl ?_
    refine w_aload_n (pc := 39) hC dX6_whom_39 3 rfl rfl ?_
    refine w_iload_n (pc := 40) hC dX6_whom_40 4 rfl rfl ?_
    refine w_iload (pc := 41) hC dX6_whom_41 0 rfl ?_
    rcases k7 (hR.kd (166 + dg b rung) (by omega) (by omega)) with hk | hk | hk | hk | hk | hk | hk
    · have hq2 : P[i0]? = some (q, .inr (0, [.int (J (dg b rung)), .int (J (S (172 + dg b rung)))])) := by rw [hq, hk]; rfl
      refine w_callV (pc := 43) (As := [.ref (A 3), .ref qb, .ref (A 2), .int (J rung), .int (J (andn (MSK S c (-1) b (dg b rung) day) ref))]) (rest := []) hC dX6_whom_43 cv_X6_98 (c_X0_pick_v2 (kl K) G A D T (au I 23 b23_6) F Q P S c b rf day i0 q qb rung (andn (MSK S c (-1) b (dg b rung) day) ref) (show RI S from by first | assumption | omega) (show LRn G.2.1 S (au I 23 b23_6) F Q P from by exact (LRb_au (by decide) hL)) (show 0 ≤ c ∧ c < S 1 from by first | assumption | omega) (show CLB P G.2.1 S c qb from by first | assumption | omega) (show VB (S 0) b from by first | assumption | omega) (show ∀ r : Int, 0 ≤ r → r < S 0 → (I 2) r = dg b r from by first | assumption | omega) (show 0 ≤ rung ∧ rung < S 0 from by first | assumption | omega) (show P[i0]? = some (q, .inr (0, [.int (J (dg b rung)), .int (J (S (172 + dg b rung)))])) from by exact hq2) (show S (166 + dg b rung) = 0 from by exact hk) (show PBT S c rf b rung day (andn (MSK S c (-1) b (dg b rung) day) ref) from by exact hp)) (by decide) ⟨Nat.le_of_ble_eq_true rfl, Nat.le_of_ble_eq_true rfl⟩ (q0 := 60 + i0) (CW_P hq2) rfl rfl rfl (Nat.le_of_ble_eq_true rfl) rfl (fun vo wo hv => ?_)
      obtain ⟨hv1, hw1⟩ := hv
      rw [hv1, hw1]
      show WW K G 0 0 (CW A D T G.2.1 (au I 23 b23_6) F Q P) 46 [(6, .int (J (andn (MSK S c (-1) b (dg b rung) day) ref))), (0, .ref (A 1)), (1, .ref qb), (2, .ref (A 2)), (3, .int (J rung)), (4, .int (J day)), (5, .int (J ref))] [.int (J (PCK S c rf b rung day))]
      refine w_iret (pc := 46) hC hRT dX6_whom_46 rfl ?_
      refine ⟨b23_6, retI (by first | exact (ASK_ru hV hr).symm | (rw [ASK_ru hV hr]; exact pk_b hp hr.1 (fun z _ _ h9 => bt_0 _ (by rw [c18] at h9; exact h9)))), rfl⟩
    · have hq2 : P[i0]? = some (q, .inr (7, [.int (J (dg b rung)), .int (J (S (172 + dg b rung)))])) := by rw [hq, hk]; rfl
      refine w_callO (pc := 43) (As := [.ref (A 3), .ref qb, .ref (A 2), .int (J rung), .int (J (andn (MSK S c (-1) b (dg b rung) day) ref))]) (rest := []) hC dX6_whom_43 vo_X6_98_X7 (c_X7_pick_v2 (kl K) G A D T (au I 23 b23_6) F Q P S c b rf day i0 q qb rung (andn (MSK S c (-1) b (dg b rung) day) ref) (show RI S from by first | assumption | omega) (show LRn G.2.1 S (au I 23 b23_6) F Q P from by exact (LRb_au (by decide) hL)) (show 0 ≤ c ∧ c < S 1 from by first | assumption | omega) (show CLB P G.2.1 S c qb from by first | assumption | omega) (show VB (S 0) b from by first | assumption | omega) (show ∀ r : Int, 0 ≤ r → r < S 0 → (I 2) r = dg b r from by first | assumption | omega) (show 0 ≤ rung ∧ rung < S 0 from by first | assumption | omega) (show P[i0]? = some (q, .inr (7, [.int (J (dg b rung)), .int (J (S (172 + dg b rung)))])) from by exact hq2) (show S (166 + dg b rung) = 1 from by exact hk) (show PBT S c rf b rung day (andn (MSK S c (-1) b (dg b rung) day) ref) from by exact hp)) (by decide) ⟨Nat.le_of_ble_eq_true rfl, Nat.le_of_ble_eq_true rfl⟩ (q0 := 60 + i0) (CW_P hq2) rfl rfl rfl (Nat.le_of_ble_eq_true rfl) rfl (fun vo wo hv => ?_)
      obtain ⟨hv1, hw1⟩ := hv
      rw [hv1, hw1]
      show WW K G 0 0 (CW A D T G.2.1 (au I 23 b23_6) F Q P) 46 [(6, .int (J (andn (MSK S c (-1) b (dg b rung) day) ref))), (0, .ref (A 1)), (1, .ref qb), (2, .ref (A 2)), (3, .int (J rung)), (4, .int (J day)), (5, .int (J ref))] [.int (J (PCK S c rf b rung day))]
      refine w_iret (pc := 46) hC hRT dX6_whom_46 rfl ?_
      refine ⟨b23_6, retI (by first | exact (ASK_ru hV hr).symm | (rw [ASK_ru hV hr]; exact pk_b hp hr.1 (fun z _ _ h9 => bt_0 _ (by rw [c18] at h9; exact h9)))), rfl⟩
    · have hq2 : P[i0]? = some (q, .inr (5, [.int (J (dg b rung)), .int (J (S (172 + dg b rung)))])) := by rw [hq, hk]; rfl
      refine w_callO (pc := 43) (As := [.ref (A 3), .ref qb, .ref (A 2), .int (J rung), .int (J (andn (MSK S c (-1) b (dg b rung) day) ref))]) (rest := []) hC dX6_whom_43 vo_X6_98_X5 (c_X5_pick_v2 (kl K) G A D T (au I 23 b23_6) F Q P S c b rf day i0 q qb rung (andn (MSK S c (-1) b (dg b rung) day) ref) (show RI S from by first | assumption | omega) (show LRn G.2.1 S (au I 23 b23_6) F Q P from by exact (LRb_au (by decide) hL)) (show 0 ≤ c ∧ c < S 1 from by first | assumption | omega) (show CLB P G.2.1 S c qb from by first | assumption | omega) (show VB (S 0) b from by first | assumption | omega) (show ∀ r : Int, 0 ≤ r → r < S 0 → (I 2) r = dg b r from by first | assumption | omega) (show 0 ≤ rung ∧ rung < S 0 from by first | assumption | omega) (show P[i0]? = some (q, .inr (5, [.int (J (dg b rung)), .int (J (S (172 + dg b rung)))])) from by exact hq2) (show S (166 + dg b rung) = 2 from by exact hk) (show PBT S c rf b rung day (andn (MSK S c (-1) b (dg b rung) day) ref) from by exact hp)) (by decide) ⟨Nat.le_of_ble_eq_true rfl, Nat.le_of_ble_eq_true rfl⟩ (q0 := 60 + i0) (CW_P hq2) rfl rfl rfl (Nat.le_of_ble_eq_true rfl) rfl (fun vo wo hv => ?_)
      obtain ⟨hv1, hw1⟩ := hv
      rw [hv1, hw1]
      show WW K G 0 0 (CW A D T G.2.1 (au I 23 b23_6) F Q P) 46 [(6, .int (J (andn (MSK S c (-1) b (dg b rung) day) ref))), (0, .ref (A 1)), (1, .ref qb), (2, .ref (A 2)), (3, .int (J rung)), (4, .int (J day)), (5, .int (J ref))] [.int (J (PCK S c rf b rung day))]
      refine w_iret (pc := 46) hC hRT dX6_whom_46 rfl ?_
      refine ⟨b23_6, retI (by first | exact (ASK_ru hV hr).symm | (rw [ASK_ru hV hr]; exact pk_b hp hr.1 (fun z _ _ h9 => bt_0 _ (by rw [c18] at h9; exact h9)))), rfl⟩
    · have hq2 : P[i0]? = some (q, .inr (9, [.int (J (dg b rung)), .int (J (S (172 + dg b rung)))])) := by rw [hq, hk]; rfl
      refine w_callO (pc := 43) (As := [.ref (A 3), .ref qb, .ref (A 2), .int (J rung), .int (J (andn (MSK S c (-1) b (dg b rung) day) ref))]) (rest := []) hC dX6_whom_43 vo_X6_98_X9 (c_X9_pick_v2 (kl K) G A D T (au I 23 b23_6) F Q P S c b rf day i0 q qb rung (andn (MSK S c (-1) b (dg b rung) day) ref) (show RI S from by first | assumption | omega) (show LRn G.2.1 S (au I 23 b23_6) F Q P from by exact (LRb_au (by decide) hL)) (show 0 ≤ c ∧ c < S 1 from by first | assumption | omega) (show CLB P G.2.1 S c qb from by first | assumption | omega) (show VB (S 0) b from by first | assumption | omega) (show ∀ r : Int, 0 ≤ r → r < S 0 → (I 2) r = dg b r from by first | assumption | omega) (show 0 ≤ rung ∧ rung < S 0 from by first | assumption | omega) (show P[i0]? = some (q, .inr (9, [.int (J (dg b rung)), .int (J (S (172 + dg b rung)))])) from by exact hq2) (show S (166 + dg b rung) = 3 from by exact hk) (show PBT S c rf b rung day (andn (MSK S c (-1) b (dg b rung) day) ref) from by exact hp)) (by decide) ⟨Nat.le_of_ble_eq_true rfl, Nat.le_of_ble_eq_true rfl⟩ (q0 := 60 + i0) (CW_P hq2) rfl rfl rfl (Nat.le_of_ble_eq_true rfl) rfl (fun vo wo hv => ?_)
      obtain ⟨hv1, hw1⟩ := hv
      rw [hv1, hw1]
      show WW K G 0 0 (CW A D T G.2.1 (au I 23 b23_6) F Q P) 46 [(6, .int (J (andn (MSK S c (-1) b (dg b rung) day) ref))), (0, .ref (A 1)), (1, .ref qb), (2, .ref (A 2)), (3, .int (J rung)), (4, .int (J day)), (5, .int (J ref))] [.int (J (PCK S c rf b rung day))]
      refine w_iret (pc := 46) hC hRT dX6_whom_46 rfl ?_
      refine ⟨b23_6, retI (by first | exact (ASK_ru hV hr).symm | (rw [ASK_ru hV hr]; exact pk_b hp hr.1 (fun z _ _ h9 => bt_0 _ (by rw [c18] at h9; exact h9)))), rfl⟩
    · have hq2 : P[i0]? = some (q, .inr (1, [.int (J (dg b rung)), .int (J (S (172 + dg b rung)))])) := by rw [hq, hk]; rfl
      refine w_callO (pc := 43) (As := [.ref (A 3), .ref qb, .ref (A 2), .int (J rung), .int (J (andn (MSK S c (-1) b (dg b rung) day) ref))]) (rest := []) hC dX6_whom_43 vo_X6_98_X1 (c_X1_pick_v2 (kl K) G A D T (au I 23 b23_6) F Q P S c b rf day i0 q qb rung (andn (MSK S c (-1) b (dg b rung) day) ref) (show RI S from by first | assumption | omega) (show LRn G.2.1 S (au I 23 b23_6) F Q P from by exact (LRb_au (by decide) hL)) (show 0 ≤ c ∧ c < S 1 from by first | assumption | omega) (show CLB P G.2.1 S c qb from by first | assumption | omega) (show VB (S 0) b from by first | assumption | omega) (show ∀ r : Int, 0 ≤ r → r < S 0 → (I 2) r = dg b r from by first | assumption | omega) (show 0 ≤ rung ∧ rung < S 0 from by first | assumption | omega) (show P[i0]? = some (q, .inr (1, [.int (J (dg b rung)), .int (J (S (172 + dg b rung)))])) from by exact hq2) (show S (166 + dg b rung) = 4 from by exact hk) (show PBT S c rf b rung day (andn (MSK S c (-1) b (dg b rung) day) ref) from by exact hp)) (by decide) ⟨Nat.le_of_ble_eq_true rfl, Nat.le_of_ble_eq_true rfl⟩ (q0 := 60 + i0) (CW_P hq2) rfl rfl rfl (Nat.le_of_ble_eq_true rfl) rfl (fun vo wo hv => ?_)
      obtain ⟨hv1, hw1⟩ := hv
      rw [hv1, hw1]
      show WW K G 0 0 (CW A D T G.2.1 (au I 23 b23_6) F Q P) 46 [(6, .int (J (andn (MSK S c (-1) b (dg b rung) day) ref))), (0, .ref (A 1)), (1, .ref qb), (2, .ref (A 2)), (3, .int (J rung)), (4, .int (J day)), (5, .int (J ref))] [.int (J (PCK S c rf b rung day))]
      refine w_iret (pc := 46) hC hRT dX6_whom_46 rfl ?_
      refine ⟨b23_6, retI (by first | exact (ASK_ru hV hr).symm | (rw [ASK_ru hV hr]; exact pk_b hp hr.1 (fun z _ _ h9 => bt_0 _ (by rw [c18] at h9; exact h9)))), rfl⟩
    · have hq2 : P[i0]? = some (q, .inr (10, [.int (J (dg b rung)), .int (J (S (172 + dg b rung)))])) := by rw [hq, hk]; rfl
      refine w_callO (pc := 43) (As := [.ref (A 3), .ref qb, .ref (A 2), .int (J rung), .int (J (andn (MSK S c (-1) b (dg b rung) day) ref))]) (rest := []) hC dX6_whom_43 vo_X6_98_X10 (c_X10_pick_v2 (kl K) G A D T (au I 23 b23_6) F Q P S c b rf day i0 q qb rung (andn (MSK S c (-1) b (dg b rung) day) ref) (show RI S from by first | assumption | omega) (show LRn G.2.1 S (au I 23 b23_6) F Q P from by exact (LRb_au (by decide) hL)) (show 0 ≤ c ∧ c < S 1 from by first | assumption | omega) (show CLB P G.2.1 S c qb from by first | assumption | omega) (show VB (S 0) b from by first | assumption | omega) (show ∀ r : Int, 0 ≤ r → r < S 0 → (I 2) r = dg b r from by first | assumption | omega) (show 0 ≤ rung ∧ rung < S 0 from by first | assumption | omega) (show P[i0]? = some (q, .inr (10, [.int (J (dg b rung)), .int (J (S (172 + dg b rung)))])) from by exact hq2) (show S (166 + dg b rung) = 5 from by exact hk) (show PBT S c rf b rung day (andn (MSK S c (-1) b (dg b rung) day) ref) from by exact hp)) (by decide) ⟨Nat.le_of_ble_eq_true rfl, Nat.le_of_ble_eq_true rfl⟩ (q0 := 60 + i0) (CW_P hq2) rfl rfl rfl (Nat.le_of_ble_eq_true rfl) rfl (fun vo wo hv => ?_)
      obtain ⟨hv1, hw1⟩ := hv
      rw [hv1, hw1]
      show WW K G 0 0 (CW A D T G.2.1 (au I 23 b23_6) F Q P) 46 [(6, .int (J (andn (MSK S c (-1) b (dg b rung) day) ref))), (0, .ref (A 1)), (1, .ref qb), (2, .ref (A 2)), (3, .int (J rung)), (4, .int (J day)), (5, .int (J ref))] [.int (J (PCK S c rf b rung day))]
      refine w_iret (pc := 46) hC hRT dX6_whom_46 rfl ?_
      refine ⟨b23_6, retI (by first | exact (ASK_ru hV hr).symm | (rw [ASK_ru hV hr]; exact pk_b hp hr.1 (fun z _ _ h9 => bt_0 _ (by rw [c18] at h9; exact h9)))), rfl⟩
    · have hq2 : P[i0]? = some (q, .inr (8, [.int (J (dg b rung)), .int (J (S (172 + dg b rung)))])) := by rw [hq, hk]; rfl
      refine w_callO (pc := 43) (As := [.ref (A 3), .ref qb, .ref (A 2), .int (J rung), .int (J (andn (MSK S c (-1) b (dg b rung) day) ref))]) (rest := []) hC dX6_whom_43 vo_X6_98_X8 (c_X8_pick_v2 (kl K) G A D T (au I 23 b23_6) F Q P S c b rf day i0 q qb rung (andn (MSK S c (-1) b (dg b rung) day) ref) (show RI S from by first | assumption | omega) (show LRn G.2.1 S (au I 23 b23_6) F Q P from by exact (LRb_au (by decide) hL)) (show 0 ≤ c ∧ c < S 1 from by first | assumption | omega) (show CLB P G.2.1 S c qb from by first | assumption | omega) (show VB (S 0) b from by first | assumption | omega) (show ∀ r : Int, 0 ≤ r → r < S 0 → (I 2) r = dg b r from by first | assumption | omega) (show 0 ≤ rung ∧ rung < S 0 from by first | assumption | omega) (show P[i0]? = some (q, .inr (8, [.int (J (dg b rung)), .int (J (S (172 + dg b rung)))])) from by exact hq2) (show S (166 + dg b rung) = 6 from by exact hk) (show PBT S c rf b rung day (andn (MSK S c (-1) b (dg b rung) day) ref) from by exact hp)) (by decide) ⟨Nat.le_of_ble_eq_true rfl, Nat.le_of_ble_eq_true rfl⟩ (q0 := 60 + i0) (CW_P hq2) rfl rfl rfl (Nat.le_of_ble_eq_true rfl) rfl (fun vo wo hv => ?_)
      obtain ⟨hv1, hw1⟩ := hv
      rw [hv1, hw1]
      show WW K G 0 0 (CW A D T G.2.1 (au I 23 b23_6) F Q P) 46 [(6, .int (J (andn (MSK S c (-1) b (dg b rung) day) ref))), (0, .ref (A 1)), (1, .ref qb), (2, .ref (A 2)), (3, .int (J rung)), (4, .int (J day)), (5, .int (J ref))] [.int (J (PCK S c rf b rung day))]
      refine w_iret (pc := 46) hC hRT dX6_whom_46 rfl ?_
      refine ⟨b23_6, retI (by first | exact (ASK_ru hV hr).symm | (rw [ASK_ru hV hr]; exact pk_b hp hr.1 (fun z _ _ h9 => bt_0 _ (by rw [c18] at h9; exact h9)))), rfl⟩
  · refine w_bipush (pc := 21) hC dX6_whom_21 (z := (-5)) rfl ?_
    refine w_goto (pc := 23) hC dX6_whom_23 (tgt := 46) (by decide) ?_
    refine w_iret (pc := 46) hC hRT dX6_whom_46 rfl ?_
    refine ⟨b23_6, retI (by first | exact (ASK_ru hV hr).symm | (rw [ASK_ru hV hr]; exact pk_b hp hr.1 (fun z _ _ h9 => bt_0 _ (by rw [c18] at h9; exact h9)))), rfl⟩
set_option maxRecDepth 100000 in
set_option maxHeartbeats 4000000 in
theorem c_X6_whom_v54 (l : Launch) (G : GT) (A D : Nat → Nat) (T : Nat) (I : Nat → Int → Int) (F : Nat → Int) (Q : Nat → Nat → Option Nat) (P : va_W) (S : Int → Int) (c : Int) (b : Int) (rf : Int) (qb : Nat) (rung : Int) (day : Int) (ref : Int) (hR : RI S) (hL : LRn G.2.1 S I F Q P) (hc : 0 ≤ c ∧ c < S 1) (hcl : CLB P G.2.1 S c qb) (hV : VB (S 0) b) (hB : ∀ r : Int, 0 ≤ r → r < S 0 → (I 54) r = dg b r) (hr : 0 ≤ rung ∧ rung < S 0) (hd : 0 ≤ day ∧ day ≤ 5000) (hrf : rf = -1 ∨ (0 ≤ rf ∧ rf < 6)) (href : ref = if rf = -1 then 0 else 2 ^ rf.toNat) : CT l yX6_whom cX6_whom 7 (some .int) 3 0 0 G [.ref (A 1), .ref qb, .ref (A 54), .int (J rung), .int (J day), .int (J ref)] (CW A D T G.2.1 I F Q P) (fun vo wo => ∃ (b23 : Int → Int), vo = some (.int (J (ASK S c rf b (dg b rung) day))) ∧ wo = CW A D T G.2.1 (au I 23 b23) F Q P) := by
  refine CT_of (own := RX6) rfl rfl (Nat.le_of_ble_eq_true rfl) (fun K hl hnL hC hRT hin => ?_)
  subst hl
  show WW K G 0 0 (CW A D T G.2.1 I F Q P) 0 [(0, .ref (A 1)), (1, .ref qb), (2, .ref (A 54)), (3, .int (J rung)), (4, .int (J day)), (5, .int (J ref))] []
  have hn := hR.n
  have g1 := VB_dg hV hr.1 hr.2
  have g9 : 0 ≤ ref ∧ ref < 64 := by rw [href]; split; exact ⟨by decide, by decide⟩; exact ⟨by have := p2_6 (x := rf) (by omega) (by omega); omega, (p2_6 (x := rf) (by omega) (by omega)).2⟩
  have hp : PBT S c rf b rung day (andn (MSK S c (-1) b (dg b rung) day) ref) := by rw [href]; exact PBT_may hV hr hrf
  obtain ⟨q, hQ, i0, hq⟩ := l_ak hL g1.1 g1.2 hR
  have hpb := hp.1
  refine w_aload_n (pc := 0) hC dX6_whom_0 0 rfl rfl ?_
  refine w_aload_n (pc := 1) hC dX6_whom_1 1 rfl rfl ?_
  refine w_aload_n (pc := 2) hC dX6_whom_2 2 rfl rfl ?_
  refine w_iload_n (pc := 3) hC dX6_whom_3 3 rfl rfl ?_
  refine w_iload (pc := 4) hC dX6_whom_4 4 rfl ?_
  refine w_callV (pc := 6) (As := [.ref qb, .ref (A 54), .int (J rung), .int (J day)]) (rest := []) hC dX6_whom_6 cv_X6_94 (c_X6_mayBits_v54 (kl K) G A D T I F Q P S c b qb rung day (show RI S from by first | assumption | omega) (show LRn G.2.1 S I F Q P from by exact hL) (show 0 ≤ c ∧ c < S 1 from by first | assumption | omega) (show CLB P G.2.1 S c qb from by first | assumption | omega) (show VB (S 0) b from by first | assumption | omega) (show ∀ r : Int, 0 ≤ r → r < S 0 → (I 54) r = dg b r from by first | assumption | omega) (show 0 ≤ rung ∧ rung < S 0 from by first | assumption | omega) (show 0 ≤ day ∧ day ≤ 5000 from by first | assumption | omega)) (by decide) ⟨Nat.le_of_ble_eq_true rfl, Nat.le_of_ble_eq_true rfl⟩ (q0 := 1) CW_1 rfl rfl rfl (Nat.le_of_ble_eq_true rfl) rfl (fun vo wo hv => ?_)
  obtain ⟨b23_6, hv1, hw1⟩ := hv
  rw [hv1, hw1]
  show WW K G 0 0 (CW A D T G.2.1 (au I 23 b23_6) F Q P) 9 [(0, .ref (A 1)), (1, .ref qb), (2, .ref (A 54)), (3, .int (J rung)), (4, .int (J day)), (5, .int (J ref))] [.int (J (MSK S c (-1) b (dg b rung) day))]
  have q6_0 := @MSK_bd S c (-1) b (dg b rung) day (by assumption) (by first | exact VB_dg (by assumption) (by omega) (by omega) | omega)
  refine w_iload (pc := 9) hC dX6_whom_9 5 rfl ?_
  refine w_iconst (pc := 11) hC dX6_whom_11 ?_
  refine w_ixor (pc := 12) hC dX6_whom_12 (v := -1 - ref) (J_not _) ?_
  refine w_iand (pc := 13) hC dX6_whom_13 (v := andn (MSK S c (-1) b (dg b rung) day) ref) (J_andn (by omega) (by omega) (by omega) (by omega)) ?_
  refine w_istore (pc := 14) hC dX6_whom_14 (lv2 := [(6, .int (J (andn (MSK S c (-1) b (dg b rung) day) ref))), (0, .ref (A 1)), (1, .ref qb), (2, .ref (A 54)), (3, .int (J rung)), (4, .int (J day)), (5, .int (J ref))]) (by rw [hnL]; decide) rfl ?_
  refine w_iload (pc := 16) hC dX6_whom_16 0 rfl ?_
  refine w_if_ne (pc := 18) (tgt := 26) hC dX6_whom_18 (by decide) (by omega) (fun c18 => ?_) (fun c18 => ?_)
  · refine w_aload_n (pc := 26) hC dX6_whom_26 1 rfl rfl ?_
    refine w_getf (pc := 27) (v := .ref (A 10)) hC dX6_whom_27 fi_X6_29 1 CW_1 rfl ?_
    refine w_aload_n (pc := 30) hC dX6_whom_30 3 rfl rfl ?_
    refine w_iload_n (pc := 31) hC dX6_whom_31 4 rfl rfl ?_
    refine w_ialdV (pc := 32) (g := (I 54)) (v := dg b rung) hC dX6_whom_32 54 CW_54 (by omega) (Nat.le_of_ble_eq_true rfl) (hB _ (by omega) (by omega)) ?_
    refine w_aaldS (t0 := 4) (q := q) hC dX6_whom_33 10 CW_10 rfl rfl (by omega) (Nat.le_of_ble_eq_true rfl) (hQ) ?_
    refine w_aload_n (pc := 34) hC dX6_whom_34 1 rfl rfl ?_
    refine w_getf (pc := 35) (v := .ref (A 3)) hC dX6_whom_35 fi_X6_21 1 CW_1 rfl ?_
    refine w_aload_n (pc := 38) hC dX6_whom_38 2 rfl rfl ?_
    refine w_aload_n (pc := 39) hC dX6_whom_39 3 rfl rfl ?_
    refine w_iload_n (pc := 40) hC dX6_whom_40 4 rfl rfl ?_
    refine w_iload (pc := 41) hC dX6_whom_41 0 rfl ?_
    rcases k7 (hR.kd (166 + dg b rung) (by omega) (by omega)) with hk | hk | hk | hk | hk | hk | hk
    · have hq2 : P[i0]? = some (q, .inr (0, [.int (J (dg b rung)), .int (J (S (172 + dg b rung)))])) := by rw [hq, hk]; rfl
      refine w_callV (pc := 43) (As := [.ref (A 3), .ref qb, .ref (A 54), .int (J rung), .int (J (andn (MSK S c (-1) b (dg b rung) day) ref))]) (rest := []) hC dX6_whom_43 cv_X6_98 (c_X0_pick_v54 (kl K) G A D T (au I 23 b23_6) F Q P S c b rf day i0 q qb rung (andn (MSK S c (-1) b (dg b rung) day) ref) (show RI S from by first | assumption | omega) (show LRn G.2.1 S (au I 23 b23_6) F Q P from by exact (LRb_au (by decide) hL)) (show 0 ≤ c ∧ c < S 1 from by first | assumption | omega) (show CLB P G.2.1 S c qb from by first | assumption | omega) (show VB (S 0) b from by first | assumption | omega) (show ∀ r : Int, 0 ≤ r → r < S 0 → (I 54) r = dg b r from by first | assumption | omega) (show 0 ≤ rung ∧ rung < S 0 from by first | assumption | omega) (show P[i0]? = some (q, .inr (0, [.int (J (dg b rung)), .int (J (S (172 + dg b rung)))])) from by exact hq2) (show S (166 + dg b rung) = 0 from by exact hk) (show PBT S c rf b rung day (andn (MSK S c (-1) b (dg b rung) day) ref) from by exact hp)) (by decide) ⟨Nat.le_of_ble_eq_true rfl, Nat.le_of_ble_eq_true rfl⟩ (q0 := 60 + i0) (CW_P hq2) rfl rfl rfl (Nat.le_of_ble_eq_true rfl) rfl (fun vo wo hv => ?_)
      obtain ⟨hv1, hw1⟩ := hv
      rw [hv1, hw1]
      show WW K G 0 0 (CW A D T G.2.1 (au I 23 b23_6) F Q P) 46 [(6, .int (J (andn (MSK S c (-1) b (dg b rung) day) ref))), (0, .ref (A 1)), (1, .ref qb), (2, .ref (A 54)), (3, .int (J rung)), (4, .int (J day)), (5, .int (J ref))] [.int (J (PCK S c rf b rung day))]
      refine w_iret (pc := 46) hC hRT dX6_whom_46 rfl ?_
      refine ⟨b23_6, retI (by first | exact (ASK_ru hV hr).symm | (rw [ASK_ru hV hr]; exact pk_b hp hr.1 (fun z _ _ h9 => bt_0 _ (by rw [c18] at h9; exact h9)))), rfl⟩
    · have hq2 : P[i0]? = some (q, .inr (7, [.int (J (dg b rung)), .int (J (S (172 + dg b rung)))])) := by rw [hq, hk]; rfl
      refine w_callO (pc := 43) (As := [.ref (A 3), .ref qb, .ref (A 54), .int (J rung), .int (J (andn (MSK S c (-1) b (dg b rung) day) ref))]) (rest := []) hC dX6_whom_43 vo_X6_98_X7 (c_X7_pick_v54 (kl K) G A D T (au I 23 b23_6) F Q P S c b rf day i0 q qb rung (andn (MSK S c (-1) b (dg b rung) day) ref) (show RI S from by first | assumption | omega) (show LRn G.2.1 S (au I 23 b23_6) F Q P from by exact (LRb_au (by decide) hL)) (show 0 ≤ c ∧ c < S 1 from by first | assumption | omega) (show CLB P G.2.1 S c qb from by first | assumption | omega) (show VB (S 0) b from by first | assumption | omega) (show ∀ r : Int, 0 ≤ r → r < S 0 → (I 54) r = dg b r from by first | assumption | omega) (show 0 ≤ rung ∧ rung < S 0 from by first | assumption | omega) (show P[i0]? = some (q, .inr (7, [.int (J (dg b rung)), .int (J (S (172 + dg b rung)))])) from by exact hq2) (show S (166 + dg b rung) = 1 from by exact hk) (show PBT S c rf b rung day (andn (MSK S c (-1) b (dg b rung) day) ref) from by exact hp)) (by decide) ⟨Nat.le_of_ble_eq_true rfl, Nat.le_of_ble_eq_true rfl⟩ (q0 := 60 + i0) (CW_P hq2) rfl rfl rfl (Nat.le_of_ble_eq_true rfl) rfl (fun vo wo hv => ?_)
      obtain ⟨hv1, hw1⟩ := hv
      rw [hv1, hw1]
      show WW K G 0 0 (CW A D T G.2.1 (au I 23 b23_6) F Q P) 46 [(6, .int (J (andn (MSK S c (-1) b (dg b rung) day) ref))), (0, .ref (A 1)), (1, .ref qb), (2, .ref (A 54)), (3, .int (J rung)), (4, .int (J day)), (5, .int (J ref))] [.int (J (PCK S c rf b rung day))]
      refine w_iret (pc := 46) hC hRT dX6_whom_46 rfl ?_
      refine ⟨b23_6, retI (by first | exact (ASK_ru hV hr).symm | (rw [ASK_ru hV hr]; exact pk_b hp hr.1 (fun z _ _ h9 => bt_0 _ (by rw [c18] at h9; exact h9)))), rfl⟩
    · have hq2 : P[i0]? = some (q, .inr (5, [.int (J (dg b rung)), .int (J (S (172 + dg b rung)))])) := by rw [hq, hk]; rfl
      refine w_callO (pc := 43) (As := [.ref (A 3), .ref qb, .ref (A 54), .int (J rung), .int (J (andn (MSK S c (-1) b (dg b rung) day) ref))]) (rest := []) hC dX6_whom_43 vo_X6_98_X5 (c_X5_pick_v54 (kl K) G A D T (au I 23 b23_6) F Q P S c b rf day i0 q qb rung (andn (MSK S c (-1) b (dg b rung) day) ref) (show RI S from by first | assumption | omega) (show LRn G.2.1 S (au I 23 b23_6) F Q P from by exact (LRb_au (by decide) hL)) (show 0 ≤ c ∧ c < S 1 from by first | assumption | omega) (show CLB P G.2.1 S c qb from by first | assumption | omega) (show VB (S 0) b from by first | assumption | omega) (show ∀ r : Int, 0 ≤ r → r < S 0 → (I 54) r = dg b r from by first | assumption | omega) (show 0 ≤ rung ∧ rung < S 0 from by first | assumption | omega) (show P[i0]? = some (q, .inr (5, [.int (J (dg b rung)), .int (J (S (172 + dg b rung)))])) from by exact hq2) (show S (166 + dg b rung) = 2 from by exact hk) (show PBT S c rf b rung day (andn (MSK S c (-1) b (dg b rung) day) ref) from by exact hp)) (by decide) ⟨Nat.le_of_ble_eq_true rfl, Nat.le_of_ble_eq_true rfl⟩ (q0 := 60 + i0) (CW_P hq2) rfl rfl rfl (Nat.le_of_ble_eq_true rfl) rfl (fun vo wo hv => ?_)
      obtain ⟨hv1, hw1⟩ := hv
      rw [hv1, hw1]
      show WW K G 0 0 (CW A D T G.2.1 (au I 23 b23_6) F Q P) 46 [(6, .int (J (andn (MSK S c (-1) b (dg b rung) day) ref))), (0, .ref (A 1)), (1, .ref qb), (2, .ref (A 54)), (3, .int (J rung)), (4, .int (J day)), (5, .int (J ref))] [.int (J (PCK S c rf b rung day))]
      refine w_iret (pc := 46) hC hRT dX6_whom_46 rfl ?_
      refine ⟨b23_6, retI (by first | exact (ASK_ru hV hr).symm | (rw [ASK_ru hV hr]; exact pk_b hp hr.1 (fun z _ _ h9 => bt_0 _ (by rw [c18] at h9; exact h9)))), rfl⟩
    · have hq2 : P[i0]? = some (q, .inr (9, [.int (J (dg b rung)), .int (J (S (172 + dg b rung)))])) := by rw [hq, hk]; rfl
      refine w_callO (pc := 43) (As := [.ref (A 3), .ref qb, .ref (A 54), .int (J rung), .int (J (andn (MSK S c (-1) b (dg b rung) day) ref))]) (rest := []) hC dX6_whom_43 vo_X6_98_X9 (c_X9_pick_v54 (kl K) G A D T (au I 23 b23_6) F Q P S c b rf day i0 q qb rung (andn (MSK S c (-1) b (dg b rung) day) ref) (show RI S from by first | assumption | omega) (show LRn G.2.1 S (au I 23 b23_6) F Q P from by exact (LRb_au (by decide) hL)) (show 0 ≤ c ∧ c < S 1 from by first | assumption | omega) (show CLB P G.2.1 S c qb from by first | assumption | omega) (show VB (S 0) b from by first | assumption | omega) (show ∀ r : Int, 0 ≤ r → r < S 0 → (I 54) r = dg b r from by first | assumption | omega) (show 0 ≤ rung ∧ rung < S 0 from by first | assumption | omega) (show P[i0]? = some (q, .inr (9, [.int (J (dg b rung)), .int (J (S (172 + dg b rung)))])) from by exact hq2) (show S (166 + dg b rung) = 3 from by exact hk) (show PBT S c rf b rung day (andn (MSK S c (-1) b (dg b rung) day) ref) from by exact hp)) (by decide) ⟨Nat.le_of_ble_eq_true rfl, Nat.le_of_ble_eq_true rfl⟩ (q0 := 60 + i0) (CW_P hq2) rfl rfl rfl (Nat.le_of_ble_eq_true rfl) rfl (fun vo wo hv => ?_)
      obtain ⟨hv1, hw1⟩ := hv
      rw [hv1, hw1]
      show WW K G 0 0 (CW A D T G.2.1 (au I 23 b23_6) F Q P) 46 [(6, .int (J (andn (MSK S c (-1) b (dg b rung) day) ref))), (0, .ref (A 1)), (1, .ref qb), (2, .ref (A 54)), (3, .int (J rung)), (4, .int (J day)), (5, .int (J ref))] [.int (J (PCK S c rf b rung day))]
      refine w_iret (pc := 46) hC hRT dX6_whom_46 rfl ?_
      refine ⟨b23_6, retI (by first | exact (ASK_ru hV hr).symm | (rw [ASK_ru hV hr]; exact pk_b hp hr.1 (fun z _ _ h9 => bt_0 _ (by rw [c18] at h9; exact h9)))), rfl⟩
    · have hq2 : P[i0]? = some (q, .inr (1, [.int (J (dg b rung)), .int (J (S (172 + dg b rung)))])) := by rw [hq, hk]; rfl
      refine w_callO (pc := 43) (As := [.ref (A 3), .ref qb, .ref (A 54), .int (J rung), .int (J (andn (MSK S c (-1) b (dg b rung) day) ref))]) (rest := []) hC dX6_whom_43 vo_X6_98_X1 (c_X1_pick_v54 (kl K) G A D T (au I 23 b23_6) F Q P S c b rf day i0 q qb rung (andn (MSK S c (-1) b (dg b rung) day) ref) (show RI S from by first | assumption | omega) (show LRn G.2.1 S (au I 23 b23_6) F Q P from by exact (LRb_au (by decide) hL)) (show 0 ≤ c ∧ c < S 1 from by first | assumption | omega) (show CLB P G.2.1 S c qb from by first | assumption | omega) (show VB (S 0) b from by first | assumption | omega) (show ∀ r : Int, 0 ≤ r → r < S 0 → (I 54) r = dg b r from by first | assumption | omega) (show 0 ≤ rung ∧ rung < S 0 from by first | assumption | omega) (show P[i0]? = some (q, .inr (1, [.int (J (dg b rung)), .int (J (S (172 + dg b rung)))])) from by exact hq2) (show S (166 + dg b rung) = 4 from by exact hk) (show PBT S c rf b rung day (andn (MSK S c (-1) b (dg b rung) day) ref) from by exact hp)) (by decide) ⟨Nat.le_of_ble_eq_true rfl, Nat.le_of_ble_eq_true rfl⟩ (q0 := 60 + i0) (CW_P hq2) rfl rfl rfl (Nat.le_of_ble_eq_true rfl) rfl (fun vo wo hv => ?_)
      obtain ⟨hv1, hw1⟩ := hv
      rw [hv1, hw1]
      show WW K G 0 0 (CW A D T G.2.1 (au I 23 b23_6) F Q P) 46 [(6, .int (J (andn (MSK S c (-1) b (dg b rung) day) ref))), (0, .ref (A 1)), (1, .ref qb), (2, .ref (A 54)), (3, .int (J rung)), (4, .int (J day)), (5, .int (J ref))] [.int (J (PCK S c rf b rung day))]
      refine w_iret (pc := 46) hC hRT dX6_whom_46 rfl ?_
      refine ⟨b23_6, retI (by first | exact (ASK_ru hV hr).symm | (rw [ASK_ru hV hr]; exact pk_b hp hr.1 (fun z _ _ h9 => bt_0 _ (by rw [c18] at h9; exact h9)))), rfl⟩
    · have hq2 : P[i0]? = some (q, .inr (10, [.int (J (dg b rung)), .int (J (S (172 + dg b rung)))])) := by rw [hq, hk]; rfl
      refine w_callO (pc := 43) (As := [.ref (A 3), .ref qb, .ref (A 54), .int (J rung), .int (J (andn (MSK S c (-1) b (dg b rung) day) ref))]) (rest := []) hC dX6_whom_43 vo_X6_98_X10 (c_X10_pick_v54 (kl K) G A D T (au I 23 b23_6) F Q P S c b rf day i0 q qb rung (andn (MSK S c (-1) b (dg b rung) day) ref) (show RI S from by first | assumption | omega) (show LRn G.2.1 S (au I 23 b23_6) F Q P from by exact (LRb_au (by decide) hL)) (show 0 ≤ c ∧ c < S 1 from by first | assumption | omega) (show CLB P G.2.1 S c qb from by first | assumption | omega) (show VB (S 0) b from by first | assumption | omega) (show ∀ r : Int, 0 ≤ r → r < S 0 → (I 54) r = dg b r from by first | assumption | omega) (show 0 ≤ rung ∧ rung < S 0 from by first | assumption | omega) (show P[i0]? = some (q, .inr (10, [.int (J (dg b rung)), .int (J (S (172 + dg b rung)))])) from by exact hq2) (show S (166 + dg b rung) = 5 from by exact hk) (show PBT S c rf b rung day (andn (MSK S c (-1) b (dg b rung) day) ref) from by exact hp)) (by decide) ⟨Nat.le_of_ble_eq_true rfl, Nat.le_of_ble_eq_true rfl⟩ (q0 := 60 + i0) (CW_P hq2) rfl rfl rfl (Nat.le_of_ble_eq_true rfl) rfl (fun vo wo hv => ?_)
      obtain ⟨hv1, hw1⟩ := hv
      rw [hv1, hw1]
      show WW K G 0 0 (CW A D T G.2.1 (au I 23 b23_6) F Q P) 46 [(6, .int (J (andn (MSK S c (-1) b (dg b rung) day) ref))), (0, .ref (A 1)), (1, .ref qb), (2, .ref (A 54)), (3, .int (J rung)), (4, .int (J day)), (5, .int (J ref))] [.int (J (PCK S c rf b rung day))]
      refine w_iret (pc := 46) hC hRT dX6_whom_46 rfl ?_
      refine ⟨b23_6, retI (by first | exact (ASK_ru hV hr).symm | (rw [ASK_ru hV hr]; exact pk_b hp hr.1 (fun z _ _ h9 => bt_0 _ (by rw [c18] at h9; exact h9)))), rfl⟩
    · have hq2 : P[i0]? = some (q, .inr (8, [.int (J (dg b rung)), .int (J (S (172 + dg b rung)))])) := by rw [hq, hk]; rfl
      refine w_callO (pc := 43) (As := [.ref (A 3), .ref qb, .ref (A 54), .int (J rung), .int (J (andn (MSK S c (-1) b (dg b rung) day) ref))]) (rest := []) hC dX6_whom_43 vo_X6_98_X8 (c_X8_pick_v54 (kl K) G A D T (au I 23 b23_6) F Q P S c b rf day i0 q qb rung (andn (MSK S c (-1) b (dg b rung) day) ref) (show RI S from by first | assumption | omega) (show LRn G.2.1 S (au I 23 b23_6) F Q P from by exact (LRb_au (by decide) hL)) (show 0 ≤ c ∧ c < S 1 from by first | assumption | omega) (show CLB P G.2.1 S c qb from by first | assumption | omega) (show VB (S 0) b from by first | assumption | omega) (show ∀ r : Int, 0 ≤ r → r < S 0 → (I 54) r = dg b r from by first | assumption | omega) (show 0 ≤ rung ∧ rung < S 0 from by first | assumption | omega) (show P[i0]? = some (q, .inr (8, [.int (J (dg b rung)), .int (J (S (172 + dg b rung)))])) from by exact hq2) (show S (166 + dg b rung) = 6 from by exact hk) (show PBT S c rf b rung day (andn (MSK S c (-1) b (dg b rung) day) ref) from by exact hp)) (by decide) ⟨Nat.le_of_ble_eq_true rfl, Nat.le_of_ble_eq_true rfl⟩ (q0 := 60 + i0) (CW_P hq2) rfl rfl rfl (Nat.le_of_ble_eq_true rfl) rfl (fun vo wo hv => ?_)
      obtain ⟨hv1, hw1⟩ := hv
      rw [hv1, hw1]
      show WW K G 0 0 (CW A D T G.2.1 (au I 23 b23_6) F Q P) 46 [(6, .int (J (andn (MSK S c (-1) b (dg b rung) day) ref))), (0, .ref (A 1)), (1, .ref qb), (2, .ref (A 54)), (3, .int (J rung)), (4, .int (J day)), (5, .int (J ref))] [.int (J (PCK S c rf b rung day))]
      refine w_iret (pc := 46) hC hRT dX6_whom_46 rfl ?_
      refine ⟨b23_6, retI (by first | exact (ASK_ru hV hr).symm | (rw [ASK_ru hV hr]; exact pk_b hp hr.1 (fun z _ _ h9 => bt_0 _ (by rw [c18] at h9; exact h9)))), rfl⟩
  · refine w_bipush (pc := 21) hC dX6_whom_21 (z := (-5)) rfl ?_
    refine w_goto (pc := 23) hC dX6_whom_23 (tgt := 46) (by decide) ?_
    refine w_iret (pc := 46) hC hRT dX6_whom_46 rfl ?_
    refine ⟨b23_6, retI (by first | exact (ASK_ru hV hr).symm | (rw [ASK_ru hV hr]; exact pk_b hp hr.1 (fun z _ _ h9 => bt_0 _ (by rw [c18] at h9; exact h9)))), rfl⟩
