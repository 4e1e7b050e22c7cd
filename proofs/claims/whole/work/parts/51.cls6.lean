
theorem isum_sI (f B W : Int → Int) {k : Int} (h : 0 ≤ k) : isum f B W (k + 1).toNat = isum f B W k.toNat + f (B k) * W k := isum_s f B W h
theorem wch_bd {w x : Int} (hw : 0 ≤ w) (hx : 0 ≤ x ∧ x ≤ 100) : 0 ≤ w * x ∧ w * x ≤ w * 100 := ⟨Int.mul_nonneg hw hx.1, Int.mul_le_mul_of_nonneg_left hx.2 hw⟩
theorem pl_none {S : Int → Int} {c rf b day first w a wm : Int} (f : Int → Int) (ha : TRN S b day = a) (hwh : WHO S c rf b day first = wm) (e : wm = -5) : STEP S c rf day first f b * w = f b * (w * 100) := by
  have hc : CHW S a wm = 0 := if_pos e
  rw [STEP_v f ha hwh (by omega), hc, Int.mul_zero, Int.zero_add, Int.sub_zero, Int.mul_assoc, Int.mul_comm 100 w]
theorem pl_one {S : Int → Int} {c rf b day first w a wm : Int} (f : Int → Int) (ha : TRN S b day = a) (hwh : WHO S c rf b day first = wm) (e : ¬ wm = -5) (hc : 0 ≤ S (130 + 6 * a + wm) ∧ S (130 + 6 * a + wm) ≤ 100) : STEP S c rf day first f b * w = f b * (w * (100 - S (130 + 6 * a + wm))) + f (WON S c b a wm) * (w * S (130 + 6 * a + wm)) := by
  have h9 : CHW S a wm = S (130 + 6 * a + wm) := if_neg e
  rw [STEP_v f ha hwh (by rw [h9]; exact hc), h9, Int.add_mul, Int.add_comm, Int.mul_assoc, Int.mul_assoc, Int.mul_comm (100 - _) w, Int.mul_comm (S (130 + 6 * a + wm)) w]
theorem isum_1 {f g W : Int → Int} {n m b : Int} (h : ∀ f : Int → Int, isum f (DBf n g) W m.toNat = 0 + f b * 1) (hm : 0 ≤ m) : 1 ≤ m := by
  rcases (show m = 0 ∨ 1 ≤ m by omega) with e | e
  · have h2 := h one1
    have h1 : isum one1 (DBf n g) W (0 : Int).toNat = 0 := rfl
    rw [e, h1] at h2
    exact absurd h2 (by show ¬ (0 : Int) = 0 + 1 * 1; decide)
  · exact e
theorem tot_n {S : Int → Int} {c rf day first : Int} {g W g2 W2 : Int → Int} {m m2 tt : Int} (hR : RI S) (h0 : 0 < S 0) (hd : 0 ≤ day) (hD : DOK (S 0) g W m) (hf : ∀ k : Int, 0 ≤ k → k < m → FST S (DBf (S 0) g k) day first) (ht : isum one1 (DBf (S 0) g) W m.toNat = tt) (h : ∀ f : Int → Int, isum f (DBf (S 0) g2) W2 m2.toNat = isum (STEP S c rf day first f) (DBf (S 0) g) W m.toNat) : isum one1 (DBf (S 0) g2) W2 m2.toNat = tt * 100 := by
  have hm := hD.1.1
  rw [h, STEP_tot hR h0 hd (fun k k1 k2 => (hD.2 k k1 (by omega)).1) (fun k k1 k2 => hf k k1 (by omega)), ht]
theorem tot_k {S : Int → Int} {c rf day first : Int} {g W g2 W2 : Int → Int} {m m2 tt k : Int} (hR : RI S) (h0 : 0 < S 0) (hd : 0 ≤ day) (hD : DOK (S 0) g W m) (hf : ∀ k : Int, 0 ≤ k → k < m → FST S (DBf (S 0) g k) day first) (ht : isum one1 (DBf (S 0) g) W m.toNat = tt) (k0 : 0 ≤ k) (k1 : k < m) (h : ∀ f : Int → Int, isum f (DBf (S 0) g2) W2 m2.toNat = isum (STEP S c rf day first f) (DBf (S 0) g) W k.toNat) : isum one1 (DBf (S 0) g2) W2 m2.toNat + W k * 100 ≤ tt * 100 ∧ W k ≤ tt := by
  have e1 := h one1
  rw [STEP_tot hR h0 hd (fun z z1 z2 => (hD.2 z z1 (by omega)).1) (fun z z1 z2 => hf z z1 (by omega))] at e1
  have e2 := isum_le1 hD.1 (k := k + 1) (by omega) (by omega)
  rw [isum_sI one1 _ _ k0, ht, show one1 (DBf (S 0) g k) = 1 from rfl, Int.one_mul] at e2
  have e3 := hD.1.one k0 k1
  rw [ht] at e3
  omega

set_option maxRecDepth 100000 in
set_option maxHeartbeats 4000000 in
theorem c_X4_play (l : Launch) (G : GT) (A D : Nat → Nat) (T : Nat) (I : Nat → Int → Int) (F : Nat → Int) (Q : Nat → Nat → Option Nat) (P : va_W) (S : Int → Int) (c : Int) (b : Int) (rf : Int) (day : Int) (first : Int) (qb : Nat) (rung : Int) (wm : Int) (i : Int) (hR : RI S) (hL : LRn G.2.1 S I F Q P) (hc : 0 ≤ c ∧ c < S 1) (hcl : CLB P G.2.1 S c qb) (hV : VB (S 0) b) (hr : 0 ≤ rung ∧ rung < S 0) (hB : ∀ r : Int, 0 ≤ r → r < S 0 → (I 54) r = dg b r) (hi : 0 ≤ i ∧ i < (F 31) ∧ (F 31) ≤ 64) (hbx : (I 52) i = cv (S 0) b) (hwx : 0 < (I 53) i ∧ (I 53) i ≤ 10000000000) (ha : TRN S b day = dg b rung) (hwh : WHO S c rf b day first = wm) (hwm : wm = -5 ∨ ((0 ≤ wm ∧ wm < S 0) ∧ rk (S 0) b wm < rung)) (hD : DOK (S 0) (I 50) (I 51) (F 30)) (hm : (F 30) < 63) (ht : isum one1 (DBf (S 0) (I 50)) (I 51) ((F 30) : Int).toNat + (I 53) i * 100 ≤ 10000000000000) : CT l yX4_play cX4_play 7 none 2 0 0 G [.ref (A 49), .ref qb, .int (J rung), .int (J wm), .int (J i)] (CW A D T G.2.1 I F Q P) (fun vo wo => ∃ (b50 : Int → Int) (b51 : Int → Int) (b54 : Int → Int) (g30 : Int), vo = none ∧ wo = CW A D T G.2.1 (au (au (au I 50 b50) 51 b51) 54 b54) (fu F 30 g30) Q P ∧ (DOK (S 0) b50 b51 g30 ∧ (∀ f : Int → Int, isum f (DBf (S 0) b50) b51 (g30 : Int).toNat = isum f (DBf (S 0) (I 50)) (I 51) ((F 30) : Int).toNat + STEP S c rf day first f b * (I 53) i) ∧ (F 30) ≤ g30 ∧ g30 ≤ (F 30) + 2)) := by
  refine CT_of (own := RX4) rfl rfl (Nat.le_of_ble_eq_true rfl) (fun K hl hnL hC hRT hin => ?_)
  subst hl
  show WW K G 0 0 (CW A D T G.2.1 I F Q P) 0 [(0, .ref (A 49)), (1, .ref qb), (2, .int (J rung)), (3, .int (J wm)), (4, .int (J i))] []
  have hn := hR.n
  have hcl2 := hcl
  obtain ⟨i5, j5, qc, g, hq, hqc, hg⟩ := hcl2
  have g1 := VB_dg hV hr.1 hr.2
  have h64 := hD.1.1
  refine w_iload_n (pc := 0) hC dX4_play_0 3 rfl rfl ?_
  refine w_bipush (pc := 1) hC dX4_play_1 (z := (-5)) rfl ?_
  refine w_icmp_ne (pc := 3) (tgt := 29) hC dX4_play_3 (by decide) (by omega) (fun c3 => ?_) (fun c3 => ?_)
  · obtain ⟨hwA, hwB⟩ := hwm.resolve_left c3
    have hk := rk_spec hV hwA.1 hwA.2
    have g3 := hR.ch g1 hwA
    have p1 := wch_bd (w := (I 53) i) (by omega) (show 0 ≤ 100 - S (130 + 6 * dg b rung + wm) ∧ 100 - S (130 + 6 * dg b rung + wm) ≤ 100 by omega)
    have p2 := wch_bd (w := (I 53) i) (by omega) g3
    refine w_aload_n (pc := 29) hC dX4_play_29 0 rfl rfl ?_
    refine w_getf (pc := 30) (v := .ref (A 1)) hC dX4_play_30 fi_X4_39 49 CW_49 rfl ?_
    refine w_getfN (pc := 33) (v := .ref (A 3)) hC dX4_play_33 fn_X4_77 1 CW_1 rfl ?_
    refine w_aload_n (pc := 36) hC dX4_play_36 0 rfl rfl ?_
    refine w_getf (pc := 37) (v := .ref (A 54)) hC dX4_play_37 fi_X4_36 49 CW_49 rfl ?_
    refine w_iload_n (pc := 40) hC dX4_play_40 2 rfl rfl ?_
    refine w_ialdV (pc := 41) (g := (I 54)) (v := dg b rung) hC dX4_play_41 54 CW_54 (by omega) (Nat.le_of_ble_eq_true rfl) (hB _ (by omega) (by omega)) ?_
    refine w_aaldS (t0 := 6) (q := A (4 + (dg b rung).toNat)) hC dX4_play_42 3 CW_3 rfl rfl (by omega) (Nat.le_of_ble_eq_true rfl) (rw6_at (by omega)) ?_
    refine w_iload_n (pc := 43) hC dX4_play_43 3 rfl rfl ?_
    refine w_ialdV (pc := 44) (v := S (130 + 6 * (dg b rung) + wm)) hC dX4_play_44 (4 + (dg b rung).toNat) (CW_ch (by omega) (by omega)) (by omega) (Nat.le_of_ble_eq_true rfl) (l_ch hL hR (by omega) (by omega) (by omega) (by omega)) ?_
    refine w_istore (pc := 45) hC dX4_play_45 (lv2 := [(5, .int (J (S (130 + 6 * (dg b rung) + wm)))), (0, .ref (A 49)), (1, .ref qb), (2, .int (J rung)), (3, .int (J wm)), (4, .int (J i))]) (by rw [hnL]; decide) rfl ?_
    refine w_aload_n (pc := 47) hC dX4_play_47 1 rfl rfl ?_
    refine w_aload_n (pc := 48) hC dX4_play_48 1 rfl rfl ?_
    refine w_getf (pc := 49) (v := .ref (D 2)) hC dX4_play_49 fi_X4_23 49 CW_49 rfl ?_
    refine w_iload (pc := 52) hC dX4_play_52 5 rfl ?_
    refine w_ialdV (pc := 54) (g := (I 52)) (v := (I 52) i) hC dX4_play_54 52 CW_52 (by omega) (Nat.le_of_ble_eq_true rfl) rfl ?_
    refine w_aload_n (pc := 55) hC dX4_play_55 1 rfl rfl ?_
    refine w_getf (pc := 56) (v := .ref (D 3)) hC dX4_play_56 fi_X4_26 49 CW_49 rfl ?_
    refine w_iload (pc := 59) hC dX4_play_59 5 rfl ?_
    refine w_laldV (pc := 61) (g := (I 53)) (v := (I 53) i) hC dX4_play_61 53 CW_53 (by omega) (Nat.le_of_ble_eq_true rfl) rfl ?_
    refine w_bipush (pc := 62) hC dX4_play_62 (z := 100) rfl ?_
    refine w_iload (pc := 64) hC dX4_play_64 0 rfl ?_
    refine w_isub (pc := 66) hC dX4_play_66 ?_
    refine w_i2l (pc := 67) hC dX4_play_67 (by omega) ?_
    refine w_lmul (pc := 68) hC dX4_play_68 ?_
    refine w_callV (pc := 69) (As := [.int (J ((I 52) i)), .long (JL (((I 53) i) * (100 - (S (130 + 6 * (dg b rung) + wm)))))]) (rest := []) hC dX4_play_69 cv_X4_47 (c_X4_add (kl K) G A D T I F Q P (S 0) b ((I 52) i) (((I 53) i) * (100 - (S (130 + 6 * (dg b rung) + wm)))) (show 0 ≤ (S 0) ∧ (S 0) ≤ 6 from by first | assumption | omega) (show ((I 52) i) = cv (S 0) b from by first | assumption | omega) (show VB (S 0) b from by first | assumption | omega) (show 0 ≤ (((I 53) i) * (100 - (S (130 + 6 * (dg b rung) + wm)))) ∧ (((I 53) i) * (100 - (S (130 + 6 * (dg b rung) + wm)))) ≤ 10000000000000 from by first | assumption | omega) (show DOK (S 0) (I 50) (I 51) (F 30) from by first | assumption | omega) (show (F 30) < 64 from by first | assumption | omega) (show isum one1 (DBf (S 0) (I 50)) (I 51) ((F 30) : Int).toNat ≤ 10000000000000 from by first | assumption | omega)) (by decide) ⟨Nat.le_of_ble_eq_true rfl, Nat.le_of_ble_eq_true rfl⟩ (q0 := 49) CW_49 rfl rfl rfl (Nat.le_of_ble_eq_true rfl) rfl (fun vo wo hv => ?_)
    obtain ⟨b50_69, b51_69, g30_69, hv1, hw1, r69⟩ := hv
    rw [hv1, hw1]
    show WW K G 0 0 (CW A D T G.2.1 (au (au I 50 b50_69) 51 b51_69) (fu F 30 g30_69) Q P) 72 [(5, .int (J (S (130 + 6 * (dg b rung) + wm)))), (0, .ref (A 49)), (1, .ref qb), (2, .int (J rung)), (3, .int (J wm)), (4, .int (J i))] []
    have r69 : DOK (S 0) b50_69 b51_69 g30_69 ∧ (∀ f : Int → Int, isum f (DBf (S 0) b50_69) b51_69 (g30_69 : Int).toNat = isum f (DBf (S 0) (I 50)) (I 51) ((F 30) : Int).toNat + f b * (((I 53) i) * (100 - (S (130 + 6 * (dg b rung) + wm))))) ∧ (F 30) ≤ g30_69 ∧ g30_69 ≤ (F 30) + 1 := r69
    have t1 := r69.2.1 one1
    rw [show one1 b = 1 from rfl, Int.one_mul] at t1
    refine w_iconst (pc := 72) hC dX4_play_72 ?_
    refine w_istore (pc := 73) hC dX4_play_73 (lv2 := [(6, .int (J 0)), (5, .int (J (S (130 + 6 * (dg b rung) + wm)))), (0, .ref (A 49)), (1, .ref qb), (2, .int (J rung)), (3, .int (J wm)), (4, .int (J i))]) (by rw [hnL]; decide) rfl ?_
    have loop75 : ∀ (nF : Nat) (k : Int), (0 ≤ k) → (k ≤ rk (S 0) b wm) → (rung - k) < (nF : Int) → WW K G 0 0 (CW A D T G.2.1 (au (au I 50 b50_69) 51 b51_69) (fu F 30 g30_69) Q P) 75 [(0, .ref (A 49)), (1, .ref qb), (2, .int (J rung)), (3, .int (J wm)), (4, .int (J i)), (5, .int (J (S (130 + 6 * (dg b rung) + wm)))), (6, .int (J k))] [] := by
      intro nF
      induction nF with
      | zero => intro k i1 i2 hm75; exact absurd hm75 (by omega)
      | succ nF ih75 =>
        intro k i1 i2 hm75
        refine w_iload (pc := 75) hC dX4_play_75 6 rfl ?_
        refine w_iload_n (pc := 77) hC dX4_play_77 2 rfl rfl ?_
        refine w_icmp_ge (pc := 78) (tgt := 112) hC dX4_play_78 (by decide) (by omega) (fun c78 => ?_) (fun c78 => ?_)
        · exfalso; omega
        · refine w_aload_n (pc := 81) hC dX4_play_81 0 rfl rfl ?_
          refine w_getf (pc := 82) (v := .ref (A 54)) hC dX4_play_82 fi_X4_36 49 CW_49 rfl ?_
          refine w_iload (pc := 85) hC dX4_play_85 6 rfl ?_
          refine w_ialdV (pc := 87) (g := (I 54)) (v := dg b k) hC dX4_play_87 54 CW_54 (by omega) (Nat.le_of_ble_eq_true rfl) (hB _ (by omega) (by omega)) ?_
          refine w_iload_n (pc := 88) hC dX4_play_88 3 rfl rfl ?_
          refine w_icmp_ne (pc := 89) (tgt := 106) hC dX4_play_89 (by decide) (by have := dg7 b k; omega) (fun c89 => ?_) (fun c89 => ?_)
          · refine w_iinc (pc := 106) hC dX4_play_106 (lv2 := [(6, .int (J (k + 1))), (0, .ref (A 49)), (1, .ref qb), (2, .int (J rung)), (3, .int (J wm)), (4, .int (J i)), (5, .int (J (S (130 + 6 * (dg b rung) + wm))))]) 6 rfl (by rw [hnL]; decide) rfl ?_
            refine w_goto (pc := 109) hC dX4_play_109 (tgt := 75) (by decide) ?_
            refine w_sub [1, 2, 3, 4, 5, 6, 0] (lv2 := [(0, .ref (A 49)), (1, .ref qb), (2, .int (J rung)), (3, .int (J wm)), (4, .int (J i)), (5, .int (J (S (130 + 6 * (dg b rung) + wm)))), (6, .int (J (k + 1)))]) rfl ?_
            refine ih75 (k + 1) ?_ ?_ ?_
            · first | assumption | omega
            · have h9 : k ≠ rk (S 0) b wm := fun e => c89 (e ▸ hk.2)
              omega
            · omega
          · refine w_aload_n (pc := 92) hC dX4_play_92 1 rfl rfl ?_
            refine w_aload_n (pc := 93) hC dX4_play_93 0 rfl rfl ?_
            refine w_getf (pc := 94) (v := .ref (A 54)) hC dX4_play_94 fi_X4_36 49 CW_49 rfl ?_
            refine w_iload_n (pc := 97) hC dX4_play_97 2 rfl rfl ?_
            refine w_iload (pc := 98) hC dX4_play_98 6 rfl ?_
            refine w_callV (pc := 100) (As := [.ref (A 54), .int (J rung), .int (J k)]) (rest := []) hC dX4_play_100 cv_X4_81 (c_X2_climb_v54 (kl K) G A D T (au (au I 50 b50_69) 51 b51_69) (fu F 30 g30_69) Q P S c b qb rung k (show 0 ≤ c ∧ c < S 1 from by first | assumption | omega) (show CLB P G.2.1 S c qb from by first | assumption | omega) (show RI S from by first | assumption | omega) (show VB (S 0) b from by first | assumption | omega) (show ∀ r : Int, 0 ≤ r → r < S 0 → (I 54) r = dg b r from by first | assumption | omega) (show 0 ≤ k ∧ k < rung ∧ rung < S 0 from by first | assumption | omega)) (by decide) ⟨Nat.le_of_ble_eq_true rfl, Nat.le_of_ble_eq_true rfl⟩ (q0 := (60 + i5)) (CW_P hq) rfl rfl rfl (Nat.le_of_ble_eq_true rfl) rfl (fun vo wo hv => ?_)
            obtain ⟨b54_100, hv1, hw1, r100⟩ := hv
            rw [hv1, hw1]
            show WW K G 0 0 (CW A D T G.2.1 (au (au (au I 50 b50_69) 51 b51_69) 54 b54_100) (fu F 30 g30_69) Q P) 103 [(0, .ref (A 49)), (1, .ref qb), (2, .int (J rung)), (3, .int (J wm)), (4, .int (J i)), (5, .int (J (S (130 + 6 * (dg b rung) + wm)))), (6, .int (J k))] []
            have r100 : ∀ zq : Int, 0 ≤ zq → zq < S 0 → b54_100 zq = dg (WON S c b (dg b rung) (dg b k)) zq := r100
            refine w_goto (pc := 103) hC dX4_play_103 (tgt := 112) (by decide) ?_
            have hVW : VB (S 0) (WON S c b (dg b rung) (dg b k)) := VB_WON hV g1 (by rw [c89]; exact hwA) (by rw [c89, rk_ru hV hr]; exact hwB)
            have t2 : (I 53) i * (100 - S (130 + 6 * dg b rung + wm)) + (I 53) i * S (130 + 6 * dg b rung + wm) = (I 53) i * 100 := by rw [← Int.mul_add]; congr 1; omega
            refine w_aload_n (pc := 112) hC dX4_play_112 0 rfl rfl ?_
            refine w_aload_n (pc := 113) hC dX4_play_113 0 rfl rfl ?_
            refine w_aload_n (pc := 114) hC dX4_play_114 0 rfl rfl ?_
            refine w_getf (pc := 115) (v := .ref (A 54)) hC dX4_play_115 fi_X4_36 49 CW_49 rfl ?_
            refine w_callV (pc := 118) (As := [.ref (A 54)]) (rest := [.ref (A 49)]) hC dX4_play_118 cv_X4_43 (c_X4_numberOf_v54 (kl K) G A D T (au (au (au I 50 b50_69) 51 b51_69) 54 b54_100) (fu F 30 g30_69) Q P S (WON S c b (dg b rung) (dg b k)) (show RI S from by first | assumption | omega) (show LRn G.2.1 S (au (au (au I 50 b50_69) 51 b51_69) 54 b54_100) (fu F 30 g30_69) Q P from by exact (LRb_fu (by decide) (LRb_au (by decide) (LRb_au (by decide) (LRb_au (by decide) hL))))) (show ∀ r : Int, 0 ≤ r → r < S 0 → b54_100 r = dg (WON S c b (dg b rung) (dg b k)) r from by exact r100)) (by decide) ⟨Nat.le_of_ble_eq_true rfl, Nat.le_of_ble_eq_true rfl⟩ (q0 := 49) CW_49 rfl rfl rfl (Nat.le_of_ble_eq_true rfl) rfl (fun vo wo hv => ?_)
            obtain ⟨hv1, hw1⟩ := hv
            rw [hv1, hw1]
            show WW K G 0 0 (CW A D T G.2.1 (au (au (au I 50 b50_69) 51 b51_69) 54 b54_100) (fu F 30 g30_69) Q P) 121 [(0, .ref (A 49)), (1, .ref qb), (2, .int (J rung)), (3, .int (J wm)), (4, .int (J i)), (5, .int (J (S (130 + 6 * (dg b rung) + wm)))), (6, .int (J k))] [.int (J (cv (S 0) (WON S c b (dg b rung) (dg b k)))), .ref (A 49)]
            have q118_0 := @cv_bd (S 0) (by omega) (WON S c b (dg b rung) (dg b k))
            refine w_aload_n (pc := 121) hC dX4_play_121 0 rfl rfl ?_
            refine w_getf (pc := 122) (v := .ref (D 3)) hC dX4_play_122 fi_X4_26 49 CW_49 rfl ?_
            refine w_iload (pc := 125) hC dX4_play_125 4 rfl ?_
            refine w_laldV (pc := 127) (g := (I 53)) (v := (I 53) i) hC dX4_play_127 53 CW_53 (by omega) (Nat.le_of_ble_eq_true rfl) rfl ?_
            refine w_iload (pc := 128) hC dX4_play_128 5 rfl ?_
            refine w_i2l (pc := 130) hC dX4_play_130 (by omega) ?_
            refine w_lmul (pc := 131) hC dX4_play_131 ?_
            refine w_callV (pc := 132) (As := [.int (J (cv (S 0) (WON S c b (dg b rung) (dg b k)))), .long (JL (((I 53) i) * (S (130 + 6 * (dg b rung) + wm))))]) (rest := []) hC dX4_play_132 cv_X4_47 (c_X4_add (kl K) G A D T (au (au (au I 50 b50_69) 51 b51_69) 54 b54_100) (fu F 30 g30_69) Q P (S 0) (WON S c b (dg b rung) (dg b k)) (cv (S 0) (WON S c b (dg b rung) (dg b k))) (((I 53) i) * (S (130 + 6 * (dg b rung) + wm))) (show 0 ≤ (S 0) ∧ (S 0) ≤ 6 from by first | assumption | omega) (show (cv (S 0) (WON S c b (dg b rung) (dg b k))) = cv (S 0) (WON S c b (dg b rung) (dg b k)) from by rfl) (show VB (S 0) (WON S c b (dg b rung) (dg b k)) from by exact hVW) (show 0 ≤ (((I 53) i) * (S (130 + 6 * (dg b rung) + wm))) ∧ (((I 53) i) * (S (130 + 6 * (dg b rung) + wm))) ≤ 10000000000000 from by omega) (show DOK (S 0) b50_69 b51_69 g30_69 from by exact r69.1) (show g30_69 < 64 from by first | assumption | omega) (show isum one1 (DBf (S 0) b50_69) b51_69 (g30_69 : Int).toNat ≤ 10000000000000 from by omega)) (by decide) ⟨Nat.le_of_ble_eq_true rfl, Nat.le_of_ble_eq_true rfl⟩ (q0 := 49) CW_49 rfl rfl rfl (Nat.le_of_ble_eq_true rfl) rfl (fun vo wo hv => ?_)
            obtain ⟨b50_132, b51_132, g30_132, hv1, hw1, r132⟩ := hv
            rw [hv1, hw1]
            refine w_weq (CW_cong (au_th (au_th rfl (au_cm (by decide) (au_cm (by decide) au_rp))) (au_cm (by decide) au_rp)) (fu_th rfl fu_rp) rfl) ?_
            show WW K G 0 0 (CW A D T G.2.1 (au (au (au I 50 b50_132) 51 b51_132) 54 b54_100) (fu F 30 g30_132) Q P) 135 [(0, .ref (A 49)), (1, .ref qb), (2, .int (J rung)), (3, .int (J wm)), (4, .int (J i)), (5, .int (J (S (130 + 6 * (dg b rung) + wm)))), (6, .int (J k))] []
            have r132 : DOK (S 0) b50_132 b51_132 g30_132 ∧ (∀ f : Int → Int, isum f (DBf (S 0) b50_132) b51_132 (g30_132 : Int).toNat = isum f (DBf (S 0) b50_69) b51_69 (g30_69 : Int).toNat + f (WON S c b (dg b rung) (dg b k)) * (((I 53) i) * (S (130 + 6 * (dg b rung) + wm)))) ∧ g30_69 ≤ g30_132 ∧ g30_132 ≤ g30_69 + 1 := r132
            refine w_vret (pc := 135) hC hRT dX4_play_135 ?_
            refine ⟨b50_132, b51_132, b54_100, g30_132, rfl, rfl, ?_⟩
            · rw [c89] at r132
              refine ⟨r132.1, fun f => ?_, by omega, by omega⟩
              rw [r132.2.1 f, r69.2.1 f, pl_one f ha hwh c3 g3]
              omega
    refine w_sub [2, 3, 4, 5, 6, 1, 0] (lv2 := [(0, .ref (A 49)), (1, .ref qb), (2, .int (J rung)), (3, .int (J wm)), (4, .int (J i)), (5, .int (J (S (130 + 6 * (dg b rung) + wm)))), (6, .int (J 0))]) rfl ?_
    refine loop75 ((rung - 0) + 1 : Int).toNat 0 ?_ ?_ ?_
    · first | assumption | omega
    · omega
    · omega
  · refine w_aload_n (pc := 6) hC dX4_play_6 0 rfl rfl ?_
    refine w_aload_n (pc := 7) hC dX4_play_7 0 rfl rfl ?_
    refine w_getf (pc := 8) (v := .ref (D 2)) hC dX4_play_8 fi_X4_23 49 CW_49 rfl ?_
    refine w_iload (pc := 11) hC dX4_play_11 4 rfl ?_
    refine w_ialdV (pc := 13) (g := (I 52)) (v := (I 52) i) hC dX4_play_13 52 CW_52 (by omega) (Nat.le_of_ble_eq_true rfl) rfl ?_
    refine w_aload_n (pc := 14) hC dX4_play_14 0 rfl rfl ?_
    refine w_getf (pc := 15) (v := .ref (D 3)) hC dX4_play_15 fi_X4_26 49 CW_49 rfl ?_
    refine w_iload (pc := 18) hC dX4_play_18 4 rfl ?_
    refine w_laldV (pc := 20) (g := (I 53)) (v := (I 53) i) hC dX4_play_20 53 CW_53 (by omega) (Nat.le_of_ble_eq_true rfl) rfl ?_
    refine w_ldc2 (pc := 21) hC dX4_play_21 (z := 100) tw_3_212 (by decide) ?_
    refine w_lmul (pc := 24) hC dX4_play_24 ?_
    refine w_callV (pc := 25) (As := [.int (J ((I 52) i)), .long (JL (((I 53) i) * 100))]) (rest := []) hC dX4_play_25 cv_X4_47 (c_X4_add (kl K) G A D T I F Q P (S 0) b ((I 52) i) (((I 53) i) * 100) (show 0 ≤ (S 0) ∧ (S 0) ≤ 6 from by first | assumption | omega) (show ((I 52) i) = cv (S 0) b from by first | assumption | omega) (show VB (S 0) b from by first | assumption | omega) (show 0 ≤ (((I 53) i) * 100) ∧ (((I 53) i) * 100) ≤ 10000000000000 from by first | assumption | omega) (show DOK (S 0) (I 50) (I 51) (F 30) from by first | assumption | omega) (show (F 30) < 64 from by first | assumption | omega) (show isum one1 (DBf (S 0) (I 50)) (I 51) ((F 30) : Int).toNat ≤ 10000000000000 from by first | assumption | omega)) (by decide) ⟨Nat.le_of_ble_eq_true rfl, Nat.le_of_ble_eq_true rfl⟩ (q0 := 49) CW_49 rfl rfl rfl (Nat.le_of_ble_eq_true rfl) rfl (fun vo wo hv => ?_)
    obtain ⟨b50_25, b51_25, g30_25, hv1, hw1, r25⟩ := hv
    rw [hv1, hw1]
    show WW K G 0 0 (CW A D T G.2.1 (au (au I 50 b50_25) 51 b51_25) (fu F 30 g30_25) Q P) 28 [(0, .ref (A 49)), (1, .ref qb), (2, .int (J rung)), (3, .int (J wm)), (4, .int (J i))] []
    have r25 : DOK (S 0) b50_25 b51_25 g30_25 ∧ (∀ f : Int → Int, isum f (DBf (S 0) b50_25) b51_25 (g30_25 : Int).toNat = isum f (DBf (S 0) (I 50)) (I 51) ((F 30) : Int).toNat + f b * (((I 53) i) * 100)) ∧ (F 30) ≤ g30_25 ∧ g30_25 ≤ (F 30) + 1 := r25
    refine w_vret (pc := 28) hC hRT dX4_play_28 ?_
    refine ⟨b50_25, b51_25, (I 54), g30_25, rfl, CW_cong (au_ms (k := 54) (v := I 54) rfl rfl rfl) rfl rfl, ?_⟩
    · exact ⟨r25.1, fun f => by rw [r25.2.1 f, pl_none f ha hwh c3], by omega, by omega⟩
set_option maxRecDepth 100000 in
set_option maxHeartbeats 4000000 in
theorem c_X4_goOn (l : Launch) (G : GT) (A D : Nat → Nat) (T : Nat) (I : Nat → Int → Int) (F : Nat → Int) (Q : Nat → Nat → Option Nat) (P : va_W) (S : Int → Int) (c : Int) (rf : Int) (qb : Nat) (day : Int) (ref : Int) (hR : RI S) (hL : LRn G.2.1 S I F Q P) (hc : 0 ≤ c ∧ c < S 1) (hcl : CLB P G.2.1 S c qb) (h0 : 0 < S 0) (hday : 0 ≤ day ∧ day ≤ 5000) (hrf : rf = -1 ∨ (0 ≤ rf ∧ rf < 6)) (href : ref = if rf = -1 then 0 else 2 ^ rf.toNat) (hD : DOK (S 0) (I 50) (I 51) (F 30)) (ht : isum one1 (DBf (S 0) (I 50)) (I 51) ((F 30) : Int).toNat = (F 32)) (hw : 1 ≤ (F 32) ∧ (F 32) ≤ 10000000000) (h32 : (F 30) ≤ 32) : CT l yX4_goOn cX4_goOn 6 none 4 0 0 G [.ref (A 49), .ref qb, .int (J day), .int (J ref)] (CW A D T G.2.1 I F Q P) (fun vo wo => ∃ (D : Nat → Nat) (b23 : Int → Int) (b50 : Int → Int) (b51 : Int → Int) (b54 : Int → Int) (g30 : Int), vo = none ∧ wo = CW A D T G.2.1 (au (au (au (au (au (au I 23 b23) 50 b50) 51 b51) 52 (I 50)) 53 (I 51)) 54 b54) (fu (fu (fu F 30 g30) 31 (F 30)) 32 ((F 32) * 100)) Q P ∧ (DOK (S 0) b50 b51 g30 ∧ (∀ f : Int → Int, isum f (DBf (S 0) b50) b51 (g30 : Int).toNat = isum (STEP S c rf day (-7) f) (DBf (S 0) (I 50)) (I 51) ((F 30) : Int).toNat) ∧ g30 ≤ 2 * (F 30) ∧ isum one1 (DBf (S 0) b50) b51 (g30 : Int).toNat = (F 32) * 100)) := by
  refine CT_of (own := RX4) rfl rfl (Nat.le_of_ble_eq_true rfl) (fun K hl hnL hC hRT hin => ?_)
  subst hl
  show WW K G 0 0 (CW A D T G.2.1 I F Q P) 0 [(0, .ref (A 49)), (1, .ref qb), (2, .int (J day)), (3, .int (J ref))] []
  have hn := hR.n
  have hmd := Int.emod_nonneg day (show S 0 ≠ 0 by omega)
  have hml := Int.emod_lt_of_pos day h0
  have h64 := hD.1.1
  have hrg : 0 ≤ S 0 - 1 - day % S 0 ∧ S 0 - 1 - day % S 0 < S 0 := by omega
  refine w_aload_n (pc := 0) hC dX4_goOn_0 0 rfl rfl ?_
  refine w_callV (pc := 1) (As := []) (rest := []) hC dX4_goOn_1 cv_X4_51 (c_X4_beginDay (kl K) G A D T I F Q P) (by decide) ⟨Nat.le_of_ble_eq_true rfl, Nat.le_of_ble_eq_true rfl⟩ (q0 := 49) CW_49 rfl rfl rfl (Nat.le_of_ble_eq_true rfl) rfl (fun vo wo hv => ?_)
  obtain ⟨D_1, hv1, hw1⟩ := hv
  rw [hv1, hw1]
  show WW K G 0 0 (CW A D_1 T G.2.1 (au (au (au (au I 50 (I 52)) 51 (I 53)) 52 (I 50)) 53 (I 51)) (fu (fu (fu F 30 0) 31 (F 30)) 32 ((F 32) * 100)) Q P) 4 [(0, .ref (A 49)), (1, .ref qb), (2, .int (J day)), (3, .int (J ref))] []
  refine w_aload_n (pc := 4) hC dX4_goOn_4 0 rfl rfl ?_
  refine w_getf (pc := 5) (v := .ref (A 1)) hC dX4_goOn_5 fi_X4_39 49 CW_49 rfl ?_
  refine w_getfN (pc := 8) (v := .int (J (S 0))) hC dX4_goOn_8 fn_X4_54 1 CW_1 (congrArg (fun z : Int => some (Value.int (J z))) (l_n hL)) ?_
  refine w_if_ne (pc := 11) (tgt := 15) hC dX4_goOn_11 (by decide) (by omega) (fun c11 => ?_) (fun c11 => ?_)
  · refine w_aload_n (pc := 15) hC dX4_goOn_15 0 rfl rfl ?_
    refine w_getf (pc := 16) (v := .ref (A 1)) hC dX4_goOn_16 fi_X4_39 49 CW_49 rfl ?_
    refine w_iload_n (pc := 19) hC dX4_goOn_19 2 rfl rfl ?_
    refine w_callV (pc := 20) (As := [.int (J day)]) (rest := []) hC dX4_goOn_20 cv_X4_59 (c_X6_turn (kl K) G A D_1 T (au (au (au (au I 50 (I 52)) 51 (I 53)) 52 (I 50)) 53 (I 51)) (fu (fu (fu F 30 0) 31 (F 30)) 32 ((F 32) * 100)) Q P S day (show RI S from by first | assumption | omega) (show LRn G.2.1 S (au (au (au (au I 50 (I 52)) 51 (I 53)) 52 (I 50)) 53 (I 51)) (fu (fu (fu F 30 0) 31 (F 30)) 32 ((F 32) * 100)) Q P from by exact (LRb_fu (by decide) (LRb_fu (by decide) (LRb_fu (by decide) (LRb_au (by decide) (LRb_au (by decide) (LRb_au (by decide) (LRb_au (by decide) hL)))))))) (show 0 ≤ day ∧ day < 2147483648 from by first | assumption | omega)) (by decide) ⟨Nat.le_of_ble_eq_true rfl, Nat.le_of_ble_eq_true rfl⟩ (q0 := 1) CW_1 rfl rfl rfl (Nat.le_of_ble_eq_true rfl) rfl (fun vo wo hv => ?_)
    obtain ⟨hv1, hw1⟩ := hv
    rw [hv1, hw1]
    show WW K G 0 0 (CW A D_1 T G.2.1 (au (au (au (au I 50 (I 52)) 51 (I 53)) 52 (I 50)) 53 (I 51)) (fu (fu (fu F 30 0) 31 (F 30)) 32 ((F 32) * 100)) Q P) 23 [(0, .ref (A 49)), (1, .ref qb), (2, .int (J day)), (3, .int (J ref))] [.int (J (if S 0 = 0 then 0 else S 0 - 1 - day % S 0))]
    refine w_top (e2 := S 0 - 1 - day % S 0) (by rw [if_neg (by omega)]) ?_
    refine w_istore (pc := 23) hC dX4_goOn_23 (lv2 := [(4, .int (J (S 0 - 1 - day % S 0))), (0, .ref (A 49)), (1, .ref qb), (2, .int (J day)), (3, .int (J ref))]) (by rw [hnL]; decide) rfl ?_
    refine w_iconst (pc := 25) hC dX4_goOn_25 ?_
    refine w_istore (pc := 26) hC dX4_goOn_26 (lv2 := [(5, .int (J 0)), (4, .int (J (S 0 - 1 - day % S 0))), (0, .ref (A 49)), (1, .ref qb), (2, .int (J day)), (3, .int (J ref))]) (by rw [hnL]; decide) rfl ?_
    have loop28 : ∀ (nF : Nat) (k : Int) (a23_28 : Int → Int) (a50_28 : Int → Int) (a51_28 : Int → Int) (a54_28 : Int → Int) (f30_28 : Int), (0 ≤ k) → (k ≤ (F 30)) → (DOK (S 0) a50_28 a51_28 f30_28) → (∀ f : Int → Int, isum f (DBf (S 0) a50_28) a51_28 (f30_28 : Int).toNat = isum (STEP S c rf day (-7) f) (DBf (S 0) (I 50)) (I 51) k.toNat) → (f30_28 ≤ 2 * k) → ((F 30) - k) < (nF : Int) → WW K G 0 0 (CW A D_1 T G.2.1 (au (au (au (au (au (au I 23 a23_28) 50 a50_28) 51 a51_28) 52 (I 50)) 53 (I 51)) 54 a54_28) (fu (fu (fu F 30 f30_28) 31 (F 30)) 32 ((F 32) * 100)) Q P) 28 [(0, .ref (A 49)), (1, .ref qb), (2, .int (J day)), (3, .int (J ref)), (4, .int (J (S 0 - 1 - day % S 0))), (5, .int (J k))] [] := by
      intro nF
      induction nF with
      | zero => intro k a23_28 a50_28 a51_28 a54_28 f30_28 i1 i2 j1 j2 j3 hm28; exact absurd hm28 (by omega)
      | succ nF ih28 =>
        intro k a23_28 a50_28 a51_28 a54_28 f30_28 i1 i2 j1 j2 j3 hm28
        refine w_iload (pc := 28) hC dX4_goOn_28 5 rfl ?_
        refine w_aload_n (pc := 30) hC dX4_goOn_30 0 rfl rfl ?_
        refine w_getf (pc := 31) (v := .int (J (F 30))) hC dX4_goOn_31 fi_X4_29 49 CW_49 rfl ?_
        refine w_icmp_ge (pc := 34) (tgt := 79) hC dX4_goOn_34 (by decide) (by omega) (fun c34 => ?_) (fun c34 => ?_)
        · refine w_vret (pc := 79) hC hRT dX4_goOn_79 ?_
          refine ⟨D_1, a23_28, a50_28, a51_28, a54_28, f30_28, rfl, rfl, ?_⟩
          · rw [show k = (F 30) by omega] at j2
            exact ⟨j1, j2, by omega, tot_n hR h0 hday.1 hD (fun z z0 z1 => Or.inl rfl) ht j2⟩
        · have hk := DOK_bd hn hD i1 (by omega)
          obtain ⟨hvA, hvB⟩ := hD.2 k i1 (by omega)
          have tk := tot_k hR h0 hday.1 hD (fun z z0 z1 => Or.inl rfl) ht i1 (by omega) j2
          refine w_aload_n (pc := 37) hC dX4_goOn_37 0 rfl rfl ?_
          refine w_aload_n (pc := 38) hC dX4_goOn_38 0 rfl rfl ?_
          refine w_getf (pc := 39) (v := .ref (D_1 2)) hC dX4_goOn_39 fi_X4_23 49 CW_49 rfl ?_
          refine w_iload (pc := 42) hC dX4_goOn_42 5 rfl ?_
          refine w_ialdV (pc := 44) (g := (I 50)) (v := (I 50) k) hC dX4_goOn_44 52 CW_52 (by omega) (Nat.le_of_ble_eq_true rfl) rfl ?_
          refine w_callV (pc := 45) (As := [.int (J ((I 50) k))]) (rest := []) hC dX4_goOn_45 cv_X4_63 (c_X4_lay (kl K) G A D_1 T (au (au (au (au (au (au I 23 a23_28) 50 a50_28) 51 a51_28) 52 (I 50)) 53 (I 51)) 54 a54_28) (fu (fu (fu F 30 f30_28) 31 (F 30)) 32 ((F 32) * 100)) Q P S (DBf (S 0) (I 50) k) ((I 50) k) (show RI S from by first | assumption | omega) (show LRn G.2.1 S (au (au (au (au (au (au I 23 a23_28) 50 a50_28) 51 a51_28) 52 (I 50)) 53 (I 51)) 54 a54_28) (fu (fu (fu F 30 f30_28) 31 (F 30)) 32 ((F 32) * 100)) Q P from by exact (LRb_fu (by decide) (LRb_fu (by decide) (LRb_fu (by decide) (LRb_au (by decide) (LRb_au (by decide) (LRb_au (by decide) (LRb_au (by decide) (LRb_au (by decide) (LRb_au (by decide) hL)))))))))) (show ((I 50) k) = cv (S 0) (DBf (S 0) (I 50) k) from by exact hvB)) (by decide) ⟨Nat.le_of_ble_eq_true rfl, Nat.le_of_ble_eq_true rfl⟩ (q0 := 49) CW_49 rfl rfl rfl (Nat.le_of_ble_eq_true rfl) rfl (fun vo wo hv => ?_)
          obtain ⟨b54_45, hv1, hw1, r45⟩ := hv
          rw [hv1, hw1]
          refine w_weq (CW_cong (au_th rfl au_rp) rfl rfl) ?_
          show WW K G 0 0 (CW A D_1 T G.2.1 (au (au (au (au (au (au I 23 a23_28) 50 a50_28) 51 a51_28) 52 (I 50)) 53 (I 51)) 54 b54_45) (fu (fu (fu F 30 f30_28) 31 (F 30)) 32 ((F 32) * 100)) Q P) 48 [(0, .ref (A 49)), (1, .ref qb), (2, .int (J day)), (3, .int (J ref)), (4, .int (J (S 0 - 1 - day % S 0))), (5, .int (J k))] []
          have r45 : ∀ zq : Int, 0 ≤ zq → zq < S 0 → b54_45 zq = dg (DBf (S 0) (I 50) k) zq := r45
          refine w_aload_n (pc := 48) hC dX4_goOn_48 0 rfl rfl ?_
          refine w_aload_n (pc := 49) hC dX4_goOn_49 1 rfl rfl ?_
          refine w_iload (pc := 50) hC dX4_goOn_50 4 rfl ?_
          refine w_aload_n (pc := 52) hC dX4_goOn_52 0 rfl rfl ?_
          refine w_getf (pc := 53) (v := .ref (A 1)) hC dX4_goOn_53 fi_X4_39 49 CW_49 rfl ?_
          refine w_aload_n (pc := 56) hC dX4_goOn_56 1 rfl rfl ?_
          refine w_aload_n (pc := 57) hC dX4_goOn_57 0 rfl rfl ?_
          refine w_getf (pc := 58) (v := .ref (A 54)) hC dX4_goOn_58 fi_X4_36 49 CW_49 rfl ?_
          refine w_iload (pc := 61) hC dX4_goOn_61 4 rfl ?_
          refine w_iload_n (pc := 63) hC dX4_goOn_63 2 rfl rfl ?_
          refine w_iload_n (pc := 64) hC dX4_goOn_64 3 rfl rfl ?_
          refine w_callV (pc := 65) (As := [.ref qb, .ref (A 54), .int (J (S 0 - 1 - day % S 0)), .int (J day), .int (J ref)]) (rest := [.int (J (S 0 - 1 - day % S 0)), .ref qb, .ref (A 49)]) hC dX4_goOn_65 cv_X4_67 (c_X6_whom_v54 (kl K) G A D_1 T (au (au (au (au (au (au I 23 a23_28) 50 a50_28) 51 a51_28) 52 (I 50)) 53 (I 51)) 54 b54_45) (fu (fu (fu F 30 f30_28) 31 (F 30)) 32 ((F 32) * 100)) Q P S c (DBf (S 0) (I 50) k) rf qb (S 0 - 1 - day % S 0) day ref (show RI S from by first | assumption | omega) (show LRn G.2.1 S (au (au (au (au (au (au I 23 a23_28) 50 a50_28) 51 a51_28) 52 (I 50)) 53 (I 51)) 54 b54_45) (fu (fu (fu F 30 f30_28) 31 (F 30)) 32 ((F 32) * 100)) Q P from by exact (LRb_fu (by decide) (LRb_fu (by decide) (LRb_fu (by decide) (LRb_au (by decide) (LRb_au (by decide) (LRb_au (by decide) (LRb_au (by decide) (LRb_au (by decide) (LRb_au (by decide) hL)))))))))) (show 0 ≤ c ∧ c < S 1 from by first | assumption | omega) (show CLB P G.2.1 S c qb from by first | assumption | omega) (show VB (S 0) (DBf (S 0) (I 50) k) from by first | assumption | omega) (show ∀ r : Int, 0 ≤ r → r < S 0 → b54_45 r = dg (DBf (S 0) (I 50) k) r from by exact r45) (show 0 ≤ (S 0 - 1 - day % S 0) ∧ (S 0 - 1 - day % S 0) < S 0 from by first | assumption | omega) (show 0 ≤ day ∧ day ≤ 5000 from by first | assumption | omega) (show rf = -1 ∨ (0 ≤ rf ∧ rf < 6) from by first | assumption | omega) (show ref = if rf = -1 then 0 else 2 ^ rf.toNat from by first | assumption | omega)) (by decide) ⟨Nat.le_of_ble_eq_true rfl, Nat.le_of_ble_eq_true rfl⟩ (q0 := 1) CW_1 rfl rfl rfl (Nat.le_of_ble_eq_true rfl) rfl (fun vo wo hv => ?_)
          obtain ⟨b23_65, hv1, hw1⟩ := hv
          rw [hv1, hw1]
          refine w_weq (CW_cong (au_th rfl (au_cm (by decide) (au_cm (by decide) (au_cm (by decide) (au_cm (by decide) (au_cm (by decide) au_rp)))))) rfl rfl) ?_
          show WW K G 0 0 (CW A D_1 T G.2.1 (au (au (au (au (au (au I 23 b23_65) 50 a50_28) 51 a51_28) 52 (I 50)) 53 (I 51)) 54 b54_45) (fu (fu (fu F 30 f30_28) 31 (F 30)) 32 ((F 32) * 100)) Q P) 68 [(0, .ref (A 49)), (1, .ref qb), (2, .int (J day)), (3, .int (J ref)), (4, .int (J (S 0 - 1 - day % S 0))), (5, .int (J k))] [.int (J (ASK S c rf (DBf (S 0) (I 50) k) (dg (DBf (S 0) (I 50) k) (S 0 - 1 - day % S 0)) day)), .int (J (S 0 - 1 - day % S 0)), .ref qb, .ref (A 49)]
          have q65_0 := @ASK_in S c rf (DBf (S 0) (I 50) k) (dg (DBf (S 0) (I 50) k) (S 0 - 1 - day % S 0)) day (by assumption) (by first | exact VB_dg (by assumption) (by omega) (by omega) | omega)
          refine w_iload (pc := 68) hC dX4_goOn_68 5 rfl ?_
          refine w_callV (pc := 70) (As := [.ref qb, .int (J (S 0 - 1 - day % S 0)), .int (J (ASK S c rf (DBf (S 0) (I 50) k) (dg (DBf (S 0) (I 50) k) (S 0 - 1 - day % S 0)) day)), .int (J k)]) (rest := []) hC dX4_goOn_70 cv_X4_71 (c_X4_play (kl K) G A D_1 T (au (au (au (au (au (au I 23 b23_65) 50 a50_28) 51 a51_28) 52 (I 50)) 53 (I 51)) 54 b54_45) (fu (fu (fu F 30 f30_28) 31 (F 30)) 32 ((F 32) * 100)) Q P S c (DBf (S 0) (I 50) k) rf day (-7) qb (S 0 - 1 - day % S 0) (ASK S c rf (DBf (S 0) (I 50) k) (dg (DBf (S 0) (I 50) k) (S 0 - 1 - day % S 0)) day) k (show RI S from by first | assumption | omega) (show LRn G.2.1 S (au (au (au (au (au (au I 23 b23_65) 50 a50_28) 51 a51_28) 52 (I 50)) 53 (I 51)) 54 b54_45) (fu (fu (fu F 30 f30_28) 31 (F 30)) 32 ((F 32) * 100)) Q P from by exact (LRb_fu (by decide) (LRb_fu (by decide) (LRb_fu (by decide) (LRb_au (by decide) (LRb_au (by decide) (LRb_au (by decide) (LRb_au (by decide) (LRb_au (by decide) (LRb_au (by decide) hL)))))))))) (show 0 ≤ c ∧ c < S 1 from by first | assumption | omega) (show CLB P G.2.1 S c qb from by first | assumption | omega) (show VB (S 0) (DBf (S 0) (I 50) k) from by first | assumption | omega) (show 0 ≤ (S 0 - 1 - day % S 0) ∧ (S 0 - 1 - day % S 0) < S 0 from by first | assumption | omega) (show ∀ r : Int, 0 ≤ r → r < S 0 → b54_45 r = dg (DBf (S 0) (I 50) k) r from by exact r45) (show 0 ≤ k ∧ k < (F 30) ∧ (F 30) ≤ 64 from by first | assumption | omega) (show (I 50) k = cv (S 0) (DBf (S 0) (I 50) k) from by exact hvB) (show 0 < (I 51) k ∧ (I 51) k ≤ 10000000000 from by omega) (show TRN S (DBf (S 0) (I 50) k) day = dg (DBf (S 0) (I 50) k) (S 0 - 1 - day % S 0) from by rfl) (show WHO S c rf (DBf (S 0) (I 50) k) day (-7) = (ASK S c rf (DBf (S 0) (I 50) k) (dg (DBf (S 0) (I 50) k) (S 0 - 1 - day % S 0)) day) from by exact if_pos rfl) (show (ASK S c rf (DBf (S 0) (I 50) k) (dg (DBf (S 0) (I 50) k) (S 0 - 1 - day % S 0)) day) = -5 ∨ ((0 ≤ (ASK S c rf (DBf (S 0) (I 50) k) (dg (DBf (S 0) (I 50) k) (S 0 - 1 - day % S 0)) day) ∧ (ASK S c rf (DBf (S 0) (I 50) k) (dg (DBf (S 0) (I 50) k) (S 0 - 1 - day % S 0)) day) < S 0) ∧ rk (S 0) (DBf (S 0) (I 50) k) (ASK S c rf (DBf (S 0) (I 50) k) (dg (DBf (S 0) (I 50) k) (S 0 - 1 - day % S 0)) day) < (S 0 - 1 - day % S 0)) from by rw [rk_ru hvA hrg] at q65_0; exact q65_0) (show DOK (S 0) a50_28 a51_28 f30_28 from by first | assumption | omega) (show f30_28 < 63 from by first | assumption | omega) (show isum one1 (DBf (S 0) a50_28) a51_28 (f30_28 : Int).toNat + (I 51) k * 100 ≤ 10000000000000 from by omega)) (by decide) ⟨Nat.le_of_ble_eq_true rfl, Nat.le_of_ble_eq_true rfl⟩ (q0 := 49) CW_49 rfl rfl rfl (Nat.le_of_ble_eq_true rfl) rfl (fun vo wo hv => ?_)
          obtain ⟨b50_70, b51_70, b54_70, g30_70, hv1, hw1, r70⟩ := hv
          rw [hv1, hw1]
          refine w_weq (CW_cong (au_th (au_th (au_th rfl (au_cm (by decide) (au_cm (by decide) (au_cm (by decide) (au_cm (by decide) au_rp))))) (au_cm (by decide) (au_cm (by decide) (au_cm (by decide) au_rp)))) au_rp) (fu_th rfl (fu_cm (by decide) (fu_cm (by decide) fu_rp))) rfl) ?_
          show WW K G 0 0 (CW A D_1 T G.2.1 (au (au (au (au (au (au I 23 b23_65) 50 b50_70) 51 b51_70) 52 (I 50)) 53 (I 51)) 54 b54_70) (fu (fu (fu F 30 g30_70) 31 (F 30)) 32 ((F 32) * 100)) Q P) 73 [(0, .ref (A 49)), (1, .ref qb), (2, .int (J day)), (3, .int (J ref)), (4, .int (J (S 0 - 1 - day % S 0))), (5, .int (J k))] []
          have r70 : DOK (S 0) b50_70 b51_70 g30_70 ∧ (∀ f : Int → Int, isum f (DBf (S 0) b50_70) b51_70 (g30_70 : Int).toNat = isum f (DBf (S 0) a50_28) a51_28 (f30_28 : Int).toNat + STEP S c rf day (-7) f (DBf (S 0) (I 50) k) * (I 51) k) ∧ f30_28 ≤ g30_70 ∧ g30_70 ≤ f30_28 + 2 := r70
          refine w_iinc (pc := 73) hC dX4_goOn_73 (lv2 := [(5, .int (J (k + 1))), (0, .ref (A 49)), (1, .ref qb), (2, .int (J day)), (3, .int (J ref)), (4, .int (J (S 0 - 1 - day % S 0)))]) 5 rfl (by rw [hnL]; decide) rfl ?_
          refine w_goto (pc := 76) hC dX4_goOn_76 (tgt := 28) (by decide) ?_
          refine w_sub [1, 2, 3, 4, 5, 0] (lv2 := [(0, .ref (A 49)), (1, .ref qb), (2, .int (J day)), (3, .int (J ref)), (4, .int (J (S 0 - 1 - day % S 0))), (5, .int (J (k + 1)))]) rfl ?_
          refine ih28 (k + 1) b23_65 b50_70 b51_70 b54_70 g30_70 ?_ ?_ ?_ ?_ ?_ ?_
          · first | assumption | omega
          · first | assumption | omega
          · exact r70.1
          · intro f; rw [r70.2.1 f, j2 f, isum_sI _ _ _ i1]
          · first | assumption | omega
          · omega
    refine w_weq (CW_cong (au_ms (k := 23) (v := I 23) rfl (au_cm (by decide) (au_cm (by decide) (au_cm (by decide) (au_cm (by decide) rfl)))) (au_ms (k := 54) (v := I 54) rfl rfl rfl)) rfl rfl) ?_
    refine w_sub [2, 3, 4, 5, 1, 0] (lv2 := [(0, .ref (A 49)), (1, .ref qb), (2, .int (J day)), (3, .int (J ref)), (4, .int (J (S 0 - 1 - day % S 0))), (5, .int (J 0))]) rfl ?_
    refine loop28 (((F 30) - 0) + 1 : Int).toNat 0 (I 23) (I 52) (I 53) (I 54) 0 ?_ ?_ ?_ ?_ ?_ ?_
    · first | assumption | omega
    · first | assumption | omega
    · exact DOK_0 _ _ _
    · exact fun f => rfl
    · first | assumption | omega
    · omega
  · exfalso; omega
set_option maxRecDepth 100000 in
set_option maxHeartbeats 4000000 in
theorem c_X4_goOnAsking (l : Launch) (G : GT) (A D : Nat → Nat) (T : Nat) (I : Nat → Int → Int) (F : Nat → Int) (Q : Nat → Nat → Option Nat) (P : va_W) (S : Int → Int) (c : Int) (rf : Int) (qb : Nat) (day : Int) (wm : Int) (hR : RI S) (hL : LRn G.2.1 S I F Q P) (hc : 0 ≤ c ∧ c < S 1) (hcl : CLB P G.2.1 S c qb) (h0 : 0 < S 0) (hday : 0 ≤ day ∧ day ≤ 5000) (hwm : wm = -5 ∨ ((0 ≤ wm ∧ wm < S 0) ∧ rk (S 0) (DBf (S 0) (I 50) 0) wm < S 0 - 1 - day % S 0)) (hD : DOK (S 0) (I 50) (I 51) (F 30)) (ht : isum one1 (DBf (S 0) (I 50)) (I 51) ((F 30) : Int).toNat = (F 32)) (hw : 1 ≤ (F 32) ∧ (F 32) ≤ 10000000000) (h1 : (F 30) = 1) : CT l yX4_goOnAsking cX4_goOnAsking 4 none 3 0 0 G [.ref (A 49), .ref qb, .int (J day), .int (J wm)] (CW A D T G.2.1 I F Q P) (fun vo wo => ∃ (D : Nat → Nat) (b23 : Int → Int) (b50 : Int → Int) (b51 : Int → Int) (b54 : Int → Int) (g30 : Int), vo = none ∧ wo = CW A D T G.2.1 (au (au (au (au (au (au I 23 b23) 50 b50) 51 b51) 52 (I 50)) 53 (I 51)) 54 b54) (fu (fu (fu F 30 g30) 31 (F 30)) 32 ((F 32) * 100)) Q P ∧ (DOK (S 0) b50 b51 g30 ∧ (∀ f : Int → Int, isum f (DBf (S 0) b50) b51 (g30 : Int).toNat = isum (STEP S c rf day wm f) (DBf (S 0) (I 50)) (I 51) ((F 30) : Int).toNat) ∧ g30 ≤ 2 * (F 30) ∧ isum one1 (DBf (S 0) b50) b51 (g30 : Int).toNat = (F 32) * 100)) := by
  refine CT_of (own := RX4) rfl rfl (Nat.le_of_ble_eq_true rfl) (fun K hl hnL hC hRT hin => ?_)
  subst hl
  show WW K G 0 0 (CW A D T G.2.1 I F Q P) 0 [(0, .ref (A 49)), (1, .ref qb), (2, .int (J day)), (3, .int (J wm))] []
  have hn := hR.n
  have hmd := Int.emod_nonneg day (show S 0 ≠ 0 by omega)
  have hml := Int.emod_lt_of_pos day h0
  have h64 := hD.1.1
  have hrg : 0 ≤ S 0 - 1 - day % S 0 ∧ S 0 - 1 - day % S 0 < S 0 := by omega
  obtain ⟨hvA, hvB⟩ := hD.2 0 (by omega) (by omega)
  have hk := DOK_bd hn hD (k := 0) (by omega) (by omega)
  refine w_aload_n (pc := 0) hC dX4_goOnAsking_0 0 rfl rfl ?_
  refine w_callV (pc := 1) (As := []) (rest := []) hC dX4_goOnAsking_1 cv_X4_51 (c_X4_beginDay (kl K) G A D T I F Q P) (by decide) ⟨Nat.le_of_ble_eq_true rfl, Nat.le_of_ble_eq_true rfl⟩ (q0 := 49) CW_49 rfl rfl rfl (Nat.le_of_ble_eq_true rfl) rfl (fun vo wo hv => ?_)
  obtain ⟨D_1, hv1, hw1⟩ := hv
  rw [hv1, hw1]
  show WW K G 0 0 (CW A D_1 T G.2.1 (au (au (au (au I 50 (I 52)) 51 (I 53)) 52 (I 50)) 53 (I 51)) (fu (fu (fu F 30 0) 31 (F 30)) 32 ((F 32) * 100)) Q P) 4 [(0, .ref (A 49)), (1, .ref qb), (2, .int (J day)), (3, .int (J wm))] []
  refine w_aload_n (pc := 4) hC dX4_goOnAsking_4 0 rfl rfl ?_
  refine w_getf (pc := 5) (v := .ref (A 1)) hC dX4_goOnAsking_5 fi_X4_39 49 CW_49 rfl ?_
  refine w_getfN (pc := 8) (v := .int (J (S 0))) hC dX4_goOnAsking_8 fn_X4_54 1 CW_1 (congrArg (fun z : Int => some (Value.int (J z))) (l_n hL)) ?_
  refine w_if_le (pc := 11) (tgt := 46) hC dX4_goOnAsking_11 (by decide) (by omega) (fun c11 => ?_) (fun c11 => ?_)
  · exfalso; omega
  · refine w_aload_n (pc := 14) hC dX4_goOnAsking_14 0 rfl rfl ?_
    refine w_getf (pc := 15) (v := .int (J (F 30))) hC dX4_goOnAsking_15 fi_X4_29 49 CW_49 rfl ?_
    refine w_if_le (pc := 18) (tgt := 46) hC dX4_goOnAsking_18 (by decide) (by omega) (fun c18 => ?_) (fun c18 => ?_)
    · exfalso; omega
    · refine w_aload_n (pc := 21) hC dX4_goOnAsking_21 0 rfl rfl ?_
      refine w_aload_n (pc := 22) hC dX4_goOnAsking_22 0 rfl rfl ?_
      refine w_getf (pc := 23) (v := .ref (D_1 2)) hC dX4_goOnAsking_23 fi_X4_23 49 CW_49 rfl ?_
      refine w_iconst (pc := 26) hC dX4_goOnAsking_26 ?_
      refine w_ialdV (pc := 27) (g := (I 50)) (v := (I 50) 0) hC dX4_goOnAsking_27 52 CW_52 (by omega) (Nat.le_of_ble_eq_true rfl) rfl ?_
      refine w_callV (pc := 28) (As := [.int (J ((I 50) 0))]) (rest := []) hC dX4_goOnAsking_28 cv_X4_63 (c_X4_lay (kl K) G A D_1 T (au (au (au (au I 50 (I 52)) 51 (I 53)) 52 (I 50)) 53 (I 51)) (fu (fu (fu F 30 0) 31 (F 30)) 32 ((F 32) * 100)) Q P S (DBf (S 0) (I 50) 0) ((I 50) 0) (show RI S from by first | assumption | omega) (show LRn G.2.1 S (au (au (au (au I 50 (I 52)) 51 (I 53)) 52 (I 50)) 53 (I 51)) (fu (fu (fu F 30 0) 31 (F 30)) 32 ((F 32) * 100)) Q P from by exact (LRb_fu (by decide) (LRb_fu (by decide) (LRb_fu (by decide) (LRb_au (by decide) (LRb_au (by decide) (LRb_au (by decide) (LRb_au (by decide) hL)))))))) (show ((I 50) 0) = cv (S 0) (DBf (S 0) (I 50) 0) from by exact hvB)) (by decide) ⟨Nat.le_of_ble_eq_true rfl, Nat.le_of_ble_eq_true rfl⟩ (q0 := 49) CW_49 rfl rfl rfl (Nat.le_of_ble_eq_true rfl) rfl (fun vo wo hv => ?_)
      obtain ⟨b54_28, hv1, hw1, r28⟩ := hv
      rw [hv1, hw1]
      show WW K G 0 0 (CW A D_1 T G.2.1 (au (au (au (au (au I 50 (I 52)) 51 (I 53)) 52 (I 50)) 53 (I 51)) 54 b54_28) (fu (fu (fu F 30 0) 31 (F 30)) 32 ((F 32) * 100)) Q P) 31 [(0, .ref (A 49)), (1, .ref qb), (2, .int (J day)), (3, .int (J wm))] []
      have r28 : ∀ zq : Int, 0 ≤ zq → zq < S 0 → b54_28 zq = dg (DBf (S 0) (I 50) 0) zq := r28
      refine w_aload_n (pc := 31) hC dX4_goOnAsking_31 0 rfl rfl ?_
      refine w_aload_n (pc := 32) hC dX4_goOnAsking_32 1 rfl rfl ?_
      refine w_aload_n (pc := 33) hC dX4_goOnAsking_33 0 rfl rfl ?_
      refine w_getf (pc := 34) (v := .ref (A 1)) hC dX4_goOnAsking_34 fi_X4_39 49 CW_49 rfl ?_
      refine w_iload_n (pc := 37) hC dX4_goOnAsking_37 2 rfl rfl ?_
      refine w_callV (pc := 38) (As := [.int (J day)]) (rest := [.ref qb, .ref (A 49)]) hC dX4_goOnAsking_38 cv_X4_59 (c_X6_turn (kl K) G A D_1 T (au (au (au (au (au I 50 (I 52)) 51 (I 53)) 52 (I 50)) 53 (I 51)) 54 b54_28) (fu (fu (fu F 30 0) 31 (F 30)) 32 ((F 32) * 100)) Q P S day (show RI S from by first | assumption | omega) (show LRn G.2.1 S (au (au (au (au (au I 50 (I 52)) 51 (I 53)) 52 (I 50)) 53 (I 51)) 54 b54_28) (fu (fu (fu F 30 0) 31 (F 30)) 32 ((F 32) * 100)) Q P from by exact (LRb_fu (by decide) (LRb_fu (by decide) (LRb_fu (by decide) (LRb_au (by decide) (LRb_au (by decide) (LRb_au (by decide) (LRb_au (by decide) (LRb_au (by decide) hL))))))))) (show 0 ≤ day ∧ day < 2147483648 from by first | assumption | omega)) (by decide) ⟨Nat.le_of_ble_eq_true rfl, Nat.le_of_ble_eq_true rfl⟩ (q0 := 1) CW_1 rfl rfl rfl (Nat.le_of_ble_eq_true rfl) rfl (fun vo wo hv => ?_)
      obtain ⟨hv1, hw1⟩ := hv
      rw [hv1, hw1]
      show WW K G 0 0 (CW A D_1 T G.2.1 (au (au (au (au (au I 50 (I 52)) 51 (I 53)) 52 (I 50)) 53 (I 51)) 54 b54_28) (fu (fu (fu F 30 0) 31 (F 30)) 32 ((F 32) * 100)) Q P) 41 [(0, .ref (A 49)), (1, .ref qb), (2, .int (J day)), (3, .int (J wm))] [.int (J (if S 0 = 0 then 0 else S 0 - 1 - day % S 0)), .ref qb, .ref (A 49)]
      refine w_top (e2 := S 0 - 1 - day % S 0) (by rw [if_neg (by omega)]) ?_
      refine w_iload_n (pc := 41) hC dX4_goOnAsking_41 3 rfl rfl ?_
      refine w_iconst (pc := 42) hC dX4_goOnAsking_42 ?_
      refine w_callV (pc := 43) (As := [.ref qb, .int (J (S 0 - 1 - day % S 0)), .int (J wm), .int (J 0)]) (rest := []) hC dX4_goOnAsking_43 cv_X4_71 (c_X4_play (kl K) G A D_1 T (au (au (au (au (au I 50 (I 52)) 51 (I 53)) 52 (I 50)) 53 (I 51)) 54 b54_28) (fu (fu (fu F 30 0) 31 (F 30)) 32 ((F 32) * 100)) Q P S c (DBf (S 0) (I 50) 0) rf day wm qb (S 0 - 1 - day % S 0) wm 0 (show RI S from by first | assumption | omega) (show LRn G.2.1 S (au (au (au (au (au I 50 (I 52)) 51 (I 53)) 52 (I 50)) 53 (I 51)) 54 b54_28) (fu (fu (fu F 30 0) 31 (F 30)) 32 ((F 32) * 100)) Q P from by exact (LRb_fu (by decide) (LRb_fu (by decide) (LRb_fu (by decide) (LRb_au (by decide) (LRb_au (by decide) (LRb_au (by decide) (LRb_au (by decide) (LRb_au (by decide) hL))))))))) (show 0 ≤ c ∧ c < S 1 from by first | assumption | omega) (show CLB P G.2.1 S c qb from by first | assumption | omega) (show VB (S 0) (DBf (S 0) (I 50) 0) from by first | assumption | omega) (show 0 ≤ (S 0 - 1 - day % S 0) ∧ (S 0 - 1 - day % S 0) < S 0 from by first | assumption | omega) (show ∀ r : Int, 0 ≤ r → r < S 0 → b54_28 r = dg (DBf (S 0) (I 50) 0) r from by exact r28) (show 0 ≤ 0 ∧ 0 < (F 30) ∧ (F 30) ≤ 64 from by first | assumption | omega) (show (I 50) 0 = cv (S 0) (DBf (S 0) (I 50) 0) from by exact hvB) (show 0 < (I 51) 0 ∧ (I 51) 0 ≤ 10000000000 from by omega) (show TRN S (DBf (S 0) (I 50) 0) day = dg (DBf (S 0) (I 50) 0) (S 0 - 1 - day % S 0) from by rfl) (show WHO S c rf (DBf (S 0) (I 50) 0) day wm = wm from by exact if_neg (by omega)) (show wm = -5 ∨ ((0 ≤ wm ∧ wm < S 0) ∧ rk (S 0) (DBf (S 0) (I 50) 0) wm < (S 0 - 1 - day % S 0)) from by exact hwm) (show DOK (S 0) (I 52) (I 53) 0 from by exact DOK_0 _ _ _) (show 0 < 63 from by first | assumption | omega) (show isum one1 (DBf (S 0) (I 52)) (I 53) (0 : Int).toNat + (I 51) 0 * 100 ≤ 10000000000000 from by show (0 : Int) + _ ≤ _; omega)) (by decide) ⟨Nat.le_of_ble_eq_true rfl, Nat.le_of_ble_eq_true rfl⟩ (q0 := 49) CW_49 rfl rfl rfl (Nat.le_of_ble_eq_true rfl) rfl (fun vo wo hv => ?_)
      obtain ⟨b50_43, b51_43, b54_43, g30_43, hv1, hw1, r43⟩ := hv
      rw [hv1, hw1]
      refine w_weq (CW_cong (au_th (au_th (au_th rfl (au_cm (by decide) (au_cm (by decide) (au_cm (by decide) (au_cm (by decide) au_rp))))) (au_cm (by decide) (au_cm (by decide) (au_cm (by decide) au_rp)))) au_rp) (fu_th rfl (fu_cm (by decide) (fu_cm (by decide) fu_rp))) rfl) ?_
      show WW K G 0 0 (CW A D_1 T G.2.1 (au (au (au (au (au I 50 b50_43) 51 b51_43) 52 (I 50)) 53 (I 51)) 54 b54_43) (fu (fu (fu F 30 g30_43) 31 (F 30)) 32 ((F 32) * 100)) Q P) 46 [(0, .ref (A 49)), (1, .ref qb), (2, .int (J day)), (3, .int (J wm))] []
      have r43 : DOK (S 0) b50_43 b51_43 g30_43 ∧ (∀ f : Int → Int, isum f (DBf (S 0) b50_43) b51_43 (g30_43 : Int).toNat = isum f (DBf (S 0) (I 52)) (I 53) (0 : Int).toNat + STEP S c rf day wm f (DBf (S 0) (I 50) 0) * (I 51) 0) ∧ 0 ≤ g30_43 ∧ g30_43 ≤ 0 + 2 := r43
      refine w_vret (pc := 46) hC hRT dX4_goOnAsking_46 ?_
      refine ⟨D_1, (I 23), b50_43, b51_43, b54_43, g30_43, rfl, CW_cong (au_ms (k := 23) (v := I 23) rfl (au_cm (by decide) (au_cm (by decide) (au_cm (by decide) (au_cm (by decide) (au_cm (by decide) rfl))))) rfl) rfl rfl, ?_⟩
      · have j2 : ∀ f : Int → Int, isum f (DBf (S 0) b50_43) b51_43 (g30_43).toNat = isum (STEP S c rf day wm f) (DBf (S 0) (I 50)) (I 51) ((F 30)).toNat := fun f => by rw [r43.2.1 f, h1, show (1 : Int) = 0 + 1 from rfl, isum_sI _ _ _ (Int.le_refl 0)]; rfl
        exact ⟨r43.1, j2, by omega, tot_n hR h0 hday.1 hD (fun z z0 z1 => by obtain rfl : z = 0 := (by omega); rcases hwm with e | e; exact Or.inr (Or.inl e); exact Or.inr (Or.inr e)) ht j2⟩
set_option maxRecDepth 100000 in
set_option maxHeartbeats 4000000 in
theorem c_X4_startFrom_v2 (l : Launch) (G : GT) (A D : Nat → Nat) (T : Nat) (I : Nat → Int → Int) (F : Nat → Int) (Q : Nat → Nat → Option Nat) (P : va_W) (S : Int → Int) (b : Int)  (hR : RI S) (hL : LRn G.2.1 S I F Q P) (hV : VB (S 0) b) (hB : ∀ r : Int, 0 ≤ r → r < S 0 → (I 2) r = dg b r) : CT l yX4_startFrom cX4_startFrom 2 none 1 0 0 G [.ref (A 49), .ref (A 2)] (CW A D T G.2.1 I F Q P) (fun vo wo => ∃ (b50 : Int → Int) (b51 : Int → Int) (g30 : Int), vo = none ∧ wo = CW A D T G.2.1 (au (au I 50 b50) 51 b51) (fu (fu F 30 g30) 32 1) Q P ∧ (DOK (S 0) b50 b51 g30 ∧ (∀ f : Int → Int, isum f (DBf (S 0) b50) b51 (g30 : Int).toNat = f b) ∧ g30 = 1)) := by
  refine CT_of (own := RX4) rfl rfl (Nat.le_of_ble_eq_true rfl) (fun K hl hnL hC hRT hin => ?_)
  subst hl
  show WW K G 0 0 (CW A D T G.2.1 I F Q P) 0 [(0, .ref (A 49)), (1, .ref (A 2))] []
  have hn := hR.n
  refine w_aload_n (pc := 0) hC dX4_startFrom_0 0 rfl rfl ?_
  refine w_lconst (pc := 1) hC dX4_startFrom_1 (z := 1) rfl ?_
  refine w_putf (pc := 2) (w2 := CW A D T G.2.1 I (fu F 32 1) Q P) hC dX4_startFrom_2 fi_X4_32 fp_X4_7 rfl 49 CW_49 (rfl) (rfl) (Nat.le_of_ble_eq_true rfl) (CWf_32 rfl) ?_
  refine w_aload_n (pc := 5) hC dX4_startFrom_5 0 rfl rfl ?_
  refine w_iconst (pc := 6) hC dX4_startFrom_6 ?_
  refine w_putf (pc := 7) (w2 := CW A D T G.2.1 I (fu (fu F 30 0) 32 1) Q P) hC dX4_startFrom_7 fi_X4_19 fp_X4_3 rfl 49 CW_49 (rfl) (rfl) (Nat.le_of_ble_eq_true rfl) (CWf_30 (fu_cm (by decide) rfl)) ?_
  refine w_aload_n (pc := 10) hC dX4_startFrom_10 0 rfl rfl ?_
  refine w_aload_n (pc := 11) hC dX4_startFrom_11 0 rfl rfl ?_
  refine w_aload_n (pc := 12) hC dX4_startFrom_12 1 rfl rfl ?_
  refine w_callV (pc := 13) (As := [.ref (A 2)]) (rest := [.ref (A 49)]) hC dX4_startFrom_13 cv_X4_43 (c_X4_numberOf_v2 (kl K) G A D T I (fu (fu F 30 0) 32 1) Q P S b (show RI S from by first | assumption | omega) (show LRn G.2.1 S I (fu (fu F 30 0) 32 1) Q P from by exact (LRb_fu (by decide) (LRb_fu (by decide) hL))) (show ∀ r : Int, 0 ≤ r → r < S 0 → (I 2) r = dg b r from by first | assumption | omega)) (by decide) ⟨Nat.le_of_ble_eq_true rfl, Nat.le_of_ble_eq_true rfl⟩ (q0 := 49) CW_49 rfl rfl rfl (Nat.le_of_ble_eq_true rfl) rfl (fun vo wo hv => ?_)
  obtain ⟨hv1, hw1⟩ := hv
  rw [hv1, hw1]
  show WW K G 0 0 (CW A D T G.2.1 I (fu (fu F 30 0) 32 1) Q P) 16 [(0, .ref (A 49)), (1, .ref (A 2))] [.int (J (cv (S 0) b)), .ref (A 49)]
  have q13_0 := @cv_bd (S 0) (by omega) b
  refine w_lconst (pc := 16) hC dX4_startFrom_16 (z := 1) rfl ?_
  refine w_callV (pc := 17) (As := [.int (J (cv (S 0) b)), .long (JL 1)]) (rest := []) hC dX4_startFrom_17 cv_X4_47 (c_X4_add (kl K) G A D T I (fu (fu F 30 0) 32 1) Q P (S 0) b (cv (S 0) b) 1 (show 0 ≤ (S 0) ∧ (S 0) ≤ 6 from by first | assumption | omega) (show (cv (S 0) b) = cv (S 0) b from by rfl) (show VB (S 0) b from by first | assumption | omega) (show 0 ≤ 1 ∧ 1 ≤ 10000000000000 from by first | assumption | omega) (show DOK (S 0) (I 50) (I 51) 0 from by exact DOK_0 _ _ _) (show 0 < 64 from by first | assumption | omega) (show isum one1 (DBf (S 0) (I 50)) (I 51) (0 : Int).toNat ≤ 10000000000000 from by show (0 : Int) ≤ _; decide)) (by decide) ⟨Nat.le_of_ble_eq_true rfl, Nat.le_of_ble_eq_true rfl⟩ (q0 := 49) CW_49 rfl rfl rfl (Nat.le_of_ble_eq_true rfl) rfl (fun vo wo hv => ?_)
  obtain ⟨b50_17, b51_17, g30_17, hv1, hw1, r17⟩ := hv
  rw [hv1, hw1]
  refine w_weq (CW_cong rfl (fu_th rfl (fu_cm (by decide) fu_rp)) rfl) ?_
  show WW K G 0 0 (CW A D T G.2.1 (au (au I 50 b50_17) 51 b51_17) (fu (fu F 30 g30_17) 32 1) Q P) 20 [(0, .ref (A 49)), (1, .ref (A 2))] []
  have r17 : DOK (S 0) b50_17 b51_17 g30_17 ∧ (∀ f : Int → Int, isum f (DBf (S 0) b50_17) b51_17 (g30_17 : Int).toNat = isum f (DBf (S 0) (I 50)) (I 51) (0 : Int).toNat + f b * 1) ∧ 0 ≤ g30_17 ∧ g30_17 ≤ 0 + 1 := r17
  refine w_vret (pc := 20) hC hRT dX4_startFrom_20 ?_
  refine ⟨b50_17, b51_17, g30_17, rfl, rfl, ?_⟩
  · have e9 : ∀ f : Int → Int, isum f (DBf (S 0) b50_17) b51_17 (g30_17).toNat = 0 + f b * 1 := r17.2.1
    have e8 := isum_1 (f := one1) e9 (by omega)
    exact ⟨r17.1, fun f => by rw [e9 f]; omega, by omega⟩
set_option maxRecDepth 100000 in
set_option maxHeartbeats 4000000 in
theorem c_X4_startFrom_v58 (l : Launch) (G : GT) (A D : Nat → Nat) (T : Nat) (I : Nat → Int → Int) (F : Nat → Int) (Q : Nat → Nat → Option Nat) (P : va_W) (S : Int → Int) (b : Int)  (hR : RI S) (hL : LRn G.2.1 S I F Q P) (hV : VB (S 0) b) (hB : ∀ r : Int, 0 ≤ r → r < S 0 → (I 58) r = dg b r) : CT l yX4_startFrom cX4_startFrom 2 none 1 0 0 G [.ref (A 49), .ref (A 58)] (CW A D T G.2.1 I F Q P) (fun vo wo => ∃ (b50 : Int → Int) (b51 : Int → Int) (g30 : Int), vo = none ∧ wo = CW A D T G.2.1 (au (au I 50 b50) 51 b51) (fu (fu F 30 g30) 32 1) Q P ∧ (DOK (S 0) b50 b51 g30 ∧ (∀ f : Int → Int, isum f (DBf (S 0) b50) b51 (g30 : Int).toNat = f b) ∧ g30 = 1)) := by
  refine CT_of (own := RX4) rfl rfl (Nat.le_of_ble_eq_true rfl) (fun K hl hnL hC hRT hin => ?_)
  subst hl
  show WW K G 0 0 (CW A D T G.2.1 I F Q P) 0 [(0, .ref (A 49)), (1, .ref (A 58))] []
  have hn := hR.n
  refine w_aload_n (pc := 0) hC dX4_startFrom_0 0 rfl rfl ?_
  refine w_lconst (pc := 1) hC dX4_startFrom_1 (z := 1) rfl ?_
  refine w_putf (pc := 2) (w2 := CW A D T G.2.1 I (fu F 32 1) Q P) hC dX4_startFrom_2 fi_X4_32 fp_X4_7 rfl 49 CW_49 (rfl) (rfl) (Nat.le_of_ble_eq_true rfl) (CWf_32 rfl) ?_
  refine w_aload_n (pc := 5) hC dX4_startFrom_5 0 rfl rfl ?_
  refine w_iconst (pc := 6) hC dX4_startFrom_6 ?_
  refine w_putf (pc := 7) (w2 := CW A D T G.2.1 I (fu (fu F 30 0) 32 1) Q P) hC dX4_startFrom_7 fi_X4_19 fp_X4_3 rfl 49 CW_49 (rfl) (rfl) (Nat.le_of_ble_eq_true rfl) (CWf_30 (fu_cm (by decide) rfl)) ?_
  refine w_aload_n (pc := 10) hC dX4_startFrom_10 0 rfl rfl ?_
  refine w_aload_n (pc := 11) hC dX4_startFrom_11 0 rfl rfl ?_
  refine w_aload_n (pc := 12) hC dX4_startFrom_12 1 rfl rfl ?_
  refine w_callV (pc := 13) (As := [.ref (A 58)]) (rest := [.ref (A 49)]) hC dX4_startFrom_13 cv_X4_43 (c_X4_numberOf_v58 (kl K) G A D T I (fu (fu F 30 0) 32 1) Q P S b (show RI S from by first | assumption | omega) (show LRn G.2.1 S I (fu (fu F 30 0) 32 1) Q P from by exact (LRb_fu (by decide) (LRb_fu (by decide) hL))) (show ∀ r : Int, 0 ≤ r → r < S 0 → (I 58) r = dg b r from by first | assumption | omega)) (by decide) ⟨Nat.le_of_ble_eq_true rfl, Nat.le_of_ble_eq_true rfl⟩ (q0 := 49) CW_49 rfl rfl rfl (Nat.le_of_ble_eq_true rfl) rfl (fun vo wo hv => ?_)
  obtain ⟨hv1, hw1⟩ := hv
  rw [hv1, hw1]
  show WW K G 0 0 (CW A D T G.2.1 I (fu (fu F 30 0) 32 1) Q P) 16 [(0, .ref (A 49)), (1, .ref (A 58))] [.int (J (cv (S 0) b)), .ref (A 49)]
  have q13_0 := @cv_bd (S 0) (by omega) b
  refine w_lconst (pc := 16) hC dX4_startFrom_16 (z := 1) rfl ?_
  refine w_callV (pc := 17) (As := [.int (J (cv (S 0) b)), .long (JL 1)]) (rest := []) hC dX4_startFrom_17 cv_X4_47 (c_X4_add (kl K) G A D T I (fu (fu F 30 0) 32 1) Q P (S 0) b (cv (S 0) b) 1 (show 0 ≤ (S 0) ∧ (S 0) ≤ 6 from by first | assumption | omega) (show (cv (S 0) b) = cv (S 0) b from by rfl) (show VB (S 0) b from by first | assumption | omega) (show 0 ≤ 1 ∧ 1 ≤ 10000000000000 from by first | assumption | omega) (show DOK (S 0) (I 50) (I 51) 0 from by exact DOK_0 _ _ _) (show 0 < 64 from by first | assumption | omega) (show isum one1 (DBf (S 0) (I 50)) (I 51) (0 : Int).toNat ≤ 10000000000000 from by show (0 : Int) ≤ _; decide)) (by decide) ⟨Nat.le_of_ble_eq_true rfl, Nat.le_of_ble_eq_true rfl⟩ (q0 := 49) CW_49 rfl rfl rfl (Nat.le_of_ble_eq_true rfl) rfl (fun vo wo hv => ?_)
  obtain ⟨b50_17, b51_17, g30_17, hv1, hw1, r17⟩ := hv
  rw [hv1, hw1]
  refine w_weq (CW_cong rfl (fu_th rfl (fu_cm (by decide) fu_rp)) rfl) ?_
  show WW K G 0 0 (CW A D T G.2.1 (au (au I 50 b50_17) 51 b51_17) (fu (fu F 30 g30_17) 32 1) Q P) 20 [(0, .ref (A 49)), (1, .ref (A 58))] []
  have r17 : DOK (S 0) b50_17 b51_17 g30_17 ∧ (∀ f : Int → Int, isum f (DBf (S 0) b50_17) b51_17 (g30_17 : Int).toNat = isum f (DBf (S 0) (I 50)) (I 51) (0 : Int).toNat + f b * 1) ∧ 0 ≤ g30_17 ∧ g30_17 ≤ 0 + 1 := r17
  refine w_vret (pc := 20) hC hRT dX4_startFrom_20 ?_
  refine ⟨b50_17, b51_17, g30_17, rfl, rfl, ?_⟩
  · have e9 : ∀ f : Int → Int, isum f (DBf (S 0) b50_17) b51_17 (g30_17).toNat = 0 + f b * 1 := r17.2.1
    have e8 := isum_1 (f := one1) e9 (by omega)
    exact ⟨r17.1, fun f => by rw [e9 f]; omega, by omega⟩
