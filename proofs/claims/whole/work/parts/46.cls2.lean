
theorem fct {S f s1 s3 s4 : Int → Int} {a b rung u day : Int} (f0 : f 0 = a) (f2 : f 2 = rung) (f5 : f 5 = day % 7) (h1 : gu f 1 b = s1) (h3 : gu s1 3 u = s3) (h4 : gu s3 4 (S (130 + 6 * a + b)) = s4) : ∀ j : Int, 0 ≤ j → j < 6 → s4 j = byf S a b rung u day j := by
  intro j j0 j1
  subst h1
  subst h3
  subst h4
  unfold byf gu
  rcases (show j = 0 ∨ j = 1 ∨ j = 2 ∨ j = 3 ∨ j = 4 ∨ j = 5 by omega) with e | e | e | e | e | e <;> subst e <;> simp [f0, f2, f5]
theorem rk_ru {S : Int → Int} {b rung : Int} (hV : VB (S 0) b) (h : 0 ≤ rung ∧ rung < S 0) : rk (S 0) b (dg b rung) = rung := rk_dg hV h.1 h.2
theorem MSK_ru {S : Int → Int} {c rf b rung day : Int} (hV : VB (S 0) b) (h : 0 ≤ rung ∧ rung < S 0) : MSK S c rf b (dg b rung) day = mskN (fun u => decide (MAY S c rf b (dg b rung) rung day u)) (fun u => dg b (rung - u)) (imin (S (178 + c)) rung).toNat := by
  unfold MSK
  rw [rk_ru hV h]
theorem ASK_ru {S : Int → Int} {c rf b rung day : Int} (hV : VB (S 0) b) (h : 0 ≤ rung ∧ rung < S 0) : ASK S c rf b (dg b rung) day = PCK S c rf b rung day := by
  unfold ASK
  rw [rk_ru hV h]

theorem cde_parts {s : Int} (h0 : 0 ≤ s) (h1 : s % 8 < 6) (h2 : s / 8 % 4 < 3) (h3 : s / 32 ≤ 99) : cde s / 300 = s % 8 ∧ cde s % 100 = s / 32 ∧ cde s / 100 % 3 = s / 8 % 4 := by
  unfold cde
  rw [if_neg (by omega)]
  have ha : 0 ≤ s % 8 := by omega
  generalize s % 8 = a at *
  have hb : 0 ≤ s / 8 % 4 := by omega
  generalize s / 8 % 4 = b at *
  have hd : 0 ≤ s / 32 := by omega
  generalize s / 32 = d at *
  omega
theorem tst_a {bf : Int → Int} {s : Int} (h : s / 8 % 4 = 0) : tst bf s = bI (bf (s % 8) < s / 32) := by unfold tst; rw [if_pos h]
theorem tst_b {bf : Int → Int} {s : Int} (h : s / 8 % 4 = 1) : tst bf s = bI (bf (s % 8) = s / 32) := by unfold tst; rw [if_neg (by omega), if_pos h]
theorem tst_c {bf : Int → Int} {s : Int} (h : ¬ s / 8 % 4 = 0) (h1 : ¬ s / 8 % 4 = 1) : tst bf s = bI (s / 32 < bf (s % 8)) := by unfold tst; rw [if_neg h, if_neg h1]

theorem cl_sw {S f s : Int → Int} {c b p t : Int} (hw : S (183 + c) = 1) (hn : 0 ≤ S 0 ∧ S 0 ≤ 6) (hV : VB (S 0) b) (hf : 0 ≤ t ∧ t < p ∧ p < S 0) (hB : ∀ r : Int, 0 ≤ r → r < S 0 → f r = dg b r) (h : ∀ zq : Int, s zq = f (swi p t zq)) : ∀ zq : Int, 0 ≤ zq → zq < S 0 → s zq = dg (WON S c b (dg b p) (dg b t)) zq := by
  intro zq z0 z1
  unfold WON swd
  rw [if_pos hw, rk_ru hV (by omega), rk_ru hV (by omega), brd_dg z0 z1, h zq]
  have := swi_in (n := S 0) (show 0 ≤ p ∧ p < S 0 by omega) (show 0 ≤ t ∧ t < S 0 by omega) z0 z1
  exact hB _ this.1 this.2
theorem cl_mv {S f s : Int → Int} {c b p t : Int} (hw : ¬ S (183 + c) = 1) (hn : 0 ≤ S 0 ∧ S 0 ≤ 6) (hV : VB (S 0) b) (hf : 0 ≤ t ∧ t < p ∧ p < S 0) (hB : ∀ r : Int, 0 ≤ r → r < S 0 → f r = dg b r) (h : ∀ zq : Int, s zq = f (mvi p (p - (if S (183 + c) = 2 then 1 else p - t)) zq)) : ∀ zq : Int, 0 ≤ zq → zq < S 0 → s zq = dg (WON S c b (dg b p) (dg b t)) zq := by
  intro zq z0 z1
  unfold WON mvd
  rw [if_neg hw, rk_ru hV (by omega), rk_ru hV (by omega), brd_dg z0 z1, h zq]
  have e : p - (if S (183 + c) = 2 then 1 else p - t) = if S (183 + c) = 2 then p - 1 else t := by split <;> omega
  rw [e]
  have hr : 0 ≤ (if S (183 + c) = 2 then p - 1 else t) ∧ (if S (183 + c) = 2 then p - 1 else t) < S 0 := by split <;> omega
  have := mvi_in (n := S 0) (show 0 ≤ p ∧ p < S 0 by omega) hr z0 z1
  exact hB _ this.1 this.2

theorem J_keep2 {a t : Int} (h : 0 ≤ a ∧ a < 2147483648) (ht : t = -2 ∨ t = -1) : J a &&& J t = J (if t + 2 = 1 then a else a - a % 2) := by
  have := J_keep (t := t + 2) h (by omega)
  rw [show t + 2 - 2 = t by omega] at this
  exact this

set_option maxRecDepth 100000 in
set_option maxHeartbeats 4000000 in
theorem c_X11_holds (l : Launch) (G : GT) (w0 : va_W)  (bits : Int) (n : Int) (hb : 0 ≤ bits ∧ bits < 2147483648) (h : 0 ≤ n ∧ n < 32) : CT l yX11_holds cX11_holds 2 (some .boolean) 0 0 0 G [.int (J bits), .int (J n)] w0 (fun vo wo => vo = some (.int (J (bI (bits / 2 ^ n.toNat % 2 = 1)))) ∧ wo = w0) := by
  refine CT_of (own := RX11) rfl rfl (Nat.le_of_ble_eq_true rfl) (fun K hl hnL hC hRT hin => ?_)
  subst hl
  show WW K G 0 0 w0 0 [(0, .int (J bits)), (1, .int (J n))] []
  refine w_iload_n (pc := 0) hC dX11_holds_0 0 rfl rfl ?_
  refine w_iload_n (pc := 1) hC dX11_holds_1 1 rfl rfl ?_
  refine w_ishr (pc := 2) hC dX11_holds_2 (by omega) ?_
  refine w_iconst (pc := 3) hC dX11_holds_3 ?_
  refine w_iand (pc := 4) hC dX11_holds_4 (v := (bits / 2 ^ n.toNat) % 2) (J_and1 _) ?_
  refine w_iconst (pc := 5) hC dX11_holds_5 ?_
  refine w_icmp_ne (pc := 6) (tgt := 13) hC dX11_holds_6 (by decide) (by omega) (fun c6 => ?_) (fun c6 => ?_)
  · refine w_iconst (pc := 13) hC dX11_holds_13 ?_
    refine w_iret (pc := 14) hC hRT dX11_holds_14 rfl ?_
    refine ⟨retI (by first | rfl | exact (bI_t (by omega)).symm | exact (bI_f (by omega)).symm | omega), rfl⟩
  · refine w_iconst (pc := 9) hC dX11_holds_9 ?_
    refine w_goto (pc := 10) hC dX11_holds_10 (tgt := 14) (by decide) ?_
    refine w_iret (pc := 14) hC hRT dX11_holds_14 rfl ?_
    refine ⟨retI (by first | rfl | exact (bI_t (by omega)).symm | exact (bI_f (by omega)).symm | omega), rfl⟩
set_option maxRecDepth 100000 in
set_option maxHeartbeats 4000000 in
theorem c_X2_testOf (l : Launch) (G : GT) (w0 : va_W)  (le : Int) (si : Int) (nu : Int)  : CT l yX2_testOf cX2_testOf 3 (some .int) 0 0 0 G [.int (J le), .int (J si), .int (J nu)] w0 (fun vo wo => vo = some (.int (J ((le * 3 + si) * 100 + nu))) ∧ wo = w0) := by
  refine CT_of (own := RX2) rfl rfl (Nat.le_of_ble_eq_true rfl) (fun K hl hnL hC hRT hin => ?_)
  subst hl
  show WW K G 0 0 w0 0 [(0, .int (J le)), (1, .int (J si)), (2, .int (J nu))] []
  refine w_iload_n (pc := 0) hC dX2_testOf_0 0 rfl rfl ?_
  refine w_iconst (pc := 1) hC dX2_testOf_1 ?_
  refine w_imul (pc := 2) hC dX2_testOf_2 ?_
  refine w_iload_n (pc := 3) hC dX2_testOf_3 1 rfl rfl ?_
  refine w_iadd (pc := 4) hC dX2_testOf_4 ?_
  refine w_bipush (pc := 5) hC dX2_testOf_5 (z := 100) rfl ?_
  refine w_imul (pc := 7) hC dX2_testOf_7 ?_
  refine w_iload_n (pc := 8) hC dX2_testOf_8 2 rfl rfl ?_
  refine w_iadd (pc := 9) hC dX2_testOf_9 ?_
  refine w_iret (pc := 10) hC hRT dX2_testOf_10 rfl ?_
  refine ⟨retI (by first | rfl | exact (bI_t (by omega)).symm | exact (bI_f (by omega)).symm | omega), rfl⟩
set_option maxRecDepth 100000 in
set_option maxHeartbeats 4000000 in
theorem c_X2_isTrue (l : Launch) (G : GT) (A D : Nat → Nat) (T : Nat) (I : Nat → Int → Int) (F : Nat → Int) (Q : Nat → Nat → Option Nat) (P : va_W) (s : Int) (bf : Int → Int) (te : Int) (ht : te = cde s) (hs : 0 ≤ s ∧ s % 8 < 6 ∧ s / 8 % 4 < 3 ∧ s / 32 ≤ 99) (hbf : ∀ j : Int, 0 ≤ j → j < 6 → (I 23) j = bf j ∧ -2147483648 ≤ bf j ∧ bf j < 2147483648) : CT l yX2_isTrue cX2_isTrue 4 (some .boolean) 0 0 0 G [.int (J te), .ref (A 23)] (CW A D T G.2.1 I F Q P) (fun vo wo => vo = some (.int (J (tst bf s))) ∧ wo = CW A D T G.2.1 I F Q P) := by
  refine CT_of (own := RX2) rfl rfl (Nat.le_of_ble_eq_true rfl) (fun K hl hnL hC hRT hin => ?_)
  subst hl
  show WW K G 0 0 (CW A D T G.2.1 I F Q P) 0 [(0, .int (J te)), (1, .ref (A 23))] []
  obtain ⟨p1, p2, p3⟩ := cde_parts hs.1 hs.2.1 hs.2.2.1 hs.2.2.2
  have p4 := cde_bd (s := s) (by omega) (fun _ => hs.2)
  have b1 := hbf (s % 8) (by omega) (by omega)
  rw [← ht] at p1 p2 p3 p4
  refine w_iload_n (pc := 0) hC dX2_isTrue_0 0 rfl rfl ?_
  refine w_sipush (pc := 1) hC dX2_isTrue_1 (z := 300) rfl ?_
  refine w_idiv (pc := 4) hC dX2_isTrue_4 (by omega) ?_
  refine w_istore_n (pc := 5) hC dX2_isTrue_5 rfl (lv2 := [(2, .int (J (te / 300))), (0, .int (J te)), (1, .ref (A 23))]) (by rw [hnL]; decide) rfl ?_
  refine w_iload_n (pc := 6) hC dX2_isTrue_6 0 rfl rfl ?_
  refine w_if_lt (pc := 7) (tgt := 16) hC dX2_isTrue_7 (by decide) (by omega) (fun c7 => ?_) (fun c7 => ?_)
  · refine w_iconst (pc := 16) hC dX2_isTrue_16 ?_
    refine w_iret (pc := 17) hC hRT dX2_isTrue_17 rfl ?_
    refine ⟨retI (by first | (rw [tst_a (by omega)]; first | exact (bI_t (by omega)).symm | exact (bI_f (by omega)).symm) | (rw [tst_b (by omega)]; first | exact (bI_t (by omega)).symm | exact (bI_f (by omega)).symm) | (rw [tst_c (by omega) (by omega)]; first | exact (bI_t (by omega)).symm | exact (bI_f (by omega)).symm)), rfl⟩
  · refine w_iload_n (pc := 10) hC dX2_isTrue_10 0 rfl rfl ?_
    refine w_aload_n (pc := 11) hC dX2_isTrue_11 2 rfl rfl ?_
    refine w_alen (pc := 12) hC dX2_isTrue_12 23 0 CW_23 rfl ?_
    refine w_icmp_lt (pc := 13) (tgt := 18) hC dX2_isTrue_13 (by decide) (by omega) (fun c13 => ?_) (fun c13 => ?_)
    · refine w_iload_n (pc := 18) hC dX2_isTrue_18 1 rfl rfl ?_
      refine w_bipush (pc := 19) hC dX2_isTrue_19 (z := 100) rfl ?_
      refine w_irem (pc := 21) hC dX2_isTrue_21 (by omega) ?_
      refine w_istore_n (pc := 22) hC dX2_isTrue_22 rfl (lv2 := [(3, .int (J (te % 100))), (2, .int (J (te / 300))), (0, .int (J te)), (1, .ref (A 23))]) (by rw [hnL]; decide) rfl ?_
      refine w_iload_n (pc := 23) hC dX2_isTrue_23 2 rfl rfl ?_
      refine w_bipush (pc := 24) hC dX2_isTrue_24 (z := 100) rfl ?_
      refine w_idiv (pc := 26) hC dX2_isTrue_26 (by omega) ?_
      refine w_iconst (pc := 27) hC dX2_isTrue_27 ?_
      refine w_irem (pc := 28) hC dX2_isTrue_28 (by omega) ?_
      rcases (show ((te / 100) % 3) = 0 ∨ ((te / 100) % 3) = 1 ∨ (¬ ((te / 100) % 3) = 0 ∧ ¬ ((te / 100) % 3) = 1) by omega) with c29 | c29 | c29
      · refine w_lookup (pc := 29) (tgt := 56) hC dX2_isTrue_29 (by omega) (by decide) (by rw [c29]; first | done | rfl) (by decide) ?_
        refine w_aload_n (pc := 56) hC dX2_isTrue_56 3 rfl rfl ?_
        refine w_iload_n (pc := 57) hC dX2_isTrue_57 1 rfl rfl ?_
        refine w_ialdV (pc := 58) (g := (I 23)) (v := bf (s % 8)) hC dX2_isTrue_58 23 CW_23 (by omega) (Nat.le_of_ble_eq_true rfl) ((congrArg (I 23) (show (te / 300) = s % 8 by omega)).trans (hbf (s % 8) (by omega) (by omega)).1) ?_
        refine w_iload_n (pc := 59) hC dX2_isTrue_59 0 rfl rfl ?_
        refine w_icmp_ge (pc := 60) (tgt := 67) hC dX2_isTrue_60 (by decide) (by omega) (fun c60 => ?_) (fun c60 => ?_)
        · refine w_iconst (pc := 67) hC dX2_isTrue_67 ?_
          refine w_iret (pc := 68) hC hRT dX2_isTrue_68 rfl ?_
          refine ⟨retI (by first | (rw [tst_a (by omega)]; first | exact (bI_t (by omega)).symm | exact (bI_f (by omega)).symm) | (rw [tst_b (by omega)]; first | exact (bI_t (by omega)).symm | exact (bI_f (by omega)).symm) | (rw [tst_c (by omega) (by omega)]; first | exact (bI_t (by omega)).symm | exact (bI_f (by omega)).symm)), rfl⟩
        · refine w_iconst (pc := 63) hC dX2_isTrue_63 ?_
          refine w_goto (pc := 64) hC dX2_isTrue_64 (tgt := 68) (by decide) ?_
          refine w_iret (pc := 68) hC hRT dX2_isTrue_68 rfl ?_
          refine ⟨retI (by first | (rw [tst_a (by omega)]; first | exact (bI_t (by omega)).symm | exact (bI_f (by omega)).symm) | (rw [tst_b (by omega)]; first | exact (bI_t (by omega)).symm | exact (bI_f (by omega)).symm) | (rw [tst_c (by omega) (by omega)]; first | exact (bI_t (by omega)).symm | exact (bI_f (by omega)).symm)), rfl⟩
      · refine w_lookup (pc := 29) (tgt := 69) hC dX2_isTrue_29 (by omega) (by decide) (by rw [c29]; first | done | rfl) (by decide) ?_
        refine w_aload_n (pc := 69) hC dX2_isTrue_69 3 rfl rfl ?_
        refine w_iload_n (pc := 70) hC dX2_isTrue_70 1 rfl rfl ?_
        refine w_ialdV (pc := 71) (g := (I 23)) (v := bf (s % 8)) hC dX2_isTrue_71 23 CW_23 (by omega) (Nat.le_of_ble_eq_true rfl) ((congrArg (I 23) (show (te / 300) = s % 8 by omega)).trans (hbf (s % 8) (by omega) (by omega)).1) ?_
        refine w_iload_n (pc := 72) hC dX2_isTrue_72 0 rfl rfl ?_
        refine w_icmp_ne (pc := 73) (tgt := 80) hC dX2_isTrue_73 (by decide) (by omega) (fun c73 => ?_) (fun c73 => ?_)
        · refine w_iconst (pc := 80) hC dX2_isTrue_80 ?_
          refine w_iret (pc := 81) hC hRT dX2_isTrue_81 rfl ?_
          refine ⟨retI (by first | (rw [tst_a (by omega)]; first | exact (bI_t (by omega)).symm | exact (bI_f (by omega)).symm) | (rw [tst_b (by omega)]; first | exact (bI_t (by omega)).symm | exact (bI_f (by omega)).symm) | (rw [tst_c (by omega) (by omega)]; first | exact (bI_t (by omega)).symm | exact (bI_f (by omega)).symm)), rfl⟩
        · refine w_iconst (pc := 76) hC dX2_isTrue_76 ?_
          refine w_goto (pc := 77) hC dX2_isTrue_77 (tgt := 81) (by decide) ?_
          refine w_iret (pc := 81) hC hRT dX2_isTrue_81 rfl ?_
          refine ⟨retI (by first | (rw [tst_a (by omega)]; first | exact (bI_t (by omega)).symm | exact (bI_f (by omega)).symm) | (rw [tst_b (by omega)]; first | exact (bI_t (by omega)).symm | exact (bI_f (by omega)).symm) | (rw [tst_c (by omega) (by omega)]; first | exact (bI_t (by omega)).symm | exact (bI_f (by omega)).symm)), rfl⟩
      · refine w_lookup (pc := 29) (tgt := 82) (off := 53) hC dX2_isTrue_29 (by omega) (by decide) (by simp [Op.lookupswitch.offset, Ne.symm c29.1, Ne.symm c29.2]) (by decide) ?_
        refine w_aload_n (pc := 82) hC dX2_isTrue_82 3 rfl rfl ?_
        refine w_iload_n (pc := 83) hC dX2_isTrue_83 1 rfl rfl ?_
        refine w_ialdV (pc := 84) (g := (I 23)) (v := bf (s % 8)) hC dX2_isTrue_84 23 CW_23 (by omega) (Nat.le_of_ble_eq_true rfl) ((congrArg (I 23) (show (te / 300) = s % 8 by omega)).trans (hbf (s % 8) (by omega) (by omega)).1) ?_
        refine w_iload_n (pc := 85) hC dX2_isTrue_85 0 rfl rfl ?_
        refine w_icmp_le (pc := 86) (tgt := 93) hC dX2_isTrue_86 (by decide) (by omega) (fun c86 => ?_) (fun c86 => ?_)
        · refine w_iconst (pc := 93) hC dX2_isTrue_93 ?_
          refine w_iret (pc := 94) hC hRT dX2_isTrue_94 rfl ?_
          refine ⟨retI (by first | (rw [tst_a (by omega)]; first | exact (bI_t (by omega)).symm | exact (bI_f (by omega)).symm) | (rw [tst_b (by omega)]; first | exact (bI_t (by omega)).symm | exact (bI_f (by omega)).symm) | (rw [tst_c (by omega) (by omega)]; first | exact (bI_t (by omega)).symm | exact (bI_f (by omega)).symm)), rfl⟩
        · refine w_iconst (pc := 89) hC dX2_isTrue_89 ?_
          refine w_goto (pc := 90) hC dX2_isTrue_90 (tgt := 94) (by decide) ?_
          refine w_iret (pc := 94) hC hRT dX2_isTrue_94 rfl ?_
          refine ⟨retI (by first | (rw [tst_a (by omega)]; first | exact (bI_t (by omega)).symm | exact (bI_f (by omega)).symm) | (rw [tst_b (by omega)]; first | exact (bI_t (by omega)).symm | exact (bI_f (by omega)).symm) | (rw [tst_c (by omega) (by omega)]; first | exact (bI_t (by omega)).symm | exact (bI_f (by omega)).symm)), rfl⟩
    · refine w_iconst (pc := 16) hC dX2_isTrue_16 ?_
      refine w_iret (pc := 17) hC hRT dX2_isTrue_17 rfl ?_
      refine ⟨retI (by first | (rw [tst_a (by omega)]; first | exact (bI_t (by omega)).symm | exact (bI_f (by omega)).symm) | (rw [tst_b (by omega)]; first | exact (bI_t (by omega)).symm | exact (bI_f (by omega)).symm) | (rw [tst_c (by omega) (by omega)]; first | exact (bI_t (by omega)).symm | exact (bI_f (by omega)).symm)), rfl⟩
set_option maxRecDepth 100000 in
set_option maxHeartbeats 4000000 in
theorem c_X2_worth (l : Launch) (G : GT) (A D : Nat → Nat) (T : Nat) (I : Nat → Int → Int) (F : Nat → Int) (Q : Nat → Nat → Option Nat) (P : va_W) (S : Int → Int) (c : Int) (qb : Nat) (h : Int) (hc : 0 ≤ c ∧ c < S 1) (hcl : CLB P G.2.1 S c qb) (hR : RI S) (hh : 0 ≤ h ∧ h < 6) : CT l yX2_worth cX2_worth 2 (some .int) 0 0 0 G [.ref qb, .int (J h)] (CW A D T G.2.1 I F Q P) (fun vo wo => vo = some (.int (J (if S (183 + c) = 2 then 1 else h))) ∧ wo = CW A D T G.2.1 I F Q P) := by
  refine CT_of (own := RX2) rfl rfl (Nat.le_of_ble_eq_true rfl) (fun K hl hnL hC hRT hin => ?_)
  subst hl
  show WW K G 0 0 (CW A D T G.2.1 I F Q P) 0 [(0, .ref qb), (1, .int (J h))] []
  have hcl2 := hcl
  obtain ⟨i, j, qc, g, hq, hqc, hg⟩ := hcl2
  have hw := hR.wi (183 + c) (by have := hR.cl; omega) (by have := hR.cl; omega)
  refine w_aload_n (pc := 0) hC dX2_worth_0 0 rfl rfl ?_
  refine w_getf (pc := 1) (v := .int (J (S (183 + c)))) hC dX2_worth_1 fi_X2_13 (60 + i) (CW_P hq) rfl ?_
  refine w_iconst (pc := 4) hC dX2_worth_4 ?_
  refine w_icmp_ne (pc := 5) (tgt := 12) hC dX2_worth_5 (by decide) (by omega) (fun c5 => ?_) (fun c5 => ?_)
  · refine w_iload_n (pc := 12) hC dX2_worth_12 1 rfl rfl ?_
    refine w_iret (pc := 13) hC hRT dX2_worth_13 rfl ?_
    refine ⟨retI (by first | rw [if_pos (by omega)] | rw [if_neg (by omega)]), rfl⟩
  · refine w_iconst (pc := 8) hC dX2_worth_8 ?_
    refine w_goto (pc := 9) hC dX2_worth_9 (tgt := 13) (by decide) ?_
    refine w_iret (pc := 13) hC hRT dX2_worth_13 rfl ?_
    refine ⟨retI (by first | rw [if_pos (by omega)] | rw [if_neg (by omega)]), rfl⟩
set_option maxRecDepth 100000 in
set_option maxHeartbeats 4000000 in
theorem c_X2_climb_v2 (l : Launch) (G : GT) (A D : Nat → Nat) (T : Nat) (I : Nat → Int → Int) (F : Nat → Int) (Q : Nat → Nat → Option Nat) (P : va_W) (S : Int → Int) (c : Int) (b : Int) (qb : Nat) (pf : Int) (pt : Int) (hc : 0 ≤ c ∧ c < S 1) (hcl : CLB P G.2.1 S c qb) (hR : RI S) (hV : VB (S 0) b) (hB : ∀ r : Int, 0 ≤ r → r < S 0 → (I 2) r = dg b r) (hf : 0 ≤ pt ∧ pt < pf ∧ pf < S 0) : CT l yX2_climb cX2_climb 4 none 1 0 0 G [.ref qb, .ref (A 2), .int (J pf), .int (J pt)] (CW A D T G.2.1 I F Q P) (fun vo wo => ∃ (b2 : Int → Int), vo = none ∧ wo = CW A D T G.2.1 (au I 2 b2) F Q P ∧ (∀ zq : Int, 0 ≤ zq → zq < S 0 → b2 zq = dg (WON S c b (dg b pf) (dg b pt)) zq)) := by
  refine CT_of (own := RX2) rfl rfl (Nat.le_of_ble_eq_true rfl) (fun K hl hnL hC hRT hin => ?_)
  subst hl
  show WW K G 0 0 (CW A D T G.2.1 I F Q P) 0 [(0, .ref qb), (1, .ref (A 2)), (2, .int (J pf)), (3, .int (J pt))] []
  have hcl2 := hcl
  obtain ⟨i, j, qc, g, hq, hqc, hg⟩ := hcl2
  have hn := hR.n
  have hw := hR.wi (183 + c) (by have := hR.cl; omega) (by have := hR.cl; omega)
  refine w_aload_n (pc := 0) hC dX2_climb_0 0 rfl rfl ?_
  refine w_getf (pc := 1) (v := .int (J (S (183 + c)))) hC dX2_climb_1 fi_X2_13 (60 + i) (CW_P hq) rfl ?_
  refine w_iconst (pc := 4) hC dX2_climb_4 ?_
  refine w_icmp_ne (pc := 5) (tgt := 17) hC dX2_climb_5 (by decide) (by omega) (fun c5 => ?_) (fun c5 => ?_)
  · refine w_aload_n (pc := 17) hC dX2_climb_17 1 rfl rfl ?_
    refine w_iload_n (pc := 18) hC dX2_climb_18 2 rfl rfl ?_
    refine w_iload_n (pc := 19) hC dX2_climb_19 2 rfl rfl ?_
    refine w_aload_n (pc := 20) hC dX2_climb_20 0 rfl rfl ?_
    refine w_iload_n (pc := 21) hC dX2_climb_21 2 rfl rfl ?_
    refine w_iload_n (pc := 22) hC dX2_climb_22 3 rfl rfl ?_
    refine w_isub (pc := 23) hC dX2_climb_23 ?_
    refine w_callV (pc := 24) (As := [.int (J (pf - pt))]) (rest := [.int (J pf), .int (J pf), .ref (A 2)]) hC dX2_climb_24 cv_X2_30 (c_X2_worth (kl K) G A D T I F Q P S c qb (pf - pt) (show 0 ≤ c ∧ c < S 1 from by first | assumption | omega) (show CLB P G.2.1 S c qb from by first | assumption | omega) (show RI S from by first | assumption | omega) (show 0 ≤ (pf - pt) ∧ (pf - pt) < 6 from by first | assumption | omega)) (by decide) ⟨Nat.le_of_ble_eq_true rfl, Nat.le_of_ble_eq_true rfl⟩ (q0 := (60 + i)) (CW_P hq) rfl rfl rfl (Nat.le_of_ble_eq_true rfl) rfl (fun vo wo hv => ?_)
    obtain ⟨hv1, hw1⟩ := hv
    rw [hv1, hw1]
    show WW K G 0 0 (CW A D T G.2.1 I F Q P) 27 [(0, .ref qb), (1, .ref (A 2)), (2, .int (J pf)), (3, .int (J pt))] [.int (J (if S (183 + c) = 2 then 1 else (pf - pt))), .int (J pf), .int (J pf), .ref (A 2)]
    refine w_isub (pc := 27) hC dX2_climb_27 ?_
    refine w_callSN (pc := 28) (As := [.ref (A 2), .int (J pf), .int (J (pf - (if S (183 + c) = 2 then 1 else (pf - pt))))]) (rest := []) hC dX2_climb_28 sn_X2_34 (c_X11_move_v2 (kl K) G A D T I F Q P pf (pf - (if S (183 + c) = 2 then 1 else (pf - pt))) (show 0 ≤ pf ∧ pf < 6 from by first | assumption | omega) (show 0 ≤ (pf - (if S (183 + c) = 2 then 1 else (pf - pt))) ∧ (pf - (if S (183 + c) = 2 then 1 else (pf - pt))) < 6 from by first | assumption | omega)) (by decide) ⟨Nat.le_of_ble_eq_true rfl, Nat.le_of_ble_eq_true rfl⟩ rfl (Nat.le_of_ble_eq_true rfl) rfl (fun vo wo hv => ?_)
    obtain ⟨b2_28, hv1, hw1, r28⟩ := hv
    rw [hv1, hw1]
    show WW K G 0 0 (CW A D T G.2.1 (au I 2 b2_28) F Q P) 31 [(0, .ref qb), (1, .ref (A 2)), (2, .int (J pf)), (3, .int (J pt))] []
    have r28 : ∀ zq : Int, b2_28 zq = (I 2) (mvi pf (pf - (if S (183 + c) = 2 then 1 else (pf - pt))) zq) := r28
    refine w_vret (pc := 31) hC hRT dX2_climb_31 ?_
    refine ⟨b2_28, rfl, rfl, ?_⟩
    · first | exact cl_sw (by omega) hn hV hf hB r11 | exact cl_mv (by omega) hn hV hf hB r28
  · refine w_aload_n (pc := 8) hC dX2_climb_8 1 rfl rfl ?_
    refine w_iload_n (pc := 9) hC dX2_climb_9 2 rfl rfl ?_
    refine w_iload_n (pc := 10) hC dX2_climb_10 3 rfl rfl ?_
    refine w_callSN (pc := 11) (As := [.ref (A 2), .int (J pf), .int (J pt)]) (rest := []) hC dX2_climb_11 sn_X2_24 (c_X11_swap_v2 (kl K) G A D T I F Q P pf pt (show 0 ≤ pf ∧ pf < 6 from by first | assumption | omega) (show 0 ≤ pt ∧ pt < 6 from by first | assumption | omega)) (by decide) ⟨Nat.le_of_ble_eq_true rfl, Nat.le_of_ble_eq_true rfl⟩ rfl (Nat.le_of_ble_eq_true rfl) rfl (fun vo wo hv => ?_)
    obtain ⟨b2_11, hv1, hw1, r11⟩ := hv
    rw [hv1, hw1]
    show WW K G 0 0 (CW A D T G.2.1 (au I 2 b2_11) F Q P) 14 [(0, .ref qb), (1, .ref (A 2)), (2, .int (J pf)), (3, .int (J pt))] []
    have r11 : ∀ zq : Int, b2_11 zq = (I 2) (swi pf pt zq) := r11
    refine w_goto (pc := 14) hC dX2_climb_14 (tgt := 31) (by decide) ?_
    refine w_vret (pc := 31) hC hRT dX2_climb_31 ?_
    refine ⟨b2_11, rfl, rfl, ?_⟩
    · first | exact cl_sw (by omega) hn hV hf hB r11 | exact cl_mv (by omega) hn hV hf hB r28
set_option maxRecDepth 100000 in
set_option maxHeartbeats 4000000 in
theorem c_X2_climb_v54 (l : Launch) (G : GT) (A D : Nat → Nat) (T : Nat) (I : Nat → Int → Int) (F : Nat → Int) (Q : Nat → Nat → Option Nat) (P : va_W) (S : Int → Int) (c : Int) (b : Int) (qb : Nat) (pf : Int) (pt : Int) (hc : 0 ≤ c ∧ c < S 1) (hcl : CLB P G.2.1 S c qb) (hR : RI S) (hV : VB (S 0) b) (hB : ∀ r : Int, 0 ≤ r → r < S 0 → (I 54) r = dg b r) (hf : 0 ≤ pt ∧ pt < pf ∧ pf < S 0) : CT l yX2_climb cX2_climb 4 none 1 0 0 G [.ref qb, .ref (A 54), .int (J pf), .int (J pt)] (CW A D T G.2.1 I F Q P) (fun vo wo => ∃ (b54 : Int → Int), vo = none ∧ wo = CW A D T G.2.1 (au I 54 b54) F Q P ∧ (∀ zq : Int, 0 ≤ zq → zq < S 0 → b54 zq = dg (WON S c b (dg b pf) (dg b pt)) zq)) := by
  refine CT_of (own := RX2) rfl rfl (Nat.le_of_ble_eq_true rfl) (fun K hl hnL hC hRT hin => ?_)
  subst hl
  show WW K G 0 0 (CW A D T G.2.1 I F Q P) 0 [(0, .ref qb), (1, .ref (A 54)), (2, .int (J pf)), (3, .int (J pt))] []
  have hcl2 := hcl
  obtain ⟨i, j, qc, g, hq, hqc, hg⟩ := hcl2
  have hn := hR.n
  have hw := hR.wi (183 + c) (by have := hR.cl; omega) (by have := hR.cl; omega)
  refine w_aload_n (pc := 0) hC dX2_climb_0 0 rfl rfl ?_
  refine w_getf (pc := 1) (v := .int (J (S (183 + c)))) hC dX2_climb_1 fi_X2_13 (60 + i) (CW_P hq) rfl ?_
  refine w_iconst (pc := 4) hC dX2_climb_4 ?_
  refine w_icmp_ne (pc := 5) (tgt := 17) hC dX2_climb_5 (by decide) (by omega) (fun c5 => ?_) (fun c5 => ?_)
  · refine w_aload_n (pc := 17) hC dX2_climb_17 1 rfl rfl ?_
    refine w_iload_n (pc := 18) hC dX2_climb_18 2 rfl rfl ?_
    refine w_iload_n (pc := 19) hC dX2_climb_19 2 rfl rfl ?_
    refine w_aload_n (pc := 20) hC dX2_climb_20 0 rfl rfl ?_
    refine w_iload_n (pc := 21) hC dX2_climb_21 2 rfl rfl ?_
    refine w_iload_n (pc := 22) hC dX2_climb_22 3 rfl rfl ?_
    refine w_isub (pc := 23) hC dX2_climb_23 ?_
    refine w_callV (pc := 24) (As := [.int (J (pf - pt))]) (rest := [.int (J pf), .int (J pf), .ref (A 54)]) hC dX2_climb_24 cv_X2_30 (c_X2_worth (kl K) G A D T I F Q P S c qb (pf - pt) (show 0 ≤ c ∧ c < S 1 from by first | assumption | omega) (show CLB P G.2.1 S c qb from by first | assumption | omega) (show RI S from by first | assumption | omega) (show 0 ≤ (pf - pt) ∧ (pf - pt) < 6 from by first | assumption | omega)) (by decide) ⟨Nat.le_of_ble_eq_true rfl, Nat.le_of_ble_eq_true rfl⟩ (q0 := (60 + i)) (CW_P hq) rfl rfl rfl (Nat.le_of_ble_eq_true rfl) rfl (fun vo wo hv => ?_)
    obtain ⟨hv1, hw1⟩ := hv
    rw [hv1, hw1]
    show WW K G 0 0 (CW A D T G.2.1 I F Q P) 27 [(0, .ref qb), (1, .ref (A 54)), (2, .int (J pf)), (3, .int (J pt))] [.int (J (if S (183 + c) = 2 then 1 else (pf - pt))), .int (J pf), .int (J pf), .ref (A 54)]
    refine w_isub (pc := 27) hC dX2_climb_27 ?_
    refine w_callSN (pc := 28) (As := [.ref (A 54), .int (J pf), .int (J (pf - (if S (183 + c) = 2 then 1 else (pf - pt))))]) (rest := []) hC dX2_climb_28 sn_X2_34 (c_X11_move_v54 (kl K) G A D T I F Q P pf (pf - (if S (183 + c) = 2 then 1 else (pf - pt))) (show 0 ≤ pf ∧ pf < 6 from by first | assumption | omega) (show 0 ≤ (pf - (if S (183 + c) = 2 then 1 else (pf - pt))) ∧ (pf - (if S (183 + c) = 2 then 1 else (pf - pt))) < 6 from by first | assumption | omega)) (by decide) ⟨Nat.le_of_ble_eq_true rfl, Nat.le_of_ble_eq_true rfl⟩ rfl (Nat.le_of_ble_eq_true rfl) rfl (fun vo wo hv => ?_)
    obtain ⟨b54_28, hv1, hw1, r28⟩ := hv
    rw [hv1, hw1]
    show WW K G 0 0 (CW A D T G.2.1 (au I 54 b54_28) F Q P) 31 [(0, .ref qb), (1, .ref (A 54)), (2, .int (J pf)), (3, .int (J pt))] []
    have r28 : ∀ zq : Int, b54_28 zq = (I 54) (mvi pf (pf - (if S (183 + c) = 2 then 1 else (pf - pt))) zq) := r28
    refine w_vret (pc := 31) hC hRT dX2_climb_31 ?_
    refine ⟨b54_28, rfl, rfl, ?_⟩
    · first | exact cl_sw (by omega) hn hV hf hB r11 | exact cl_mv (by omega) hn hV hf hB r28
  · refine w_aload_n (pc := 8) hC dX2_climb_8 1 rfl rfl ?_
    refine w_iload_n (pc := 9) hC dX2_climb_9 2 rfl rfl ?_
    refine w_iload_n (pc := 10) hC dX2_climb_10 3 rfl rfl ?_
    refine w_callSN (pc := 11) (As := [.ref (A 54), .int (J pf), .int (J pt)]) (rest := []) hC dX2_climb_11 sn_X2_24 (c_X11_swap_v54 (kl K) G A D T I F Q P pf pt (show 0 ≤ pf ∧ pf < 6 from by first | assumption | omega) (show 0 ≤ pt ∧ pt < 6 from by first | assumption | omega)) (by decide) ⟨Nat.le_of_ble_eq_true rfl, Nat.le_of_ble_eq_true rfl⟩ rfl (Nat.le_of_ble_eq_true rfl) rfl (fun vo wo hv => ?_)
    obtain ⟨b54_11, hv1, hw1, r11⟩ := hv
    rw [hv1, hw1]
    show WW K G 0 0 (CW A D T G.2.1 (au I 54 b54_11) F Q P) 14 [(0, .ref qb), (1, .ref (A 54)), (2, .int (J pf)), (3, .int (J pt))] []
    have r11 : ∀ zq : Int, b54_11 zq = (I 54) (swi pf pt zq) := r11
    refine w_goto (pc := 14) hC dX2_climb_14 (tgt := 31) (by decide) ?_
    refine w_vret (pc := 31) hC hRT dX2_climb_31 ?_
    refine ⟨b54_11, rfl, rfl, ?_⟩
    · first | exact cl_sw (by omega) hn hV hf hB r11 | exact cl_mv (by omega) hn hV hf hB r28
set_option maxRecDepth 100000 in
set_option maxHeartbeats 4000000 in
theorem c_X2_lets (l : Launch) (G : GT) (A D : Nat → Nat) (T : Nat) (I : Nat → Int → Int) (F : Nat → Int) (Q : Nat → Nat → Option Nat) (P : va_W) (S : Int → Int) (c : Int) (bf : Int → Int) (qb : Nat) (hc : 0 ≤ c ∧ c < S 1) (hcl : CLB P G.2.1 S c qb) (hR : RI S) (hbf : ∀ j : Int, 0 ≤ j → j < 6 → (I 23) j = bf j ∧ -2147483648 ≤ bf j ∧ bf j < 2147483648) : CT l yX2_lets cX2_lets 6 (some .boolean) 1 0 0 G [.ref qb, .ref (A 23)] (CW A D T G.2.1 I F Q P) (fun vo wo => vo = some (.int (J (bI (LET S c bf)))) ∧ wo = CW A D T G.2.1 I F Q P) := by
  refine CT_of (own := RX2) rfl rfl (Nat.le_of_ble_eq_true rfl) (fun K hl hnL hC hRT hin => ?_)
  subst hl
  show WW K G 0 0 (CW A D T G.2.1 I F Q P) 0 [(0, .ref qb), (1, .ref (A 23))] []
  have hcl2 := hcl
  obtain ⟨i, j, qc, g, hq, hqc, hg⟩ := hcl2
  have hcn := hR.cl
  have hsm := hR.sm (188 + c) (by omega) (by omega)
  have hwf := hR.wf c hc.1 hc.2
  refine w_iconst (pc := 0) hC dX2_lets_0 ?_
  refine w_istore_n (pc := 1) hC dX2_lets_1 rfl (lv2 := [(2, .int (J 0)), (0, .ref qb), (1, .ref (A 23))]) (by rw [hnL]; decide) rfl ?_
  refine w_iconst (pc := 2) hC dX2_lets_2 ?_
  refine w_istore_n (pc := 3) hC dX2_lets_3 rfl (lv2 := [(3, .int (J 0)), (2, .int (J 0)), (0, .ref qb), (1, .ref (A 23))]) (by rw [hnL]; decide) rfl ?_
  refine w_iconst (pc := 4) hC dX2_lets_4 ?_
  refine w_istore (pc := 5) hC dX2_lets_5 (lv2 := [(4, .int (J 0)), (3, .int (J 0)), (2, .int (J 0)), (0, .ref qb), (1, .ref (A 23))]) (by rw [hnL]; decide) rfl ?_
  have loop7 : ∀ (nF : Nat) (w : Int) (sh : Int) (k : Int), (0 ≤ k) → (k ≤ S (188 + c)) → (LST bf (steps S c) k w sh) → (S (188 + c) - k) < (nF : Int) → WW K G 0 0 (CW A D T G.2.1 I F Q P) 7 [(0, .ref qb), (1, .ref (A 23)), (2, .int (J w)), (3, .int (J sh)), (4, .int (J k))] [] := by
    intro nF
    induction nF with
    | zero => intro w sh k i1 i2 i3 hm7; exact absurd hm7 (by omega)
    | succ nF ih7 =>
      intro w sh k i1 i2 i3 hm7
      obtain ⟨b1, b2⟩ := LS_bd hwf i1 (by omega) i3
      refine w_iload (pc := 7) hC dX2_lets_7 4 rfl ?_
      refine w_aload_n (pc := 9) hC dX2_lets_9 0 rfl rfl ?_
      refine w_getf (pc := 10) (v := .ref qc) hC dX2_lets_10 fi_X2_16 (60 + i) (CW_P hq) rfl ?_
      refine w_alen (pc := 13) hC dX2_lets_13 (60 + j) 0 (CW_P hqc) rfl ?_
      refine w_top (e2 := S (188 + c)) (by omega) ?_
      refine w_icmp_ge (pc := 14) (tgt := 162) hC dX2_lets_14 (by decide) (by omega) (fun c14 => ?_) (fun c14 => ?_)
      · refine w_iload_n (pc := 162) hC dX2_lets_162 3 rfl rfl ?_
        refine w_if_ne (pc := 163) (tgt := 170) hC dX2_lets_163 (by decide) (by omega) (fun c163 => ?_) (fun c163 => ?_)
        · refine w_iconst (pc := 170) hC dX2_lets_170 ?_
          refine w_iret (pc := 171) hC hRT dX2_lets_171 rfl ?_
          refine ⟨retI (by have e2 := i3.2; rw [show k = S (188 + c) by omega] at e2; first | exact (bI_t (Or.inl (e2.1.symm.trans c163))).symm | exact (bI_f (fun h9 => by rcases h9 with h9 | h9; exact c163 (e2.1.trans h9); rw [e2.2] at h9; exact absurd h9 (by decide))).symm), rfl⟩
        · refine w_iconst (pc := 166) hC dX2_lets_166 ?_
          refine w_goto (pc := 167) hC dX2_lets_167 (tgt := 171) (by decide) ?_
          refine w_iret (pc := 171) hC hRT dX2_lets_171 rfl ?_
          refine ⟨retI (by have e2 := i3.2; rw [show k = S (188 + c) by omega] at e2; first | exact (bI_t (Or.inl (e2.1.symm.trans c163))).symm | exact (bI_f (fun h9 => by rcases h9 with h9 | h9; exact c163 (e2.1.trans h9); rw [e2.2] at h9; exact absurd h9 (by decide))).symm), rfl⟩
      · have g1 := WFs_i hwf i1 c14
        have g2 := cde_bd g1.1 (fun h9 => (g1.2.1 h9).2)
        have e1 : ((1 : Int)).toNat = 1 := rfl
        refine w_iload_n (pc := 17) hC dX2_lets_17 2 rfl rfl ?_
        refine w_iconst (pc := 18) hC dX2_lets_18 ?_
        refine w_iand (pc := 19) hC dX2_lets_19 (v := w % 2) (J_and1 _) ?_
        refine w_istore (pc := 20) hC dX2_lets_20 (lv2 := [(5, .int (J (w % 2))), (0, .ref qb), (1, .ref (A 23)), (2, .int (J w)), (3, .int (J sh)), (4, .int (J k))]) (by rw [hnL]; decide) rfl ?_
        refine w_aload_n (pc := 22) hC dX2_lets_22 1 rfl rfl ?_
        refine w_getf (pc := 23) (v := .ref qc) hC dX2_lets_23 fi_X2_16 (60 + i) (CW_P hq) rfl ?_
        refine w_iload (pc := 26) hC dX2_lets_26 5 rfl ?_
        refine w_ialdV (pc := 28) (g := g) (v := cde (steps S c k)) hC dX2_lets_28 (60 + j) (CW_P hqc) (by omega) (by omega) (hg _ (by omega) (by omega)) ?_
        rcases (show (cde (steps S c k)) = (-5) ∨ (cde (steps S c k)) = (-4) ∨ (cde (steps S c k)) = (-3) ∨ (cde (steps S c k)) = (-2) ∨ (cde (steps S c k)) = (-1) ∨ ((cde (steps S c k)) < (-5) ∨ (-1) < (cde (steps S c k))) by omega) with c29 | c29 | c29 | c29 | c29 | c29
        · refine w_tableIn (pc := 29) (v := (-5)) (tgt := 117) hC dX2_lets_29 c29 (by decide) rfl (by decide) ?_
          refine w_iload (pc := 117) hC dX2_lets_117 0 rfl ?_
          refine w_iconst (pc := 119) hC dX2_lets_119 ?_
          refine w_icmp_ne (pc := 120) (tgt := 125) hC dX2_lets_120 (by decide) (by omega) (fun c120 => ?_) (fun c120 => ?_)
          · refine w_iload_n (pc := 125) hC dX2_lets_125 3 rfl rfl ?_
            refine w_iconst (pc := 126) hC dX2_lets_126 ?_
            refine w_ishr (pc := 127) hC dX2_lets_127 (by omega) ?_
            refine w_top (e2 := w / 2) (by simp) ?_
            refine w_istore_n (pc := 128) hC dX2_lets_128 rfl (lv2 := [(2, .int (J (w / 2))), (5, .int (J (w % 2))), (0, .ref qb), (1, .ref (A 23)), (3, .int (J sh)), (4, .int (J k))]) (by rw [hnL]; decide) rfl ?_
            refine w_goto (pc := 129) hC dX2_lets_129 (tgt := 156) (by decide) ?_
            refine w_iinc (pc := 156) hC dX2_lets_156 (lv2 := [(4, .int (J (k + 1))), (2, .int (J (w / 2))), (5, .int (J (w % 2))), (0, .ref qb), (1, .ref (A 23)), (3, .int (J sh))]) 5 rfl (by rw [hnL]; decide) rfl ?_
            refine w_goto (pc := 159) hC dX2_lets_159 (tgt := 7) (by decide) ?_
            refine w_sub [3, 4, 1, 5, 0] (lv2 := [(0, .ref qb), (1, .ref (A 23)), (2, .int (J (w / 2))), (3, .int (J sh)), (4, .int (J (k + 1)))]) rfl ?_
            refine ih7 (w / 2) sh (k + 1) ?_ ?_ ?_ ?_
            · first | assumption | omega
            · first | assumption | omega
            · first | exact LS_push hwf i1 c14 i3 g0 ((ior2 (by omega) (by omega)).trans (by omega)) | exact LS_not hwf i1 c14 i3 (cde_neg c29 (by decide)) rfl | exact LS_two hwf i1 c14 i3 (Or.inl (cde_neg c29 (by decide))) (by rw [if_pos (cde_neg c29 (by decide))]; split <;> split <;> omega) | exact LS_two hwf i1 c14 i3 (Or.inr (cde_neg c29 (by decide))) (by rw [if_neg (by rw [cde_neg c29 (by decide)]; decide), ior_low (by omega) (by omega)]) | exact LS_shy hwf i1 c14 i3 (cde_neg c29 (by decide)) rfl (by first | rw [if_pos (by omega)] | rw [if_neg (by omega)]) | exact LS_bold hwf i1 c14 i3 (cde_neg c29 (by decide)) c120 rfl
            · omega
          · refine w_iconst (pc := 123) hC dX2_lets_123 ?_
            refine w_iret (pc := 124) hC hRT dX2_lets_124 rfl ?_
            refine ⟨retI (by exact (bI_t (Or.inr (LS_yes hwf i1 c14 i3 (cde_neg c29 (by decide)) c120))).symm), rfl⟩
        · refine w_tableIn (pc := 29) (v := (-4)) (tgt := 94) hC dX2_lets_29 c29 (by decide) rfl (by decide) ?_
          have o1 := LS_one hwf i1 c14 i3 (Or.inl (cde_neg c29 (by decide)))
          refine w_iload_n (pc := 94) hC dX2_lets_94 4 rfl rfl ?_
          refine w_if_ne (pc := 95) (tgt := 104) hC dX2_lets_95 (by decide) (by omega) (fun c95 => ?_) (fun c95 => ?_)
          · refine w_iconst (pc := 104) hC dX2_lets_104 ?_
            refine w_goto (pc := 105) hC dX2_lets_105 (tgt := 109) (by decide) ?_
            refine w_istore_n (pc := 109) hC dX2_lets_109 rfl (lv2 := [(3, .int (J 1)), (5, .int (J (w % 2))), (0, .ref qb), (1, .ref (A 23)), (2, .int (J w)), (4, .int (J k))]) (by rw [hnL]; decide) rfl ?_
            refine w_iload_n (pc := 110) hC dX2_lets_110 4 rfl rfl ?_
            refine w_iconst (pc := 111) hC dX2_lets_111 ?_
            refine w_ishr (pc := 112) hC dX2_lets_112 (by omega) ?_
            refine w_top (e2 := w / 2) (by simp) ?_
            refine w_istore_n (pc := 113) hC dX2_lets_113 rfl (lv2 := [(2, .int (J (w / 2))), (3, .int (J 1)), (5, .int (J (w % 2))), (0, .ref qb), (1, .ref (A 23)), (4, .int (J k))]) (by rw [hnL]; decide) rfl ?_
            refine w_goto (pc := 114) hC dX2_lets_114 (tgt := 156) (by decide) ?_
            refine w_iinc (pc := 156) hC dX2_lets_156 (lv2 := [(4, .int (J (k + 1))), (2, .int (J (w / 2))), (3, .int (J 1)), (5, .int (J (w % 2))), (0, .ref qb), (1, .ref (A 23))]) 5 rfl (by rw [hnL]; decide) rfl ?_
            refine w_goto (pc := 159) hC dX2_lets_159 (tgt := 7) (by decide) ?_
            refine w_sub [4, 5, 1, 2, 0] (lv2 := [(0, .ref qb), (1, .ref (A 23)), (2, .int (J (w / 2))), (3, .int (J 1)), (4, .int (J (k + 1)))]) rfl ?_
            refine ih7 (w / 2) 1 (k + 1) ?_ ?_ ?_ ?_
            · first | assumption | omega
            · first | assumption | omega
            · first | exact LS_push hwf i1 c14 i3 g0 ((ior2 (by omega) (by omega)).trans (by omega)) | exact LS_not hwf i1 c14 i3 (cde_neg c29 (by decide)) rfl | exact LS_two hwf i1 c14 i3 (Or.inl (cde_neg c29 (by decide))) (by rw [if_pos (cde_neg c29 (by decide))]; split <;> split <;> omega) | exact LS_two hwf i1 c14 i3 (Or.inr (cde_neg c29 (by decide))) (by rw [if_neg (by rw [cde_neg c29 (by decide)]; decide), ior_low (by omega) (by omega)]) | exact LS_shy hwf i1 c14 i3 (cde_neg c29 (by decide)) rfl (by first | rw [if_pos (by omega)] | rw [if_neg (by omega)]) | exact LS_bold hwf i1 c14 i3 (cde_neg c29 (by decide)) c120 rfl
            · omega
          · refine w_iload (pc := 98) hC dX2_lets_98 0 rfl ?_
            refine w_iconst (pc := 100) hC dX2_lets_100 ?_
            refine w_icmp_ne (pc := 101) (tgt := 108) hC dX2_lets_101 (by decide) (by omega) (fun c101 => ?_) (fun c101 => ?_)
            · refine w_iconst (pc := 108) hC dX2_lets_108 ?_
              refine w_istore_n (pc := 109) hC dX2_lets_109 rfl (lv2 := [(3, .int (J 0)), (5, .int (J (w % 2))), (0, .ref qb), (1, .ref (A 23)), (2, .int (J w)), (4, .int (J k))]) (by rw [hnL]; decide) rfl ?_
              refine w_iload_n (pc := 110) hC dX2_lets_110 4 rfl rfl ?_
              refine w_iconst (pc := 111) hC dX2_lets_111 ?_
              refine w_ishr (pc := 112) hC dX2_lets_112 (by omega) ?_
              refine w_top (e2 := w / 2) (by simp) ?_
              refine w_istore_n (pc := 113) hC dX2_lets_113 rfl (lv2 := [(2, .int (J (w / 2))), (3, .int (J 0)), (5, .int (J (w % 2))), (0, .ref qb), (1, .ref (A 23)), (4, .int (J k))]) (by rw [hnL]; decide) rfl ?_
              refine w_goto (pc := 114) hC dX2_lets_114 (tgt := 156) (by decide) ?_
              refine w_iinc (pc := 156) hC dX2_lets_156 (lv2 := [(4, .int (J (k + 1))), (2, .int (J (w / 2))), (3, .int (J 0)), (5, .int (J (w % 2))), (0, .ref qb), (1, .ref (A 23))]) 5 rfl (by rw [hnL]; decide) rfl ?_
              refine w_goto (pc := 159) hC dX2_lets_159 (tgt := 7) (by decide) ?_
              refine w_sub [4, 5, 1, 2, 0] (lv2 := [(0, .ref qb), (1, .ref (A 23)), (2, .int (J (w / 2))), (3, .int (J 0)), (4, .int (J (k + 1)))]) rfl ?_
              refine ih7 (w / 2) 0 (k + 1) ?_ ?_ ?_ ?_
              · first | assumption | omega
              · first | assumption | omega
              · first | exact LS_push hwf i1 c14 i3 g0 ((ior2 (by omega) (by omega)).trans (by omega)) | exact LS_not hwf i1 c14 i3 (cde_neg c29 (by decide)) rfl | exact LS_two hwf i1 c14 i3 (Or.inl (cde_neg c29 (by decide))) (by rw [if_pos (cde_neg c29 (by decide))]; split <;> split <;> omega) | exact LS_two hwf i1 c14 i3 (Or.inr (cde_neg c29 (by decide))) (by rw [if_neg (by rw [cde_neg c29 (by decide)]; decide), ior_low (by omega) (by omega)]) | exact LS_shy hwf i1 c14 i3 (cde_neg c29 (by decide)) rfl (by first | rw [if_pos (by omega)] | rw [if_neg (by omega)]) | exact LS_bold hwf i1 c14 i3 (cde_neg c29 (by decide)) c120 rfl
              · omega
            · refine w_iconst (pc := 104) hC dX2_lets_104 ?_
              refine w_goto (pc := 105) hC dX2_lets_105 (tgt := 109) (by decide) ?_
              refine w_istore_n (pc := 109) hC dX2_lets_109 rfl (lv2 := [(3, .int (J 1)), (5, .int (J (w % 2))), (0, .ref qb), (1, .ref (A 23)), (2, .int (J w)), (4, .int (J k))]) (by rw [hnL]; decide) rfl ?_
              refine w_iload_n (pc := 110) hC dX2_lets_110 4 rfl rfl ?_
              refine w_iconst (pc := 111) hC dX2_lets_111 ?_
              refine w_ishr (pc := 112) hC dX2_lets_112 (by omega) ?_
              refine w_top (e2 := w / 2) (by simp) ?_
              refine w_istore_n (pc := 113) hC dX2_lets_113 rfl (lv2 := [(2, .int (J (w / 2))), (3, .int (J 1)), (5, .int (J (w % 2))), (0, .ref qb), (1, .ref (A 23)), (4, .int (J k))]) (by rw [hnL]; decide) rfl ?_
              refine w_goto (pc := 114) hC dX2_lets_114 (tgt := 156) (by decide) ?_
              refine w_iinc (pc := 156) hC dX2_lets_156 (lv2 := [(4, .int (J (k + 1))), (2, .int (J (w / 2))), (3, .int (J 1)), (5, .int (J (w % 2))), (0, .ref qb), (1, .ref (A 23))]) 5 rfl (by rw [hnL]; decide) rfl ?_
              refine w_goto (pc := 159) hC dX2_lets_159 (tgt := 7) (by decide) ?_
              refine w_sub [4, 5, 1, 2, 0] (lv2 := [(0, .ref qb), (1, .ref (A 23)), (2, .int (J (w / 2))), (3, .int (J 1)), (4, .int (J (k + 1)))]) rfl ?_
              refine ih7 (w / 2) 1 (k + 1) ?_ ?_ ?_ ?_
              · first | assumption | omega
              · first | assumption | omega
              · first | exact LS_push hwf i1 c14 i3 g0 ((ior2 (by omega) (by omega)).trans (by omega)) | exact LS_not hwf i1 c14 i3 (cde_neg c29 (by decide)) rfl | exact LS_two hwf i1 c14 i3 (Or.inl (cde_neg c29 (by decide))) (by rw [if_pos (cde_neg c29 (by decide))]; split <;> split <;> omega) | exact LS_two hwf i1 c14 i3 (Or.inr (cde_neg c29 (by decide))) (by rw [if_neg (by rw [cde_neg c29 (by decide)]; decide), ior_low (by omega) (by omega)]) | exact LS_shy hwf i1 c14 i3 (cde_neg c29 (by decide)) rfl (by first | rw [if_pos (by omega)] | rw [if_neg (by omega)]) | exact LS_bold hwf i1 c14 i3 (cde_neg c29 (by decide)) c120 rfl
              · omega
        · refine w_tableIn (pc := 29) (v := (-3)) (tgt := 84) hC dX2_lets_29 c29 (by decide) rfl (by decide) ?_
          refine w_iload_n (pc := 84) hC dX2_lets_84 3 rfl rfl ?_
          refine w_iconst (pc := 85) hC dX2_lets_85 ?_
          refine w_ishr (pc := 86) hC dX2_lets_86 (by omega) ?_
          refine w_top (e2 := w / 2) (by simp) ?_
          refine w_iload (pc := 87) hC dX2_lets_87 0 rfl ?_
          refine w_ior (pc := 89) hC dX2_lets_89 (v := ior (w / 2) (w % 2)) (J_or (by omega)) ?_
          refine w_istore_n (pc := 90) hC dX2_lets_90 rfl (lv2 := [(2, .int (J (ior (w / 2) (w % 2)))), (5, .int (J (w % 2))), (0, .ref qb), (1, .ref (A 23)), (3, .int (J sh)), (4, .int (J k))]) (by rw [hnL]; decide) rfl ?_
          refine w_goto (pc := 91) hC dX2_lets_91 (tgt := 156) (by decide) ?_
          refine w_iinc (pc := 156) hC dX2_lets_156 (lv2 := [(4, .int (J (k + 1))), (2, .int (J (ior (w / 2) (w % 2)))), (5, .int (J (w % 2))), (0, .ref qb), (1, .ref (A 23)), (3, .int (J sh))]) 5 rfl (by rw [hnL]; decide) rfl ?_
          refine w_goto (pc := 159) hC dX2_lets_159 (tgt := 7) (by decide) ?_
          refine w_sub [3, 4, 1, 5, 0] (lv2 := [(0, .ref qb), (1, .ref (A 23)), (2, .int (J (ior (w / 2) (w % 2)))), (3, .int (J sh)), (4, .int (J (k + 1)))]) rfl ?_
          refine ih7 (ior (w / 2) (w % 2)) sh (k + 1) ?_ ?_ ?_ ?_
          · first | assumption | omega
          · first | assumption | omega
          · first | exact LS_push hwf i1 c14 i3 g0 ((ior2 (by omega) (by omega)).trans (by omega)) | exact LS_not hwf i1 c14 i3 (cde_neg c29 (by decide)) rfl | exact LS_two hwf i1 c14 i3 (Or.inl (cde_neg c29 (by decide))) (by rw [if_pos (cde_neg c29 (by decide))]; split <;> split <;> omega) | exact LS_two hwf i1 c14 i3 (Or.inr (cde_neg c29 (by decide))) (by rw [if_neg (by rw [cde_neg c29 (by decide)]; decide), ior_low (by omega) (by omega)]) | exact LS_shy hwf i1 c14 i3 (cde_neg c29 (by decide)) rfl (by first | rw [if_pos (by omega)] | rw [if_neg (by omega)]) | exact LS_bold hwf i1 c14 i3 (cde_neg c29 (by decide)) c120 rfl
          · omega
        · refine w_tableIn (pc := 29) (v := (-2)) (tgt := 71) hC dX2_lets_29 c29 (by decide) rfl (by decide) ?_
          refine w_iload_n (pc := 71) hC dX2_lets_71 3 rfl rfl ?_
          refine w_iconst (pc := 72) hC dX2_lets_72 ?_
          refine w_ishr (pc := 73) hC dX2_lets_73 (by omega) ?_
          refine w_top (e2 := w / 2) (by simp) ?_
          refine w_bipush (pc := 74) hC dX2_lets_74 (z := (-2)) rfl ?_
          refine w_iload (pc := 76) hC dX2_lets_76 0 rfl ?_
          refine w_ior (pc := 78) hC dX2_lets_78 (v := (w % 2) - 2) (J_m2or (by omega)) ?_
          refine w_iand (pc := 79) hC dX2_lets_79 (v := if ((w % 2) - 2) + 2 = 1 then (w / 2) else (w / 2) - (w / 2) % 2) ((show J (w / 2) &&& J ((w % 2) - 2) = _ from J_keep2 (by omega) (by omega))) ?_
          refine w_istore_n (pc := 80) hC dX2_lets_80 rfl (lv2 := [(2, .int (J (if ((w % 2) - 2) + 2 = 1 then (w / 2) else (w / 2) - (w / 2) % 2))), (5, .int (J (w % 2))), (0, .ref qb), (1, .ref (A 23)), (3, .int (J sh)), (4, .int (J k))]) (by rw [hnL]; decide) rfl ?_
          refine w_goto (pc := 81) hC dX2_lets_81 (tgt := 156) (by decide) ?_
          refine w_iinc (pc := 156) hC dX2_lets_156 (lv2 := [(4, .int (J (k + 1))), (2, .int (J (if ((w % 2) - 2) + 2 = 1 then (w / 2) else (w / 2) - (w / 2) % 2))), (5, .int (J (w % 2))), (0, .ref qb), (1, .ref (A 23)), (3, .int (J sh))]) 5 rfl (by rw [hnL]; decide) rfl ?_
          refine w_goto (pc := 159) hC dX2_lets_159 (tgt := 7) (by decide) ?_
          refine w_sub [3, 4, 1, 5, 0] (lv2 := [(0, .ref qb), (1, .ref (A 23)), (2, .int (J (if ((w % 2) - 2) + 2 = 1 then (w / 2) else (w / 2) - (w / 2) % 2))), (3, .int (J sh)), (4, .int (J (k + 1)))]) rfl ?_
          refine ih7 (if ((w % 2) - 2) + 2 = 1 then (w / 2) else (w / 2) - (w / 2) % 2) sh (k + 1) ?_ ?_ ?_ ?_
          · first | assumption | omega
          · first | assumption | omega
          · first | exact LS_push hwf i1 c14 i3 g0 ((ior2 (by omega) (by omega)).trans (by omega)) | exact LS_not hwf i1 c14 i3 (cde_neg c29 (by decide)) rfl | exact LS_two hwf i1 c14 i3 (Or.inl (cde_neg c29 (by decide))) (by rw [if_pos (cde_neg c29 (by decide))]; split <;> split <;> omega) | exact LS_two hwf i1 c14 i3 (Or.inr (cde_neg c29 (by decide))) (by rw [if_neg (by rw [cde_neg c29 (by decide)]; decide), ior_low (by omega) (by omega)]) | exact LS_shy hwf i1 c14 i3 (cde_neg c29 (by decide)) rfl (by first | rw [if_pos (by omega)] | rw [if_neg (by omega)]) | exact LS_bold hwf i1 c14 i3 (cde_neg c29 (by decide)) c120 rfl
          · omega
        · refine w_tableIn (pc := 29) (v := (-1)) (tgt := 64) hC dX2_lets_29 c29 (by decide) rfl (by decide) ?_
          refine w_iload_n (pc := 64) hC dX2_lets_64 3 rfl rfl ?_
          refine w_iconst (pc := 65) hC dX2_lets_65 ?_
          refine w_ixor (pc := 66) hC dX2_lets_66 (v := if w % 2 = 1 then w - 1 else w + 1) (J_xor1 (by omega)) ?_
          refine w_istore_n (pc := 67) hC dX2_lets_67 rfl (lv2 := [(2, .int (J (if w % 2 = 1 then w - 1 else w + 1))), (5, .int (J (w % 2))), (0, .ref qb), (1, .ref (A 23)), (3, .int (J sh)), (4, .int (J k))]) (by rw [hnL]; decide) rfl ?_
          refine w_goto (pc := 68) hC dX2_lets_68 (tgt := 156) (by decide) ?_
          refine w_iinc (pc := 156) hC dX2_lets_156 (lv2 := [(4, .int (J (k + 1))), (2, .int (J (if w % 2 = 1 then w - 1 else w + 1))), (5, .int (J (w % 2))), (0, .ref qb), (1, .ref (A 23)), (3, .int (J sh))]) 5 rfl (by rw [hnL]; decide) rfl ?_
          refine w_goto (pc := 159) hC dX2_lets_159 (tgt := 7) (by decide) ?_
          refine w_sub [3, 4, 1, 5, 0] (lv2 := [(0, .ref qb), (1, .ref (A 23)), (2, .int (J (if w % 2 = 1 then w - 1 else w + 1))), (3, .int (J sh)), (4, .int (J (k + 1)))]) rfl ?_
          refine ih7 (if w % 2 = 1 then w - 1 else w + 1) sh (k + 1) ?_ ?_ ?_ ?_
          · first | assumption | omega
          · first | assumption | omega
          · first | exact LS_push hwf i1 c14 i3 g0 ((ior2 (by omega) (by omega)).trans (by omega)) | exact LS_not hwf i1 c14 i3 (cde_neg c29 (by decide)) rfl | exact LS_two hwf i1 c14 i3 (Or.inl (cde_neg c29 (by decide))) (by rw [if_pos (cde_neg c29 (by decide))]; split <;> split <;> omega) | exact LS_two hwf i1 c14 i3 (Or.inr (cde_neg c29 (by decide))) (by rw [if_neg (by rw [cde_neg c29 (by decide)]; decide), ior_low (by omega) (by omega)]) | exact LS_shy hwf i1 c14 i3 (cde_neg c29 (by decide)) rfl (by first | rw [if_pos (by omega)] | rw [if_neg (by omega)]) | exact LS_bold hwf i1 c14 i3 (cde_neg c29 (by decide)) c120 rfl
          · omega
        · refine w_tableOut (pc := 29) (tgt := 132) hC dX2_lets_29 (by omega) c29 (by decide) ?_
          have g0 := cde_nn (s := steps S c k) (by omega)
          have g3 := g1.2.1 g0
          have g4 := tst_01 bf (steps S c k)
          refine w_iload_n (pc := 132) hC dX2_lets_132 3 rfl rfl ?_
          refine w_iconst (pc := 133) hC dX2_lets_133 ?_
          refine w_ishl (pc := 134) hC dX2_lets_134 (by omega) ?_
          refine w_top (e2 := w * 2) (by simp) ?_
          refine w_aload_n (pc := 135) hC dX2_lets_135 1 rfl rfl ?_
          refine w_getf (pc := 136) (v := .ref qc) hC dX2_lets_136 fi_X2_16 (60 + i) (CW_P hq) rfl ?_
          refine w_iload (pc := 139) hC dX2_lets_139 5 rfl ?_
          refine w_ialdV (pc := 141) (g := g) (v := cde (steps S c k)) hC dX2_lets_141 (60 + j) (CW_P hqc) (by omega) (by omega) (hg _ (by omega) (by omega)) ?_
          refine w_aload_n (pc := 142) hC dX2_lets_142 2 rfl rfl ?_
          refine w_callS (pc := 143) (As := [.int (J (cde (steps S c k))), .ref (A 23)]) (rest := [.int (J (w * 2))]) hC dX2_lets_143 cs_X2_20 (c_X2_isTrue (kl K) G A D T I F Q P (steps S c k) bf (cde (steps S c k)) (show (cde (steps S c k)) = cde (steps S c k) from by rfl) (show 0 ≤ (steps S c k) ∧ (steps S c k) % 8 < 6 ∧ (steps S c k) / 8 % 4 < 3 ∧ (steps S c k) / 32 ≤ 99 from by exact ⟨g0, g3.2⟩) (show ∀ j : Int, 0 ≤ j → j < 6 → (I 23) j = bf j ∧ -2147483648 ≤ bf j ∧ bf j < 2147483648 from by exact hbf)) (by decide) ⟨Nat.le_of_ble_eq_true rfl, Nat.le_of_ble_eq_true rfl⟩ rfl (Nat.le_of_ble_eq_true rfl) rfl (fun vo wo hv => ?_)
          obtain ⟨hv1, hw1⟩ := hv
          rw [hv1, hw1]
          show WW K G 0 0 (CW A D T G.2.1 I F Q P) 146 [(5, .int (J (w % 2))), (0, .ref qb), (1, .ref (A 23)), (2, .int (J w)), (3, .int (J sh)), (4, .int (J k))] [.int (J (tst bf (steps S c k))), .int (J (w * 2))]
          have q143_0 := tst_01 bf (steps S c k)
          refine w_if_eq (pc := 146) (tgt := 153) hC dX2_lets_146 (by decide) (by omega) (fun c146 => ?_) (fun c146 => ?_)
          · refine w_iconst (pc := 153) hC dX2_lets_153 ?_
            refine w_ior (pc := 154) hC dX2_lets_154 (v := ior (w * 2) 0) (J_or (by omega)) ?_
            refine w_istore_n (pc := 155) hC dX2_lets_155 rfl (lv2 := [(2, .int (J (ior (w * 2) 0))), (5, .int (J (w % 2))), (0, .ref qb), (1, .ref (A 23)), (3, .int (J sh)), (4, .int (J k))]) (by rw [hnL]; decide) rfl ?_
            refine w_iinc (pc := 156) hC dX2_lets_156 (lv2 := [(4, .int (J (k + 1))), (2, .int (J (ior (w * 2) 0))), (5, .int (J (w % 2))), (0, .ref qb), (1, .ref (A 23)), (3, .int (J sh))]) 5 rfl (by rw [hnL]; decide) rfl ?_
            refine w_goto (pc := 159) hC dX2_lets_159 (tgt := 7) (by decide) ?_
            refine w_sub [3, 4, 1, 5, 0] (lv2 := [(0, .ref qb), (1, .ref (A 23)), (2, .int (J (ior (w * 2) 0))), (3, .int (J sh)), (4, .int (J (k + 1)))]) rfl ?_
            refine ih7 (ior (w * 2) 0) sh (k + 1) ?_ ?_ ?_ ?_
            · first | assumption | omega
            · first | assumption | omega
            · first | exact LS_push hwf i1 c14 i3 g0 ((ior2 (by omega) (by omega)).trans (by omega)) | exact LS_not hwf i1 c14 i3 (cde_neg c29 (by decide)) rfl | exact LS_two hwf i1 c14 i3 (Or.inl (cde_neg c29 (by decide))) (by rw [if_pos (cde_neg c29 (by decide))]; split <;> split <;> omega) | exact LS_two hwf i1 c14 i3 (Or.inr (cde_neg c29 (by decide))) (by rw [if_neg (by rw [cde_neg c29 (by decide)]; decide), ior_low (by omega) (by omega)]) | exact LS_shy hwf i1 c14 i3 (cde_neg c29 (by decide)) rfl (by first | rw [if_pos (by omega)] | rw [if_neg (by omega)]) | exact LS_bold hwf i1 c14 i3 (cde_neg c29 (by decide)) c120 rfl
            · omega
          · refine w_iconst (pc := 149) hC dX2_lets_149 ?_
            refine w_goto (pc := 150) hC dX2_lets_150 (tgt := 154) (by decide) ?_
            refine w_ior (pc := 154) hC dX2_lets_154 (v := ior (w * 2) 1) (J_or (by omega)) ?_
            refine w_istore_n (pc := 155) hC dX2_lets_155 rfl (lv2 := [(2, .int (J (ior (w * 2) 1))), (5, .int (J (w % 2))), (0, .ref qb), (1, .ref (A 23)), (3, .int (J sh)), (4, .int (J k))]) (by rw [hnL]; decide) rfl ?_
            refine w_iinc (pc := 156) hC dX2_lets_156 (lv2 := [(4, .int (J (k + 1))), (2, .int (J (ior (w * 2) 1))), (5, .int (J (w % 2))), (0, .ref qb), (1, .ref (A 23)), (3, .int (J sh))]) 5 rfl (by rw [hnL]; decide) rfl ?_
            refine w_goto (pc := 159) hC dX2_lets_159 (tgt := 7) (by decide) ?_
            refine w_sub [3, 4, 1, 5, 0] (lv2 := [(0, .ref qb), (1, .ref (A 23)), (2, .int (J (ior (w * 2) 1))), (3, .int (J sh)), (4, .int (J (k + 1)))]) rfl ?_
            refine ih7 (ior (w * 2) 1) sh (k + 1) ?_ ?_ ?_ ?_
            · first | assumption | omega
            · first | assumption | omega
            · first | exact LS_push hwf i1 c14 i3 g0 ((ior2 (by omega) (by omega)).trans (by omega)) | exact LS_not hwf i1 c14 i3 (cde_neg c29 (by decide)) rfl | exact LS_two hwf i1 c14 i3 (Or.inl (cde_neg c29 (by decide))) (by rw [if_pos (cde_neg c29 (by decide))]; split <;> split <;> omega) | exact LS_two hwf i1 c14 i3 (Or.inr (cde_neg c29 (by decide))) (by rw [if_neg (by rw [cde_neg c29 (by decide)]; decide), ior_low (by omega) (by omega)]) | exact LS_shy hwf i1 c14 i3 (cde_neg c29 (by decide)) rfl (by first | rw [if_pos (by omega)] | rw [if_neg (by omega)]) | exact LS_bold hwf i1 c14 i3 (cde_neg c29 (by decide)) c120 rfl
            · omega
  refine w_sub [3, 4, 2, 1, 0] (lv2 := [(0, .ref qb), (1, .ref (A 23)), (2, .int (J 0)), (3, .int (J 0)), (4, .int (J 0))]) rfl ?_
  refine loop7 ((S (188 + c) - 0) + 1 : Int).toNat 0 0 0 ?_ ?_ ?_ ?_
  · first | assumption | omega
  · first | assumption | omega
  · exact ⟨rfl, rfl, rfl⟩
  · omega
