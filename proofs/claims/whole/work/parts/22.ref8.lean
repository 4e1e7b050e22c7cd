
theorem p2le {d : Int} (h1 : 0 ≤ d) (h2 : d ≤ 6) : 1 ≤ (2 : Int) ^ d.toNat ∧ (d ≤ 5 → (2 : Int) ^ d.toNat ≤ 32) ∧ (2 : Int) ^ d.toNat ≤ 64 := by
  have : d.toNat = 0 ∨ d.toNat = 1 ∨ d.toNat = 2 ∨ d.toNat = 3 ∨ d.toNat = 4 ∨ d.toNat = 5 ∨ d.toNat = 6 ∧ d = 6 := by omega
  rcases this with e | e | e | e | e | e | ⟨e, e2⟩ <;> rw [e] <;> refine ⟨by decide, fun g => ?_, by decide⟩ <;> first | decide | omega
theorem p100le {d : Int} (h1 : 0 ≤ d) (h2 : d ≤ 5) : 1 ≤ (100 : Int) ^ d.toNat ∧ (100 : Int) ^ d.toNat ≤ 10000000000 := by
  have : d.toNat = 0 ∨ d.toNat = 1 ∨ d.toNat = 2 ∨ d.toNat = 3 ∨ d.toNat = 4 ∨ d.toNat = 5 := by omega
  rcases this with e | e | e | e | e | e <;> rw [e] <;> decide
/-- a sum of parts between 0 and c of the whole -/
theorem isum_rng {f B W : Int → Int} {m c : Int} (h : LK B W m) (hf : ∀ k : Int, 0 ≤ k → k < m → 0 ≤ f (B k) ∧ f (B k) ≤ c) : 0 ≤ isum f B W m.toNat ∧ isum f B W m.toNat ≤ isum one1 B W m.toNat * c := by
  refine ⟨isum_nn (fun k h1 h2 => ⟨(hf k h1 (by omega)).1, by have := h.2.2 k h1 (by omega); omega⟩), ?_⟩
  rw [← isum_mul]
  refine isum_le (fun k h1 h2 => ⟨?_, by have := h.2.2 k h1 (by omega); omega⟩)
  show f (B k) ≤ 1 * c
  have := (hf k h1 (by omega)).2
  omega
theorem LK_pos {B W : Int → Int} {m : Int} (h : LK B W m) (ht : 1 ≤ isum one1 B W m.toNat) : 1 ≤ m := by
  have h1 := h.1
  apply Decidable.byContradiction
  intro g
  rw [show m.toNat = 0 by omega] at ht
  unfold isum at ht
  omega
theorem bI_01 (p : Prop) [Decidable p] : 0 ≤ bI p ∧ bI p ≤ 1 := by
  unfold bI
  split <;> omega
def NOL : Int := -9223372036854775808
def v_share (S : Int → Int) (c n a r p : Int) : Int := if ¬ (0 ≤ c ∧ c < S 1) ∨ ¬ (0 ≤ n ∧ n ≤ 6) ∨ ¬ (0 ≤ a ∧ a < S 0) ∨ ¬ (0 ≤ r ∧ r < S 0) ∨ ¬ (0 ≤ p ∧ p ≤ 1) then NOL else LOW (EXP S c (-1) (-7) n.toNat (fun b => bI (dg b r = a)) (S 6)) (100 ^ n.toNat) p
def v_truly (S : Int → Int) (c n p : Int) : Int := if ¬ (0 ≤ c ∧ c < S 1) ∨ ¬ (0 ≤ n ∧ n ≤ 6) ∨ ¬ (0 ≤ p ∧ p ≤ 1) ∨ S 0 = 0 then NOL else LOW (EXP S c (-1) (-7) n.toNat (fun b => bI (b = TB S)) (S 6)) (100 ^ n.toNat) p
def v_mean (S : Int → Int) (c n a p : Int) : Int := if ¬ (0 ≤ c ∧ c < S 1) ∨ ¬ (0 ≤ n ∧ n ≤ 6) ∨ ¬ (0 ≤ a ∧ a < S 0) ∨ ¬ (0 ≤ p ∧ p ≤ 1) then NOL else LOW (EXP S c (-1) (-7) n.toNat (fun b => rk (S 0) b a) (S 6)) (100 ^ n.toNat) p
def VLIK (S : Int → Int) (c n r z : Int) : Prop := if ¬ (0 ≤ c ∧ c < S 1) ∨ ¬ (0 ≤ r ∧ r < S 0) then z = -1 else if ¬ (0 ≤ n ∧ n ≤ 6) then z = -2 else ∃ b : Int, LIK (S 0) (WT S c (-1) (-7) n (S 6)) b ∧ z = dg b r

set_option maxRecDepth 100000 in
set_option maxHeartbeats 4000000 in
theorem c_X12_days (l : Launch) (G : GT) (A : Nat → Nat) (I : Nat → Int → Int) (F : Nat → Int)  (c : Int) (board : Int) (n : Int) (first : Int) (hR : RI (I 1)) (hc : 0 ≤ c ∧ c < (I 1) 1) (h0 : 0 < (I 1) 0) (hV : VB ((I 1) 0) board) (hn : 0 ≤ n ∧ n ≤ 6) (hf : -1 ≤ (F 11) ∧ (F 11) ≤ 5) (hf1 : FST (I 1) board ((I 1) 2) first) (hff : first = -7 ∨ first = -5 ∨ (0 ≤ first ∧ first < (I 1) 0)) : CT l yX12_days cX12_days 6 none 5 0 0 G [.ref (A 0), .int (J c), .int (J board), .int (J n), .int (J first)] (MW A G.2.1 I F) (fun vo wo => ∃ (b3 : Int → Int) (b4 : Int → Int) (b5 : Int → Int) (b6 : Int → Int) (b7 : Int → Int) (b8 : Int → Int) (g16 : Int) (g17 : Int) (g18 : Int), vo = none ∧ wo = MW A G.2.1 (au (au (au (au (au (au I 3 b3) 4 b4) 5 b5) 6 b6) 7 b7) 8 b8) (fu (fu (fu F 16 g16) 17 g17) 18 g18) ∧ ((∀ f : Int → Int, isum f b5 b7 (g16).toNat = EXP (I 1) c (F 11) first n.toNat f board) ∧ LK b5 b7 g16 ∧ (∀ k : Int, 0 ≤ k → k < g16 → VB ((I 1) 0) (b5 k)) ∧ isum one1 b5 b7 (g16).toNat = g18 ∧ g18 = 100 ^ n.toNat)) := by
  refine CT_of (own := RX12) rfl rfl (Nat.le_of_ble_eq_true rfl) (fun K hl hnL hC hRT hin => ?_)
  subst hl
  show WW K G 0 0 (MW A G.2.1 I F) 0 [(0, .ref (A 0)), (1, .int (J c)), (2, .int (J board)), (3, .int (J n)), (4, .int (J first))] []
  have hS0 := hR.n
  have htd := hR.td
  have hbr := VB_rng hV
  refine w_aload_n (pc := 0) hC dX12_days_0 0 rfl rfl ?_
  refine w_iconst (pc := 1) hC dX12_days_1 ?_
  refine w_putf (pc := 2) (w2 := MW A G.2.1 I (fu F 16 1)) hC dX12_days_2 fi_X12_178 fp_X12_16 rfl 0 rfl (rfl) (rfl) (Nat.le_of_ble_eq_true rfl) rfl ?_
  refine w_aload_n (pc := 5) hC dX12_days_5 0 rfl rfl ?_
  refine w_getf (pc := 6) (v := .ref (A 5)) hC dX12_days_6 fi_X12_29 0 rfl rfl ?_
  refine w_iconst (pc := 9) hC dX12_days_9 ?_
  refine w_iload_n (pc := 10) hC dX12_days_10 2 rfl rfl ?_
  refine w_iast (pc := 11) (g := (I 5)) (w2 := MW A G.2.1 (au I 5 (gu (I 5) 0 board)) (fu F 16 1)) hC dX12_days_11 5 rfl (by omega) (Nat.le_of_ble_eq_true rfl) rfl ?_
  generalize h11 : gu (I 5) 0 board = s11
  refine w_aload_n (pc := 12) hC dX12_days_12 0 rfl rfl ?_
  refine w_getf (pc := 13) (v := .ref (A 7)) hC dX12_days_13 fi_X12_35 0 rfl rfl ?_
  refine w_iconst (pc := 16) hC dX12_days_16 ?_
  refine w_lconst (pc := 17) hC dX12_days_17 (z := 1) rfl ?_
  refine w_last (pc := 18) (g := (I 7)) (w2 := MW A G.2.1 (au (au I 5 s11) 7 (gu (I 7) 0 1)) (fu F 16 1)) hC dX12_days_18 7 rfl (by omega) (Nat.le_of_ble_eq_true rfl) rfl ?_
  generalize h18 : gu (I 7) 0 1 = s18
  refine w_aload_n (pc := 19) hC dX12_days_19 0 rfl rfl ?_
  refine w_lconst (pc := 20) hC dX12_days_20 (z := 1) rfl ?_
  refine w_putf (pc := 21) (w2 := MW A G.2.1 (au (au I 5 s11) 7 s18) (fu (fu F 16 1) 18 1)) hC dX12_days_21 fi_X12_185 fp_X12_18 rfl 0 rfl (rfl) (rfl) (Nat.le_of_ble_eq_true rfl) rfl ?_
  refine w_iconst (pc := 24) hC dX12_days_24 ?_
  refine w_istore (pc := 25) hC dX12_days_25 (lv2 := [(5, .int (J 0)), (0, .ref (A 0)), (1, .int (J c)), (2, .int (J board)), (3, .int (J n)), (4, .int (J first))]) (by rw [hnL]; decide) rfl ?_
  have loop27 : ∀ (nF : Nat) (d : Int) (a3_27 : Int → Int) (a4_27 : Int → Int) (a5_27 : Int → Int) (a6_27 : Int → Int) (a7_27 : Int → Int) (a8_27 : Int → Int) (f16_27 : Int) (f17_27 : Int) (f18_27 : Int), (0 ≤ d ∧ d ≤ n) → ((∀ f : Int → Int, isum f a5_27 a7_27 f16_27.toNat = EXP (I 1) c (F 11) first d.toNat f board) ∧ LK a5_27 a7_27 f16_27 ∧ (∀ k : Int, 0 ≤ k → k < f16_27 → VB ((I 1) 0) (a5_27 k)) ∧ isum one1 a5_27 a7_27 f16_27.toNat = f18_27 ∧ f18_27 = 100 ^ d.toNat) → (f16_27 ≤ 2 ^ d.toNat) → (d = 0 → f16_27 = 1 ∧ a5_27 0 = board) → (n - d) < (nF : Int) → WW K G 0 0 (MW A G.2.1 (au (au (au (au (au (au I 3 a3_27) 4 a4_27) 5 a5_27) 6 a6_27) 7 a7_27) 8 a8_27) (fu (fu (fu F 16 f16_27) 17 f17_27) 18 f18_27)) 27 [(0, .ref (A 0)), (1, .int (J c)), (3, .int (J n)), (4, .int (J first)), (5, .int (J d))] [] := by
    intro nF
    induction nF with
    | zero => intro d a3_27 a4_27 a5_27 a6_27 a7_27 a8_27 f16_27 f17_27 f18_27 i1 i2 i3 i4 hm27; exact absurd hm27 (by omega)
    | succ nF ih27 =>
      intro d a3_27 a4_27 a5_27 a6_27 a7_27 a8_27 f16_27 f17_27 f18_27 i1 i2 i3 i4 hm27
      refine w_iload (pc := 27) hC dX12_days_27 4 rfl ?_
      refine w_iload_n (pc := 29) hC dX12_days_29 2 rfl rfl ?_
      have hcpy := 0
      refine w_icmp_ge (pc := 30) (tgt := 65) hC dX12_days_30 (by decide) (by omega) (fun c30 => ?_) (fun c30 => ?_)
      · refine w_vret (pc := 65) hC hRT dX12_days_65 ?_
        refine ⟨a3_27, a4_27, a5_27, a6_27, a7_27, a8_27, f16_27, f17_27, f18_27, rfl, rfl, ?_⟩
        · rw [show n = d by omega]; exact i2
      · have hp := p2le i1.1 (by omega)
        have hp5 := hp.2.1 (by omega)
        have hp1 := p100le i1.1 (by omega)
        have i2a := i2.1
        have i2b := i2.2.1
        have i2c := i2.2.2.1
        have i2d := i2.2.2.2.1
        have i2e := i2.2.2.2.2
        have i3a := i3
        refine w_aload_n (pc := 33) hC dX12_days_33 0 rfl rfl ?_
        refine w_iload_n (pc := 34) hC dX12_days_34 1 rfl rfl ?_
        refine w_aload_n (pc := 35) hC dX12_days_35 0 rfl rfl ?_
        refine w_getf (pc := 36) (v := .ref (A 1)) hC dX12_days_36 fi_X12_9 0 rfl rfl ?_
        refine w_iconst (pc := 39) hC dX12_days_39 ?_
        refine w_iald (pc := 40) (g := (I 1)) hC dX12_days_40 1 rfl (by omega) (Nat.le_of_ble_eq_true rfl) ?_
        refine w_iload (pc := 41) hC dX12_days_41 4 rfl ?_
        refine w_iadd (pc := 43) hC dX12_days_43 ?_
        refine w_iload (pc := 44) hC dX12_days_44 4 rfl ?_
        refine w_if_ne (pc := 46) (tgt := 54) hC dX12_days_46 (by decide) (by omega) (fun c46 => ?_) (fun c46 => ?_)
        · refine w_bipush (pc := 54) hC dX12_days_54 (z := (-7)) rfl ?_
          refine w_callV (pc := 56) (As := [.int (J c), .int (J (((I 1) 2) + d)), .int (J (-7))]) (rest := []) hC dX12_days_56 cv_X12_191 (c_X12_dayGoes (kl K) G A (au (au (au (au (au (au I 3 a3_27) 4 a4_27) 5 a5_27) 6 a6_27) 7 a7_27) 8 a8_27) (fu (fu (fu F 16 f16_27) 17 f17_27) 18 f18_27) c (((I 1) 2) + d) (-7) (show RI (I 1) from by first | assumption | omega) (show 0 ≤ c ∧ c < (I 1) 1 from by first | assumption | omega) (show 0 < (I 1) 0 from by first | assumption | omega) (show 0 ≤ (((I 1) 2) + d) ∧ (((I 1) 2) + d) ≤ 2000 from by first | assumption | omega) (show -1 ≤ (F 11) ∧ (F 11) ≤ 5 from by first | assumption | omega) (show LK a5_27 a7_27 f16_27 from by exact i2b) (show f16_27 ≤ 32 from by omega) (show ∀ k : Int, 0 ≤ k → k < f16_27 → VB ((I 1) 0) (a5_27 k) from by exact i2c) (show ∀ k : Int, 0 ≤ k → k < f16_27 → FST (I 1) (a5_27 k) (((I 1) 2) + d) (-7) from by intro k g1 g2; first | (exact Or.inl rfl) | (have h4 := i4 c46; rw [show k = 0 by omega, h4.2, c46, Int.add_zero]; exact hf1)) (show (-7) = -7 ∨ (-7) = -5 ∨ (0 ≤ (-7) ∧ (-7) < (I 1) 0) from by first | exact hff | exact Or.inl rfl) (show isum one1 a5_27 a7_27 f16_27.toNat = f18_27 from by exact i2d) (show 1 ≤ f18_27 ∧ f18_27 ≤ 10000000000 from by rw [i2e]; exact hp1)) (by decide) ⟨Nat.le_of_ble_eq_true rfl, Nat.le_of_ble_eq_true rfl⟩ (q0 := 0) rfl rfl rfl rfl (Nat.le_of_ble_eq_true rfl) rfl (fun vo wo hv => ?_)
          obtain ⟨b3_56, b4_56, b5_56, b6_56, b7_56, b8_56, g16_56, g17_56, g18_56, hv1, hw1, r56⟩ := hv
          rw [hv1, hw1]
          show WW K G 0 0 (MW A G.2.1 (au (au (au (au (au (au I 3 b3_56) 4 b4_56) 5 b5_56) 6 b6_56) 7 b7_56) 8 b8_56) (fu (fu (fu F 16 g16_56) 17 g17_56) 18 g18_56)) 59 [(0, .ref (A 0)), (1, .int (J c)), (3, .int (J n)), (4, .int (J first)), (5, .int (J d))] []
          have r56 : (∀ f : Int → Int, isum f b5_56 b7_56 (g16_56).toNat = isum (STEP (I 1) c (F 11) (((I 1) 2) + d) (-7) f) a5_27 a7_27 f16_27.toNat) ∧ LK b5_56 b7_56 g16_56 ∧ g16_56 ≤ 2 * f16_27 ∧ (∀ k : Int, 0 ≤ k → k < g16_56 → VB ((I 1) 0) (b5_56 k)) ∧ isum one1 b5_56 b7_56 (g16_56).toNat = g18_56 ∧ g18_56 = f18_27 * 100 := r56
          refine w_iinc (pc := 59) hC dX12_days_59 (lv2 := [(5, .int (J (d + 1))), (0, .ref (A 0)), (1, .int (J c)), (3, .int (J n)), (4, .int (J first))]) 4 rfl (by rw [hnL]; decide) rfl ?_
          refine w_goto (pc := 62) hC dX12_days_62 (tgt := 27) (by decide) ?_
          refine w_sub [1, 2, 3, 4, 0] (lv2 := [(0, .ref (A 0)), (1, .int (J c)), (3, .int (J n)), (4, .int (J first)), (5, .int (J (d + 1)))]) rfl ?_
          refine ih27 (d + 1) b3_56 b4_56 b5_56 b6_56 b7_56 b8_56 g16_56 g17_56 g18_56 ?_ ?_ ?_ ?_ ?_
          · first | assumption | omega
          · refine ⟨fun f => ?_, r56.2.1, r56.2.2.2.1, r56.2.2.2.2.1, ?_⟩
            · rw [r56.1, i2a, EXP_s _ _ _ _ _ i1.1]; first | rw [if_pos c46] | rw [if_neg c46]
            · rw [r56.2.2.2.2.2, i2e, p100s i1.1]
          · rw [p2s i1.1]; omega
          · intro g; omega
          · omega
        · refine w_iload (pc := 49) hC dX12_days_49 3 rfl ?_
          refine w_goto (pc := 51) hC dX12_days_51 (tgt := 56) (by decide) ?_
          refine w_callV (pc := 56) (As := [.int (J c), .int (J (((I 1) 2) + d)), .int (J first)]) (rest := []) hC dX12_days_56 cv_X12_191 (c_X12_dayGoes (kl K) G A (au (au (au (au (au (au I 3 a3_27) 4 a4_27) 5 a5_27) 6 a6_27) 7 a7_27) 8 a8_27) (fu (fu (fu F 16 f16_27) 17 f17_27) 18 f18_27) c (((I 1) 2) + d) first (show RI (I 1) from by first | assumption | omega) (show 0 ≤ c ∧ c < (I 1) 1 from by first | assumption | omega) (show 0 < (I 1) 0 from by first | assumption | omega) (show 0 ≤ (((I 1) 2) + d) ∧ (((I 1) 2) + d) ≤ 2000 from by first | assumption | omega) (show -1 ≤ (F 11) ∧ (F 11) ≤ 5 from by first | assumption | omega) (show LK a5_27 a7_27 f16_27 from by exact i2b) (show f16_27 ≤ 32 from by omega) (show ∀ k : Int, 0 ≤ k → k < f16_27 → VB ((I 1) 0) (a5_27 k) from by exact i2c) (show ∀ k : Int, 0 ≤ k → k < f16_27 → FST (I 1) (a5_27 k) (((I 1) 2) + d) first from by intro k g1 g2; first | (exact Or.inl rfl) | (have h4 := i4 c46; rw [show k = 0 by omega, h4.2, c46, Int.add_zero]; exact hf1)) (show first = -7 ∨ first = -5 ∨ (0 ≤ first ∧ first < (I 1) 0) from by first | exact hff | exact Or.inl rfl) (show isum one1 a5_27 a7_27 f16_27.toNat = f18_27 from by exact i2d) (show 1 ≤ f18_27 ∧ f18_27 ≤ 10000000000 from by rw [i2e]; exact hp1)) (by decide) ⟨Nat.le_of_ble_eq_true rfl, Nat.le_of_ble_eq_true rfl⟩ (q0 := 0) rfl rfl rfl rfl (Nat.le_of_ble_eq_true rfl) rfl (fun vo wo hv => ?_)
          obtain ⟨b3_56, b4_56, b5_56, b6_56, b7_56, b8_56, g16_56, g17_56, g18_56, hv1, hw1, r56⟩ := hv
          rw [hv1, hw1]
          show WW K G 0 0 (MW A G.2.1 (au (au (au (au (au (au I 3 b3_56) 4 b4_56) 5 b5_56) 6 b6_56) 7 b7_56) 8 b8_56) (fu (fu (fu F 16 g16_56) 17 g17_56) 18 g18_56)) 59 [(0, .ref (A 0)), (1, .int (J c)), (3, .int (J n)), (4, .int (J first)), (5, .int (J d))] []
          have r56 : (∀ f : Int → Int, isum f b5_56 b7_56 (g16_56).toNat = isum (STEP (I 1) c (F 11) (((I 1) 2) + d) first f) a5_27 a7_27 f16_27.toNat) ∧ LK b5_56 b7_56 g16_56 ∧ g16_56 ≤ 2 * f16_27 ∧ (∀ k : Int, 0 ≤ k → k < g16_56 → VB ((I 1) 0) (b5_56 k)) ∧ isum one1 b5_56 b7_56 (g16_56).toNat = g18_56 ∧ g18_56 = f18_27 * 100 := r56
          refine w_iinc (pc := 59) hC dX12_days_59 (lv2 := [(5, .int (J (d + 1))), (0, .ref (A 0)), (1, .int (J c)), (3, .int (J n)), (4, .int (J first))]) 4 rfl (by rw [hnL]; decide) rfl ?_
          refine w_goto (pc := 62) hC dX12_days_62 (tgt := 27) (by decide) ?_
          refine w_sub [1, 2, 3, 4, 0] (lv2 := [(0, .ref (A 0)), (1, .int (J c)), (3, .int (J n)), (4, .int (J first)), (5, .int (J (d + 1)))]) rfl ?_
          refine ih27 (d + 1) b3_56 b4_56 b5_56 b6_56 b7_56 b8_56 g16_56 g17_56 g18_56 ?_ ?_ ?_ ?_ ?_
          · first | assumption | omega
          · refine ⟨fun f => ?_, r56.2.1, r56.2.2.2.1, r56.2.2.2.2.1, ?_⟩
            · rw [r56.1, i2a, EXP_s _ _ _ _ _ i1.1]; first | rw [if_pos c46] | rw [if_neg c46]
            · rw [r56.2.2.2.2.2, i2e, p100s i1.1]
          · rw [p2s i1.1]; omega
          · intro g; omega
          · omega
  refine w_sub [1, 2, 4, 5, 0] (lv2 := [(0, .ref (A 0)), (1, .int (J c)), (3, .int (J n)), (4, .int (J first)), (5, .int (J 0))]) rfl ?_
  refine loop27 ((n - 0) + 1 : Int).toNat 0 (I 3) (I 4) s11 (I 6) s18 (I 8) 1 (F 17) 1 ?_ ?_ ?_ ?_ ?_
  · first | assumption | omega
  · refine ⟨fun f => ?_, ⟨by decide, fun a b g1 g2 g3 g4 _ => by omega, fun a g1 g2 => ?_⟩, fun a g1 g2 => ?_, ?_, rfl⟩
    · subst h11 h18
      show 0 + f (gu (I 5) 0 board 0) * gu (I 7) 0 1 0 = f board
      rw [gu_eq, gu_eq]; omega
    · subst h18; rw [show a = 0 by omega, gu_eq]; decide
    · subst h11; rw [show a = 0 by omega, gu_eq]; exact hV
    · subst h18; show 0 + 1 * gu (I 7) 0 1 0 = 1; rw [gu_eq]; rfl
  · decide
  · intro _; subst h11; exact ⟨rfl, gu_eq _ _ _⟩
  · omega
set_option maxRecDepth 100000 in
set_option maxHeartbeats 4000000 in
theorem c_X12_divisor (l : Launch) (G : GT) (w0 : va_W)  (a : Int) (b : Int) (ha : -1000000000000000 ≤ a ∧ a ≤ 1000000000000000) (hb : 0 ≤ b ∧ b ≤ 1000000000000000) : CT l yX12_divisor cX12_divisor 10 (some .long) 0 0 0 G [.long (JL a), .long (JL b)] w0 (fun vo wo => vo = some (.long (JL (GCD a b))) ∧ wo = w0) := by
  refine CT_of (own := RX12) rfl rfl (Nat.le_of_ble_eq_true rfl) (fun K hl hnL hC hRT hin => ?_)
  subst hl
  show WW K G 0 0 w0 0 [(0, .long (JL a)), (2, .long (JL b))] []
  refine w_lload_n (pc := 0) hC dX12_divisor_0 0 rfl rfl ?_
  refine w_lconst (pc := 1) hC dX12_divisor_1 (z := 0) rfl ?_
  refine w_lcmp (pc := 2) hC dX12_divisor_2 (by omega) ?_
  refine w_if_ge_c (pc := 3) (tgt := 11) hC dX12_divisor_3 (by decide) (fun c3 => ?_) (fun c3 => ?_)
  · refine w_lload_n (pc := 11) hC dX12_divisor_11 0 rfl rfl ?_
    refine w_lstore (pc := 12) hC dX12_divisor_12 (lv2 := [(4, .long (JL a)), (0, .long (JL a)), (2, .long (JL b))]) (by rw [hnL]; decide) rfl ?_
    refine w_lload_n (pc := 14) hC dX12_divisor_14 2 rfl rfl ?_
    refine w_lstore (pc := 15) hC dX12_divisor_15 (lv2 := [(6, .long (JL b)), (4, .long (JL a)), (0, .long (JL a)), (2, .long (JL b))]) (by rw [hnL]; decide) rfl ?_
    have loop17 : ∀ (nF : Nat) (x : Int) (y : Int), (0 ≤ x ∧ x ≤ 1000000000000000) → (0 ≤ y ∧ y ≤ 1000000000000000) → (GCD x y = GCD a b) → y < (nF : Int) → WW K G 0 0 w0 17 [(4, .long (JL x)), (6, .long (JL y))] [] := by
      intro nF
      induction nF with
      | zero => intro x y i1 i2 i3 hm17; exact absurd hm17 (by omega)
      | succ nF ih17 =>
        intro x y i1 i2 i3 hm17
        refine w_lload (pc := 17) hC dX12_divisor_17 1 rfl ?_
        refine w_lconst (pc := 19) hC dX12_divisor_19 (z := 0) rfl ?_
        refine w_lcmp (pc := 20) hC dX12_divisor_20 (by omega) ?_
        refine w_if_eq_c (pc := 21) (tgt := 42) hC dX12_divisor_21 (by decide) (fun c21 => ?_) (fun c21 => ?_)
        · refine w_lload (pc := 42) hC dX12_divisor_42 0 rfl ?_
          refine w_lret (pc := 44) hC hRT dX12_divisor_44 ?_
          refine ⟨retL (by rw [← i3, show y = 0 by omega, gcd_0 i1.1]), rfl⟩
        · refine w_lload (pc := 24) hC dX12_divisor_24 0 rfl ?_
          refine w_lload (pc := 26) hC dX12_divisor_26 1 rfl ?_
          refine w_lrem (pc := 28) hC dX12_divisor_28 (by omega) ?_
          refine w_lstore (pc := 29) hC dX12_divisor_29 (lv2 := [(8, .long (JL (x % y))), (4, .long (JL x)), (6, .long (JL y))]) (by rw [hnL]; decide) rfl ?_
          refine w_lload (pc := 31) hC dX12_divisor_31 2 rfl ?_
          refine w_lstore (pc := 33) hC dX12_divisor_33 (lv2 := [(4, .long (JL y)), (8, .long (JL (x % y))), (6, .long (JL y))]) (by rw [hnL]; decide) rfl ?_
          refine w_lload (pc := 35) hC dX12_divisor_35 1 rfl ?_
          refine w_lstore (pc := 37) hC dX12_divisor_37 (lv2 := [(6, .long (JL (x % y))), (4, .long (JL y)), (8, .long (JL (x % y)))]) (by rw [hnL]; decide) rfl ?_
          refine w_goto (pc := 39) hC dX12_divisor_39 (tgt := 17) (by decide) ?_
          refine w_sub [1, 0] (lv2 := [(4, .long (JL y)), (6, .long (JL (x % y)))]) rfl ?_
          refine ih17 y (x % y) ?_ ?_ ?_ ?_
          · first | assumption | omega
          · have h1 := Int.emod_nonneg x (show y ≠ 0 by omega)
            have h2 := Int.emod_lt_of_pos x (show 0 < y by omega)
            omega
          · rw [gcd_step i1.1 (by omega)]; exact i3
          · have h2 := Int.emod_lt_of_pos x (show 0 < y by omega)
            omega
    refine w_sub [1, 0] (lv2 := [(4, .long (JL a)), (6, .long (JL b))]) rfl ?_
    refine loop17 (b + 1 : Int).toNat a b ?_ ?_ ?_ ?_
    · first | assumption | omega
    · omega
    · first | exact gcd_abs (Or.inr rfl) | rfl
    · omega
  · refine w_lload_n (pc := 6) hC dX12_divisor_6 0 rfl rfl ?_
    refine w_lneg (pc := 7) hC dX12_divisor_7 ?_
    refine w_goto (pc := 8) hC dX12_divisor_8 (tgt := 12) (by decide) ?_
    refine w_lstore (pc := 12) hC dX12_divisor_12 (lv2 := [(4, .long (JL (-a))), (0, .long (JL a)), (2, .long (JL b))]) (by rw [hnL]; decide) rfl ?_
    refine w_lload_n (pc := 14) hC dX12_divisor_14 2 rfl rfl ?_
    refine w_lstore (pc := 15) hC dX12_divisor_15 (lv2 := [(6, .long (JL b)), (4, .long (JL (-a))), (0, .long (JL a)), (2, .long (JL b))]) (by rw [hnL]; decide) rfl ?_
    have loop17 : ∀ (nF : Nat) (x : Int) (y : Int), (0 ≤ x ∧ x ≤ 1000000000000000) → (0 ≤ y ∧ y ≤ 1000000000000000) → (GCD x y = GCD a b) → y < (nF : Int) → WW K G 0 0 w0 17 [(4, .long (JL x)), (6, .long (JL y))] [] := by
      intro nF
      induction nF with
      | zero => intro x y i1 i2 i3 hm17; exact absurd hm17 (by omega)
      | succ nF ih17 =>
        intro x y i1 i2 i3 hm17
        refine w_lload (pc := 17) hC dX12_divisor_17 1 rfl ?_
        refine w_lconst (pc := 19) hC dX12_divisor_19 (z := 0) rfl ?_
        refine w_lcmp (pc := 20) hC dX12_divisor_20 (by omega) ?_
        refine w_if_eq_c (pc := 21) (tgt := 42) hC dX12_divisor_21 (by decide) (fun c21 => ?_) (fun c21 => ?_)
        · refine w_lload (pc := 42) hC dX12_divisor_42 0 rfl ?_
          refine w_lret (pc := 44) hC hRT dX12_divisor_44 ?_
          refine ⟨retL (by rw [← i3, show y = 0 by omega, gcd_0 i1.1]), rfl⟩
        · refine w_lload (pc := 24) hC dX12_divisor_24 0 rfl ?_
          refine w_lload (pc := 26) hC dX12_divisor_26 1 rfl ?_
          refine w_lrem (pc := 28) hC dX12_divisor_28 (by omega) ?_
          refine w_lstore (pc := 29) hC dX12_divisor_29 (lv2 := [(8, .long (JL (x % y))), (4, .long (JL x)), (6, .long (JL y))]) (by rw [hnL]; decide) rfl ?_
          refine w_lload (pc := 31) hC dX12_divisor_31 2 rfl ?_
          refine w_lstore (pc := 33) hC dX12_divisor_33 (lv2 := [(4, .long (JL y)), (8, .long (JL (x % y))), (6, .long (JL y))]) (by rw [hnL]; decide) rfl ?_
          refine w_lload (pc := 35) hC dX12_divisor_35 1 rfl ?_
          refine w_lstore (pc := 37) hC dX12_divisor_37 (lv2 := [(6, .long (JL (x % y))), (4, .long (JL y)), (8, .long (JL (x % y)))]) (by rw [hnL]; decide) rfl ?_
          refine w_goto (pc := 39) hC dX12_divisor_39 (tgt := 17) (by decide) ?_
          refine w_sub [1, 0] (lv2 := [(4, .long (JL y)), (6, .long (JL (x % y)))]) rfl ?_
          refine ih17 y (x % y) ?_ ?_ ?_ ?_
          · first | assumption | omega
          · have h1 := Int.emod_nonneg x (show y ≠ 0 by omega)
            have h2 := Int.emod_lt_of_pos x (show 0 < y by omega)
            omega
          · rw [gcd_step i1.1 (by omega)]; exact i3
          · have h2 := Int.emod_lt_of_pos x (show 0 < y by omega)
            omega
    refine w_sub [1, 0] (lv2 := [(4, .long (JL (-a))), (6, .long (JL b))]) rfl ?_
    refine loop17 (b + 1 : Int).toNat (-a) b ?_ ?_ ?_ ?_
    · first | assumption | omega
    · omega
    · first | exact gcd_abs (Or.inr rfl) | rfl
    · omega
set_option maxRecDepth 100000 in
set_option maxHeartbeats 4000000 in
theorem c_X12_lowest (l : Launch) (G : GT) (w0 : va_W)  (up : Int) (low : Int) (part : Int) (ha : -1000000000000000 ≤ up ∧ up ≤ 1000000000000000) (hb : 1 ≤ low ∧ low ≤ 1000000000000000) (hp : -2147483648 ≤ part ∧ part < 2147483648) : CT l yX12_lowest cX12_lowest 5 (some .long) 1 0 0 G [.long (JL up), .long (JL low), .int (J part)] w0 (fun vo wo => vo = some (.long (JL (LOW up low part))) ∧ wo = w0) := by
  refine CT_of (own := RX12) rfl rfl (Nat.le_of_ble_eq_true rfl) (fun K hl hnL hC hRT hin => ?_)
  subst hl
  show WW K G 0 0 w0 0 [(0, .long (JL up)), (2, .long (JL low)), (4, .int (J part))] []
  have hg := gcd_pos (x := up) (y := low) (by omega)
  refine w_iload (pc := 0) hC dX12_lowest_0 2 rfl ?_
  refine w_if_ne (pc := 2) (tgt := 9) hC dX12_lowest_2 (by decide) (by omega) (fun c2 => ?_) (fun c2 => ?_)
  · refine w_lload_n (pc := 9) hC dX12_lowest_9 1 rfl rfl ?_
    refine w_lload_n (pc := 10) hC dX12_lowest_10 0 rfl rfl ?_
    refine w_lload_n (pc := 11) hC dX12_lowest_11 1 rfl rfl ?_
    refine w_callS (pc := 12) (As := [.long (JL up), .long (JL low)]) (rest := [.long (JL low)]) hC dX12_lowest_12 cs_X12_195 (c_X12_divisor (kl K) G w0 up low (show -1000000000000000 ≤ up ∧ up ≤ 1000000000000000 from by first | assumption | omega) (show 0 ≤ low ∧ low ≤ 1000000000000000 from by first | assumption | omega)) (by decide) ⟨Nat.le_of_ble_eq_true rfl, Nat.le_of_ble_eq_true rfl⟩ rfl (Nat.le_of_ble_eq_true rfl) rfl (fun vo wo hv => ?_)
    obtain ⟨hv1, hw1⟩ := hv
    rw [hv1, hw1]
    show WW K G 0 0 w0 15 [(0, .long (JL up)), (2, .long (JL low)), (4, .int (J part))] [.long (JL (GCD up low)), .long (JL low)]
    refine w_ldiv (pc := 15) hC dX12_lowest_15 (by omega) ?_
    refine w_lret (pc := 16) hC hRT dX12_lowest_16 ?_
    refine ⟨retL (by unfold LOW; first | rw [if_pos (by omega)] | rw [if_neg (by omega)]), rfl⟩
  · refine w_lload_n (pc := 5) hC dX12_lowest_5 0 rfl rfl ?_
    refine w_goto (pc := 6) hC dX12_lowest_6 (tgt := 10) (by decide) ?_
    refine w_lload_n (pc := 10) hC dX12_lowest_10 0 rfl rfl ?_
    refine w_lload_n (pc := 11) hC dX12_lowest_11 1 rfl rfl ?_
    refine w_callS (pc := 12) (As := [.long (JL up), .long (JL low)]) (rest := [.long (JL up)]) hC dX12_lowest_12 cs_X12_195 (c_X12_divisor (kl K) G w0 up low (show -1000000000000000 ≤ up ∧ up ≤ 1000000000000000 from by first | assumption | omega) (show 0 ≤ low ∧ low ≤ 1000000000000000 from by first | assumption | omega)) (by decide) ⟨Nat.le_of_ble_eq_true rfl, Nat.le_of_ble_eq_true rfl⟩ rfl (Nat.le_of_ble_eq_true rfl) rfl (fun vo wo hv => ?_)
    obtain ⟨hv1, hw1⟩ := hv
    rw [hv1, hw1]
    show WW K G 0 0 w0 15 [(0, .long (JL up)), (2, .long (JL low)), (4, .int (J part))] [.long (JL (GCD up low)), .long (JL up)]
    refine w_ldiv (pc := 15) hC dX12_lowest_15 (by omega) ?_
    refine w_lret (pc := 16) hC hRT dX12_lowest_16 ?_
    refine ⟨retL (by unfold LOW; first | rw [if_pos (by omega)] | rw [if_neg (by omega)]), rfl⟩
set_option maxRecDepth 100000 in
set_option maxHeartbeats 4000000 in
theorem c_X12_trulyNow (l : Launch) (G : GT) (A : Nat → Nat) (I : Nat → Int → Int) (F : Nat → Int)   (hR : RI (I 1)) (hk : LK (I 5) (I 7) (F 16)) (hb : ∀ k : Int, 0 ≤ k → k < (F 16) → VB ((I 1) 0) ((I 5) k)) : CT l yX12_trulyNow cX12_trulyNow 5 (some .long) 2 0 0 G [.ref (A 0)] (MW A G.2.1 I F) (fun vo wo => vo = some (.long (JL (isum (fun b => bI (b = TB (I 1))) (I 5) (I 7) (F 16).toNat))) ∧ wo = MW A G.2.1 I F) := by
  refine CT_of (own := RX12) rfl rfl (Nat.le_of_ble_eq_true rfl) (fun K hl hnL hC hRT hin => ?_)
  subst hl
  show WW K G 0 0 (MW A G.2.1 I F) 0 [(0, .ref (A 0))] []
  have hn := hR.n
  have hm := hk.1
  refine w_aload_n (pc := 0) hC dX12_trulyNow_0 0 rfl rfl ?_
  refine w_callV (pc := 1) (As := []) (rest := []) hC dX12_trulyNow_1 cv_X12_64 (c_X12_trueBoard (kl K) G A I F (show RI (I 1) from by first | assumption | omega)) (by decide) ⟨Nat.le_of_ble_eq_true rfl, Nat.le_of_ble_eq_true rfl⟩ (q0 := 0) rfl rfl rfl rfl (Nat.le_of_ble_eq_true rfl) rfl (fun vo wo hv => ?_)
  obtain ⟨hv1, hw1⟩ := hv
  rw [hv1, hw1]
  show WW K G 0 0 (MW A G.2.1 I F) 4 [(0, .ref (A 0))] [.int (J (TB (I 1)))]
  have q1_0 := VB_TB (I 1) (by omega) (by omega)
  refine w_istore_n (pc := 4) hC dX12_trulyNow_4 rfl (lv2 := [(1, .int (J (TB (I 1)))), (0, .ref (A 0))]) (by rw [hnL]; decide) rfl ?_
  refine w_lconst (pc := 5) hC dX12_trulyNow_5 (z := 0) rfl ?_
  refine w_lstore_n (pc := 6) hC dX12_trulyNow_6 rfl (lv2 := [(2, .long (JL 0)), (1, .int (J (TB (I 1)))), (0, .ref (A 0))]) (by rw [hnL]; decide) rfl ?_
  refine w_iconst (pc := 7) hC dX12_trulyNow_7 ?_
  refine w_istore (pc := 8) hC dX12_trulyNow_8 (lv2 := [(4, .int (J 0)), (2, .long (JL 0)), (1, .int (J (TB (I 1)))), (0, .ref (A 0))]) (by rw [hnL]; decide) rfl ?_
  have loop10 : ∀ (nF : Nat) (sm : Int) (k : Int), (0 ≤ k ∧ k ≤ (F 16)) → (sm = isum (fun b => bI (b = TB (I 1))) (I 5) (I 7) k.toNat) → ((F 16) - k) < (nF : Int) → WW K G 0 0 (MW A G.2.1 I F) 10 [(0, .ref (A 0)), (1, .int (J (TB (I 1)))), (2, .long (JL sm)), (4, .int (J k))] [] := by
    intro nF
    induction nF with
    | zero => intro sm k i1 i2 hm10; exact absurd hm10 (by omega)
    | succ nF ih10 =>
      intro sm k i1 i2 hm10
      refine w_iload (pc := 10) hC dX12_trulyNow_10 3 rfl ?_
      refine w_aload_n (pc := 12) hC dX12_trulyNow_12 0 rfl rfl ?_
      refine w_getf (pc := 13) (v := .int (J (F 16))) hC dX12_trulyNow_13 fi_X12_178 0 rfl rfl ?_
      refine w_icmp_ge (pc := 16) (tgt := 50) hC dX12_trulyNow_16 (by decide) (by omega) (fun c16 => ?_) (fun c16 => ?_)
      · refine w_lload_n (pc := 50) hC dX12_trulyNow_50 2 rfl rfl ?_
        refine w_lret (pc := 51) hC hRT dX12_trulyNow_51 ?_
        refine ⟨retL (by rw [i2, show k = F 16 by omega]), rfl⟩
      · have hbk := VB_rng (hb k i1.1 (by omega))
        have hT := VB_rng q1_0
        refine w_lload_n (pc := 19) hC dX12_trulyNow_19 2 rfl rfl ?_
        refine w_aload_n (pc := 20) hC dX12_trulyNow_20 0 rfl rfl ?_
        refine w_getf (pc := 21) (v := .ref (A 5)) hC dX12_trulyNow_21 fi_X12_29 0 rfl rfl ?_
        refine w_iload (pc := 24) hC dX12_trulyNow_24 3 rfl ?_
        refine w_iald (pc := 26) (g := (I 5)) hC dX12_trulyNow_26 5 rfl (by omega) (Nat.le_of_ble_eq_true rfl) ?_
        refine w_iload_n (pc := 27) hC dX12_trulyNow_27 1 rfl rfl ?_
        refine w_icmp_ne (pc := 28) (tgt := 41) hC dX12_trulyNow_28 (by decide) (by omega) (fun c28 => ?_) (fun c28 => ?_)
        · refine w_lconst (pc := 41) hC dX12_trulyNow_41 (z := 0) rfl ?_
          refine w_ladd (pc := 42) hC dX12_trulyNow_42 ?_
          refine w_lstore_n (pc := 43) hC dX12_trulyNow_43 rfl (lv2 := [(2, .long (JL (sm + 0))), (0, .ref (A 0)), (1, .int (J (TB (I 1)))), (4, .int (J k))]) (by rw [hnL]; decide) rfl ?_
          refine w_iinc (pc := 44) hC dX12_trulyNow_44 (lv2 := [(4, .int (J (k + 1))), (2, .long (JL (sm + 0))), (0, .ref (A 0)), (1, .int (J (TB (I 1))))]) 3 rfl (by rw [hnL]; decide) rfl ?_
          refine w_goto (pc := 47) hC dX12_trulyNow_47 (tgt := 10) (by decide) ?_
          refine w_sub [2, 3, 1, 0] (lv2 := [(0, .ref (A 0)), (1, .int (J (TB (I 1)))), (2, .long (JL (sm + 0))), (4, .int (J (k + 1)))]) rfl ?_
          refine ih10 (sm + 0) (k + 1) ?_ ?_ ?_
          · first | assumption | omega
          · rw [isum_s _ _ _ i1.1, ← i2]; first | (rw [bI_t c28, Int.one_mul]) | (rw [bI_f c28, Int.zero_mul])
          · omega
        · refine w_aload_n (pc := 31) hC dX12_trulyNow_31 0 rfl rfl ?_
          refine w_getf (pc := 32) (v := .ref (A 7)) hC dX12_trulyNow_32 fi_X12_35 0 rfl rfl ?_
          refine w_iload (pc := 35) hC dX12_trulyNow_35 3 rfl ?_
          refine w_lald (pc := 37) (g := (I 7)) hC dX12_trulyNow_37 7 rfl (by omega) (Nat.le_of_ble_eq_true rfl) ?_
          refine w_goto (pc := 38) hC dX12_trulyNow_38 (tgt := 42) (by decide) ?_
          refine w_ladd (pc := 42) hC dX12_trulyNow_42 ?_
          refine w_lstore_n (pc := 43) hC dX12_trulyNow_43 rfl (lv2 := [(2, .long (JL (sm + ((I 7) k)))), (0, .ref (A 0)), (1, .int (J (TB (I 1)))), (4, .int (J k))]) (by rw [hnL]; decide) rfl ?_
          refine w_iinc (pc := 44) hC dX12_trulyNow_44 (lv2 := [(4, .int (J (k + 1))), (2, .long (JL (sm + ((I 7) k)))), (0, .ref (A 0)), (1, .int (J (TB (I 1))))]) 3 rfl (by rw [hnL]; decide) rfl ?_
          refine w_goto (pc := 47) hC dX12_trulyNow_47 (tgt := 10) (by decide) ?_
          refine w_sub [2, 3, 1, 0] (lv2 := [(0, .ref (A 0)), (1, .int (J (TB (I 1)))), (2, .long (JL (sm + ((I 7) k)))), (4, .int (J (k + 1)))]) rfl ?_
          refine ih10 (sm + ((I 7) k)) (k + 1) ?_ ?_ ?_
          · first | assumption | omega
          · rw [isum_s _ _ _ i1.1, ← i2]; first | (rw [bI_t c28, Int.one_mul]) | (rw [bI_f c28, Int.zero_mul])
          · omega
  refine w_sub [3, 2, 1, 0] (lv2 := [(0, .ref (A 0)), (1, .int (J (TB (I 1)))), (2, .long (JL 0)), (4, .int (J 0))]) rfl ?_
  refine loop10 (((F 16) - 0) + 1 : Int).toNat 0 0 ?_ ?_ ?_
  · first | assumption | omega
  · rfl
  · omega
set_option maxRecDepth 100000 in
set_option maxHeartbeats 4000000 in
theorem c_X12_rungs (l : Launch) (G : GT) (A : Nat → Nat) (I : Nat → Int → Int) (F : Nat → Int)  (name : Int) (hR : RI (I 1)) (ha : 0 ≤ name ∧ name < (I 1) 0) (hk : LK (I 5) (I 7) (F 16)) (hb : ∀ k : Int, 0 ≤ k → k < (F 16) → VB ((I 1) 0) ((I 5) k)) : CT l yX12_rungs cX12_rungs 5 (some .long) 2 0 0 G [.ref (A 0), .int (J name)] (MW A G.2.1 I F) (fun vo wo => vo = some (.long (JL (isum (fun b => rk ((I 1) 0) b name) (I 5) (I 7) (F 16).toNat))) ∧ wo = MW A G.2.1 I F) := by
  refine CT_of (own := RX12) rfl rfl (Nat.le_of_ble_eq_true rfl) (fun K hl hnL hC hRT hin => ?_)
  subst hl
  show WW K G 0 0 (MW A G.2.1 I F) 0 [(0, .ref (A 0)), (1, .int (J name))] []
  have hn := hR.n
  have hm := hk.1
  refine w_lconst (pc := 0) hC dX12_rungs_0 (z := 0) rfl ?_
  refine w_lstore_n (pc := 1) hC dX12_rungs_1 rfl (lv2 := [(2, .long (JL 0)), (0, .ref (A 0)), (1, .int (J name))]) (by rw [hnL]; decide) rfl ?_
  refine w_iconst (pc := 2) hC dX12_rungs_2 ?_
  refine w_istore (pc := 3) hC dX12_rungs_3 (lv2 := [(4, .int (J 0)), (2, .long (JL 0)), (0, .ref (A 0)), (1, .int (J name))]) (by rw [hnL]; decide) rfl ?_
  have loop5 : ∀ (nF : Nat) (sm : Int) (k : Int), (0 ≤ k ∧ k ≤ (F 16)) → (sm = isum (fun b => rk ((I 1) 0) b name) (I 5) (I 7) k.toNat) → ((F 16) - k) < (nF : Int) → WW K G 0 0 (MW A G.2.1 I F) 5 [(0, .ref (A 0)), (1, .int (J name)), (2, .long (JL sm)), (4, .int (J k))] [] := by
    intro nF
    induction nF with
    | zero => intro sm k i1 i2 hm5; exact absurd hm5 (by omega)
    | succ nF ih5 =>
      intro sm k i1 i2 hm5
      refine w_iload (pc := 5) hC dX12_rungs_5 3 rfl ?_
      refine w_aload_n (pc := 7) hC dX12_rungs_7 0 rfl rfl ?_
      refine w_getf (pc := 8) (v := .int (J (F 16))) hC dX12_rungs_8 fi_X12_178 0 rfl rfl ?_
      refine w_icmp_ge (pc := 11) (tgt := 44) hC dX12_rungs_11 (by decide) (by omega) (fun c11 => ?_) (fun c11 => ?_)
      · refine w_lload_n (pc := 44) hC dX12_rungs_44 2 rfl rfl ?_
        refine w_lret (pc := 45) hC hRT dX12_rungs_45 ?_
        refine ⟨retL (by rw [i2, show k = F 16 by omega]), rfl⟩
      · have hVk := hb k i1.1 (by omega)
        have hbk := VB_rng hVk
        refine w_lload_n (pc := 14) hC dX12_rungs_14 2 rfl rfl ?_
        refine w_aload_n (pc := 15) hC dX12_rungs_15 0 rfl rfl ?_
        refine w_getf (pc := 16) (v := .ref (A 7)) hC dX12_rungs_16 fi_X12_35 0 rfl rfl ?_
        refine w_iload (pc := 19) hC dX12_rungs_19 3 rfl ?_
        refine w_lald (pc := 21) (g := (I 7)) hC dX12_rungs_21 7 rfl (by omega) (Nat.le_of_ble_eq_true rfl) ?_
        refine w_aload_n (pc := 22) hC dX12_rungs_22 0 rfl rfl ?_
        refine w_aload_n (pc := 23) hC dX12_rungs_23 0 rfl rfl ?_
        refine w_getf (pc := 24) (v := .ref (A 5)) hC dX12_rungs_24 fi_X12_29 0 rfl rfl ?_
        refine w_iload (pc := 27) hC dX12_rungs_27 3 rfl ?_
        refine w_iald (pc := 29) (g := (I 5)) hC dX12_rungs_29 5 rfl (by omega) (Nat.le_of_ble_eq_true rfl) ?_
        refine w_iload_n (pc := 30) hC dX12_rungs_30 1 rfl rfl ?_
        refine w_callV (pc := 31) (As := [.int (J ((I 5) k)), .int (J name)]) (rest := [.long (JL ((I 7) k)), .long (JL sm)]) hC dX12_rungs_31 cv_X12_68 (c_X12_rungOf (kl K) G A I F ((I 1) 0) ((I 5) k) name (show VB ((I 1) 0) ((I 5) k) from by first | assumption | omega) (show 0 ≤ name ∧ name < ((I 1) 0) from by first | assumption | omega)) (by decide) ⟨Nat.le_of_ble_eq_true rfl, Nat.le_of_ble_eq_true rfl⟩ (q0 := 0) rfl rfl rfl rfl (Nat.le_of_ble_eq_true rfl) rfl (fun vo wo hv => ?_)
        obtain ⟨hv1, hw1⟩ := hv
        rw [hv1, hw1]
        show WW K G 0 0 (MW A G.2.1 I F) 34 [(0, .ref (A 0)), (1, .int (J name)), (2, .long (JL sm)), (4, .int (J k))] [.int (J (rk ((I 1) 0) ((I 5) k) name)), .long (JL ((I 7) k)), .long (JL sm)]
        have q31_0 := (@rk_spec ((I 1) 0) ((I 5) k) name (by assumption) (by omega) (by omega)).1
        refine w_i2l (pc := 34) hC dX12_rungs_34 (by omega) ?_
        refine w_lmul (pc := 35) hC dX12_rungs_35 ?_
        refine w_ladd (pc := 36) hC dX12_rungs_36 ?_
        refine w_lstore_n (pc := 37) hC dX12_rungs_37 rfl (lv2 := [(2, .long (JL (sm + (((I 7) k) * (rk ((I 1) 0) ((I 5) k) name))))), (0, .ref (A 0)), (1, .int (J name)), (4, .int (J k))]) (by rw [hnL]; decide) rfl ?_
        refine w_iinc (pc := 38) hC dX12_rungs_38 (lv2 := [(4, .int (J (k + 1))), (2, .long (JL (sm + (((I 7) k) * (rk ((I 1) 0) ((I 5) k) name))))), (0, .ref (A 0)), (1, .int (J name))]) 3 rfl (by rw [hnL]; decide) rfl ?_
        refine w_goto (pc := 41) hC dX12_rungs_41 (tgt := 5) (by decide) ?_
        refine w_sub [2, 3, 1, 0] (lv2 := [(0, .ref (A 0)), (1, .int (J name)), (2, .long (JL (sm + (((I 7) k) * (rk ((I 1) 0) ((I 5) k) name))))), (4, .int (J (k + 1)))]) rfl ?_
        refine ih5 (sm + (((I 7) k) * (rk ((I 1) 0) ((I 5) k) name))) (k + 1) ?_ ?_ ?_
        · first | assumption | omega
        · rw [isum_s _ _ _ i1.1, ← i2, Int.mul_comm]
        · omega
  refine w_sub [2, 3, 1, 0] (lv2 := [(0, .ref (A 0)), (1, .int (J name)), (2, .long (JL 0)), (4, .int (J 0))]) rfl ?_
  refine loop5 (((F 16) - 0) + 1 : Int).toNat 0 0 ?_ ?_ ?_
  · first | assumption | omega
  · rfl
  · omega
set_option maxRecDepth 100000 in
set_option maxHeartbeats 4000000 in
theorem c_X12_share (l : Launch) (G : GT) (A : Nat → Nat) (I : Nat → Int → Int) (F : Nat → Int)  (c : Int) (n : Int) (a : Int) (rung : Int) (part : Int) (hR : RI (I 1)) (h1 : -2147483648 ≤ c ∧ c < 2147483648) (h2 : -2147483648 ≤ n ∧ n < 2147483648) (h3 : -2147483648 ≤ a ∧ a < 2147483648) (h4 : -2147483648 ≤ rung ∧ rung < 2147483648) (h5 : -2147483648 ≤ part ∧ part < 2147483648) (hrf : (F 11) = -1) : CT l yX12_share cX12_share 9 (some .long) 6 0 0 G [.ref (A 0), .int (J c), .int (J n), .int (J a), .int (J rung), .int (J part)] (MW A G.2.1 I F) (fun vo wo => ∃ (b3 : Int → Int) (b4 : Int → Int) (b5 : Int → Int) (b6 : Int → Int) (b7 : Int → Int) (b8 : Int → Int) (g16 : Int) (g17 : Int) (g18 : Int), vo = some (.long (JL (v_share (I 1) c n a rung part))) ∧ wo = MW A G.2.1 (au (au (au (au (au (au I 3 b3) 4 b4) 5 b5) 6 b6) 7 b7) 8 b8) (fu (fu (fu F 16 g16) 17 g17) 18 g18)) := by
  refine CT_of (own := RX12) rfl rfl (Nat.le_of_ble_eq_true rfl) (fun K hl hnL hC hRT hin => ?_)
  subst hl
  show WW K G 0 0 (MW A G.2.1 I F) 0 [(0, .ref (A 0)), (1, .int (J c)), (2, .int (J n)), (3, .int (J a)), (4, .int (J rung)), (5, .int (J part))] []
  have hn0 := hR.n
  have hV := hR.bd
  have hB := VB_rng hV
  refine w_aload_n (pc := 0) hC dX12_share_0 0 rfl rfl ?_
  refine w_iload_n (pc := 1) hC dX12_share_1 1 rfl rfl ?_
  refine w_callV (pc := 2) (As := [.int (J c)]) (rest := []) hC dX12_share_2 cv_X12_156 (c_X12_isClub (kl K) G A I F c (show RI (I 1) from by first | assumption | omega) (show -2147483648 ≤ c ∧ c < 2147483648 from by first | assumption | omega)) (by decide) ⟨Nat.le_of_ble_eq_true rfl, Nat.le_of_ble_eq_true rfl⟩ (q0 := 0) rfl rfl rfl rfl (Nat.le_of_ble_eq_true rfl) rfl (fun vo wo hv => ?_)
  obtain ⟨hv1, hw1⟩ := hv
  rw [hv1, hw1]
  show WW K G 0 0 (MW A G.2.1 I F) 5 [(0, .ref (A 0)), (1, .int (J c)), (2, .int (J n)), (3, .int (J a)), (4, .int (J rung)), (5, .int (J part))] [.int (J (bI (0 ≤ c ∧ c < (I 1) 1)))]
  refine w_if_eq_b (pc := 5) (tgt := 53) hC dX12_share_5 (by decide) (fun c5 => ?_) (fun c5 => ?_)
  · refine w_ldc2 (pc := 53) hC dX12_share_53 (z := (-9223372036854775808)) tw_6_49 (by decide) ?_
    refine w_lret (pc := 56) hC hRT dX12_share_56 ?_
    refine ⟨(I 3), (I 4), (I 5), (I 6), (I 7), (I 8), (F 16), (F 17), (F 18), retL (by unfold v_share NOL; rw [if_pos (by omega)]), rfl⟩
  · refine w_iload_n (pc := 8) hC dX12_share_8 2 rfl rfl ?_
    refine w_iconst (pc := 9) hC dX12_share_9 ?_
    refine w_bipush (pc := 10) hC dX12_share_10 (z := 6) rfl ?_
    refine w_callS (pc := 12) (As := [.int (J n), .int (J 0), .int (J 6)]) (rest := []) hC dX12_share_12 cs_X12_48 (c_X12_in (kl K) G (MW A G.2.1 I F) n 0 6 (show (-2147483648 ≤ n ∧ n < 2147483648) ∧ (-2147483648 ≤ 0 ∧ 0 < 2147483648) ∧ -2147483648 ≤ 6 ∧ 6 < 2147483648 from by first | assumption | omega)) (by decide) ⟨Nat.le_of_ble_eq_true rfl, Nat.le_of_ble_eq_true rfl⟩ rfl (Nat.le_of_ble_eq_true rfl) rfl (fun vo wo hv => ?_)
    obtain ⟨hv1, hw1⟩ := hv
    rw [hv1, hw1]
    show WW K G 0 0 (MW A G.2.1 I F) 15 [(0, .ref (A 0)), (1, .int (J c)), (2, .int (J n)), (3, .int (J a)), (4, .int (J rung)), (5, .int (J part))] [.int (J (bI (0 ≤ n ∧ n ≤ 6)))]
    refine w_if_eq_b (pc := 15) (tgt := 53) hC dX12_share_15 (by decide) (fun c15 => ?_) (fun c15 => ?_)
    · refine w_ldc2 (pc := 53) hC dX12_share_53 (z := (-9223372036854775808)) tw_6_49 (by decide) ?_
      refine w_lret (pc := 56) hC hRT dX12_share_56 ?_
      refine ⟨(I 3), (I 4), (I 5), (I 6), (I 7), (I 8), (F 16), (F 17), (F 18), retL (by unfold v_share NOL; rw [if_pos (by omega)]), rfl⟩
    · refine w_aload_n (pc := 18) hC dX12_share_18 0 rfl rfl ?_
      refine w_iload_n (pc := 19) hC dX12_share_19 3 rfl rfl ?_
      refine w_callV (pc := 20) (As := [.int (J a)]) (rest := []) hC dX12_share_20 cv_X12_60 (c_X12_isName (kl K) G A I F a (show RI (I 1) from by first | assumption | omega) (show -2147483648 ≤ a ∧ a < 2147483648 from by first | assumption | omega)) (by decide) ⟨Nat.le_of_ble_eq_true rfl, Nat.le_of_ble_eq_true rfl⟩ (q0 := 0) rfl rfl rfl rfl (Nat.le_of_ble_eq_true rfl) rfl (fun vo wo hv => ?_)
      obtain ⟨hv1, hw1⟩ := hv
      rw [hv1, hw1]
      show WW K G 0 0 (MW A G.2.1 I F) 23 [(0, .ref (A 0)), (1, .int (J c)), (2, .int (J n)), (3, .int (J a)), (4, .int (J rung)), (5, .int (J part))] [.int (J (bI (0 ≤ a ∧ a < (I 1) 0)))]
      refine w_if_eq_b (pc := 23) (tgt := 53) hC dX12_share_23 (by decide) (fun c23 => ?_) (fun c23 => ?_)
      · refine w_ldc2 (pc := 53) hC dX12_share_53 (z := (-9223372036854775808)) tw_6_49 (by decide) ?_
        refine w_lret (pc := 56) hC hRT dX12_share_56 ?_
        refine ⟨(I 3), (I 4), (I 5), (I 6), (I 7), (I 8), (F 16), (F 17), (F 18), retL (by unfold v_share NOL; rw [if_pos (by omega)]), rfl⟩
      · refine w_iload (pc := 26) hC dX12_share_26 4 rfl ?_
        refine w_iconst (pc := 28) hC dX12_share_28 ?_
        refine w_aload_n (pc := 29) hC dX12_share_29 0 rfl rfl ?_
        refine w_getf (pc := 30) (v := .ref (A 1)) hC dX12_share_30 fi_X12_9 0 rfl rfl ?_
        refine w_iconst (pc := 33) hC dX12_share_33 ?_
        refine w_iald (pc := 34) (g := (I 1)) hC dX12_share_34 1 rfl (by omega) (Nat.le_of_ble_eq_true rfl) ?_
        refine w_iconst (pc := 35) hC dX12_share_35 ?_
        refine w_isub (pc := 36) hC dX12_share_36 ?_
        refine w_callS (pc := 37) (As := [.int (J rung), .int (J 0), .int (J (((I 1) 0) - 1))]) (rest := []) hC dX12_share_37 cs_X12_48 (c_X12_in (kl K) G (MW A G.2.1 I F) rung 0 (((I 1) 0) - 1) (show (-2147483648 ≤ rung ∧ rung < 2147483648) ∧ (-2147483648 ≤ 0 ∧ 0 < 2147483648) ∧ -2147483648 ≤ (((I 1) 0) - 1) ∧ (((I 1) 0) - 1) < 2147483648 from by first | assumption | omega)) (by decide) ⟨Nat.le_of_ble_eq_true rfl, Nat.le_of_ble_eq_true rfl⟩ rfl (Nat.le_of_ble_eq_true rfl) rfl (fun vo wo hv => ?_)
        obtain ⟨hv1, hw1⟩ := hv
        rw [hv1, hw1]
        show WW K G 0 0 (MW A G.2.1 I F) 40 [(0, .ref (A 0)), (1, .int (J c)), (2, .int (J n)), (3, .int (J a)), (4, .int (J rung)), (5, .int (J part))] [.int (J (bI (0 ≤ rung ∧ rung ≤ (((I 1) 0) - 1))))]
        refine w_if_eq_b (pc := 40) (tgt := 53) hC dX12_share_40 (by decide) (fun c40 => ?_) (fun c40 => ?_)
        · refine w_ldc2 (pc := 53) hC dX12_share_53 (z := (-9223372036854775808)) tw_6_49 (by decide) ?_
          refine w_lret (pc := 56) hC hRT dX12_share_56 ?_
          refine ⟨(I 3), (I 4), (I 5), (I 6), (I 7), (I 8), (F 16), (F 17), (F 18), retL (by unfold v_share NOL; rw [if_pos (by omega)]), rfl⟩
        · refine w_iload (pc := 43) hC dX12_share_43 5 rfl ?_
          refine w_iconst (pc := 45) hC dX12_share_45 ?_
          refine w_iconst (pc := 46) hC dX12_share_46 ?_
          refine w_callS (pc := 47) (As := [.int (J part), .int (J 0), .int (J 1)]) (rest := []) hC dX12_share_47 cs_X12_48 (c_X12_in (kl K) G (MW A G.2.1 I F) part 0 1 (show (-2147483648 ≤ part ∧ part < 2147483648) ∧ (-2147483648 ≤ 0 ∧ 0 < 2147483648) ∧ -2147483648 ≤ 1 ∧ 1 < 2147483648 from by first | assumption | omega)) (by decide) ⟨Nat.le_of_ble_eq_true rfl, Nat.le_of_ble_eq_true rfl⟩ rfl (Nat.le_of_ble_eq_true rfl) rfl (fun vo wo hv => ?_)
          obtain ⟨hv1, hw1⟩ := hv
          rw [hv1, hw1]
          show WW K G 0 0 (MW A G.2.1 I F) 50 [(0, .ref (A 0)), (1, .int (J c)), (2, .int (J n)), (3, .int (J a)), (4, .int (J rung)), (5, .int (J part))] [.int (J (bI (0 ≤ part ∧ part ≤ 1)))]
          refine w_if_ne_b (pc := 50) (tgt := 57) hC dX12_share_50 (by decide) (fun c50 => ?_) (fun c50 => ?_)
          · refine w_aload_n (pc := 57) hC dX12_share_57 0 rfl rfl ?_
            refine w_iload_n (pc := 58) hC dX12_share_58 1 rfl rfl ?_
            refine w_aload_n (pc := 59) hC dX12_share_59 0 rfl rfl ?_
            refine w_getf (pc := 60) (v := .ref (A 1)) hC dX12_share_60 fi_X12_9 0 rfl rfl ?_
            refine w_bipush (pc := 63) hC dX12_share_63 (z := 6) rfl ?_
            refine w_iald (pc := 65) (g := (I 1)) hC dX12_share_65 1 rfl (by omega) (Nat.le_of_ble_eq_true rfl) ?_
            refine w_iload_n (pc := 66) hC dX12_share_66 2 rfl rfl ?_
            refine w_bipush (pc := 67) hC dX12_share_67 (z := (-7)) rfl ?_
            refine w_callV (pc := 69) (As := [.int (J c), .int (J ((I 1) 6)), .int (J n), .int (J (-7))]) (rest := []) hC dX12_share_69 cv_X12_201 (c_X12_days (kl K) G A I F c ((I 1) 6) n (-7) (show RI (I 1) from by first | assumption | omega) (show 0 ≤ c ∧ c < (I 1) 1 from by first | assumption | omega) (show 0 < (I 1) 0 from by first | assumption | omega) (show VB ((I 1) 0) ((I 1) 6) from by first | assumption | omega) (show 0 ≤ n ∧ n ≤ 6 from by first | assumption | omega) (show -1 ≤ (F 11) ∧ (F 11) ≤ 5 from by first | assumption | omega) (show FST (I 1) ((I 1) 6) ((I 1) 2) (-7) from by exact Or.inl rfl) (show (-7) = -7 ∨ (-7) = -5 ∨ (0 ≤ (-7) ∧ (-7) < (I 1) 0) from by exact Or.inl rfl)) (by decide) ⟨Nat.le_of_ble_eq_true rfl, Nat.le_of_ble_eq_true rfl⟩ (q0 := 0) rfl rfl rfl rfl (Nat.le_of_ble_eq_true rfl) rfl (fun vo wo hv => ?_)
            obtain ⟨b3_69, b4_69, b5_69, b6_69, b7_69, b8_69, g16_69, g17_69, g18_69, hv1, hw1, r69⟩ := hv
            rw [hv1, hw1]
            show WW K G 0 0 (MW A G.2.1 (au (au (au (au (au (au I 3 b3_69) 4 b4_69) 5 b5_69) 6 b6_69) 7 b7_69) 8 b8_69) (fu (fu (fu F 16 g16_69) 17 g17_69) 18 g18_69)) 72 [(0, .ref (A 0)), (1, .int (J c)), (2, .int (J n)), (3, .int (J a)), (4, .int (J rung)), (5, .int (J part))] []
            have r69 : (∀ f : Int → Int, isum f b5_69 b7_69 (g16_69).toNat = EXP (I 1) c (F 11) (-7) n.toNat f ((I 1) 6)) ∧ LK b5_69 b7_69 g16_69 ∧ (∀ k : Int, 0 ≤ k → k < g16_69 → VB ((I 1) 0) (b5_69 k)) ∧ isum one1 b5_69 b7_69 (g16_69).toNat = g18_69 ∧ g18_69 = 100 ^ n.toNat := r69
            have hlk := r69.2.1
            have hvb := r69.2.2.1
            have htot := r69.2.2.2.1
            have hli := r69.2.2.2.2
            have hex := r69.1
            have hp := p100 (n := n) (by omega) (by omega)
            rw [← hli] at hp
            rw [hrf] at hex
            have hmm := hlk.1
            refine w_lconst (pc := 72) hC dX12_share_72 (z := 0) rfl ?_
            refine w_lstore (pc := 73) hC dX12_share_73 (lv2 := [(6, .long (JL 0)), (0, .ref (A 0)), (1, .int (J c)), (2, .int (J n)), (3, .int (J a)), (4, .int (J rung)), (5, .int (J part))]) (by rw [hnL]; decide) rfl ?_
            refine w_iconst (pc := 75) hC dX12_share_75 ?_
            refine w_istore (pc := 76) hC dX12_share_76 (lv2 := [(8, .int (J 0)), (6, .long (JL 0)), (0, .ref (A 0)), (1, .int (J c)), (2, .int (J n)), (3, .int (J a)), (4, .int (J rung)), (5, .int (J part))]) (by rw [hnL]; decide) rfl ?_
            have loop78 : ∀ (nF : Nat) (sm : Int) (k : Int), (0 ≤ k ∧ k ≤ g16_69) → (sm = isum (fun b => bI (dg b rung = a)) b5_69 b7_69 k.toNat) → (g16_69 - k) < (nF : Int) → WW K G 0 0 (MW A G.2.1 (au (au (au (au (au (au I 3 b3_69) 4 b4_69) 5 b5_69) 6 b6_69) 7 b7_69) 8 b8_69) (fu (fu (fu F 16 g16_69) 17 g17_69) 18 g18_69)) 78 [(0, .ref (A 0)), (3, .int (J a)), (4, .int (J rung)), (5, .int (J part)), (6, .long (JL sm)), (8, .int (J k))] [] := by
              intro nF
              induction nF with
              | zero => intro sm k i1 i2 hm78; exact absurd hm78 (by omega)
              | succ nF ih78 =>
                intro sm k i1 i2 hm78
                refine w_iload (pc := 78) hC dX12_share_78 5 rfl ?_
                refine w_aload_n (pc := 80) hC dX12_share_80 0 rfl rfl ?_
                refine w_getf (pc := 81) (v := .int (J g16_69)) hC dX12_share_81 fi_X12_178 0 rfl rfl ?_
                refine w_icmp_ge (pc := 84) (tgt := 125) hC dX12_share_84 (by decide) (by omega) (fun c84 => ?_) (fun c84 => ?_)
                · have hsr := isum_rng (f := fun b => bI (dg b rung = a)) hlk (c := 1) (fun j _ _ => bI_01 _)
                  have i2x : sm = isum (fun b => bI (dg b rung = a)) b5_69 b7_69 g16_69.toNat := by rw [i2, show k = g16_69 by omega]
                  rw [← i2x] at hsr
                  refine w_lload (pc := 125) hC dX12_share_125 4 rfl ?_
                  refine w_aload_n (pc := 127) hC dX12_share_127 0 rfl rfl ?_
                  refine w_getf (pc := 128) (v := .long (JL g18_69)) hC dX12_share_128 fi_X12_185 0 rfl rfl ?_
                  refine w_iload (pc := 131) hC dX12_share_131 3 rfl ?_
                  refine w_callS (pc := 133) (As := [.long (JL sm), .long (JL g18_69), .int (J part)]) (rest := []) hC dX12_share_133 cs_X12_205 (c_X12_lowest (kl K) G (MW A G.2.1 (au (au (au (au (au (au I 3 b3_69) 4 b4_69) 5 b5_69) 6 b6_69) 7 b7_69) 8 b8_69) (fu (fu (fu F 16 g16_69) 17 g17_69) 18 g18_69)) sm g18_69 part (show -1000000000000000 ≤ sm ∧ sm ≤ 1000000000000000 from by first | assumption | omega) (show 1 ≤ g18_69 ∧ g18_69 ≤ 1000000000000000 from by first | assumption | omega) (show -2147483648 ≤ part ∧ part < 2147483648 from by first | assumption | omega)) (by decide) ⟨Nat.le_of_ble_eq_true rfl, Nat.le_of_ble_eq_true rfl⟩ rfl (Nat.le_of_ble_eq_true rfl) rfl (fun vo wo hv => ?_)
                  obtain ⟨hv1, hw1⟩ := hv
                  rw [hv1, hw1]
                  show WW K G 0 0 (MW A G.2.1 (au (au (au (au (au (au I 3 b3_69) 4 b4_69) 5 b5_69) 6 b6_69) 7 b7_69) 8 b8_69) (fu (fu (fu F 16 g16_69) 17 g17_69) 18 g18_69)) 136 [(0, .ref (A 0)), (3, .int (J a)), (4, .int (J rung)), (5, .int (J part)), (6, .long (JL sm)), (8, .int (J k))] [.long (JL (LOW sm g18_69 part))]
                  refine w_lret (pc := 136) hC hRT dX12_share_136 ?_
                  refine ⟨b3_69, b4_69, b5_69, b6_69, b7_69, b8_69, g16_69, g17_69, g18_69, retL (by unfold v_share; rw [if_neg (by omega), ← hli, ← hex, ← i2x]), rfl⟩
                · have hbk := VB_rng (hvb k i1.1 (by omega))
                  refine w_lload (pc := 87) hC dX12_share_87 4 rfl ?_
                  refine w_aload_n (pc := 89) hC dX12_share_89 0 rfl rfl ?_
                  refine w_getf (pc := 90) (v := .ref (A 5)) hC dX12_share_90 fi_X12_29 0 rfl rfl ?_
                  refine w_iload (pc := 93) hC dX12_share_93 5 rfl ?_
                  refine w_iald (pc := 95) (g := b5_69) hC dX12_share_95 5 rfl (by omega) (Nat.le_of_ble_eq_true rfl) ?_
                  refine w_iload (pc := 96) hC dX12_share_96 2 rfl ?_
                  refine w_callS (pc := 98) (As := [.int (J (b5_69 k)), .int (J rung)]) (rest := [.long (JL sm)]) hC dX12_share_98 cs_X12_52 (c_X12_nameOn (kl K) G (MW A G.2.1 (au (au (au (au (au (au I 3 b3_69) 4 b4_69) 5 b5_69) 6 b6_69) 7 b7_69) 8 b8_69) (fu (fu (fu F 16 g16_69) 17 g17_69) 18 g18_69)) (b5_69 k) rung (show -2147483648 ≤ (b5_69 k) ∧ (b5_69 k) < 2147483648 from by first | assumption | omega) (show 0 ≤ rung ∧ rung ≤ 10 from by first | assumption | omega)) (by decide) ⟨Nat.le_of_ble_eq_true rfl, Nat.le_of_ble_eq_true rfl⟩ rfl (Nat.le_of_ble_eq_true rfl) rfl (fun vo wo hv => ?_)
                  obtain ⟨hv1, hw1⟩ := hv
                  rw [hv1, hw1]
                  show WW K G 0 0 (MW A G.2.1 (au (au (au (au (au (au I 3 b3_69) 4 b4_69) 5 b5_69) 6 b6_69) 7 b7_69) 8 b8_69) (fu (fu (fu F 16 g16_69) 17 g17_69) 18 g18_69)) 101 [(0, .ref (A 0)), (3, .int (J a)), (4, .int (J rung)), (5, .int (J part)), (6, .long (JL sm)), (8, .int (J k))] [.int (J (dg (b5_69 k) rung)), .long (JL sm)]
                  have q98_0 := dg_bd (b5_69 k) rung
                  refine w_iload_n (pc := 101) hC dX12_share_101 1 rfl rfl ?_
                  refine w_icmp_ne (pc := 102) (tgt := 115) hC dX12_share_102 (by decide) (by omega) (fun c102 => ?_) (fun c102 => ?_)
                  · refine w_lconst (pc := 115) hC dX12_share_115 (z := 0) rfl ?_
                    refine w_ladd (pc := 116) hC dX12_share_116 ?_
                    refine w_lstore (pc := 117) hC dX12_share_117 (lv2 := [(6, .long (JL (sm + 0))), (0, .ref (A 0)), (3, .int (J a)), (4, .int (J rung)), (5, .int (J part)), (8, .int (J k))]) (by rw [hnL]; decide) rfl ?_
                    refine w_iinc (pc := 119) hC dX12_share_119 (lv2 := [(8, .int (J (k + 1))), (6, .long (JL (sm + 0))), (0, .ref (A 0)), (3, .int (J a)), (4, .int (J rung)), (5, .int (J part))]) 5 rfl (by rw [hnL]; decide) rfl ?_
                    refine w_goto (pc := 122) hC dX12_share_122 (tgt := 78) (by decide) ?_
                    refine w_sub [2, 3, 4, 5, 1, 0] (lv2 := [(0, .ref (A 0)), (3, .int (J a)), (4, .int (J rung)), (5, .int (J part)), (6, .long (JL (sm + 0))), (8, .int (J (k + 1)))]) rfl ?_
                    refine ih78 (sm + 0) (k + 1) ?_ ?_ ?_
                    · first | assumption | omega
                    · rw [isum_s _ _ _ i1.1, ← i2]; first | (rw [bI_t c102, Int.one_mul]) | (rw [bI_f c102, Int.zero_mul])
                    · omega
                  · refine w_aload_n (pc := 105) hC dX12_share_105 0 rfl rfl ?_
                    refine w_getf (pc := 106) (v := .ref (A 7)) hC dX12_share_106 fi_X12_35 0 rfl rfl ?_
                    refine w_iload (pc := 109) hC dX12_share_109 5 rfl ?_
                    refine w_lald (pc := 111) (g := b7_69) hC dX12_share_111 7 rfl (by omega) (Nat.le_of_ble_eq_true rfl) ?_
                    refine w_goto (pc := 112) hC dX12_share_112 (tgt := 116) (by decide) ?_
                    refine w_ladd (pc := 116) hC dX12_share_116 ?_
                    refine w_lstore (pc := 117) hC dX12_share_117 (lv2 := [(6, .long (JL (sm + (b7_69 k)))), (0, .ref (A 0)), (3, .int (J a)), (4, .int (J rung)), (5, .int (J part)), (8, .int (J k))]) (by rw [hnL]; decide) rfl ?_
                    refine w_iinc (pc := 119) hC dX12_share_119 (lv2 := [(8, .int (J (k + 1))), (6, .long (JL (sm + (b7_69 k)))), (0, .ref (A 0)), (3, .int (J a)), (4, .int (J rung)), (5, .int (J part))]) 5 rfl (by rw [hnL]; decide) rfl ?_
                    refine w_goto (pc := 122) hC dX12_share_122 (tgt := 78) (by decide) ?_
                    refine w_sub [2, 3, 4, 5, 1, 0] (lv2 := [(0, .ref (A 0)), (3, .int (J a)), (4, .int (J rung)), (5, .int (J part)), (6, .long (JL (sm + (b7_69 k)))), (8, .int (J (k + 1)))]) rfl ?_
                    refine ih78 (sm + (b7_69 k)) (k + 1) ?_ ?_ ?_
                    · first | assumption | omega
                    · rw [isum_s _ _ _ i1.1, ← i2]; first | (rw [bI_t c102, Int.one_mul]) | (rw [bI_f c102, Int.zero_mul])
                    · omega
            refine w_sub [2, 5, 6, 7, 1, 0] (lv2 := [(0, .ref (A 0)), (3, .int (J a)), (4, .int (J rung)), (5, .int (J part)), (6, .long (JL 0)), (8, .int (J 0))]) rfl ?_
            refine loop78 ((g16_69 - 0) + 1 : Int).toNat 0 0 ?_ ?_ ?_
            · first | assumption | omega
            · rfl
            · omega
          · refine w_ldc2 (pc := 53) hC dX12_share_53 (z := (-9223372036854775808)) tw_6_49 (by decide) ?_
            refine w_lret (pc := 56) hC hRT dX12_share_56 ?_
            refine ⟨(I 3), (I 4), (I 5), (I 6), (I 7), (I 8), (F 16), (F 17), (F 18), retL (by unfold v_share NOL; rw [if_pos (by omega)]), rfl⟩
set_option maxRecDepth 100000 in
set_option maxHeartbeats 4000000 in
theorem c_X12_truly (l : Launch) (G : GT) (A : Nat → Nat) (I : Nat → Int → Int) (F : Nat → Int)  (c : Int) (n : Int) (part : Int) (hR : RI (I 1)) (h1 : -2147483648 ≤ c ∧ c < 2147483648) (h2 : -2147483648 ≤ n ∧ n < 2147483648) (h5 : -2147483648 ≤ part ∧ part < 2147483648) (hrf : (F 11) = -1) : CT l yX12_truly cX12_truly 4 (some .long) 6 0 0 G [.ref (A 0), .int (J c), .int (J n), .int (J part)] (MW A G.2.1 I F) (fun vo wo => ∃ (b3 : Int → Int) (b4 : Int → Int) (b5 : Int → Int) (b6 : Int → Int) (b7 : Int → Int) (b8 : Int → Int) (g16 : Int) (g17 : Int) (g18 : Int), vo = some (.long (JL (v_truly (I 1) c n part))) ∧ wo = MW A G.2.1 (au (au (au (au (au (au I 3 b3) 4 b4) 5 b5) 6 b6) 7 b7) 8 b8) (fu (fu (fu F 16 g16) 17 g17) 18 g18)) := by
  refine CT_of (own := RX12) rfl rfl (Nat.le_of_ble_eq_true rfl) (fun K hl hnL hC hRT hin => ?_)
  subst hl
  show WW K G 0 0 (MW A G.2.1 I F) 0 [(0, .ref (A 0)), (1, .int (J c)), (2, .int (J n)), (3, .int (J part))] []
  have hn0 := hR.n
  have hV := hR.bd
  have hB := VB_rng hV
  refine w_aload_n (pc := 0) hC dX12_truly_0 0 rfl rfl ?_
  refine w_iload_n (pc := 1) hC dX12_truly_1 1 rfl rfl ?_
  refine w_callV (pc := 2) (As := [.int (J c)]) (rest := []) hC dX12_truly_2 cv_X12_156 (c_X12_isClub (kl K) G A I F c (show RI (I 1) from by first | assumption | omega) (show -2147483648 ≤ c ∧ c < 2147483648 from by first | assumption | omega)) (by decide) ⟨Nat.le_of_ble_eq_true rfl, Nat.le_of_ble_eq_true rfl⟩ (q0 := 0) rfl rfl rfl rfl (Nat.le_of_ble_eq_true rfl) rfl (fun vo wo hv => ?_)
  obtain ⟨hv1, hw1⟩ := hv
  rw [hv1, hw1]
  show WW K G 0 0 (MW A G.2.1 I F) 5 [(0, .ref (A 0)), (1, .int (J c)), (2, .int (J n)), (3, .int (J part))] [.int (J (bI (0 ≤ c ∧ c < (I 1) 1)))]
  refine w_if_eq_b (pc := 5) (tgt := 36) hC dX12_truly_5 (by decide) (fun c5 => ?_) (fun c5 => ?_)
  · refine w_ldc2 (pc := 36) hC dX12_truly_36 (z := (-9223372036854775808)) tw_6_49 (by decide) ?_
    refine w_lret (pc := 39) hC hRT dX12_truly_39 ?_
    refine ⟨(I 3), (I 4), (I 5), (I 6), (I 7), (I 8), (F 16), (F 17), (F 18), retL (by unfold v_truly NOL; rw [if_pos (by omega)]), rfl⟩
  · refine w_iload_n (pc := 8) hC dX12_truly_8 2 rfl rfl ?_
    refine w_iconst (pc := 9) hC dX12_truly_9 ?_
    refine w_bipush (pc := 10) hC dX12_truly_10 (z := 6) rfl ?_
    refine w_callS (pc := 12) (As := [.int (J n), .int (J 0), .int (J 6)]) (rest := []) hC dX12_truly_12 cs_X12_48 (c_X12_in (kl K) G (MW A G.2.1 I F) n 0 6 (show (-2147483648 ≤ n ∧ n < 2147483648) ∧ (-2147483648 ≤ 0 ∧ 0 < 2147483648) ∧ -2147483648 ≤ 6 ∧ 6 < 2147483648 from by first | assumption | omega)) (by decide) ⟨Nat.le_of_ble_eq_true rfl, Nat.le_of_ble_eq_true rfl⟩ rfl (Nat.le_of_ble_eq_true rfl) rfl (fun vo wo hv => ?_)
    obtain ⟨hv1, hw1⟩ := hv
    rw [hv1, hw1]
    show WW K G 0 0 (MW A G.2.1 I F) 15 [(0, .ref (A 0)), (1, .int (J c)), (2, .int (J n)), (3, .int (J part))] [.int (J (bI (0 ≤ n ∧ n ≤ 6)))]
    refine w_if_eq_b (pc := 15) (tgt := 36) hC dX12_truly_15 (by decide) (fun c15 => ?_) (fun c15 => ?_)
    · refine w_ldc2 (pc := 36) hC dX12_truly_36 (z := (-9223372036854775808)) tw_6_49 (by decide) ?_
      refine w_lret (pc := 39) hC hRT dX12_truly_39 ?_
      refine ⟨(I 3), (I 4), (I 5), (I 6), (I 7), (I 8), (F 16), (F 17), (F 18), retL (by unfold v_truly NOL; rw [if_pos (by omega)]), rfl⟩
    · refine w_iload_n (pc := 18) hC dX12_truly_18 3 rfl rfl ?_
      refine w_iconst (pc := 19) hC dX12_truly_19 ?_
      refine w_iconst (pc := 20) hC dX12_truly_20 ?_
      refine w_callS (pc := 21) (As := [.int (J part), .int (J 0), .int (J 1)]) (rest := []) hC dX12_truly_21 cs_X12_48 (c_X12_in (kl K) G (MW A G.2.1 I F) part 0 1 (show (-2147483648 ≤ part ∧ part < 2147483648) ∧ (-2147483648 ≤ 0 ∧ 0 < 2147483648) ∧ -2147483648 ≤ 1 ∧ 1 < 2147483648 from by first | assumption | omega)) (by decide) ⟨Nat.le_of_ble_eq_true rfl, Nat.le_of_ble_eq_true rfl⟩ rfl (Nat.le_of_ble_eq_true rfl) rfl (fun vo wo hv => ?_)
      obtain ⟨hv1, hw1⟩ := hv
      rw [hv1, hw1]
      show WW K G 0 0 (MW A G.2.1 I F) 24 [(0, .ref (A 0)), (1, .int (J c)), (2, .int (J n)), (3, .int (J part))] [.int (J (bI (0 ≤ part ∧ part ≤ 1)))]
      refine w_if_eq_b (pc := 24) (tgt := 36) hC dX12_truly_24 (by decide) (fun c24 => ?_) (fun c24 => ?_)
      · refine w_ldc2 (pc := 36) hC dX12_truly_36 (z := (-9223372036854775808)) tw_6_49 (by decide) ?_
        refine w_lret (pc := 39) hC hRT dX12_truly_39 ?_
        refine ⟨(I 3), (I 4), (I 5), (I 6), (I 7), (I 8), (F 16), (F 17), (F 18), retL (by unfold v_truly NOL; rw [if_pos (by omega)]), rfl⟩
      · refine w_aload_n (pc := 27) hC dX12_truly_27 0 rfl rfl ?_
        refine w_getf (pc := 28) (v := .ref (A 1)) hC dX12_truly_28 fi_X12_9 0 rfl rfl ?_
        refine w_iconst (pc := 31) hC dX12_truly_31 ?_
        refine w_iald (pc := 32) (g := (I 1)) hC dX12_truly_32 1 rfl (by omega) (Nat.le_of_ble_eq_true rfl) ?_
        refine w_if_ne (pc := 33) (tgt := 40) hC dX12_truly_33 (by decide) (by omega) (fun c33 => ?_) (fun c33 => ?_)
        · refine w_aload_n (pc := 40) hC dX12_truly_40 0 rfl rfl ?_
          refine w_iload_n (pc := 41) hC dX12_truly_41 1 rfl rfl ?_
          refine w_aload_n (pc := 42) hC dX12_truly_42 0 rfl rfl ?_
          refine w_getf (pc := 43) (v := .ref (A 1)) hC dX12_truly_43 fi_X12_9 0 rfl rfl ?_
          refine w_bipush (pc := 46) hC dX12_truly_46 (z := 6) rfl ?_
          refine w_iald (pc := 48) (g := (I 1)) hC dX12_truly_48 1 rfl (by omega) (Nat.le_of_ble_eq_true rfl) ?_
          refine w_iload_n (pc := 49) hC dX12_truly_49 2 rfl rfl ?_
          refine w_bipush (pc := 50) hC dX12_truly_50 (z := (-7)) rfl ?_
          refine w_callV (pc := 52) (As := [.int (J c), .int (J ((I 1) 6)), .int (J n), .int (J (-7))]) (rest := []) hC dX12_truly_52 cv_X12_201 (c_X12_days (kl K) G A I F c ((I 1) 6) n (-7) (show RI (I 1) from by first | assumption | omega) (show 0 ≤ c ∧ c < (I 1) 1 from by first | assumption | omega) (show 0 < (I 1) 0 from by first | assumption | omega) (show VB ((I 1) 0) ((I 1) 6) from by first | assumption | omega) (show 0 ≤ n ∧ n ≤ 6 from by first | assumption | omega) (show -1 ≤ (F 11) ∧ (F 11) ≤ 5 from by first | assumption | omega) (show FST (I 1) ((I 1) 6) ((I 1) 2) (-7) from by exact Or.inl rfl) (show (-7) = -7 ∨ (-7) = -5 ∨ (0 ≤ (-7) ∧ (-7) < (I 1) 0) from by exact Or.inl rfl)) (by decide) ⟨Nat.le_of_ble_eq_true rfl, Nat.le_of_ble_eq_true rfl⟩ (q0 := 0) rfl rfl rfl rfl (Nat.le_of_ble_eq_true rfl) rfl (fun vo wo hv => ?_)
          obtain ⟨b3_52, b4_52, b5_52, b6_52, b7_52, b8_52, g16_52, g17_52, g18_52, hv1, hw1, r52⟩ := hv
          rw [hv1, hw1]
          show WW K G 0 0 (MW A G.2.1 (au (au (au (au (au (au I 3 b3_52) 4 b4_52) 5 b5_52) 6 b6_52) 7 b7_52) 8 b8_52) (fu (fu (fu F 16 g16_52) 17 g17_52) 18 g18_52)) 55 [(0, .ref (A 0)), (1, .int (J c)), (2, .int (J n)), (3, .int (J part))] []
          have r52 : (∀ f : Int → Int, isum f b5_52 b7_52 (g16_52).toNat = EXP (I 1) c (F 11) (-7) n.toNat f ((I 1) 6)) ∧ LK b5_52 b7_52 g16_52 ∧ (∀ k : Int, 0 ≤ k → k < g16_52 → VB ((I 1) 0) (b5_52 k)) ∧ isum one1 b5_52 b7_52 (g16_52).toNat = g18_52 ∧ g18_52 = 100 ^ n.toNat := r52
          have hlk := r52.2.1
          have hvb := r52.2.2.1
          have htot := r52.2.2.2.1
          have hli := r52.2.2.2.2
          have hex := r52.1
          have hp := p100 (n := n) (by omega) (by omega)
          rw [← hli] at hp
          rw [hrf] at hex
          have hmm := hlk.1
          refine w_aload_n (pc := 55) hC dX12_truly_55 0 rfl rfl ?_
          refine w_callV (pc := 56) (As := []) (rest := []) hC dX12_truly_56 cv_X12_209 (c_X12_trulyNow (kl K) G A (au (au (au (au (au (au I 3 b3_52) 4 b4_52) 5 b5_52) 6 b6_52) 7 b7_52) 8 b8_52) (fu (fu (fu F 16 g16_52) 17 g17_52) 18 g18_52) (show RI (I 1) from by first | assumption | omega) (show LK b5_52 b7_52 g16_52 from by first | assumption | omega) (show ∀ k : Int, 0 ≤ k → k < g16_52 → VB ((I 1) 0) (b5_52 k) from by first | assumption | omega)) (by decide) ⟨Nat.le_of_ble_eq_true rfl, Nat.le_of_ble_eq_true rfl⟩ (q0 := 0) rfl rfl rfl rfl (Nat.le_of_ble_eq_true rfl) rfl (fun vo wo hv => ?_)
          obtain ⟨hv1, hw1⟩ := hv
          rw [hv1, hw1]
          show WW K G 0 0 (MW A G.2.1 (au (au (au (au (au (au I 3 b3_52) 4 b4_52) 5 b5_52) 6 b6_52) 7 b7_52) 8 b8_52) (fu (fu (fu F 16 g16_52) 17 g17_52) 18 g18_52)) 59 [(0, .ref (A 0)), (1, .int (J c)), (2, .int (J n)), (3, .int (J part))] [.long (JL (isum (fun b => bI (b = TB (I 1))) b5_52 b7_52 g16_52.toNat))]
          have hsr := isum_rng (f := fun b => bI (b = TB (I 1))) hlk (c := 1) (fun j _ _ => bI_01 _)
          refine w_aload_n (pc := 59) hC dX12_truly_59 0 rfl rfl ?_
          refine w_getf (pc := 60) (v := .long (JL g18_52)) hC dX12_truly_60 fi_X12_185 0 rfl rfl ?_
          refine w_iload_n (pc := 63) hC dX12_truly_63 3 rfl rfl ?_
          refine w_callS (pc := 64) (As := [.long (JL (isum (fun b => bI (b = TB (I 1))) b5_52 b7_52 g16_52.toNat)), .long (JL g18_52), .int (J part)]) (rest := []) hC dX12_truly_64 cs_X12_205 (c_X12_lowest (kl K) G (MW A G.2.1 (au (au (au (au (au (au I 3 b3_52) 4 b4_52) 5 b5_52) 6 b6_52) 7 b7_52) 8 b8_52) (fu (fu (fu F 16 g16_52) 17 g17_52) 18 g18_52)) (isum (fun b => bI (b = TB (I 1))) b5_52 b7_52 g16_52.toNat) g18_52 part (show -1000000000000000 ≤ (isum (fun b => bI (b = TB (I 1))) b5_52 b7_52 g16_52.toNat) ∧ (isum (fun b => bI (b = TB (I 1))) b5_52 b7_52 g16_52.toNat) ≤ 1000000000000000 from by first | assumption | omega) (show 1 ≤ g18_52 ∧ g18_52 ≤ 1000000000000000 from by first | assumption | omega) (show -2147483648 ≤ part ∧ part < 2147483648 from by first | assumption | omega)) (by decide) ⟨Nat.le_of_ble_eq_true rfl, Nat.le_of_ble_eq_true rfl⟩ rfl (Nat.le_of_ble_eq_true rfl) rfl (fun vo wo hv => ?_)
          obtain ⟨hv1, hw1⟩ := hv
          rw [hv1, hw1]
          show WW K G 0 0 (MW A G.2.1 (au (au (au (au (au (au I 3 b3_52) 4 b4_52) 5 b5_52) 6 b6_52) 7 b7_52) 8 b8_52) (fu (fu (fu F 16 g16_52) 17 g17_52) 18 g18_52)) 67 [(0, .ref (A 0)), (1, .int (J c)), (2, .int (J n)), (3, .int (J part))] [.long (JL (LOW (isum (fun b => bI (b = TB (I 1))) b5_52 b7_52 g16_52.toNat) g18_52 part))]
          refine w_lret (pc := 67) hC hRT dX12_truly_67 ?_
          refine ⟨b3_52, b4_52, b5_52, b6_52, b7_52, b8_52, g16_52, g17_52, g18_52, retL (by unfold v_truly; rw [if_neg (by omega), ← hli, ← hex]), rfl⟩
        · refine w_ldc2 (pc := 36) hC dX12_truly_36 (z := (-9223372036854775808)) tw_6_49 (by decide) ?_
          refine w_lret (pc := 39) hC hRT dX12_truly_39 ?_
          refine ⟨(I 3), (I 4), (I 5), (I 6), (I 7), (I 8), (F 16), (F 17), (F 18), retL (by unfold v_truly NOL; rw [if_pos (by omega)]), rfl⟩
set_option maxRecDepth 100000 in
set_option maxHeartbeats 4000000 in
theorem c_X12_mean (l : Launch) (G : GT) (A : Nat → Nat) (I : Nat → Int → Int) (F : Nat → Int)  (c : Int) (n : Int) (a : Int) (part : Int) (hR : RI (I 1)) (h1 : -2147483648 ≤ c ∧ c < 2147483648) (h2 : -2147483648 ≤ n ∧ n < 2147483648) (h3 : -2147483648 ≤ a ∧ a < 2147483648) (h5 : -2147483648 ≤ part ∧ part < 2147483648) (hrf : (F 11) = -1) : CT l yX12_mean cX12_mean 5 (some .long) 6 0 0 G [.ref (A 0), .int (J c), .int (J n), .int (J a), .int (J part)] (MW A G.2.1 I F) (fun vo wo => ∃ (b3 : Int → Int) (b4 : Int → Int) (b5 : Int → Int) (b6 : Int → Int) (b7 : Int → Int) (b8 : Int → Int) (g16 : Int) (g17 : Int) (g18 : Int), vo = some (.long (JL (v_mean (I 1) c n a part))) ∧ wo = MW A G.2.1 (au (au (au (au (au (au I 3 b3) 4 b4) 5 b5) 6 b6) 7 b7) 8 b8) (fu (fu (fu F 16 g16) 17 g17) 18 g18)) := by
  refine CT_of (own := RX12) rfl rfl (Nat.le_of_ble_eq_true rfl) (fun K hl hnL hC hRT hin => ?_)
  subst hl
  show WW K G 0 0 (MW A G.2.1 I F) 0 [(0, .ref (A 0)), (1, .int (J c)), (2, .int (J n)), (3, .int (J a)), (4, .int (J part))] []
  have hn0 := hR.n
  have hV := hR.bd
  have hB := VB_rng hV
  refine w_aload_n (pc := 0) hC dX12_mean_0 0 rfl rfl ?_
  refine w_iload_n (pc := 1) hC dX12_mean_1 1 rfl rfl ?_
  refine w_callV (pc := 2) (As := [.int (J c)]) (rest := []) hC dX12_mean_2 cv_X12_156 (c_X12_isClub (kl K) G A I F c (show RI (I 1) from by first | assumption | omega) (show -2147483648 ≤ c ∧ c < 2147483648 from by first | assumption | omega)) (by decide) ⟨Nat.le_of_ble_eq_true rfl, Nat.le_of_ble_eq_true rfl⟩ (q0 := 0) rfl rfl rfl rfl (Nat.le_of_ble_eq_true rfl) rfl (fun vo wo hv => ?_)
  obtain ⟨hv1, hw1⟩ := hv
  rw [hv1, hw1]
  show WW K G 0 0 (MW A G.2.1 I F) 5 [(0, .ref (A 0)), (1, .int (J c)), (2, .int (J n)), (3, .int (J a)), (4, .int (J part))] [.int (J (bI (0 ≤ c ∧ c < (I 1) 1)))]
  refine w_if_eq_b (pc := 5) (tgt := 36) hC dX12_mean_5 (by decide) (fun c5 => ?_) (fun c5 => ?_)
  · refine w_ldc2 (pc := 36) hC dX12_mean_36 (z := (-9223372036854775808)) tw_6_49 (by decide) ?_
    refine w_lret (pc := 39) hC hRT dX12_mean_39 ?_
    refine ⟨(I 3), (I 4), (I 5), (I 6), (I 7), (I 8), (F 16), (F 17), (F 18), retL (by unfold v_mean NOL; rw [if_pos (by omega)]), rfl⟩
  · refine w_iload_n (pc := 8) hC dX12_mean_8 2 rfl rfl ?_
    refine w_iconst (pc := 9) hC dX12_mean_9 ?_
    refine w_bipush (pc := 10) hC dX12_mean_10 (z := 6) rfl ?_
    refine w_callS (pc := 12) (As := [.int (J n), .int (J 0), .int (J 6)]) (rest := []) hC dX12_mean_12 cs_X12_48 (c_X12_in (kl K) G (MW A G.2.1 I F) n 0 6 (show (-2147483648 ≤ n ∧ n < 2147483648) ∧ (-2147483648 ≤ 0 ∧ 0 < 2147483648) ∧ -2147483648 ≤ 6 ∧ 6 < 2147483648 from by first | assumption | omega)) (by decide) ⟨Nat.le_of_ble_eq_true rfl, Nat.le_of_ble_eq_true rfl⟩ rfl (Nat.le_of_ble_eq_true rfl) rfl (fun vo wo hv => ?_)
    obtain ⟨hv1, hw1⟩ := hv
    rw [hv1, hw1]
    show WW K G 0 0 (MW A G.2.1 I F) 15 [(0, .ref (A 0)), (1, .int (J c)), (2, .int (J n)), (3, .int (J a)), (4, .int (J part))] [.int (J (bI (0 ≤ n ∧ n ≤ 6)))]
    refine w_if_eq_b (pc := 15) (tgt := 36) hC dX12_mean_15 (by decide) (fun c15 => ?_) (fun c15 => ?_)
    · refine w_ldc2 (pc := 36) hC dX12_mean_36 (z := (-9223372036854775808)) tw_6_49 (by decide) ?_
      refine w_lret (pc := 39) hC hRT dX12_mean_39 ?_
      refine ⟨(I 3), (I 4), (I 5), (I 6), (I 7), (I 8), (F 16), (F 17), (F 18), retL (by unfold v_mean NOL; rw [if_pos (by omega)]), rfl⟩
    · refine w_aload_n (pc := 18) hC dX12_mean_18 0 rfl rfl ?_
      refine w_iload_n (pc := 19) hC dX12_mean_19 3 rfl rfl ?_
      refine w_callV (pc := 20) (As := [.int (J a)]) (rest := []) hC dX12_mean_20 cv_X12_60 (c_X12_isName (kl K) G A I F a (show RI (I 1) from by first | assumption | omega) (show -2147483648 ≤ a ∧ a < 2147483648 from by first | assumption | omega)) (by decide) ⟨Nat.le_of_ble_eq_true rfl, Nat.le_of_ble_eq_true rfl⟩ (q0 := 0) rfl rfl rfl rfl (Nat.le_of_ble_eq_true rfl) rfl (fun vo wo hv => ?_)
      obtain ⟨hv1, hw1⟩ := hv
      rw [hv1, hw1]
      show WW K G 0 0 (MW A G.2.1 I F) 23 [(0, .ref (A 0)), (1, .int (J c)), (2, .int (J n)), (3, .int (J a)), (4, .int (J part))] [.int (J (bI (0 ≤ a ∧ a < (I 1) 0)))]
      refine w_if_eq_b (pc := 23) (tgt := 36) hC dX12_mean_23 (by decide) (fun c23 => ?_) (fun c23 => ?_)
      · refine w_ldc2 (pc := 36) hC dX12_mean_36 (z := (-9223372036854775808)) tw_6_49 (by decide) ?_
        refine w_lret (pc := 39) hC hRT dX12_mean_39 ?_
        refine ⟨(I 3), (I 4), (I 5), (I 6), (I 7), (I 8), (F 16), (F 17), (F 18), retL (by unfold v_mean NOL; rw [if_pos (by omega)]), rfl⟩
      · refine w_iload (pc := 26) hC dX12_mean_26 4 rfl ?_
        refine w_iconst (pc := 28) hC dX12_mean_28 ?_
        refine w_iconst (pc := 29) hC dX12_mean_29 ?_
        refine w_callS (pc := 30) (As := [.int (J part), .int (J 0), .int (J 1)]) (rest := []) hC dX12_mean_30 cs_X12_48 (c_X12_in (kl K) G (MW A G.2.1 I F) part 0 1 (show (-2147483648 ≤ part ∧ part < 2147483648) ∧ (-2147483648 ≤ 0 ∧ 0 < 2147483648) ∧ -2147483648 ≤ 1 ∧ 1 < 2147483648 from by first | assumption | omega)) (by decide) ⟨Nat.le_of_ble_eq_true rfl, Nat.le_of_ble_eq_true rfl⟩ rfl (Nat.le_of_ble_eq_true rfl) rfl (fun vo wo hv => ?_)
        obtain ⟨hv1, hw1⟩ := hv
        rw [hv1, hw1]
        show WW K G 0 0 (MW A G.2.1 I F) 33 [(0, .ref (A 0)), (1, .int (J c)), (2, .int (J n)), (3, .int (J a)), (4, .int (J part))] [.int (J (bI (0 ≤ part ∧ part ≤ 1)))]
        refine w_if_ne_b (pc := 33) (tgt := 40) hC dX12_mean_33 (by decide) (fun c33 => ?_) (fun c33 => ?_)
        · refine w_aload_n (pc := 40) hC dX12_mean_40 0 rfl rfl ?_
          refine w_iload_n (pc := 41) hC dX12_mean_41 1 rfl rfl ?_
          refine w_aload_n (pc := 42) hC dX12_mean_42 0 rfl rfl ?_
          refine w_getf (pc := 43) (v := .ref (A 1)) hC dX12_mean_43 fi_X12_9 0 rfl rfl ?_
          refine w_bipush (pc := 46) hC dX12_mean_46 (z := 6) rfl ?_
          refine w_iald (pc := 48) (g := (I 1)) hC dX12_mean_48 1 rfl (by omega) (Nat.le_of_ble_eq_true rfl) ?_
          refine w_iload_n (pc := 49) hC dX12_mean_49 2 rfl rfl ?_
          refine w_bipush (pc := 50) hC dX12_mean_50 (z := (-7)) rfl ?_
          refine w_callV (pc := 52) (As := [.int (J c), .int (J ((I 1) 6)), .int (J n), .int (J (-7))]) (rest := []) hC dX12_mean_52 cv_X12_201 (c_X12_days (kl K) G A I F c ((I 1) 6) n (-7) (show RI (I 1) from by first | assumption | omega) (show 0 ≤ c ∧ c < (I 1) 1 from by first | assumption | omega) (show 0 < (I 1) 0 from by first | assumption | omega) (show VB ((I 1) 0) ((I 1) 6) from by first | assumption | omega) (show 0 ≤ n ∧ n ≤ 6 from by first | assumption | omega) (show -1 ≤ (F 11) ∧ (F 11) ≤ 5 from by first | assumption | omega) (show FST (I 1) ((I 1) 6) ((I 1) 2) (-7) from by exact Or.inl rfl) (show (-7) = -7 ∨ (-7) = -5 ∨ (0 ≤ (-7) ∧ (-7) < (I 1) 0) from by exact Or.inl rfl)) (by decide) ⟨Nat.le_of_ble_eq_true rfl, Nat.le_of_ble_eq_true rfl⟩ (q0 := 0) rfl rfl rfl rfl (Nat.le_of_ble_eq_true rfl) rfl (fun vo wo hv => ?_)
          obtain ⟨b3_52, b4_52, b5_52, b6_52, b7_52, b8_52, g16_52, g17_52, g18_52, hv1, hw1, r52⟩ := hv
          rw [hv1, hw1]
          show WW K G 0 0 (MW A G.2.1 (au (au (au (au (au (au I 3 b3_52) 4 b4_52) 5 b5_52) 6 b6_52) 7 b7_52) 8 b8_52) (fu (fu (fu F 16 g16_52) 17 g17_52) 18 g18_52)) 55 [(0, .ref (A 0)), (1, .int (J c)), (2, .int (J n)), (3, .int (J a)), (4, .int (J part))] []
          have r52 : (∀ f : Int → Int, isum f b5_52 b7_52 (g16_52).toNat = EXP (I 1) c (F 11) (-7) n.toNat f ((I 1) 6)) ∧ LK b5_52 b7_52 g16_52 ∧ (∀ k : Int, 0 ≤ k → k < g16_52 → VB ((I 1) 0) (b5_52 k)) ∧ isum one1 b5_52 b7_52 (g16_52).toNat = g18_52 ∧ g18_52 = 100 ^ n.toNat := r52
          have hlk := r52.2.1
          have hvb := r52.2.2.1
          have htot := r52.2.2.2.1
          have hli := r52.2.2.2.2
          have hex := r52.1
          have hp := p100 (n := n) (by omega) (by omega)
          rw [← hli] at hp
          rw [hrf] at hex
          have hmm := hlk.1
          refine w_aload_n (pc := 55) hC dX12_mean_55 0 rfl rfl ?_
          refine w_iload_n (pc := 56) hC dX12_mean_56 3 rfl rfl ?_
          refine w_callV (pc := 57) (As := [.int (J a)]) (rest := []) hC dX12_mean_57 cv_X12_216 (c_X12_rungs (kl K) G A (au (au (au (au (au (au I 3 b3_52) 4 b4_52) 5 b5_52) 6 b6_52) 7 b7_52) 8 b8_52) (fu (fu (fu F 16 g16_52) 17 g17_52) 18 g18_52) a (show RI (I 1) from by first | assumption | omega) (show 0 ≤ a ∧ a < (I 1) 0 from by first | assumption | omega) (show LK b5_52 b7_52 g16_52 from by first | assumption | omega) (show ∀ k : Int, 0 ≤ k → k < g16_52 → VB ((I 1) 0) (b5_52 k) from by first | assumption | omega)) (by decide) ⟨Nat.le_of_ble_eq_true rfl, Nat.le_of_ble_eq_true rfl⟩ (q0 := 0) rfl rfl rfl rfl (Nat.le_of_ble_eq_true rfl) rfl (fun vo wo hv => ?_)
          obtain ⟨hv1, hw1⟩ := hv
          rw [hv1, hw1]
          show WW K G 0 0 (MW A G.2.1 (au (au (au (au (au (au I 3 b3_52) 4 b4_52) 5 b5_52) 6 b6_52) 7 b7_52) 8 b8_52) (fu (fu (fu F 16 g16_52) 17 g17_52) 18 g18_52)) 60 [(0, .ref (A 0)), (1, .int (J c)), (2, .int (J n)), (3, .int (J a)), (4, .int (J part))] [.long (JL (isum (fun b => rk ((I 1) 0) b a) b5_52 b7_52 g16_52.toNat))]
          have hsr := isum_rng (f := fun b => rk (I 1 0) b a) hlk (c := 5) (fun j g1 g2 => by have := (rk_spec (hvb j g1 g2) (a := a) (by omega) (by omega)).1; omega)
          refine w_aload_n (pc := 60) hC dX12_mean_60 0 rfl rfl ?_
          refine w_getf (pc := 61) (v := .long (JL g18_52)) hC dX12_mean_61 fi_X12_185 0 rfl rfl ?_
          refine w_iload (pc := 64) hC dX12_mean_64 4 rfl ?_
          refine w_callS (pc := 66) (As := [.long (JL (isum (fun b => rk ((I 1) 0) b a) b5_52 b7_52 g16_52.toNat)), .long (JL g18_52), .int (J part)]) (rest := []) hC dX12_mean_66 cs_X12_205 (c_X12_lowest (kl K) G (MW A G.2.1 (au (au (au (au (au (au I 3 b3_52) 4 b4_52) 5 b5_52) 6 b6_52) 7 b7_52) 8 b8_52) (fu (fu (fu F 16 g16_52) 17 g17_52) 18 g18_52)) (isum (fun b => rk ((I 1) 0) b a) b5_52 b7_52 g16_52.toNat) g18_52 part (show -1000000000000000 ≤ (isum (fun b => rk ((I 1) 0) b a) b5_52 b7_52 g16_52.toNat) ∧ (isum (fun b => rk ((I 1) 0) b a) b5_52 b7_52 g16_52.toNat) ≤ 1000000000000000 from by first | assumption | omega) (show 1 ≤ g18_52 ∧ g18_52 ≤ 1000000000000000 from by first | assumption | omega) (show -2147483648 ≤ part ∧ part < 2147483648 from by first | assumption | omega)) (by decide) ⟨Nat.le_of_ble_eq_true rfl, Nat.le_of_ble_eq_true rfl⟩ rfl (Nat.le_of_ble_eq_true rfl) rfl (fun vo wo hv => ?_)
          obtain ⟨hv1, hw1⟩ := hv
          rw [hv1, hw1]
          show WW K G 0 0 (MW A G.2.1 (au (au (au (au (au (au I 3 b3_52) 4 b4_52) 5 b5_52) 6 b6_52) 7 b7_52) 8 b8_52) (fu (fu (fu F 16 g16_52) 17 g17_52) 18 g18_52)) 69 [(0, .ref (A 0)), (1, .int (J c)), (2, .int (J n)), (3, .int (J a)), (4, .int (J part))] [.long (JL (LOW (isum (fun b => rk ((I 1) 0) b a) b5_52 b7_52 g16_52.toNat) g18_52 part))]
          refine w_lret (pc := 69) hC hRT dX12_mean_69 ?_
          refine ⟨b3_52, b4_52, b5_52, b6_52, b7_52, b8_52, g16_52, g17_52, g18_52, retL (by unfold v_mean; rw [if_neg (by omega), ← hli, ← hex]), rfl⟩
        · refine w_ldc2 (pc := 36) hC dX12_mean_36 (z := (-9223372036854775808)) tw_6_49 (by decide) ?_
          refine w_lret (pc := 39) hC hRT dX12_mean_39 ?_
          refine ⟨(I 3), (I 4), (I 5), (I 6), (I 7), (I 8), (F 16), (F 17), (F 18), retL (by unfold v_mean NOL; rw [if_pos (by omega)]), rfl⟩
set_option maxRecDepth 100000 in
set_option maxHeartbeats 4000000 in
theorem c_X12_isAhead (l : Launch) (G : GT) (A : Nat → Nat) (I : Nat → Int → Int) (F : Nat → Int)  (a : Int) (b : Int) (hR : RI (I 1)) (ha : -2147483648 ≤ a ∧ a < 2147483648) (hb : -2147483648 ≤ b ∧ b < 2147483648) : CT l yX12_isAhead cX12_isAhead 4 (some .boolean) 1 0 0 G [.ref (A 0), .int (J a), .int (J b)] (MW A G.2.1 I F) (fun vo wo => ∃ (z : Int), vo = some (.int (J z)) ∧ wo = MW A G.2.1 I F ∧ ((z = 1 ↔ LEX ((I 1) 0) a b) ∧ (z = 0 ∨ z = 1))) := by
  refine CT_of (own := RX12) rfl rfl (Nat.le_of_ble_eq_true rfl) (fun K hl hnL hC hRT hin => ?_)
  subst hl
  show WW K G 0 0 (MW A G.2.1 I F) 0 [(0, .ref (A 0)), (1, .int (J a)), (2, .int (J b))] []
  have hn := hR.n
  refine w_iconst (pc := 0) hC dX12_isAhead_0 ?_
  refine w_istore_n (pc := 1) hC dX12_isAhead_1 rfl (lv2 := [(3, .int (J 0)), (0, .ref (A 0)), (1, .int (J a)), (2, .int (J b))]) (by rw [hnL]; decide) rfl ?_
  have loop2 : ∀ (nF : Nat) (k : Int), (0 ≤ k ∧ k ≤ (I 1) 0) → (∀ j : Int, 0 ≤ j → j < k → dg a j = dg b j) → ((I 1) 0 - k) < (nF : Int) → WW K G 0 0 (MW A G.2.1 I F) 2 [(0, .ref (A 0)), (1, .int (J a)), (2, .int (J b)), (3, .int (J k))] [] := by
    intro nF
    induction nF with
    | zero => intro k i1 i2 hm2; exact absurd hm2 (by omega)
    | succ nF ih2 =>
      intro k i1 i2 hm2
      refine w_iload_n (pc := 2) hC dX12_isAhead_2 3 rfl rfl ?_
      refine w_aload_n (pc := 3) hC dX12_isAhead_3 0 rfl rfl ?_
      refine w_getf (pc := 4) (v := .ref (A 1)) hC dX12_isAhead_4 fi_X12_9 0 rfl rfl ?_
      refine w_iconst (pc := 7) hC dX12_isAhead_7 ?_
      refine w_iald (pc := 8) (g := (I 1)) hC dX12_isAhead_8 1 rfl (by omega) (Nat.le_of_ble_eq_true rfl) ?_
      refine w_icmp_ge (pc := 9) (tgt := 31) hC dX12_isAhead_9 (by decide) (by omega) (fun c9 => ?_) (fun c9 => ?_)
      · refine w_iload_n (pc := 31) hC dX12_isAhead_31 3 rfl rfl ?_
        refine w_aload_n (pc := 32) hC dX12_isAhead_32 0 rfl rfl ?_
        refine w_getf (pc := 33) (v := .ref (A 1)) hC dX12_isAhead_33 fi_X12_9 0 rfl rfl ?_
        refine w_iconst (pc := 36) hC dX12_isAhead_36 ?_
        refine w_iald (pc := 37) (g := (I 1)) hC dX12_isAhead_37 1 rfl (by omega) (Nat.le_of_ble_eq_true rfl) ?_
        refine w_icmp_ge (pc := 38) (tgt := 58) hC dX12_isAhead_38 (by decide) (by omega) (fun c38 => ?_) (fun c38 => ?_)
        · refine w_iconst (pc := 58) hC dX12_isAhead_58 ?_
          refine w_iret (pc := 59) hC hRT dX12_isAhead_59 rfl ?_
          refine ⟨0, rfl, rfl, ?_⟩
          · first
            | exact ⟨⟨fun _ => ⟨k, ⟨i1.1, by omega⟩, i2, c51⟩, fun _ => rfl⟩, Or.inr rfl⟩
            | refine ⟨⟨fun h => by omega, fun ⟨l, hl, p1, p2⟩ => ?_⟩, Or.inl rfl⟩
              have : ¬ l < k := fun g => by have := i2 l hl.1 g; omega
              have : ¬ k < l := fun g => by have := p1 k i1.1 g; omega
              have e : l = k := by omega
              subst e
              omega
        · refine w_iload_n (pc := 41) hC dX12_isAhead_41 1 rfl rfl ?_
          refine w_iload_n (pc := 42) hC dX12_isAhead_42 3 rfl rfl ?_
          refine w_callS (pc := 43) (As := [.int (J a), .int (J k)]) (rest := []) hC dX12_isAhead_43 cs_X12_52 (c_X12_nameOn (kl K) G (MW A G.2.1 I F) a k (show -2147483648 ≤ a ∧ a < 2147483648 from by first | assumption | omega) (show 0 ≤ k ∧ k ≤ 10 from by first | assumption | omega)) (by decide) ⟨Nat.le_of_ble_eq_true rfl, Nat.le_of_ble_eq_true rfl⟩ rfl (Nat.le_of_ble_eq_true rfl) rfl (fun vo wo hv => ?_)
          obtain ⟨hv1, hw1⟩ := hv
          rw [hv1, hw1]
          show WW K G 0 0 (MW A G.2.1 I F) 46 [(0, .ref (A 0)), (1, .int (J a)), (2, .int (J b)), (3, .int (J k))] [.int (J (dg a k))]
          have q43_0 := dg_bd a k
          refine w_iload_n (pc := 46) hC dX12_isAhead_46 2 rfl rfl ?_
          refine w_iload_n (pc := 47) hC dX12_isAhead_47 3 rfl rfl ?_
          refine w_callS (pc := 48) (As := [.int (J b), .int (J k)]) (rest := [.int (J (dg a k))]) hC dX12_isAhead_48 cs_X12_52 (c_X12_nameOn (kl K) G (MW A G.2.1 I F) b k (show -2147483648 ≤ b ∧ b < 2147483648 from by first | assumption | omega) (show 0 ≤ k ∧ k ≤ 10 from by first | assumption | omega)) (by decide) ⟨Nat.le_of_ble_eq_true rfl, Nat.le_of_ble_eq_true rfl⟩ rfl (Nat.le_of_ble_eq_true rfl) rfl (fun vo wo hv => ?_)
          obtain ⟨hv1, hw1⟩ := hv
          rw [hv1, hw1]
          show WW K G 0 0 (MW A G.2.1 I F) 51 [(0, .ref (A 0)), (1, .int (J a)), (2, .int (J b)), (3, .int (J k))] [.int (J (dg b k)), .int (J (dg a k))]
          have q48_0 := dg_bd b k
          refine w_icmp_ge (pc := 51) (tgt := 58) hC dX12_isAhead_51 (by decide) (by omega) (fun c51 => ?_) (fun c51 => ?_)
          · refine w_iconst (pc := 58) hC dX12_isAhead_58 ?_
            refine w_iret (pc := 59) hC hRT dX12_isAhead_59 rfl ?_
            refine ⟨0, rfl, rfl, ?_⟩
            · first
              | exact ⟨⟨fun _ => ⟨k, ⟨i1.1, by omega⟩, i2, c51⟩, fun _ => rfl⟩, Or.inr rfl⟩
              | refine ⟨⟨fun h => by omega, fun ⟨l, hl, p1, p2⟩ => ?_⟩, Or.inl rfl⟩
                have : ¬ l < k := fun g => by have := i2 l hl.1 g; omega
                have : ¬ k < l := fun g => by have := p1 k i1.1 g; omega
                have e : l = k := by omega
                subst e
                omega
          · refine w_iconst (pc := 54) hC dX12_isAhead_54 ?_
            refine w_goto (pc := 55) hC dX12_isAhead_55 (tgt := 59) (by decide) ?_
            refine w_iret (pc := 59) hC hRT dX12_isAhead_59 rfl ?_
            refine ⟨1, rfl, rfl, ?_⟩
            · first
              | exact ⟨⟨fun _ => ⟨k, ⟨i1.1, by omega⟩, i2, c51⟩, fun _ => rfl⟩, Or.inr rfl⟩
              | refine ⟨⟨fun h => by omega, fun ⟨l, hl, p1, p2⟩ => ?_⟩, Or.inl rfl⟩
                have : ¬ l < k := fun g => by have := i2 l hl.1 g; omega
                have : ¬ k < l := fun g => by have := p1 k i1.1 g; omega
                have e : l = k := by omega
                subst e
                omega
      · refine w_iload_n (pc := 12) hC dX12_isAhead_12 1 rfl rfl ?_
        refine w_iload_n (pc := 13) hC dX12_isAhead_13 3 rfl rfl ?_
        refine w_callS (pc := 14) (As := [.int (J a), .int (J k)]) (rest := []) hC dX12_isAhead_14 cs_X12_52 (c_X12_nameOn (kl K) G (MW A G.2.1 I F) a k (show -2147483648 ≤ a ∧ a < 2147483648 from by first | assumption | omega) (show 0 ≤ k ∧ k ≤ 10 from by first | assumption | omega)) (by decide) ⟨Nat.le_of_ble_eq_true rfl, Nat.le_of_ble_eq_true rfl⟩ rfl (Nat.le_of_ble_eq_true rfl) rfl (fun vo wo hv => ?_)
        obtain ⟨hv1, hw1⟩ := hv
        rw [hv1, hw1]
        show WW K G 0 0 (MW A G.2.1 I F) 17 [(0, .ref (A 0)), (1, .int (J a)), (2, .int (J b)), (3, .int (J k))] [.int (J (dg a k))]
        have q14_0 := dg_bd a k
        refine w_iload_n (pc := 17) hC dX12_isAhead_17 2 rfl rfl ?_
        refine w_iload_n (pc := 18) hC dX12_isAhead_18 3 rfl rfl ?_
        refine w_callS (pc := 19) (As := [.int (J b), .int (J k)]) (rest := [.int (J (dg a k))]) hC dX12_isAhead_19 cs_X12_52 (c_X12_nameOn (kl K) G (MW A G.2.1 I F) b k (show -2147483648 ≤ b ∧ b < 2147483648 from by first | assumption | omega) (show 0 ≤ k ∧ k ≤ 10 from by first | assumption | omega)) (by decide) ⟨Nat.le_of_ble_eq_true rfl, Nat.le_of_ble_eq_true rfl⟩ rfl (Nat.le_of_ble_eq_true rfl) rfl (fun vo wo hv => ?_)
        obtain ⟨hv1, hw1⟩ := hv
        rw [hv1, hw1]
        show WW K G 0 0 (MW A G.2.1 I F) 22 [(0, .ref (A 0)), (1, .int (J a)), (2, .int (J b)), (3, .int (J k))] [.int (J (dg b k)), .int (J (dg a k))]
        have q19_0 := dg_bd b k
        refine w_icmp_ne (pc := 22) (tgt := 31) hC dX12_isAhead_22 (by decide) (by omega) (fun c22 => ?_) (fun c22 => ?_)
        · refine w_iload_n (pc := 31) hC dX12_isAhead_31 3 rfl rfl ?_
          refine w_aload_n (pc := 32) hC dX12_isAhead_32 0 rfl rfl ?_
          refine w_getf (pc := 33) (v := .ref (A 1)) hC dX12_isAhead_33 fi_X12_9 0 rfl rfl ?_
          refine w_iconst (pc := 36) hC dX12_isAhead_36 ?_
          refine w_iald (pc := 37) (g := (I 1)) hC dX12_isAhead_37 1 rfl (by omega) (Nat.le_of_ble_eq_true rfl) ?_
          refine w_icmp_ge (pc := 38) (tgt := 58) hC dX12_isAhead_38 (by decide) (by omega) (fun c38 => ?_) (fun c38 => ?_)
          · refine w_iconst (pc := 58) hC dX12_isAhead_58 ?_
            refine w_iret (pc := 59) hC hRT dX12_isAhead_59 rfl ?_
            refine ⟨0, rfl, rfl, ?_⟩
            · first
              | exact ⟨⟨fun _ => ⟨k, ⟨i1.1, by omega⟩, i2, c51⟩, fun _ => rfl⟩, Or.inr rfl⟩
              | refine ⟨⟨fun h => by omega, fun ⟨l, hl, p1, p2⟩ => ?_⟩, Or.inl rfl⟩
                have : ¬ l < k := fun g => by have := i2 l hl.1 g; omega
                have : ¬ k < l := fun g => by have := p1 k i1.1 g; omega
                have e : l = k := by omega
                subst e
                omega
          · refine w_iload_n (pc := 41) hC dX12_isAhead_41 1 rfl rfl ?_
            refine w_iload_n (pc := 42) hC dX12_isAhead_42 3 rfl rfl ?_
            refine w_callS (pc := 43) (As := [.int (J a), .int (J k)]) (rest := []) hC dX12_isAhead_43 cs_X12_52 (c_X12_nameOn (kl K) G (MW A G.2.1 I F) a k (show -2147483648 ≤ a ∧ a < 2147483648 from by first | assumption | omega) (show 0 ≤ k ∧ k ≤ 10 from by first | assumption | omega)) (by decide) ⟨Nat.le_of_ble_eq_true rfl, Nat.le_of_ble_eq_true rfl⟩ rfl (Nat.le_of_ble_eq_true rfl) rfl (fun vo wo hv => ?_)
            obtain ⟨hv1, hw1⟩ := hv
            rw [hv1, hw1]
            show WW K G 0 0 (MW A G.2.1 I F) 46 [(0, .ref (A 0)), (1, .int (J a)), (2, .int (J b)), (3, .int (J k))] [.int (J (dg a k))]
            have q43_0 := dg_bd a k
            refine w_iload_n (pc := 46) hC dX12_isAhead_46 2 rfl rfl ?_
            refine w_iload_n (pc := 47) hC dX12_isAhead_47 3 rfl rfl ?_
            refine w_callS (pc := 48) (As := [.int (J b), .int (J k)]) (rest := [.int (J (dg a k))]) hC dX12_isAhead_48 cs_X12_52 (c_X12_nameOn (kl K) G (MW A G.2.1 I F) b k (show -2147483648 ≤ b ∧ b < 2147483648 from by first | assumption | omega) (show 0 ≤ k ∧ k ≤ 10 from by first | assumption | omega)) (by decide) ⟨Nat.le_of_ble_eq_true rfl, Nat.le_of_ble_eq_true rfl⟩ rfl (Nat.le_of_ble_eq_true rfl) rfl (fun vo wo hv => ?_)
            obtain ⟨hv1, hw1⟩ := hv
            rw [hv1, hw1]
            show WW K G 0 0 (MW A G.2.1 I F) 51 [(0, .ref (A 0)), (1, .int (J a)), (2, .int (J b)), (3, .int (J k))] [.int (J (dg b k)), .int (J (dg a k))]
            have q48_0 := dg_bd b k
            refine w_icmp_ge (pc := 51) (tgt := 58) hC dX12_isAhead_51 (by decide) (by omega) (fun c51 => ?_) (fun c51 => ?_)
            · refine w_iconst (pc := 58) hC dX12_isAhead_58 ?_
              refine w_iret (pc := 59) hC hRT dX12_isAhead_59 rfl ?_
              refine ⟨0, rfl, rfl, ?_⟩
              · first
                | exact ⟨⟨fun _ => ⟨k, ⟨i1.1, by omega⟩, i2, c51⟩, fun _ => rfl⟩, Or.inr rfl⟩
                | refine ⟨⟨fun h => by omega, fun ⟨l, hl, p1, p2⟩ => ?_⟩, Or.inl rfl⟩
                  have : ¬ l < k := fun g => by have := i2 l hl.1 g; omega
                  have : ¬ k < l := fun g => by have := p1 k i1.1 g; omega
                  have e : l = k := by omega
                  subst e
                  omega
            · refine w_iconst (pc := 54) hC dX12_isAhead_54 ?_
              refine w_goto (pc := 55) hC dX12_isAhead_55 (tgt := 59) (by decide) ?_
              refine w_iret (pc := 59) hC hRT dX12_isAhead_59 rfl ?_
              refine ⟨1, rfl, rfl, ?_⟩
              · first
                | exact ⟨⟨fun _ => ⟨k, ⟨i1.1, by omega⟩, i2, c51⟩, fun _ => rfl⟩, Or.inr rfl⟩
                | refine ⟨⟨fun h => by omega, fun ⟨l, hl, p1, p2⟩ => ?_⟩, Or.inl rfl⟩
                  have : ¬ l < k := fun g => by have := i2 l hl.1 g; omega
                  have : ¬ k < l := fun g => by have := p1 k i1.1 g; omega
                  have e : l = k := by omega
                  subst e
                  omega
        · refine w_iinc (pc := 25) hC dX12_isAhead_25 (lv2 := [(3, .int (J (k + 1))), (0, .ref (A 0)), (1, .int (J a)), (2, .int (J b))]) 3 rfl (by rw [hnL]; decide) rfl ?_
          refine w_goto (pc := 28) hC dX12_isAhead_28 (tgt := 2) (by decide) ?_
          refine w_sub [1, 2, 3, 0] (lv2 := [(0, .ref (A 0)), (1, .int (J a)), (2, .int (J b)), (3, .int (J (k + 1)))]) rfl ?_
          refine ih2 (k + 1) ?_ ?_ ?_
          · first | assumption | omega
          · intro j g1 g2; by_cases e : j = k
            · rw [e]; exact c22
            · exact i2 j g1 (by omega)
          · omega
  refine w_sub [1, 2, 3, 0] (lv2 := [(0, .ref (A 0)), (1, .int (J a)), (2, .int (J b)), (3, .int (J 0))]) rfl ?_
  refine loop2 (((I 1) 0 - 0) + 1 : Int).toNat 0 ?_ ?_ ?_
  · first | assumption | omega
  · intro j g1 g2; omega
  · omega
set_option maxRecDepth 100000 in
set_option maxHeartbeats 4000000 in
theorem c_X12_likely (l : Launch) (G : GT) (A : Nat → Nat) (I : Nat → Int → Int) (F : Nat → Int)  (c : Int) (n : Int) (rung : Int) (hR : RI (I 1)) (h1 : -2147483648 ≤ c ∧ c < 2147483648) (h2 : -2147483648 ≤ n ∧ n < 2147483648) (h4 : -2147483648 ≤ rung ∧ rung < 2147483648) (hrf : (F 11) = -1) : CT l yX12_likely cX12_likely 6 (some .int) 6 0 0 G [.ref (A 0), .int (J c), .int (J n), .int (J rung)] (MW A G.2.1 I F) (fun vo wo => ∃ (z : Int) (b3 : Int → Int) (b4 : Int → Int) (b5 : Int → Int) (b6 : Int → Int) (b7 : Int → Int) (b8 : Int → Int) (g16 : Int) (g17 : Int) (g18 : Int), vo = some (.int (J z)) ∧ wo = MW A G.2.1 (au (au (au (au (au (au I 3 b3) 4 b4) 5 b5) 6 b6) 7 b7) 8 b8) (fu (fu (fu F 16 g16) 17 g17) 18 g18) ∧ (VLIK (I 1) c n rung z)) := by
  refine CT_of (own := RX12) rfl rfl (Nat.le_of_ble_eq_true rfl) (fun K hl hnL hC hRT hin => ?_)
  subst hl
  show WW K G 0 0 (MW A G.2.1 I F) 0 [(0, .ref (A 0)), (1, .int (J c)), (2, .int (J n)), (3, .int (J rung))] []
  have hn0 := hR.n
  have hV := hR.bd
  have hB := VB_rng hV
  refine w_aload_n (pc := 0) hC dX12_likely_0 0 rfl rfl ?_
  refine w_iload_n (pc := 1) hC dX12_likely_1 1 rfl rfl ?_
  refine w_callV (pc := 2) (As := [.int (J c)]) (rest := []) hC dX12_likely_2 cv_X12_156 (c_X12_isClub (kl K) G A I F c (show RI (I 1) from by first | assumption | omega) (show -2147483648 ≤ c ∧ c < 2147483648 from by first | assumption | omega)) (by decide) ⟨Nat.le_of_ble_eq_true rfl, Nat.le_of_ble_eq_true rfl⟩ (q0 := 0) rfl rfl rfl rfl (Nat.le_of_ble_eq_true rfl) rfl (fun vo wo hv => ?_)
  obtain ⟨hv1, hw1⟩ := hv
  rw [hv1, hw1]
  show WW K G 0 0 (MW A G.2.1 I F) 5 [(0, .ref (A 0)), (1, .int (J c)), (2, .int (J n)), (3, .int (J rung))] [.int (J (bI (0 ≤ c ∧ c < (I 1) 1)))]
  refine w_if_eq_b (pc := 5) (tgt := 24) hC dX12_likely_5 (by decide) (fun c5 => ?_) (fun c5 => ?_)
  · refine w_iconst (pc := 24) hC dX12_likely_24 ?_
    refine w_iret (pc := 25) hC hRT dX12_likely_25 rfl ?_
    refine ⟨(-1), (I 3), (I 4), (I 5), (I 6), (I 7), (I 8), (F 16), (F 17), (F 18), rfl, rfl, ?_⟩
    · unfold VLIK; rw [if_pos (by omega)]
  · refine w_iload_n (pc := 8) hC dX12_likely_8 3 rfl rfl ?_
    refine w_iconst (pc := 9) hC dX12_likely_9 ?_
    refine w_aload_n (pc := 10) hC dX12_likely_10 0 rfl rfl ?_
    refine w_getf (pc := 11) (v := .ref (A 1)) hC dX12_likely_11 fi_X12_9 0 rfl rfl ?_
    refine w_iconst (pc := 14) hC dX12_likely_14 ?_
    refine w_iald (pc := 15) (g := (I 1)) hC dX12_likely_15 1 rfl (by omega) (Nat.le_of_ble_eq_true rfl) ?_
    refine w_iconst (pc := 16) hC dX12_likely_16 ?_
    refine w_isub (pc := 17) hC dX12_likely_17 ?_
    refine w_callS (pc := 18) (As := [.int (J rung), .int (J 0), .int (J (((I 1) 0) - 1))]) (rest := []) hC dX12_likely_18 cs_X12_48 (c_X12_in (kl K) G (MW A G.2.1 I F) rung 0 (((I 1) 0) - 1) (show (-2147483648 ≤ rung ∧ rung < 2147483648) ∧ (-2147483648 ≤ 0 ∧ 0 < 2147483648) ∧ -2147483648 ≤ (((I 1) 0) - 1) ∧ (((I 1) 0) - 1) < 2147483648 from by first | assumption | omega)) (by decide) ⟨Nat.le_of_ble_eq_true rfl, Nat.le_of_ble_eq_true rfl⟩ rfl (Nat.le_of_ble_eq_true rfl) rfl (fun vo wo hv => ?_)
    obtain ⟨hv1, hw1⟩ := hv
    rw [hv1, hw1]
    show WW K G 0 0 (MW A G.2.1 I F) 21 [(0, .ref (A 0)), (1, .int (J c)), (2, .int (J n)), (3, .int (J rung))] [.int (J (bI (0 ≤ rung ∧ rung ≤ (((I 1) 0) - 1))))]
    refine w_if_ne_b (pc := 21) (tgt := 26) hC dX12_likely_21 (by decide) (fun c21 => ?_) (fun c21 => ?_)
    · refine w_iload_n (pc := 26) hC dX12_likely_26 2 rfl rfl ?_
      refine w_iconst (pc := 27) hC dX12_likely_27 ?_
      refine w_bipush (pc := 28) hC dX12_likely_28 (z := 6) rfl ?_
      refine w_callS (pc := 30) (As := [.int (J n), .int (J 0), .int (J 6)]) (rest := []) hC dX12_likely_30 cs_X12_48 (c_X12_in (kl K) G (MW A G.2.1 I F) n 0 6 (show (-2147483648 ≤ n ∧ n < 2147483648) ∧ (-2147483648 ≤ 0 ∧ 0 < 2147483648) ∧ -2147483648 ≤ 6 ∧ 6 < 2147483648 from by first | assumption | omega)) (by decide) ⟨Nat.le_of_ble_eq_true rfl, Nat.le_of_ble_eq_true rfl⟩ rfl (Nat.le_of_ble_eq_true rfl) rfl (fun vo wo hv => ?_)
      obtain ⟨hv1, hw1⟩ := hv
      rw [hv1, hw1]
      show WW K G 0 0 (MW A G.2.1 I F) 33 [(0, .ref (A 0)), (1, .int (J c)), (2, .int (J n)), (3, .int (J rung))] [.int (J (bI (0 ≤ n ∧ n ≤ 6)))]
      refine w_if_ne_b (pc := 33) (tgt := 39) hC dX12_likely_33 (by decide) (fun c33 => ?_) (fun c33 => ?_)
      · refine w_aload_n (pc := 39) hC dX12_likely_39 0 rfl rfl ?_
        refine w_iload_n (pc := 40) hC dX12_likely_40 1 rfl rfl ?_
        refine w_aload_n (pc := 41) hC dX12_likely_41 0 rfl rfl ?_
        refine w_getf (pc := 42) (v := .ref (A 1)) hC dX12_likely_42 fi_X12_9 0 rfl rfl ?_
        refine w_bipush (pc := 45) hC dX12_likely_45 (z := 6) rfl ?_
        refine w_iald (pc := 47) (g := (I 1)) hC dX12_likely_47 1 rfl (by omega) (Nat.le_of_ble_eq_true rfl) ?_
        refine w_iload_n (pc := 48) hC dX12_likely_48 2 rfl rfl ?_
        refine w_bipush (pc := 49) hC dX12_likely_49 (z := (-7)) rfl ?_
        refine w_callV (pc := 51) (As := [.int (J c), .int (J ((I 1) 6)), .int (J n), .int (J (-7))]) (rest := []) hC dX12_likely_51 cv_X12_201 (c_X12_days (kl K) G A I F c ((I 1) 6) n (-7) (show RI (I 1) from by first | assumption | omega) (show 0 ≤ c ∧ c < (I 1) 1 from by first | assumption | omega) (show 0 < (I 1) 0 from by first | assumption | omega) (show VB ((I 1) 0) ((I 1) 6) from by first | assumption | omega) (show 0 ≤ n ∧ n ≤ 6 from by first | assumption | omega) (show -1 ≤ (F 11) ∧ (F 11) ≤ 5 from by first | assumption | omega) (show FST (I 1) ((I 1) 6) ((I 1) 2) (-7) from by exact Or.inl rfl) (show (-7) = -7 ∨ (-7) = -5 ∨ (0 ≤ (-7) ∧ (-7) < (I 1) 0) from by exact Or.inl rfl)) (by decide) ⟨Nat.le_of_ble_eq_true rfl, Nat.le_of_ble_eq_true rfl⟩ (q0 := 0) rfl rfl rfl rfl (Nat.le_of_ble_eq_true rfl) rfl (fun vo wo hv => ?_)
        obtain ⟨b3_51, b4_51, b5_51, b6_51, b7_51, b8_51, g16_51, g17_51, g18_51, hv1, hw1, r51⟩ := hv
        rw [hv1, hw1]
        show WW K G 0 0 (MW A G.2.1 (au (au (au (au (au (au I 3 b3_51) 4 b4_51) 5 b5_51) 6 b6_51) 7 b7_51) 8 b8_51) (fu (fu (fu F 16 g16_51) 17 g17_51) 18 g18_51)) 54 [(0, .ref (A 0)), (1, .int (J c)), (2, .int (J n)), (3, .int (J rung))] []
        have r51 : (∀ f : Int → Int, isum f b5_51 b7_51 (g16_51).toNat = EXP (I 1) c (F 11) (-7) n.toNat f ((I 1) 6)) ∧ LK b5_51 b7_51 g16_51 ∧ (∀ k : Int, 0 ≤ k → k < g16_51 → VB ((I 1) 0) (b5_51 k)) ∧ isum one1 b5_51 b7_51 (g16_51).toNat = g18_51 ∧ g18_51 = 100 ^ n.toNat := r51
        have hlk := r51.2.1
        have hvb := r51.2.2.1
        have htot := r51.2.2.2.1
        have hli := r51.2.2.2.2
        have hex := r51.1
        have hp := p100 (n := n) (by omega) (by omega)
        rw [← hli] at hp
        rw [hrf] at hex
        have hmm := hlk.1
        have hone := LK_pos hlk (by omega)
        refine w_iconst (pc := 54) hC dX12_likely_54 ?_
        refine w_istore (pc := 55) hC dX12_likely_55 (lv2 := [(4, .int (J 0)), (0, .ref (A 0)), (1, .int (J c)), (2, .int (J n)), (3, .int (J rung))]) (by rw [hnL]; decide) rfl ?_
        refine w_iconst (pc := 57) hC dX12_likely_57 ?_
        refine w_istore (pc := 58) hC dX12_likely_58 (lv2 := [(5, .int (J 1)), (4, .int (J 0)), (0, .ref (A 0)), (1, .int (J c)), (2, .int (J n)), (3, .int (J rung))]) (by rw [hnL]; decide) rfl ?_
        have loop60 : ∀ (nF : Nat) (bs : Int) (k : Int), ((0 ≤ bs ∧ bs < k) ∧ k ≤ g16_51) → (∀ j : Int, 0 ≤ j → j < k → j = bs ∨ b7_51 j < b7_51 bs ∨ (b7_51 j = b7_51 bs ∧ LEX ((I 1) 0) (b5_51 bs) (b5_51 j))) → (g16_51 - k) < (nF : Int) → WW K G 0 0 (MW A G.2.1 (au (au (au (au (au (au I 3 b3_51) 4 b4_51) 5 b5_51) 6 b6_51) 7 b7_51) 8 b8_51) (fu (fu (fu F 16 g16_51) 17 g17_51) 18 g18_51)) 60 [(0, .ref (A 0)), (3, .int (J rung)), (4, .int (J bs)), (5, .int (J k))] [] := by
          intro nF
          induction nF with
          | zero => intro bs k i1 i2 hm60; exact absurd hm60 (by omega)
          | succ nF ih60 =>
            intro bs k i1 i2 hm60
            refine w_iload (pc := 60) hC dX12_likely_60 3 rfl ?_
            refine w_aload_n (pc := 62) hC dX12_likely_62 0 rfl rfl ?_
            refine w_getf (pc := 63) (v := .int (J g16_51)) hC dX12_likely_63 fi_X12_178 0 rfl rfl ?_
            refine w_icmp_ge (pc := 66) (tgt := 141) hC dX12_likely_66 (by decide) (by omega) (fun c66 => ?_) (fun c66 => ?_)
            · have hVb := hvb bs (by omega) (by omega)
              have hbb := VB_rng hVb
              refine w_aload_n (pc := 141) hC dX12_likely_141 0 rfl rfl ?_
              refine w_getf (pc := 142) (v := .ref (A 5)) hC dX12_likely_142 fi_X12_29 0 rfl rfl ?_
              refine w_iload (pc := 145) hC dX12_likely_145 2 rfl ?_
              refine w_iald (pc := 147) (g := b5_51) hC dX12_likely_147 5 rfl (by omega) (Nat.le_of_ble_eq_true rfl) ?_
              refine w_iload_n (pc := 148) hC dX12_likely_148 1 rfl rfl ?_
              refine w_callS (pc := 149) (As := [.int (J (b5_51 bs)), .int (J rung)]) (rest := []) hC dX12_likely_149 cs_X12_52 (c_X12_nameOn (kl K) G (MW A G.2.1 (au (au (au (au (au (au I 3 b3_51) 4 b4_51) 5 b5_51) 6 b6_51) 7 b7_51) 8 b8_51) (fu (fu (fu F 16 g16_51) 17 g17_51) 18 g18_51)) (b5_51 bs) rung (show -2147483648 ≤ (b5_51 bs) ∧ (b5_51 bs) < 2147483648 from by first | assumption | omega) (show 0 ≤ rung ∧ rung ≤ 10 from by first | assumption | omega)) (by decide) ⟨Nat.le_of_ble_eq_true rfl, Nat.le_of_ble_eq_true rfl⟩ rfl (Nat.le_of_ble_eq_true rfl) rfl (fun vo wo hv => ?_)
              obtain ⟨hv1, hw1⟩ := hv
              rw [hv1, hw1]
              show WW K G 0 0 (MW A G.2.1 (au (au (au (au (au (au I 3 b3_51) 4 b4_51) 5 b5_51) 6 b6_51) 7 b7_51) 8 b8_51) (fu (fu (fu F 16 g16_51) 17 g17_51) 18 g18_51)) 152 [(0, .ref (A 0)), (3, .int (J rung)), (4, .int (J bs)), (5, .int (J k))] [.int (J (dg (b5_51 bs) rung))]
              have q149_0 := dg_bd (b5_51 bs) rung
              refine w_iret (pc := 152) hC hRT dX12_likely_152 rfl ?_
              refine ⟨dg (b5_51 bs) rung, b3_51, b4_51, b5_51, b6_51, b7_51, b8_51, g16_51, g17_51, g18_51, rfl, rfl, ?_⟩
              · unfold VLIK; rw [if_neg (by omega), if_neg (by omega)]
                have hwt : ∀ x : Int, WT (I 1) c (-1) (-7) n (I 1 6) x = isum (fun b => bI (b = x)) b5_51 b7_51 g16_51.toNat := fun x => (hex _).symm
                have hat : ∀ j : Int, 0 ≤ j → j < g16_51 → WT (I 1) c (-1) (-7) n (I 1 6) (b5_51 j) = b7_51 j := fun j g1 g2 => by rw [hwt]; exact isum_at g1 (by omega) (fun i l q1 q2 q3 q4 e => hlk.2.1 i l q1 (by omega) q3 (by omega) e)
                refine ⟨b5_51 bs, ⟨hVb, ?_, fun x hx hx2 => ?_⟩, rfl⟩
                · rw [hat bs (by omega) (by omega)]; exact hlk.2.2 bs (by omega) (by omega)
                · by_cases ex : ∃ j : Int, (0 ≤ j ∧ j < g16_51) ∧ b5_51 j = x
                  · obtain ⟨j, hj, rfl⟩ := ex
                    rw [hat j hj.1 hj.2, hat bs (by omega) (by omega)]
                    rcases i2 j hj.1 (by omega) with e | e
                    · exact Or.inl (by rw [e])
                    · exact Or.inr e
                  · rw [hwt, isum_not (fun j g1 g2 e => ex ⟨j, ⟨g1, by omega⟩, e⟩)] at hx2
                    omega
            · have hVk := hvb k (by omega) (by omega)
              have hVb := hvb bs (by omega) (by omega)
              have hbk := VB_rng hVk
              have hbb := VB_rng hVb
              have w1 := hlk.2.2 k (by omega) (by omega)
              have w2 := hlk.2.2 bs (by omega) (by omega)
              have w3 := hlk.one (k := k) (by omega) (by omega)
              have w4 := hlk.one (k := bs) (by omega) (by omega)
              have hne : ¬ b5_51 k = b5_51 bs := fun e => by have := hlk.2.1 k bs (by omega) (by omega) (by omega) (by omega) e; omega
              refine w_aload_n (pc := 69) hC dX12_likely_69 0 rfl rfl ?_
              refine w_getf (pc := 70) (v := .ref (A 7)) hC dX12_likely_70 fi_X12_35 0 rfl rfl ?_
              refine w_iload (pc := 73) hC dX12_likely_73 3 rfl ?_
              refine w_lald (pc := 75) (g := b7_51) hC dX12_likely_75 7 rfl (by omega) (Nat.le_of_ble_eq_true rfl) ?_
              refine w_aload_n (pc := 76) hC dX12_likely_76 0 rfl rfl ?_
              refine w_getf (pc := 77) (v := .ref (A 7)) hC dX12_likely_77 fi_X12_35 0 rfl rfl ?_
              refine w_iload (pc := 80) hC dX12_likely_80 2 rfl ?_
              refine w_lald (pc := 82) (g := b7_51) hC dX12_likely_82 7 rfl (by omega) (Nat.le_of_ble_eq_true rfl) ?_
              refine w_lcmp (pc := 83) hC dX12_likely_83 (by omega) ?_
              refine w_if_gt_c (pc := 84) (tgt := 126) hC dX12_likely_84 (by decide) (fun c84 => ?_) (fun c84 => ?_)
              · refine w_iload (pc := 126) hC dX12_likely_126 3 rfl ?_
                refine w_goto (pc := 128) hC dX12_likely_128 (tgt := 133) (by decide) ?_
                refine w_istore (pc := 133) hC dX12_likely_133 (lv2 := [(4, .int (J k)), (0, .ref (A 0)), (3, .int (J rung)), (5, .int (J k))]) (by rw [hnL]; decide) rfl ?_
                refine w_iinc (pc := 135) hC dX12_likely_135 (lv2 := [(5, .int (J (k + 1))), (4, .int (J k)), (0, .ref (A 0)), (3, .int (J rung))]) 3 rfl (by rw [hnL]; decide) rfl ?_
                refine w_goto (pc := 138) hC dX12_likely_138 (tgt := 60) (by decide) ?_
                refine w_sub [2, 3, 1, 0] (lv2 := [(0, .ref (A 0)), (3, .int (J rung)), (4, .int (J k)), (5, .int (J (k + 1)))]) rfl ?_
                refine ih60 k (k + 1) ?_ ?_ ?_
                · first | assumption | omega
                · intro j g1 g2
                  by_cases e : j = k
                  · exact Or.inl e
                  · refine Or.inr ?_
                    first
                    | (have cc : b7_51 bs < b7_51 k := c84
                       rcases i2 j g1 (by omega) with q | q | q
                       · rw [q]; omega
                       · omega
                       · omega)
                    | (have cl : LEX (I 1 0) (b5_51 k) (b5_51 bs) := r120.1.mp (by omega)
                       rcases i2 j g1 (by omega) with q | q | q
                       · rw [q]; exact Or.inr ⟨by omega, cl⟩
                       · omega
                       · exact Or.inr ⟨by omega, LEX_trans cl q.2⟩)
                · omega
              · refine w_aload_n (pc := 87) hC dX12_likely_87 0 rfl rfl ?_
                refine w_getf (pc := 88) (v := .ref (A 7)) hC dX12_likely_88 fi_X12_35 0 rfl rfl ?_
                refine w_iload (pc := 91) hC dX12_likely_91 3 rfl ?_
                refine w_lald (pc := 93) (g := b7_51) hC dX12_likely_93 7 rfl (by omega) (Nat.le_of_ble_eq_true rfl) ?_
                refine w_aload_n (pc := 94) hC dX12_likely_94 0 rfl rfl ?_
                refine w_getf (pc := 95) (v := .ref (A 7)) hC dX12_likely_95 fi_X12_35 0 rfl rfl ?_
                refine w_iload (pc := 98) hC dX12_likely_98 2 rfl ?_
                refine w_lald (pc := 100) (g := b7_51) hC dX12_likely_100 7 rfl (by omega) (Nat.le_of_ble_eq_true rfl) ?_
                refine w_lcmp (pc := 101) hC dX12_likely_101 (by omega) ?_
                refine w_if_ne_c (pc := 102) (tgt := 131) hC dX12_likely_102 (by decide) (fun c102 => ?_) (fun c102 => ?_)
                · refine w_iload (pc := 131) hC dX12_likely_131 2 rfl ?_
                  refine w_istore (pc := 133) hC dX12_likely_133 (lv2 := [(4, .int (J bs)), (0, .ref (A 0)), (3, .int (J rung)), (5, .int (J k))]) (by rw [hnL]; decide) rfl ?_
                  refine w_iinc (pc := 135) hC dX12_likely_135 (lv2 := [(5, .int (J (k + 1))), (4, .int (J bs)), (0, .ref (A 0)), (3, .int (J rung))]) 3 rfl (by rw [hnL]; decide) rfl ?_
                  refine w_goto (pc := 138) hC dX12_likely_138 (tgt := 60) (by decide) ?_
                  refine w_sub [2, 3, 1, 0] (lv2 := [(0, .ref (A 0)), (3, .int (J rung)), (4, .int (J bs)), (5, .int (J (k + 1)))]) rfl ?_
                  refine ih60 bs (k + 1) ?_ ?_ ?_
                  · first | assumption | omega
                  · intro j g1 g2
                    by_cases e : j = k
                    · rw [e]
                      refine Or.inr ?_
                      first
                      | (have cc : ¬ b7_51 k = b7_51 bs := c102
                         omega)
                      | (have cl : ¬ LEX (I 1 0) (b5_51 k) (b5_51 bs) := fun g => by have := r120.1.mpr g; omega
                         rcases LEX_total hVk hVb hne with q | q
                         · exact absurd q cl
                         · exact Or.inr ⟨by omega, q⟩)
                    · exact i2 j g1 (by omega)
                  · omega
                · refine w_aload_n (pc := 105) hC dX12_likely_105 0 rfl rfl ?_
                  refine w_aload_n (pc := 106) hC dX12_likely_106 0 rfl rfl ?_
                  refine w_getf (pc := 107) (v := .ref (A 5)) hC dX12_likely_107 fi_X12_29 0 rfl rfl ?_
                  refine w_iload (pc := 110) hC dX12_likely_110 3 rfl ?_
                  refine w_iald (pc := 112) (g := b5_51) hC dX12_likely_112 5 rfl (by omega) (Nat.le_of_ble_eq_true rfl) ?_
                  refine w_aload_n (pc := 113) hC dX12_likely_113 0 rfl rfl ?_
                  refine w_getf (pc := 114) (v := .ref (A 5)) hC dX12_likely_114 fi_X12_29 0 rfl rfl ?_
                  refine w_iload (pc := 117) hC dX12_likely_117 2 rfl ?_
                  refine w_iald (pc := 119) (g := b5_51) hC dX12_likely_119 5 rfl (by omega) (Nat.le_of_ble_eq_true rfl) ?_
                  refine w_callV (pc := 120) (As := [.int (J (b5_51 k)), .int (J (b5_51 bs))]) (rest := []) hC dX12_likely_120 cv_X12_213 (c_X12_isAhead (kl K) G A (au (au (au (au (au (au I 3 b3_51) 4 b4_51) 5 b5_51) 6 b6_51) 7 b7_51) 8 b8_51) (fu (fu (fu F 16 g16_51) 17 g17_51) 18 g18_51) (b5_51 k) (b5_51 bs) (show RI (I 1) from by first | assumption | omega) (show -2147483648 ≤ (b5_51 k) ∧ (b5_51 k) < 2147483648 from by first | assumption | omega) (show -2147483648 ≤ (b5_51 bs) ∧ (b5_51 bs) < 2147483648 from by first | assumption | omega)) (by decide) ⟨Nat.le_of_ble_eq_true rfl, Nat.le_of_ble_eq_true rfl⟩ (q0 := 0) rfl rfl rfl rfl (Nat.le_of_ble_eq_true rfl) rfl (fun vo wo hv => ?_)
                  obtain ⟨z120, hv1, hw1, r120⟩ := hv
                  rw [hv1, hw1]
                  show WW K G 0 0 (MW A G.2.1 (au (au (au (au (au (au I 3 b3_51) 4 b4_51) 5 b5_51) 6 b6_51) 7 b7_51) 8 b8_51) (fu (fu (fu F 16 g16_51) 17 g17_51) 18 g18_51)) 123 [(0, .ref (A 0)), (3, .int (J rung)), (4, .int (J bs)), (5, .int (J k))] [.int (J z120)]
                  have r120 : (z120 = 1 ↔ LEX ((I 1) 0) (b5_51 k) (b5_51 bs)) ∧ (z120 = 0 ∨ z120 = 1) := r120
                  refine w_if_eq (pc := 123) (tgt := 131) hC dX12_likely_123 (by decide) (by omega) (fun c123 => ?_) (fun c123 => ?_)
                  · refine w_iload (pc := 131) hC dX12_likely_131 2 rfl ?_
                    refine w_istore (pc := 133) hC dX12_likely_133 (lv2 := [(4, .int (J bs)), (0, .ref (A 0)), (3, .int (J rung)), (5, .int (J k))]) (by rw [hnL]; decide) rfl ?_
                    refine w_iinc (pc := 135) hC dX12_likely_135 (lv2 := [(5, .int (J (k + 1))), (4, .int (J bs)), (0, .ref (A 0)), (3, .int (J rung))]) 3 rfl (by rw [hnL]; decide) rfl ?_
                    refine w_goto (pc := 138) hC dX12_likely_138 (tgt := 60) (by decide) ?_
                    refine w_sub [2, 3, 1, 0] (lv2 := [(0, .ref (A 0)), (3, .int (J rung)), (4, .int (J bs)), (5, .int (J (k + 1)))]) rfl ?_
                    refine ih60 bs (k + 1) ?_ ?_ ?_
                    · first | assumption | omega
                    · intro j g1 g2
                      by_cases e : j = k
                      · rw [e]
                        refine Or.inr ?_
                        first
                        | (have cc : ¬ b7_51 k = b7_51 bs := c102
                           omega)
                        | (have cl : ¬ LEX (I 1 0) (b5_51 k) (b5_51 bs) := fun g => by have := r120.1.mpr g; omega
                           rcases LEX_total hVk hVb hne with q | q
                           · exact absurd q cl
                           · exact Or.inr ⟨by omega, q⟩)
                      · exact i2 j g1 (by omega)
                    · omega
                  · refine w_iload (pc := 126) hC dX12_likely_126 3 rfl ?_
                    refine w_goto (pc := 128) hC dX12_likely_128 (tgt := 133) (by decide) ?_
                    refine w_istore (pc := 133) hC dX12_likely_133 (lv2 := [(4, .int (J k)), (0, .ref (A 0)), (3, .int (J rung)), (5, .int (J k))]) (by rw [hnL]; decide) rfl ?_
                    refine w_iinc (pc := 135) hC dX12_likely_135 (lv2 := [(5, .int (J (k + 1))), (4, .int (J k)), (0, .ref (A 0)), (3, .int (J rung))]) 3 rfl (by rw [hnL]; decide) rfl ?_
                    refine w_goto (pc := 138) hC dX12_likely_138 (tgt := 60) (by decide) ?_
                    refine w_sub [2, 3, 1, 0] (lv2 := [(0, .ref (A 0)), (3, .int (J rung)), (4, .int (J k)), (5, .int (J (k + 1)))]) rfl ?_
                    refine ih60 k (k + 1) ?_ ?_ ?_
                    · first | assumption | omega
                    · intro j g1 g2
                      by_cases e : j = k
                      · exact Or.inl e
                      · refine Or.inr ?_
                        first
                        | (have cc : b7_51 bs < b7_51 k := c84
                           rcases i2 j g1 (by omega) with q | q | q
                           · rw [q]; omega
                           · omega
                           · omega)
                        | (have cl : LEX (I 1 0) (b5_51 k) (b5_51 bs) := r120.1.mp (by omega)
                           rcases i2 j g1 (by omega) with q | q | q
                           · rw [q]; exact Or.inr ⟨by omega, cl⟩
                           · omega
                           · exact Or.inr ⟨by omega, LEX_trans cl q.2⟩)
                    · omega
        refine w_sub [2, 5, 1, 0] (lv2 := [(0, .ref (A 0)), (3, .int (J rung)), (4, .int (J 0)), (5, .int (J 1))]) rfl ?_
        refine loop60 ((g16_51 - 1) + 1 : Int).toNat 0 1 ?_ ?_ ?_
        · first | assumption | omega
        · intro j g1 g2; omega
        · omega
      · refine w_bipush (pc := 36) hC dX12_likely_36 (z := (-2)) rfl ?_
        refine w_iret (pc := 38) hC hRT dX12_likely_38 rfl ?_
        refine ⟨(-2), (I 3), (I 4), (I 5), (I 6), (I 7), (I 8), (F 16), (F 17), (F 18), rfl, rfl, ?_⟩
        · unfold VLIK; rw [if_neg (by omega), if_pos (by omega)]
    · refine w_iconst (pc := 24) hC dX12_likely_24 ?_
      refine w_iret (pc := 25) hC hRT dX12_likely_25 rfl ?_
      refine ⟨(-1), (I 3), (I 4), (I 5), (I 6), (I 7), (I 8), (F 16), (F 17), (F 18), rfl, rfl, ?_⟩
      · unfold VLIK; rw [if_pos (by omega)]
