
theorem RD_ne {S : Int → Int} {c seed j : Int} (h6 : j ≠ 6) (h2 : j ≠ 2) : RD S c seed j = S j := by
  unfold RD
  rw [gu_ne h2]
  split
  · exact gu_ne h6
  · rfl
theorem RUN_ne {S : Int → Int} {c seed j : Int} (h6 : j ≠ 6) (h2 : j ≠ 2) : ∀ k : Nat, RUN S c seed k j = S j
  | 0 => rfl
  | k + 1 => by
    show RD (RUN S c seed k) c seed j = S j
    rw [RD_ne h6 h2]
    exact RUN_ne h6 h2 k
theorem RUN_s (S : Int → Int) (c seed : Int) {k : Int} (h : 0 ≤ k) : RUN S c seed (k + 1).toNat = RD (RUN S c seed k.toNat) c seed := by
  rw [show (k + 1).toNat = k.toNat + 1 by omega]
  rfl

/-- a day's run, the day itself not yet gone -/
def RDb (S : Int → Int) (c seed : Int) : Int → Int := if 0 < S 0 ∧ ¬ ASK S c (-1) (S 6) (TRN S (S 6) (S 2)) (S 2) = -5 ∧ (31 * seed + 17 * S 2) * 7 % 100 < S (130 + 6 * TRN S (S 6) (S 2) + ASK S c (-1) (S 6) (TRN S (S 6) (S 2)) (S 2)) then gu S 6 (WON S c (S 6) (TRN S (S 6) (S 2)) (ASK S c (-1) (S 6) (TRN S (S 6) (S 2)) (S 2))) else S
theorem RD_b (S : Int → Int) (c seed : Int) : RD S c seed = gu (RDb S c seed) 2 (S 2 + 1) := rfl
theorem RDb_2 (S : Int → Int) (c seed : Int) : RDb S c seed 2 = S 2 := by
  unfold RDb
  split <;> rfl

set_option maxRecDepth 100000 in
set_option maxHeartbeats 4000000 in
theorem c_X11_match (l : Launch) (G : GT) (A D : Nat → Nat) (T : Nat) (I : Nat → Int → Int) (F : Nat → Int) (Q : Nat → Nat → Option Nat) (P : va_W) (S : Int → Int) (a : Int) (x : Int) (y : Int) (w : Int) (hR : RI S) (hL : LRn G.2.1 S I F Q P) (h0 : -2147483648 ≤ a ∧ a < 2147483648) (h1 : -2147483648 ≤ x ∧ x < 2147483648) (h2 : -2147483648 ≤ y ∧ y < 2147483648) (h3 : -2147483648 ≤ w ∧ w < 2147483648) : CT l yX11_match cX11_match 7 (some .int) 3 0 0 G [.ref (A 0), .int (J a), .int (J x), .int (J y), .int (J w)] (CW A D T G.2.1 I F Q P) (fun vo wo => ∃ (b2 : Int → Int) (b23 : Int → Int), vo = some (.int (J (v_match S a x y w))) ∧ wo = CW A D T G.2.1 (au (au I 2 b2) 23 b23) F Q P ∧ (LRn G.2.1 (n_match S a x y w) (au (au I 2 b2) 23 b23) F Q P)) := by
  refine CT_of (own := RX11) rfl rfl (Nat.le_of_ble_eq_true rfl) (fun K hl hnL hC hRT hin => ?_)
  subst hl
  show WW K G 0 0 (CW A D T G.2.1 I F Q P) 0 [(0, .ref (A 0)), (1, .int (J a)), (2, .int (J x)), (3, .int (J y)), (4, .int (J w))] []
  have hn := hR.n
  have hbd := hR.bd
  have htd := hR.td
  refine w_aload_n (pc := 0) hC dX11_match_0 0 rfl rfl ?_
  refine w_iload_n (pc := 1) hC dX11_match_1 1 rfl rfl ?_
  refine w_callV (pc := 2) (As := [.int (J a)]) (rest := []) hC dX11_match_2 cv_X11_112 (c_X11_clubAt (kl K) G A D T I F Q P S a (show RI S from by assumption) (show LRn G.2.1 S I F Q P from by exact hL) (show -2147483648 ≤ a ∧ a < 2147483648 from by omega)) (by decide) ⟨Nat.le_of_ble_eq_true rfl, Nat.le_of_ble_eq_true rfl⟩ (q0 := 0) CW_0 rfl rfl rfl (Nat.le_of_ble_eq_true rfl) rfl (fun vo wo hv => ?_)
  obtain ⟨hv1, hw1⟩ := hv
  by_cases hc : 0 ≤ a ∧ a < S 1
  · obtain ⟨qb, hQc, hcl⟩ := l_clb hL hc.1 hc.2
    rw [if_pos hc, hQc] at hv1
    rw [hv1, hw1]
    show WW K G 0 0 (CW A D T G.2.1 I F Q P) 5 [(0, .ref (A 0)), (1, .int (J a)), (2, .int (J x)), (3, .int (J y)), (4, .int (J w))] [.ref qb]
    refine w_astore (pc := 5) hC dX11_match_5 (lv2 := [(5, .ref qb), (0, .ref (A 0)), (1, .int (J a)), (2, .int (J x)), (3, .int (J y)), (4, .int (J w))]) (by rw [hnL]; decide) rfl ?_
    refine w_aload (pc := 7) hC dX11_match_7 0 rfl ?_
    refine w_ifnullR (pc := 9) hC dX11_match_9 ?_
    refine w_aload_n (pc := 12) hC dX11_match_12 1 rfl rfl ?_
    refine w_iload_n (pc := 13) hC dX11_match_13 3 rfl rfl ?_
    refine w_callV (pc := 14) (As := [.int (J x)]) (rest := []) hC dX11_match_14 cv_X11_64 (c_X11_isName (kl K) G A D T I F Q P S x (show RI S from by first | assumption | omega) (show LRn G.2.1 S I F Q P from by exact hL) (show -2147483648 ≤ x ∧ x < 2147483648 from by first | assumption | omega)) (by decide) ⟨Nat.le_of_ble_eq_true rfl, Nat.le_of_ble_eq_true rfl⟩ (q0 := 0) CW_0 rfl rfl rfl (Nat.le_of_ble_eq_true rfl) rfl (fun vo wo hv => ?_)
    obtain ⟨hv1, hw1⟩ := hv
    rw [hv1, hw1]
    show WW K G 0 0 (CW A D T G.2.1 I F Q P) 17 [(5, .ref qb), (0, .ref (A 0)), (1, .int (J a)), (2, .int (J x)), (3, .int (J y)), (4, .int (J w))] [.int (J (bI (0 ≤ x ∧ x < S 0)))]
    refine w_if_eq_b (pc := 17) (tgt := 28) hC dX11_match_17 (by decide) (fun c17 => ?_) (fun c17 => ?_)
    · refine w_iconst (pc := 28) hC dX11_match_28 ?_
      refine w_iret (pc := 29) hC hRT dX11_match_29 rfl ?_
      refine ⟨(I 2), (I 23), retI (by unfold v_match; rw [if_pos (by omega)]), CW_cong (au_ms (k := 2) (v := I 2) rfl rfl (au_ms (k := 23) (v := I 23) rfl rfl rfl)) rfl rfl, ?_⟩
      · unfold n_match
        rw [if_neg (by omega)]
        exact LR_cg (show LRn G.2.1 S I F Q P from hL) (au_ms (k := 2) (v := I 2) rfl rfl (au_ms (k := 23) (v := I 23) rfl rfl rfl)) rfl rfl
    · refine w_aload_n (pc := 20) hC dX11_match_20 1 rfl rfl ?_
      refine w_iload_n (pc := 21) hC dX11_match_21 4 rfl rfl ?_
      refine w_callV (pc := 22) (As := [.int (J y)]) (rest := []) hC dX11_match_22 cv_X11_64 (c_X11_isName (kl K) G A D T I F Q P S y (show RI S from by first | assumption | omega) (show LRn G.2.1 S I F Q P from by exact hL) (show -2147483648 ≤ y ∧ y < 2147483648 from by first | assumption | omega)) (by decide) ⟨Nat.le_of_ble_eq_true rfl, Nat.le_of_ble_eq_true rfl⟩ (q0 := 0) CW_0 rfl rfl rfl (Nat.le_of_ble_eq_true rfl) rfl (fun vo wo hv => ?_)
      obtain ⟨hv1, hw1⟩ := hv
      rw [hv1, hw1]
      show WW K G 0 0 (CW A D T G.2.1 I F Q P) 25 [(5, .ref qb), (0, .ref (A 0)), (1, .int (J a)), (2, .int (J x)), (3, .int (J y)), (4, .int (J w))] [.int (J (bI (0 ≤ y ∧ y < S 0)))]
      refine w_if_ne_b (pc := 25) (tgt := 30) hC dX11_match_25 (by decide) (fun c25 => ?_) (fun c25 => ?_)
      · refine w_iload_n (pc := 30) hC dX11_match_30 3 rfl rfl ?_
        refine w_iload_n (pc := 31) hC dX11_match_31 4 rfl rfl ?_
        refine w_icmp_ne (pc := 32) (tgt := 38) hC dX11_match_32 (by decide) (by omega) (fun c32 => ?_) (fun c32 => ?_)
        · have hkx := rk_spec hR.bd (show 0 ≤ x by omega) (show x < S 0 by omega)
          have hky := rk_spec hR.bd (show 0 ≤ y by omega) (show y < S 0 by omega)
          refine w_aload_n (pc := 38) hC dX11_match_38 1 rfl rfl ?_
          refine w_getf (pc := 39) (v := .ref (A 1)) hC dX11_match_39 fi_X11_12 0 CW_0 rfl ?_
          refine w_iload_n (pc := 42) hC dX11_match_42 3 rfl rfl ?_
          refine w_callV (pc := 43) (As := [.int (J x)]) (rest := []) hC dX11_match_43 cv_X11_82 (c_X6_rungOf (kl K) G A D T I F Q P S x (show RI S from by first | assumption | omega) (show LRn G.2.1 S I F Q P from by exact hL) (show 0 ≤ x ∧ x < S 0 from by first | assumption | omega)) (by decide) ⟨Nat.le_of_ble_eq_true rfl, Nat.le_of_ble_eq_true rfl⟩ (q0 := 1) CW_1 rfl rfl rfl (Nat.le_of_ble_eq_true rfl) rfl (fun vo wo hv => ?_)
          obtain ⟨hv1, hw1⟩ := hv
          rw [hv1, hw1]
          show WW K G 0 0 (CW A D T G.2.1 I F Q P) 46 [(5, .ref qb), (0, .ref (A 0)), (1, .int (J a)), (2, .int (J x)), (3, .int (J y)), (4, .int (J w))] [.int (J (rk (S 0) (S 6) x))]
          have q43_0 := (@rk_spec (S 0) (S 6) x (by first | exact hR.bd | exact (by assumption : RI S).bd) (by omega) (by omega)).1
          refine w_istore (pc := 46) hC dX11_match_46 (lv2 := [(6, .int (J (rk (S 0) (S 6) x))), (5, .ref qb), (0, .ref (A 0)), (1, .int (J a)), (2, .int (J x)), (3, .int (J y)), (4, .int (J w))]) (by rw [hnL]; decide) rfl ?_
          refine w_aload_n (pc := 48) hC dX11_match_48 2 rfl rfl ?_
          refine w_getf (pc := 49) (v := .ref (A 1)) hC dX11_match_49 fi_X11_12 0 CW_0 rfl ?_
          refine w_aload (pc := 52) hC dX11_match_52 1 rfl ?_
          refine w_aload_n (pc := 54) hC dX11_match_54 2 rfl rfl ?_
          refine w_getf (pc := 55) (v := .ref (A 1)) hC dX11_match_55 fi_X11_12 0 CW_0 rfl ?_
          refine w_getfN (pc := 58) (v := .ref (A 2)) hC dX11_match_58 fn_X11_61 1 CW_1 rfl ?_
          refine w_iload (pc := 61) hC dX11_match_61 0 rfl ?_
          refine w_aload_n (pc := 63) hC dX11_match_63 2 rfl rfl ?_
          refine w_getf (pc := 64) (v := .ref (A 1)) hC dX11_match_64 fi_X11_12 0 CW_0 rfl ?_
          refine w_getfN (pc := 67) (v := .int (J (S 2))) hC dX11_match_67 fn_X11_143 1 CW_1 (congrArg (fun z : Int => some (Value.int (J z))) (l_td hL)) ?_
          refine w_callV (pc := 70) (As := [.ref qb, .ref (A 2), .int (J (rk (S 0) (S 6) x)), .int (J (S 2))]) (rest := []) hC dX11_match_70 cv_X11_119 (c_X6_mayBits_v2 (kl K) G A D T I F Q P S a (S 6) qb (rk (S 0) (S 6) x) (S 2) (show RI S from by first | assumption | omega) (show LRn G.2.1 S I F Q P from by exact hL) (show 0 ≤ a ∧ a < S 1 from by first | assumption | omega) (show CLB P G.2.1 S a qb from by first | assumption | omega) (show VB (S 0) (S 6) from by exact hR.bd) (show ∀ r : Int, 0 ≤ r → r < S 0 → (I 2) r = dg (S 6) r from by exact fun r r0 r1 => l_bd hL r0 r1) (show 0 ≤ (rk (S 0) (S 6) x) ∧ (rk (S 0) (S 6) x) < S 0 from by first | assumption | omega) (show 0 ≤ (S 2) ∧ (S 2) ≤ 5000 from by first | assumption | omega)) (by decide) ⟨Nat.le_of_ble_eq_true rfl, Nat.le_of_ble_eq_true rfl⟩ (q0 := 1) CW_1 rfl rfl rfl (Nat.le_of_ble_eq_true rfl) rfl (fun vo wo hv => ?_)
          obtain ⟨b23_70, hv1, hw1⟩ := hv
          rw [hv1, hw1]
          show WW K G 0 0 (CW A D T G.2.1 (au I 23 b23_70) F Q P) 73 [(6, .int (J (rk (S 0) (S 6) x))), (5, .ref qb), (0, .ref (A 0)), (1, .int (J a)), (2, .int (J x)), (3, .int (J y)), (4, .int (J w))] [.int (J (MSK S a (-1) (S 6) (dg (S 6) (rk (S 0) (S 6) x)) (S 2)))]
          have q70_0 := @MSK_bd S a (-1) (S 6) (dg (S 6) (rk (S 0) (S 6) x)) (S 2) (by assumption) (by first | exact VB_dg (by assumption) (by omega) (by omega) | omega)
          refine w_iload_n (pc := 73) hC dX11_match_73 5 rfl rfl ?_
          refine w_callS (pc := 74) (As := [.int (J (MSK S a (-1) (S 6) (dg (S 6) (rk (S 0) (S 6) x)) (S 2))), .int (J y)]) (rest := []) hC dX11_match_74 cs_X11_146 (c_X11_holds (kl K) G (CW A D T G.2.1 (au I 23 b23_70) F Q P) (MSK S a (-1) (S 6) (dg (S 6) (rk (S 0) (S 6) x)) (S 2)) y (show 0 ≤ (MSK S a (-1) (S 6) (dg (S 6) (rk (S 0) (S 6) x)) (S 2)) ∧ (MSK S a (-1) (S 6) (dg (S 6) (rk (S 0) (S 6) x)) (S 2)) < 2147483648 from by first | assumption | omega) (show 0 ≤ y ∧ y < 32 from by first | assumption | omega)) (by decide) ⟨Nat.le_of_ble_eq_true rfl, Nat.le_of_ble_eq_true rfl⟩ rfl (Nat.le_of_ble_eq_true rfl) rfl (fun vo wo hv => ?_)
          obtain ⟨hv1, hw1⟩ := hv
          rw [hv1, hw1]
          show WW K G 0 0 (CW A D T G.2.1 (au I 23 b23_70) F Q P) 77 [(6, .int (J (rk (S 0) (S 6) x))), (5, .ref qb), (0, .ref (A 0)), (1, .int (J a)), (2, .int (J x)), (3, .int (J y)), (4, .int (J w))] [.int (J (bI ((MSK S a (-1) (S 6) (dg (S 6) (rk (S 0) (S 6) x)) (S 2)) / 2 ^ y.toNat % 2 = 1)))]
          refine w_if_ne_b (pc := 77) (tgt := 83) hC dX11_match_77 (by decide) (fun c77 => ?_) (fun c77 => ?_)
          · have hcl2 := hcl
            obtain ⟨i5, j5, qc5, g5, hq5, hqc5, hg5⟩ := hcl2
            obtain ⟨q, hq1, hq2⟩ := msk_rk (c := a) (day := S 2) hR.bd hkx.1 (show 0 ≤ y by omega) c77
            have hqr := rk_uniq hR.bd hq1.1 (by omega) hq2
            rw [hkx.2] at c77
            refine w_iload (pc := 83) hC dX11_match_83 6 rfl ?_
            refine w_if_eq (pc := 85) (tgt := 110) hC dX11_match_85 (by decide) (by omega) (fun c85 => ?_) (fun c85 => ?_)
            · refine w_aload_n (pc := 110) hC dX11_match_110 2 rfl rfl ?_
              refine w_getf (pc := 111) (v := .ref (A 1)) hC dX11_match_111 fi_X11_12 0 CW_0 rfl ?_
              refine w_iload_n (pc := 114) hC dX11_match_114 4 rfl rfl ?_
              refine w_callV (pc := 115) (As := [.int (J x)]) (rest := []) hC dX11_match_115 cv_X11_82 (c_X6_rungOf (kl K) G A D T (au I 23 b23_70) F Q P S x (show RI S from by first | assumption | omega) (show LRn G.2.1 S (au I 23 b23_70) F Q P from by exact (LRb_au (by decide) hL)) (show 0 ≤ x ∧ x < S 0 from by first | assumption | omega)) (by decide) ⟨Nat.le_of_ble_eq_true rfl, Nat.le_of_ble_eq_true rfl⟩ (q0 := 1) CW_1 rfl rfl rfl (Nat.le_of_ble_eq_true rfl) rfl (fun vo wo hv => ?_)
              obtain ⟨hv1, hw1⟩ := hv
              rw [hv1, hw1]
              show WW K G 0 0 (CW A D T G.2.1 (au I 23 b23_70) F Q P) 118 [(6, .int (J (rk (S 0) (S 6) x))), (5, .ref qb), (0, .ref (A 0)), (1, .int (J a)), (2, .int (J x)), (3, .int (J y)), (4, .int (J w))] [.int (J (rk (S 0) (S 6) x))]
              have q115_0 := (@rk_spec (S 0) (S 6) x (by first | exact hR.bd | exact (by assumption : RI S).bd) (by omega) (by omega)).1
              refine w_iret (pc := 118) hC hRT dX11_match_118 rfl ?_
              refine ⟨(I 2), b23_70, retI (by unfold v_match; rw [if_neg (by omega), if_neg (by omega), if_neg (fun h9 => h9 c77)]; first | rw [if_pos (by omega)] | (rw [if_neg (by omega)]; rfl)), CW_cong (au_ms (k := 2) (v := I 2) rfl (au_cm (by decide) rfl) rfl) rfl rfl, ?_⟩
              · unfold n_match
                rw [if_neg (by omega)]
                exact LR_cg (show LRn G.2.1 S (au I 23 b23_70) F Q P from (LRb_au (by decide) hL)) (au_ms (k := 2) (v := I 2) rfl (au_cm (by decide) rfl) rfl) rfl rfl
            · refine w_aload (pc := 88) hC dX11_match_88 1 rfl ?_
              refine w_aload_n (pc := 90) hC dX11_match_90 2 rfl rfl ?_
              refine w_getf (pc := 91) (v := .ref (A 1)) hC dX11_match_91 fi_X11_12 0 CW_0 rfl ?_
              refine w_getfN (pc := 94) (v := .ref (A 2)) hC dX11_match_94 fn_X11_61 1 CW_1 rfl ?_
              refine w_iload (pc := 97) hC dX11_match_97 0 rfl ?_
              refine w_aload_n (pc := 99) hC dX11_match_99 2 rfl rfl ?_
              refine w_getf (pc := 100) (v := .ref (A 1)) hC dX11_match_100 fi_X11_12 0 CW_0 rfl ?_
              refine w_iload_n (pc := 103) hC dX11_match_103 5 rfl rfl ?_
              refine w_callV (pc := 104) (As := [.int (J y)]) (rest := [.int (J (rk (S 0) (S 6) x)), .ref (A 2), .ref qb]) hC dX11_match_104 cv_X11_82 (c_X6_rungOf (kl K) G A D T (au I 23 b23_70) F Q P S y (show RI S from by first | assumption | omega) (show LRn G.2.1 S (au I 23 b23_70) F Q P from by exact (LRb_au (by decide) hL)) (show 0 ≤ y ∧ y < S 0 from by first | assumption | omega)) (by decide) ⟨Nat.le_of_ble_eq_true rfl, Nat.le_of_ble_eq_true rfl⟩ (q0 := 1) CW_1 rfl rfl rfl (Nat.le_of_ble_eq_true rfl) rfl (fun vo wo hv => ?_)
              obtain ⟨hv1, hw1⟩ := hv
              rw [hv1, hw1]
              show WW K G 0 0 (CW A D T G.2.1 (au I 23 b23_70) F Q P) 107 [(6, .int (J (rk (S 0) (S 6) x))), (5, .ref qb), (0, .ref (A 0)), (1, .int (J a)), (2, .int (J x)), (3, .int (J y)), (4, .int (J w))] [.int (J (rk (S 0) (S 6) y)), .int (J (rk (S 0) (S 6) x)), .ref (A 2), .ref qb]
              have q104_0 := (@rk_spec (S 0) (S 6) y (by first | exact hR.bd | exact (by assumption : RI S).bd) (by omega) (by omega)).1
              refine w_callV (pc := 107) (As := [.ref (A 2), .int (J (rk (S 0) (S 6) x)), .int (J (rk (S 0) (S 6) y))]) (rest := []) hC dX11_match_107 cv_X11_150 (c_X2_climb_v2 (kl K) G A D T (au I 23 b23_70) F Q P S a (S 6) qb (rk (S 0) (S 6) x) (rk (S 0) (S 6) y) (show 0 ≤ a ∧ a < S 1 from by first | assumption | omega) (show CLB P G.2.1 S a qb from by first | assumption | omega) (show RI S from by first | assumption | omega) (show VB (S 0) (S 6) from by exact hR.bd) (show ∀ r : Int, 0 ≤ r → r < S 0 → (I 2) r = dg (S 6) r from by exact fun r r0 r1 => l_bd hL r0 r1) (show 0 ≤ (rk (S 0) (S 6) y) ∧ (rk (S 0) (S 6) y) < (rk (S 0) (S 6) x) ∧ (rk (S 0) (S 6) x) < S 0 from by omega)) (by decide) ⟨Nat.le_of_ble_eq_true rfl, Nat.le_of_ble_eq_true rfl⟩ (q0 := (60 + i5)) (CW_P hq5) rfl rfl rfl (Nat.le_of_ble_eq_true rfl) rfl (fun vo wo hv => ?_)
              obtain ⟨b2_107, hv1, hw1, r107⟩ := hv
              rw [hv1, hw1]
              refine w_weq (CW_cong (au_th rfl (au_cm (by decide) rfl)) rfl rfl) ?_
              show WW K G 0 0 (CW A D T G.2.1 (au (au I 2 b2_107) 23 b23_70) F Q P) 110 [(6, .int (J (rk (S 0) (S 6) x))), (5, .ref qb), (0, .ref (A 0)), (1, .int (J a)), (2, .int (J x)), (3, .int (J y)), (4, .int (J w))] []
              have r107 : ∀ zq : Int, 0 ≤ zq → zq < S 0 → b2_107 zq = dg (WON S a (S 6) (dg (S 6) (rk (S 0) (S 6) x)) (dg (S 6) (rk (S 0) (S 6) y))) zq := r107
              have hW : ∀ zq : Int, 0 ≤ zq → zq < S 0 → b2_107 zq = dg (WON S a (S 6) x y) zq := by rw [hkx.2, hky.2] at r107; exact r107
              have hVW : VB (S 0) (WON S a (S 6) x y) := VB_WON hR.bd (by omega) (by omega) (by omega)
              have hR6 := RI_gu6 hR hVW
              have hx2 : 0 ≤ x ∧ x < (gu S 6 (WON S a (S 6) x y)) 0 := by show 0 ≤ x ∧ x < S 0; omega
              refine w_aload_n (pc := 110) hC dX11_match_110 2 rfl rfl ?_
              refine w_getf (pc := 111) (v := .ref (A 1)) hC dX11_match_111 fi_X11_12 0 CW_0 rfl ?_
              refine w_iload_n (pc := 114) hC dX11_match_114 4 rfl rfl ?_
              refine w_callV (pc := 115) (As := [.int (J x)]) (rest := []) hC dX11_match_115 cv_X11_82 (c_X6_rungOf (kl K) G A D T (au (au I 2 b2_107) 23 b23_70) F Q P (gu S 6 (WON S a (S 6) x y)) x (show RI (gu S 6 (WON S a (S 6) x y)) from by exact hR6) (show LRn G.2.1 (gu S 6 (WON S a (S 6) x y)) (au (au I 2 b2_107) 23 b23_70) F Q P from by exact LRb_au (by decide) (LRn_6 hL hR hW)) (show 0 ≤ x ∧ x < (gu S 6 (WON S a (S 6) x y)) 0 from by show 0 ≤ x ∧ x < S 0; omega)) (by decide) ⟨Nat.le_of_ble_eq_true rfl, Nat.le_of_ble_eq_true rfl⟩ (q0 := 1) CW_1 rfl rfl rfl (Nat.le_of_ble_eq_true rfl) rfl (fun vo wo hv => ?_)
              obtain ⟨hv1, hw1⟩ := hv
              rw [hv1, hw1]
              show WW K G 0 0 (CW A D T G.2.1 (au (au I 2 b2_107) 23 b23_70) F Q P) 118 [(6, .int (J (rk (S 0) (S 6) x))), (5, .ref qb), (0, .ref (A 0)), (1, .int (J a)), (2, .int (J x)), (3, .int (J y)), (4, .int (J w))] [.int (J (rk ((gu S 6 (WON S a (S 6) x y)) 0) ((gu S 6 (WON S a (S 6) x y)) 6) x))]
              have q115_0 := (@rk_spec ((gu S 6 (WON S a (S 6) x y)) 0) ((gu S 6 (WON S a (S 6) x y)) 6) x (by first | exact hR.bd | exact (by assumption : RI (gu S 6 (WON S a (S 6) x y))).bd) (by omega) (by omega)).1
              refine w_iret (pc := 118) hC hRT dX11_match_118 rfl ?_
              refine ⟨b2_107, b23_70, retI (by unfold v_match; rw [if_neg (by omega), if_neg (by omega), if_neg (fun h9 => h9 c77)]; first | rw [if_pos (by omega)] | (rw [if_neg (by omega)]; rfl)), rfl, ?_⟩
              · unfold n_match
                rw [if_pos ⟨hc, by omega, by omega, by omega, c77, by omega⟩]
                exact LRb_au (by decide) (LRn_6 hL hR hW)
          · refine w_bipush (pc := 80) hC dX11_match_80 (z := (-3)) rfl ?_
            refine w_iret (pc := 82) hC hRT dX11_match_82 rfl ?_
            refine ⟨(I 2), b23_70, retI (by unfold v_match; rw [hkx.2] at c77; rw [if_neg (by omega), if_neg (by omega), if_pos c77]), CW_cong (au_ms (k := 2) (v := I 2) rfl (au_cm (by decide) rfl) rfl) rfl rfl, ?_⟩
            · unfold n_match
              rw [hkx.2] at c77
              rw [if_neg (fun h9 => c77 h9.2.2.2.2.1)]
              exact LR_cg (show LRn G.2.1 S (au I 23 b23_70) F Q P from (LRb_au (by decide) hL)) (au_ms (k := 2) (v := I 2) rfl (au_cm (by decide) rfl) rfl) rfl rfl
        · refine w_bipush (pc := 35) hC dX11_match_35 (z := (-2)) rfl ?_
          refine w_iret (pc := 37) hC hRT dX11_match_37 rfl ?_
          refine ⟨(I 2), (I 23), retI (by unfold v_match; rw [if_neg (by omega), if_pos (by omega)]), CW_cong (au_ms (k := 2) (v := I 2) rfl rfl (au_ms (k := 23) (v := I 23) rfl rfl rfl)) rfl rfl, ?_⟩
          · unfold n_match
            rw [if_neg (by omega)]
            exact LR_cg (show LRn G.2.1 S I F Q P from hL) (au_ms (k := 2) (v := I 2) rfl rfl (au_ms (k := 23) (v := I 23) rfl rfl rfl)) rfl rfl
      · refine w_iconst (pc := 28) hC dX11_match_28 ?_
        refine w_iret (pc := 29) hC hRT dX11_match_29 rfl ?_
        refine ⟨(I 2), (I 23), retI (by unfold v_match; rw [if_pos (by omega)]), CW_cong (au_ms (k := 2) (v := I 2) rfl rfl (au_ms (k := 23) (v := I 23) rfl rfl rfl)) rfl rfl, ?_⟩
        · unfold n_match
          rw [if_neg (by omega)]
          exact LR_cg (show LRn G.2.1 S I F Q P from hL) (au_ms (k := 2) (v := I 2) rfl rfl (au_ms (k := 23) (v := I 23) rfl rfl rfl)) rfl rfl
  · rw [if_neg hc] at hv1
    rw [hv1, hw1]
    show WW K G 0 0 (CW A D T G.2.1 I F Q P) 5 [(0, .ref (A 0)), (1, .int (J a)), (2, .int (J x)), (3, .int (J y)), (4, .int (J w))] [.null]
    refine w_astoreN (pc := 5) hC dX11_match_5 (lv2 := [(5, .null), (0, .ref (A 0)), (1, .int (J a)), (2, .int (J x)), (3, .int (J y)), (4, .int (J w))]) (by rw [hnL]; decide) rfl ?_
    refine w_aloadN (pc := 7) hC dX11_match_7 0 rfl ?_
    refine w_ifnullN (pc := 9) (tgt := 28) hC dX11_match_9 (by decide) ?_
    refine w_iconst (pc := 28) hC dX11_match_28 ?_
    refine w_iret (pc := 29) hC hRT dX11_match_29 rfl ?_
    refine ⟨(I 2), (I 23), retI (by unfold v_match; rw [if_pos (by omega)]), CW_cong (au_ms (k := 2) (v := I 2) rfl rfl (au_ms (k := 23) (v := I 23) rfl rfl rfl)) rfl rfl, ?_⟩
    · unfold n_match
      rw [if_neg (by omega)]
      exact LR_cg (show LRn G.2.1 S I F Q P from hL) (au_ms (k := 2) (v := I 2) rfl rfl (au_ms (k := 23) (v := I 23) rfl rfl rfl)) rfl rfl
set_option maxRecDepth 100000 in
set_option maxHeartbeats 4000000 in
theorem c_X11_hang (l : Launch) (G : GT) (A D : Nat → Nat) (T : Nat) (I : Nat → Int → Int) (F : Nat → Int) (Q : Nat → Nat → Option Nat) (P : va_W) (S : Int → Int) (x : Int) (r : Int) (hR : RI S) (hL : LRn G.2.1 S I F Q P) (h0 : -2147483648 ≤ x ∧ x < 2147483648) (h1 : -2147483648 ≤ r ∧ r < 2147483648) : CT l yX11_hang cX11_hang 4 (some .int) 1 0 0 G [.ref (A 0), .int (J x), .int (J r)] (CW A D T G.2.1 I F Q P) (fun vo wo => ∃ (b2 : Int → Int), vo = some (.int (J (v_hang S x r))) ∧ wo = CW A D T G.2.1 (au I 2 b2) F Q P ∧ (LRn G.2.1 (n_hang S x r) (au I 2 b2) F Q P)) := by
  refine CT_of (own := RX11) rfl rfl (Nat.le_of_ble_eq_true rfl) (fun K hl hnL hC hRT hin => ?_)
  subst hl
  show WW K G 0 0 (CW A D T G.2.1 I F Q P) 0 [(0, .ref (A 0)), (1, .int (J x)), (2, .int (J r))] []
  have hn := hR.n
  have hbd := hR.bd
  refine w_aload_n (pc := 0) hC dX11_hang_0 0 rfl rfl ?_
  refine w_iload_n (pc := 1) hC dX11_hang_1 1 rfl rfl ?_
  refine w_callV (pc := 2) (As := [.int (J x)]) (rest := []) hC dX11_hang_2 cv_X11_64 (c_X11_isName (kl K) G A D T I F Q P S x (show RI S from by first | assumption | omega) (show LRn G.2.1 S I F Q P from by exact hL) (show -2147483648 ≤ x ∧ x < 2147483648 from by first | assumption | omega)) (by decide) ⟨Nat.le_of_ble_eq_true rfl, Nat.le_of_ble_eq_true rfl⟩ (q0 := 0) CW_0 rfl rfl rfl (Nat.le_of_ble_eq_true rfl) rfl (fun vo wo hv => ?_)
  obtain ⟨hv1, hw1⟩ := hv
  rw [hv1, hw1]
  show WW K G 0 0 (CW A D T G.2.1 I F Q P) 5 [(0, .ref (A 0)), (1, .int (J x)), (2, .int (J r))] [.int (J (bI (0 ≤ x ∧ x < S 0)))]
  refine w_if_eq_b (pc := 5) (tgt := 16) hC dX11_hang_5 (by decide) (fun c5 => ?_) (fun c5 => ?_)
  · refine w_iconst (pc := 16) hC dX11_hang_16 ?_
    refine w_iret (pc := 17) hC hRT dX11_hang_17 rfl ?_
    refine ⟨(I 2), retI (by unfold v_hang; rw [if_pos (by omega)]), CW_cong (au_ms (k := 2) (v := I 2) rfl rfl rfl) rfl rfl, ?_⟩
    · unfold n_hang
      rw [if_neg (by omega)]
      exact LR_cg (show LRn G.2.1 S I F Q P from hL) (au_ms (k := 2) (v := I 2) rfl rfl rfl) rfl rfl
  · refine w_aload_n (pc := 8) hC dX11_hang_8 0 rfl rfl ?_
    refine w_iload_n (pc := 9) hC dX11_hang_9 2 rfl rfl ?_
    refine w_callV (pc := 10) (As := [.int (J r)]) (rest := []) hC dX11_hang_10 cv_X11_72 (c_X11_isRung (kl K) G A D T I F Q P S r (show RI S from by first | assumption | omega) (show LRn G.2.1 S I F Q P from by exact hL) (show -2147483648 ≤ r ∧ r < 2147483648 from by first | assumption | omega)) (by decide) ⟨Nat.le_of_ble_eq_true rfl, Nat.le_of_ble_eq_true rfl⟩ (q0 := 0) CW_0 rfl rfl rfl (Nat.le_of_ble_eq_true rfl) rfl (fun vo wo hv => ?_)
    obtain ⟨hv1, hw1⟩ := hv
    rw [hv1, hw1]
    show WW K G 0 0 (CW A D T G.2.1 I F Q P) 13 [(0, .ref (A 0)), (1, .int (J x)), (2, .int (J r))] [.int (J (bI (0 ≤ r ∧ r < S 0)))]
    refine w_if_ne_b (pc := 13) (tgt := 18) hC dX11_hang_13 (by decide) (fun c13 => ?_) (fun c13 => ?_)
    · have hkx := rk_spec hR.bd (show 0 ≤ x by omega) (show x < S 0 by omega)
      refine w_aload_n (pc := 18) hC dX11_hang_18 0 rfl rfl ?_
      refine w_getf (pc := 19) (v := .ref (A 1)) hC dX11_hang_19 fi_X11_12 0 CW_0 rfl ?_
      refine w_iload_n (pc := 22) hC dX11_hang_22 1 rfl rfl ?_
      refine w_callV (pc := 23) (As := [.int (J x)]) (rest := []) hC dX11_hang_23 cv_X11_82 (c_X6_rungOf (kl K) G A D T I F Q P S x (show RI S from by first | assumption | omega) (show LRn G.2.1 S I F Q P from by exact hL) (show 0 ≤ x ∧ x < S 0 from by first | assumption | omega)) (by decide) ⟨Nat.le_of_ble_eq_true rfl, Nat.le_of_ble_eq_true rfl⟩ (q0 := 1) CW_1 rfl rfl rfl (Nat.le_of_ble_eq_true rfl) rfl (fun vo wo hv => ?_)
      obtain ⟨hv1, hw1⟩ := hv
      rw [hv1, hw1]
      show WW K G 0 0 (CW A D T G.2.1 I F Q P) 26 [(0, .ref (A 0)), (1, .int (J x)), (2, .int (J r))] [.int (J (rk (S 0) (S 6) x))]
      have q23_0 := (@rk_spec (S 0) (S 6) x (by first | exact hR.bd | exact (by assumption : RI S).bd) (by omega) (by omega)).1
      refine w_istore_n (pc := 26) hC dX11_hang_26 rfl (lv2 := [(3, .int (J (rk (S 0) (S 6) x))), (0, .ref (A 0)), (1, .int (J x)), (2, .int (J r))]) (by rw [hnL]; decide) rfl ?_
      refine w_aload_n (pc := 27) hC dX11_hang_27 1 rfl rfl ?_
      refine w_getf (pc := 28) (v := .ref (A 1)) hC dX11_hang_28 fi_X11_12 0 CW_0 rfl ?_
      refine w_getfN (pc := 31) (v := .ref (A 2)) hC dX11_hang_31 fn_X11_61 1 CW_1 rfl ?_
      refine w_iload_n (pc := 34) hC dX11_hang_34 0 rfl rfl ?_
      refine w_iload_n (pc := 35) hC dX11_hang_35 3 rfl rfl ?_
      refine w_callS (pc := 36) (As := [.ref (A 2), .int (J (rk (S 0) (S 6) x)), .int (J r)]) (rest := []) hC dX11_hang_36 cs_X11_86 (c_X11_move_v2 (kl K) G A D T I F Q P (rk (S 0) (S 6) x) r (show 0 ≤ (rk (S 0) (S 6) x) ∧ (rk (S 0) (S 6) x) < 6 from by first | assumption | omega) (show 0 ≤ r ∧ r < 6 from by first | assumption | omega)) (by decide) ⟨Nat.le_of_ble_eq_true rfl, Nat.le_of_ble_eq_true rfl⟩ rfl (Nat.le_of_ble_eq_true rfl) rfl (fun vo wo hv => ?_)
      obtain ⟨b2_36, hv1, hw1, r36⟩ := hv
      rw [hv1, hw1]
      show WW K G 0 0 (CW A D T G.2.1 (au I 2 b2_36) F Q P) 39 [(3, .int (J (rk (S 0) (S 6) x))), (0, .ref (A 0)), (1, .int (J x)), (2, .int (J r))] []
      have r36 : ∀ zq : Int, b2_36 zq = (I 2) (mvi (rk (S 0) (S 6) x) r zq) := r36
      refine w_iload_n (pc := 39) hC dX11_hang_39 0 rfl rfl ?_
      refine w_iret (pc := 40) hC hRT dX11_hang_40 rfl ?_
      refine ⟨b2_36, retI (by unfold v_hang; rw [if_neg (by omega)]), rfl, ?_⟩
      · unfold n_hang
        rw [if_pos (by omega)]
        refine LRn_6 hL hR (fun q q0 q1 => ?_)
        unfold mvd
        have hm := mvi_in (n := S 0) hkx.1 (show 0 ≤ r ∧ r < S 0 by omega) q0 q1
        rw [brd_dg q0 q1, r36 q]
        exact l_bd hL hm.1 hm.2
    · refine w_iconst (pc := 16) hC dX11_hang_16 ?_
      refine w_iret (pc := 17) hC hRT dX11_hang_17 rfl ?_
      refine ⟨(I 2), retI (by unfold v_hang; rw [if_pos (by omega)]), CW_cong (au_ms (k := 2) (v := I 2) rfl rfl rfl) rfl rfl, ?_⟩
      · unfold n_hang
        rw [if_neg (by omega)]
        exact LR_cg (show LRn G.2.1 S I F Q P from hL) (au_ms (k := 2) (v := I 2) rfl rfl rfl) rfl rfl
set_option maxRecDepth 100000 in
set_option maxHeartbeats 4000000 in
theorem c_X11_runToday (l : Launch) (G : GT) (A D : Nat → Nat) (T : Nat) (I : Nat → Int → Int) (F : Nat → Int) (Q : Nat → Nat → Option Nat) (P : va_W) (S : Int → Int) (c : Int) (qb : Nat) (seed : Int) (hR : RI S) (hL : LRn G.2.1 S I F Q P) (hc : 0 ≤ c ∧ c < S 1) (hcl : CLB P G.2.1 S c qb) (hseed : 0 ≤ seed ∧ seed ≤ 999) : CT l yX11_runToday cX11_runToday 6 none 4 0 0 G [.ref (A 0), .ref qb, .int (J seed)] (CW A D T G.2.1 I F Q P) (fun vo wo => ∃ (b2 : Int → Int) (b23 : Int → Int), vo = none ∧ wo = CW A D T G.2.1 (au (au I 2 b2) 23 b23) F Q P ∧ (LRn G.2.1 (RDb S c seed) (au (au I 2 b2) 23 b23) F Q P ∧ RI (RDb S c seed))) := by
  refine CT_of (own := RX11) rfl rfl (Nat.le_of_ble_eq_true rfl) (fun K hl hnL hC hRT hin => ?_)
  subst hl
  show WW K G 0 0 (CW A D T G.2.1 I F Q P) 0 [(0, .ref (A 0)), (1, .ref qb), (2, .int (J seed))] []
  have hn := hR.n
  have hbd := hR.bd
  have htd := hR.td
  have hcl2 := hcl
  obtain ⟨i5, j5, qc5, g5, hq5, hqc5, hg5⟩ := hcl2
  refine w_aload_n (pc := 0) hC dX11_runToday_0 0 rfl rfl ?_
  refine w_getf (pc := 1) (v := .ref (A 1)) hC dX11_runToday_1 fi_X11_12 0 CW_0 rfl ?_
  refine w_getfN (pc := 4) (v := .int (J (S 0))) hC dX11_runToday_4 fn_X11_57 1 CW_1 (congrArg (fun z : Int => some (Value.int (J z))) (l_n hL)) ?_
  refine w_if_ne (pc := 7) (tgt := 11) hC dX11_runToday_7 (by decide) (by omega) (fun c7 => ?_) (fun c7 => ?_)
  · refine w_aload_n (pc := 11) hC dX11_runToday_11 0 rfl rfl ?_
    refine w_getf (pc := 12) (v := .ref (A 1)) hC dX11_runToday_12 fi_X11_12 0 CW_0 rfl ?_
    refine w_aload_n (pc := 15) hC dX11_runToday_15 0 rfl rfl ?_
    refine w_getf (pc := 16) (v := .ref (A 1)) hC dX11_runToday_16 fi_X11_12 0 CW_0 rfl ?_
    refine w_getfN (pc := 19) (v := .int (J (S 2))) hC dX11_runToday_19 fn_X11_143 1 CW_1 (congrArg (fun z : Int => some (Value.int (J z))) (l_td hL)) ?_
    refine w_callV (pc := 22) (As := [.int (J (S 2))]) (rest := []) hC dX11_runToday_22 cv_X11_194 (c_X6_turn (kl K) G A D T I F Q P S (S 2) (show RI S from by first | assumption | omega) (show LRn G.2.1 S I F Q P from by exact hL) (show 0 ≤ (S 2) ∧ (S 2) < 2147483648 from by first | assumption | omega)) (by decide) ⟨Nat.le_of_ble_eq_true rfl, Nat.le_of_ble_eq_true rfl⟩ (q0 := 1) CW_1 rfl rfl rfl (Nat.le_of_ble_eq_true rfl) rfl (fun vo wo hv => ?_)
    obtain ⟨hv1, hw1⟩ := hv
    rw [hv1, hw1]
    show WW K G 0 0 (CW A D T G.2.1 I F Q P) 25 [(0, .ref (A 0)), (1, .ref qb), (2, .int (J seed))] [.int (J (if S 0 = 0 then 0 else S 0 - 1 - (S 2) % S 0))]
    refine w_top (e2 := S 0 - 1 - S 2 % S 0) (by rw [if_neg (by omega)]) ?_
    have hmd := Int.emod_nonneg (S 2) (show S 0 ≠ 0 by omega)
    have hml := Int.emod_lt_of_pos (S 2) (show 0 < S 0 by omega)
    have hrg : 0 ≤ S 0 - 1 - S 2 % S 0 ∧ S 0 - 1 - S 2 % S 0 < S 0 := by omega
    have hdg := VB_dg hR.bd hrg.1 hrg.2
    refine w_istore_n (pc := 25) hC dX11_runToday_25 rfl (lv2 := [(3, .int (J (S 0 - 1 - S 2 % S 0))), (0, .ref (A 0)), (1, .ref qb), (2, .int (J seed))]) (by rw [hnL]; decide) rfl ?_
    refine w_aload_n (pc := 26) hC dX11_runToday_26 1 rfl rfl ?_
    refine w_getf (pc := 27) (v := .ref (A 1)) hC dX11_runToday_27 fi_X11_12 0 CW_0 rfl ?_
    refine w_getfN (pc := 30) (v := .ref (A 2)) hC dX11_runToday_30 fn_X11_61 1 CW_1 rfl ?_
    refine w_iload_n (pc := 33) hC dX11_runToday_33 0 rfl rfl ?_
    refine w_ialdV (pc := 34) (g := (I 2)) (v := dg (S 6) (S 0 - 1 - S 2 % S 0)) hC dX11_runToday_34 2 CW_2 (by omega) (Nat.le_of_ble_eq_true rfl) (l_bd hL (by omega) (by omega)) ?_
    refine w_istore (pc := 35) hC dX11_runToday_35 (lv2 := [(4, .int (J (dg (S 6) (S 0 - 1 - S 2 % S 0)))), (3, .int (J (S 0 - 1 - S 2 % S 0))), (0, .ref (A 0)), (1, .ref qb), (2, .int (J seed))]) (by rw [hnL]; decide) rfl ?_
    refine w_aload_n (pc := 37) hC dX11_runToday_37 2 rfl rfl ?_
    refine w_getf (pc := 38) (v := .ref (A 1)) hC dX11_runToday_38 fi_X11_12 0 CW_0 rfl ?_
    refine w_aload_n (pc := 41) hC dX11_runToday_41 3 rfl rfl ?_
    refine w_aload_n (pc := 42) hC dX11_runToday_42 2 rfl rfl ?_
    refine w_getf (pc := 43) (v := .ref (A 1)) hC dX11_runToday_43 fi_X11_12 0 CW_0 rfl ?_
    refine w_getfN (pc := 46) (v := .ref (A 2)) hC dX11_runToday_46 fn_X11_61 1 CW_1 rfl ?_
    refine w_iload_n (pc := 49) hC dX11_runToday_49 1 rfl rfl ?_
    refine w_aload_n (pc := 50) hC dX11_runToday_50 2 rfl rfl ?_
    refine w_getf (pc := 51) (v := .ref (A 1)) hC dX11_runToday_51 fi_X11_12 0 CW_0 rfl ?_
    refine w_getfN (pc := 54) (v := .int (J (S 2))) hC dX11_runToday_54 fn_X11_143 1 CW_1 (congrArg (fun z : Int => some (Value.int (J z))) (l_td hL)) ?_
    refine w_iconst (pc := 57) hC dX11_runToday_57 ?_
    refine w_callV (pc := 58) (As := [.ref qb, .ref (A 2), .int (J (S 0 - 1 - S 2 % S 0)), .int (J (S 2)), .int (J 0)]) (rest := []) hC dX11_runToday_58 cv_X11_284 (c_X6_whom_v2 (kl K) G A D T I F Q P S c (S 6) (-1) qb (S 0 - 1 - S 2 % S 0) (S 2) 0 (show RI S from by first | assumption | omega) (show LRn G.2.1 S I F Q P from by exact hL) (show 0 ≤ c ∧ c < S 1 from by first | assumption | omega) (show CLB P G.2.1 S c qb from by first | assumption | omega) (show VB (S 0) (S 6) from by exact hR.bd) (show ∀ r : Int, 0 ≤ r → r < S 0 → (I 2) r = dg (S 6) r from by exact fun r r0 r1 => l_bd hL r0 r1) (show 0 ≤ (S 0 - 1 - S 2 % S 0) ∧ (S 0 - 1 - S 2 % S 0) < S 0 from by exact hrg) (show 0 ≤ (S 2) ∧ (S 2) ≤ 5000 from by first | assumption | omega) (show (-1) = -1 ∨ (0 ≤ (-1) ∧ (-1) < 6) from by exact Or.inl rfl) (show 0 = if (-1) = -1 then 0 else 2 ^ ((-1) : Int).toNat from by rfl)) (by decide) ⟨Nat.le_of_ble_eq_true rfl, Nat.le_of_ble_eq_true rfl⟩ (q0 := 1) CW_1 rfl rfl rfl (Nat.le_of_ble_eq_true rfl) rfl (fun vo wo hv => ?_)
    obtain ⟨b23_58, hv1, hw1⟩ := hv
    rw [hv1, hw1]
    show WW K G 0 0 (CW A D T G.2.1 (au I 23 b23_58) F Q P) 61 [(4, .int (J (dg (S 6) (S 0 - 1 - S 2 % S 0)))), (3, .int (J (S 0 - 1 - S 2 % S 0))), (0, .ref (A 0)), (1, .ref qb), (2, .int (J seed))] [.int (J (ASK S c (-1) (S 6) (dg (S 6) (S 0 - 1 - S 2 % S 0)) (S 2)))]
    have q58_0 := @ASK_in S c (-1) (S 6) (dg (S 6) (S 0 - 1 - S 2 % S 0)) (S 2) (by assumption) (by first | exact VB_dg (by assumption) (by omega) (by omega) | omega)
    refine w_istore (pc := 61) hC dX11_runToday_61 (lv2 := [(5, .int (J (ASK S c (-1) (S 6) (dg (S 6) (S 0 - 1 - S 2 % S 0)) (S 2)))), (4, .int (J (dg (S 6) (S 0 - 1 - S 2 % S 0)))), (3, .int (J (S 0 - 1 - S 2 % S 0))), (0, .ref (A 0)), (1, .ref qb), (2, .int (J seed))]) (by rw [hnL]; decide) rfl ?_
    refine w_iload (pc := 63) hC dX11_runToday_63 0 rfl ?_
    refine w_bipush (pc := 65) hC dX11_runToday_65 (z := (-5)) rfl ?_
    refine w_icmp_eq (pc := 67) (tgt := 128) hC dX11_runToday_67 (by decide) (by omega) (fun c67 => ?_) (fun c67 => ?_)
    · refine w_vret (pc := 128) hC hRT dX11_runToday_128 ?_
      refine ⟨(I 2), b23_58, rfl, CW_cong (au_ms (k := 2) (v := I 2) rfl (au_cm (by decide) rfl) rfl) rfl rfl, ?_⟩
      · unfold RDb
        rw [if_neg (fun h9 => by first | exact h9.2.1 c67 | (have h8 : (31 * seed + 17 * S 2) * 7 % 100 < S (130 + 6 * dg (S 6) (S 0 - 1 - S 2 % S 0) + ASK S c (-1) (S 6) (dg (S 6) (S 0 - 1 - S 2 % S 0)) (S 2)) := h9.2.2; omega))]
        exact ⟨LR_cg (show LRn G.2.1 S (au I 23 b23_58) F Q P from (LRb_au (by decide) hL)) (au_ms (k := 2) (v := I 2) rfl (au_cm (by decide) rfl) rfl) rfl rfl, hR⟩
    · obtain ⟨hA1, hA2⟩ := q58_0.resolve_left c67
      rw [rk_ru hR.bd hrg] at hA2
      have hch := hR.ch hdg hA1
      have hkA := rk_spec hR.bd hA1.1 hA1.2
      refine w_iload_n (pc := 70) hC dX11_runToday_70 5 rfl rfl ?_
      refine w_bipush (pc := 71) hC dX11_runToday_71 (z := 31) rfl ?_
      refine w_imul (pc := 73) hC dX11_runToday_73 ?_
      refine w_aload_n (pc := 74) hC dX11_runToday_74 3 rfl rfl ?_
      refine w_getf (pc := 75) (v := .ref (A 1)) hC dX11_runToday_75 fi_X11_12 0 CW_0 rfl ?_
      refine w_getfN (pc := 78) (v := .int (J (S 2))) hC dX11_runToday_78 fn_X11_143 1 CW_1 (congrArg (fun z : Int => some (Value.int (J z))) (l_td hL)) ?_
      refine w_bipush (pc := 81) hC dX11_runToday_81 (z := 17) rfl ?_
      refine w_imul (pc := 83) hC dX11_runToday_83 ?_
      refine w_iadd (pc := 84) hC dX11_runToday_84 ?_
      refine w_bipush (pc := 85) hC dX11_runToday_85 (z := 7) rfl ?_
      refine w_imul (pc := 87) hC dX11_runToday_87 ?_
      refine w_bipush (pc := 88) hC dX11_runToday_88 (z := 100) rfl ?_
      refine w_irem (pc := 90) hC dX11_runToday_90 (by omega) ?_
      refine w_aload_n (pc := 91) hC dX11_runToday_91 3 rfl rfl ?_
      refine w_getf (pc := 92) (v := .ref (A 1)) hC dX11_runToday_92 fi_X11_12 0 CW_0 rfl ?_
      refine w_getfN (pc := 95) (v := .ref (A 3)) hC dX11_runToday_95 fn_X11_68 1 CW_1 rfl ?_
      refine w_iload (pc := 98) hC dX11_runToday_98 1 rfl ?_
      refine w_aaldS (t0 := 6) (q := A (4 + (dg (S 6) (S 0 - 1 - S 2 % S 0)).toNat)) hC dX11_runToday_100 3 CW_3 rfl rfl (by omega) (Nat.le_of_ble_eq_true rfl) (rw6_at (by omega)) ?_
      refine w_iload (pc := 101) hC dX11_runToday_101 0 rfl ?_
      refine w_ialdV (pc := 103) (v := S (130 + 6 * (dg (S 6) (S 0 - 1 - S 2 % S 0)) + (ASK S c (-1) (S 6) (dg (S 6) (S 0 - 1 - S 2 % S 0)) (S 2)))) hC dX11_runToday_103 (4 + (dg (S 6) (S 0 - 1 - S 2 % S 0)).toNat) (CW_ch (by omega) (by omega)) (by omega) (Nat.le_of_ble_eq_true rfl) (l_ch (LRb_au (by decide) hL) hR (by omega) (by omega) (by omega) (by omega)) ?_
      refine w_icmp_ge (pc := 104) (tgt := 128) hC dX11_runToday_104 (by decide) (by omega) (fun c104 => ?_) (fun c104 => ?_)
      · refine w_vret (pc := 128) hC hRT dX11_runToday_128 ?_
        refine ⟨(I 2), b23_58, rfl, CW_cong (au_ms (k := 2) (v := I 2) rfl (au_cm (by decide) rfl) rfl) rfl rfl, ?_⟩
        · unfold RDb
          rw [if_neg (fun h9 => by first | exact h9.2.1 c67 | (have h8 : (31 * seed + 17 * S 2) * 7 % 100 < S (130 + 6 * dg (S 6) (S 0 - 1 - S 2 % S 0) + ASK S c (-1) (S 6) (dg (S 6) (S 0 - 1 - S 2 % S 0)) (S 2)) := h9.2.2; omega))]
          exact ⟨LR_cg (show LRn G.2.1 S (au I 23 b23_58) F Q P from (LRb_au (by decide) hL)) (au_ms (k := 2) (v := I 2) rfl (au_cm (by decide) rfl) rfl) rfl rfl, hR⟩
      · have eT : TRN S (S 6) (S 2) = dg (S 6) (S 0 - 1 - S 2 % S 0) := rfl
        refine w_aload_n (pc := 107) hC dX11_runToday_107 4 rfl rfl ?_
        refine w_aload_n (pc := 108) hC dX11_runToday_108 3 rfl rfl ?_
        refine w_getf (pc := 109) (v := .ref (A 1)) hC dX11_runToday_109 fi_X11_12 0 CW_0 rfl ?_
        refine w_getfN (pc := 112) (v := .ref (A 2)) hC dX11_runToday_112 fn_X11_61 1 CW_1 rfl ?_
        refine w_iload_n (pc := 115) hC dX11_runToday_115 2 rfl rfl ?_
        refine w_aload_n (pc := 116) hC dX11_runToday_116 3 rfl rfl ?_
        refine w_getf (pc := 117) (v := .ref (A 1)) hC dX11_runToday_117 fi_X11_12 0 CW_0 rfl ?_
        refine w_iload (pc := 120) hC dX11_runToday_120 0 rfl ?_
        refine w_callV (pc := 122) (As := [.int (J (ASK S c (-1) (S 6) (dg (S 6) (S 0 - 1 - S 2 % S 0)) (S 2)))]) (rest := [.int (J (S 0 - 1 - S 2 % S 0)), .ref (A 2), .ref qb]) hC dX11_runToday_122 cv_X11_82 (c_X6_rungOf (kl K) G A D T (au I 23 b23_58) F Q P S (ASK S c (-1) (S 6) (dg (S 6) (S 0 - 1 - S 2 % S 0)) (S 2)) (show RI S from by first | assumption | omega) (show LRn G.2.1 S (au I 23 b23_58) F Q P from by exact (LRb_au (by decide) hL)) (show 0 ≤ (ASK S c (-1) (S 6) (dg (S 6) (S 0 - 1 - S 2 % S 0)) (S 2)) ∧ (ASK S c (-1) (S 6) (dg (S 6) (S 0 - 1 - S 2 % S 0)) (S 2)) < S 0 from by first | assumption | omega)) (by decide) ⟨Nat.le_of_ble_eq_true rfl, Nat.le_of_ble_eq_true rfl⟩ (q0 := 1) CW_1 rfl rfl rfl (Nat.le_of_ble_eq_true rfl) rfl (fun vo wo hv => ?_)
        obtain ⟨hv1, hw1⟩ := hv
        rw [hv1, hw1]
        show WW K G 0 0 (CW A D T G.2.1 (au I 23 b23_58) F Q P) 125 [(5, .int (J (ASK S c (-1) (S 6) (dg (S 6) (S 0 - 1 - S 2 % S 0)) (S 2)))), (4, .int (J (dg (S 6) (S 0 - 1 - S 2 % S 0)))), (3, .int (J (S 0 - 1 - S 2 % S 0))), (0, .ref (A 0)), (1, .ref qb), (2, .int (J seed))] [.int (J (rk (S 0) (S 6) (ASK S c (-1) (S 6) (dg (S 6) (S 0 - 1 - S 2 % S 0)) (S 2)))), .int (J (S 0 - 1 - S 2 % S 0)), .ref (A 2), .ref qb]
        have q122_0 := (@rk_spec (S 0) (S 6) (ASK S c (-1) (S 6) (dg (S 6) (S 0 - 1 - S 2 % S 0)) (S 2)) (by first | exact hR.bd | exact (by assumption : RI S).bd) (by omega) (by omega)).1
        refine w_callV (pc := 125) (As := [.ref (A 2), .int (J (S 0 - 1 - S 2 % S 0)), .int (J (rk (S 0) (S 6) (ASK S c (-1) (S 6) (dg (S 6) (S 0 - 1 - S 2 % S 0)) (S 2))))]) (rest := []) hC dX11_runToday_125 cv_X11_150 (c_X2_climb_v2 (kl K) G A D T (au I 23 b23_58) F Q P S c (S 6) qb (S 0 - 1 - S 2 % S 0) (rk (S 0) (S 6) (ASK S c (-1) (S 6) (dg (S 6) (S 0 - 1 - S 2 % S 0)) (S 2))) (show 0 ≤ c ∧ c < S 1 from by first | assumption | omega) (show CLB P G.2.1 S c qb from by first | assumption | omega) (show RI S from by first | assumption | omega) (show VB (S 0) (S 6) from by exact hR.bd) (show ∀ r : Int, 0 ≤ r → r < S 0 → (I 2) r = dg (S 6) r from by exact fun r r0 r1 => l_bd hL r0 r1) (show 0 ≤ (rk (S 0) (S 6) (ASK S c (-1) (S 6) (dg (S 6) (S 0 - 1 - S 2 % S 0)) (S 2))) ∧ (rk (S 0) (S 6) (ASK S c (-1) (S 6) (dg (S 6) (S 0 - 1 - S 2 % S 0)) (S 2))) < (S 0 - 1 - S 2 % S 0) ∧ (S 0 - 1 - S 2 % S 0) < S 0 from by omega)) (by decide) ⟨Nat.le_of_ble_eq_true rfl, Nat.le_of_ble_eq_true rfl⟩ (q0 := (60 + i5)) (CW_P hq5) rfl rfl rfl (Nat.le_of_ble_eq_true rfl) rfl (fun vo wo hv => ?_)
        obtain ⟨b2_125, hv1, hw1, r125⟩ := hv
        rw [hv1, hw1]
        refine w_weq (CW_cong (au_th rfl (au_cm (by decide) rfl)) rfl rfl) ?_
        show WW K G 0 0 (CW A D T G.2.1 (au (au I 2 b2_125) 23 b23_58) F Q P) 128 [(5, .int (J (ASK S c (-1) (S 6) (dg (S 6) (S 0 - 1 - S 2 % S 0)) (S 2)))), (4, .int (J (dg (S 6) (S 0 - 1 - S 2 % S 0)))), (3, .int (J (S 0 - 1 - S 2 % S 0))), (0, .ref (A 0)), (1, .ref qb), (2, .int (J seed))] []
        have r125 : ∀ zq : Int, 0 ≤ zq → zq < S 0 → b2_125 zq = dg (WON S c (S 6) (dg (S 6) (S 0 - 1 - S 2 % S 0)) (dg (S 6) (rk (S 0) (S 6) (ASK S c (-1) (S 6) (dg (S 6) (S 0 - 1 - S 2 % S 0)) (S 2))))) zq := r125
        refine w_vret (pc := 128) hC hRT dX11_runToday_128 ?_
        refine ⟨b2_125, b23_58, rfl, rfl, ?_⟩
        · rw [hkA.2] at r125
          have hVW : VB (S 0) (WON S c (S 6) (dg (S 6) (S 0 - 1 - S 2 % S 0)) (ASK S c (-1) (S 6) (dg (S 6) (S 0 - 1 - S 2 % S 0)) (S 2))) := VB_WON hR.bd hdg hA1 (by rw [rk_ru hR.bd hrg]; exact hA2)
          unfold RDb
          have hcond : 0 < S 0 ∧ ¬ ASK S c (-1) (S 6) (TRN S (S 6) (S 2)) (S 2) = -5 ∧ (31 * seed + 17 * S 2) * 7 % 100 < S (130 + 6 * TRN S (S 6) (S 2) + ASK S c (-1) (S 6) (TRN S (S 6) (S 2)) (S 2)) := ⟨by omega, c67, by show (31 * seed + 17 * S 2) * 7 % 100 < S (130 + 6 * dg (S 6) (S 0 - 1 - S 2 % S 0) + ASK S c (-1) (S 6) (dg (S 6) (S 0 - 1 - S 2 % S 0)) (S 2)); omega⟩
          rw [if_pos hcond]
          exact ⟨LRb_au (by decide) (LRn_6 hL hR r125), RI_gu6 hR hVW⟩
  · refine w_vret (pc := 10) hC hRT dX11_runToday_10 ?_
    refine ⟨(I 2), (I 23), rfl, CW_cong (au_ms (k := 2) (v := I 2) rfl rfl (au_ms (k := 23) (v := I 23) rfl rfl rfl)) rfl rfl, ?_⟩
    · unfold RDb
      rw [if_neg (by omega)]
      exact ⟨LR_cg (show LRn G.2.1 S I F Q P from hL) (au_ms (k := 2) (v := I 2) rfl rfl (au_ms (k := 23) (v := I 23) rfl rfl rfl)) rfl rfl, hR⟩
set_option maxRecDepth 100000 in
set_option maxHeartbeats 4000000 in
theorem c_X11_run (l : Launch) (G : GT) (A D : Nat → Nat) (T : Nat) (I : Nat → Int → Int) (F : Nat → Int) (Q : Nat → Nat → Option Nat) (P : va_W) (S : Int → Int) (a : Int) (n : Int) (seed : Int) (hR : RI S) (hL : LRn G.2.1 S I F Q P) (h0 : -2147483648 ≤ a ∧ a < 2147483648) (h1 : -2147483648 ≤ n ∧ n < 2147483648) (h2 : -2147483648 ≤ seed ∧ seed < 2147483648) : CT l yX11_run cX11_run 6 (some .int) 5 0 0 G [.ref (A 0), .int (J a), .int (J n), .int (J seed)] (CW A D T G.2.1 I F Q P) (fun vo wo => ∃ (b2 : Int → Int) (b23 : Int → Int) (b56 : Int → Int) (g2 : Int), vo = some (.int (J (v_run S a n seed))) ∧ wo = CW A D T G.2.1 (au (au (au I 2 b2) 23 b23) 56 b56) (fu F 2 g2) Q P ∧ (LRn G.2.1 (n_run S a n seed) (au (au (au I 2 b2) 23 b23) 56 b56) (fu F 2 g2) Q P)) := by
  refine CT_of (own := RX11) rfl rfl (Nat.le_of_ble_eq_true rfl) (fun K hl hnL hC hRT hin => ?_)
  subst hl
  show WW K G 0 0 (CW A D T G.2.1 I F Q P) 0 [(0, .ref (A 0)), (1, .int (J a)), (2, .int (J n)), (3, .int (J seed))] []
  have hn := hR.n
  have hbd := hR.bd
  have htd := hR.td
  refine w_aload_n (pc := 0) hC dX11_run_0 0 rfl rfl ?_
  refine w_iload_n (pc := 1) hC dX11_run_1 1 rfl rfl ?_
  refine w_callV (pc := 2) (As := [.int (J a)]) (rest := []) hC dX11_run_2 cv_X11_112 (c_X11_clubAt (kl K) G A D T I F Q P S a (show RI S from by assumption) (show LRn G.2.1 S I F Q P from by exact hL) (show -2147483648 ≤ a ∧ a < 2147483648 from by omega)) (by decide) ⟨Nat.le_of_ble_eq_true rfl, Nat.le_of_ble_eq_true rfl⟩ (q0 := 0) CW_0 rfl rfl rfl (Nat.le_of_ble_eq_true rfl) rfl (fun vo wo hv => ?_)
  obtain ⟨hv1, hw1⟩ := hv
  by_cases hc : 0 ≤ a ∧ a < S 1
  · obtain ⟨qb, hQc, hcl⟩ := l_clb hL hc.1 hc.2
    rw [if_pos hc, hQc] at hv1
    rw [hv1, hw1]
    show WW K G 0 0 (CW A D T G.2.1 I F Q P) 5 [(0, .ref (A 0)), (1, .int (J a)), (2, .int (J n)), (3, .int (J seed))] [.ref qb]
    refine w_astore (pc := 5) hC dX11_run_5 (lv2 := [(4, .ref qb), (0, .ref (A 0)), (1, .int (J a)), (2, .int (J n)), (3, .int (J seed))]) (by rw [hnL]; decide) rfl ?_
    refine w_aload (pc := 7) hC dX11_run_7 0 rfl ?_
    refine w_ifnonnullR (pc := 9) (tgt := 14) hC dX11_run_9 (by decide) ?_
    refine w_iload_n (pc := 14) hC dX11_run_14 3 rfl rfl ?_
    refine w_iconst (pc := 15) hC dX11_run_15 ?_
    refine w_icmp_lt (pc := 16) (tgt := 51) hC dX11_run_16 (by decide) (by omega) (fun c16 => ?_) (fun c16 => ?_)
    · refine w_bipush (pc := 51) hC dX11_run_51 (z := (-2)) rfl ?_
      refine w_iret (pc := 53) hC hRT dX11_run_53 rfl ?_
      refine ⟨(I 2), (I 23), (I 56), (F 2), retI (by unfold v_run; rw [if_neg (by omega), if_pos (by omega)]), CW_cong (au_ms (k := 2) (v := I 2) rfl rfl (au_ms (k := 23) (v := I 23) rfl rfl (au_ms (k := 56) (v := I 56) rfl rfl rfl))) (fu_ms (k := 2) (v := F 2) rfl rfl rfl) rfl, ?_⟩
      · unfold n_run
        rw [if_neg (by omega), if_pos (by omega)]
        exact LR_cg (show LRn G.2.1 S I F Q P from hL) (au_ms (k := 2) (v := I 2) rfl rfl (au_ms (k := 23) (v := I 23) rfl rfl (au_ms (k := 56) (v := I 56) rfl rfl rfl))) (fu_ms (k := 2) (v := F 2) rfl rfl rfl) rfl
    · refine w_iload_n (pc := 19) hC dX11_run_19 3 rfl rfl ?_
      refine w_bipush (pc := 20) hC dX11_run_20 (z := 99) rfl ?_
      refine w_icmp_gt (pc := 22) (tgt := 51) hC dX11_run_22 (by decide) (by omega) (fun c22 => ?_) (fun c22 => ?_)
      · refine w_bipush (pc := 51) hC dX11_run_51 (z := (-2)) rfl ?_
        refine w_iret (pc := 53) hC hRT dX11_run_53 rfl ?_
        refine ⟨(I 2), (I 23), (I 56), (F 2), retI (by unfold v_run; rw [if_neg (by omega), if_pos (by omega)]), CW_cong (au_ms (k := 2) (v := I 2) rfl rfl (au_ms (k := 23) (v := I 23) rfl rfl (au_ms (k := 56) (v := I 56) rfl rfl rfl))) (fu_ms (k := 2) (v := F 2) rfl rfl rfl) rfl, ?_⟩
        · unfold n_run
          rw [if_neg (by omega), if_pos (by omega)]
          exact LR_cg (show LRn G.2.1 S I F Q P from hL) (au_ms (k := 2) (v := I 2) rfl rfl (au_ms (k := 23) (v := I 23) rfl rfl (au_ms (k := 56) (v := I 56) rfl rfl rfl))) (fu_ms (k := 2) (v := F 2) rfl rfl rfl) rfl
      · refine w_iload_n (pc := 25) hC dX11_run_25 4 rfl rfl ?_
        refine w_if_lt (pc := 26) (tgt := 51) hC dX11_run_26 (by decide) (by omega) (fun c26 => ?_) (fun c26 => ?_)
        · refine w_bipush (pc := 51) hC dX11_run_51 (z := (-2)) rfl ?_
          refine w_iret (pc := 53) hC hRT dX11_run_53 rfl ?_
          refine ⟨(I 2), (I 23), (I 56), (F 2), retI (by unfold v_run; rw [if_neg (by omega), if_pos (by omega)]), CW_cong (au_ms (k := 2) (v := I 2) rfl rfl (au_ms (k := 23) (v := I 23) rfl rfl (au_ms (k := 56) (v := I 56) rfl rfl rfl))) (fu_ms (k := 2) (v := F 2) rfl rfl rfl) rfl, ?_⟩
          · unfold n_run
            rw [if_neg (by omega), if_pos (by omega)]
            exact LR_cg (show LRn G.2.1 S I F Q P from hL) (au_ms (k := 2) (v := I 2) rfl rfl (au_ms (k := 23) (v := I 23) rfl rfl (au_ms (k := 56) (v := I 56) rfl rfl rfl))) (fu_ms (k := 2) (v := F 2) rfl rfl rfl) rfl
        · refine w_iload_n (pc := 29) hC dX11_run_29 4 rfl rfl ?_
          refine w_sipush (pc := 30) hC dX11_run_30 (z := 999) rfl ?_
          refine w_icmp_gt (pc := 33) (tgt := 51) hC dX11_run_33 (by decide) (by omega) (fun c33 => ?_) (fun c33 => ?_)
          · refine w_bipush (pc := 51) hC dX11_run_51 (z := (-2)) rfl ?_
            refine w_iret (pc := 53) hC hRT dX11_run_53 rfl ?_
            refine ⟨(I 2), (I 23), (I 56), (F 2), retI (by unfold v_run; rw [if_neg (by omega), if_pos (by omega)]), CW_cong (au_ms (k := 2) (v := I 2) rfl rfl (au_ms (k := 23) (v := I 23) rfl rfl (au_ms (k := 56) (v := I 56) rfl rfl rfl))) (fu_ms (k := 2) (v := F 2) rfl rfl rfl) rfl, ?_⟩
            · unfold n_run
              rw [if_neg (by omega), if_pos (by omega)]
              exact LR_cg (show LRn G.2.1 S I F Q P from hL) (au_ms (k := 2) (v := I 2) rfl rfl (au_ms (k := 23) (v := I 23) rfl rfl (au_ms (k := 56) (v := I 56) rfl rfl rfl))) (fu_ms (k := 2) (v := F 2) rfl rfl rfl) rfl
          · refine w_aload_n (pc := 36) hC dX11_run_36 1 rfl rfl ?_
            refine w_getf (pc := 37) (v := .ref (A 1)) hC dX11_run_37 fi_X11_12 0 CW_0 rfl ?_
            refine w_getfN (pc := 40) (v := .int (J (S 2))) hC dX11_run_40 fn_X11_143 1 CW_1 (congrArg (fun z : Int => some (Value.int (J z))) (l_td hL)) ?_
            refine w_iload_n (pc := 43) hC dX11_run_43 3 rfl rfl ?_
            refine w_iadd (pc := 44) hC dX11_run_44 ?_
            refine w_sipush (pc := 45) hC dX11_run_45 (z := 999) rfl ?_
            refine w_icmp_le (pc := 48) (tgt := 54) hC dX11_run_48 (by decide) (by omega) (fun c48 => ?_) (fun c48 => ?_)
            · refine w_iconst (pc := 54) hC dX11_run_54 ?_
              refine w_istore (pc := 55) hC dX11_run_55 (lv2 := [(5, .int (J 0)), (4, .ref qb), (0, .ref (A 0)), (1, .int (J a)), (2, .int (J n)), (3, .int (J seed))]) (by rw [hnL]; decide) rfl ?_
              have loop57 : ∀ (nF : Nat) (k : Int) (a2_57 : Int → Int) (a23_57 : Int → Int) (f2_57 : Int), (0 ≤ k) → (k ≤ n) → (RI (RUN S a seed k.toNat)) → (LRn G.2.1 (RUN S a seed k.toNat) (au (au I 2 a2_57) 23 a23_57) (fu F 2 f2_57) Q P) → (f2_57 = (RUN S a seed k.toNat) 2) → (n - k) < (nF : Int) → WW K G 0 0 (CW A D T G.2.1 (au (au I 2 a2_57) 23 a23_57) (fu F 2 f2_57) Q P) 57 [(0, .ref (A 0)), (2, .int (J n)), (3, .int (J seed)), (4, .ref qb), (5, .int (J k))] [] := by
                intro nF
                induction nF with
                | zero => intro k a2_57 a23_57 f2_57 i1 i2 iR iL e2 hm57; exact absurd hm57 (by omega)
                | succ nF ih57 =>
                  intro k a2_57 a23_57 f2_57 i1 i2 iR iL e2 hm57
                  refine w_iload (pc := 57) hC dX11_run_57 4 rfl ?_
                  refine w_iload_n (pc := 59) hC dX11_run_59 1 rfl rfl ?_
                  refine w_icmp_ge (pc := 60) (tgt := 89) hC dX11_run_60 (by decide) (by omega) (fun c60 => ?_) (fun c60 => ?_)
                  · refine w_aload_n (pc := 89) hC dX11_run_89 0 rfl rfl ?_
                    refine w_callV (pc := 90) (As := []) (rest := []) hC dX11_run_90 cv_X11_259 (c_X11_far (kl K) G A D T (au (au I 2 a2_57) 23 a23_57) (fu F 2 f2_57) Q P (RUN S a seed k.toNat) (show RI (RUN S a seed k.toNat) from by exact iR) (show LRn G.2.1 (RUN S a seed k.toNat) (au (au I 2 a2_57) 23 a23_57) (fu F 2 f2_57) Q P from by exact iL)) (by decide) ⟨Nat.le_of_ble_eq_true rfl, Nat.le_of_ble_eq_true rfl⟩ (q0 := 0) CW_0 rfl rfl rfl (Nat.le_of_ble_eq_true rfl) rfl (fun vo wo hv => ?_)
                    obtain ⟨b56_90, hv1, hw1⟩ := hv
                    rw [hv1, hw1]
                    show WW K G 0 0 (CW A D T G.2.1 (au (au (au I 2 a2_57) 23 a23_57) 56 b56_90) (fu F 2 f2_57) Q P) 93 [(0, .ref (A 0)), (2, .int (J n)), (3, .int (J seed)), (4, .ref qb), (5, .int (J k))] [.int (J (FAR (RUN S a seed k.toNat)))]
                    refine w_iret (pc := 93) hC hRT dX11_run_93 rfl ?_
                    refine ⟨a2_57, a23_57, b56_90, f2_57, retI (by unfold v_run; rw [if_neg (by omega), if_neg (by omega), show k = n by omega]), rfl, ?_⟩
                    · unfold n_run
                      rw [if_neg (by omega), if_neg (by omega), ← show k = n by omega]
                      exact LRb_au (by decide) iL
                  · have hk2 := (RI_RUN (seed := seed) hR hc k.toNat (by omega)).2.2.2
                    refine w_aload_n (pc := 63) hC dX11_run_63 0 rfl rfl ?_
                    refine w_aload (pc := 64) hC dX11_run_64 3 rfl ?_
                    refine w_iload_n (pc := 66) hC dX11_run_66 2 rfl rfl ?_
                    refine w_callV (pc := 67) (As := [.ref qb, .int (J seed)]) (rest := []) hC dX11_run_67 cv_X11_255 (c_X11_runToday (kl K) G A D T (au (au I 2 a2_57) 23 a23_57) (fu F 2 f2_57) Q P (RUN S a seed k.toNat) a qb seed (show RI (RUN S a seed k.toNat) from by exact iR) (show LRn G.2.1 (RUN S a seed k.toNat) (au (au I 2 a2_57) 23 a23_57) (fu F 2 f2_57) Q P from by exact iL) (show 0 ≤ a ∧ a < (RUN S a seed k.toNat) 1 from by rw [RUN_ne (by decide) (by decide)]; exact hc) (show CLB P G.2.1 (RUN S a seed k.toNat) a qb from by exact CLB_cong (fun j j0 j1 => RUN_ne (by omega) (by omega) _) (by have := hR.cl; omega) (hR.sm (188 + a) (by have := hR.cl; omega) (by have := hR.cl; omega)).2 hcl) (show 0 ≤ seed ∧ seed ≤ 999 from by first | assumption | omega)) (by decide) ⟨Nat.le_of_ble_eq_true rfl, Nat.le_of_ble_eq_true rfl⟩ (q0 := 0) CW_0 rfl rfl rfl (Nat.le_of_ble_eq_true rfl) rfl (fun vo wo hv => ?_)
                    obtain ⟨b2_67, b23_67, hv1, hw1, r67⟩ := hv
                    rw [hv1, hw1]
                    refine w_weq (CW_cong (au_th (au_th rfl (au_cm (by decide) au_rp)) au_rp) rfl rfl) ?_
                    show WW K G 0 0 (CW A D T G.2.1 (au (au I 2 b2_67) 23 b23_67) (fu F 2 f2_57) Q P) 70 [(0, .ref (A 0)), (2, .int (J n)), (3, .int (J seed)), (4, .ref qb), (5, .int (J k))] []
                    rw [show (au (au (au (au I 2 a2_57) 23 a23_57) 2 b2_67) 23 b23_67) = (au (au I 2 b2_67) 23 b23_67) from (au_th (au_th rfl (au_cm (by decide) au_rp)) au_rp)] at r67
                    have r67 : LRn G.2.1 (RDb (RUN S a seed k.toNat) a seed) (au (au I 2 b2_67) 23 b23_67) (fu F 2 f2_57) Q P ∧ RI (RDb (RUN S a seed k.toNat) a seed) := r67
                    refine w_aload_n (pc := 70) hC dX11_run_70 0 rfl rfl ?_
                    refine w_getf (pc := 71) (v := .ref (A 1)) hC dX11_run_71 fi_X11_12 0 CW_0 rfl ?_
                    refine w_dup (pc := 74) hC dX11_run_74 rfl ?_
                    refine w_getfN (pc := 75) (v := .int (J f2_57)) hC dX11_run_75 fn_X11_143 1 CW_1 rfl ?_
                    refine w_iconst (pc := 78) hC dX11_run_78 ?_
                    refine w_iadd (pc := 79) hC dX11_run_79 ?_
                    refine w_putfN (pc := 80) (w2 := CW A D T G.2.1 (au (au I 2 b2_67) 23 b23_67) (fu F 2 (f2_57 + 1)) Q P) hC dX11_run_80 fn_X11_143 fp_X6_3 rfl 1 CW_1 (rfl) (rfl) (Nat.le_of_ble_eq_true rfl) (CWf_2 fu_rp) ?_
                    refine w_iinc (pc := 83) hC dX11_run_83 (lv2 := [(5, .int (J (k + 1))), (0, .ref (A 0)), (2, .int (J n)), (3, .int (J seed)), (4, .ref qb)]) 4 rfl (by rw [hnL]; decide) rfl ?_
                    refine w_goto (pc := 86) hC dX11_run_86 (tgt := 57) (by decide) ?_
                    refine w_sub [1, 2, 3, 4, 0] (lv2 := [(0, .ref (A 0)), (2, .int (J n)), (3, .int (J seed)), (4, .ref qb), (5, .int (J (k + 1)))]) rfl ?_
                    refine ih57 (k + 1) b2_67 b23_67 (f2_57 + 1) ?_ ?_ ?_ ?_ ?_ ?_
                    · first | assumption | omega
                    · first | assumption | omega
                    · rw [RUN_s S a seed i1, RD_b]; exact RI_gu2 r67.2 (by omega)
                    · rw [RUN_s S a seed i1, RD_b, ← e2]; exact LR_cong rfl fu_rp rfl (LRn_2 r67.1 r67.2)
                    · rw [RUN_s S a seed i1, RD_b, ← e2]; rfl
                    · omega
              refine w_weq (CW_cong (au_ms (k := 2) (v := I 2) rfl rfl (au_ms (k := 23) (v := I 23) rfl rfl rfl)) (fu_ms (k := 2) (v := F 2) rfl rfl rfl) rfl) ?_
              refine w_sub [2, 4, 5, 1, 0] (lv2 := [(0, .ref (A 0)), (2, .int (J n)), (3, .int (J seed)), (4, .ref qb), (5, .int (J 0))]) rfl ?_
              refine loop57 ((n - 0) + 1 : Int).toNat 0 (I 2) (I 23) (F 2) ?_ ?_ ?_ ?_ ?_ ?_
              · first | assumption | omega
              · first | assumption | omega
              · exact hR
              · exact LR_cong (au_ms (k := 2) (v := I 2) rfl rfl (au_ms (k := 23) (v := I 23) rfl rfl rfl)) (fu_ms (k := 2) (v := F 2) rfl rfl rfl) rfl hL
              · exact l_td hL
              · omega
            · refine w_bipush (pc := 51) hC dX11_run_51 (z := (-2)) rfl ?_
              refine w_iret (pc := 53) hC hRT dX11_run_53 rfl ?_
              refine ⟨(I 2), (I 23), (I 56), (F 2), retI (by unfold v_run; rw [if_neg (by omega), if_pos (by omega)]), CW_cong (au_ms (k := 2) (v := I 2) rfl rfl (au_ms (k := 23) (v := I 23) rfl rfl (au_ms (k := 56) (v := I 56) rfl rfl rfl))) (fu_ms (k := 2) (v := F 2) rfl rfl rfl) rfl, ?_⟩
              · unfold n_run
                rw [if_neg (by omega), if_pos (by omega)]
                exact LR_cg (show LRn G.2.1 S I F Q P from hL) (au_ms (k := 2) (v := I 2) rfl rfl (au_ms (k := 23) (v := I 23) rfl rfl (au_ms (k := 56) (v := I 56) rfl rfl rfl))) (fu_ms (k := 2) (v := F 2) rfl rfl rfl) rfl
  · rw [if_neg hc] at hv1
    rw [hv1, hw1]
    show WW K G 0 0 (CW A D T G.2.1 I F Q P) 5 [(0, .ref (A 0)), (1, .int (J a)), (2, .int (J n)), (3, .int (J seed))] [.null]
    refine w_astoreN (pc := 5) hC dX11_run_5 (lv2 := [(4, .null), (0, .ref (A 0)), (1, .int (J a)), (2, .int (J n)), (3, .int (J seed))]) (by rw [hnL]; decide) rfl ?_
    refine w_aloadN (pc := 7) hC dX11_run_7 0 rfl ?_
    refine w_ifnonnullN (pc := 9) hC dX11_run_9 ?_
    refine w_iconst (pc := 12) hC dX11_run_12 ?_
    refine w_iret (pc := 13) hC hRT dX11_run_13 rfl ?_
    refine ⟨(I 2), (I 23), (I 56), (F 2), retI (by unfold v_run; rw [if_pos (by omega)]), CW_cong (au_ms (k := 2) (v := I 2) rfl rfl (au_ms (k := 23) (v := I 23) rfl rfl (au_ms (k := 56) (v := I 56) rfl rfl rfl))) (fu_ms (k := 2) (v := F 2) rfl rfl rfl) rfl, ?_⟩
    · unfold n_run
      rw [if_pos (by omega)]
      exact LR_cg (show LRn G.2.1 S I F Q P from hL) (au_ms (k := 2) (v := I 2) rfl rfl (au_ms (k := 23) (v := I 23) rfl rfl (au_ms (k := 56) (v := I 56) rfl rfl rfl))) (fu_ms (k := 2) (v := F 2) rfl rfl rfl) rfl
