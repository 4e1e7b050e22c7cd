
section NULLR
variable {K : KT} {G : GT} {cc : ByteArray} {own : String} {d mc ms cs ss pc : Nat} {w : va_W} {lv : List (Nat × Value)} {st : List Value}
theorem w_aload_nN (hC : KOK K G cc own d mc ms) {q : Fin 4} {i : Nat} (hd : decode cc pc = .ok (.aload_n q, 1)) (j : Nat) (hi : (q : Nat) = i) (hj : lv[j]? = some (i, .null)) (k : WW K G cs ss w (pc + 1) lv (.null :: st)) : WW K G cs ss w pc lv st := fun H locs ls hP hD hS hl => lv_aload_nN hC.1 hC.2.1 hd hi (lv_at hl j hj) (k H locs ls hP hD hS hl)
theorem w_aloadN (hC : KOK K G cc own d mc ms) {i : Nat} (hd : decode cc pc = .ok (.aload i, 2)) (j : Nat) (hj : lv[j]? = some (i, .null)) (k : WW K G cs ss w (pc + 2) lv (.null :: st)) : WW K G cs ss w pc lv st := fun H locs ls hP hD hS hl => lv_aloadN hC.1 hC.2.1 hd (lv_at hl j hj) (k H locs ls hP hD hS hl)
theorem w_astore_nN (hC : KOK K G cc own d mc ms) {q : Fin 4} {i : Nat} {lv2 : List (Nat × Value)} (hd : decode cc pc = .ok (.astore_n q, 1)) (hi : (q : Nat) = i) (hn : i < knL K) (hlv : (i, Value.null) :: lv.filter (fun q : Nat × Value => !(q.1 == i) && !(q.1 + 1 == i && q.2.category == 2)) = lv2) (k : WW K G cs ss w (pc + 1) lv2 st) : WW K G cs ss w pc lv (.null :: st) := fun H locs ls hP hD hS hl => lv_astore_nN hC.1 hC.2.1 hd hi hl hn hlv (fun ls hl => k H locs ls hP hD hS hl)
theorem w_astoreN (hC : KOK K G cc own d mc ms) {i : Nat} {lv2 : List (Nat × Value)} (hd : decode cc pc = .ok (.astore i, 2)) (hn : i < knL K) (hlv : (i, Value.null) :: lv.filter (fun q : Nat × Value => !(q.1 == i) && !(q.1 + 1 == i && q.2.category == 2)) = lv2) (k : WW K G cs ss w (pc + 2) lv2 st) : WW K G cs ss w pc lv (.null :: st) := fun H locs ls hP hD hS hl => lv_astoreN hC.1 hC.2.1 hd hl hn hlv (fun ls hl => k H locs ls hP hD hS hl)
end NULLR
theorem bI_06 (p : Prop) [Decidable p] : 0 ≤ bI p ∧ bI p ≤ 6 := by
  by_cases h : p
  · rw [bI_t h]; decide
  · rw [bI_f h]; decide
theorem cnt_1 {n m : Int} {g W : Int → Int} (hD : DOK n g W m) (h : 1 ≤ isum one1 (DBf n g) W m.toNat) : 1 ≤ m := by
  rcases (show m = 0 ∨ 1 ≤ m by have := hD.1.1; omega) with e | e
  · rw [e] at h
    have : isum one1 (DBf n g) W (0 : Int).toNat = 0 := rfl
    omega
  · exact e
theorem msk_rk {S : Int → Int} {c b rung day x : Int} (hV : VB (S 0) b) (hr : 0 ≤ rung ∧ rung < S 0) (hx : 0 ≤ x) (h : MSK S c (-1) b (dg b rung) day / 2 ^ x.toNat % 2 = 1) : ∃ q : Int, (0 ≤ q ∧ q < rung) ∧ dg b q = x := by
  have hup : imin (S (178 + c)) rung ≤ rung := by unfold imin; split <;> omega
  rw [MSK_ru hV hr, bt_mskN _ _ hx _ (fun u g1 g2 => by have := VB_dg hV (r := rung - u) (by omega) (by omega); have := hV.1; omega)] at h
  obtain ⟨u, g1, -, g2⟩ := h
  exact ⟨rung - u, by omega, g2⟩

set_option maxRecDepth 100000 in
set_option maxHeartbeats 4000000 in
theorem c_X11_beats (l : Launch) (G : GT) (A D : Nat → Nat) (T : Nat) (I : Nat → Int → Int) (F : Nat → Int) (Q : Nat → Nat → Option Nat) (P : va_W) (S : Int → Int) (a : Int) (b : Int) (hR : RI S) (hL : LRn G.2.1 S I F Q P) (h0 : -2147483648 ≤ a ∧ a < 2147483648) (h1 : -2147483648 ≤ b ∧ b < 2147483648) : CT l yX11_beats cX11_beats 3 (some .int) 1 0 0 G [.ref (A 0), .int (J a), .int (J b)] (CW A D T G.2.1 I F Q P) (fun vo wo => vo = some (.int (J (v_beats S a b))) ∧ wo = CW A D T G.2.1 I F Q P) := by
  refine CT_of (own := RX11) rfl rfl (Nat.le_of_ble_eq_true rfl) (fun K hl hnL hC hRT hin => ?_)
  subst hl
  show WW K G 0 0 (CW A D T G.2.1 I F Q P) 0 [(0, .ref (A 0)), (1, .int (J a)), (2, .int (J b))] []
  have hn := hR.n
  have hbd := hR.bd
  refine w_aload_n (pc := 0) hC dX11_beats_0 0 rfl rfl ?_
  refine w_iload_n (pc := 1) hC dX11_beats_1 1 rfl rfl ?_
  refine w_callV (pc := 2) (As := [.int (J a)]) (rest := []) hC dX11_beats_2 cv_X11_64 (c_X11_isName (kl K) G A D T I F Q P S a (show RI S from by first | assumption | omega) (show LRn G.2.1 S I F Q P from by exact hL) (show -2147483648 ≤ a ∧ a < 2147483648 from by first | assumption | omega)) (by decide) ⟨Nat.le_of_ble_eq_true rfl, Nat.le_of_ble_eq_true rfl⟩ (q0 := 0) CW_0 rfl rfl rfl (Nat.le_of_ble_eq_true rfl) rfl (fun vo wo hv => ?_)
  obtain ⟨hv1, hw1⟩ := hv
  rw [hv1, hw1]
  show WW K G 0 0 (CW A D T G.2.1 I F Q P) 5 [(0, .ref (A 0)), (1, .int (J a)), (2, .int (J b))] [.int (J (bI (0 ≤ a ∧ a < S 0)))]
  refine w_if_eq_b (pc := 5) (tgt := 16) hC dX11_beats_5 (by decide) (fun c5 => ?_) (fun c5 => ?_)
  · refine w_iconst (pc := 16) hC dX11_beats_16 ?_
    refine w_iret (pc := 17) hC hRT dX11_beats_17 rfl ?_
    refine ⟨retI (by unfold v_beats; first | rw [if_pos (by omega)] | rw [if_neg (by omega), if_pos (by omega)] | rw [if_neg (by omega), if_neg (by omega)]), rfl⟩
  · refine w_aload_n (pc := 8) hC dX11_beats_8 0 rfl rfl ?_
    refine w_iload_n (pc := 9) hC dX11_beats_9 2 rfl rfl ?_
    refine w_callV (pc := 10) (As := [.int (J b)]) (rest := []) hC dX11_beats_10 cv_X11_64 (c_X11_isName (kl K) G A D T I F Q P S b (show RI S from by first | assumption | omega) (show LRn G.2.1 S I F Q P from by exact hL) (show -2147483648 ≤ b ∧ b < 2147483648 from by first | assumption | omega)) (by decide) ⟨Nat.le_of_ble_eq_true rfl, Nat.le_of_ble_eq_true rfl⟩ (q0 := 0) CW_0 rfl rfl rfl (Nat.le_of_ble_eq_true rfl) rfl (fun vo wo hv => ?_)
    obtain ⟨hv1, hw1⟩ := hv
    rw [hv1, hw1]
    show WW K G 0 0 (CW A D T G.2.1 I F Q P) 13 [(0, .ref (A 0)), (1, .int (J a)), (2, .int (J b))] [.int (J (bI (0 ≤ b ∧ b < S 0)))]
    refine w_if_ne_b (pc := 13) (tgt := 18) hC dX11_beats_13 (by decide) (fun c13 => ?_) (fun c13 => ?_)
    · refine w_iload_n (pc := 18) hC dX11_beats_18 1 rfl rfl ?_
      refine w_iload_n (pc := 19) hC dX11_beats_19 2 rfl rfl ?_
      refine w_icmp_ne (pc := 20) (tgt := 28) hC dX11_beats_20 (by decide) (by omega) (fun c20 => ?_) (fun c20 => ?_)
      · refine w_aload_n (pc := 28) hC dX11_beats_28 0 rfl rfl ?_
        refine w_getf (pc := 29) (v := .ref (A 1)) hC dX11_beats_29 fi_X11_12 0 CW_0 rfl ?_
        refine w_getfN (pc := 32) (v := .ref (A 3)) hC dX11_beats_32 fn_X11_68 1 CW_1 rfl ?_
        refine w_iload_n (pc := 35) hC dX11_beats_35 1 rfl rfl ?_
        refine w_aaldS (t0 := 6) (q := A (4 + (a).toNat)) hC dX11_beats_36 3 CW_3 rfl rfl (by omega) (Nat.le_of_ble_eq_true rfl) (rw6_at (by omega)) ?_
        refine w_iload_n (pc := 37) hC dX11_beats_37 2 rfl rfl ?_
        refine w_ialdV (pc := 38) (v := S (130 + 6 * a + b)) hC dX11_beats_38 (4 + (a).toNat) (CW_ch (by omega) (by omega)) (by omega) (Nat.le_of_ble_eq_true rfl) (l_ch hL hR (by omega) (by omega) (by omega) (by omega)) ?_
        refine w_iret (pc := 39) hC hRT dX11_beats_39 rfl ?_
        refine ⟨retI (by unfold v_beats; first | rw [if_pos (by omega)] | rw [if_neg (by omega), if_pos (by omega)] | rw [if_neg (by omega), if_neg (by omega)]), rfl⟩
      · refine w_bipush (pc := 23) hC dX11_beats_23 (z := (-2)) rfl ?_
        refine w_goto (pc := 25) hC dX11_beats_25 (tgt := 39) (by decide) ?_
        refine w_iret (pc := 39) hC hRT dX11_beats_39 rfl ?_
        refine ⟨retI (by unfold v_beats; first | rw [if_pos (by omega)] | rw [if_neg (by omega), if_pos (by omega)] | rw [if_neg (by omega), if_neg (by omega)]), rfl⟩
    · refine w_iconst (pc := 16) hC dX11_beats_16 ?_
      refine w_iret (pc := 17) hC hRT dX11_beats_17 rfl ?_
      refine ⟨retI (by unfold v_beats; first | rw [if_pos (by omega)] | rw [if_neg (by omega), if_pos (by omega)] | rw [if_neg (by omega), if_neg (by omega)]), rfl⟩
set_option maxRecDepth 100000 in
set_option maxHeartbeats 4000000 in
theorem c_X11_board (l : Launch) (G : GT) (A D : Nat → Nat) (T : Nat) (I : Nat → Int → Int) (F : Nat → Int) (Q : Nat → Nat → Option Nat) (P : va_W) (S : Int → Int) (r : Int) (w : Int) (hR : RI S) (hL : LRn G.2.1 S I F Q P) (h0 : -2147483648 ≤ r ∧ r < 2147483648) (h1 : -2147483648 ≤ w ∧ w < 2147483648) : CT l yX11_board cX11_board 3 (some .int) 3 0 0 G [.ref (A 0), .int (J r), .int (J w)] (CW A D T G.2.1 I F Q P) (fun vo wo => ∃ (b56 : Int → Int), vo = some (.int (J (v_board S r w))) ∧ wo = CW A D T G.2.1 (au I 56 b56) F Q P) := by
  refine CT_of (own := RX11) rfl rfl (Nat.le_of_ble_eq_true rfl) (fun K hl hnL hC hRT hin => ?_)
  subst hl
  show WW K G 0 0 (CW A D T G.2.1 I F Q P) 0 [(0, .ref (A 0)), (1, .int (J r)), (2, .int (J w))] []
  have hn := hR.n
  have hbd := hR.bd
  refine w_aload_n (pc := 0) hC dX11_board_0 0 rfl rfl ?_
  refine w_iload_n (pc := 1) hC dX11_board_1 1 rfl rfl ?_
  refine w_callV (pc := 2) (As := [.int (J r)]) (rest := []) hC dX11_board_2 cv_X11_72 (c_X11_isRung (kl K) G A D T I F Q P S r (show RI S from by first | assumption | omega) (show LRn G.2.1 S I F Q P from by exact hL) (show -2147483648 ≤ r ∧ r < 2147483648 from by first | assumption | omega)) (by decide) ⟨Nat.le_of_ble_eq_true rfl, Nat.le_of_ble_eq_true rfl⟩ (q0 := 0) CW_0 rfl rfl rfl (Nat.le_of_ble_eq_true rfl) rfl (fun vo wo hv => ?_)
  obtain ⟨hv1, hw1⟩ := hv
  rw [hv1, hw1]
  show WW K G 0 0 (CW A D T G.2.1 I F Q P) 5 [(0, .ref (A 0)), (1, .int (J r)), (2, .int (J w))] [.int (J (bI (0 ≤ r ∧ r < S 0)))]
  refine w_if_eq_b (pc := 5) (tgt := 15) hC dX11_board_5 (by decide) (fun c5 => ?_) (fun c5 => ?_)
  · refine w_iconst (pc := 15) hC dX11_board_15 ?_
    refine w_iret (pc := 16) hC hRT dX11_board_16 rfl ?_
    refine ⟨(I 56), retI (by unfold v_board; rw [if_neg (by omega)]), CW_cong (au_ms (k := 56) (v := I 56) rfl rfl rfl) rfl rfl⟩
  · refine w_iload_n (pc := 8) hC dX11_board_8 2 rfl rfl ?_
    refine w_callS (pc := 9) (As := [.int (J w)]) (rest := []) hC dX11_board_9 cs_X11_75 (c_X11_isEither (kl K) G (CW A D T G.2.1 I F Q P) w (show -2147483648 ≤ w ∧ w < 2147483648 from by first | assumption | omega)) (by decide) ⟨Nat.le_of_ble_eq_true rfl, Nat.le_of_ble_eq_true rfl⟩ rfl (Nat.le_of_ble_eq_true rfl) rfl (fun vo wo hv => ?_)
    obtain ⟨hv1, hw1⟩ := hv
    rw [hv1, hw1]
    show WW K G 0 0 (CW A D T G.2.1 I F Q P) 12 [(0, .ref (A 0)), (1, .int (J r)), (2, .int (J w))] [.int (J (bI (w = 0 ∨ w = 1)))]
    refine w_if_ne_b (pc := 12) (tgt := 17) hC dX11_board_12 (by decide) (fun c12 => ?_) (fun c12 => ?_)
    · refine w_iload_n (pc := 17) hC dX11_board_17 2 rfl rfl ?_
      refine w_if_ne (pc := 18) (tgt := 31) hC dX11_board_18 (by decide) (by omega) (fun c18 => ?_) (fun c18 => ?_)
      · refine w_aload_n (pc := 31) hC dX11_board_31 0 rfl rfl ?_
        refine w_getf (pc := 32) (v := .ref (A 1)) hC dX11_board_32 fi_X11_12 0 CW_0 rfl ?_
        refine w_aload_n (pc := 35) hC dX11_board_35 0 rfl rfl ?_
        refine w_getf (pc := 36) (v := .ref (A 56)) hC dX11_board_36 fi_X11_45 0 CW_0 rfl ?_
        refine w_callV (pc := 39) (As := [.ref (A 56)]) (rest := []) hC dX11_board_39 cv_X11_78 (c_X6_findTruth (kl K) G A D T I F Q P S (show RI S from by first | assumption | omega) (show LRn G.2.1 S I F Q P from by exact hL)) (by decide) ⟨Nat.le_of_ble_eq_true rfl, Nat.le_of_ble_eq_true rfl⟩ (q0 := 1) CW_1 rfl rfl rfl (Nat.le_of_ble_eq_true rfl) rfl (fun vo wo hv => ?_)
        obtain ⟨b56_39, hv1, hw1, r39⟩ := hv
        rw [hv1, hw1]
        show WW K G 0 0 (CW A D T G.2.1 (au I 56 b56_39) F Q P) 42 [(0, .ref (A 0)), (1, .int (J r)), (2, .int (J w))] []
        have r39 : ∀ zq : Int, 0 ≤ zq → zq < S 0 → b56_39 zq = dg (TB S) zq := r39
        refine w_aload_n (pc := 42) hC dX11_board_42 0 rfl rfl ?_
        refine w_getf (pc := 43) (v := .ref (A 56)) hC dX11_board_43 fi_X11_45 0 CW_0 rfl ?_
        refine w_iload_n (pc := 46) hC dX11_board_46 1 rfl rfl ?_
        refine w_ialdV (pc := 47) (g := b56_39) (v := b56_39 r) hC dX11_board_47 56 CW_56 (by omega) (Nat.le_of_ble_eq_true rfl) rfl ?_
        refine w_iret (pc := 48) hC hRT dX11_board_48 rfl ?_
        refine ⟨b56_39, retI (by unfold v_board; rw [if_pos (by omega), if_neg (by omega)]; exact r39 _ (by omega) (by omega)), rfl⟩
      · refine w_aload_n (pc := 21) hC dX11_board_21 0 rfl rfl ?_
        refine w_getf (pc := 22) (v := .ref (A 1)) hC dX11_board_22 fi_X11_12 0 CW_0 rfl ?_
        refine w_getfN (pc := 25) (v := .ref (A 2)) hC dX11_board_25 fn_X11_61 1 CW_1 rfl ?_
        refine w_iload_n (pc := 28) hC dX11_board_28 1 rfl rfl ?_
        refine w_ialdV (pc := 29) (g := (I 2)) (v := dg (S 6) r) hC dX11_board_29 2 CW_2 (by omega) (Nat.le_of_ble_eq_true rfl) (l_bd hL (by omega) (by omega)) ?_
        refine w_iret (pc := 30) hC hRT dX11_board_30 rfl ?_
        refine ⟨(I 56), retI (by unfold v_board; rw [if_pos (by omega), if_pos (by omega)]), CW_cong (au_ms (k := 56) (v := I 56) rfl rfl rfl) rfl rfl⟩
    · refine w_iconst (pc := 15) hC dX11_board_15 ?_
      refine w_iret (pc := 16) hC hRT dX11_board_16 rfl ?_
      refine ⟨(I 56), retI (by unfold v_board; rw [if_neg (by omega)]), CW_cong (au_ms (k := 56) (v := I 56) rfl rfl rfl) rfl rfl⟩
set_option maxRecDepth 100000 in
set_option maxHeartbeats 4000000 in
theorem c_X11_far (l : Launch) (G : GT) (A D : Nat → Nat) (T : Nat) (I : Nat → Int → Int) (F : Nat → Int) (Q : Nat → Nat → Option Nat) (P : va_W) (S : Int → Int)  (hR : RI S) (hL : LRn G.2.1 S I F Q P) : CT l yX11_far cX11_far 4 (some .int) 3 0 0 G [.ref (A 0)] (CW A D T G.2.1 I F Q P) (fun vo wo => ∃ (b56 : Int → Int), vo = some (.int (J (FAR S))) ∧ wo = CW A D T G.2.1 (au I 56 b56) F Q P) := by
  refine CT_of (own := RX11) rfl rfl (Nat.le_of_ble_eq_true rfl) (fun K hl hnL hC hRT hin => ?_)
  subst hl
  show WW K G 0 0 (CW A D T G.2.1 I F Q P) 0 [(0, .ref (A 0))] []
  have hn := hR.n
  have hbd := hR.bd
  refine w_aload_n (pc := 0) hC dX11_far_0 0 rfl rfl ?_
  refine w_getf (pc := 1) (v := .ref (A 1)) hC dX11_far_1 fi_X11_12 0 CW_0 rfl ?_
  refine w_aload_n (pc := 4) hC dX11_far_4 0 rfl rfl ?_
  refine w_getf (pc := 5) (v := .ref (A 56)) hC dX11_far_5 fi_X11_45 0 CW_0 rfl ?_
  refine w_callV (pc := 8) (As := [.ref (A 56)]) (rest := []) hC dX11_far_8 cv_X11_78 (c_X6_findTruth (kl K) G A D T I F Q P S (show RI S from by first | assumption | omega) (show LRn G.2.1 S I F Q P from by exact hL)) (by decide) ⟨Nat.le_of_ble_eq_true rfl, Nat.le_of_ble_eq_true rfl⟩ (q0 := 1) CW_1 rfl rfl rfl (Nat.le_of_ble_eq_true rfl) rfl (fun vo wo hv => ?_)
  obtain ⟨b56_8, hv1, hw1, r8⟩ := hv
  rw [hv1, hw1]
  show WW K G 0 0 (CW A D T G.2.1 (au I 56 b56_8) F Q P) 11 [(0, .ref (A 0))] []
  have r8 : ∀ zq : Int, 0 ≤ zq → zq < S 0 → b56_8 zq = dg (TB S) zq := r8
  have hT := VB_TB S hn.1 hn.2
  have hTd : ∀ z : Int, 0 ≤ z → z < S 0 → 0 ≤ dg (TB S) z ∧ dg (TB S) z < S 0 := fun z z0 z1 => VB_dg hT z0 z1
  refine w_iconst (pc := 11) hC dX11_far_11 ?_
  refine w_istore_n (pc := 12) hC dX11_far_12 rfl (lv2 := [(1, .int (J 0)), (0, .ref (A 0))]) (by rw [hnL]; decide) rfl ?_
  refine w_iconst (pc := 13) hC dX11_far_13 ?_
  refine w_istore_n (pc := 14) hC dX11_far_14 rfl (lv2 := [(2, .int (J 0)), (1, .int (J 0)), (0, .ref (A 0))]) (by rw [hnL]; decide) rfl ?_
  have loop15 : ∀ (nF : Nat) (x : Int) (x2 : Int), (0 ≤ x2) → (x2 ≤ S 0) → (x = rs (fun h => rs (fun l => bI (rk (S 0) (S 6) (dg (TB S) l) < rk (S 0) (S 6) (dg (TB S) h))) (h + 1) (S 0)) 0 x2) → (S 0 - x2) < (nF : Int) → WW K G 0 0 (CW A D T G.2.1 (au I 56 b56_8) F Q P) 15 [(0, .ref (A 0)), (1, .int (J x)), (2, .int (J x2))] [] := by
    intro nF
    induction nF with
    | zero => intro x x2 i1 i2 i3 hm15; exact absurd hm15 (by omega)
    | succ nF ih15 =>
      intro x x2 i1 i2 i3 hm15
      refine w_iload_n (pc := 15) hC dX11_far_15 2 rfl rfl ?_
      refine w_aload_n (pc := 16) hC dX11_far_16 0 rfl rfl ?_
      refine w_getf (pc := 17) (v := .ref (A 1)) hC dX11_far_17 fi_X11_12 0 CW_0 rfl ?_
      refine w_getfN (pc := 20) (v := .int (J (S 0))) hC dX11_far_20 fn_X11_57 1 CW_1 (congrArg (fun z : Int => some (Value.int (J z))) (l_n hL)) ?_
      refine w_icmp_ge (pc := 23) (tgt := 85) hC dX11_far_23 (by decide) (by omega) (fun c23 => ?_) (fun c23 => ?_)
      · refine w_iload_n (pc := 85) hC dX11_far_85 1 rfl rfl ?_
        refine w_iret (pc := 86) hC hRT dX11_far_86 rfl ?_
        refine ⟨b56_8, retI (by rw [i3, show x2 = S 0 by omega]; exact FAR_rs hR), rfl⟩
      · refine w_iload_n (pc := 26) hC dX11_far_26 2 rfl rfl ?_
        refine w_iconst (pc := 27) hC dX11_far_27 ?_
        refine w_iadd (pc := 28) hC dX11_far_28 ?_
        refine w_istore_n (pc := 29) hC dX11_far_29 rfl (lv2 := [(3, .int (J (x2 + 1))), (0, .ref (A 0)), (1, .int (J x)), (2, .int (J x2))]) (by rw [hnL]; decide) rfl ?_
        have loop30 : ∀ (nF : Nat) (y : Int) (x3 : Int), (x2 + 1 ≤ x3) → (x3 ≤ S 0) → (y = x + rs (fun l => bI (rk (S 0) (S 6) (dg (TB S) l) < rk (S 0) (S 6) (dg (TB S) x2))) (x2 + 1) x3) → (S 0 - x3) < (nF : Int) → WW K G 0 0 (CW A D T G.2.1 (au I 56 b56_8) F Q P) 30 [(0, .ref (A 0)), (1, .int (J y)), (2, .int (J x2)), (3, .int (J x3))] [] := by
          intro nF
          induction nF with
          | zero => intro y x3 j1 j2 j3 hm30; exact absurd hm30 (by omega)
          | succ nF ih30 =>
            intro y x3 j1 j2 j3 hm30
            refine w_iload_n (pc := 30) hC dX11_far_30 3 rfl rfl ?_
            refine w_aload_n (pc := 31) hC dX11_far_31 0 rfl rfl ?_
            refine w_getf (pc := 32) (v := .ref (A 1)) hC dX11_far_32 fi_X11_12 0 CW_0 rfl ?_
            refine w_getfN (pc := 35) (v := .int (J (S 0))) hC dX11_far_35 fn_X11_57 1 CW_1 (congrArg (fun z : Int => some (Value.int (J z))) (l_n hL)) ?_
            refine w_icmp_ge (pc := 38) (tgt := 79) hC dX11_far_38 (by decide) (by omega) (fun c38 => ?_) (fun c38 => ?_)
            · refine w_iinc (pc := 79) hC dX11_far_79 (lv2 := [(2, .int (J (x2 + 1))), (0, .ref (A 0)), (1, .int (J y)), (3, .int (J x3))]) 2 rfl (by rw [hnL]; decide) rfl ?_
              refine w_goto (pc := 82) hC dX11_far_82 (tgt := 15) (by decide) ?_
              refine w_sub [1, 2, 0] (lv2 := [(0, .ref (A 0)), (1, .int (J y)), (2, .int (J (x2 + 1)))]) rfl ?_
              refine ih15 y (x2 + 1) ?_ ?_ ?_ ?_
              · first | assumption | omega
              · first | assumption | omega
              · rw [rs_s _ i1, j3, show x3 = S 0 by omega, i3]
              · omega
            · have g1 := hTd x2 (by omega) (by omega)
              have g2 := hTd x3 (by omega) (by omega)
              refine w_aload_n (pc := 41) hC dX11_far_41 0 rfl rfl ?_
              refine w_getf (pc := 42) (v := .ref (A 1)) hC dX11_far_42 fi_X11_12 0 CW_0 rfl ?_
              refine w_aload_n (pc := 45) hC dX11_far_45 0 rfl rfl ?_
              refine w_getf (pc := 46) (v := .ref (A 56)) hC dX11_far_46 fi_X11_45 0 CW_0 rfl ?_
              refine w_iload_n (pc := 49) hC dX11_far_49 2 rfl rfl ?_
              refine w_ialdV (pc := 50) (g := b56_8) (v := dg (TB S) x2) hC dX11_far_50 56 CW_56 (by omega) (Nat.le_of_ble_eq_true rfl) (r8 _ (by omega) (by omega)) ?_
              refine w_callV (pc := 51) (As := [.int (J (dg (TB S) x2))]) (rest := []) hC dX11_far_51 cv_X11_82 (c_X6_rungOf (kl K) G A D T (au I 56 b56_8) F Q P S (dg (TB S) x2) (show RI S from by first | assumption | omega) (show LRn G.2.1 S (au I 56 b56_8) F Q P from by exact (LRb_au (by decide) hL)) (show 0 ≤ (dg (TB S) x2) ∧ (dg (TB S) x2) < S 0 from by first | assumption | omega)) (by decide) ⟨Nat.le_of_ble_eq_true rfl, Nat.le_of_ble_eq_true rfl⟩ (q0 := 1) CW_1 rfl rfl rfl (Nat.le_of_ble_eq_true rfl) rfl (fun vo wo hv => ?_)
              obtain ⟨hv1, hw1⟩ := hv
              rw [hv1, hw1]
              show WW K G 0 0 (CW A D T G.2.1 (au I 56 b56_8) F Q P) 54 [(0, .ref (A 0)), (1, .int (J y)), (2, .int (J x2)), (3, .int (J x3))] [.int (J (rk (S 0) (S 6) (dg (TB S) x2)))]
              have q51_0 := (@rk_spec (S 0) (S 6) (dg (TB S) x2) (by first | exact hR.bd | exact (by assumption : RI S).bd) (by omega) (by omega)).1
              refine w_aload_n (pc := 54) hC dX11_far_54 0 rfl rfl ?_
              refine w_getf (pc := 55) (v := .ref (A 1)) hC dX11_far_55 fi_X11_12 0 CW_0 rfl ?_
              refine w_aload_n (pc := 58) hC dX11_far_58 0 rfl rfl ?_
              refine w_getf (pc := 59) (v := .ref (A 56)) hC dX11_far_59 fi_X11_45 0 CW_0 rfl ?_
              refine w_iload_n (pc := 62) hC dX11_far_62 3 rfl rfl ?_
              refine w_ialdV (pc := 63) (g := b56_8) (v := dg (TB S) x3) hC dX11_far_63 56 CW_56 (by omega) (Nat.le_of_ble_eq_true rfl) (r8 _ (by omega) (by omega)) ?_
              refine w_callV (pc := 64) (As := [.int (J (dg (TB S) x3))]) (rest := [.int (J (rk (S 0) (S 6) (dg (TB S) x2)))]) hC dX11_far_64 cv_X11_82 (c_X6_rungOf (kl K) G A D T (au I 56 b56_8) F Q P S (dg (TB S) x3) (show RI S from by first | assumption | omega) (show LRn G.2.1 S (au I 56 b56_8) F Q P from by exact (LRb_au (by decide) hL)) (show 0 ≤ (dg (TB S) x3) ∧ (dg (TB S) x3) < S 0 from by first | assumption | omega)) (by decide) ⟨Nat.le_of_ble_eq_true rfl, Nat.le_of_ble_eq_true rfl⟩ (q0 := 1) CW_1 rfl rfl rfl (Nat.le_of_ble_eq_true rfl) rfl (fun vo wo hv => ?_)
              obtain ⟨hv1, hw1⟩ := hv
              rw [hv1, hw1]
              show WW K G 0 0 (CW A D T G.2.1 (au I 56 b56_8) F Q P) 67 [(0, .ref (A 0)), (1, .int (J y)), (2, .int (J x2)), (3, .int (J x3))] [.int (J (rk (S 0) (S 6) (dg (TB S) x3))), .int (J (rk (S 0) (S 6) (dg (TB S) x2)))]
              have q64_0 := (@rk_spec (S 0) (S 6) (dg (TB S) x3) (by first | exact hR.bd | exact (by assumption : RI S).bd) (by omega) (by omega)).1
              refine w_icmp_le (pc := 67) (tgt := 73) hC dX11_far_67 (by decide) (by omega) (fun c67 => ?_) (fun c67 => ?_)
              · refine w_iinc (pc := 73) hC dX11_far_73 (lv2 := [(3, .int (J (x3 + 1))), (0, .ref (A 0)), (1, .int (J y)), (2, .int (J x2))]) 3 rfl (by rw [hnL]; decide) rfl ?_
                refine w_goto (pc := 76) hC dX11_far_76 (tgt := 30) (by decide) ?_
                refine w_sub [1, 2, 3, 0] (lv2 := [(0, .ref (A 0)), (1, .int (J y)), (2, .int (J x2)), (3, .int (J (x3 + 1)))]) rfl ?_
                refine ih30 y (x3 + 1) ?_ ?_ ?_ ?_
                · first | assumption | omega
                · first | assumption | omega
                · rw [rs_s _ j1, j3]; first | (rw [bI_t c67]; omega) | (rw [bI_f (by omega)]; omega)
                · omega
              · refine w_iinc (pc := 70) hC dX11_far_70 (lv2 := [(1, .int (J (y + 1))), (0, .ref (A 0)), (2, .int (J x2)), (3, .int (J x3))]) 1 rfl (by rw [hnL]; decide) rfl ?_
                refine w_iinc (pc := 73) hC dX11_far_73 (lv2 := [(3, .int (J (x3 + 1))), (1, .int (J (y + 1))), (0, .ref (A 0)), (2, .int (J x2))]) 3 rfl (by rw [hnL]; decide) rfl ?_
                refine w_goto (pc := 76) hC dX11_far_76 (tgt := 30) (by decide) ?_
                refine w_sub [2, 1, 3, 0] (lv2 := [(0, .ref (A 0)), (1, .int (J (y + 1))), (2, .int (J x2)), (3, .int (J (x3 + 1)))]) rfl ?_
                refine ih30 (y + 1) (x3 + 1) ?_ ?_ ?_ ?_
                · first | assumption | omega
                · first | assumption | omega
                · rw [rs_s _ j1, j3]; first | (rw [bI_t c67]; omega) | (rw [bI_f (by omega)]; omega)
                · omega
        refine w_sub [1, 2, 3, 0] (lv2 := [(0, .ref (A 0)), (1, .int (J x)), (2, .int (J x2)), (3, .int (J (x2 + 1)))]) rfl ?_
        refine loop30 ((S 0 - (x2 + 1)) + 1 : Int).toNat x (x2 + 1) ?_ ?_ ?_ ?_
        · first | assumption | omega
        · first | assumption | omega
        · rw [rs_0]; omega
        · omega
  refine w_sub [2, 1, 0] (lv2 := [(0, .ref (A 0)), (1, .int (J 0)), (2, .int (J 0))]) rfl ?_
  refine loop15 ((S 0 - 0) + 1 : Int).toNat 0 0 ?_ ?_ ?_ ?_
  · first | assumption | omega
  · first | assumption | omega
  · exact (rs_0 _ 0).symm
  · omega
set_option maxRecDepth 100000 in
set_option maxHeartbeats 4000000 in
theorem c_X11_whomToday (l : Launch) (G : GT) (A D : Nat → Nat) (T : Nat) (I : Nat → Int → Int) (F : Nat → Int) (Q : Nat → Nat → Option Nat) (P : va_W) (S : Int → Int) (c : Int) (qb : Nat) (nm : Int) (day : Int) (hR : RI S) (hL : LRn G.2.1 S I F Q P) (hc : 0 ≤ c ∧ c < S 1) (hcl : CLB P G.2.1 S c qb) (hnm : 0 ≤ nm ∧ nm < S 0) (hd : 0 ≤ day ∧ day ≤ 5000) : CT l yX11_whomToday cX11_whomToday 4 (some .int) 4 0 0 G [.ref (A 0), .ref qb, .int (J nm), .int (J day)] (CW A D T G.2.1 I F Q P) (fun vo wo => ∃ (b23 : Int → Int), vo = some (.int (J (ASK S c (-1) (S 6) nm day))) ∧ wo = CW A D T G.2.1 (au I 23 b23) F Q P) := by
  refine CT_of (own := RX11) rfl rfl (Nat.le_of_ble_eq_true rfl) (fun K hl hnL hC hRT hin => ?_)
  subst hl
  show WW K G 0 0 (CW A D T G.2.1 I F Q P) 0 [(0, .ref (A 0)), (1, .ref qb), (2, .int (J nm)), (3, .int (J day))] []
  have hn := hR.n
  have hbd := hR.bd
  have hk := rk_spec hR.bd hnm.1 hnm.2
  refine w_aload_n (pc := 0) hC dX11_whomToday_0 0 rfl rfl ?_
  refine w_getf (pc := 1) (v := .ref (A 1)) hC dX11_whomToday_1 fi_X11_12 0 CW_0 rfl ?_
  refine w_aload_n (pc := 4) hC dX11_whomToday_4 1 rfl rfl ?_
  refine w_aload_n (pc := 5) hC dX11_whomToday_5 0 rfl rfl ?_
  refine w_getf (pc := 6) (v := .ref (A 1)) hC dX11_whomToday_6 fi_X11_12 0 CW_0 rfl ?_
  refine w_getfN (pc := 9) (v := .ref (A 2)) hC dX11_whomToday_9 fn_X11_61 1 CW_1 rfl ?_
  refine w_aload_n (pc := 12) hC dX11_whomToday_12 0 rfl rfl ?_
  refine w_getf (pc := 13) (v := .ref (A 1)) hC dX11_whomToday_13 fi_X11_12 0 CW_0 rfl ?_
  refine w_iload_n (pc := 16) hC dX11_whomToday_16 2 rfl rfl ?_
  refine w_callV (pc := 17) (As := [.int (J nm)]) (rest := [.ref (A 2), .ref qb, .ref (A 1)]) hC dX11_whomToday_17 cv_X11_82 (c_X6_rungOf (kl K) G A D T I F Q P S nm (show RI S from by first | assumption | omega) (show LRn G.2.1 S I F Q P from by exact hL) (show 0 ≤ nm ∧ nm < S 0 from by first | assumption | omega)) (by decide) ⟨Nat.le_of_ble_eq_true rfl, Nat.le_of_ble_eq_true rfl⟩ (q0 := 1) CW_1 rfl rfl rfl (Nat.le_of_ble_eq_true rfl) rfl (fun vo wo hv => ?_)
  obtain ⟨hv1, hw1⟩ := hv
  rw [hv1, hw1]
  show WW K G 0 0 (CW A D T G.2.1 I F Q P) 20 [(0, .ref (A 0)), (1, .ref qb), (2, .int (J nm)), (3, .int (J day))] [.int (J (rk (S 0) (S 6) nm)), .ref (A 2), .ref qb, .ref (A 1)]
  have q17_0 := (@rk_spec (S 0) (S 6) nm (by first | exact hR.bd | exact (by assumption : RI S).bd) (by omega) (by omega)).1
  refine w_iload_n (pc := 20) hC dX11_whomToday_20 3 rfl rfl ?_
  refine w_iconst (pc := 21) hC dX11_whomToday_21 ?_
  refine w_callV (pc := 22) (As := [.ref qb, .ref (A 2), .int (J (rk (S 0) (S 6) nm)), .int (J day), .int (J 0)]) (rest := []) hC dX11_whomToday_22 cv_X11_284 (c_X6_whom_v2 (kl K) G A D T I F Q P S c (S 6) (-1) qb (rk (S 0) (S 6) nm) day 0 (show RI S from by first | assumption | omega) (show LRn G.2.1 S I F Q P from by exact hL) (show 0 ≤ c ∧ c < S 1 from by first | assumption | omega) (show CLB P G.2.1 S c qb from by first | assumption | omega) (show VB (S 0) (S 6) from by exact hR.bd) (show ∀ r : Int, 0 ≤ r → r < S 0 → (I 2) r = dg (S 6) r from by exact fun r r0 r1 => l_bd hL r0 r1) (show 0 ≤ (rk (S 0) (S 6) nm) ∧ (rk (S 0) (S 6) nm) < S 0 from by first | assumption | omega) (show 0 ≤ day ∧ day ≤ 5000 from by first | assumption | omega) (show (-1) = -1 ∨ (0 ≤ (-1) ∧ (-1) < 6) from by exact Or.inl rfl) (show 0 = if (-1) = -1 then 0 else 2 ^ ((-1) : Int).toNat from by rfl)) (by decide) ⟨Nat.le_of_ble_eq_true rfl, Nat.le_of_ble_eq_true rfl⟩ (q0 := 1) CW_1 rfl rfl rfl (Nat.le_of_ble_eq_true rfl) rfl (fun vo wo hv => ?_)
  obtain ⟨b23_22, hv1, hw1⟩ := hv
  rw [hv1, hw1]
  show WW K G 0 0 (CW A D T G.2.1 (au I 23 b23_22) F Q P) 25 [(0, .ref (A 0)), (1, .ref qb), (2, .int (J nm)), (3, .int (J day))] [.int (J (ASK S c (-1) (S 6) (dg (S 6) (rk (S 0) (S 6) nm)) day))]
  have q22_0 := @ASK_in S c (-1) (S 6) (dg (S 6) (rk (S 0) (S 6) nm)) day (by assumption) (by first | exact VB_dg (by assumption) (by omega) (by omega) | omega)
  refine w_iret (pc := 25) hC hRT dX11_whomToday_25 rfl ?_
  refine ⟨b23_22, retI (by rw [hk.2]), rfl⟩
set_option maxRecDepth 100000 in
set_option maxHeartbeats 4000000 in
theorem c_X11_may (l : Launch) (G : GT) (A D : Nat → Nat) (T : Nat) (I : Nat → Int → Int) (F : Nat → Int) (Q : Nat → Nat → Option Nat) (P : va_W) (S : Int → Int) (a : Int) (nm : Int) (day : Int) (hR : RI S) (hL : LRn G.2.1 S I F Q P) (h0 : -2147483648 ≤ a ∧ a < 2147483648) (h1 : -2147483648 ≤ nm ∧ nm < 2147483648) (h2 : -2147483648 ≤ day ∧ day < 2147483648) : CT l yX11_may cX11_may 5 (some .int) 3 0 0 G [.ref (A 0), .int (J a), .int (J nm), .int (J day)] (CW A D T G.2.1 I F Q P) (fun vo wo => ∃ (b23 : Int → Int), vo = some (.int (J (v_may S a nm day))) ∧ wo = CW A D T G.2.1 (au I 23 b23) F Q P) := by
  refine CT_of (own := RX11) rfl rfl (Nat.le_of_ble_eq_true rfl) (fun K hl hnL hC hRT hin => ?_)
  subst hl
  show WW K G 0 0 (CW A D T G.2.1 I F Q P) 0 [(0, .ref (A 0)), (1, .int (J a)), (2, .int (J nm)), (3, .int (J day))] []
  have hn := hR.n
  have hbd := hR.bd
  refine w_aload_n (pc := 0) hC dX11_may_0 0 rfl rfl ?_
  refine w_iload_n (pc := 1) hC dX11_may_1 1 rfl rfl ?_
  refine w_callV (pc := 2) (As := [.int (J a)]) (rest := []) hC dX11_may_2 cv_X11_112 (c_X11_clubAt (kl K) G A D T I F Q P S a (show RI S from by assumption) (show LRn G.2.1 S I F Q P from by exact hL) (show -2147483648 ≤ a ∧ a < 2147483648 from by omega)) (by decide) ⟨Nat.le_of_ble_eq_true rfl, Nat.le_of_ble_eq_true rfl⟩ (q0 := 0) CW_0 rfl rfl rfl (Nat.le_of_ble_eq_true rfl) rfl (fun vo wo hv => ?_)
  obtain ⟨hv1, hw1⟩ := hv
  by_cases hc : 0 ≤ a ∧ a < S 1
  · obtain ⟨qb, hQc, hcl⟩ := l_clb hL hc.1 hc.2
    rw [if_pos hc, hQc] at hv1
    rw [hv1, hw1]
    show WW K G 0 0 (CW A D T G.2.1 I F Q P) 5 [(0, .ref (A 0)), (1, .int (J a)), (2, .int (J nm)), (3, .int (J day))] [.ref qb]
    refine w_astore (pc := 5) hC dX11_may_5 (lv2 := [(4, .ref qb), (0, .ref (A 0)), (1, .int (J a)), (2, .int (J nm)), (3, .int (J day))]) (by rw [hnL]; decide) rfl ?_
    refine w_aload (pc := 7) hC dX11_may_7 0 rfl ?_
    refine w_ifnullR (pc := 9) hC dX11_may_9 ?_
    refine w_aload_n (pc := 12) hC dX11_may_12 1 rfl rfl ?_
    refine w_iload_n (pc := 13) hC dX11_may_13 3 rfl rfl ?_
    refine w_callV (pc := 14) (As := [.int (J nm)]) (rest := []) hC dX11_may_14 cv_X11_64 (c_X11_isName (kl K) G A D T I F Q P S nm (show RI S from by first | assumption | omega) (show LRn G.2.1 S I F Q P from by exact hL) (show -2147483648 ≤ nm ∧ nm < 2147483648 from by first | assumption | omega)) (by decide) ⟨Nat.le_of_ble_eq_true rfl, Nat.le_of_ble_eq_true rfl⟩ (q0 := 0) CW_0 rfl rfl rfl (Nat.le_of_ble_eq_true rfl) rfl (fun vo wo hv => ?_)
    obtain ⟨hv1, hw1⟩ := hv
    rw [hv1, hw1]
    show WW K G 0 0 (CW A D T G.2.1 I F Q P) 17 [(4, .ref qb), (0, .ref (A 0)), (1, .int (J a)), (2, .int (J nm)), (3, .int (J day))] [.int (J (bI (0 ≤ nm ∧ nm < S 0)))]
    refine w_if_ne_b (pc := 17) (tgt := 22) hC dX11_may_17 (by decide) (fun c17 => ?_) (fun c17 => ?_)
    · refine w_iload_n (pc := 22) hC dX11_may_22 4 rfl rfl ?_
      refine w_callS (pc := 23) (As := [.int (J day)]) (rest := []) hC dX11_may_23 cs_X11_116 (c_X11_isDay (kl K) G (CW A D T G.2.1 I F Q P) day (show -2147483648 ≤ day ∧ day < 2147483648 from by first | assumption | omega)) (by decide) ⟨Nat.le_of_ble_eq_true rfl, Nat.le_of_ble_eq_true rfl⟩ rfl (Nat.le_of_ble_eq_true rfl) rfl (fun vo wo hv => ?_)
      obtain ⟨hv1, hw1⟩ := hv
      rw [hv1, hw1]
      show WW K G 0 0 (CW A D T G.2.1 I F Q P) 26 [(4, .ref qb), (0, .ref (A 0)), (1, .int (J a)), (2, .int (J nm)), (3, .int (J day))] [.int (J (bI (0 ≤ day ∧ day ≤ 999)))]
      refine w_if_eq_b (pc := 26) (tgt := 57) hC dX11_may_26 (by decide) (fun c26 => ?_) (fun c26 => ?_)
      · refine w_bipush (pc := 57) hC dX11_may_57 (z := (-2)) rfl ?_
        refine w_iret (pc := 59) hC hRT dX11_may_59 rfl ?_
        refine ⟨(I 23), retI (by unfold v_may; first | rw [if_pos (by omega)] | rw [if_neg (by omega), if_neg (by omega)] | rw [if_neg (by omega), if_pos (by omega), hk.2]), CW_cong (au_ms (k := 23) (v := I 23) rfl rfl rfl) rfl rfl⟩
      · have hk := rk_spec hR.bd (show 0 ≤ nm by omega) (show nm < S 0 by omega)
        refine w_aload_n (pc := 29) hC dX11_may_29 1 rfl rfl ?_
        refine w_getf (pc := 30) (v := .ref (A 1)) hC dX11_may_30 fi_X11_12 0 CW_0 rfl ?_
        refine w_aload (pc := 33) hC dX11_may_33 0 rfl ?_
        refine w_aload_n (pc := 35) hC dX11_may_35 1 rfl rfl ?_
        refine w_getf (pc := 36) (v := .ref (A 1)) hC dX11_may_36 fi_X11_12 0 CW_0 rfl ?_
        refine w_getfN (pc := 39) (v := .ref (A 2)) hC dX11_may_39 fn_X11_61 1 CW_1 rfl ?_
        refine w_aload_n (pc := 42) hC dX11_may_42 1 rfl rfl ?_
        refine w_getf (pc := 43) (v := .ref (A 1)) hC dX11_may_43 fi_X11_12 0 CW_0 rfl ?_
        refine w_iload_n (pc := 46) hC dX11_may_46 3 rfl rfl ?_
        refine w_callV (pc := 47) (As := [.int (J nm)]) (rest := [.ref (A 2), .ref qb, .ref (A 1)]) hC dX11_may_47 cv_X11_82 (c_X6_rungOf (kl K) G A D T I F Q P S nm (show RI S from by first | assumption | omega) (show LRn G.2.1 S I F Q P from by exact hL) (show 0 ≤ nm ∧ nm < S 0 from by first | assumption | omega)) (by decide) ⟨Nat.le_of_ble_eq_true rfl, Nat.le_of_ble_eq_true rfl⟩ (q0 := 1) CW_1 rfl rfl rfl (Nat.le_of_ble_eq_true rfl) rfl (fun vo wo hv => ?_)
        obtain ⟨hv1, hw1⟩ := hv
        rw [hv1, hw1]
        show WW K G 0 0 (CW A D T G.2.1 I F Q P) 50 [(4, .ref qb), (0, .ref (A 0)), (1, .int (J a)), (2, .int (J nm)), (3, .int (J day))] [.int (J (rk (S 0) (S 6) nm)), .ref (A 2), .ref qb, .ref (A 1)]
        have q47_0 := (@rk_spec (S 0) (S 6) nm (by first | exact hR.bd | exact (by assumption : RI S).bd) (by omega) (by omega)).1
        refine w_iload_n (pc := 50) hC dX11_may_50 4 rfl rfl ?_
        refine w_callV (pc := 51) (As := [.ref qb, .ref (A 2), .int (J (rk (S 0) (S 6) nm)), .int (J day)]) (rest := []) hC dX11_may_51 cv_X11_119 (c_X6_mayBits_v2 (kl K) G A D T I F Q P S a (S 6) qb (rk (S 0) (S 6) nm) day (show RI S from by first | assumption | omega) (show LRn G.2.1 S I F Q P from by exact hL) (show 0 ≤ a ∧ a < S 1 from by first | assumption | omega) (show CLB P G.2.1 S a qb from by first | assumption | omega) (show VB (S 0) (S 6) from by exact hR.bd) (show ∀ r : Int, 0 ≤ r → r < S 0 → (I 2) r = dg (S 6) r from by exact fun r r0 r1 => l_bd hL r0 r1) (show 0 ≤ (rk (S 0) (S 6) nm) ∧ (rk (S 0) (S 6) nm) < S 0 from by first | assumption | omega) (show 0 ≤ day ∧ day ≤ 5000 from by first | assumption | omega)) (by decide) ⟨Nat.le_of_ble_eq_true rfl, Nat.le_of_ble_eq_true rfl⟩ (q0 := 1) CW_1 rfl rfl rfl (Nat.le_of_ble_eq_true rfl) rfl (fun vo wo hv => ?_)
        obtain ⟨b23_51, hv1, hw1⟩ := hv
        rw [hv1, hw1]
        show WW K G 0 0 (CW A D T G.2.1 (au I 23 b23_51) F Q P) 54 [(4, .ref qb), (0, .ref (A 0)), (1, .int (J a)), (2, .int (J nm)), (3, .int (J day))] [.int (J (MSK S a (-1) (S 6) (dg (S 6) (rk (S 0) (S 6) nm)) day))]
        have q51_0 := @MSK_bd S a (-1) (S 6) (dg (S 6) (rk (S 0) (S 6) nm)) day (by assumption) (by first | exact VB_dg (by assumption) (by omega) (by omega) | omega)
        refine w_goto (pc := 54) hC dX11_may_54 (tgt := 59) (by decide) ?_
        refine w_iret (pc := 59) hC hRT dX11_may_59 rfl ?_
        refine ⟨b23_51, retI (by unfold v_may; first | rw [if_pos (by omega)] | rw [if_neg (by omega), if_neg (by omega)] | rw [if_neg (by omega), if_pos (by omega), hk.2]), rfl⟩
    · refine w_iconst (pc := 20) hC dX11_may_20 ?_
      refine w_iret (pc := 21) hC hRT dX11_may_21 rfl ?_
      refine ⟨(I 23), retI (by unfold v_may; first | rw [if_pos (by omega)] | rw [if_neg (by omega), if_neg (by omega)] | rw [if_neg (by omega), if_pos (by omega), hk.2]), CW_cong (au_ms (k := 23) (v := I 23) rfl rfl rfl) rfl rfl⟩
  · rw [if_neg hc] at hv1
    rw [hv1, hw1]
    show WW K G 0 0 (CW A D T G.2.1 I F Q P) 5 [(0, .ref (A 0)), (1, .int (J a)), (2, .int (J nm)), (3, .int (J day))] [.null]
    refine w_astoreN (pc := 5) hC dX11_may_5 (lv2 := [(4, .null), (0, .ref (A 0)), (1, .int (J a)), (2, .int (J nm)), (3, .int (J day))]) (by rw [hnL]; decide) rfl ?_
    refine w_aloadN (pc := 7) hC dX11_may_7 0 rfl ?_
    refine w_ifnullN (pc := 9) (tgt := 20) hC dX11_may_9 (by decide) ?_
    refine w_iconst (pc := 20) hC dX11_may_20 ?_
    refine w_iret (pc := 21) hC hRT dX11_may_21 rfl ?_
    refine ⟨(I 23), retI (by unfold v_may; first | rw [if_pos (by omega)] | rw [if_neg (by omega), if_neg (by omega)] | rw [if_neg (by omega), if_pos (by omega), hk.2]), CW_cong (au_ms (k := 23) (v := I 23) rfl rfl rfl) rfl rfl⟩
set_option maxRecDepth 100000 in
set_option maxHeartbeats 4000000 in
theorem c_X11_asks (l : Launch) (G : GT) (A D : Nat → Nat) (T : Nat) (I : Nat → Int → Int) (F : Nat → Int) (Q : Nat → Nat → Option Nat) (P : va_W) (S : Int → Int) (a : Int) (nm : Int) (day : Int) (hR : RI S) (hL : LRn G.2.1 S I F Q P) (h0 : -2147483648 ≤ a ∧ a < 2147483648) (h1 : -2147483648 ≤ nm ∧ nm < 2147483648) (h2 : -2147483648 ≤ day ∧ day < 2147483648) : CT l yX11_asks cX11_asks 5 (some .int) 5 0 0 G [.ref (A 0), .int (J a), .int (J nm), .int (J day)] (CW A D T G.2.1 I F Q P) (fun vo wo => ∃ (b23 : Int → Int), vo = some (.int (J (v_asks S a nm day))) ∧ wo = CW A D T G.2.1 (au I 23 b23) F Q P) := by
  refine CT_of (own := RX11) rfl rfl (Nat.le_of_ble_eq_true rfl) (fun K hl hnL hC hRT hin => ?_)
  subst hl
  show WW K G 0 0 (CW A D T G.2.1 I F Q P) 0 [(0, .ref (A 0)), (1, .int (J a)), (2, .int (J nm)), (3, .int (J day))] []
  have hn := hR.n
  have hbd := hR.bd
  refine w_aload_n (pc := 0) hC dX11_asks_0 0 rfl rfl ?_
  refine w_iload_n (pc := 1) hC dX11_asks_1 1 rfl rfl ?_
  refine w_callV (pc := 2) (As := [.int (J a)]) (rest := []) hC dX11_asks_2 cv_X11_112 (c_X11_clubAt (kl K) G A D T I F Q P S a (show RI S from by assumption) (show LRn G.2.1 S I F Q P from by exact hL) (show -2147483648 ≤ a ∧ a < 2147483648 from by omega)) (by decide) ⟨Nat.le_of_ble_eq_true rfl, Nat.le_of_ble_eq_true rfl⟩ (q0 := 0) CW_0 rfl rfl rfl (Nat.le_of_ble_eq_true rfl) rfl (fun vo wo hv => ?_)
  obtain ⟨hv1, hw1⟩ := hv
  by_cases hc : 0 ≤ a ∧ a < S 1
  · obtain ⟨qb, hQc, hcl⟩ := l_clb hL hc.1 hc.2
    rw [if_pos hc, hQc] at hv1
    rw [hv1, hw1]
    show WW K G 0 0 (CW A D T G.2.1 I F Q P) 5 [(0, .ref (A 0)), (1, .int (J a)), (2, .int (J nm)), (3, .int (J day))] [.ref qb]
    refine w_astore (pc := 5) hC dX11_asks_5 (lv2 := [(4, .ref qb), (0, .ref (A 0)), (1, .int (J a)), (2, .int (J nm)), (3, .int (J day))]) (by rw [hnL]; decide) rfl ?_
    refine w_aload (pc := 7) hC dX11_asks_7 0 rfl ?_
    refine w_ifnullR (pc := 9) hC dX11_asks_9 ?_
    refine w_aload_n (pc := 12) hC dX11_asks_12 1 rfl rfl ?_
    refine w_iload_n (pc := 13) hC dX11_asks_13 3 rfl rfl ?_
    refine w_callV (pc := 14) (As := [.int (J nm)]) (rest := []) hC dX11_asks_14 cv_X11_64 (c_X11_isName (kl K) G A D T I F Q P S nm (show RI S from by first | assumption | omega) (show LRn G.2.1 S I F Q P from by exact hL) (show -2147483648 ≤ nm ∧ nm < 2147483648 from by first | assumption | omega)) (by decide) ⟨Nat.le_of_ble_eq_true rfl, Nat.le_of_ble_eq_true rfl⟩ (q0 := 0) CW_0 rfl rfl rfl (Nat.le_of_ble_eq_true rfl) rfl (fun vo wo hv => ?_)
    obtain ⟨hv1, hw1⟩ := hv
    rw [hv1, hw1]
    show WW K G 0 0 (CW A D T G.2.1 I F Q P) 17 [(4, .ref qb), (0, .ref (A 0)), (1, .int (J a)), (2, .int (J nm)), (3, .int (J day))] [.int (J (bI (0 ≤ nm ∧ nm < S 0)))]
    refine w_if_ne_b (pc := 17) (tgt := 22) hC dX11_asks_17 (by decide) (fun c17 => ?_) (fun c17 => ?_)
    · refine w_iload_n (pc := 22) hC dX11_asks_22 4 rfl rfl ?_
      refine w_callS (pc := 23) (As := [.int (J day)]) (rest := []) hC dX11_asks_23 cs_X11_116 (c_X11_isDay (kl K) G (CW A D T G.2.1 I F Q P) day (show -2147483648 ≤ day ∧ day < 2147483648 from by first | assumption | omega)) (by decide) ⟨Nat.le_of_ble_eq_true rfl, Nat.le_of_ble_eq_true rfl⟩ rfl (Nat.le_of_ble_eq_true rfl) rfl (fun vo wo hv => ?_)
      obtain ⟨hv1, hw1⟩ := hv
      rw [hv1, hw1]
      show WW K G 0 0 (CW A D T G.2.1 I F Q P) 26 [(4, .ref qb), (0, .ref (A 0)), (1, .int (J a)), (2, .int (J nm)), (3, .int (J day))] [.int (J (bI (0 ≤ day ∧ day ≤ 999)))]
      refine w_if_eq_b (pc := 26) (tgt := 40) hC dX11_asks_26 (by decide) (fun c26 => ?_) (fun c26 => ?_)
      · refine w_bipush (pc := 40) hC dX11_asks_40 (z := (-2)) rfl ?_
        refine w_iret (pc := 42) hC hRT dX11_asks_42 rfl ?_
        refine ⟨(I 23), retI (by unfold v_asks; first | rw [if_pos (by omega)] | rw [if_neg (by omega), if_neg (by omega)] | rw [if_neg (by omega), if_pos (by omega)]), CW_cong (au_ms (k := 23) (v := I 23) rfl rfl rfl) rfl rfl⟩
      · refine w_aload_n (pc := 29) hC dX11_asks_29 1 rfl rfl ?_
        refine w_aload (pc := 30) hC dX11_asks_30 0 rfl ?_
        refine w_iload_n (pc := 32) hC dX11_asks_32 3 rfl rfl ?_
        refine w_iload_n (pc := 33) hC dX11_asks_33 4 rfl rfl ?_
        refine w_callV (pc := 34) (As := [.ref qb, .int (J nm), .int (J day)]) (rest := []) hC dX11_asks_34 cv_X11_139 (c_X11_whomToday (kl K) G A D T I F Q P S a qb nm day (show RI S from by first | assumption | omega) (show LRn G.2.1 S I F Q P from by exact hL) (show 0 ≤ a ∧ a < S 1 from by first | assumption | omega) (show CLB P G.2.1 S a qb from by first | assumption | omega) (show 0 ≤ nm ∧ nm < S 0 from by first | assumption | omega) (show 0 ≤ day ∧ day ≤ 5000 from by first | assumption | omega)) (by decide) ⟨Nat.le_of_ble_eq_true rfl, Nat.le_of_ble_eq_true rfl⟩ (q0 := 0) CW_0 rfl rfl rfl (Nat.le_of_ble_eq_true rfl) rfl (fun vo wo hv => ?_)
        obtain ⟨b23_34, hv1, hw1⟩ := hv
        rw [hv1, hw1]
        show WW K G 0 0 (CW A D T G.2.1 (au I 23 b23_34) F Q P) 37 [(4, .ref qb), (0, .ref (A 0)), (1, .int (J a)), (2, .int (J nm)), (3, .int (J day))] [.int (J (ASK S a (-1) (S 6) nm day))]
        have q34_0 := @ASK_in S a (-1) (S 6) nm day (by first | exact hR.bd | exact (by assumption : RI S).bd) (by omega)
        refine w_goto (pc := 37) hC dX11_asks_37 (tgt := 42) (by decide) ?_
        refine w_iret (pc := 42) hC hRT dX11_asks_42 rfl ?_
        refine ⟨b23_34, retI (by unfold v_asks; first | rw [if_pos (by omega)] | rw [if_neg (by omega), if_neg (by omega)] | rw [if_neg (by omega), if_pos (by omega)]), rfl⟩
    · refine w_iconst (pc := 20) hC dX11_asks_20 ?_
      refine w_iret (pc := 21) hC hRT dX11_asks_21 rfl ?_
      refine ⟨(I 23), retI (by unfold v_asks; first | rw [if_pos (by omega)] | rw [if_neg (by omega), if_neg (by omega)] | rw [if_neg (by omega), if_pos (by omega)]), CW_cong (au_ms (k := 23) (v := I 23) rfl rfl rfl) rfl rfl⟩
  · rw [if_neg hc] at hv1
    rw [hv1, hw1]
    show WW K G 0 0 (CW A D T G.2.1 I F Q P) 5 [(0, .ref (A 0)), (1, .int (J a)), (2, .int (J nm)), (3, .int (J day))] [.null]
    refine w_astoreN (pc := 5) hC dX11_asks_5 (lv2 := [(4, .null), (0, .ref (A 0)), (1, .int (J a)), (2, .int (J nm)), (3, .int (J day))]) (by rw [hnL]; decide) rfl ?_
    refine w_aloadN (pc := 7) hC dX11_asks_7 0 rfl ?_
    refine w_ifnullN (pc := 9) (tgt := 20) hC dX11_asks_9 (by decide) ?_
    refine w_iconst (pc := 20) hC dX11_asks_20 ?_
    refine w_iret (pc := 21) hC hRT dX11_asks_21 rfl ?_
    refine ⟨(I 23), retI (by unfold v_asks; first | rw [if_pos (by omega)] | rw [if_neg (by omega), if_neg (by omega)] | rw [if_neg (by omega), if_pos (by omega)]), CW_cong (au_ms (k := 23) (v := I 23) rfl rfl rfl) rfl rfl⟩
set_option maxRecDepth 100000 in
set_option maxHeartbeats 4000000 in
theorem c_X11_share (l : Launch) (G : GT) (A D : Nat → Nat) (T : Nat) (I : Nat → Int → Int) (F : Nat → Int) (Q : Nat → Nat → Option Nat) (P : va_W) (S : Int → Int) (a : Int) (n : Int) (nm : Int) (r : Int) (p : Int) (hR : RI S) (hL : LRn G.2.1 S I F Q P) (h0 : -2147483648 ≤ a ∧ a < 2147483648) (h1 : -2147483648 ≤ n ∧ n < 2147483648) (h2 : -2147483648 ≤ nm ∧ nm < 2147483648) (h3 : -2147483648 ≤ r ∧ r < 2147483648) (h4 : -2147483648 ≤ p ∧ p < 2147483648) : CT l yX11_share cX11_share 7 (some .long) 6 0 0 G [.ref (A 0), .int (J a), .int (J n), .int (J nm), .int (J r), .int (J p)] (CW A D T G.2.1 I F Q P) (fun vo wo => ∃ (D : Nat → Nat) (b23 : Int → Int) (b50 : Int → Int) (b51 : Int → Int) (b52 : Int → Int) (b53 : Int → Int) (b54 : Int → Int) (g30 : Int) (g31 : Int) (g32 : Int), vo = some (.long (JL (v_share S a n nm r p))) ∧ wo = CW A D T G.2.1 (au (au (au (au (au (au I 23 b23) 50 b50) 51 b51) 52 b52) 53 b53) 54 b54) (fu (fu (fu F 30 g30) 31 g31) 32 g32) Q P) := by
  refine CT_of (own := RX11) rfl rfl (Nat.le_of_ble_eq_true rfl) (fun K hl hnL hC hRT hin => ?_)
  subst hl
  show WW K G 0 0 (CW A D T G.2.1 I F Q P) 0 [(0, .ref (A 0)), (1, .int (J a)), (2, .int (J n)), (3, .int (J nm)), (4, .int (J r)), (5, .int (J p))] []
  have hn := hR.n
  have hbd := hR.bd
  refine w_aload_n (pc := 0) hC dX11_share_0 0 rfl rfl ?_
  refine w_iload_n (pc := 1) hC dX11_share_1 1 rfl rfl ?_
  refine w_callV (pc := 2) (As := [.int (J a)]) (rest := []) hC dX11_share_2 cv_X11_112 (c_X11_clubAt (kl K) G A D T I F Q P S a (show RI S from by assumption) (show LRn G.2.1 S I F Q P from by exact hL) (show -2147483648 ≤ a ∧ a < 2147483648 from by omega)) (by decide) ⟨Nat.le_of_ble_eq_true rfl, Nat.le_of_ble_eq_true rfl⟩ (q0 := 0) CW_0 rfl rfl rfl (Nat.le_of_ble_eq_true rfl) rfl (fun vo wo hv => ?_)
  obtain ⟨hv1, hw1⟩ := hv
  by_cases hc : 0 ≤ a ∧ a < S 1
  · obtain ⟨qb, hQc, hcl⟩ := l_clb hL hc.1 hc.2
    rw [if_pos hc, hQc] at hv1
    rw [hv1, hw1]
    show WW K G 0 0 (CW A D T G.2.1 I F Q P) 5 [(0, .ref (A 0)), (1, .int (J a)), (2, .int (J n)), (3, .int (J nm)), (4, .int (J r)), (5, .int (J p))] [.ref qb]
    refine w_astore (pc := 5) hC dX11_share_5 (lv2 := [(6, .ref qb), (0, .ref (A 0)), (1, .int (J a)), (2, .int (J n)), (3, .int (J nm)), (4, .int (J r)), (5, .int (J p))]) (by rw [hnL]; decide) rfl ?_
    refine w_aload (pc := 7) hC dX11_share_7 0 rfl ?_
    refine w_ifnullR (pc := 9) hC dX11_share_9 ?_
    refine w_iload_n (pc := 12) hC dX11_share_12 3 rfl rfl ?_
    refine w_callS (pc := 13) (As := [.int (J n)]) (rest := []) hC dX11_share_13 cs_X11_155 (c_X11_isDaysOn (kl K) G (CW A D T G.2.1 I F Q P) n (show -2147483648 ≤ n ∧ n < 2147483648 from by first | assumption | omega)) (by decide) ⟨Nat.le_of_ble_eq_true rfl, Nat.le_of_ble_eq_true rfl⟩ rfl (Nat.le_of_ble_eq_true rfl) rfl (fun vo wo hv => ?_)
    obtain ⟨hv1, hw1⟩ := hv
    rw [hv1, hw1]
    show WW K G 0 0 (CW A D T G.2.1 I F Q P) 16 [(6, .ref qb), (0, .ref (A 0)), (1, .int (J a)), (2, .int (J n)), (3, .int (J nm)), (4, .int (J r)), (5, .int (J p))] [.int (J (bI (0 ≤ n ∧ n ≤ 6)))]
    refine w_if_eq_b (pc := 16) (tgt := 44) hC dX11_share_16 (by decide) (fun c16 => ?_) (fun c16 => ?_)
    · refine w_ldc2 (pc := 44) hC dX11_share_44 (z := (-9223372036854775808)) tw_3_187 (by decide) ?_
      refine w_lret (pc := 47) hC hRT dX11_share_47 ?_
      refine ⟨D, (I 23), (I 50), (I 51), (I 52), (I 53), (I 54), (F 30), (F 31), (F 32), retL (by unfold v_share; first | (rw [if_pos (by omega)]; rfl) | (rw [if_neg (by omega), r60.2.1, r60.2.2.1])), CW_cong (au_ms (k := 23) (v := I 23) rfl rfl (au_ms (k := 50) (v := I 50) rfl rfl (au_ms (k := 51) (v := I 51) rfl rfl (au_ms (k := 52) (v := I 52) rfl rfl (au_ms (k := 53) (v := I 53) rfl rfl (au_ms (k := 54) (v := I 54) rfl rfl rfl)))))) (fu_ms (k := 30) (v := F 30) rfl rfl (fu_ms (k := 31) (v := F 31) rfl rfl (fu_ms (k := 32) (v := F 32) rfl rfl rfl))) rfl⟩
    · refine w_aload_n (pc := 19) hC dX11_share_19 1 rfl rfl ?_
      refine w_iload_n (pc := 20) hC dX11_share_20 4 rfl rfl ?_
      refine w_callV (pc := 21) (As := [.int (J nm)]) (rest := []) hC dX11_share_21 cv_X11_64 (c_X11_isName (kl K) G A D T I F Q P S nm (show RI S from by first | assumption | omega) (show LRn G.2.1 S I F Q P from by exact hL) (show -2147483648 ≤ nm ∧ nm < 2147483648 from by first | assumption | omega)) (by decide) ⟨Nat.le_of_ble_eq_true rfl, Nat.le_of_ble_eq_true rfl⟩ (q0 := 0) CW_0 rfl rfl rfl (Nat.le_of_ble_eq_true rfl) rfl (fun vo wo hv => ?_)
      obtain ⟨hv1, hw1⟩ := hv
      rw [hv1, hw1]
      show WW K G 0 0 (CW A D T G.2.1 I F Q P) 24 [(6, .ref qb), (0, .ref (A 0)), (1, .int (J a)), (2, .int (J n)), (3, .int (J nm)), (4, .int (J r)), (5, .int (J p))] [.int (J (bI (0 ≤ nm ∧ nm < S 0)))]
      refine w_if_eq_b (pc := 24) (tgt := 44) hC dX11_share_24 (by decide) (fun c24 => ?_) (fun c24 => ?_)
      · refine w_ldc2 (pc := 44) hC dX11_share_44 (z := (-9223372036854775808)) tw_3_187 (by decide) ?_
        refine w_lret (pc := 47) hC hRT dX11_share_47 ?_
        refine ⟨D, (I 23), (I 50), (I 51), (I 52), (I 53), (I 54), (F 30), (F 31), (F 32), retL (by unfold v_share; first | (rw [if_pos (by omega)]; rfl) | (rw [if_neg (by omega), r60.2.1, r60.2.2.1])), CW_cong (au_ms (k := 23) (v := I 23) rfl rfl (au_ms (k := 50) (v := I 50) rfl rfl (au_ms (k := 51) (v := I 51) rfl rfl (au_ms (k := 52) (v := I 52) rfl rfl (au_ms (k := 53) (v := I 53) rfl rfl (au_ms (k := 54) (v := I 54) rfl rfl rfl)))))) (fu_ms (k := 30) (v := F 30) rfl rfl (fu_ms (k := 31) (v := F 31) rfl rfl (fu_ms (k := 32) (v := F 32) rfl rfl rfl))) rfl⟩
      · refine w_aload_n (pc := 27) hC dX11_share_27 1 rfl rfl ?_
        refine w_iload (pc := 28) hC dX11_share_28 5 rfl ?_
        refine w_callV (pc := 30) (As := [.int (J r)]) (rest := []) hC dX11_share_30 cv_X11_72 (c_X11_isRung (kl K) G A D T I F Q P S r (show RI S from by first | assumption | omega) (show LRn G.2.1 S I F Q P from by exact hL) (show -2147483648 ≤ r ∧ r < 2147483648 from by first | assumption | omega)) (by decide) ⟨Nat.le_of_ble_eq_true rfl, Nat.le_of_ble_eq_true rfl⟩ (q0 := 0) CW_0 rfl rfl rfl (Nat.le_of_ble_eq_true rfl) rfl (fun vo wo hv => ?_)
        obtain ⟨hv1, hw1⟩ := hv
        rw [hv1, hw1]
        show WW K G 0 0 (CW A D T G.2.1 I F Q P) 33 [(6, .ref qb), (0, .ref (A 0)), (1, .int (J a)), (2, .int (J n)), (3, .int (J nm)), (4, .int (J r)), (5, .int (J p))] [.int (J (bI (0 ≤ r ∧ r < S 0)))]
        refine w_if_eq_b (pc := 33) (tgt := 44) hC dX11_share_33 (by decide) (fun c33 => ?_) (fun c33 => ?_)
        · refine w_ldc2 (pc := 44) hC dX11_share_44 (z := (-9223372036854775808)) tw_3_187 (by decide) ?_
          refine w_lret (pc := 47) hC hRT dX11_share_47 ?_
          refine ⟨D, (I 23), (I 50), (I 51), (I 52), (I 53), (I 54), (F 30), (F 31), (F 32), retL (by unfold v_share; first | (rw [if_pos (by omega)]; rfl) | (rw [if_neg (by omega), r60.2.1, r60.2.2.1])), CW_cong (au_ms (k := 23) (v := I 23) rfl rfl (au_ms (k := 50) (v := I 50) rfl rfl (au_ms (k := 51) (v := I 51) rfl rfl (au_ms (k := 52) (v := I 52) rfl rfl (au_ms (k := 53) (v := I 53) rfl rfl (au_ms (k := 54) (v := I 54) rfl rfl rfl)))))) (fu_ms (k := 30) (v := F 30) rfl rfl (fu_ms (k := 31) (v := F 31) rfl rfl (fu_ms (k := 32) (v := F 32) rfl rfl rfl))) rfl⟩
        · refine w_iload (pc := 36) hC dX11_share_36 6 rfl ?_
          refine w_callS (pc := 38) (As := [.int (J p)]) (rest := []) hC dX11_share_38 cs_X11_75 (c_X11_isEither (kl K) G (CW A D T G.2.1 I F Q P) p (show -2147483648 ≤ p ∧ p < 2147483648 from by first | assumption | omega)) (by decide) ⟨Nat.le_of_ble_eq_true rfl, Nat.le_of_ble_eq_true rfl⟩ rfl (Nat.le_of_ble_eq_true rfl) rfl (fun vo wo hv => ?_)
          obtain ⟨hv1, hw1⟩ := hv
          rw [hv1, hw1]
          show WW K G 0 0 (CW A D T G.2.1 I F Q P) 41 [(6, .ref qb), (0, .ref (A 0)), (1, .int (J a)), (2, .int (J n)), (3, .int (J nm)), (4, .int (J r)), (5, .int (J p))] [.int (J (bI (p = 0 ∨ p = 1)))]
          refine w_if_ne_b (pc := 41) (tgt := 48) hC dX11_share_41 (by decide) (fun c41 => ?_) (fun c41 => ?_)
          · refine w_aload_n (pc := 48) hC dX11_share_48 1 rfl rfl ?_
            refine w_aload (pc := 49) hC dX11_share_49 0 rfl ?_
            refine w_iload_n (pc := 51) hC dX11_share_51 3 rfl rfl ?_
            refine w_aload_n (pc := 52) hC dX11_share_52 1 rfl rfl ?_
            refine w_getf (pc := 53) (v := .ref (A 1)) hC dX11_share_53 fi_X11_12 0 CW_0 rfl ?_
            refine w_getfN (pc := 56) (v := .ref (A 2)) hC dX11_share_56 fn_X11_61 1 CW_1 rfl ?_
            refine w_iconst (pc := 59) hC dX11_share_59 ?_
            refine w_callV (pc := 60) (As := [.ref qb, .int (J n), .ref (A 2), .int (J 0)]) (rest := []) hC dX11_share_60 cv_X11_160 (c_X11_goBehind_v2 (kl K) G A D T I F Q P S a (S 6) (-1) qb n 0 (show RI S from by first | assumption | omega) (show LRn G.2.1 S I F Q P from by exact hL) (show 0 ≤ a ∧ a < S 1 from by first | assumption | omega) (show CLB P G.2.1 S a qb from by first | assumption | omega) (show 0 < S 0 from by first | assumption | omega) (show 0 ≤ n ∧ n ≤ 6 from by first | assumption | omega) (show VB (S 0) (S 6) from by exact hR.bd) (show ∀ r : Int, 0 ≤ r → r < S 0 → (I 2) r = dg (S 6) r from by exact fun r r0 r1 => l_bd hL r0 r1) (show (-1) = -1 ∨ (0 ≤ (-1) ∧ (-1) < 6) from by exact Or.inl rfl) (show 0 = if (-1) = -1 then 0 else 2 ^ ((-1) : Int).toNat from by rfl)) (by decide) ⟨Nat.le_of_ble_eq_true rfl, Nat.le_of_ble_eq_true rfl⟩ (q0 := 0) CW_0 rfl rfl rfl (Nat.le_of_ble_eq_true rfl) rfl (fun vo wo hv => ?_)
            obtain ⟨D_60, b23_60, b50_60, b51_60, b52_60, b53_60, b54_60, g30_60, g31_60, g32_60, hv1, hw1, r60⟩ := hv
            rw [hv1, hw1]
            show WW K G 0 0 (CW A D_60 T G.2.1 (au (au (au (au (au (au I 23 b23_60) 50 b50_60) 51 b51_60) 52 b52_60) 53 b53_60) 54 b54_60) (fu (fu (fu F 30 g30_60) 31 g31_60) 32 g32_60) Q P) 63 [(6, .ref qb), (0, .ref (A 0)), (1, .int (J a)), (2, .int (J n)), (3, .int (J nm)), (4, .int (J r)), (5, .int (J p))] []
            have r60 : DOK (S 0) b50_60 b51_60 g30_60 ∧ (∀ f : Int → Int, isum f (DBf (S 0) b50_60) b51_60 (g30_60 : Int).toNat = EXP S a (-1) (-7) n.toNat f (S 6)) ∧ g32_60 = 100 ^ n.toNat ∧ isum one1 (DBf (S 0) b50_60) b51_60 (g30_60 : Int).toNat = g32_60 := r60
            have p5 := p100_7 (k := n) (by omega) (by omega)
            rw [← r60.2.2.1] at p5
            have ht1 := r60.2.2.2
            have hb := is_bd (f := fun b => bI (dg b r = nm)) r60.1 (fun k k0 k1 => bI_06 _)
            refine w_aload_n (pc := 63) hC dX11_share_63 1 rfl rfl ?_
            refine w_getf (pc := 64) (v := .ref (A 49)) hC dX11_share_64 fi_X11_41 0 CW_0 rfl ?_
            refine w_iload_n (pc := 67) hC dX11_share_67 4 rfl rfl ?_
            refine w_iload (pc := 68) hC dX11_share_68 5 rfl ?_
            refine w_callV (pc := 70) (As := [.int (J nm), .int (J r)]) (rest := []) hC dX11_share_70 cv_X11_164 (c_X4_onRung (kl K) G A D_60 T (au (au (au (au (au (au I 23 b23_60) 50 b50_60) 51 b51_60) 52 b52_60) 53 b53_60) 54 b54_60) (fu (fu (fu F 30 g30_60) 31 g31_60) 32 g32_60) Q P S nm r (show RI S from by first | assumption | omega) (show LRn G.2.1 S (au (au (au (au (au (au I 23 b23_60) 50 b50_60) 51 b51_60) 52 b52_60) 53 b53_60) 54 b54_60) (fu (fu (fu F 30 g30_60) 31 g31_60) 32 g32_60) Q P from by exact (LRb_fu (by decide) (LRb_fu (by decide) (LRb_fu (by decide) (LRb_au (by decide) (LRb_au (by decide) (LRb_au (by decide) (LRb_au (by decide) (LRb_au (by decide) (LRb_au (by decide) hL)))))))))) (show DOK (S 0) b50_60 b51_60 g30_60 from by exact r60.1) (show 0 ≤ r ∧ r < S 0 from by first | assumption | omega) (show -2147483648 ≤ nm ∧ nm < 2147483648 from by first | assumption | omega)) (by decide) ⟨Nat.le_of_ble_eq_true rfl, Nat.le_of_ble_eq_true rfl⟩ (q0 := 49) CW_49 rfl rfl rfl (Nat.le_of_ble_eq_true rfl) rfl (fun vo wo hv => ?_)
            obtain ⟨hv1, hw1⟩ := hv
            rw [hv1, hw1]
            show WW K G 0 0 (CW A D_60 T G.2.1 (au (au (au (au (au (au I 23 b23_60) 50 b50_60) 51 b51_60) 52 b52_60) 53 b53_60) 54 b54_60) (fu (fu (fu F 30 g30_60) 31 g31_60) 32 g32_60) Q P) 73 [(6, .ref qb), (0, .ref (A 0)), (1, .int (J a)), (2, .int (J n)), (3, .int (J nm)), (4, .int (J r)), (5, .int (J p))] [.long (JL (isum (fun b => bI (dg b r = nm)) (DBf (S 0) b50_60) b51_60 (g30_60 : Int).toNat))]
            refine w_aload_n (pc := 73) hC dX11_share_73 1 rfl rfl ?_
            refine w_getf (pc := 74) (v := .ref (A 49)) hC dX11_share_74 fi_X11_41 0 CW_0 rfl ?_
            refine w_callV (pc := 77) (As := []) (rest := [.long (JL (isum (fun b => bI (dg b r = nm)) (DBf (S 0) b50_60) b51_60 (g30_60 : Int).toNat))]) hC dX11_share_77 cv_X11_168 (c_X4_whole (kl K) G A D_60 T (au (au (au (au (au (au I 23 b23_60) 50 b50_60) 51 b51_60) 52 b52_60) 53 b53_60) 54 b54_60) (fu (fu (fu F 30 g30_60) 31 g31_60) 32 g32_60) Q P) (by decide) ⟨Nat.le_of_ble_eq_true rfl, Nat.le_of_ble_eq_true rfl⟩ (q0 := 49) CW_49 rfl rfl rfl (Nat.le_of_ble_eq_true rfl) rfl (fun vo wo hv => ?_)
            obtain ⟨hv1, hw1⟩ := hv
            rw [hv1, hw1]
            show WW K G 0 0 (CW A D_60 T G.2.1 (au (au (au (au (au (au I 23 b23_60) 50 b50_60) 51 b51_60) 52 b52_60) 53 b53_60) 54 b54_60) (fu (fu (fu F 30 g30_60) 31 g31_60) 32 g32_60) Q P) 80 [(6, .ref qb), (0, .ref (A 0)), (1, .int (J a)), (2, .int (J n)), (3, .int (J nm)), (4, .int (J r)), (5, .int (J p))] [.long (JL g32_60), .long (JL (isum (fun b => bI (dg b r = nm)) (DBf (S 0) b50_60) b51_60 (g30_60 : Int).toNat))]
            refine w_iload (pc := 80) hC dX11_share_80 6 rfl ?_
            refine w_callS (pc := 82) (As := [.long (JL (isum (fun b => bI (dg b r = nm)) (DBf (S 0) b50_60) b51_60 (g30_60 : Int).toNat)), .long (JL g32_60), .int (J p)]) (rest := []) hC dX11_share_82 cs_X11_172 (c_X11_partOf (kl K) G A D_60 T (au (au (au (au (au (au I 23 b23_60) 50 b50_60) 51 b51_60) 52 b52_60) 53 b53_60) 54 b54_60) (fu (fu (fu F 30 g30_60) 31 g31_60) 32 g32_60) Q P (isum (fun b => bI (dg b r = nm)) (DBf (S 0) b50_60) b51_60 (g30_60 : Int).toNat) g32_60 p (show -100000000000000 ≤ (isum (fun b => bI (dg b r = nm)) (DBf (S 0) b50_60) b51_60 (g30_60 : Int).toNat) ∧ (isum (fun b => bI (dg b r = nm)) (DBf (S 0) b50_60) b51_60 (g30_60 : Int).toNat) ≤ 100000000000000 from by first | assumption | omega) (show 0 < g32_60 ∧ g32_60 ≤ 1000000000000 from by first | assumption | omega) (show 0 ≤ p ∧ p ≤ 1 from by first | assumption | omega)) (by decide) ⟨Nat.le_of_ble_eq_true rfl, Nat.le_of_ble_eq_true rfl⟩ rfl (Nat.le_of_ble_eq_true rfl) rfl (fun vo wo hv => ?_)
            obtain ⟨hv1, hw1⟩ := hv
            rw [hv1, hw1]
            show WW K G 0 0 (CW A D_60 T G.2.1 (au (au (au (au (au (au I 23 b23_60) 50 b50_60) 51 b51_60) 52 b52_60) 53 b53_60) 54 b54_60) (fu (fu (fu F 30 g30_60) 31 g31_60) 32 g32_60) Q P) 85 [(6, .ref qb), (0, .ref (A 0)), (1, .int (J a)), (2, .int (J n)), (3, .int (J nm)), (4, .int (J r)), (5, .int (J p))] [.long (JL (LOW (isum (fun b => bI (dg b r = nm)) (DBf (S 0) b50_60) b51_60 (g30_60 : Int).toNat) g32_60 p))]
            refine w_lret (pc := 85) hC hRT dX11_share_85 ?_
            refine ⟨D_60, b23_60, b50_60, b51_60, b52_60, b53_60, b54_60, g30_60, g31_60, g32_60, retL (by unfold v_share; first | (rw [if_pos (by omega)]; rfl) | (rw [if_neg (by omega), r60.2.1, r60.2.2.1])), rfl⟩
          · refine w_ldc2 (pc := 44) hC dX11_share_44 (z := (-9223372036854775808)) tw_3_187 (by decide) ?_
            refine w_lret (pc := 47) hC hRT dX11_share_47 ?_
            refine ⟨D, (I 23), (I 50), (I 51), (I 52), (I 53), (I 54), (F 30), (F 31), (F 32), retL (by unfold v_share; first | (rw [if_pos (by omega)]; rfl) | (rw [if_neg (by omega), r60.2.1, r60.2.2.1])), CW_cong (au_ms (k := 23) (v := I 23) rfl rfl (au_ms (k := 50) (v := I 50) rfl rfl (au_ms (k := 51) (v := I 51) rfl rfl (au_ms (k := 52) (v := I 52) rfl rfl (au_ms (k := 53) (v := I 53) rfl rfl (au_ms (k := 54) (v := I 54) rfl rfl rfl)))))) (fu_ms (k := 30) (v := F 30) rfl rfl (fu_ms (k := 31) (v := F 31) rfl rfl (fu_ms (k := 32) (v := F 32) rfl rfl rfl))) rfl⟩
  · rw [if_neg hc] at hv1
    rw [hv1, hw1]
    show WW K G 0 0 (CW A D T G.2.1 I F Q P) 5 [(0, .ref (A 0)), (1, .int (J a)), (2, .int (J n)), (3, .int (J nm)), (4, .int (J r)), (5, .int (J p))] [.null]
    refine w_astoreN (pc := 5) hC dX11_share_5 (lv2 := [(6, .null), (0, .ref (A 0)), (1, .int (J a)), (2, .int (J n)), (3, .int (J nm)), (4, .int (J r)), (5, .int (J p))]) (by rw [hnL]; decide) rfl ?_
    refine w_aloadN (pc := 7) hC dX11_share_7 0 rfl ?_
    refine w_ifnullN (pc := 9) (tgt := 44) hC dX11_share_9 (by decide) ?_
    refine w_ldc2 (pc := 44) hC dX11_share_44 (z := (-9223372036854775808)) tw_3_187 (by decide) ?_
    refine w_lret (pc := 47) hC hRT dX11_share_47 ?_
    refine ⟨D, (I 23), (I 50), (I 51), (I 52), (I 53), (I 54), (F 30), (F 31), (F 32), retL (by unfold v_share; first | (rw [if_pos (by omega)]; rfl) | (rw [if_neg (by omega), r60.2.1, r60.2.2.1])), CW_cong (au_ms (k := 23) (v := I 23) rfl rfl (au_ms (k := 50) (v := I 50) rfl rfl (au_ms (k := 51) (v := I 51) rfl rfl (au_ms (k := 52) (v := I 52) rfl rfl (au_ms (k := 53) (v := I 53) rfl rfl (au_ms (k := 54) (v := I 54) rfl rfl rfl)))))) (fu_ms (k := 30) (v := F 30) rfl rfl (fu_ms (k := 31) (v := F 31) rfl rfl (fu_ms (k := 32) (v := F 32) rfl rfl rfl))) rfl⟩
set_option maxRecDepth 100000 in
set_option maxHeartbeats 4000000 in
theorem c_X11_mean (l : Launch) (G : GT) (A D : Nat → Nat) (T : Nat) (I : Nat → Int → Int) (F : Nat → Int) (Q : Nat → Nat → Option Nat) (P : va_W) (S : Int → Int) (a : Int) (n : Int) (nm : Int) (p : Int) (hR : RI S) (hL : LRn G.2.1 S I F Q P) (h0 : -2147483648 ≤ a ∧ a < 2147483648) (h1 : -2147483648 ≤ n ∧ n < 2147483648) (h2 : -2147483648 ≤ nm ∧ nm < 2147483648) (h3 : -2147483648 ≤ p ∧ p < 2147483648) : CT l yX11_mean cX11_mean 6 (some .long) 6 0 0 G [.ref (A 0), .int (J a), .int (J n), .int (J nm), .int (J p)] (CW A D T G.2.1 I F Q P) (fun vo wo => ∃ (D : Nat → Nat) (b23 : Int → Int) (b50 : Int → Int) (b51 : Int → Int) (b52 : Int → Int) (b53 : Int → Int) (b54 : Int → Int) (g30 : Int) (g31 : Int) (g32 : Int), vo = some (.long (JL (v_mean S a n nm p))) ∧ wo = CW A D T G.2.1 (au (au (au (au (au (au I 23 b23) 50 b50) 51 b51) 52 b52) 53 b53) 54 b54) (fu (fu (fu F 30 g30) 31 g31) 32 g32) Q P) := by
  refine CT_of (own := RX11) rfl rfl (Nat.le_of_ble_eq_true rfl) (fun K hl hnL hC hRT hin => ?_)
  subst hl
  show WW K G 0 0 (CW A D T G.2.1 I F Q P) 0 [(0, .ref (A 0)), (1, .int (J a)), (2, .int (J n)), (3, .int (J nm)), (4, .int (J p))] []
  have hn := hR.n
  have hbd := hR.bd
  refine w_aload_n (pc := 0) hC dX11_mean_0 0 rfl rfl ?_
  refine w_iload_n (pc := 1) hC dX11_mean_1 1 rfl rfl ?_
  refine w_callV (pc := 2) (As := [.int (J a)]) (rest := []) hC dX11_mean_2 cv_X11_112 (c_X11_clubAt (kl K) G A D T I F Q P S a (show RI S from by assumption) (show LRn G.2.1 S I F Q P from by exact hL) (show -2147483648 ≤ a ∧ a < 2147483648 from by omega)) (by decide) ⟨Nat.le_of_ble_eq_true rfl, Nat.le_of_ble_eq_true rfl⟩ (q0 := 0) CW_0 rfl rfl rfl (Nat.le_of_ble_eq_true rfl) rfl (fun vo wo hv => ?_)
  obtain ⟨hv1, hw1⟩ := hv
  by_cases hc : 0 ≤ a ∧ a < S 1
  · obtain ⟨qb, hQc, hcl⟩ := l_clb hL hc.1 hc.2
    rw [if_pos hc, hQc] at hv1
    rw [hv1, hw1]
    show WW K G 0 0 (CW A D T G.2.1 I F Q P) 5 [(0, .ref (A 0)), (1, .int (J a)), (2, .int (J n)), (3, .int (J nm)), (4, .int (J p))] [.ref qb]
    refine w_astore (pc := 5) hC dX11_mean_5 (lv2 := [(5, .ref qb), (0, .ref (A 0)), (1, .int (J a)), (2, .int (J n)), (3, .int (J nm)), (4, .int (J p))]) (by rw [hnL]; decide) rfl ?_
    refine w_aload (pc := 7) hC dX11_mean_7 0 rfl ?_
    refine w_ifnullR (pc := 9) hC dX11_mean_9 ?_
    refine w_iload_n (pc := 12) hC dX11_mean_12 3 rfl rfl ?_
    refine w_callS (pc := 13) (As := [.int (J n)]) (rest := []) hC dX11_mean_13 cs_X11_155 (c_X11_isDaysOn (kl K) G (CW A D T G.2.1 I F Q P) n (show -2147483648 ≤ n ∧ n < 2147483648 from by first | assumption | omega)) (by decide) ⟨Nat.le_of_ble_eq_true rfl, Nat.le_of_ble_eq_true rfl⟩ rfl (Nat.le_of_ble_eq_true rfl) rfl (fun vo wo hv => ?_)
    obtain ⟨hv1, hw1⟩ := hv
    rw [hv1, hw1]
    show WW K G 0 0 (CW A D T G.2.1 I F Q P) 16 [(5, .ref qb), (0, .ref (A 0)), (1, .int (J a)), (2, .int (J n)), (3, .int (J nm)), (4, .int (J p))] [.int (J (bI (0 ≤ n ∧ n ≤ 6)))]
    refine w_if_eq_b (pc := 16) (tgt := 35) hC dX11_mean_16 (by decide) (fun c16 => ?_) (fun c16 => ?_)
    · refine w_ldc2 (pc := 35) hC dX11_mean_35 (z := (-9223372036854775808)) tw_3_187 (by decide) ?_
      refine w_lret (pc := 38) hC hRT dX11_mean_38 ?_
      refine ⟨D, (I 23), (I 50), (I 51), (I 52), (I 53), (I 54), (F 30), (F 31), (F 32), retL (by unfold v_mean; first | (rw [if_pos (by omega)]; rfl) | (rw [if_neg (by omega), r51.2.1, r51.2.2.1])), CW_cong (au_ms (k := 23) (v := I 23) rfl rfl (au_ms (k := 50) (v := I 50) rfl rfl (au_ms (k := 51) (v := I 51) rfl rfl (au_ms (k := 52) (v := I 52) rfl rfl (au_ms (k := 53) (v := I 53) rfl rfl (au_ms (k := 54) (v := I 54) rfl rfl rfl)))))) (fu_ms (k := 30) (v := F 30) rfl rfl (fu_ms (k := 31) (v := F 31) rfl rfl (fu_ms (k := 32) (v := F 32) rfl rfl rfl))) rfl⟩
    · refine w_aload_n (pc := 19) hC dX11_mean_19 1 rfl rfl ?_
      refine w_iload_n (pc := 20) hC dX11_mean_20 4 rfl rfl ?_
      refine w_callV (pc := 21) (As := [.int (J nm)]) (rest := []) hC dX11_mean_21 cv_X11_64 (c_X11_isName (kl K) G A D T I F Q P S nm (show RI S from by first | assumption | omega) (show LRn G.2.1 S I F Q P from by exact hL) (show -2147483648 ≤ nm ∧ nm < 2147483648 from by first | assumption | omega)) (by decide) ⟨Nat.le_of_ble_eq_true rfl, Nat.le_of_ble_eq_true rfl⟩ (q0 := 0) CW_0 rfl rfl rfl (Nat.le_of_ble_eq_true rfl) rfl (fun vo wo hv => ?_)
      obtain ⟨hv1, hw1⟩ := hv
      rw [hv1, hw1]
      show WW K G 0 0 (CW A D T G.2.1 I F Q P) 24 [(5, .ref qb), (0, .ref (A 0)), (1, .int (J a)), (2, .int (J n)), (3, .int (J nm)), (4, .int (J p))] [.int (J (bI (0 ≤ nm ∧ nm < S 0)))]
      refine w_if_eq_b (pc := 24) (tgt := 35) hC dX11_mean_24 (by decide) (fun c24 => ?_) (fun c24 => ?_)
      · refine w_ldc2 (pc := 35) hC dX11_mean_35 (z := (-9223372036854775808)) tw_3_187 (by decide) ?_
        refine w_lret (pc := 38) hC hRT dX11_mean_38 ?_
        refine ⟨D, (I 23), (I 50), (I 51), (I 52), (I 53), (I 54), (F 30), (F 31), (F 32), retL (by unfold v_mean; first | (rw [if_pos (by omega)]; rfl) | (rw [if_neg (by omega), r51.2.1, r51.2.2.1])), CW_cong (au_ms (k := 23) (v := I 23) rfl rfl (au_ms (k := 50) (v := I 50) rfl rfl (au_ms (k := 51) (v := I 51) rfl rfl (au_ms (k := 52) (v := I 52) rfl rfl (au_ms (k := 53) (v := I 53) rfl rfl (au_ms (k := 54) (v := I 54) rfl rfl rfl)))))) (fu_ms (k := 30) (v := F 30) rfl rfl (fu_ms (k := 31) (v := F 31) rfl rfl (fu_ms (k := 32) (v := F 32) rfl rfl rfl))) rfl⟩
      · refine w_iload (pc := 27) hC dX11_mean_27 5 rfl ?_
        refine w_callS (pc := 29) (As := [.int (J p)]) (rest := []) hC dX11_mean_29 cs_X11_75 (c_X11_isEither (kl K) G (CW A D T G.2.1 I F Q P) p (show -2147483648 ≤ p ∧ p < 2147483648 from by first | assumption | omega)) (by decide) ⟨Nat.le_of_ble_eq_true rfl, Nat.le_of_ble_eq_true rfl⟩ rfl (Nat.le_of_ble_eq_true rfl) rfl (fun vo wo hv => ?_)
        obtain ⟨hv1, hw1⟩ := hv
        rw [hv1, hw1]
        show WW K G 0 0 (CW A D T G.2.1 I F Q P) 32 [(5, .ref qb), (0, .ref (A 0)), (1, .int (J a)), (2, .int (J n)), (3, .int (J nm)), (4, .int (J p))] [.int (J (bI (p = 0 ∨ p = 1)))]
        refine w_if_ne_b (pc := 32) (tgt := 39) hC dX11_mean_32 (by decide) (fun c32 => ?_) (fun c32 => ?_)
        · refine w_aload_n (pc := 39) hC dX11_mean_39 1 rfl rfl ?_
          refine w_aload (pc := 40) hC dX11_mean_40 0 rfl ?_
          refine w_iload_n (pc := 42) hC dX11_mean_42 3 rfl rfl ?_
          refine w_aload_n (pc := 43) hC dX11_mean_43 1 rfl rfl ?_
          refine w_getf (pc := 44) (v := .ref (A 1)) hC dX11_mean_44 fi_X11_12 0 CW_0 rfl ?_
          refine w_getfN (pc := 47) (v := .ref (A 2)) hC dX11_mean_47 fn_X11_61 1 CW_1 rfl ?_
          refine w_iconst (pc := 50) hC dX11_mean_50 ?_
          refine w_callV (pc := 51) (As := [.ref qb, .int (J n), .ref (A 2), .int (J 0)]) (rest := []) hC dX11_mean_51 cv_X11_160 (c_X11_goBehind_v2 (kl K) G A D T I F Q P S a (S 6) (-1) qb n 0 (show RI S from by first | assumption | omega) (show LRn G.2.1 S I F Q P from by exact hL) (show 0 ≤ a ∧ a < S 1 from by first | assumption | omega) (show CLB P G.2.1 S a qb from by first | assumption | omega) (show 0 < S 0 from by first | assumption | omega) (show 0 ≤ n ∧ n ≤ 6 from by first | assumption | omega) (show VB (S 0) (S 6) from by exact hR.bd) (show ∀ r : Int, 0 ≤ r → r < S 0 → (I 2) r = dg (S 6) r from by exact fun r r0 r1 => l_bd hL r0 r1) (show (-1) = -1 ∨ (0 ≤ (-1) ∧ (-1) < 6) from by exact Or.inl rfl) (show 0 = if (-1) = -1 then 0 else 2 ^ ((-1) : Int).toNat from by rfl)) (by decide) ⟨Nat.le_of_ble_eq_true rfl, Nat.le_of_ble_eq_true rfl⟩ (q0 := 0) CW_0 rfl rfl rfl (Nat.le_of_ble_eq_true rfl) rfl (fun vo wo hv => ?_)
          obtain ⟨D_51, b23_51, b50_51, b51_51, b52_51, b53_51, b54_51, g30_51, g31_51, g32_51, hv1, hw1, r51⟩ := hv
          rw [hv1, hw1]
          show WW K G 0 0 (CW A D_51 T G.2.1 (au (au (au (au (au (au I 23 b23_51) 50 b50_51) 51 b51_51) 52 b52_51) 53 b53_51) 54 b54_51) (fu (fu (fu F 30 g30_51) 31 g31_51) 32 g32_51) Q P) 54 [(5, .ref qb), (0, .ref (A 0)), (1, .int (J a)), (2, .int (J n)), (3, .int (J nm)), (4, .int (J p))] []
          have r51 : DOK (S 0) b50_51 b51_51 g30_51 ∧ (∀ f : Int → Int, isum f (DBf (S 0) b50_51) b51_51 (g30_51 : Int).toNat = EXP S a (-1) (-7) n.toNat f (S 6)) ∧ g32_51 = 100 ^ n.toNat ∧ isum one1 (DBf (S 0) b50_51) b51_51 (g30_51 : Int).toNat = g32_51 := r51
          have p5 := p100_7 (k := n) (by omega) (by omega)
          rw [← r51.2.2.1] at p5
          have ht1 := r51.2.2.2
          have hb := is_rk (a := nm) r51.1 (by omega)
          refine w_aload_n (pc := 54) hC dX11_mean_54 1 rfl rfl ?_
          refine w_getf (pc := 55) (v := .ref (A 49)) hC dX11_mean_55 fi_X11_41 0 CW_0 rfl ?_
          refine w_iload_n (pc := 58) hC dX11_mean_58 4 rfl rfl ?_
          refine w_callV (pc := 59) (As := [.int (J nm)]) (rest := []) hC dX11_mean_59 cv_X11_183 (c_X4_sumOfRungs (kl K) G A D_51 T (au (au (au (au (au (au I 23 b23_51) 50 b50_51) 51 b51_51) 52 b52_51) 53 b53_51) 54 b54_51) (fu (fu (fu F 30 g30_51) 31 g31_51) 32 g32_51) Q P S nm (show RI S from by first | assumption | omega) (show LRn G.2.1 S (au (au (au (au (au (au I 23 b23_51) 50 b50_51) 51 b51_51) 52 b52_51) 53 b53_51) 54 b54_51) (fu (fu (fu F 30 g30_51) 31 g31_51) 32 g32_51) Q P from by exact (LRb_fu (by decide) (LRb_fu (by decide) (LRb_fu (by decide) (LRb_au (by decide) (LRb_au (by decide) (LRb_au (by decide) (LRb_au (by decide) (LRb_au (by decide) (LRb_au (by decide) hL)))))))))) (show DOK (S 0) b50_51 b51_51 g30_51 from by exact r51.1) (show 0 ≤ nm ∧ nm < S 0 from by first | assumption | omega)) (by decide) ⟨Nat.le_of_ble_eq_true rfl, Nat.le_of_ble_eq_true rfl⟩ (q0 := 49) CW_49 rfl rfl rfl (Nat.le_of_ble_eq_true rfl) rfl (fun vo wo hv => ?_)
          obtain ⟨hv1, hw1⟩ := hv
          rw [hv1, hw1]
          show WW K G 0 0 (CW A D_51 T G.2.1 (au (au (au (au (au (au I 23 b23_51) 50 b50_51) 51 b51_51) 52 b52_51) 53 b53_51) 54 b54_51) (fu (fu (fu F 30 g30_51) 31 g31_51) 32 g32_51) Q P) 62 [(5, .ref qb), (0, .ref (A 0)), (1, .int (J a)), (2, .int (J n)), (3, .int (J nm)), (4, .int (J p))] [.long (JL (isum (fun b => rk (S 0) b nm) (DBf (S 0) b50_51) b51_51 (g30_51 : Int).toNat))]
          refine w_aload_n (pc := 62) hC dX11_mean_62 1 rfl rfl ?_
          refine w_getf (pc := 63) (v := .ref (A 49)) hC dX11_mean_63 fi_X11_41 0 CW_0 rfl ?_
          refine w_callV (pc := 66) (As := []) (rest := [.long (JL (isum (fun b => rk (S 0) b nm) (DBf (S 0) b50_51) b51_51 (g30_51 : Int).toNat))]) hC dX11_mean_66 cv_X11_168 (c_X4_whole (kl K) G A D_51 T (au (au (au (au (au (au I 23 b23_51) 50 b50_51) 51 b51_51) 52 b52_51) 53 b53_51) 54 b54_51) (fu (fu (fu F 30 g30_51) 31 g31_51) 32 g32_51) Q P) (by decide) ⟨Nat.le_of_ble_eq_true rfl, Nat.le_of_ble_eq_true rfl⟩ (q0 := 49) CW_49 rfl rfl rfl (Nat.le_of_ble_eq_true rfl) rfl (fun vo wo hv => ?_)
          obtain ⟨hv1, hw1⟩ := hv
          rw [hv1, hw1]
          show WW K G 0 0 (CW A D_51 T G.2.1 (au (au (au (au (au (au I 23 b23_51) 50 b50_51) 51 b51_51) 52 b52_51) 53 b53_51) 54 b54_51) (fu (fu (fu F 30 g30_51) 31 g31_51) 32 g32_51) Q P) 69 [(5, .ref qb), (0, .ref (A 0)), (1, .int (J a)), (2, .int (J n)), (3, .int (J nm)), (4, .int (J p))] [.long (JL g32_51), .long (JL (isum (fun b => rk (S 0) b nm) (DBf (S 0) b50_51) b51_51 (g30_51 : Int).toNat))]
          refine w_iload (pc := 69) hC dX11_mean_69 5 rfl ?_
          refine w_callS (pc := 71) (As := [.long (JL (isum (fun b => rk (S 0) b nm) (DBf (S 0) b50_51) b51_51 (g30_51 : Int).toNat)), .long (JL g32_51), .int (J p)]) (rest := []) hC dX11_mean_71 cs_X11_172 (c_X11_partOf (kl K) G A D_51 T (au (au (au (au (au (au I 23 b23_51) 50 b50_51) 51 b51_51) 52 b52_51) 53 b53_51) 54 b54_51) (fu (fu (fu F 30 g30_51) 31 g31_51) 32 g32_51) Q P (isum (fun b => rk (S 0) b nm) (DBf (S 0) b50_51) b51_51 (g30_51 : Int).toNat) g32_51 p (show -100000000000000 ≤ (isum (fun b => rk (S 0) b nm) (DBf (S 0) b50_51) b51_51 (g30_51 : Int).toNat) ∧ (isum (fun b => rk (S 0) b nm) (DBf (S 0) b50_51) b51_51 (g30_51 : Int).toNat) ≤ 100000000000000 from by first | assumption | omega) (show 0 < g32_51 ∧ g32_51 ≤ 1000000000000 from by first | assumption | omega) (show 0 ≤ p ∧ p ≤ 1 from by first | assumption | omega)) (by decide) ⟨Nat.le_of_ble_eq_true rfl, Nat.le_of_ble_eq_true rfl⟩ rfl (Nat.le_of_ble_eq_true rfl) rfl (fun vo wo hv => ?_)
          obtain ⟨hv1, hw1⟩ := hv
          rw [hv1, hw1]
          show WW K G 0 0 (CW A D_51 T G.2.1 (au (au (au (au (au (au I 23 b23_51) 50 b50_51) 51 b51_51) 52 b52_51) 53 b53_51) 54 b54_51) (fu (fu (fu F 30 g30_51) 31 g31_51) 32 g32_51) Q P) 74 [(5, .ref qb), (0, .ref (A 0)), (1, .int (J a)), (2, .int (J n)), (3, .int (J nm)), (4, .int (J p))] [.long (JL (LOW (isum (fun b => rk (S 0) b nm) (DBf (S 0) b50_51) b51_51 (g30_51 : Int).toNat) g32_51 p))]
          refine w_lret (pc := 74) hC hRT dX11_mean_74 ?_
          refine ⟨D_51, b23_51, b50_51, b51_51, b52_51, b53_51, b54_51, g30_51, g31_51, g32_51, retL (by unfold v_mean; first | (rw [if_pos (by omega)]; rfl) | (rw [if_neg (by omega), r51.2.1, r51.2.2.1])), rfl⟩
        · refine w_ldc2 (pc := 35) hC dX11_mean_35 (z := (-9223372036854775808)) tw_3_187 (by decide) ?_
          refine w_lret (pc := 38) hC hRT dX11_mean_38 ?_
          refine ⟨D, (I 23), (I 50), (I 51), (I 52), (I 53), (I 54), (F 30), (F 31), (F 32), retL (by unfold v_mean; first | (rw [if_pos (by omega)]; rfl) | (rw [if_neg (by omega), r51.2.1, r51.2.2.1])), CW_cong (au_ms (k := 23) (v := I 23) rfl rfl (au_ms (k := 50) (v := I 50) rfl rfl (au_ms (k := 51) (v := I 51) rfl rfl (au_ms (k := 52) (v := I 52) rfl rfl (au_ms (k := 53) (v := I 53) rfl rfl (au_ms (k := 54) (v := I 54) rfl rfl rfl)))))) (fu_ms (k := 30) (v := F 30) rfl rfl (fu_ms (k := 31) (v := F 31) rfl rfl (fu_ms (k := 32) (v := F 32) rfl rfl rfl))) rfl⟩
  · rw [if_neg hc] at hv1
    rw [hv1, hw1]
    show WW K G 0 0 (CW A D T G.2.1 I F Q P) 5 [(0, .ref (A 0)), (1, .int (J a)), (2, .int (J n)), (3, .int (J nm)), (4, .int (J p))] [.null]
    refine w_astoreN (pc := 5) hC dX11_mean_5 (lv2 := [(5, .null), (0, .ref (A 0)), (1, .int (J a)), (2, .int (J n)), (3, .int (J nm)), (4, .int (J p))]) (by rw [hnL]; decide) rfl ?_
    refine w_aloadN (pc := 7) hC dX11_mean_7 0 rfl ?_
    refine w_ifnullN (pc := 9) (tgt := 35) hC dX11_mean_9 (by decide) ?_
    refine w_ldc2 (pc := 35) hC dX11_mean_35 (z := (-9223372036854775808)) tw_3_187 (by decide) ?_
    refine w_lret (pc := 38) hC hRT dX11_mean_38 ?_
    refine ⟨D, (I 23), (I 50), (I 51), (I 52), (I 53), (I 54), (F 30), (F 31), (F 32), retL (by unfold v_mean; first | (rw [if_pos (by omega)]; rfl) | (rw [if_neg (by omega), r51.2.1, r51.2.2.1])), CW_cong (au_ms (k := 23) (v := I 23) rfl rfl (au_ms (k := 50) (v := I 50) rfl rfl (au_ms (k := 51) (v := I 51) rfl rfl (au_ms (k := 52) (v := I 52) rfl rfl (au_ms (k := 53) (v := I 53) rfl rfl (au_ms (k := 54) (v := I 54) rfl rfl rfl)))))) (fu_ms (k := 30) (v := F 30) rfl rfl (fu_ms (k := 31) (v := F 31) rfl rfl (fu_ms (k := 32) (v := F 32) rfl rfl rfl))) rfl⟩
set_option maxRecDepth 100000 in
set_option maxHeartbeats 4000000 in
theorem c_X11_truly (l : Launch) (G : GT) (A D : Nat → Nat) (T : Nat) (I : Nat → Int → Int) (F : Nat → Int) (Q : Nat → Nat → Option Nat) (P : va_W) (S : Int → Int) (a : Int) (n : Int) (p : Int) (hR : RI S) (hL : LRn G.2.1 S I F Q P) (h0 : -2147483648 ≤ a ∧ a < 2147483648) (h1 : -2147483648 ≤ n ∧ n < 2147483648) (h2 : -2147483648 ≤ p ∧ p < 2147483648) : CT l yX11_truly cX11_truly 5 (some .long) 6 0 0 G [.ref (A 0), .int (J a), .int (J n), .int (J p)] (CW A D T G.2.1 I F Q P) (fun vo wo => ∃ (b56 : Int → Int) (D : Nat → Nat) (b23 : Int → Int) (b50 : Int → Int) (b51 : Int → Int) (b52 : Int → Int) (b53 : Int → Int) (b54 : Int → Int) (g30 : Int) (g31 : Int) (g32 : Int), vo = some (.long (JL (v_truly S a n p))) ∧ wo = CW A D T G.2.1 (au (au (au (au (au (au (au I 23 b23) 50 b50) 51 b51) 52 b52) 53 b53) 54 b54) 56 b56) (fu (fu (fu F 30 g30) 31 g31) 32 g32) Q P) := by
  refine CT_of (own := RX11) rfl rfl (Nat.le_of_ble_eq_true rfl) (fun K hl hnL hC hRT hin => ?_)
  subst hl
  show WW K G 0 0 (CW A D T G.2.1 I F Q P) 0 [(0, .ref (A 0)), (1, .int (J a)), (2, .int (J n)), (3, .int (J p))] []
  have hn := hR.n
  have hbd := hR.bd
  refine w_aload_n (pc := 0) hC dX11_truly_0 0 rfl rfl ?_
  refine w_iload_n (pc := 1) hC dX11_truly_1 1 rfl rfl ?_
  refine w_callV (pc := 2) (As := [.int (J a)]) (rest := []) hC dX11_truly_2 cv_X11_112 (c_X11_clubAt (kl K) G A D T I F Q P S a (show RI S from by assumption) (show LRn G.2.1 S I F Q P from by exact hL) (show -2147483648 ≤ a ∧ a < 2147483648 from by omega)) (by decide) ⟨Nat.le_of_ble_eq_true rfl, Nat.le_of_ble_eq_true rfl⟩ (q0 := 0) CW_0 rfl rfl rfl (Nat.le_of_ble_eq_true rfl) rfl (fun vo wo hv => ?_)
  obtain ⟨hv1, hw1⟩ := hv
  by_cases hc : 0 ≤ a ∧ a < S 1
  · obtain ⟨qb, hQc, hcl⟩ := l_clb hL hc.1 hc.2
    rw [if_pos hc, hQc] at hv1
    rw [hv1, hw1]
    show WW K G 0 0 (CW A D T G.2.1 I F Q P) 5 [(0, .ref (A 0)), (1, .int (J a)), (2, .int (J n)), (3, .int (J p))] [.ref qb]
    refine w_astore (pc := 5) hC dX11_truly_5 (lv2 := [(4, .ref qb), (0, .ref (A 0)), (1, .int (J a)), (2, .int (J n)), (3, .int (J p))]) (by rw [hnL]; decide) rfl ?_
    refine w_aload (pc := 7) hC dX11_truly_7 0 rfl ?_
    refine w_ifnullR (pc := 9) hC dX11_truly_9 ?_
    refine w_iload_n (pc := 12) hC dX11_truly_12 3 rfl rfl ?_
    refine w_callS (pc := 13) (As := [.int (J n)]) (rest := []) hC dX11_truly_13 cs_X11_155 (c_X11_isDaysOn (kl K) G (CW A D T G.2.1 I F Q P) n (show -2147483648 ≤ n ∧ n < 2147483648 from by first | assumption | omega)) (by decide) ⟨Nat.le_of_ble_eq_true rfl, Nat.le_of_ble_eq_true rfl⟩ rfl (Nat.le_of_ble_eq_true rfl) rfl (fun vo wo hv => ?_)
    obtain ⟨hv1, hw1⟩ := hv
    rw [hv1, hw1]
    show WW K G 0 0 (CW A D T G.2.1 I F Q P) 16 [(4, .ref qb), (0, .ref (A 0)), (1, .int (J a)), (2, .int (J n)), (3, .int (J p))] [.int (J (bI (0 ≤ n ∧ n ≤ 6)))]
    refine w_if_eq_b (pc := 16) (tgt := 36) hC dX11_truly_16 (by decide) (fun c16 => ?_) (fun c16 => ?_)
    · refine w_ldc2 (pc := 36) hC dX11_truly_36 (z := (-9223372036854775808)) tw_3_187 (by decide) ?_
      refine w_lret (pc := 39) hC hRT dX11_truly_39 ?_
      refine ⟨(I 56), D, (I 23), (I 50), (I 51), (I 52), (I 53), (I 54), (F 30), (F 31), (F 32), retL (by unfold v_truly; first | (rw [if_pos (by omega)]; rfl) | (rw [if_neg (by omega), r63.2.1, r63.2.2.1])), CW_cong (au_ms (k := 23) (v := I 23) rfl rfl (au_ms (k := 50) (v := I 50) rfl rfl (au_ms (k := 51) (v := I 51) rfl rfl (au_ms (k := 52) (v := I 52) rfl rfl (au_ms (k := 53) (v := I 53) rfl rfl (au_ms (k := 54) (v := I 54) rfl rfl (au_ms (k := 56) (v := I 56) rfl rfl rfl))))))) (fu_ms (k := 30) (v := F 30) rfl rfl (fu_ms (k := 31) (v := F 31) rfl rfl (fu_ms (k := 32) (v := F 32) rfl rfl rfl))) rfl⟩
    · refine w_iload_n (pc := 19) hC dX11_truly_19 4 rfl rfl ?_
      refine w_callS (pc := 20) (As := [.int (J p)]) (rest := []) hC dX11_truly_20 cs_X11_75 (c_X11_isEither (kl K) G (CW A D T G.2.1 I F Q P) p (show -2147483648 ≤ p ∧ p < 2147483648 from by first | assumption | omega)) (by decide) ⟨Nat.le_of_ble_eq_true rfl, Nat.le_of_ble_eq_true rfl⟩ rfl (Nat.le_of_ble_eq_true rfl) rfl (fun vo wo hv => ?_)
      obtain ⟨hv1, hw1⟩ := hv
      rw [hv1, hw1]
      show WW K G 0 0 (CW A D T G.2.1 I F Q P) 23 [(4, .ref qb), (0, .ref (A 0)), (1, .int (J a)), (2, .int (J n)), (3, .int (J p))] [.int (J (bI (p = 0 ∨ p = 1)))]
      refine w_if_eq_b (pc := 23) (tgt := 36) hC dX11_truly_23 (by decide) (fun c23 => ?_) (fun c23 => ?_)
      · refine w_ldc2 (pc := 36) hC dX11_truly_36 (z := (-9223372036854775808)) tw_3_187 (by decide) ?_
        refine w_lret (pc := 39) hC hRT dX11_truly_39 ?_
        refine ⟨(I 56), D, (I 23), (I 50), (I 51), (I 52), (I 53), (I 54), (F 30), (F 31), (F 32), retL (by unfold v_truly; first | (rw [if_pos (by omega)]; rfl) | (rw [if_neg (by omega), r63.2.1, r63.2.2.1])), CW_cong (au_ms (k := 23) (v := I 23) rfl rfl (au_ms (k := 50) (v := I 50) rfl rfl (au_ms (k := 51) (v := I 51) rfl rfl (au_ms (k := 52) (v := I 52) rfl rfl (au_ms (k := 53) (v := I 53) rfl rfl (au_ms (k := 54) (v := I 54) rfl rfl (au_ms (k := 56) (v := I 56) rfl rfl rfl))))))) (fu_ms (k := 30) (v := F 30) rfl rfl (fu_ms (k := 31) (v := F 31) rfl rfl (fu_ms (k := 32) (v := F 32) rfl rfl rfl))) rfl⟩
      · refine w_aload_n (pc := 26) hC dX11_truly_26 1 rfl rfl ?_
        refine w_getf (pc := 27) (v := .ref (A 1)) hC dX11_truly_27 fi_X11_12 0 CW_0 rfl ?_
        refine w_getfN (pc := 30) (v := .int (J (S 0))) hC dX11_truly_30 fn_X11_57 1 CW_1 (congrArg (fun z : Int => some (Value.int (J z))) (l_n hL)) ?_
        refine w_if_ne (pc := 33) (tgt := 40) hC dX11_truly_33 (by decide) (by omega) (fun c33 => ?_) (fun c33 => ?_)
        · refine w_aload_n (pc := 40) hC dX11_truly_40 1 rfl rfl ?_
          refine w_getf (pc := 41) (v := .ref (A 1)) hC dX11_truly_41 fi_X11_12 0 CW_0 rfl ?_
          refine w_aload_n (pc := 44) hC dX11_truly_44 1 rfl rfl ?_
          refine w_getf (pc := 45) (v := .ref (A 56)) hC dX11_truly_45 fi_X11_45 0 CW_0 rfl ?_
          refine w_callV (pc := 48) (As := [.ref (A 56)]) (rest := []) hC dX11_truly_48 cv_X11_78 (c_X6_findTruth (kl K) G A D T I F Q P S (show RI S from by first | assumption | omega) (show LRn G.2.1 S I F Q P from by exact hL)) (by decide) ⟨Nat.le_of_ble_eq_true rfl, Nat.le_of_ble_eq_true rfl⟩ (q0 := 1) CW_1 rfl rfl rfl (Nat.le_of_ble_eq_true rfl) rfl (fun vo wo hv => ?_)
          obtain ⟨b56_48, hv1, hw1, r48⟩ := hv
          rw [hv1, hw1]
          show WW K G 0 0 (CW A D T G.2.1 (au I 56 b56_48) F Q P) 51 [(4, .ref qb), (0, .ref (A 0)), (1, .int (J a)), (2, .int (J n)), (3, .int (J p))] []
          have r48 : ∀ zq : Int, 0 ≤ zq → zq < S 0 → b56_48 zq = dg (TB S) zq := r48
          refine w_aload_n (pc := 51) hC dX11_truly_51 1 rfl rfl ?_
          refine w_aload (pc := 52) hC dX11_truly_52 0 rfl ?_
          refine w_iload_n (pc := 54) hC dX11_truly_54 3 rfl rfl ?_
          refine w_aload_n (pc := 55) hC dX11_truly_55 1 rfl rfl ?_
          refine w_getf (pc := 56) (v := .ref (A 1)) hC dX11_truly_56 fi_X11_12 0 CW_0 rfl ?_
          refine w_getfN (pc := 59) (v := .ref (A 2)) hC dX11_truly_59 fn_X11_61 1 CW_1 rfl ?_
          refine w_iconst (pc := 62) hC dX11_truly_62 ?_
          refine w_callV (pc := 63) (As := [.ref qb, .int (J n), .ref (A 2), .int (J 0)]) (rest := []) hC dX11_truly_63 cv_X11_160 (c_X11_goBehind_v2 (kl K) G A D T (au I 56 b56_48) F Q P S a (S 6) (-1) qb n 0 (show RI S from by first | assumption | omega) (show LRn G.2.1 S (au I 56 b56_48) F Q P from by exact (LRb_au (by decide) hL)) (show 0 ≤ a ∧ a < S 1 from by first | assumption | omega) (show CLB P G.2.1 S a qb from by first | assumption | omega) (show 0 < S 0 from by first | assumption | omega) (show 0 ≤ n ∧ n ≤ 6 from by first | assumption | omega) (show VB (S 0) (S 6) from by exact hR.bd) (show ∀ r : Int, 0 ≤ r → r < S 0 → (I 2) r = dg (S 6) r from by exact fun r r0 r1 => l_bd hL r0 r1) (show (-1) = -1 ∨ (0 ≤ (-1) ∧ (-1) < 6) from by exact Or.inl rfl) (show 0 = if (-1) = -1 then 0 else 2 ^ ((-1) : Int).toNat from by rfl)) (by decide) ⟨Nat.le_of_ble_eq_true rfl, Nat.le_of_ble_eq_true rfl⟩ (q0 := 0) CW_0 rfl rfl rfl (Nat.le_of_ble_eq_true rfl) rfl (fun vo wo hv => ?_)
          obtain ⟨D_63, b23_63, b50_63, b51_63, b52_63, b53_63, b54_63, g30_63, g31_63, g32_63, hv1, hw1, r63⟩ := hv
          rw [hv1, hw1]
          refine w_weq (CW_cong (au_th (au_th (au_th (au_th (au_th (au_th rfl (au_cm (by decide) rfl)) (au_cm (by decide) rfl)) (au_cm (by decide) rfl)) (au_cm (by decide) rfl)) (au_cm (by decide) rfl)) (au_cm (by decide) rfl)) rfl rfl) ?_
          show WW K G 0 0 (CW A D_63 T G.2.1 (au (au (au (au (au (au (au I 23 b23_63) 50 b50_63) 51 b51_63) 52 b52_63) 53 b53_63) 54 b54_63) 56 b56_48) (fu (fu (fu F 30 g30_63) 31 g31_63) 32 g32_63) Q P) 66 [(4, .ref qb), (0, .ref (A 0)), (1, .int (J a)), (2, .int (J n)), (3, .int (J p))] []
          have r63 : DOK (S 0) b50_63 b51_63 g30_63 ∧ (∀ f : Int → Int, isum f (DBf (S 0) b50_63) b51_63 (g30_63 : Int).toNat = EXP S a (-1) (-7) n.toNat f (S 6)) ∧ g32_63 = 100 ^ n.toNat ∧ isum one1 (DBf (S 0) b50_63) b51_63 (g30_63 : Int).toNat = g32_63 := r63
          have p5 := p100_7 (k := n) (by omega) (by omega)
          rw [← r63.2.2.1] at p5
          have ht1 := r63.2.2.2
          have hb := is_bd (f := fun x => bI (x = TB S)) r63.1 (fun k k0 k1 => bI_06 _)
          refine w_aload_n (pc := 66) hC dX11_truly_66 1 rfl rfl ?_
          refine w_getf (pc := 67) (v := .ref (A 49)) hC dX11_truly_67 fi_X11_41 0 CW_0 rfl ?_
          refine w_aload_n (pc := 70) hC dX11_truly_70 1 rfl rfl ?_
          refine w_getf (pc := 71) (v := .ref (A 56)) hC dX11_truly_71 fi_X11_45 0 CW_0 rfl ?_
          refine w_callV (pc := 74) (As := [.ref (A 56)]) (rest := []) hC dX11_truly_74 cv_X11_176 (c_X4_being (kl K) G A D_63 T (au (au (au (au (au (au (au I 23 b23_63) 50 b50_63) 51 b51_63) 52 b52_63) 53 b53_63) 54 b54_63) 56 b56_48) (fu (fu (fu F 30 g30_63) 31 g31_63) 32 g32_63) Q P S (TB S) (show RI S from by first | assumption | omega) (show LRn G.2.1 S (au (au (au (au (au (au (au I 23 b23_63) 50 b50_63) 51 b51_63) 52 b52_63) 53 b53_63) 54 b54_63) 56 b56_48) (fu (fu (fu F 30 g30_63) 31 g31_63) 32 g32_63) Q P from by exact (LRb_fu (by decide) (LRb_fu (by decide) (LRb_fu (by decide) (LRb_au (by decide) (LRb_au (by decide) (LRb_au (by decide) (LRb_au (by decide) (LRb_au (by decide) (LRb_au (by decide) (LRb_au (by decide) hL))))))))))) (show DOK (S 0) b50_63 b51_63 g30_63 from by exact r63.1) (show VB (S 0) (TB S) from by exact VB_TB S hn.1 hn.2) (show ∀ r : Int, 0 ≤ r → r < S 0 → b56_48 r = dg (TB S) r from by exact r48)) (by decide) ⟨Nat.le_of_ble_eq_true rfl, Nat.le_of_ble_eq_true rfl⟩ (q0 := 49) CW_49 rfl rfl rfl (Nat.le_of_ble_eq_true rfl) rfl (fun vo wo hv => ?_)
          obtain ⟨hv1, hw1⟩ := hv
          rw [hv1, hw1]
          show WW K G 0 0 (CW A D_63 T G.2.1 (au (au (au (au (au (au (au I 23 b23_63) 50 b50_63) 51 b51_63) 52 b52_63) 53 b53_63) 54 b54_63) 56 b56_48) (fu (fu (fu F 30 g30_63) 31 g31_63) 32 g32_63) Q P) 77 [(4, .ref qb), (0, .ref (A 0)), (1, .int (J a)), (2, .int (J n)), (3, .int (J p))] [.long (JL (isum (fun x => bI (x = (TB S))) (DBf (S 0) b50_63) b51_63 (g30_63 : Int).toNat))]
          refine w_aload_n (pc := 77) hC dX11_truly_77 1 rfl rfl ?_
          refine w_getf (pc := 78) (v := .ref (A 49)) hC dX11_truly_78 fi_X11_41 0 CW_0 rfl ?_
          refine w_callV (pc := 81) (As := []) (rest := [.long (JL (isum (fun x => bI (x = (TB S))) (DBf (S 0) b50_63) b51_63 (g30_63 : Int).toNat))]) hC dX11_truly_81 cv_X11_168 (c_X4_whole (kl K) G A D_63 T (au (au (au (au (au (au (au I 23 b23_63) 50 b50_63) 51 b51_63) 52 b52_63) 53 b53_63) 54 b54_63) 56 b56_48) (fu (fu (fu F 30 g30_63) 31 g31_63) 32 g32_63) Q P) (by decide) ⟨Nat.le_of_ble_eq_true rfl, Nat.le_of_ble_eq_true rfl⟩ (q0 := 49) CW_49 rfl rfl rfl (Nat.le_of_ble_eq_true rfl) rfl (fun vo wo hv => ?_)
          obtain ⟨hv1, hw1⟩ := hv
          rw [hv1, hw1]
          show WW K G 0 0 (CW A D_63 T G.2.1 (au (au (au (au (au (au (au I 23 b23_63) 50 b50_63) 51 b51_63) 52 b52_63) 53 b53_63) 54 b54_63) 56 b56_48) (fu (fu (fu F 30 g30_63) 31 g31_63) 32 g32_63) Q P) 84 [(4, .ref qb), (0, .ref (A 0)), (1, .int (J a)), (2, .int (J n)), (3, .int (J p))] [.long (JL g32_63), .long (JL (isum (fun x => bI (x = (TB S))) (DBf (S 0) b50_63) b51_63 (g30_63 : Int).toNat))]
          refine w_iload_n (pc := 84) hC dX11_truly_84 4 rfl rfl ?_
          refine w_callS (pc := 85) (As := [.long (JL (isum (fun x => bI (x = (TB S))) (DBf (S 0) b50_63) b51_63 (g30_63 : Int).toNat)), .long (JL g32_63), .int (J p)]) (rest := []) hC dX11_truly_85 cs_X11_172 (c_X11_partOf (kl K) G A D_63 T (au (au (au (au (au (au (au I 23 b23_63) 50 b50_63) 51 b51_63) 52 b52_63) 53 b53_63) 54 b54_63) 56 b56_48) (fu (fu (fu F 30 g30_63) 31 g31_63) 32 g32_63) Q P (isum (fun x => bI (x = (TB S))) (DBf (S 0) b50_63) b51_63 (g30_63 : Int).toNat) g32_63 p (show -100000000000000 ≤ (isum (fun x => bI (x = (TB S))) (DBf (S 0) b50_63) b51_63 (g30_63 : Int).toNat) ∧ (isum (fun x => bI (x = (TB S))) (DBf (S 0) b50_63) b51_63 (g30_63 : Int).toNat) ≤ 100000000000000 from by first | assumption | omega) (show 0 < g32_63 ∧ g32_63 ≤ 1000000000000 from by first | assumption | omega) (show 0 ≤ p ∧ p ≤ 1 from by first | assumption | omega)) (by decide) ⟨Nat.le_of_ble_eq_true rfl, Nat.le_of_ble_eq_true rfl⟩ rfl (Nat.le_of_ble_eq_true rfl) rfl (fun vo wo hv => ?_)
          obtain ⟨hv1, hw1⟩ := hv
          rw [hv1, hw1]
          show WW K G 0 0 (CW A D_63 T G.2.1 (au (au (au (au (au (au (au I 23 b23_63) 50 b50_63) 51 b51_63) 52 b52_63) 53 b53_63) 54 b54_63) 56 b56_48) (fu (fu (fu F 30 g30_63) 31 g31_63) 32 g32_63) Q P) 88 [(4, .ref qb), (0, .ref (A 0)), (1, .int (J a)), (2, .int (J n)), (3, .int (J p))] [.long (JL (LOW (isum (fun x => bI (x = (TB S))) (DBf (S 0) b50_63) b51_63 (g30_63 : Int).toNat) g32_63 p))]
          refine w_lret (pc := 88) hC hRT dX11_truly_88 ?_
          refine ⟨b56_48, D_63, b23_63, b50_63, b51_63, b52_63, b53_63, b54_63, g30_63, g31_63, g32_63, retL (by unfold v_truly; first | (rw [if_pos (by omega)]; rfl) | (rw [if_neg (by omega), r63.2.1, r63.2.2.1])), rfl⟩
        · refine w_ldc2 (pc := 36) hC dX11_truly_36 (z := (-9223372036854775808)) tw_3_187 (by decide) ?_
          refine w_lret (pc := 39) hC hRT dX11_truly_39 ?_
          refine ⟨(I 56), D, (I 23), (I 50), (I 51), (I 52), (I 53), (I 54), (F 30), (F 31), (F 32), retL (by unfold v_truly; first | (rw [if_pos (by omega)]; rfl) | (rw [if_neg (by omega), r63.2.1, r63.2.2.1])), CW_cong (au_ms (k := 23) (v := I 23) rfl rfl (au_ms (k := 50) (v := I 50) rfl rfl (au_ms (k := 51) (v := I 51) rfl rfl (au_ms (k := 52) (v := I 52) rfl rfl (au_ms (k := 53) (v := I 53) rfl rfl (au_ms (k := 54) (v := I 54) rfl rfl (au_ms (k := 56) (v := I 56) rfl rfl rfl))))))) (fu_ms (k := 30) (v := F 30) rfl rfl (fu_ms (k := 31) (v := F 31) rfl rfl (fu_ms (k := 32) (v := F 32) rfl rfl rfl))) rfl⟩
  · rw [if_neg hc] at hv1
    rw [hv1, hw1]
    show WW K G 0 0 (CW A D T G.2.1 I F Q P) 5 [(0, .ref (A 0)), (1, .int (J a)), (2, .int (J n)), (3, .int (J p))] [.null]
    refine w_astoreN (pc := 5) hC dX11_truly_5 (lv2 := [(4, .null), (0, .ref (A 0)), (1, .int (J a)), (2, .int (J n)), (3, .int (J p))]) (by rw [hnL]; decide) rfl ?_
    refine w_aloadN (pc := 7) hC dX11_truly_7 0 rfl ?_
    refine w_ifnullN (pc := 9) (tgt := 36) hC dX11_truly_9 (by decide) ?_
    refine w_ldc2 (pc := 36) hC dX11_truly_36 (z := (-9223372036854775808)) tw_3_187 (by decide) ?_
    refine w_lret (pc := 39) hC hRT dX11_truly_39 ?_
    refine ⟨(I 56), D, (I 23), (I 50), (I 51), (I 52), (I 53), (I 54), (F 30), (F 31), (F 32), retL (by unfold v_truly; first | (rw [if_pos (by omega)]; rfl) | (rw [if_neg (by omega), r63.2.1, r63.2.2.1])), CW_cong (au_ms (k := 23) (v := I 23) rfl rfl (au_ms (k := 50) (v := I 50) rfl rfl (au_ms (k := 51) (v := I 51) rfl rfl (au_ms (k := 52) (v := I 52) rfl rfl (au_ms (k := 53) (v := I 53) rfl rfl (au_ms (k := 54) (v := I 54) rfl rfl (au_ms (k := 56) (v := I 56) rfl rfl rfl))))))) (fu_ms (k := 30) (v := F 30) rfl rfl (fu_ms (k := 31) (v := F 31) rfl rfl (fu_ms (k := 32) (v := F 32) rfl rfl rfl))) rfl⟩
set_option maxRecDepth 100000 in
set_option maxHeartbeats 4000000 in
theorem c_X11_likely (l : Launch) (G : GT) (A D : Nat → Nat) (T : Nat) (I : Nat → Int → Int) (F : Nat → Int) (Q : Nat → Nat → Option Nat) (P : va_W) (S : Int → Int) (a : Int) (n : Int) (r : Int) (hR : RI S) (hL : LRn G.2.1 S I F Q P) (h0 : -2147483648 ≤ a ∧ a < 2147483648) (h1 : -2147483648 ≤ n ∧ n < 2147483648) (h2 : -2147483648 ≤ r ∧ r < 2147483648) : CT l yX11_likely cX11_likely 5 (some .int) 6 0 0 G [.ref (A 0), .int (J a), .int (J n), .int (J r)] (CW A D T G.2.1 I F Q P) (fun vo wo => ∃ (z : Int) (b57 : Int → Int) (D : Nat → Nat) (b23 : Int → Int) (b50 : Int → Int) (b51 : Int → Int) (b52 : Int → Int) (b53 : Int → Int) (b54 : Int → Int) (g30 : Int) (g31 : Int) (g32 : Int), vo = some (.int (J z)) ∧ wo = CW A D T G.2.1 (au (au (au (au (au (au (au I 23 b23) 50 b50) 51 b51) 52 b52) 53 b53) 54 b54) 57 b57) (fu (fu (fu F 30 g30) 31 g31) 32 g32) Q P ∧ (VLIK S a n r z)) := by
  refine CT_of (own := RX11) rfl rfl (Nat.le_of_ble_eq_true rfl) (fun K hl hnL hC hRT hin => ?_)
  subst hl
  show WW K G 0 0 (CW A D T G.2.1 I F Q P) 0 [(0, .ref (A 0)), (1, .int (J a)), (2, .int (J n)), (3, .int (J r))] []
  have hn := hR.n
  have hbd := hR.bd
  refine w_aload_n (pc := 0) hC dX11_likely_0 0 rfl rfl ?_
  refine w_iload_n (pc := 1) hC dX11_likely_1 1 rfl rfl ?_
  refine w_callV (pc := 2) (As := [.int (J a)]) (rest := []) hC dX11_likely_2 cv_X11_112 (c_X11_clubAt (kl K) G A D T I F Q P S a (show RI S from by assumption) (show LRn G.2.1 S I F Q P from by exact hL) (show -2147483648 ≤ a ∧ a < 2147483648 from by omega)) (by decide) ⟨Nat.le_of_ble_eq_true rfl, Nat.le_of_ble_eq_true rfl⟩ (q0 := 0) CW_0 rfl rfl rfl (Nat.le_of_ble_eq_true rfl) rfl (fun vo wo hv => ?_)
  obtain ⟨hv1, hw1⟩ := hv
  by_cases hc : 0 ≤ a ∧ a < S 1
  · obtain ⟨qb, hQc, hcl⟩ := l_clb hL hc.1 hc.2
    rw [if_pos hc, hQc] at hv1
    rw [hv1, hw1]
    show WW K G 0 0 (CW A D T G.2.1 I F Q P) 5 [(0, .ref (A 0)), (1, .int (J a)), (2, .int (J n)), (3, .int (J r))] [.ref qb]
    refine w_astore (pc := 5) hC dX11_likely_5 (lv2 := [(4, .ref qb), (0, .ref (A 0)), (1, .int (J a)), (2, .int (J n)), (3, .int (J r))]) (by rw [hnL]; decide) rfl ?_
    refine w_aload (pc := 7) hC dX11_likely_7 0 rfl ?_
    refine w_ifnullR (pc := 9) hC dX11_likely_9 ?_
    refine w_aload_n (pc := 12) hC dX11_likely_12 1 rfl rfl ?_
    refine w_iload_n (pc := 13) hC dX11_likely_13 4 rfl rfl ?_
    refine w_callV (pc := 14) (As := [.int (J r)]) (rest := []) hC dX11_likely_14 cv_X11_72 (c_X11_isRung (kl K) G A D T I F Q P S r (show RI S from by first | assumption | omega) (show LRn G.2.1 S I F Q P from by exact hL) (show -2147483648 ≤ r ∧ r < 2147483648 from by first | assumption | omega)) (by decide) ⟨Nat.le_of_ble_eq_true rfl, Nat.le_of_ble_eq_true rfl⟩ (q0 := 0) CW_0 rfl rfl rfl (Nat.le_of_ble_eq_true rfl) rfl (fun vo wo hv => ?_)
    obtain ⟨hv1, hw1⟩ := hv
    rw [hv1, hw1]
    show WW K G 0 0 (CW A D T G.2.1 I F Q P) 17 [(4, .ref qb), (0, .ref (A 0)), (1, .int (J a)), (2, .int (J n)), (3, .int (J r))] [.int (J (bI (0 ≤ r ∧ r < S 0)))]
    refine w_if_ne_b (pc := 17) (tgt := 22) hC dX11_likely_17 (by decide) (fun c17 => ?_) (fun c17 => ?_)
    · refine w_iload_n (pc := 22) hC dX11_likely_22 3 rfl rfl ?_
      refine w_callS (pc := 23) (As := [.int (J n)]) (rest := []) hC dX11_likely_23 cs_X11_155 (c_X11_isDaysOn (kl K) G (CW A D T G.2.1 I F Q P) n (show -2147483648 ≤ n ∧ n < 2147483648 from by first | assumption | omega)) (by decide) ⟨Nat.le_of_ble_eq_true rfl, Nat.le_of_ble_eq_true rfl⟩ rfl (Nat.le_of_ble_eq_true rfl) rfl (fun vo wo hv => ?_)
      obtain ⟨hv1, hw1⟩ := hv
      rw [hv1, hw1]
      show WW K G 0 0 (CW A D T G.2.1 I F Q P) 26 [(4, .ref qb), (0, .ref (A 0)), (1, .int (J a)), (2, .int (J n)), (3, .int (J r))] [.int (J (bI (0 ≤ n ∧ n ≤ 6)))]
      refine w_if_ne_b (pc := 26) (tgt := 32) hC dX11_likely_26 (by decide) (fun c26 => ?_) (fun c26 => ?_)
      · refine w_aload_n (pc := 32) hC dX11_likely_32 1 rfl rfl ?_
        refine w_aload (pc := 33) hC dX11_likely_33 0 rfl ?_
        refine w_iload_n (pc := 35) hC dX11_likely_35 3 rfl rfl ?_
        refine w_aload_n (pc := 36) hC dX11_likely_36 1 rfl rfl ?_
        refine w_getf (pc := 37) (v := .ref (A 1)) hC dX11_likely_37 fi_X11_12 0 CW_0 rfl ?_
        refine w_getfN (pc := 40) (v := .ref (A 2)) hC dX11_likely_40 fn_X11_61 1 CW_1 rfl ?_
        refine w_iconst (pc := 43) hC dX11_likely_43 ?_
        refine w_callV (pc := 44) (As := [.ref qb, .int (J n), .ref (A 2), .int (J 0)]) (rest := []) hC dX11_likely_44 cv_X11_160 (c_X11_goBehind_v2 (kl K) G A D T I F Q P S a (S 6) (-1) qb n 0 (show RI S from by first | assumption | omega) (show LRn G.2.1 S I F Q P from by exact hL) (show 0 ≤ a ∧ a < S 1 from by first | assumption | omega) (show CLB P G.2.1 S a qb from by first | assumption | omega) (show 0 < S 0 from by first | assumption | omega) (show 0 ≤ n ∧ n ≤ 6 from by first | assumption | omega) (show VB (S 0) (S 6) from by exact hR.bd) (show ∀ r : Int, 0 ≤ r → r < S 0 → (I 2) r = dg (S 6) r from by exact fun r r0 r1 => l_bd hL r0 r1) (show (-1) = -1 ∨ (0 ≤ (-1) ∧ (-1) < 6) from by exact Or.inl rfl) (show 0 = if (-1) = -1 then 0 else 2 ^ ((-1) : Int).toNat from by rfl)) (by decide) ⟨Nat.le_of_ble_eq_true rfl, Nat.le_of_ble_eq_true rfl⟩ (q0 := 0) CW_0 rfl rfl rfl (Nat.le_of_ble_eq_true rfl) rfl (fun vo wo hv => ?_)
        obtain ⟨D_44, b23_44, b50_44, b51_44, b52_44, b53_44, b54_44, g30_44, g31_44, g32_44, hv1, hw1, r44⟩ := hv
        rw [hv1, hw1]
        show WW K G 0 0 (CW A D_44 T G.2.1 (au (au (au (au (au (au I 23 b23_44) 50 b50_44) 51 b51_44) 52 b52_44) 53 b53_44) 54 b54_44) (fu (fu (fu F 30 g30_44) 31 g31_44) 32 g32_44) Q P) 47 [(4, .ref qb), (0, .ref (A 0)), (1, .int (J a)), (2, .int (J n)), (3, .int (J r))] []
        have r44 : DOK (S 0) b50_44 b51_44 g30_44 ∧ (∀ f : Int → Int, isum f (DBf (S 0) b50_44) b51_44 (g30_44 : Int).toNat = EXP S a (-1) (-7) n.toNat f (S 6)) ∧ g32_44 = 100 ^ n.toNat ∧ isum one1 (DBf (S 0) b50_44) b51_44 (g30_44 : Int).toNat = g32_44 := r44
        have p5 := p100_7 (k := n) (by omega) (by omega)
        rw [← r44.2.2.1] at p5
        have ht1 := r44.2.2.2
        refine w_aload_n (pc := 47) hC dX11_likely_47 1 rfl rfl ?_
        refine w_getf (pc := 48) (v := .ref (A 49)) hC dX11_likely_48 fi_X11_41 0 CW_0 rfl ?_
        refine w_aload_n (pc := 51) hC dX11_likely_51 1 rfl rfl ?_
        refine w_getf (pc := 52) (v := .ref (A 57)) hC dX11_likely_52 fi_X11_48 0 CW_0 rfl ?_
        refine w_callV (pc := 55) (As := [.ref (A 57)]) (rest := []) hC dX11_likely_55 cv_X11_180 (c_X4_findLikeliest (kl K) G A D_44 T (au (au (au (au (au (au I 23 b23_44) 50 b50_44) 51 b51_44) 52 b52_44) 53 b53_44) 54 b54_44) (fu (fu (fu F 30 g30_44) 31 g31_44) 32 g32_44) Q P S (show RI S from by first | assumption | omega) (show LRn G.2.1 S (au (au (au (au (au (au I 23 b23_44) 50 b50_44) 51 b51_44) 52 b52_44) 53 b53_44) 54 b54_44) (fu (fu (fu F 30 g30_44) 31 g31_44) 32 g32_44) Q P from by exact (LRb_fu (by decide) (LRb_fu (by decide) (LRb_fu (by decide) (LRb_au (by decide) (LRb_au (by decide) (LRb_au (by decide) (LRb_au (by decide) (LRb_au (by decide) (LRb_au (by decide) hL)))))))))) (show DOK (S 0) b50_44 b51_44 g30_44 from by exact r44.1) (show 1 ≤ g30_44 from by exact cnt_1 r44.1 (by omega)) (show isum one1 (DBf (S 0) b50_44) b51_44 (g30_44 : Int).toNat ≤ 1000000000000 from by omega)) (by decide) ⟨Nat.le_of_ble_eq_true rfl, Nat.le_of_ble_eq_true rfl⟩ (q0 := 49) CW_49 rfl rfl rfl (Nat.le_of_ble_eq_true rfl) rfl (fun vo wo hv => ?_)
        obtain ⟨b57_55, hv1, hw1, r55⟩ := hv
        rw [hv1, hw1]
        show WW K G 0 0 (CW A D_44 T G.2.1 (au (au (au (au (au (au (au I 23 b23_44) 50 b50_44) 51 b51_44) 52 b52_44) 53 b53_44) 54 b54_44) 57 b57_55) (fu (fu (fu F 30 g30_44) 31 g31_44) 32 g32_44) Q P) 58 [(4, .ref qb), (0, .ref (A 0)), (1, .int (J a)), (2, .int (J n)), (3, .int (J r))] []
        have r55 : ∃ x : Int, (0 ≤ x ∧ x < g30_44) ∧ (∀ j : Int, 0 ≤ j → j < g30_44 → (b51_44 j < b51_44 x ∨ (b51_44 j = b51_44 x ∧ b50_44 x ≤ b50_44 j))) ∧ ∀ zq : Int, 0 ≤ zq → zq < S 0 → b57_55 zq = dg (DBf (S 0) b50_44 x) zq := r55
        obtain ⟨x, hx1, hx2, hx3⟩ := r55
        refine w_aload_n (pc := 58) hC dX11_likely_58 1 rfl rfl ?_
        refine w_getf (pc := 59) (v := .ref (A 57)) hC dX11_likely_59 fi_X11_48 0 CW_0 rfl ?_
        refine w_iload_n (pc := 62) hC dX11_likely_62 4 rfl rfl ?_
        refine w_ialdV (pc := 63) (g := b57_55) (v := b57_55 r) hC dX11_likely_63 57 CW_57 (by omega) (Nat.le_of_ble_eq_true rfl) rfl ?_
        refine w_iret (pc := 64) hC hRT dX11_likely_64 rfl ?_
        refine ⟨b57_55 r, b57_55, D_44, b23_44, b50_44, b51_44, b52_44, b53_44, b54_44, g30_44, g31_44, g32_44, rfl, rfl, ?_⟩
        · unfold VLIK; rw [if_neg (by omega), if_neg (by omega)]; exact ⟨_, LIK_of r44.1 (fun y => (r44.2.1 _).symm) hx1.1 hx1.2 hx2, hx3 r (by omega) (by omega)⟩
      · refine w_bipush (pc := 29) hC dX11_likely_29 (z := (-2)) rfl ?_
        refine w_iret (pc := 31) hC hRT dX11_likely_31 rfl ?_
        refine ⟨(-2), (I 57), D, (I 23), (I 50), (I 51), (I 52), (I 53), (I 54), (F 30), (F 31), (F 32), rfl, CW_cong (au_ms (k := 23) (v := I 23) rfl rfl (au_ms (k := 50) (v := I 50) rfl rfl (au_ms (k := 51) (v := I 51) rfl rfl (au_ms (k := 52) (v := I 52) rfl rfl (au_ms (k := 53) (v := I 53) rfl rfl (au_ms (k := 54) (v := I 54) rfl rfl (au_ms (k := 57) (v := I 57) rfl rfl rfl))))))) (fu_ms (k := 30) (v := F 30) rfl rfl (fu_ms (k := 31) (v := F 31) rfl rfl (fu_ms (k := 32) (v := F 32) rfl rfl rfl))) rfl, ?_⟩
        · unfold VLIK; rw [if_neg (by omega), if_pos (by omega)]
    · refine w_iconst (pc := 20) hC dX11_likely_20 ?_
      refine w_iret (pc := 21) hC hRT dX11_likely_21 rfl ?_
      refine ⟨(-1), (I 57), D, (I 23), (I 50), (I 51), (I 52), (I 53), (I 54), (F 30), (F 31), (F 32), rfl, CW_cong (au_ms (k := 23) (v := I 23) rfl rfl (au_ms (k := 50) (v := I 50) rfl rfl (au_ms (k := 51) (v := I 51) rfl rfl (au_ms (k := 52) (v := I 52) rfl rfl (au_ms (k := 53) (v := I 53) rfl rfl (au_ms (k := 54) (v := I 54) rfl rfl (au_ms (k := 57) (v := I 57) rfl rfl rfl))))))) (fu_ms (k := 30) (v := F 30) rfl rfl (fu_ms (k := 31) (v := F 31) rfl rfl (fu_ms (k := 32) (v := F 32) rfl rfl rfl))) rfl, ?_⟩
      · unfold VLIK; rw [if_pos (by omega)]
  · rw [if_neg hc] at hv1
    rw [hv1, hw1]
    show WW K G 0 0 (CW A D T G.2.1 I F Q P) 5 [(0, .ref (A 0)), (1, .int (J a)), (2, .int (J n)), (3, .int (J r))] [.null]
    refine w_astoreN (pc := 5) hC dX11_likely_5 (lv2 := [(4, .null), (0, .ref (A 0)), (1, .int (J a)), (2, .int (J n)), (3, .int (J r))]) (by rw [hnL]; decide) rfl ?_
    refine w_aloadN (pc := 7) hC dX11_likely_7 0 rfl ?_
    refine w_ifnullN (pc := 9) (tgt := 20) hC dX11_likely_9 (by decide) ?_
    refine w_iconst (pc := 20) hC dX11_likely_20 ?_
    refine w_iret (pc := 21) hC hRT dX11_likely_21 rfl ?_
    refine ⟨(-1), (I 57), D, (I 23), (I 50), (I 51), (I 52), (I 53), (I 54), (F 30), (F 31), (F 32), rfl, CW_cong (au_ms (k := 23) (v := I 23) rfl rfl (au_ms (k := 50) (v := I 50) rfl rfl (au_ms (k := 51) (v := I 51) rfl rfl (au_ms (k := 52) (v := I 52) rfl rfl (au_ms (k := 53) (v := I 53) rfl rfl (au_ms (k := 54) (v := I 54) rfl rfl (au_ms (k := 57) (v := I 57) rfl rfl rfl))))))) (fu_ms (k := 30) (v := F 30) rfl rfl (fu_ms (k := 31) (v := F 31) rfl rfl (fu_ms (k := 32) (v := F 32) rfl rfl rfl))) rfl, ?_⟩
    · unfold VLIK; rw [if_pos (by omega)]
set_option maxRecDepth 100000 in
set_option maxHeartbeats 4000000 in
theorem c_X11_refuse (l : Launch) (G : GT) (A D : Nat → Nat) (T : Nat) (I : Nat → Int → Int) (F : Nat → Int) (Q : Nat → Nat → Option Nat) (P : va_W) (S : Int → Int) (a : Int) (n : Int) (nm : Int) (p : Int) (hR : RI S) (hL : LRn G.2.1 S I F Q P) (h0 : -2147483648 ≤ a ∧ a < 2147483648) (h1 : -2147483648 ≤ n ∧ n < 2147483648) (h2 : -2147483648 ≤ nm ∧ nm < 2147483648) (h3 : -2147483648 ≤ p ∧ p < 2147483648) : CT l yX11_refuse cX11_refuse 8 (some .long) 6 0 0 G [.ref (A 0), .int (J a), .int (J n), .int (J nm), .int (J p)] (CW A D T G.2.1 I F Q P) (fun vo wo => ∃ (D : Nat → Nat) (b23 : Int → Int) (b50 : Int → Int) (b51 : Int → Int) (b52 : Int → Int) (b53 : Int → Int) (b54 : Int → Int) (g30 : Int) (g31 : Int) (g32 : Int), vo = some (.long (JL (v_refuse S a n nm p))) ∧ wo = CW A D T G.2.1 (au (au (au (au (au (au I 23 b23) 50 b50) 51 b51) 52 b52) 53 b53) 54 b54) (fu (fu (fu F 30 g30) 31 g31) 32 g32) Q P) := by
  refine CT_of (own := RX11) rfl rfl (Nat.le_of_ble_eq_true rfl) (fun K hl hnL hC hRT hin => ?_)
  subst hl
  show WW K G 0 0 (CW A D T G.2.1 I F Q P) 0 [(0, .ref (A 0)), (1, .int (J a)), (2, .int (J n)), (3, .int (J nm)), (4, .int (J p))] []
  have hn := hR.n
  have hbd := hR.bd
  refine w_aload_n (pc := 0) hC dX11_refuse_0 0 rfl rfl ?_
  refine w_iload_n (pc := 1) hC dX11_refuse_1 1 rfl rfl ?_
  refine w_callV (pc := 2) (As := [.int (J a)]) (rest := []) hC dX11_refuse_2 cv_X11_112 (c_X11_clubAt (kl K) G A D T I F Q P S a (show RI S from by assumption) (show LRn G.2.1 S I F Q P from by exact hL) (show -2147483648 ≤ a ∧ a < 2147483648 from by omega)) (by decide) ⟨Nat.le_of_ble_eq_true rfl, Nat.le_of_ble_eq_true rfl⟩ (q0 := 0) CW_0 rfl rfl rfl (Nat.le_of_ble_eq_true rfl) rfl (fun vo wo hv => ?_)
  obtain ⟨hv1, hw1⟩ := hv
  by_cases hc : 0 ≤ a ∧ a < S 1
  · obtain ⟨qb, hQc, hcl⟩ := l_clb hL hc.1 hc.2
    rw [if_pos hc, hQc] at hv1
    rw [hv1, hw1]
    show WW K G 0 0 (CW A D T G.2.1 I F Q P) 5 [(0, .ref (A 0)), (1, .int (J a)), (2, .int (J n)), (3, .int (J nm)), (4, .int (J p))] [.ref qb]
    refine w_astore (pc := 5) hC dX11_refuse_5 (lv2 := [(5, .ref qb), (0, .ref (A 0)), (1, .int (J a)), (2, .int (J n)), (3, .int (J nm)), (4, .int (J p))]) (by rw [hnL]; decide) rfl ?_
    refine w_aload (pc := 7) hC dX11_refuse_7 0 rfl ?_
    refine w_ifnullR (pc := 9) hC dX11_refuse_9 ?_
    refine w_iload_n (pc := 12) hC dX11_refuse_12 3 rfl rfl ?_
    refine w_callS (pc := 13) (As := [.int (J n)]) (rest := []) hC dX11_refuse_13 cs_X11_155 (c_X11_isDaysOn (kl K) G (CW A D T G.2.1 I F Q P) n (show -2147483648 ≤ n ∧ n < 2147483648 from by first | assumption | omega)) (by decide) ⟨Nat.le_of_ble_eq_true rfl, Nat.le_of_ble_eq_true rfl⟩ rfl (Nat.le_of_ble_eq_true rfl) rfl (fun vo wo hv => ?_)
    obtain ⟨hv1, hw1⟩ := hv
    rw [hv1, hw1]
    show WW K G 0 0 (CW A D T G.2.1 I F Q P) 16 [(5, .ref qb), (0, .ref (A 0)), (1, .int (J a)), (2, .int (J n)), (3, .int (J nm)), (4, .int (J p))] [.int (J (bI (0 ≤ n ∧ n ≤ 6)))]
    refine w_if_eq_b (pc := 16) (tgt := 35) hC dX11_refuse_16 (by decide) (fun c16 => ?_) (fun c16 => ?_)
    · refine w_ldc2 (pc := 35) hC dX11_refuse_35 (z := (-9223372036854775808)) tw_3_187 (by decide) ?_
      refine w_lret (pc := 38) hC hRT dX11_refuse_38 ?_
      refine ⟨D, (I 23), (I 50), (I 51), (I 52), (I 53), (I 54), (F 30), (F 31), (F 32), retL (by unfold v_refuse; first | (rw [if_pos (by omega)]; rfl) | (rw [if_neg (by omega), r51.2.1, r78.2.1, r78.2.2.1])), CW_cong (au_ms (k := 23) (v := I 23) rfl rfl (au_ms (k := 50) (v := I 50) rfl rfl (au_ms (k := 51) (v := I 51) rfl rfl (au_ms (k := 52) (v := I 52) rfl rfl (au_ms (k := 53) (v := I 53) rfl rfl (au_ms (k := 54) (v := I 54) rfl rfl rfl)))))) (fu_ms (k := 30) (v := F 30) rfl rfl (fu_ms (k := 31) (v := F 31) rfl rfl (fu_ms (k := 32) (v := F 32) rfl rfl rfl))) rfl⟩
    · refine w_aload_n (pc := 19) hC dX11_refuse_19 1 rfl rfl ?_
      refine w_iload_n (pc := 20) hC dX11_refuse_20 4 rfl rfl ?_
      refine w_callV (pc := 21) (As := [.int (J nm)]) (rest := []) hC dX11_refuse_21 cv_X11_64 (c_X11_isName (kl K) G A D T I F Q P S nm (show RI S from by first | assumption | omega) (show LRn G.2.1 S I F Q P from by exact hL) (show -2147483648 ≤ nm ∧ nm < 2147483648 from by first | assumption | omega)) (by decide) ⟨Nat.le_of_ble_eq_true rfl, Nat.le_of_ble_eq_true rfl⟩ (q0 := 0) CW_0 rfl rfl rfl (Nat.le_of_ble_eq_true rfl) rfl (fun vo wo hv => ?_)
      obtain ⟨hv1, hw1⟩ := hv
      rw [hv1, hw1]
      show WW K G 0 0 (CW A D T G.2.1 I F Q P) 24 [(5, .ref qb), (0, .ref (A 0)), (1, .int (J a)), (2, .int (J n)), (3, .int (J nm)), (4, .int (J p))] [.int (J (bI (0 ≤ nm ∧ nm < S 0)))]
      refine w_if_eq_b (pc := 24) (tgt := 35) hC dX11_refuse_24 (by decide) (fun c24 => ?_) (fun c24 => ?_)
      · refine w_ldc2 (pc := 35) hC dX11_refuse_35 (z := (-9223372036854775808)) tw_3_187 (by decide) ?_
        refine w_lret (pc := 38) hC hRT dX11_refuse_38 ?_
        refine ⟨D, (I 23), (I 50), (I 51), (I 52), (I 53), (I 54), (F 30), (F 31), (F 32), retL (by unfold v_refuse; first | (rw [if_pos (by omega)]; rfl) | (rw [if_neg (by omega), r51.2.1, r78.2.1, r78.2.2.1])), CW_cong (au_ms (k := 23) (v := I 23) rfl rfl (au_ms (k := 50) (v := I 50) rfl rfl (au_ms (k := 51) (v := I 51) rfl rfl (au_ms (k := 52) (v := I 52) rfl rfl (au_ms (k := 53) (v := I 53) rfl rfl (au_ms (k := 54) (v := I 54) rfl rfl rfl)))))) (fu_ms (k := 30) (v := F 30) rfl rfl (fu_ms (k := 31) (v := F 31) rfl rfl (fu_ms (k := 32) (v := F 32) rfl rfl rfl))) rfl⟩
      · refine w_iload (pc := 27) hC dX11_refuse_27 5 rfl ?_
        refine w_callS (pc := 29) (As := [.int (J p)]) (rest := []) hC dX11_refuse_29 cs_X11_75 (c_X11_isEither (kl K) G (CW A D T G.2.1 I F Q P) p (show -2147483648 ≤ p ∧ p < 2147483648 from by first | assumption | omega)) (by decide) ⟨Nat.le_of_ble_eq_true rfl, Nat.le_of_ble_eq_true rfl⟩ rfl (Nat.le_of_ble_eq_true rfl) rfl (fun vo wo hv => ?_)
        obtain ⟨hv1, hw1⟩ := hv
        rw [hv1, hw1]
        show WW K G 0 0 (CW A D T G.2.1 I F Q P) 32 [(5, .ref qb), (0, .ref (A 0)), (1, .int (J a)), (2, .int (J n)), (3, .int (J nm)), (4, .int (J p))] [.int (J (bI (p = 0 ∨ p = 1)))]
        refine w_if_ne_b (pc := 32) (tgt := 39) hC dX11_refuse_32 (by decide) (fun c32 => ?_) (fun c32 => ?_)
        · refine w_aload_n (pc := 39) hC dX11_refuse_39 1 rfl rfl ?_
          refine w_aload (pc := 40) hC dX11_refuse_40 0 rfl ?_
          refine w_iload_n (pc := 42) hC dX11_refuse_42 3 rfl rfl ?_
          refine w_aload_n (pc := 43) hC dX11_refuse_43 1 rfl rfl ?_
          refine w_getf (pc := 44) (v := .ref (A 1)) hC dX11_refuse_44 fi_X11_12 0 CW_0 rfl ?_
          refine w_getfN (pc := 47) (v := .ref (A 2)) hC dX11_refuse_47 fn_X11_61 1 CW_1 rfl ?_
          refine w_iconst (pc := 50) hC dX11_refuse_50 ?_
          refine w_callV (pc := 51) (As := [.ref qb, .int (J n), .ref (A 2), .int (J 0)]) (rest := []) hC dX11_refuse_51 cv_X11_160 (c_X11_goBehind_v2 (kl K) G A D T I F Q P S a (S 6) (-1) qb n 0 (show RI S from by first | assumption | omega) (show LRn G.2.1 S I F Q P from by exact hL) (show 0 ≤ a ∧ a < S 1 from by first | assumption | omega) (show CLB P G.2.1 S a qb from by first | assumption | omega) (show 0 < S 0 from by first | assumption | omega) (show 0 ≤ n ∧ n ≤ 6 from by first | assumption | omega) (show VB (S 0) (S 6) from by exact hR.bd) (show ∀ r : Int, 0 ≤ r → r < S 0 → (I 2) r = dg (S 6) r from by exact fun r r0 r1 => l_bd hL r0 r1) (show (-1) = -1 ∨ (0 ≤ (-1) ∧ (-1) < 6) from by exact Or.inl rfl) (show 0 = if (-1) = -1 then 0 else 2 ^ ((-1) : Int).toNat from by rfl)) (by decide) ⟨Nat.le_of_ble_eq_true rfl, Nat.le_of_ble_eq_true rfl⟩ (q0 := 0) CW_0 rfl rfl rfl (Nat.le_of_ble_eq_true rfl) rfl (fun vo wo hv => ?_)
          obtain ⟨D_51, b23_51, b50_51, b51_51, b52_51, b53_51, b54_51, g30_51, g31_51, g32_51, hv1, hw1, r51⟩ := hv
          rw [hv1, hw1]
          show WW K G 0 0 (CW A D_51 T G.2.1 (au (au (au (au (au (au I 23 b23_51) 50 b50_51) 51 b51_51) 52 b52_51) 53 b53_51) 54 b54_51) (fu (fu (fu F 30 g30_51) 31 g31_51) 32 g32_51) Q P) 54 [(5, .ref qb), (0, .ref (A 0)), (1, .int (J a)), (2, .int (J n)), (3, .int (J nm)), (4, .int (J p))] []
          have r51 : DOK (S 0) b50_51 b51_51 g30_51 ∧ (∀ f : Int → Int, isum f (DBf (S 0) b50_51) b51_51 (g30_51 : Int).toNat = EXP S a (-1) (-7) n.toNat f (S 6)) ∧ g32_51 = 100 ^ n.toNat ∧ isum one1 (DBf (S 0) b50_51) b51_51 (g30_51 : Int).toNat = g32_51 := r51
          have p5 := p100_7 (k := n) (by omega) (by omega)
          rw [← r51.2.2.1] at p5
          have ht1 := r51.2.2.2
          have hb := is_rk (a := nm) r51.1 (by omega)
          refine w_aload_n (pc := 54) hC dX11_refuse_54 1 rfl rfl ?_
          refine w_getf (pc := 55) (v := .ref (A 49)) hC dX11_refuse_55 fi_X11_41 0 CW_0 rfl ?_
          refine w_iload_n (pc := 58) hC dX11_refuse_58 4 rfl rfl ?_
          refine w_callV (pc := 59) (As := [.int (J nm)]) (rest := []) hC dX11_refuse_59 cv_X11_183 (c_X4_sumOfRungs (kl K) G A D_51 T (au (au (au (au (au (au I 23 b23_51) 50 b50_51) 51 b51_51) 52 b52_51) 53 b53_51) 54 b54_51) (fu (fu (fu F 30 g30_51) 31 g31_51) 32 g32_51) Q P S nm (show RI S from by first | assumption | omega) (show LRn G.2.1 S (au (au (au (au (au (au I 23 b23_51) 50 b50_51) 51 b51_51) 52 b52_51) 53 b53_51) 54 b54_51) (fu (fu (fu F 30 g30_51) 31 g31_51) 32 g32_51) Q P from by exact (LRb_fu (by decide) (LRb_fu (by decide) (LRb_fu (by decide) (LRb_au (by decide) (LRb_au (by decide) (LRb_au (by decide) (LRb_au (by decide) (LRb_au (by decide) (LRb_au (by decide) hL)))))))))) (show DOK (S 0) b50_51 b51_51 g30_51 from by exact r51.1) (show 0 ≤ nm ∧ nm < S 0 from by first | assumption | omega)) (by decide) ⟨Nat.le_of_ble_eq_true rfl, Nat.le_of_ble_eq_true rfl⟩ (q0 := 49) CW_49 rfl rfl rfl (Nat.le_of_ble_eq_true rfl) rfl (fun vo wo hv => ?_)
          obtain ⟨hv1, hw1⟩ := hv
          rw [hv1, hw1]
          show WW K G 0 0 (CW A D_51 T G.2.1 (au (au (au (au (au (au I 23 b23_51) 50 b50_51) 51 b51_51) 52 b52_51) 53 b53_51) 54 b54_51) (fu (fu (fu F 30 g30_51) 31 g31_51) 32 g32_51) Q P) 62 [(5, .ref qb), (0, .ref (A 0)), (1, .int (J a)), (2, .int (J n)), (3, .int (J nm)), (4, .int (J p))] [.long (JL (isum (fun b => rk (S 0) b nm) (DBf (S 0) b50_51) b51_51 (g30_51 : Int).toNat))]
          refine w_lstore (pc := 62) hC dX11_refuse_62 (lv2 := [(6, .long (JL (isum (fun b => rk (S 0) b nm) (DBf (S 0) b50_51) b51_51 (g30_51 : Int).toNat))), (5, .ref qb), (0, .ref (A 0)), (1, .int (J a)), (2, .int (J n)), (3, .int (J nm)), (4, .int (J p))]) (by rw [hnL]; decide) rfl ?_
          refine w_aload_n (pc := 64) hC dX11_refuse_64 2 rfl rfl ?_
          refine w_aload (pc := 65) hC dX11_refuse_65 1 rfl ?_
          refine w_iload_n (pc := 67) hC dX11_refuse_67 4 rfl rfl ?_
          refine w_aload_n (pc := 68) hC dX11_refuse_68 2 rfl rfl ?_
          refine w_getf (pc := 69) (v := .ref (A 1)) hC dX11_refuse_69 fi_X11_12 0 CW_0 rfl ?_
          refine w_getfN (pc := 72) (v := .ref (A 2)) hC dX11_refuse_72 fn_X11_61 1 CW_1 rfl ?_
          refine w_iconst (pc := 75) hC dX11_refuse_75 ?_
          refine w_iload_n (pc := 76) hC dX11_refuse_76 5 rfl rfl ?_
          refine w_ishl (pc := 77) hC dX11_refuse_77 (by omega) ?_
          refine w_callV (pc := 78) (As := [.ref qb, .int (J n), .ref (A 2), .int (J (1 * 2 ^ nm.toNat))]) (rest := []) hC dX11_refuse_78 cv_X11_160 (c_X11_goBehind_v2 (kl K) G A D_51 T (au (au (au (au (au (au I 23 b23_51) 50 b50_51) 51 b51_51) 52 b52_51) 53 b53_51) 54 b54_51) (fu (fu (fu F 30 g30_51) 31 g31_51) 32 g32_51) Q P S a (S 6) nm qb n (1 * 2 ^ nm.toNat) (show RI S from by first | assumption | omega) (show LRn G.2.1 S (au (au (au (au (au (au I 23 b23_51) 50 b50_51) 51 b51_51) 52 b52_51) 53 b53_51) 54 b54_51) (fu (fu (fu F 30 g30_51) 31 g31_51) 32 g32_51) Q P from by exact (LRb_fu (by decide) (LRb_fu (by decide) (LRb_fu (by decide) (LRb_au (by decide) (LRb_au (by decide) (LRb_au (by decide) (LRb_au (by decide) (LRb_au (by decide) (LRb_au (by decide) hL)))))))))) (show 0 ≤ a ∧ a < S 1 from by first | assumption | omega) (show CLB P G.2.1 S a qb from by first | assumption | omega) (show 0 < S 0 from by first | assumption | omega) (show 0 ≤ n ∧ n ≤ 6 from by first | assumption | omega) (show VB (S 0) (S 6) from by exact hR.bd) (show ∀ r : Int, 0 ≤ r → r < S 0 → (I 2) r = dg (S 6) r from by exact fun r r0 r1 => l_bd hL r0 r1) (show nm = -1 ∨ (0 ≤ nm ∧ nm < 6) from by exact Or.inr (by omega)) (show (1 * 2 ^ nm.toNat) = if nm = -1 then 0 else 2 ^ nm.toNat from by rw [if_neg (by omega), Int.one_mul])) (by decide) ⟨Nat.le_of_ble_eq_true rfl, Nat.le_of_ble_eq_true rfl⟩ (q0 := 0) CW_0 rfl rfl rfl (Nat.le_of_ble_eq_true rfl) rfl (fun vo wo hv => ?_)
          obtain ⟨D_78, b23_78, b50_78, b51_78, b52_78, b53_78, b54_78, g30_78, g31_78, g32_78, hv1, hw1, r78⟩ := hv
          rw [hv1, hw1]
          refine w_weq (CW_cong (au_th (au_th (au_th (au_th (au_th (au_th rfl (au_cm (by decide) (au_cm (by decide) (au_cm (by decide) (au_cm (by decide) (au_cm (by decide) au_rp)))))) (au_cm (by decide) (au_cm (by decide) (au_cm (by decide) (au_cm (by decide) au_rp))))) (au_cm (by decide) (au_cm (by decide) (au_cm (by decide) au_rp)))) (au_cm (by decide) (au_cm (by decide) au_rp))) (au_cm (by decide) au_rp)) au_rp) (fu_th (fu_th (fu_th rfl (fu_cm (by decide) (fu_cm (by decide) fu_rp))) (fu_cm (by decide) fu_rp)) fu_rp) rfl) ?_
          show WW K G 0 0 (CW A D_78 T G.2.1 (au (au (au (au (au (au I 23 b23_78) 50 b50_78) 51 b51_78) 52 b52_78) 53 b53_78) 54 b54_78) (fu (fu (fu F 30 g30_78) 31 g31_78) 32 g32_78) Q P) 81 [(6, .long (JL (isum (fun b => rk (S 0) b nm) (DBf (S 0) b50_51) b51_51 (g30_51 : Int).toNat))), (5, .ref qb), (0, .ref (A 0)), (1, .int (J a)), (2, .int (J n)), (3, .int (J nm)), (4, .int (J p))] []
          have r78 : DOK (S 0) b50_78 b51_78 g30_78 ∧ (∀ f : Int → Int, isum f (DBf (S 0) b50_78) b51_78 (g30_78 : Int).toNat = EXP S a nm (-7) n.toNat f (S 6)) ∧ g32_78 = 100 ^ n.toNat ∧ isum one1 (DBf (S 0) b50_78) b51_78 (g30_78 : Int).toNat = g32_78 := r78
          have p6 := p100_7 (k := n) (by omega) (by omega)
          rw [← r78.2.2.1] at p6
          have ht2 := r78.2.2.2
          have hb2 := is_rk (a := nm) r78.1 (by omega)
          refine w_lload (pc := 81) hC dX11_refuse_81 0 rfl ?_
          refine w_aload_n (pc := 83) hC dX11_refuse_83 2 rfl rfl ?_
          refine w_getf (pc := 84) (v := .ref (A 49)) hC dX11_refuse_84 fi_X11_41 0 CW_0 rfl ?_
          refine w_iload_n (pc := 87) hC dX11_refuse_87 5 rfl rfl ?_
          refine w_callV (pc := 88) (As := [.int (J nm)]) (rest := [.long (JL (isum (fun b => rk (S 0) b nm) (DBf (S 0) b50_51) b51_51 (g30_51 : Int).toNat))]) hC dX11_refuse_88 cv_X11_183 (c_X4_sumOfRungs (kl K) G A D_78 T (au (au (au (au (au (au I 23 b23_78) 50 b50_78) 51 b51_78) 52 b52_78) 53 b53_78) 54 b54_78) (fu (fu (fu F 30 g30_78) 31 g31_78) 32 g32_78) Q P S nm (show RI S from by first | assumption | omega) (show LRn G.2.1 S (au (au (au (au (au (au I 23 b23_78) 50 b50_78) 51 b51_78) 52 b52_78) 53 b53_78) 54 b54_78) (fu (fu (fu F 30 g30_78) 31 g31_78) 32 g32_78) Q P from by exact (LRb_fu (by decide) (LRb_fu (by decide) (LRb_fu (by decide) (LRb_au (by decide) (LRb_au (by decide) (LRb_au (by decide) (LRb_au (by decide) (LRb_au (by decide) (LRb_au (by decide) hL)))))))))) (show DOK (S 0) b50_78 b51_78 g30_78 from by exact r78.1) (show 0 ≤ nm ∧ nm < S 0 from by first | assumption | omega)) (by decide) ⟨Nat.le_of_ble_eq_true rfl, Nat.le_of_ble_eq_true rfl⟩ (q0 := 49) CW_49 rfl rfl rfl (Nat.le_of_ble_eq_true rfl) rfl (fun vo wo hv => ?_)
          obtain ⟨hv1, hw1⟩ := hv
          rw [hv1, hw1]
          show WW K G 0 0 (CW A D_78 T G.2.1 (au (au (au (au (au (au I 23 b23_78) 50 b50_78) 51 b51_78) 52 b52_78) 53 b53_78) 54 b54_78) (fu (fu (fu F 30 g30_78) 31 g31_78) 32 g32_78) Q P) 91 [(6, .long (JL (isum (fun b => rk (S 0) b nm) (DBf (S 0) b50_51) b51_51 (g30_51 : Int).toNat))), (5, .ref qb), (0, .ref (A 0)), (1, .int (J a)), (2, .int (J n)), (3, .int (J nm)), (4, .int (J p))] [.long (JL (isum (fun b => rk (S 0) b nm) (DBf (S 0) b50_78) b51_78 (g30_78 : Int).toNat)), .long (JL (isum (fun b => rk (S 0) b nm) (DBf (S 0) b50_51) b51_51 (g30_51 : Int).toNat))]
          refine w_lsub (pc := 91) hC dX11_refuse_91 ?_
          refine w_aload_n (pc := 92) hC dX11_refuse_92 2 rfl rfl ?_
          refine w_getf (pc := 93) (v := .ref (A 49)) hC dX11_refuse_93 fi_X11_41 0 CW_0 rfl ?_
          refine w_callV (pc := 96) (As := []) (rest := [.long (JL ((isum (fun b => rk (S 0) b nm) (DBf (S 0) b50_51) b51_51 (g30_51 : Int).toNat) - (isum (fun b => rk (S 0) b nm) (DBf (S 0) b50_78) b51_78 (g30_78 : Int).toNat)))]) hC dX11_refuse_96 cv_X11_168 (c_X4_whole (kl K) G A D_78 T (au (au (au (au (au (au I 23 b23_78) 50 b50_78) 51 b51_78) 52 b52_78) 53 b53_78) 54 b54_78) (fu (fu (fu F 30 g30_78) 31 g31_78) 32 g32_78) Q P) (by decide) ⟨Nat.le_of_ble_eq_true rfl, Nat.le_of_ble_eq_true rfl⟩ (q0 := 49) CW_49 rfl rfl rfl (Nat.le_of_ble_eq_true rfl) rfl (fun vo wo hv => ?_)
          obtain ⟨hv1, hw1⟩ := hv
          rw [hv1, hw1]
          show WW K G 0 0 (CW A D_78 T G.2.1 (au (au (au (au (au (au I 23 b23_78) 50 b50_78) 51 b51_78) 52 b52_78) 53 b53_78) 54 b54_78) (fu (fu (fu F 30 g30_78) 31 g31_78) 32 g32_78) Q P) 99 [(6, .long (JL (isum (fun b => rk (S 0) b nm) (DBf (S 0) b50_51) b51_51 (g30_51 : Int).toNat))), (5, .ref qb), (0, .ref (A 0)), (1, .int (J a)), (2, .int (J n)), (3, .int (J nm)), (4, .int (J p))] [.long (JL g32_78), .long (JL ((isum (fun b => rk (S 0) b nm) (DBf (S 0) b50_51) b51_51 (g30_51 : Int).toNat) - (isum (fun b => rk (S 0) b nm) (DBf (S 0) b50_78) b51_78 (g30_78 : Int).toNat)))]
          refine w_iload (pc := 99) hC dX11_refuse_99 6 rfl ?_
          refine w_callS (pc := 101) (As := [.long (JL ((isum (fun b => rk (S 0) b nm) (DBf (S 0) b50_51) b51_51 (g30_51 : Int).toNat) - (isum (fun b => rk (S 0) b nm) (DBf (S 0) b50_78) b51_78 (g30_78 : Int).toNat))), .long (JL g32_78), .int (J p)]) (rest := []) hC dX11_refuse_101 cs_X11_172 (c_X11_partOf (kl K) G A D_78 T (au (au (au (au (au (au I 23 b23_78) 50 b50_78) 51 b51_78) 52 b52_78) 53 b53_78) 54 b54_78) (fu (fu (fu F 30 g30_78) 31 g31_78) 32 g32_78) Q P ((isum (fun b => rk (S 0) b nm) (DBf (S 0) b50_51) b51_51 (g30_51 : Int).toNat) - (isum (fun b => rk (S 0) b nm) (DBf (S 0) b50_78) b51_78 (g30_78 : Int).toNat)) g32_78 p (show -100000000000000 ≤ ((isum (fun b => rk (S 0) b nm) (DBf (S 0) b50_51) b51_51 (g30_51 : Int).toNat) - (isum (fun b => rk (S 0) b nm) (DBf (S 0) b50_78) b51_78 (g30_78 : Int).toNat)) ∧ ((isum (fun b => rk (S 0) b nm) (DBf (S 0) b50_51) b51_51 (g30_51 : Int).toNat) - (isum (fun b => rk (S 0) b nm) (DBf (S 0) b50_78) b51_78 (g30_78 : Int).toNat)) ≤ 100000000000000 from by first | assumption | omega) (show 0 < g32_78 ∧ g32_78 ≤ 1000000000000 from by first | assumption | omega) (show 0 ≤ p ∧ p ≤ 1 from by first | assumption | omega)) (by decide) ⟨Nat.le_of_ble_eq_true rfl, Nat.le_of_ble_eq_true rfl⟩ rfl (Nat.le_of_ble_eq_true rfl) rfl (fun vo wo hv => ?_)
          obtain ⟨hv1, hw1⟩ := hv
          rw [hv1, hw1]
          show WW K G 0 0 (CW A D_78 T G.2.1 (au (au (au (au (au (au I 23 b23_78) 50 b50_78) 51 b51_78) 52 b52_78) 53 b53_78) 54 b54_78) (fu (fu (fu F 30 g30_78) 31 g31_78) 32 g32_78) Q P) 104 [(6, .long (JL (isum (fun b => rk (S 0) b nm) (DBf (S 0) b50_51) b51_51 (g30_51 : Int).toNat))), (5, .ref qb), (0, .ref (A 0)), (1, .int (J a)), (2, .int (J n)), (3, .int (J nm)), (4, .int (J p))] [.long (JL (LOW ((isum (fun b => rk (S 0) b nm) (DBf (S 0) b50_51) b51_51 (g30_51 : Int).toNat) - (isum (fun b => rk (S 0) b nm) (DBf (S 0) b50_78) b51_78 (g30_78 : Int).toNat)) g32_78 p))]
          refine w_lret (pc := 104) hC hRT dX11_refuse_104 ?_
          refine ⟨D_78, b23_78, b50_78, b51_78, b52_78, b53_78, b54_78, g30_78, g31_78, g32_78, retL (by unfold v_refuse; first | (rw [if_pos (by omega)]; rfl) | (rw [if_neg (by omega), r51.2.1, r78.2.1, r78.2.2.1])), rfl⟩
        · refine w_ldc2 (pc := 35) hC dX11_refuse_35 (z := (-9223372036854775808)) tw_3_187 (by decide) ?_
          refine w_lret (pc := 38) hC hRT dX11_refuse_38 ?_
          refine ⟨D, (I 23), (I 50), (I 51), (I 52), (I 53), (I 54), (F 30), (F 31), (F 32), retL (by unfold v_refuse; first | (rw [if_pos (by omega)]; rfl) | (rw [if_neg (by omega), r51.2.1, r78.2.1, r78.2.2.1])), CW_cong (au_ms (k := 23) (v := I 23) rfl rfl (au_ms (k := 50) (v := I 50) rfl rfl (au_ms (k := 51) (v := I 51) rfl rfl (au_ms (k := 52) (v := I 52) rfl rfl (au_ms (k := 53) (v := I 53) rfl rfl (au_ms (k := 54) (v := I 54) rfl rfl rfl)))))) (fu_ms (k := 30) (v := F 30) rfl rfl (fu_ms (k := 31) (v := F 31) rfl rfl (fu_ms (k := 32) (v := F 32) rfl rfl rfl))) rfl⟩
  · rw [if_neg hc] at hv1
    rw [hv1, hw1]
    show WW K G 0 0 (CW A D T G.2.1 I F Q P) 5 [(0, .ref (A 0)), (1, .int (J a)), (2, .int (J n)), (3, .int (J nm)), (4, .int (J p))] [.null]
    refine w_astoreN (pc := 5) hC dX11_refuse_5 (lv2 := [(5, .null), (0, .ref (A 0)), (1, .int (J a)), (2, .int (J n)), (3, .int (J nm)), (4, .int (J p))]) (by rw [hnL]; decide) rfl ?_
    refine w_aloadN (pc := 7) hC dX11_refuse_7 0 rfl ?_
    refine w_ifnullN (pc := 9) (tgt := 35) hC dX11_refuse_9 (by decide) ?_
    refine w_ldc2 (pc := 35) hC dX11_refuse_35 (z := (-9223372036854775808)) tw_3_187 (by decide) ?_
    refine w_lret (pc := 38) hC hRT dX11_refuse_38 ?_
    refine ⟨D, (I 23), (I 50), (I 51), (I 52), (I 53), (I 54), (F 30), (F 31), (F 32), retL (by unfold v_refuse; first | (rw [if_pos (by omega)]; rfl) | (rw [if_neg (by omega), r51.2.1, r78.2.1, r78.2.2.1])), CW_cong (au_ms (k := 23) (v := I 23) rfl rfl (au_ms (k := 50) (v := I 50) rfl rfl (au_ms (k := 51) (v := I 51) rfl rfl (au_ms (k := 52) (v := I 52) rfl rfl (au_ms (k := 53) (v := I 53) rfl rfl (au_ms (k := 54) (v := I 54) rfl rfl rfl)))))) (fu_ms (k := 30) (v := F 30) rfl rfl (fu_ms (k := 31) (v := F 31) rfl rfl (fu_ms (k := 32) (v := F 32) rfl rfl rfl))) rfl⟩
