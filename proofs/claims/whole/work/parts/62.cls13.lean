
theorem i2b_v (x : Int) : (J x).toInt8.toInt32 = J (sby (x % 256)) := by
  apply Int32.toInt_inj.mp
  rw [Int8.toInt_toInt32, Int32.toInt_toInt8, J_toInt (z := sby (x % 256)) (by unfold sby; split <;> omega) (by unfold sby; split <;> omega)]
  have e : (J x).toInt = x.bmod (2 ^ 32) := Int32.toInt_ofInt
  rw [e, Int.bmod_bmod_of_dvd (by decide)]
  unfold Int.bmod sby
  simp only []
  have : ((2 ^ 8 : Nat) : Int) = 256 := by decide
  rw [this]
  split <;> split <;> omega
theorem nar_b {x : Int} (h : -128 ≤ x ∧ x ≤ 127) : vp_nar .byte (J x) = J x := by
  have e : vp_nar .byte (J x) = (J x).toInt8.toInt32 := rfl
  rw [e, i2b_v]
  congr 1
  unfold sby
  split <;> omega
theorem sby_bd {x : Int} (h : 0 ≤ x ∧ x < 256) : -128 ≤ sby x ∧ sby x ≤ 127 := by
  unfold sby
  split <;> omega

theorem feed_0 {cy : Nat → ClassId} {S : Int → Int} {I : Nat → Int → Int} {F : Nat → Int} {Q : Nat → Nat → Option Nat} {P : va_W} {wl n j : Int} (h : LRn cy S I F Q P) (hR : RI S) (hn : 1 ≤ n ∧ n ≤ 8) (hx : S 5 + n ≤ 120) (j0 : 0 ≤ j) (j1 : j < S 5) : I 11 j = sby (n_feed S wl n (10 + j)) := by
  have htp := hR.tp
  unfold n_feed
  rw [if_pos ⟨hn, hx⟩, l_tape h j0 j1]
  show sby (S (10 + j)) = sby (if 10 + j = 5 then _ else _)
  rw [if_neg (by omega), if_neg (by omega)]
theorem feed_s {S f s : Int → Int} {wl n i t : Int} (hn : 1 ≤ n ∧ n ≤ 8) (hx : S 5 + n ≤ 120) (hi : 0 ≤ i ∧ i < n) (h5 : 0 ≤ S 5) (h : gu f t (sby (wl / 2 ^ (8 * i).toNat % 256)) = s) (ht : t = S 5 + (n - 1 - i)) (hv : ∀ j : Int, 0 ≤ j → j < t → f j = sby (n_feed S wl n (10 + j))) : ∀ j : Int, 0 ≤ j → j < t + 1 → s j = sby (n_feed S wl n (10 + j)) := by
  intro j j0 j1
  rw [← h]
  unfold gu
  by_cases c : j = t
  · rw [if_pos c]
    unfold n_feed
    rw [if_pos ⟨hn, hx⟩]
    show _ = sby (if 10 + j = 5 then _ else _)
    rw [if_neg (by omega), if_pos (by omega), show n - 1 - (10 + j - 10 - S 5) = i by omega]
  · rw [if_neg c]
    exact hv j j0 (by omega)
theorem feed_b {f g s : Int → Int} {t x : Int} (h : gu f t (sby (x % 256)) = s) (hv : (∀ j : Int, 0 ≤ j → j < 120 → -128 ≤ g j ∧ g j ≤ 127) → ∀ j : Int, 0 ≤ j → j < 120 → -128 ≤ f j ∧ f j ≤ 127) : (∀ j : Int, 0 ≤ j → j < 120 → -128 ≤ g j ∧ g j ≤ 127) → ∀ j : Int, 0 ≤ j → j < 120 → -128 ≤ s j ∧ s j ≤ 127 := by
  intro h9 j j0 j1
  rw [← h]
  unfold gu
  by_cases c : j = t
  · rw [if_pos c]; exact sby_bd (by omega)
  · rw [if_neg c]; exact hv h9 j j0 j1

set_option maxRecDepth 100000 in
set_option maxHeartbeats 4000000 in
theorem c_X11_name (l : Launch) (G : GT) (A D : Nat → Nat) (T : Nat) (I : Nat → Int → Int) (F : Nat → Int) (Q : Nat → Nat → Option Nat) (P : va_W) (S : Int → Int)  (hR : RI S) (hL : LRn G.2.1 S I F Q P) : CT l yX11_name cX11_name 1 (some .int) 0 0 0 G [.ref (A 0)] (CW A D T G.2.1 I F Q P) (fun vo wo => ∃ (b2 : Int → Int) (g1 : Int), vo = some (.int (J (v_name S))) ∧ wo = CW A D T G.2.1 (au I 2 b2) (fu F 1 g1) Q P ∧ (LRn G.2.1 (n_name S) (au I 2 b2) (fu F 1 g1) Q P)) := by
  refine CT_of (own := RX11) rfl rfl (Nat.le_of_ble_eq_true rfl) (fun K hl hnL hC hRT hin => ?_)
  subst hl
  show WW K G 0 0 (CW A D T G.2.1 I F Q P) 0 [(0, .ref (A 0))] []
  have hn := hR.n
  have hbd := hR.bd
  refine w_aload_n (pc := 0) hC dX11_name_0 0 rfl rfl ?_
  refine w_getf (pc := 1) (v := .ref (A 1)) hC dX11_name_1 fi_X11_12 0 CW_0 rfl ?_
  refine w_getfN (pc := 4) (v := .int (J (S 0))) hC dX11_name_4 fn_X11_57 1 CW_1 (congrArg (fun z : Int => some (Value.int (J z))) (l_n hL)) ?_
  refine w_bipush (pc := 7) hC dX11_name_7 (z := 6) rfl ?_
  refine w_icmp_lt (pc := 9) (tgt := 15) hC dX11_name_9 (by decide) (by omega) (fun c9 => ?_) (fun c9 => ?_)
  · refine w_aload_n (pc := 15) hC dX11_name_15 0 rfl rfl ?_
    refine w_getf (pc := 16) (v := .ref (A 1)) hC dX11_name_16 fi_X11_12 0 CW_0 rfl ?_
    refine w_getfN (pc := 19) (v := .ref (A 2)) hC dX11_name_19 fn_X11_61 1 CW_1 rfl ?_
    refine w_aload_n (pc := 22) hC dX11_name_22 0 rfl rfl ?_
    refine w_getf (pc := 23) (v := .ref (A 1)) hC dX11_name_23 fi_X11_12 0 CW_0 rfl ?_
    refine w_getfN (pc := 26) (v := .int (J (S 0))) hC dX11_name_26 fn_X11_57 1 CW_1 (congrArg (fun z : Int => some (Value.int (J z))) (l_n hL)) ?_
    refine w_aload_n (pc := 29) hC dX11_name_29 0 rfl rfl ?_
    refine w_getf (pc := 30) (v := .ref (A 1)) hC dX11_name_30 fi_X11_12 0 CW_0 rfl ?_
    refine w_getfN (pc := 33) (v := .int (J (S 0))) hC dX11_name_33 fn_X11_57 1 CW_1 (congrArg (fun z : Int => some (Value.int (J z))) (l_n hL)) ?_
    refine w_iast (pc := 36) (g := (I 2)) (w2 := CW A D T G.2.1 (au I 2 (gu (I 2) (S 0) (S 0))) F Q P) hC dX11_name_36 2 CW_2 (by omega) (Nat.le_of_ble_eq_true rfl) (CWa_2 rfl) ?_
    generalize h36 : gu (I 2) (S 0) (S 0) = s36
    refine w_aload_n (pc := 37) hC dX11_name_37 0 rfl rfl ?_
    refine w_getf (pc := 38) (v := .ref (A 1)) hC dX11_name_38 fi_X11_12 0 CW_0 rfl ?_
    refine w_dup (pc := 41) hC dX11_name_41 rfl ?_
    refine w_getfN (pc := 42) (v := .int (J (S 0))) hC dX11_name_42 fn_X11_57 1 CW_1 (congrArg (fun z : Int => some (Value.int (J z))) (l_n hL)) ?_
    refine w_iconst (pc := 45) hC dX11_name_45 ?_
    refine w_iadd (pc := 46) hC dX11_name_46 ?_
    refine w_putfN (pc := 47) (w2 := CW A D T G.2.1 (au I 2 s36) (fu F 1 ((S 0) + 1)) Q P) hC dX11_name_47 fn_X11_57 fp_X6_0 rfl 1 CW_1 (rfl) (rfl) (Nat.le_of_ble_eq_true rfl) (CWf_1 rfl) ?_
    refine w_aload_n (pc := 50) hC dX11_name_50 0 rfl rfl ?_
    refine w_getf (pc := 51) (v := .ref (A 1)) hC dX11_name_51 fi_X11_12 0 CW_0 rfl ?_
    refine w_getfN (pc := 54) (v := .int (J ((S 0) + 1))) hC dX11_name_54 fn_X11_57 1 CW_1 rfl ?_
    refine w_iconst (pc := 57) hC dX11_name_57 ?_
    refine w_isub (pc := 58) hC dX11_name_58 ?_
    refine w_iret (pc := 59) hC hRT dX11_name_59 rfl ?_
    refine ⟨s36, (S 0) + 1, retI (by unfold v_name; rw [if_neg (by omega)]; omega), rfl, ?_⟩
    · exact LR_name hL hR (by omega) h36
  · refine w_bipush (pc := 12) hC dX11_name_12 (z := (-4)) rfl ?_
    refine w_iret (pc := 14) hC hRT dX11_name_14 rfl ?_
    refine ⟨(I 2), (F 1), retI (by unfold v_name; rw [if_pos (by omega)]), CW_cong (au_ms (k := 2) (v := I 2) rfl rfl rfl) (fu_ms (k := 1) (v := F 1) rfl rfl rfl) rfl, ?_⟩
    · unfold n_name
      rw [if_pos (by omega)]
      exact LR_cg (show LRn G.2.1 S I F Q P from hL) (au_ms (k := 2) (v := I 2) rfl rfl rfl) (fu_ms (k := 1) (v := F 1) rfl rfl rfl) rfl
set_option maxRecDepth 100000 in
set_option maxHeartbeats 4000000 in
theorem c_X11_chance (l : Launch) (G : GT) (A D : Nat → Nat) (T : Nat) (I : Nat → Int → Int) (F : Nat → Int) (Q : Nat → Nat → Option Nat) (P : va_W) (S : Int → Int) (a : Int) (b : Int) (n : Int) (hR : RI S) (hL : LRn G.2.1 S I F Q P) (h0 : -2147483648 ≤ a ∧ a < 2147483648) (h1 : -2147483648 ≤ b ∧ b < 2147483648) (h2 : -2147483648 ≤ n ∧ n < 2147483648) : CT l yX11_chance cX11_chance 5 (some .int) 1 0 0 G [.ref (A 0), .int (J a), .int (J b), .int (J n)] (CW A D T G.2.1 I F Q P) (fun vo wo => ∃ (I1 : Nat → Int → Int), vo = some (.int (J (v_chance S a b n))) ∧ wo = CW A D T G.2.1 I1 F Q P ∧ (LRn G.2.1 (n_chance S a b n) I1 F Q P ∧ (∀ k : Nat, (k < 4 ∨ 10 ≤ k) → I1 k = I k))) := by
  refine CT_of (own := RX11) rfl rfl (Nat.le_of_ble_eq_true rfl) (fun K hl hnL hC hRT hin => ?_)
  subst hl
  show WW K G 0 0 (CW A D T G.2.1 I F Q P) 0 [(0, .ref (A 0)), (1, .int (J a)), (2, .int (J b)), (3, .int (J n))] []
  have hn := hR.n
  have hbd := hR.bd
  refine w_aload_n (pc := 0) hC dX11_chance_0 0 rfl rfl ?_
  refine w_iload_n (pc := 1) hC dX11_chance_1 1 rfl rfl ?_
  refine w_callV (pc := 2) (As := [.int (J a)]) (rest := []) hC dX11_chance_2 cv_X11_64 (c_X11_isName (kl K) G A D T I F Q P S a (show RI S from by first | assumption | omega) (show LRn G.2.1 S I F Q P from by exact hL) (show -2147483648 ≤ a ∧ a < 2147483648 from by first | assumption | omega)) (by decide) ⟨Nat.le_of_ble_eq_true rfl, Nat.le_of_ble_eq_true rfl⟩ (q0 := 0) CW_0 rfl rfl rfl (Nat.le_of_ble_eq_true rfl) rfl (fun vo wo hv => ?_)
  obtain ⟨hv1, hw1⟩ := hv
  rw [hv1, hw1]
  show WW K G 0 0 (CW A D T G.2.1 I F Q P) 5 [(0, .ref (A 0)), (1, .int (J a)), (2, .int (J b)), (3, .int (J n))] [.int (J (bI (0 ≤ a ∧ a < S 0)))]
  refine w_if_eq_b (pc := 5) (tgt := 16) hC dX11_chance_5 (by decide) (fun c5 => ?_) (fun c5 => ?_)
  · refine w_iconst (pc := 16) hC dX11_chance_16 ?_
    refine w_iret (pc := 17) hC hRT dX11_chance_17 rfl ?_
    refine ⟨I, retI (by unfold v_chance; rw [if_pos (by omega)]), rfl, ?_⟩
    · unfold n_chance
      rw [if_neg (by omega)]
      exact ⟨hL, fun k _ => rfl⟩
  · refine w_aload_n (pc := 8) hC dX11_chance_8 0 rfl rfl ?_
    refine w_iload_n (pc := 9) hC dX11_chance_9 2 rfl rfl ?_
    refine w_callV (pc := 10) (As := [.int (J b)]) (rest := []) hC dX11_chance_10 cv_X11_64 (c_X11_isName (kl K) G A D T I F Q P S b (show RI S from by first | assumption | omega) (show LRn G.2.1 S I F Q P from by exact hL) (show -2147483648 ≤ b ∧ b < 2147483648 from by first | assumption | omega)) (by decide) ⟨Nat.le_of_ble_eq_true rfl, Nat.le_of_ble_eq_true rfl⟩ (q0 := 0) CW_0 rfl rfl rfl (Nat.le_of_ble_eq_true rfl) rfl (fun vo wo hv => ?_)
    obtain ⟨hv1, hw1⟩ := hv
    rw [hv1, hw1]
    show WW K G 0 0 (CW A D T G.2.1 I F Q P) 13 [(0, .ref (A 0)), (1, .int (J a)), (2, .int (J b)), (3, .int (J n))] [.int (J (bI (0 ≤ b ∧ b < S 0)))]
    refine w_if_ne_b (pc := 13) (tgt := 18) hC dX11_chance_13 (by decide) (fun c13 => ?_) (fun c13 => ?_)
    · refine w_iload_n (pc := 18) hC dX11_chance_18 1 rfl rfl ?_
      refine w_iload_n (pc := 19) hC dX11_chance_19 2 rfl rfl ?_
      refine w_icmp_eq (pc := 20) (tgt := 33) hC dX11_chance_20 (by decide) (by omega) (fun c20 => ?_) (fun c20 => ?_)
      · refine w_bipush (pc := 33) hC dX11_chance_33 (z := (-2)) rfl ?_
        refine w_iret (pc := 35) hC hRT dX11_chance_35 rfl ?_
        refine ⟨I, retI (by unfold v_chance; rw [if_neg (by omega), if_pos (by omega)]), rfl, ?_⟩
        · unfold n_chance
          rw [if_neg (by omega)]
          exact ⟨hL, fun k _ => rfl⟩
      · refine w_iload_n (pc := 23) hC dX11_chance_23 3 rfl rfl ?_
        refine w_if_lt (pc := 24) (tgt := 33) hC dX11_chance_24 (by decide) (by omega) (fun c24 => ?_) (fun c24 => ?_)
        · refine w_bipush (pc := 33) hC dX11_chance_33 (z := (-2)) rfl ?_
          refine w_iret (pc := 35) hC hRT dX11_chance_35 rfl ?_
          refine ⟨I, retI (by unfold v_chance; rw [if_neg (by omega), if_pos (by omega)]), rfl, ?_⟩
          · unfold n_chance
            rw [if_neg (by omega)]
            exact ⟨hL, fun k _ => rfl⟩
        · refine w_iload_n (pc := 27) hC dX11_chance_27 3 rfl rfl ?_
          refine w_bipush (pc := 28) hC dX11_chance_28 (z := 100) rfl ?_
          refine w_icmp_le (pc := 30) (tgt := 36) hC dX11_chance_30 (by decide) (by omega) (fun c30 => ?_) (fun c30 => ?_)
          · refine w_aload_n (pc := 36) hC dX11_chance_36 0 rfl rfl ?_
            refine w_getf (pc := 37) (v := .ref (A 1)) hC dX11_chance_37 fi_X11_12 0 CW_0 rfl ?_
            refine w_getfN (pc := 40) (v := .ref (A 3)) hC dX11_chance_40 fn_X11_68 1 CW_1 rfl ?_
            refine w_iload_n (pc := 43) hC dX11_chance_43 1 rfl rfl ?_
            refine w_aaldS (t0 := 6) (q := A (4 + (a).toNat)) hC dX11_chance_44 3 CW_3 rfl rfl (by omega) (Nat.le_of_ble_eq_true rfl) (rw6_at (by omega)) ?_
            refine w_iload_n (pc := 45) hC dX11_chance_45 2 rfl rfl ?_
            refine w_ialdV (pc := 46) (v := S (130 + 6 * a + b)) hC dX11_chance_46 (4 + (a).toNat) (CW_ch (by omega) (by omega)) (by omega) (Nat.le_of_ble_eq_true rfl) (l_ch hL hR (by omega) (by omega) (by omega) (by omega)) ?_
            refine w_istore (pc := 47) hC dX11_chance_47 (lv2 := [(4, .int (J (S (130 + 6 * a + b)))), (0, .ref (A 0)), (1, .int (J a)), (2, .int (J b)), (3, .int (J n))]) (by rw [hnL]; decide) rfl ?_
            refine w_aload_n (pc := 49) hC dX11_chance_49 1 rfl rfl ?_
            refine w_getf (pc := 50) (v := .ref (A 1)) hC dX11_chance_50 fi_X11_12 0 CW_0 rfl ?_
            refine w_getfN (pc := 53) (v := .ref (A 3)) hC dX11_chance_53 fn_X11_68 1 CW_1 rfl ?_
            refine w_iload_n (pc := 56) hC dX11_chance_56 2 rfl rfl ?_
            refine w_aaldS (t0 := 6) (q := A (4 + (a).toNat)) hC dX11_chance_57 3 CW_3 rfl rfl (by omega) (Nat.le_of_ble_eq_true rfl) (rw6_at (by omega)) ?_
            refine w_iload_n (pc := 58) hC dX11_chance_58 3 rfl rfl ?_
            refine w_iload_n (pc := 59) hC dX11_chance_59 4 rfl rfl ?_
            refine w_iast (pc := 60) (g := (I (4 + (a).toNat))) (w2 := CW A D T G.2.1 (au I (4 + (a).toNat) (gu (I (4 + (a).toNat)) b n)) F Q P) hC dX11_chance_60 (4 + (a).toNat) (by rw [CW_ch (by omega) (by omega)]) (by omega) (Nat.le_of_ble_eq_true rfl) (CWa_ch (by omega) (by omega)) ?_
            refine w_aload_n (pc := 61) hC dX11_chance_61 1 rfl rfl ?_
            refine w_getf (pc := 62) (v := .ref (A 1)) hC dX11_chance_62 fi_X11_12 0 CW_0 rfl ?_
            refine w_getfN (pc := 65) (v := .ref (A 3)) hC dX11_chance_65 fn_X11_68 1 CW_1 rfl ?_
            refine w_iload_n (pc := 68) hC dX11_chance_68 3 rfl rfl ?_
            refine w_aaldS (t0 := 6) (q := A (4 + (b).toNat)) hC dX11_chance_69 3 CW_3 rfl rfl (by omega) (Nat.le_of_ble_eq_true rfl) (rw6_at (by omega)) ?_
            refine w_iload_n (pc := 70) hC dX11_chance_70 2 rfl rfl ?_
            refine w_bipush (pc := 71) hC dX11_chance_71 (z := 100) rfl ?_
            refine w_iload_n (pc := 73) hC dX11_chance_73 4 rfl rfl ?_
            refine w_isub (pc := 74) hC dX11_chance_74 ?_
            refine w_iast (pc := 75) (g := (I (4 + (b).toNat))) (w2 := CW A D T G.2.1 (au (au I (4 + (a).toNat) (gu (I (4 + (a).toNat)) b n)) (4 + (b).toNat) (gu (I (4 + (b).toNat)) a (100 - n))) F Q P) hC dX11_chance_75 (4 + (b).toNat) (by rw [CW_ch (by omega) (by omega)]; rw [au_ne (by omega)]) (by omega) (Nat.le_of_ble_eq_true rfl) (CWa_ch (by omega) (by omega)) ?_
            refine w_iload (pc := 76) hC dX11_chance_76 0 rfl ?_
            refine w_iret (pc := 78) hC hRT dX11_chance_78 rfl ?_
            refine ⟨(au (au I (4 + (a).toNat) (gu (I (4 + (a).toNat)) b n)) (4 + (b).toNat) (gu (I (4 + (b).toNat)) a (100 - n))), retI (by unfold v_chance; rw [if_neg (by omega), if_neg (by omega)]), rfl, ?_⟩
            · unfold n_chance
              rw [if_pos ⟨by omega, by omega, by omega, by omega, by omega⟩]
              exact ⟨LR_chance hL hR (by omega) (by omega) (by omega), fun k hk => by rw [au_ne (by omega), au_ne (by omega)]⟩
          · refine w_bipush (pc := 33) hC dX11_chance_33 (z := (-2)) rfl ?_
            refine w_iret (pc := 35) hC hRT dX11_chance_35 rfl ?_
            refine ⟨I, retI (by unfold v_chance; rw [if_neg (by omega), if_pos (by omega)]), rfl, ?_⟩
            · unfold n_chance
              rw [if_neg (by omega)]
              exact ⟨hL, fun k _ => rfl⟩
    · refine w_iconst (pc := 16) hC dX11_chance_16 ?_
      refine w_iret (pc := 17) hC hRT dX11_chance_17 rfl ?_
      refine ⟨I, retI (by unfold v_chance; rw [if_pos (by omega)]), rfl, ?_⟩
      · unfold n_chance
        rw [if_neg (by omega)]
        exact ⟨hL, fun k _ => rfl⟩
set_option maxRecDepth 100000 in
set_option maxHeartbeats 4000000 in
theorem c_X11_past (l : Launch) (G : GT) (A D : Nat → Nat) (T : Nat) (I : Nat → Int → Int) (F : Nat → Int) (Q : Nat → Nat → Option Nat) (P : va_W) (S : Int → Int) (a : Int) (b : Int) (n : Int) (hR : RI S) (hL : LRn G.2.1 S I F Q P) (h0 : -2147483648 ≤ a ∧ a < 2147483648) (h1 : -2147483648 ≤ b ∧ b < 2147483648) (h2 : -2147483648 ≤ n ∧ n < 2147483648) : CT l yX11_past cX11_past 5 (some .int) 1 0 0 G [.ref (A 0), .int (J a), .int (J b), .int (J n)] (CW A D T G.2.1 I F Q P) (fun vo wo => ∃ (I1 : Nat → Int → Int), vo = some (.int (J (v_past S a b n))) ∧ wo = CW A D T G.2.1 I1 F Q P ∧ (LRn G.2.1 (n_past S a b n) I1 F Q P ∧ (∀ k : Nat, (k < 17 ∨ 23 ≤ k) → I1 k = I k))) := by
  refine CT_of (own := RX11) rfl rfl (Nat.le_of_ble_eq_true rfl) (fun K hl hnL hC hRT hin => ?_)
  subst hl
  show WW K G 0 0 (CW A D T G.2.1 I F Q P) 0 [(0, .ref (A 0)), (1, .int (J a)), (2, .int (J b)), (3, .int (J n))] []
  have hn := hR.n
  have hbd := hR.bd
  have hpa := hR.pa
  refine w_aload_n (pc := 0) hC dX11_past_0 0 rfl rfl ?_
  refine w_iload_n (pc := 1) hC dX11_past_1 1 rfl rfl ?_
  refine w_callV (pc := 2) (As := [.int (J a)]) (rest := []) hC dX11_past_2 cv_X11_64 (c_X11_isName (kl K) G A D T I F Q P S a (show RI S from by first | assumption | omega) (show LRn G.2.1 S I F Q P from by exact hL) (show -2147483648 ≤ a ∧ a < 2147483648 from by first | assumption | omega)) (by decide) ⟨Nat.le_of_ble_eq_true rfl, Nat.le_of_ble_eq_true rfl⟩ (q0 := 0) CW_0 rfl rfl rfl (Nat.le_of_ble_eq_true rfl) rfl (fun vo wo hv => ?_)
  obtain ⟨hv1, hw1⟩ := hv
  rw [hv1, hw1]
  show WW K G 0 0 (CW A D T G.2.1 I F Q P) 5 [(0, .ref (A 0)), (1, .int (J a)), (2, .int (J b)), (3, .int (J n))] [.int (J (bI (0 ≤ a ∧ a < S 0)))]
  refine w_if_eq_b (pc := 5) (tgt := 16) hC dX11_past_5 (by decide) (fun c5 => ?_) (fun c5 => ?_)
  · refine w_iconst (pc := 16) hC dX11_past_16 ?_
    refine w_iret (pc := 17) hC hRT dX11_past_17 rfl ?_
    refine ⟨I, retI (by unfold v_past; rw [if_pos (by omega)]), rfl, ?_⟩
    · unfold n_past
      rw [if_neg (by omega)]
      exact ⟨hL, fun k _ => rfl⟩
  · refine w_aload_n (pc := 8) hC dX11_past_8 0 rfl rfl ?_
    refine w_iload_n (pc := 9) hC dX11_past_9 2 rfl rfl ?_
    refine w_callV (pc := 10) (As := [.int (J b)]) (rest := []) hC dX11_past_10 cv_X11_64 (c_X11_isName (kl K) G A D T I F Q P S b (show RI S from by first | assumption | omega) (show LRn G.2.1 S I F Q P from by exact hL) (show -2147483648 ≤ b ∧ b < 2147483648 from by first | assumption | omega)) (by decide) ⟨Nat.le_of_ble_eq_true rfl, Nat.le_of_ble_eq_true rfl⟩ (q0 := 0) CW_0 rfl rfl rfl (Nat.le_of_ble_eq_true rfl) rfl (fun vo wo hv => ?_)
    obtain ⟨hv1, hw1⟩ := hv
    rw [hv1, hw1]
    show WW K G 0 0 (CW A D T G.2.1 I F Q P) 13 [(0, .ref (A 0)), (1, .int (J a)), (2, .int (J b)), (3, .int (J n))] [.int (J (bI (0 ≤ b ∧ b < S 0)))]
    refine w_if_ne_b (pc := 13) (tgt := 18) hC dX11_past_13 (by decide) (fun c13 => ?_) (fun c13 => ?_)
    · refine w_iload_n (pc := 18) hC dX11_past_18 1 rfl rfl ?_
      refine w_iload_n (pc := 19) hC dX11_past_19 2 rfl rfl ?_
      refine w_icmp_eq (pc := 20) (tgt := 33) hC dX11_past_20 (by decide) (by omega) (fun c20 => ?_) (fun c20 => ?_)
      · refine w_bipush (pc := 33) hC dX11_past_33 (z := (-2)) rfl ?_
        refine w_iret (pc := 35) hC hRT dX11_past_35 rfl ?_
        refine ⟨I, retI (by unfold v_past; rw [if_neg (by omega), if_pos (by omega)]), rfl, ?_⟩
        · unfold n_past
          rw [if_neg (by omega)]
          exact ⟨hL, fun k _ => rfl⟩
      · refine w_iload_n (pc := 23) hC dX11_past_23 3 rfl rfl ?_
        refine w_if_lt (pc := 24) (tgt := 33) hC dX11_past_24 (by decide) (by omega) (fun c24 => ?_) (fun c24 => ?_)
        · refine w_bipush (pc := 33) hC dX11_past_33 (z := (-2)) rfl ?_
          refine w_iret (pc := 35) hC hRT dX11_past_35 rfl ?_
          refine ⟨I, retI (by unfold v_past; rw [if_neg (by omega), if_pos (by omega)]), rfl, ?_⟩
          · unfold n_past
            rw [if_neg (by omega)]
            exact ⟨hL, fun k _ => rfl⟩
        · refine w_iload_n (pc := 27) hC dX11_past_27 3 rfl rfl ?_
          refine w_bipush (pc := 28) hC dX11_past_28 (z := 99) rfl ?_
          refine w_icmp_le (pc := 30) (tgt := 36) hC dX11_past_30 (by decide) (by omega) (fun c30 => ?_) (fun c30 => ?_)
          · refine w_aload_n (pc := 36) hC dX11_past_36 0 rfl rfl ?_
            refine w_getf (pc := 37) (v := .ref (A 1)) hC dX11_past_37 fi_X11_12 0 CW_0 rfl ?_
            refine w_getfN (pc := 40) (v := .ref (A 16)) hC dX11_past_40 fn_X11_243 1 CW_1 rfl ?_
            refine w_iload_n (pc := 43) hC dX11_past_43 1 rfl rfl ?_
            refine w_aaldS (t0 := 6) (q := A (17 + (a).toNat)) hC dX11_past_44 16 CW_16 rfl rfl (by omega) (Nat.le_of_ble_eq_true rfl) (rw6_at (by omega)) ?_
            refine w_iload_n (pc := 45) hC dX11_past_45 2 rfl rfl ?_
            refine w_ialdV (pc := 46) (v := S (929 + 6 * a + b)) hC dX11_past_46 (17 + (a).toNat) (CW_pa (by omega) (by omega)) (by omega) (Nat.le_of_ble_eq_true rfl) (l_pa hL (by omega) (by omega) (by omega) (by omega)) ?_
            refine w_istore (pc := 47) hC dX11_past_47 (lv2 := [(4, .int (J (S (929 + 6 * a + b)))), (0, .ref (A 0)), (1, .int (J a)), (2, .int (J b)), (3, .int (J n))]) (by rw [hnL]; decide) rfl ?_
            refine w_aload_n (pc := 49) hC dX11_past_49 1 rfl rfl ?_
            refine w_getf (pc := 50) (v := .ref (A 1)) hC dX11_past_50 fi_X11_12 0 CW_0 rfl ?_
            refine w_getfN (pc := 53) (v := .ref (A 16)) hC dX11_past_53 fn_X11_243 1 CW_1 rfl ?_
            refine w_iload_n (pc := 56) hC dX11_past_56 2 rfl rfl ?_
            refine w_aaldS (t0 := 6) (q := A (17 + (a).toNat)) hC dX11_past_57 16 CW_16 rfl rfl (by omega) (Nat.le_of_ble_eq_true rfl) (rw6_at (by omega)) ?_
            refine w_iload_n (pc := 58) hC dX11_past_58 3 rfl rfl ?_
            refine w_iload_n (pc := 59) hC dX11_past_59 4 rfl rfl ?_
            refine w_iast (pc := 60) (g := (I (17 + (a).toNat))) (w2 := CW A D T G.2.1 (au I (17 + (a).toNat) (gu (I (17 + (a).toNat)) b n)) F Q P) hC dX11_past_60 (17 + (a).toNat) (by rw [CW_pa (by omega) (by omega)]) (by omega) (Nat.le_of_ble_eq_true rfl) (CWa_pa (by omega) (by omega)) ?_
            refine w_iload (pc := 61) hC dX11_past_61 0 rfl ?_
            refine w_iret (pc := 63) hC hRT dX11_past_63 rfl ?_
            refine ⟨(au I (17 + (a).toNat) (gu (I (17 + (a).toNat)) b n)), retI (by unfold v_past; rw [if_neg (by omega), if_neg (by omega)]), rfl, ?_⟩
            · unfold n_past
              rw [if_pos ⟨by omega, by omega, by omega, by omega, by omega⟩]
              exact ⟨LR_past hL hR (by omega) (by omega), fun k hk => by rw [au_ne (by omega)]⟩
          · refine w_bipush (pc := 33) hC dX11_past_33 (z := (-2)) rfl ?_
            refine w_iret (pc := 35) hC hRT dX11_past_35 rfl ?_
            refine ⟨I, retI (by unfold v_past; rw [if_neg (by omega), if_pos (by omega)]), rfl, ?_⟩
            · unfold n_past
              rw [if_neg (by omega)]
              exact ⟨hL, fun k _ => rfl⟩
    · refine w_iconst (pc := 16) hC dX11_past_16 ?_
      refine w_iret (pc := 17) hC hRT dX11_past_17 rfl ?_
      refine ⟨I, retI (by unfold v_past; rw [if_pos (by omega)]), rfl, ?_⟩
      · unfold n_past
        rw [if_neg (by omega)]
        exact ⟨hL, fun k _ => rfl⟩
set_option maxRecDepth 100000 in
set_option maxHeartbeats 4000000 in
theorem c_X11_feed (l : Launch) (G : GT) (A D : Nat → Nat) (T : Nat) (I : Nat → Int → Int) (F : Nat → Int) (Q : Nat → Nat → Option Nat) (P : va_W) (S : Int → Int) (wl : Int) (n : Int) (hR : RI S) (hL : LRn G.2.1 S I F Q P) (hwl : -9223372036854775808 ≤ wl ∧ wl < 9223372036854775808) (h1 : -2147483648 ≤ n ∧ n < 2147483648) : CT l yX11_feed cX11_feed 5 (some .int) 0 0 0 G [.ref (A 0), .long (JL wl), .int (J n)] (CW A D T G.2.1 I F Q P) (fun vo wo => ∃ (b11 : Int → Int) (g3 : Int), vo = some (.int (J (v_feed S n))) ∧ wo = CW A D T G.2.1 (au I 11 b11) (fu F 3 g3) Q P ∧ (LRn G.2.1 (n_feed S wl n) (au I 11 b11) (fu F 3 g3) Q P ∧ ((∀ j : Int, 0 ≤ j → j < 120 → -128 ≤ (I 11) j ∧ (I 11) j ≤ 127) → ∀ j : Int, 0 ≤ j → j < 120 → -128 ≤ b11 j ∧ b11 j ≤ 127))) := by
  refine CT_of (own := RX11) rfl rfl (Nat.le_of_ble_eq_true rfl) (fun K hl hnL hC hRT hin => ?_)
  subst hl
  show WW K G 0 0 (CW A D T G.2.1 I F Q P) 0 [(0, .ref (A 0)), (1, .long (JL wl)), (3, .int (J n))] []
  have hn := hR.n
  have hbd := hR.bd
  have htp := hR.tp
  refine w_iload_n (pc := 0) hC dX11_feed_0 2 rfl rfl ?_
  refine w_iconst (pc := 1) hC dX11_feed_1 ?_
  refine w_icmp_lt (pc := 2) (tgt := 11) hC dX11_feed_2 (by decide) (by omega) (fun c2 => ?_) (fun c2 => ?_)
  · refine w_bipush (pc := 11) hC dX11_feed_11 (z := (-2)) rfl ?_
    refine w_iret (pc := 13) hC hRT dX11_feed_13 rfl ?_
    refine ⟨(I 11), (F 3), retI (by unfold v_feed; rw [if_pos (by omega)]), CW_cong (au_ms (k := 11) (v := I 11) rfl rfl rfl) (fu_ms (k := 3) (v := F 3) rfl rfl rfl) rfl, ?_⟩
    · unfold n_feed
      rw [if_neg (by omega)]
      exact ⟨LR_cg (show LRn G.2.1 S I F Q P from hL) (au_ms (k := 11) (v := I 11) rfl rfl rfl) (fu_ms (k := 3) (v := F 3) rfl rfl rfl) rfl, fun h => h⟩
  · refine w_iload_n (pc := 5) hC dX11_feed_5 2 rfl rfl ?_
    refine w_bipush (pc := 6) hC dX11_feed_6 (z := 8) rfl ?_
    refine w_icmp_le (pc := 8) (tgt := 14) hC dX11_feed_8 (by decide) (by omega) (fun c8 => ?_) (fun c8 => ?_)
    · refine w_aload_n (pc := 14) hC dX11_feed_14 0 rfl rfl ?_
      refine w_getf (pc := 15) (v := .ref (A 1)) hC dX11_feed_15 fi_X11_12 0 CW_0 rfl ?_
      refine w_getfN (pc := 18) (v := .int (J (S 5))) hC dX11_feed_18 fn_X11_90 1 CW_1 (congrArg (fun z : Int => some (Value.int (J z))) (l_tp hL)) ?_
      refine w_iload_n (pc := 21) hC dX11_feed_21 2 rfl rfl ?_
      refine w_iadd (pc := 22) hC dX11_feed_22 ?_
      refine w_bipush (pc := 23) hC dX11_feed_23 (z := 120) rfl ?_
      refine w_icmp_le (pc := 25) (tgt := 31) hC dX11_feed_25 (by decide) (by omega) (fun c25 => ?_) (fun c25 => ?_)
      · refine w_iload_n (pc := 31) hC dX11_feed_31 2 rfl rfl ?_
        refine w_iconst (pc := 32) hC dX11_feed_32 ?_
        refine w_isub (pc := 33) hC dX11_feed_33 ?_
        refine w_istore (pc := 34) hC dX11_feed_34 (lv2 := [(4, .int (J (n - 1))), (0, .ref (A 0)), (1, .long (JL wl)), (3, .int (J n))]) (by rw [hnL]; decide) rfl ?_
        have loop36 : ∀ (nF : Nat) (i : Int) (a11_36 : Int → Int) (f3_36 : Int), (-1 ≤ i ∧ i < n) → (f3_36 = S 5 + (n - 1 - i)) → (∀ j : Int, 0 ≤ j → j < f3_36 → a11_36 j = sby (n_feed S wl n (10 + j))) → ((∀ j : Int, 0 ≤ j → j < 120 → -128 ≤ (I 11) j ∧ (I 11) j ≤ 127) → ∀ j : Int, 0 ≤ j → j < 120 → -128 ≤ a11_36 j ∧ a11_36 j ≤ 127) → (i + 1) < (nF : Int) → WW K G 0 0 (CW A D T G.2.1 (au I 11 a11_36) (fu F 3 f3_36) Q P) 36 [(0, .ref (A 0)), (1, .long (JL wl)), (4, .int (J i))] [] := by
          intro nF
          induction nF with
          | zero => intro i a11_36 f3_36 i1 i2 i3 i4 hm36; exact absurd hm36 (by omega)
          | succ nF ih36 =>
            intro i a11_36 f3_36 i1 i2 i3 i4 hm36
            refine w_iload (pc := 36) hC dX11_feed_36 2 rfl ?_
            refine w_if_lt (pc := 38) (tgt := 84) hC dX11_feed_38 (by decide) (by omega) (fun c38 => ?_) (fun c38 => ?_)
            · refine w_aload_n (pc := 84) hC dX11_feed_84 0 rfl rfl ?_
              refine w_getf (pc := 85) (v := .ref (A 1)) hC dX11_feed_85 fi_X11_12 0 CW_0 rfl ?_
              refine w_getfN (pc := 88) (v := .int (J f3_36)) hC dX11_feed_88 fn_X11_90 1 CW_1 rfl ?_
              refine w_iret (pc := 91) hC hRT dX11_feed_91 rfl ?_
              refine ⟨a11_36, f3_36, retI (by unfold v_feed; rw [if_neg (by omega), if_neg (by omega), i2]; omega), rfl, ?_⟩
              · have e9 : f3_36 = S 5 + n := by omega
                subst e9
                exact ⟨LR_feed hL hR (by omega) (by omega) i3, i4⟩
            · refine w_aload_n (pc := 41) hC dX11_feed_41 0 rfl rfl ?_
              refine w_getf (pc := 42) (v := .ref (A 1)) hC dX11_feed_42 fi_X11_12 0 CW_0 rfl ?_
              refine w_getfN (pc := 45) (v := .ref (A 11)) hC dX11_feed_45 fn_X11_93 1 CW_1 rfl ?_
              refine w_aload_n (pc := 48) hC dX11_feed_48 0 rfl rfl ?_
              refine w_getf (pc := 49) (v := .ref (A 1)) hC dX11_feed_49 fi_X11_12 0 CW_0 rfl ?_
              refine w_getfN (pc := 52) (v := .int (J f3_36)) hC dX11_feed_52 fn_X11_90 1 CW_1 rfl ?_
              refine w_lload_n (pc := 55) hC dX11_feed_55 1 rfl rfl ?_
              refine w_bipush (pc := 56) hC dX11_feed_56 (z := 8) rfl ?_
              refine w_iload (pc := 58) hC dX11_feed_58 2 rfl ?_
              refine w_imul (pc := 60) hC dX11_feed_60 ?_
              refine w_lshr (pc := 61) hC dX11_feed_61 (by omega) ?_
              refine w_l2i (pc := 62) hC dX11_feed_62 ?_
              refine w_i2b (pc := 63) hC dX11_feed_63 (v := sby ((wl / 2 ^ (8 * i).toNat) % 256)) (i2b_v _) ?_
              refine w_bast (pc := 64) (g := a11_36) (w2 := CW A D T G.2.1 (au I 11 (gu a11_36 f3_36 (sby ((wl / 2 ^ (8 * i).toNat) % 256)))) (fu F 3 f3_36) Q P) hC dX11_feed_64 11 CW_11 (by omega) (Nat.le_of_ble_eq_true rfl) ((nar_b (sby_bd (by omega)))) (CWa_11 au_rp) ?_
              generalize h64 : gu a11_36 f3_36 (sby ((wl / 2 ^ (8 * i).toNat) % 256)) = s64
              refine w_aload_n (pc := 65) hC dX11_feed_65 0 rfl rfl ?_
              refine w_getf (pc := 66) (v := .ref (A 1)) hC dX11_feed_66 fi_X11_12 0 CW_0 rfl ?_
              refine w_dup (pc := 69) hC dX11_feed_69 rfl ?_
              refine w_getfN (pc := 70) (v := .int (J f3_36)) hC dX11_feed_70 fn_X11_90 1 CW_1 rfl ?_
              refine w_iconst (pc := 73) hC dX11_feed_73 ?_
              refine w_iadd (pc := 74) hC dX11_feed_74 ?_
              refine w_putfN (pc := 75) (w2 := CW A D T G.2.1 (au I 11 s64) (fu F 3 (f3_36 + 1)) Q P) hC dX11_feed_75 fn_X11_90 fp_X6_6 rfl 1 CW_1 (rfl) (rfl) (Nat.le_of_ble_eq_true rfl) (CWf_3 fu_rp) ?_
              refine w_iinc (pc := 78) hC dX11_feed_78 (lv2 := [(4, .int (J (i + (-1)))), (0, .ref (A 0)), (1, .long (JL wl))]) 2 rfl (by rw [hnL]; decide) rfl ?_
              refine w_goto (pc := 81) hC dX11_feed_81 (tgt := 36) (by decide) ?_
              refine w_sub [1, 2, 0] (lv2 := [(0, .ref (A 0)), (1, .long (JL wl)), (4, .int (J (i + (-1))))]) rfl ?_
              refine ih36 (i + (-1)) s64 (f3_36 + 1) ?_ ?_ ?_ ?_ ?_
              · first | assumption | omega
              · omega
              · exact feed_s (by omega) (by omega) ⟨by omega, by omega⟩ (by omega) h64 i2 i3
              · exact feed_b h64 i4
              · omega
        refine w_weq (CW_cong (au_ms (k := 11) (v := I 11) rfl rfl rfl) (fu_ms (k := 3) (v := F 3) rfl rfl rfl) rfl) ?_
        refine w_sub [1, 2, 0] (lv2 := [(0, .ref (A 0)), (1, .long (JL wl)), (4, .int (J (n - 1)))]) rfl ?_
        refine loop36 (((n - 1) + 1) + 1 : Int).toNat (n - 1) (I 11) (F 3) ?_ ?_ ?_ ?_ ?_
        · first | assumption | omega
        · rw [l_tp hL]; omega
        · intro j j0 j1; exact feed_0 hL hR (by omega) (by omega) j0 (by have := l_tp hL; omega)
        · exact fun h => h
        · omega
      · refine w_bipush (pc := 28) hC dX11_feed_28 (z := (-4)) rfl ?_
        refine w_iret (pc := 30) hC hRT dX11_feed_30 rfl ?_
        refine ⟨(I 11), (F 3), retI (by unfold v_feed; rw [if_neg (by omega), if_pos (by omega)]), CW_cong (au_ms (k := 11) (v := I 11) rfl rfl rfl) (fu_ms (k := 3) (v := F 3) rfl rfl rfl) rfl, ?_⟩
        · unfold n_feed
          rw [if_neg (by omega)]
          exact ⟨LR_cg (show LRn G.2.1 S I F Q P from hL) (au_ms (k := 11) (v := I 11) rfl rfl rfl) (fu_ms (k := 3) (v := F 3) rfl rfl rfl) rfl, fun h => h⟩
    · refine w_bipush (pc := 11) hC dX11_feed_11 (z := (-2)) rfl ?_
      refine w_iret (pc := 13) hC hRT dX11_feed_13 rfl ?_
      refine ⟨(I 11), (F 3), retI (by unfold v_feed; rw [if_pos (by omega)]), CW_cong (au_ms (k := 11) (v := I 11) rfl rfl rfl) (fu_ms (k := 3) (v := F 3) rfl rfl rfl) rfl, ?_⟩
      · unfold n_feed
        rw [if_neg (by omega)]
        exact ⟨LR_cg (show LRn G.2.1 S I F Q P from hL) (au_ms (k := 11) (v := I 11) rfl rfl rfl) (fu_ms (k := 3) (v := F 3) rfl rfl rfl) rfl, fun h => h⟩
