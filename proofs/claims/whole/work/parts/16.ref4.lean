
def jx (a b : Int) : Int := (J a ^^^ J b).toInt
theorem J_xor (a b : Int) : J a ^^^ J b = J (jx a b) := J_of _
def napp (bd : Int → Int) (ran body : Int) : Int → Int := if ran < 20 then gu bd ran body else bd
/-- the trace, behind some more bodies -/
def nb : List Int → (Int → Int) → Int → (Int → Int)
  | [], bd, _ => bd
  | b :: L, bd, r => nb L (napp bd r b) (r + 1)
theorem nb_app : ∀ (L1 L2 : List Int) (bd : Int → Int) (r : Int), nb (L1 ++ L2) bd r = nb L2 (nb L1 bd r) (r + L1.length)
  | [], L2, bd, r => by simp [nb]
  | b :: L, L2, bd, r => by
    show nb (L ++ L2) (napp bd r b) (r + 1) = nb L2 (nb L (napp bd r b) (r + 1)) _
    rw [nb_app L L2]
    congr 1
    simp only [List.length_cons]
    omega
theorem nb1 (b : Int) (bd : Int → Int) (r : Int) : nb [b] bd r = napp bd r b := rfl
def asL (k : Int) : List Int := if k = 1 then [11, 1] else if k = 4 then [51, 1] else [1]
def ptL (k : Int) : List Int := 2 :: asL k
def tkL (k : Int) : List Int := if k = 6 then 61 :: ptL k else if k = 2 ∨ k = 3 ∨ k = 4 then 21 :: ptL k else ptL k
def pwL (k : Int) : List Int := 3 :: tkL k
def wtL (k : Int) : List Int := if k = 3 then (41 :: pwL k) ++ asL k else if k = 5 ∨ k = 6 then 31 :: pwL k else pwL k
def asv (k m x : Int) : Int := if k = 1 then x * 3 + m else if k = 4 then jx (x + m) m else x + m
def tkv (k m v x : Int) : Int := if k = 6 then (asv k m x - v) + v else if k = 2 ∨ k = 3 ∨ k = 4 then -(asv k m x - v) else asv k m x - v
def wtv (k m v x : Int) : Int := if k = 3 then tkv k m v (x - 1) * 2 + asv k m 2 else if k = 5 ∨ k = 6 then jx (tkv k m v x * 2) 7 else tkv k m v x * 2
theorem asL_len (k : Int) : ((asL k).length : Int) ≤ 2 := by unfold asL; (repeat' split) <;> simp
theorem tkL_len (k : Int) : ((tkL k).length : Int) ≤ 4 := by
  have := asL_len k
  unfold tkL ptL
  (repeat' split) <;> simp only [List.length_cons] <;> omega
def v_act (S : Int → Int) (a c x : Int) : Int := if ¬ (0 ≤ a ∧ a < S 0) ∨ ¬ (0 ≤ c ∧ c ≤ 2) then 0 else if c = 0 then asv (S (166 + a)) a x else if c = 1 then tkv (S (166 + a)) a (S (172 + a)) x else wtv (S (166 + a)) a (S (172 + a)) x
def actL (S : Int → Int) (a c : Int) : List Int := if ¬ (0 ≤ a ∧ a < S 0) ∨ ¬ (0 ≤ c ∧ c ≤ 2) then [] else if c = 0 then asL (S (166 + a)) else if c = 1 then tkL (S (166 + a)) else wtL (S (166 + a))
def v_trace (bd : Int → Int) (ran i : Int) : Int := if 0 ≤ i ∧ i < ran ∧ i < 20 then bd i else -1

set_option maxRecDepth 100000 in
set_option maxHeartbeats 4000000 in
theorem c_X12_pass (l : Launch) (G : GT) (A : Nat → Nat) (I : Nat → Int → Int) (F : Nat → Int)  (n : Int) (hR : RI (I 1)) (hc : -2147483648 ≤ n ∧ n < 2147483648) : CT l yX12_pass cX12_pass 2 (some .int) 1 0 0 G [.ref (A 0), .int (J n)] (MW A G.2.1 I F) (fun vo wo => ∃ (b1 : Int → Int), vo = some (.int (J (v_pass (I 1) n))) ∧ wo = MW A G.2.1 (au I 1 b1) F ∧ (b1 = n_pass (I 1) n)) := by
  refine CT_of (own := RX12) rfl rfl (Nat.le_of_ble_eq_true rfl) (fun K hl hnL hC hRT hin => ?_)
  subst hl
  show WW K G 0 0 (MW A G.2.1 I F) 0 [(0, .ref (A 0)), (1, .int (J n))] []
  have hn := hR.td
  refine w_iload_n (pc := 0) hC dX12_pass_0 1 rfl rfl ?_
  refine w_iconst (pc := 1) hC dX12_pass_1 ?_
  refine w_bipush (pc := 2) hC dX12_pass_2 (z := 99) rfl ?_
  refine w_callS (pc := 4) (As := [.int (J n), .int (J 1), .int (J 99)]) (rest := []) hC dX12_pass_4 cs_X12_48 (c_X12_in (kl K) G (MW A G.2.1 I F) n 1 99 (show (-2147483648 ≤ n ∧ n < 2147483648) ∧ (-2147483648 ≤ 1 ∧ 1 < 2147483648) ∧ -2147483648 ≤ 99 ∧ 99 < 2147483648 from by first | assumption | omega)) (by decide) ⟨Nat.le_of_ble_eq_true rfl, Nat.le_of_ble_eq_true rfl⟩ rfl (Nat.le_of_ble_eq_true rfl) rfl (fun vo wo hv => ?_)
  obtain ⟨hv1, hw1⟩ := hv
  rw [hv1, hw1]
  show WW K G 0 0 (MW A G.2.1 I F) 7 [(0, .ref (A 0)), (1, .int (J n))] [.int (J (bI (1 ≤ n ∧ n ≤ 99)))]
  refine w_if_eq_b (pc := 7) (tgt := 24) hC dX12_pass_7 (by decide) (fun c7 => ?_) (fun c7 => ?_)
  · refine w_bipush (pc := 24) hC dX12_pass_24 (z := (-2)) rfl ?_
    refine w_iret (pc := 26) hC hRT dX12_pass_26 rfl ?_
    refine ⟨(I 1), retI (by first | rfl | (simp only [v_pass]; repeat' split) <;> first | rfl | omega), rfl, ?_⟩
    · unfold n_pass; rw [if_neg (by omega)]
  · refine w_aload_n (pc := 10) hC dX12_pass_10 0 rfl rfl ?_
    refine w_getf (pc := 11) (v := .ref (A 1)) hC dX12_pass_11 fi_X12_9 0 rfl rfl ?_
    refine w_iconst (pc := 14) hC dX12_pass_14 ?_
    refine w_iald (pc := 15) (g := (I 1)) hC dX12_pass_15 1 rfl (by omega) (Nat.le_of_ble_eq_true rfl) ?_
    refine w_iload_n (pc := 16) hC dX12_pass_16 1 rfl rfl ?_
    refine w_iadd (pc := 17) hC dX12_pass_17 ?_
    refine w_sipush (pc := 18) hC dX12_pass_18 (z := 999) rfl ?_
    refine w_icmp_le (pc := 21) (tgt := 27) hC dX12_pass_21 (by decide) (by omega) (fun c21 => ?_) (fun c21 => ?_)
    · refine w_aload_n (pc := 27) hC dX12_pass_27 0 rfl rfl ?_
      refine w_getf (pc := 28) (v := .ref (A 1)) hC dX12_pass_28 fi_X12_9 0 rfl rfl ?_
      refine w_iconst (pc := 31) hC dX12_pass_31 ?_
      refine w_dup2 (pc := 32) hC dX12_pass_32 rfl rfl ?_
      refine w_iald (pc := 33) (g := (I 1)) hC dX12_pass_33 1 rfl (by omega) (Nat.le_of_ble_eq_true rfl) ?_
      refine w_iload_n (pc := 34) hC dX12_pass_34 1 rfl rfl ?_
      refine w_iadd (pc := 35) hC dX12_pass_35 ?_
      refine w_iast (pc := 36) (g := (I 1)) (w2 := MW A G.2.1 (au I 1 (gu (I 1) 2 (((I 1) 2) + n))) F) hC dX12_pass_36 1 rfl (by omega) (Nat.le_of_ble_eq_true rfl) rfl ?_
      generalize h36 : gu (I 1) 2 (((I 1) 2) + n) = s36
      refine w_aload_n (pc := 37) hC dX12_pass_37 0 rfl rfl ?_
      refine w_getf (pc := 38) (v := .ref (A 1)) hC dX12_pass_38 fi_X12_9 0 rfl rfl ?_
      refine w_iconst (pc := 41) hC dX12_pass_41 ?_
      refine w_iald (pc := 42) (g := s36) hC dX12_pass_42 1 rfl (by omega) (Nat.le_of_ble_eq_true rfl) ?_
      refine w_iret (pc := 43) hC hRT dX12_pass_43 rfl ?_
      refine ⟨s36, retI (by subst h36; rw [gu_eq]; unfold v_pass; rw [if_pos (by omega)]), rfl, ?_⟩
      · subst h36; unfold n_pass; rw [if_pos (by omega)]
    · refine w_bipush (pc := 24) hC dX12_pass_24 (z := (-2)) rfl ?_
      refine w_iret (pc := 26) hC hRT dX12_pass_26 rfl ?_
      refine ⟨(I 1), retI (by first | rfl | (simp only [v_pass]; repeat' split) <;> first | rfl | omega), rfl, ?_⟩
      · unfold n_pass; rw [if_neg (by omega)]
set_option maxRecDepth 100000 in
set_option maxHeartbeats 4000000 in
theorem c_X12_past (l : Launch) (G : GT) (A : Nat → Nat) (I : Nat → Int → Int) (F : Nat → Int)  (a : Int) (b : Int) (n : Int) (hR : RI (I 1)) (ha : -2147483648 ≤ a ∧ a < 2147483648) (hb : -2147483648 ≤ b ∧ b < 2147483648) (hc : -2147483648 ≤ n ∧ n < 2147483648) : CT l yX12_past cX12_past 5 (some .int) 2 0 0 G [.ref (A 0), .int (J a), .int (J b), .int (J n)] (MW A G.2.1 I F) (fun vo wo => ∃ (b1 : Int → Int), vo = some (.int (J (v_past (I 1) a b n))) ∧ wo = MW A G.2.1 (au I 1 b1) F ∧ (b1 = n_past (I 1) a b n)) := by
  refine CT_of (own := RX12) rfl rfl (Nat.le_of_ble_eq_true rfl) (fun K hl hnL hC hRT hin => ?_)
  subst hl
  show WW K G 0 0 (MW A G.2.1 I F) 0 [(0, .ref (A 0)), (1, .int (J a)), (2, .int (J b)), (3, .int (J n))] []
  have hn := hR.n
  refine w_aload_n (pc := 0) hC dX12_past_0 0 rfl rfl ?_
  refine w_iload_n (pc := 1) hC dX12_past_1 1 rfl rfl ?_
  refine w_callV (pc := 2) (As := [.int (J a)]) (rest := []) hC dX12_past_2 cv_X12_60 (c_X12_isName (kl K) G A I F a (show RI (I 1) from by first | assumption | omega) (show -2147483648 ≤ a ∧ a < 2147483648 from by first | assumption | omega)) (by decide) ⟨Nat.le_of_ble_eq_true rfl, Nat.le_of_ble_eq_true rfl⟩ (q0 := 0) rfl rfl rfl rfl (Nat.le_of_ble_eq_true rfl) rfl (fun vo wo hv => ?_)
  obtain ⟨hv1, hw1⟩ := hv
  rw [hv1, hw1]
  show WW K G 0 0 (MW A G.2.1 I F) 5 [(0, .ref (A 0)), (1, .int (J a)), (2, .int (J b)), (3, .int (J n))] [.int (J (bI (0 ≤ a ∧ a < (I 1) 0)))]
  refine w_if_eq_b (pc := 5) (tgt := 16) hC dX12_past_5 (by decide) (fun c5 => ?_) (fun c5 => ?_)
  · refine w_iconst (pc := 16) hC dX12_past_16 ?_
    refine w_iret (pc := 17) hC hRT dX12_past_17 rfl ?_
    refine ⟨(I 1), retI (by first | rfl | (simp only [v_past]; repeat' split) <;> first | rfl | omega), rfl, ?_⟩
    · unfold n_past; rw [if_neg (by omega)]
  · refine w_aload_n (pc := 8) hC dX12_past_8 0 rfl rfl ?_
    refine w_iload_n (pc := 9) hC dX12_past_9 2 rfl rfl ?_
    refine w_callV (pc := 10) (As := [.int (J b)]) (rest := []) hC dX12_past_10 cv_X12_60 (c_X12_isName (kl K) G A I F b (show RI (I 1) from by first | assumption | omega) (show -2147483648 ≤ b ∧ b < 2147483648 from by first | assumption | omega)) (by decide) ⟨Nat.le_of_ble_eq_true rfl, Nat.le_of_ble_eq_true rfl⟩ (q0 := 0) rfl rfl rfl rfl (Nat.le_of_ble_eq_true rfl) rfl (fun vo wo hv => ?_)
    obtain ⟨hv1, hw1⟩ := hv
    rw [hv1, hw1]
    show WW K G 0 0 (MW A G.2.1 I F) 13 [(0, .ref (A 0)), (1, .int (J a)), (2, .int (J b)), (3, .int (J n))] [.int (J (bI (0 ≤ b ∧ b < (I 1) 0)))]
    refine w_if_ne_b (pc := 13) (tgt := 18) hC dX12_past_13 (by decide) (fun c13 => ?_) (fun c13 => ?_)
    · refine w_iload_n (pc := 18) hC dX12_past_18 1 rfl rfl ?_
      refine w_iload_n (pc := 19) hC dX12_past_19 2 rfl rfl ?_
      refine w_icmp_eq (pc := 20) (tgt := 33) hC dX12_past_20 (by decide) (by omega) (fun c20 => ?_) (fun c20 => ?_)
      · refine w_bipush (pc := 33) hC dX12_past_33 (z := (-2)) rfl ?_
        refine w_iret (pc := 35) hC hRT dX12_past_35 rfl ?_
        refine ⟨(I 1), retI (by first | rfl | (simp only [v_past]; repeat' split) <;> first | rfl | omega), rfl, ?_⟩
        · unfold n_past; rw [if_neg (by omega)]
      · refine w_iload_n (pc := 23) hC dX12_past_23 3 rfl rfl ?_
        refine w_iconst (pc := 24) hC dX12_past_24 ?_
        refine w_bipush (pc := 25) hC dX12_past_25 (z := 99) rfl ?_
        refine w_callS (pc := 27) (As := [.int (J n), .int (J 0), .int (J 99)]) (rest := []) hC dX12_past_27 cs_X12_48 (c_X12_in (kl K) G (MW A G.2.1 I F) n 0 99 (show (-2147483648 ≤ n ∧ n < 2147483648) ∧ (-2147483648 ≤ 0 ∧ 0 < 2147483648) ∧ -2147483648 ≤ 99 ∧ 99 < 2147483648 from by first | assumption | omega)) (by decide) ⟨Nat.le_of_ble_eq_true rfl, Nat.le_of_ble_eq_true rfl⟩ rfl (Nat.le_of_ble_eq_true rfl) rfl (fun vo wo hv => ?_)
        obtain ⟨hv1, hw1⟩ := hv
        rw [hv1, hw1]
        show WW K G 0 0 (MW A G.2.1 I F) 30 [(0, .ref (A 0)), (1, .int (J a)), (2, .int (J b)), (3, .int (J n))] [.int (J (bI (0 ≤ n ∧ n ≤ 99)))]
        refine w_if_ne_b (pc := 30) (tgt := 36) hC dX12_past_30 (by decide) (fun c30 => ?_) (fun c30 => ?_)
        · refine w_aload_n (pc := 36) hC dX12_past_36 0 rfl rfl ?_
          refine w_getf (pc := 37) (v := .ref (A 1)) hC dX12_past_37 fi_X12_9 0 rfl rfl ?_
          refine w_sipush (pc := 40) hC dX12_past_40 (z := 929) rfl ?_
          refine w_bipush (pc := 43) hC dX12_past_43 (z := 6) rfl ?_
          refine w_iload_n (pc := 45) hC dX12_past_45 1 rfl rfl ?_
          refine w_imul (pc := 46) hC dX12_past_46 ?_
          refine w_iadd (pc := 47) hC dX12_past_47 ?_
          refine w_iload_n (pc := 48) hC dX12_past_48 2 rfl rfl ?_
          refine w_iadd (pc := 49) hC dX12_past_49 ?_
          refine w_iald (pc := 50) (g := (I 1)) hC dX12_past_50 1 rfl (by omega) (Nat.le_of_ble_eq_true rfl) ?_
          refine w_istore (pc := 51) hC dX12_past_51 (lv2 := [(4, .int (J ((I 1) ((929 + (6 * a)) + b)))), (0, .ref (A 0)), (1, .int (J a)), (2, .int (J b)), (3, .int (J n))]) (by rw [hnL]; decide) rfl ?_
          refine w_aload_n (pc := 53) hC dX12_past_53 1 rfl rfl ?_
          refine w_getf (pc := 54) (v := .ref (A 1)) hC dX12_past_54 fi_X12_9 0 rfl rfl ?_
          refine w_sipush (pc := 57) hC dX12_past_57 (z := 929) rfl ?_
          refine w_bipush (pc := 60) hC dX12_past_60 (z := 6) rfl ?_
          refine w_iload_n (pc := 62) hC dX12_past_62 2 rfl rfl ?_
          refine w_imul (pc := 63) hC dX12_past_63 ?_
          refine w_iadd (pc := 64) hC dX12_past_64 ?_
          refine w_iload_n (pc := 65) hC dX12_past_65 3 rfl rfl ?_
          refine w_iadd (pc := 66) hC dX12_past_66 ?_
          refine w_iload_n (pc := 67) hC dX12_past_67 4 rfl rfl ?_
          refine w_iast (pc := 68) (g := (I 1)) (w2 := MW A G.2.1 (au I 1 (gu (I 1) ((929 + (6 * a)) + b) n)) F) hC dX12_past_68 1 rfl (by omega) (Nat.le_of_ble_eq_true rfl) rfl ?_
          generalize h68 : gu (I 1) ((929 + (6 * a)) + b) n = s68
          refine w_iload (pc := 69) hC dX12_past_69 0 rfl ?_
          refine w_iret (pc := 71) hC hRT dX12_past_71 rfl ?_
          refine ⟨s68, retI (by first | rfl | (simp only [v_past]; repeat' split) <;> first | rfl | omega), rfl, ?_⟩
          · subst h68; unfold n_past; rw [if_pos (by omega)]
        · refine w_bipush (pc := 33) hC dX12_past_33 (z := (-2)) rfl ?_
          refine w_iret (pc := 35) hC hRT dX12_past_35 rfl ?_
          refine ⟨(I 1), retI (by first | rfl | (simp only [v_past]; repeat' split) <;> first | rfl | omega), rfl, ?_⟩
          · unfold n_past; rw [if_neg (by omega)]
    · refine w_iconst (pc := 16) hC dX12_past_16 ?_
      refine w_iret (pc := 17) hC hRT dX12_past_17 rfl ?_
      refine ⟨(I 1), retI (by first | rfl | (simp only [v_past]; repeat' split) <;> first | rfl | omega), rfl, ?_⟩
      · unfold n_past; rw [if_neg (by omega)]
set_option maxRecDepth 100000 in
set_option maxHeartbeats 4000000 in
theorem c_X12_row (l : Launch) (G : GT) (A : Nat → Nat) (I : Nat → Int → Int) (F : Nat → Int)  (a : Int) (hR : RI (I 1)) (ha : -2147483648 ≤ a ∧ a < 2147483648) : CT l yX12_row cX12_row 2 (some .int) 1 0 0 G [.ref (A 0), .int (J a)] (MW A G.2.1 I F) (fun vo wo => ∃ (b1 : Int → Int), vo = some (.int (J (v_row (I 1) a))) ∧ wo = MW A G.2.1 (au I 1 b1) F ∧ (b1 = n_row (I 1) a)) := by
  refine CT_of (own := RX12) rfl rfl (Nat.le_of_ble_eq_true rfl) (fun K hl hnL hC hRT hin => ?_)
  subst hl
  show WW K G 0 0 (MW A G.2.1 I F) 0 [(0, .ref (A 0)), (1, .int (J a))] []
  have hn := hR.rw
  refine w_iload_n (pc := 0) hC dX12_row_0 1 rfl rfl ?_
  refine w_bipush (pc := 1) hC dX12_row_1 (z := (-2)) rfl ?_
  refine w_icmp_ne (pc := 3) (tgt := 15) hC dX12_row_3 (by decide) (by omega) (fun c3 => ?_) (fun c3 => ?_)
  · refine w_iload_n (pc := 15) hC dX12_row_15 1 rfl rfl ?_
    refine w_iconst (pc := 16) hC dX12_row_16 ?_
    refine w_iconst (pc := 17) hC dX12_row_17 ?_
    refine w_callS (pc := 18) (As := [.int (J a), .int (J (-1)), .int (J 5)]) (rest := []) hC dX12_row_18 cs_X12_48 (c_X12_in (kl K) G (MW A G.2.1 I F) a (-1) 5 (show (-2147483648 ≤ a ∧ a < 2147483648) ∧ (-2147483648 ≤ (-1) ∧ (-1) < 2147483648) ∧ -2147483648 ≤ 5 ∧ 5 < 2147483648 from by first | assumption | omega)) (by decide) ⟨Nat.le_of_ble_eq_true rfl, Nat.le_of_ble_eq_true rfl⟩ rfl (Nat.le_of_ble_eq_true rfl) rfl (fun vo wo hv => ?_)
    obtain ⟨hv1, hw1⟩ := hv
    rw [hv1, hw1]
    show WW K G 0 0 (MW A G.2.1 I F) 21 [(0, .ref (A 0)), (1, .int (J a))] [.int (J (bI ((-1) ≤ a ∧ a ≤ 5)))]
    refine w_if_ne_b (pc := 21) (tgt := 27) hC dX12_row_21 (by decide) (fun c21 => ?_) (fun c21 => ?_)
    · refine w_aload_n (pc := 27) hC dX12_row_27 0 rfl rfl ?_
      refine w_getf (pc := 28) (v := .ref (A 1)) hC dX12_row_28 fi_X12_9 0 rfl rfl ?_
      refine w_iconst (pc := 31) hC dX12_row_31 ?_
      refine w_iald (pc := 32) (g := (I 1)) hC dX12_row_32 1 rfl (by omega) (Nat.le_of_ble_eq_true rfl) ?_
      refine w_bipush (pc := 33) hC dX12_row_33 (z := 6) rfl ?_
      refine w_icmp_ne (pc := 35) (tgt := 41) hC dX12_row_35 (by decide) (by omega) (fun c35 => ?_) (fun c35 => ?_)
      · refine w_aload_n (pc := 41) hC dX12_row_41 0 rfl rfl ?_
        refine w_getf (pc := 42) (v := .ref (A 1)) hC dX12_row_42 fi_X12_9 0 rfl rfl ?_
        refine w_sipush (pc := 45) hC dX12_row_45 (z := 923) rfl ?_
        refine w_aload_n (pc := 48) hC dX12_row_48 0 rfl rfl ?_
        refine w_getf (pc := 49) (v := .ref (A 1)) hC dX12_row_49 fi_X12_9 0 rfl rfl ?_
        refine w_iconst (pc := 52) hC dX12_row_52 ?_
        refine w_iald (pc := 53) (g := (I 1)) hC dX12_row_53 1 rfl (by omega) (Nat.le_of_ble_eq_true rfl) ?_
        refine w_iadd (pc := 54) hC dX12_row_54 ?_
        refine w_iload_n (pc := 55) hC dX12_row_55 1 rfl rfl ?_
        refine w_iast (pc := 56) (g := (I 1)) (w2 := MW A G.2.1 (au I 1 (gu (I 1) (923 + ((I 1) 4)) a)) F) hC dX12_row_56 1 rfl (by omega) (Nat.le_of_ble_eq_true rfl) rfl ?_
        generalize h56 : gu (I 1) (923 + ((I 1) 4)) a = s56
        refine w_aload_n (pc := 57) hC dX12_row_57 0 rfl rfl ?_
        refine w_getf (pc := 58) (v := .ref (A 1)) hC dX12_row_58 fi_X12_9 0 rfl rfl ?_
        refine w_iconst (pc := 61) hC dX12_row_61 ?_
        refine w_dup2 (pc := 62) hC dX12_row_62 rfl rfl ?_
        refine w_iald (pc := 63) (g := s56) hC dX12_row_63 1 rfl (by omega) (Nat.le_of_ble_eq_true rfl) ?_
        have e64 : s56 4 = I 1 4 := by subst h56; rw [gu_ne (by omega)]
        refine w_iconst (pc := 64) hC dX12_row_64 ?_
        refine w_iadd (pc := 65) hC dX12_row_65 ?_
        refine w_iast (pc := 66) (g := s56) (w2 := MW A G.2.1 (au I 1 (gu s56 4 ((s56 4) + 1))) F) hC dX12_row_66 1 rfl (by omega) (Nat.le_of_ble_eq_true rfl) rfl ?_
        generalize h66 : gu s56 4 ((s56 4) + 1) = s66
        refine w_aload_n (pc := 67) hC dX12_row_67 0 rfl rfl ?_
        refine w_getf (pc := 68) (v := .ref (A 1)) hC dX12_row_68 fi_X12_9 0 rfl rfl ?_
        refine w_iconst (pc := 71) hC dX12_row_71 ?_
        refine w_iald (pc := 72) (g := s66) hC dX12_row_72 1 rfl (by omega) (Nat.le_of_ble_eq_true rfl) ?_
        refine w_iret (pc := 73) hC hRT dX12_row_73 rfl ?_
        refine ⟨s66, retI (by subst h66; rw [gu_eq, e64]; unfold v_row; (repeat' split) <;> omega), rfl, ?_⟩
        · subst h66; rw [e64]; subst h56; unfold n_row; rw [if_neg (by omega), if_neg (by omega), if_neg (by omega)]
      · refine w_bipush (pc := 38) hC dX12_row_38 (z := (-4)) rfl ?_
        refine w_iret (pc := 40) hC hRT dX12_row_40 rfl ?_
        refine ⟨(I 1), retI (by first | rfl | (simp only [v_row]; repeat' split) <;> first | rfl | omega), rfl, ?_⟩
        · unfold n_row; (repeat' split) <;> first | rfl | omega
    · refine w_bipush (pc := 24) hC dX12_row_24 (z := (-2)) rfl ?_
      refine w_iret (pc := 26) hC hRT dX12_row_26 rfl ?_
      refine ⟨(I 1), retI (by first | rfl | (simp only [v_row]; repeat' split) <;> first | rfl | omega), rfl, ?_⟩
      · unfold n_row; (repeat' split) <;> first | rfl | omega
  · refine w_aload_n (pc := 6) hC dX12_row_6 0 rfl rfl ?_
    refine w_getf (pc := 7) (v := .ref (A 1)) hC dX12_row_7 fi_X12_9 0 rfl rfl ?_
    refine w_iconst (pc := 10) hC dX12_row_10 ?_
    refine w_iconst (pc := 11) hC dX12_row_11 ?_
    refine w_iast (pc := 12) (g := (I 1)) (w2 := MW A G.2.1 (au I 1 (gu (I 1) 4 0)) F) hC dX12_row_12 1 rfl (by omega) (Nat.le_of_ble_eq_true rfl) rfl ?_
    generalize h12 : gu (I 1) 4 0 = s12
    refine w_iconst (pc := 13) hC dX12_row_13 ?_
    refine w_iret (pc := 14) hC hRT dX12_row_14 rfl ?_
    refine ⟨s12, retI (by first | rfl | (simp only [v_row]; repeat' split) <;> first | rfl | omega), rfl, ?_⟩
    · subst h12; unfold n_row; rw [if_pos (by omega)]
set_option maxRecDepth 100000 in
set_option maxHeartbeats 4000000 in
theorem c_X12_round (l : Launch) (G : GT) (A : Nat → Nat) (I : Nat → Int → Int) (F : Nat → Int)  (i : Int) (j : Int) (hR : RI (I 1)) (ha : -2147483648 ≤ i ∧ i < 2147483648) (hb : -2147483648 ≤ j ∧ j < 2147483648) : CT l yX12_round cX12_round 3 (some .int) 1 0 0 G [.ref (A 0), .int (J i), .int (J j)] (MW A G.2.1 I F) (fun vo wo => ∃ (b1 : Int → Int), vo = some (.int (J (v_round (I 1) i j))) ∧ wo = MW A G.2.1 (au I 1 b1) F ∧ (b1 = n_round (I 1) i j)) := by
  refine CT_of (own := RX12) rfl rfl (Nat.le_of_ble_eq_true rfl) (fun K hl hnL hC hRT hin => ?_)
  subst hl
  show WW K G 0 0 (MW A G.2.1 I F) 0 [(0, .ref (A 0)), (1, .int (J i)), (2, .int (J j))] []
  have hn := hR.rd
  refine w_iload_n (pc := 0) hC dX12_round_0 1 rfl rfl ?_
  refine w_iconst (pc := 1) hC dX12_round_1 ?_
  refine w_icmp_ne (pc := 2) (tgt := 14) hC dX12_round_2 (by decide) (by omega) (fun c2 => ?_) (fun c2 => ?_)
  · refine w_iload_n (pc := 14) hC dX12_round_14 1 rfl rfl ?_
    refine w_iconst (pc := 15) hC dX12_round_15 ?_
    refine w_iconst (pc := 16) hC dX12_round_16 ?_
    refine w_callS (pc := 17) (As := [.int (J i), .int (J 0), .int (J 5)]) (rest := []) hC dX12_round_17 cs_X12_48 (c_X12_in (kl K) G (MW A G.2.1 I F) i 0 5 (show (-2147483648 ≤ i ∧ i < 2147483648) ∧ (-2147483648 ≤ 0 ∧ 0 < 2147483648) ∧ -2147483648 ≤ 5 ∧ 5 < 2147483648 from by first | assumption | omega)) (by decide) ⟨Nat.le_of_ble_eq_true rfl, Nat.le_of_ble_eq_true rfl⟩ rfl (Nat.le_of_ble_eq_true rfl) rfl (fun vo wo hv => ?_)
    obtain ⟨hv1, hw1⟩ := hv
    rw [hv1, hw1]
    show WW K G 0 0 (MW A G.2.1 I F) 20 [(0, .ref (A 0)), (1, .int (J i)), (2, .int (J j))] [.int (J (bI (0 ≤ i ∧ i ≤ 5)))]
    refine w_if_eq_b (pc := 20) (tgt := 37) hC dX12_round_20 (by decide) (fun c20 => ?_) (fun c20 => ?_)
    · refine w_bipush (pc := 37) hC dX12_round_37 (z := (-2)) rfl ?_
      refine w_iret (pc := 39) hC hRT dX12_round_39 rfl ?_
      refine ⟨(I 1), retI (by first | rfl | (simp only [v_round]; repeat' split) <;> first | rfl | omega), rfl, ?_⟩
      · unfold n_round; (repeat' split) <;> first | rfl | omega
    · refine w_iload_n (pc := 23) hC dX12_round_23 2 rfl rfl ?_
      refine w_iconst (pc := 24) hC dX12_round_24 ?_
      refine w_iconst (pc := 25) hC dX12_round_25 ?_
      refine w_callS (pc := 26) (As := [.int (J j), .int (J 0), .int (J 5)]) (rest := []) hC dX12_round_26 cs_X12_48 (c_X12_in (kl K) G (MW A G.2.1 I F) j 0 5 (show (-2147483648 ≤ j ∧ j < 2147483648) ∧ (-2147483648 ≤ 0 ∧ 0 < 2147483648) ∧ -2147483648 ≤ 5 ∧ 5 < 2147483648 from by first | assumption | omega)) (by decide) ⟨Nat.le_of_ble_eq_true rfl, Nat.le_of_ble_eq_true rfl⟩ rfl (Nat.le_of_ble_eq_true rfl) rfl (fun vo wo hv => ?_)
      obtain ⟨hv1, hw1⟩ := hv
      rw [hv1, hw1]
      show WW K G 0 0 (MW A G.2.1 I F) 29 [(0, .ref (A 0)), (1, .int (J i)), (2, .int (J j))] [.int (J (bI (0 ≤ j ∧ j ≤ 5)))]
      refine w_if_eq_b (pc := 29) (tgt := 37) hC dX12_round_29 (by decide) (fun c29 => ?_) (fun c29 => ?_)
      · refine w_bipush (pc := 37) hC dX12_round_37 (z := (-2)) rfl ?_
        refine w_iret (pc := 39) hC hRT dX12_round_39 rfl ?_
        refine ⟨(I 1), retI (by first | rfl | (simp only [v_round]; repeat' split) <;> first | rfl | omega), rfl, ?_⟩
        · unfold n_round; (repeat' split) <;> first | rfl | omega
      · refine w_iload_n (pc := 32) hC dX12_round_32 1 rfl rfl ?_
        refine w_iload_n (pc := 33) hC dX12_round_33 2 rfl rfl ?_
        refine w_icmp_lt (pc := 34) (tgt := 40) hC dX12_round_34 (by decide) (by omega) (fun c34 => ?_) (fun c34 => ?_)
        · refine w_aload_n (pc := 40) hC dX12_round_40 0 rfl rfl ?_
          refine w_getf (pc := 41) (v := .ref (A 1)) hC dX12_round_41 fi_X12_9 0 rfl rfl ?_
          refine w_iconst (pc := 44) hC dX12_round_44 ?_
          refine w_iald (pc := 45) (g := (I 1)) hC dX12_round_45 1 rfl (by omega) (Nat.le_of_ble_eq_true rfl) ?_
          refine w_bipush (pc := 46) hC dX12_round_46 (z := 15) rfl ?_
          refine w_icmp_ne (pc := 48) (tgt := 54) hC dX12_round_48 (by decide) (by omega) (fun c48 => ?_) (fun c48 => ?_)
          · refine w_aload_n (pc := 54) hC dX12_round_54 0 rfl rfl ?_
            refine w_getf (pc := 55) (v := .ref (A 1)) hC dX12_round_55 fi_X12_9 0 rfl rfl ?_
            refine w_sipush (pc := 58) hC dX12_round_58 (z := 893) rfl ?_
            refine w_iconst (pc := 61) hC dX12_round_61 ?_
            refine w_aload_n (pc := 62) hC dX12_round_62 0 rfl rfl ?_
            refine w_getf (pc := 63) (v := .ref (A 1)) hC dX12_round_63 fi_X12_9 0 rfl rfl ?_
            refine w_iconst (pc := 66) hC dX12_round_66 ?_
            refine w_iald (pc := 67) (g := (I 1)) hC dX12_round_67 1 rfl (by omega) (Nat.le_of_ble_eq_true rfl) ?_
            refine w_imul (pc := 68) hC dX12_round_68 ?_
            refine w_iadd (pc := 69) hC dX12_round_69 ?_
            refine w_iload_n (pc := 70) hC dX12_round_70 1 rfl rfl ?_
            refine w_iast (pc := 71) (g := (I 1)) (w2 := MW A G.2.1 (au I 1 (gu (I 1) (893 + (2 * ((I 1) 3))) i)) F) hC dX12_round_71 1 rfl (by omega) (Nat.le_of_ble_eq_true rfl) rfl ?_
            generalize h71 : gu (I 1) (893 + (2 * ((I 1) 3))) i = s71
            refine w_aload_n (pc := 72) hC dX12_round_72 0 rfl rfl ?_
            refine w_getf (pc := 73) (v := .ref (A 1)) hC dX12_round_73 fi_X12_9 0 rfl rfl ?_
            refine w_sipush (pc := 76) hC dX12_round_76 (z := 893) rfl ?_
            refine w_iconst (pc := 79) hC dX12_round_79 ?_
            refine w_aload_n (pc := 80) hC dX12_round_80 0 rfl rfl ?_
            refine w_getf (pc := 81) (v := .ref (A 1)) hC dX12_round_81 fi_X12_9 0 rfl rfl ?_
            refine w_iconst (pc := 84) hC dX12_round_84 ?_
            refine w_iald (pc := 85) (g := s71) hC dX12_round_85 1 rfl (by omega) (Nat.le_of_ble_eq_true rfl) ?_
            have e85 : s71 3 = I 1 3 := by subst h71; rw [gu_ne (by omega)]
            refine w_imul (pc := 86) hC dX12_round_86 ?_
            refine w_iadd (pc := 87) hC dX12_round_87 ?_
            refine w_iconst (pc := 88) hC dX12_round_88 ?_
            refine w_iadd (pc := 89) hC dX12_round_89 ?_
            refine w_iload_n (pc := 90) hC dX12_round_90 2 rfl rfl ?_
            refine w_iast (pc := 91) (g := s71) (w2 := MW A G.2.1 (au I 1 (gu s71 ((893 + (2 * (s71 3))) + 1) j)) F) hC dX12_round_91 1 rfl (by omega) (Nat.le_of_ble_eq_true rfl) rfl ?_
            generalize h91 : gu s71 ((893 + (2 * (s71 3))) + 1) j = s91
            refine w_aload_n (pc := 92) hC dX12_round_92 0 rfl rfl ?_
            refine w_getf (pc := 93) (v := .ref (A 1)) hC dX12_round_93 fi_X12_9 0 rfl rfl ?_
            refine w_iconst (pc := 96) hC dX12_round_96 ?_
            refine w_dup2 (pc := 97) hC dX12_round_97 rfl rfl ?_
            refine w_iald (pc := 98) (g := s91) hC dX12_round_98 1 rfl (by omega) (Nat.le_of_ble_eq_true rfl) ?_
            have e98 : s91 3 = I 1 3 := by subst h91; rw [gu_ne (by omega), e85]
            refine w_iconst (pc := 99) hC dX12_round_99 ?_
            refine w_iadd (pc := 100) hC dX12_round_100 ?_
            refine w_iast (pc := 101) (g := s91) (w2 := MW A G.2.1 (au I 1 (gu s91 3 ((s91 3) + 1))) F) hC dX12_round_101 1 rfl (by omega) (Nat.le_of_ble_eq_true rfl) rfl ?_
            generalize h101 : gu s91 3 ((s91 3) + 1) = s101
            refine w_aload_n (pc := 102) hC dX12_round_102 0 rfl rfl ?_
            refine w_getf (pc := 103) (v := .ref (A 1)) hC dX12_round_103 fi_X12_9 0 rfl rfl ?_
            refine w_iconst (pc := 106) hC dX12_round_106 ?_
            refine w_iald (pc := 107) (g := s101) hC dX12_round_107 1 rfl (by omega) (Nat.le_of_ble_eq_true rfl) ?_
            refine w_iret (pc := 108) hC hRT dX12_round_108 rfl ?_
            refine ⟨s101, retI (by subst h101; rw [gu_eq, e98]; unfold v_round; (repeat' split) <;> omega), rfl, ?_⟩
            · subst h101; rw [e98]; subst h91; rw [e85]; subst h71; unfold n_round; rw [if_neg (by omega), if_neg (by omega), if_neg (by omega)]
          · refine w_bipush (pc := 51) hC dX12_round_51 (z := (-4)) rfl ?_
            refine w_iret (pc := 53) hC hRT dX12_round_53 rfl ?_
            refine ⟨(I 1), retI (by first | rfl | (simp only [v_round]; repeat' split) <;> first | rfl | omega), rfl, ?_⟩
            · unfold n_round; (repeat' split) <;> first | rfl | omega
        · refine w_bipush (pc := 37) hC dX12_round_37 (z := (-2)) rfl ?_
          refine w_iret (pc := 39) hC hRT dX12_round_39 rfl ?_
          refine ⟨(I 1), retI (by first | rfl | (simp only [v_round]; repeat' split) <;> first | rfl | omega), rfl, ?_⟩
          · unfold n_round; (repeat' split) <;> first | rfl | omega
  · refine w_aload_n (pc := 5) hC dX12_round_5 0 rfl rfl ?_
    refine w_getf (pc := 6) (v := .ref (A 1)) hC dX12_round_6 fi_X12_9 0 rfl rfl ?_
    refine w_iconst (pc := 9) hC dX12_round_9 ?_
    refine w_iconst (pc := 10) hC dX12_round_10 ?_
    refine w_iast (pc := 11) (g := (I 1)) (w2 := MW A G.2.1 (au I 1 (gu (I 1) 3 0)) F) hC dX12_round_11 1 rfl (by omega) (Nat.le_of_ble_eq_true rfl) rfl ?_
    generalize h11 : gu (I 1) 3 0 = s11
    refine w_iconst (pc := 12) hC dX12_round_12 ?_
    refine w_iret (pc := 13) hC hRT dX12_round_13 rfl ?_
    refine ⟨s11, retI (by first | rfl | (simp only [v_round]; repeat' split) <;> first | rfl | omega), rfl, ?_⟩
    · subst h11; unfold n_round; rw [if_pos (by omega)]
set_option maxRecDepth 100000 in
set_option maxHeartbeats 4000000 in
theorem c_X12_image (l : Launch) (G : GT) (A : Nat → Nat) (I : Nat → Int → Int) (F : Nat → Int)   (hR : RI (I 1)) : CT l yX12_image cX12_image 2 (some .int) 0 0 0 G [.ref (A 0)] (MW A G.2.1 I F) (fun vo wo => ∃ (b2 : Int → Int) (g3 : Int), vo = some (.int (J ((I 1) 2))) ∧ wo = MW A G.2.1 (au I 2 b2) (fu F 3 g3) ∧ ((∀ j : Int, 0 ≤ j → j < 965 → b2 j = (I 1) j) ∧ g3 = 1)) := by
  refine CT_of (own := RX12) rfl rfl (Nat.le_of_ble_eq_true rfl) (fun K hl hnL hC hRT hin => ?_)
  subst hl
  show WW K G 0 0 (MW A G.2.1 I F) 0 [(0, .ref (A 0))] []
  refine w_iconst (pc := 0) hC dX12_image_0 ?_
  refine w_istore_n (pc := 1) hC dX12_image_1 rfl (lv2 := [(1, .int (J 0)), (0, .ref (A 0))]) (by rw [hnL]; decide) rfl ?_
  have loop2 : ∀ (nF : Nat) (k : Int) (a2_2 : Int → Int), (0 ≤ k ∧ k ≤ 965) → (∀ j : Int, 0 ≤ j → j < k → a2_2 j = (I 1) j) → (965 - k) < (nF : Int) → WW K G 0 0 (MW A G.2.1 (au I 2 a2_2) F) 2 [(0, .ref (A 0)), (1, .int (J k))] [] := by
    intro nF
    induction nF with
    | zero => intro k a2_2 i1 i2 hm2; exact absurd hm2 (by omega)
    | succ nF ih2 =>
      intro k a2_2 i1 i2 hm2
      refine w_iload_n (pc := 2) hC dX12_image_2 1 rfl rfl ?_
      refine w_sipush (pc := 3) hC dX12_image_3 (z := 965) rfl ?_
      refine w_icmp_ge (pc := 6) (tgt := 27) hC dX12_image_6 (by decide) (by omega) (fun c6 => ?_) (fun c6 => ?_)
      · refine w_aload_n (pc := 27) hC dX12_image_27 0 rfl rfl ?_
        refine w_iconst (pc := 28) hC dX12_image_28 ?_
        refine w_putf (pc := 29) (w2 := MW A G.2.1 (au I 2 a2_2) (fu F 3 1)) hC dX12_image_29 fi_X12_292 fp_X12_3 rfl 0 rfl (rfl) (rfl) (Nat.le_of_ble_eq_true rfl) rfl ?_
        refine w_aload_n (pc := 32) hC dX12_image_32 0 rfl rfl ?_
        refine w_getf (pc := 33) (v := .ref (A 1)) hC dX12_image_33 fi_X12_9 0 rfl rfl ?_
        refine w_iconst (pc := 36) hC dX12_image_36 ?_
        refine w_iald (pc := 37) (g := (I 1)) hC dX12_image_37 1 rfl (by omega) (Nat.le_of_ble_eq_true rfl) ?_
        refine w_iret (pc := 38) hC hRT dX12_image_38 rfl ?_
        refine ⟨a2_2, 1, retI (by first | rfl | exact (bI_t (by omega)).symm | exact (bI_f (by omega)).symm | omega), rfl, ?_⟩
        · exact ⟨fun j g1 g2 => i2 j g1 (by omega), rfl⟩
      · refine w_aload_n (pc := 9) hC dX12_image_9 0 rfl rfl ?_
        refine w_getf (pc := 10) (v := .ref (A 2)) hC dX12_image_10 fi_X12_15 0 rfl rfl ?_
        refine w_iload_n (pc := 13) hC dX12_image_13 1 rfl rfl ?_
        refine w_aload_n (pc := 14) hC dX12_image_14 0 rfl rfl ?_
        refine w_getf (pc := 15) (v := .ref (A 1)) hC dX12_image_15 fi_X12_9 0 rfl rfl ?_
        refine w_iload_n (pc := 18) hC dX12_image_18 1 rfl rfl ?_
        refine w_iald (pc := 19) (g := (I 1)) hC dX12_image_19 1 rfl (by omega) (Nat.le_of_ble_eq_true rfl) ?_
        refine w_iast (pc := 20) (g := a2_2) (w2 := MW A G.2.1 (au I 2 (gu a2_2 k ((I 1) k))) F) hC dX12_image_20 2 rfl (by omega) (Nat.le_of_ble_eq_true rfl) rfl ?_
        generalize h20 : gu a2_2 k ((I 1) k) = s20
        refine w_iinc (pc := 21) hC dX12_image_21 (lv2 := [(1, .int (J (k + 1))), (0, .ref (A 0))]) 1 rfl (by rw [hnL]; decide) rfl ?_
        refine w_goto (pc := 24) hC dX12_image_24 (tgt := 2) (by decide) ?_
        refine w_sub [1, 0] (lv2 := [(0, .ref (A 0)), (1, .int (J (k + 1)))]) rfl ?_
        refine ih2 (k + 1) s20 ?_ ?_ ?_
        · first | assumption | omega
        · intro j g1 g2; subst h20; by_cases e : j = k
          · rw [e, gu_eq]
          · rw [gu_ne e]; exact i2 j g1 (by omega)
        · omega
  refine w_sub [1, 0] (lv2 := [(0, .ref (A 0)), (1, .int (J 0))]) rfl ?_
  refine loop2 ((965 - 0) + 1 : Int).toNat 0 (I 2) ?_ ?_ ?_
  · first | assumption | omega
  · intro j g1 g2; omega
  · omega
set_option maxRecDepth 100000 in
set_option maxHeartbeats 4000000 in
theorem c_X12_undo (l : Launch) (G : GT) (A : Nat → Nat) (I : Nat → Int → Int) (F : Nat → Int)   (hR : RI (I 1)) (hh : (F 3) = 0 ∨ (F 3) = 1) : CT l yX12_undo cX12_undo 2 (some .int) 0 0 0 G [.ref (A 0)] (MW A G.2.1 I F) (fun vo wo => ∃ (b1 : Int → Int), vo = some (.int (J (if (F 3) = 0 then -3 else (I 2) 2))) ∧ wo = MW A G.2.1 (au I 1 b1) F ∧ (((F 3) = 0 → b1 = (I 1)) ∧ (¬ (F 3) = 0 → ∀ j : Int, b1 j = if 0 ≤ j ∧ j < 965 then (I 2) j else (I 1) j))) := by
  refine CT_of (own := RX12) rfl rfl (Nat.le_of_ble_eq_true rfl) (fun K hl hnL hC hRT hin => ?_)
  subst hl
  show WW K G 0 0 (MW A G.2.1 I F) 0 [(0, .ref (A 0))] []
  refine w_aload_n (pc := 0) hC dX12_undo_0 0 rfl rfl ?_
  refine w_getf (pc := 1) (v := .int (J (F 3))) hC dX12_undo_1 fi_X12_292 0 rfl rfl ?_
  refine w_if_ne (pc := 4) (tgt := 10) hC dX12_undo_4 (by decide) (by omega) (fun c4 => ?_) (fun c4 => ?_)
  · refine w_iconst (pc := 10) hC dX12_undo_10 ?_
    refine w_istore_n (pc := 11) hC dX12_undo_11 rfl (lv2 := [(1, .int (J 0)), (0, .ref (A 0))]) (by rw [hnL]; decide) rfl ?_
    have loop12 : ∀ (nF : Nat) (k : Int) (a1_12 : Int → Int), (0 ≤ k ∧ k ≤ 965) → (∀ j : Int, a1_12 j = if 0 ≤ j ∧ j < k then (I 2) j else I 1 j) → (965 - k) < (nF : Int) → WW K G 0 0 (MW A G.2.1 (au I 1 a1_12) F) 12 [(0, .ref (A 0)), (1, .int (J k))] [] := by
      intro nF
      induction nF with
      | zero => intro k a1_12 i1 i2 hm12; exact absurd hm12 (by omega)
      | succ nF ih12 =>
        intro k a1_12 i1 i2 hm12
        refine w_iload_n (pc := 12) hC dX12_undo_12 1 rfl rfl ?_
        refine w_sipush (pc := 13) hC dX12_undo_13 (z := 965) rfl ?_
        refine w_icmp_ge (pc := 16) (tgt := 37) hC dX12_undo_16 (by decide) (by omega) (fun c16 => ?_) (fun c16 => ?_)
        · refine w_aload_n (pc := 37) hC dX12_undo_37 0 rfl rfl ?_
          refine w_getf (pc := 38) (v := .ref (A 1)) hC dX12_undo_38 fi_X12_9 0 rfl rfl ?_
          refine w_iconst (pc := 41) hC dX12_undo_41 ?_
          refine w_iald (pc := 42) (g := a1_12) hC dX12_undo_42 1 rfl (by omega) (Nat.le_of_ble_eq_true rfl) ?_
          refine w_iret (pc := 43) hC hRT dX12_undo_43 rfl ?_
          refine ⟨a1_12, retI (by rw [if_neg (by omega), i2, if_pos (by omega)]), rfl, ?_⟩
          · exact ⟨fun h => by omega, fun _ j => by rw [i2, show k = 965 by omega]⟩
        · refine w_aload_n (pc := 19) hC dX12_undo_19 0 rfl rfl ?_
          refine w_getf (pc := 20) (v := .ref (A 1)) hC dX12_undo_20 fi_X12_9 0 rfl rfl ?_
          refine w_iload_n (pc := 23) hC dX12_undo_23 1 rfl rfl ?_
          refine w_aload_n (pc := 24) hC dX12_undo_24 0 rfl rfl ?_
          refine w_getf (pc := 25) (v := .ref (A 2)) hC dX12_undo_25 fi_X12_15 0 rfl rfl ?_
          refine w_iload_n (pc := 28) hC dX12_undo_28 1 rfl rfl ?_
          refine w_iald (pc := 29) (g := (I 2)) hC dX12_undo_29 2 rfl (by omega) (Nat.le_of_ble_eq_true rfl) ?_
          refine w_iast (pc := 30) (g := a1_12) (w2 := MW A G.2.1 (au I 1 (gu a1_12 k ((I 2) k))) F) hC dX12_undo_30 1 rfl (by omega) (Nat.le_of_ble_eq_true rfl) rfl ?_
          generalize h30 : gu a1_12 k ((I 2) k) = s30
          refine w_iinc (pc := 31) hC dX12_undo_31 (lv2 := [(1, .int (J (k + 1))), (0, .ref (A 0))]) 1 rfl (by rw [hnL]; decide) rfl ?_
          refine w_goto (pc := 34) hC dX12_undo_34 (tgt := 12) (by decide) ?_
          refine w_sub [1, 0] (lv2 := [(0, .ref (A 0)), (1, .int (J (k + 1)))]) rfl ?_
          refine ih12 (k + 1) s30 ?_ ?_ ?_
          · first | assumption | omega
          · intro j; subst h30; simp only [gu, i2]; (repeat' split) <;> first | rfl | omega | (rename_i h _; rw [h]) | (rename_i h; rw [h])
          · omega
    refine w_sub [1, 0] (lv2 := [(0, .ref (A 0)), (1, .int (J 0))]) rfl ?_
    refine loop12 ((965 - 0) + 1 : Int).toNat 0 (I 1) ?_ ?_ ?_
    · first | assumption | omega
    · intro j; rw [if_neg (by omega)]
    · omega
  · refine w_bipush (pc := 7) hC dX12_undo_7 (z := (-3)) rfl ?_
    refine w_iret (pc := 9) hC hRT dX12_undo_9 rfl ?_
    refine ⟨(I 1), retI (by rw [if_pos (by omega)]), rfl, ?_⟩
    · exact ⟨fun _ => rfl, fun h => absurd (by omega) h⟩
set_option maxRecDepth 100000 in
set_option maxHeartbeats 4000000 in
theorem c_X12_count (l : Launch) (G : GT) (A : Nat → Nat) (I : Nat → Int → Int) (F : Nat → Int)  (w : Int) (hR : RI (I 1)) (ha : -2147483648 ≤ w ∧ w < 2147483648) : CT l yX12_count cX12_count 2 (some .int) 0 0 0 G [.ref (A 0), .int (J w)] (MW A G.2.1 I F) (fun vo wo => vo = some (.int (J (v_count (I 1) (F 24) w))) ∧ wo = MW A G.2.1 I F) := by
  refine CT_of (own := RX12) rfl rfl (Nat.le_of_ble_eq_true rfl) (fun K hl hnL hC hRT hin => ?_)
  subst hl
  show WW K G 0 0 (MW A G.2.1 I F) 0 [(0, .ref (A 0)), (1, .int (J w))] []
  refine w_iload_n (pc := 0) hC dX12_count_0 1 rfl rfl ?_
  rcases (show w = 0 ∨ w = 1 ∨ w = 2 ∨ w = 3 ∨ w = 4 ∨ w = 5 ∨ w = 6 ∨ (w < 0 ∨ 6 < w) by omega) with c1 | c1 | c1 | c1 | c1 | c1 | c1 | c1
  · refine w_tableIn (pc := 1) (v := 0) (tgt := 44) hC dX12_count_1 c1 (by decide) rfl (by decide) ?_
    refine w_aload_n (pc := 44) hC dX12_count_44 0 rfl rfl ?_
    refine w_getf (pc := 45) (v := .ref (A 1)) hC dX12_count_45 fi_X12_9 0 rfl rfl ?_
    refine w_iconst (pc := 48) hC dX12_count_48 ?_
    refine w_iald (pc := 49) (g := (I 1)) hC dX12_count_49 1 rfl (by omega) (Nat.le_of_ble_eq_true rfl) ?_
    refine w_iret (pc := 50) hC hRT dX12_count_50 rfl ?_
    refine ⟨retI (by first | rfl | (simp only [v_count]; repeat' split) <;> first | rfl | omega), rfl⟩
  · refine w_tableIn (pc := 1) (v := 1) (tgt := 51) hC dX12_count_1 c1 (by decide) rfl (by decide) ?_
    refine w_aload_n (pc := 51) hC dX12_count_51 0 rfl rfl ?_
    refine w_getf (pc := 52) (v := .ref (A 1)) hC dX12_count_52 fi_X12_9 0 rfl rfl ?_
    refine w_iconst (pc := 55) hC dX12_count_55 ?_
    refine w_iald (pc := 56) (g := (I 1)) hC dX12_count_56 1 rfl (by omega) (Nat.le_of_ble_eq_true rfl) ?_
    refine w_iret (pc := 57) hC hRT dX12_count_57 rfl ?_
    refine ⟨retI (by first | rfl | (simp only [v_count]; repeat' split) <;> first | rfl | omega), rfl⟩
  · refine w_tableIn (pc := 1) (v := 2) (tgt := 58) hC dX12_count_1 c1 (by decide) rfl (by decide) ?_
    refine w_aload_n (pc := 58) hC dX12_count_58 0 rfl rfl ?_
    refine w_getf (pc := 59) (v := .ref (A 1)) hC dX12_count_59 fi_X12_9 0 rfl rfl ?_
    refine w_iconst (pc := 62) hC dX12_count_62 ?_
    refine w_iald (pc := 63) (g := (I 1)) hC dX12_count_63 1 rfl (by omega) (Nat.le_of_ble_eq_true rfl) ?_
    refine w_iret (pc := 64) hC hRT dX12_count_64 rfl ?_
    refine ⟨retI (by first | rfl | (simp only [v_count]; repeat' split) <;> first | rfl | omega), rfl⟩
  · refine w_tableIn (pc := 1) (v := 3) (tgt := 65) hC dX12_count_1 c1 (by decide) rfl (by decide) ?_
    refine w_aload_n (pc := 65) hC dX12_count_65 0 rfl rfl ?_
    refine w_getf (pc := 66) (v := .ref (A 1)) hC dX12_count_66 fi_X12_9 0 rfl rfl ?_
    refine w_iconst (pc := 69) hC dX12_count_69 ?_
    refine w_iald (pc := 70) (g := (I 1)) hC dX12_count_70 1 rfl (by omega) (Nat.le_of_ble_eq_true rfl) ?_
    refine w_iret (pc := 71) hC hRT dX12_count_71 rfl ?_
    refine ⟨retI (by first | rfl | (simp only [v_count]; repeat' split) <;> first | rfl | omega), rfl⟩
  · refine w_tableIn (pc := 1) (v := 4) (tgt := 72) hC dX12_count_1 c1 (by decide) rfl (by decide) ?_
    refine w_aload_n (pc := 72) hC dX12_count_72 0 rfl rfl ?_
    refine w_getf (pc := 73) (v := .ref (A 1)) hC dX12_count_73 fi_X12_9 0 rfl rfl ?_
    refine w_iconst (pc := 76) hC dX12_count_76 ?_
    refine w_iald (pc := 77) (g := (I 1)) hC dX12_count_77 1 rfl (by omega) (Nat.le_of_ble_eq_true rfl) ?_
    refine w_iret (pc := 78) hC hRT dX12_count_78 rfl ?_
    refine ⟨retI (by first | rfl | (simp only [v_count]; repeat' split) <;> first | rfl | omega), rfl⟩
  · refine w_tableIn (pc := 1) (v := 5) (tgt := 79) hC dX12_count_1 c1 (by decide) rfl (by decide) ?_
    refine w_aload_n (pc := 79) hC dX12_count_79 0 rfl rfl ?_
    refine w_getf (pc := 80) (v := .ref (A 1)) hC dX12_count_80 fi_X12_9 0 rfl rfl ?_
    refine w_iconst (pc := 83) hC dX12_count_83 ?_
    refine w_iald (pc := 84) (g := (I 1)) hC dX12_count_84 1 rfl (by omega) (Nat.le_of_ble_eq_true rfl) ?_
    refine w_iret (pc := 85) hC hRT dX12_count_85 rfl ?_
    refine ⟨retI (by first | rfl | (simp only [v_count]; repeat' split) <;> first | rfl | omega), rfl⟩
  · refine w_tableIn (pc := 1) (v := 6) (tgt := 86) hC dX12_count_1 c1 (by decide) rfl (by decide) ?_
    refine w_aload_n (pc := 86) hC dX12_count_86 0 rfl rfl ?_
    refine w_getf (pc := 87) (v := .int (J (F 24))) hC dX12_count_87 fi_X12_256 0 rfl rfl ?_
    refine w_iret (pc := 90) hC hRT dX12_count_90 rfl ?_
    refine ⟨retI (by first | rfl | (simp only [v_count]; repeat' split) <;> first | rfl | omega), rfl⟩
  · refine w_tableOut (pc := 1) (tgt := 91) hC dX12_count_1 (by omega) c1 (by decide) ?_
    refine w_iconst (pc := 91) hC dX12_count_91 ?_
    refine w_iret (pc := 92) hC hRT dX12_count_92 rfl ?_
    refine ⟨retI (by first | rfl | (simp only [v_count]; repeat' split) <;> first | rfl | omega), rfl⟩
set_option maxRecDepth 100000 in
set_option maxHeartbeats 4000000 in
theorem c_X12_isUnder (l : Launch) (G : GT) (w0 : va_W)  (kind : Int) (k : Int) (ha : -2147483648 ≤ kind ∧ kind < 2147483648) (hb : -2147483648 ≤ k ∧ k < 2147483648) : CT l yX12_isUnder cX12_isUnder 2 (some .boolean) 0 0 0 G [.int (J kind), .int (J k)] w0 (fun vo wo => vo = some (.int (J (bI (k = 0 ∨ k = kind ∨ (k = 2 ∧ (kind = 3 ∨ kind = 4)) ∨ (k = 5 ∧ kind = 6))))) ∧ wo = w0) := by
  refine CT_of (own := RX12) rfl rfl (Nat.le_of_ble_eq_true rfl) (fun K hl hnL hC hRT hin => ?_)
  subst hl
  show WW K G 0 0 w0 0 [(0, .int (J kind)), (1, .int (J k))] []
  refine w_iload_n (pc := 0) hC dX12_isUnder_0 1 rfl rfl ?_
  refine w_if_eq (pc := 1) (tgt := 35) hC dX12_isUnder_1 (by decide) (by omega) (fun c1 => ?_) (fun c1 => ?_)
  · refine w_iconst (pc := 35) hC dX12_isUnder_35 ?_
    refine w_goto (pc := 36) hC dX12_isUnder_36 (tgt := 40) (by decide) ?_
    refine w_iret (pc := 40) hC hRT dX12_isUnder_40 rfl ?_
    refine ⟨retI (by first | rfl | exact (bI_t (by omega)).symm | exact (bI_f (by omega)).symm | omega), rfl⟩
  · refine w_iload_n (pc := 4) hC dX12_isUnder_4 1 rfl rfl ?_
    refine w_iload_n (pc := 5) hC dX12_isUnder_5 0 rfl rfl ?_
    refine w_icmp_eq (pc := 6) (tgt := 35) hC dX12_isUnder_6 (by decide) (by omega) (fun c6 => ?_) (fun c6 => ?_)
    · refine w_iconst (pc := 35) hC dX12_isUnder_35 ?_
      refine w_goto (pc := 36) hC dX12_isUnder_36 (tgt := 40) (by decide) ?_
      refine w_iret (pc := 40) hC hRT dX12_isUnder_40 rfl ?_
      refine ⟨retI (by first | rfl | exact (bI_t (by omega)).symm | exact (bI_f (by omega)).symm | omega), rfl⟩
    · refine w_iload_n (pc := 9) hC dX12_isUnder_9 1 rfl rfl ?_
      refine w_iconst (pc := 10) hC dX12_isUnder_10 ?_
      refine w_icmp_ne (pc := 11) (tgt := 24) hC dX12_isUnder_11 (by decide) (by omega) (fun c11 => ?_) (fun c11 => ?_)
      · refine w_iload_n (pc := 24) hC dX12_isUnder_24 1 rfl rfl ?_
        refine w_iconst (pc := 25) hC dX12_isUnder_25 ?_
        refine w_icmp_ne (pc := 26) (tgt := 39) hC dX12_isUnder_26 (by decide) (by omega) (fun c26 => ?_) (fun c26 => ?_)
        · refine w_iconst (pc := 39) hC dX12_isUnder_39 ?_
          refine w_iret (pc := 40) hC hRT dX12_isUnder_40 rfl ?_
          refine ⟨retI (by first | rfl | exact (bI_t (by omega)).symm | exact (bI_f (by omega)).symm | omega), rfl⟩
        · refine w_iload_n (pc := 29) hC dX12_isUnder_29 0 rfl rfl ?_
          refine w_bipush (pc := 30) hC dX12_isUnder_30 (z := 6) rfl ?_
          refine w_icmp_ne (pc := 32) (tgt := 39) hC dX12_isUnder_32 (by decide) (by omega) (fun c32 => ?_) (fun c32 => ?_)
          · refine w_iconst (pc := 39) hC dX12_isUnder_39 ?_
            refine w_iret (pc := 40) hC hRT dX12_isUnder_40 rfl ?_
            refine ⟨retI (by first | rfl | exact (bI_t (by omega)).symm | exact (bI_f (by omega)).symm | omega), rfl⟩
          · refine w_iconst (pc := 35) hC dX12_isUnder_35 ?_
            refine w_goto (pc := 36) hC dX12_isUnder_36 (tgt := 40) (by decide) ?_
            refine w_iret (pc := 40) hC hRT dX12_isUnder_40 rfl ?_
            refine ⟨retI (by first | rfl | exact (bI_t (by omega)).symm | exact (bI_f (by omega)).symm | omega), rfl⟩
      · refine w_iload_n (pc := 14) hC dX12_isUnder_14 0 rfl rfl ?_
        refine w_iconst (pc := 15) hC dX12_isUnder_15 ?_
        refine w_icmp_eq (pc := 16) (tgt := 35) hC dX12_isUnder_16 (by decide) (by omega) (fun c16 => ?_) (fun c16 => ?_)
        · refine w_iconst (pc := 35) hC dX12_isUnder_35 ?_
          refine w_goto (pc := 36) hC dX12_isUnder_36 (tgt := 40) (by decide) ?_
          refine w_iret (pc := 40) hC hRT dX12_isUnder_40 rfl ?_
          refine ⟨retI (by first | rfl | exact (bI_t (by omega)).symm | exact (bI_f (by omega)).symm | omega), rfl⟩
        · refine w_iload_n (pc := 19) hC dX12_isUnder_19 0 rfl rfl ?_
          refine w_iconst (pc := 20) hC dX12_isUnder_20 ?_
          refine w_icmp_eq (pc := 21) (tgt := 35) hC dX12_isUnder_21 (by decide) (by omega) (fun c21 => ?_) (fun c21 => ?_)
          · refine w_iconst (pc := 35) hC dX12_isUnder_35 ?_
            refine w_goto (pc := 36) hC dX12_isUnder_36 (tgt := 40) (by decide) ?_
            refine w_iret (pc := 40) hC hRT dX12_isUnder_40 rfl ?_
            refine ⟨retI (by first | rfl | exact (bI_t (by omega)).symm | exact (bI_f (by omega)).symm | omega), rfl⟩
          · refine w_iload_n (pc := 24) hC dX12_isUnder_24 1 rfl rfl ?_
            refine w_iconst (pc := 25) hC dX12_isUnder_25 ?_
            refine w_icmp_ne (pc := 26) (tgt := 39) hC dX12_isUnder_26 (by decide) (by omega) (fun c26 => ?_) (fun c26 => ?_)
            · refine w_iconst (pc := 39) hC dX12_isUnder_39 ?_
              refine w_iret (pc := 40) hC hRT dX12_isUnder_40 rfl ?_
              refine ⟨retI (by first | rfl | exact (bI_t (by omega)).symm | exact (bI_f (by omega)).symm | omega), rfl⟩
            · refine w_iload_n (pc := 29) hC dX12_isUnder_29 0 rfl rfl ?_
              refine w_bipush (pc := 30) hC dX12_isUnder_30 (z := 6) rfl ?_
              refine w_icmp_ne (pc := 32) (tgt := 39) hC dX12_isUnder_32 (by decide) (by omega) (fun c32 => ?_) (fun c32 => ?_)
              · refine w_iconst (pc := 39) hC dX12_isUnder_39 ?_
                refine w_iret (pc := 40) hC hRT dX12_isUnder_40 rfl ?_
                refine ⟨retI (by first | rfl | exact (bI_t (by omega)).symm | exact (bI_f (by omega)).symm | omega), rfl⟩
              · refine w_iconst (pc := 35) hC dX12_isUnder_35 ?_
                refine w_goto (pc := 36) hC dX12_isUnder_36 (tgt := 40) (by decide) ?_
                refine w_iret (pc := 40) hC hRT dX12_isUnder_40 rfl ?_
                refine ⟨retI (by first | rfl | exact (bI_t (by omega)).symm | exact (bI_f (by omega)).symm | omega), rfl⟩
set_option maxRecDepth 100000 in
set_option maxHeartbeats 4000000 in
theorem c_X12_as (l : Launch) (G : GT) (A : Nat → Nat) (I : Nat → Int → Int) (F : Nat → Int)  (name : Int) (k : Int) (hR : RI (I 1)) (ha : -2147483648 ≤ name ∧ name < 2147483648) (hb : -2147483648 ≤ k ∧ k < 2147483648) : CT l yX12_as cX12_as 3 (some .int) 2 0 0 G [.ref (A 0), .int (J name), .int (J k)] (MW A G.2.1 I F) (fun vo wo => vo = some (.int (J (v_as (I 1) name k))) ∧ wo = MW A G.2.1 I F) := by
  refine CT_of (own := RX12) rfl rfl (Nat.le_of_ble_eq_true rfl) (fun K hl hnL hC hRT hin => ?_)
  subst hl
  show WW K G 0 0 (MW A G.2.1 I F) 0 [(0, .ref (A 0)), (1, .int (J name)), (2, .int (J k))] []
  have hn := hR.n
  refine w_aload_n (pc := 0) hC dX12_as_0 0 rfl rfl ?_
  refine w_iload_n (pc := 1) hC dX12_as_1 1 rfl rfl ?_
  refine w_callV (pc := 2) (As := [.int (J name)]) (rest := []) hC dX12_as_2 cv_X12_60 (c_X12_isName (kl K) G A I F name (show RI (I 1) from by first | assumption | omega) (show -2147483648 ≤ name ∧ name < 2147483648 from by first | assumption | omega)) (by decide) ⟨Nat.le_of_ble_eq_true rfl, Nat.le_of_ble_eq_true rfl⟩ (q0 := 0) rfl rfl rfl rfl (Nat.le_of_ble_eq_true rfl) rfl (fun vo wo hv => ?_)
  obtain ⟨hv1, hw1⟩ := hv
  rw [hv1, hw1]
  show WW K G 0 0 (MW A G.2.1 I F) 5 [(0, .ref (A 0)), (1, .int (J name)), (2, .int (J k))] [.int (J (bI (0 ≤ name ∧ name < (I 1) 0)))]
  refine w_if_eq_b (pc := 5) (tgt := 18) hC dX12_as_5 (by decide) (fun c5 => ?_) (fun c5 => ?_)
  · refine w_iconst (pc := 18) hC dX12_as_18 ?_
    refine w_iret (pc := 19) hC hRT dX12_as_19 rfl ?_
    refine ⟨retI (by first | rfl | (simp only [v_as]; repeat' split) <;> first | rfl | omega), rfl⟩
  · refine w_iload_n (pc := 8) hC dX12_as_8 2 rfl rfl ?_
    refine w_iconst (pc := 9) hC dX12_as_9 ?_
    refine w_bipush (pc := 10) hC dX12_as_10 (z := 6) rfl ?_
    refine w_callS (pc := 12) (As := [.int (J k), .int (J 0), .int (J 6)]) (rest := []) hC dX12_as_12 cs_X12_48 (c_X12_in (kl K) G (MW A G.2.1 I F) k 0 6 (show (-2147483648 ≤ k ∧ k < 2147483648) ∧ (-2147483648 ≤ 0 ∧ 0 < 2147483648) ∧ -2147483648 ≤ 6 ∧ 6 < 2147483648 from by first | assumption | omega)) (by decide) ⟨Nat.le_of_ble_eq_true rfl, Nat.le_of_ble_eq_true rfl⟩ rfl (Nat.le_of_ble_eq_true rfl) rfl (fun vo wo hv => ?_)
    obtain ⟨hv1, hw1⟩ := hv
    rw [hv1, hw1]
    show WW K G 0 0 (MW A G.2.1 I F) 15 [(0, .ref (A 0)), (1, .int (J name)), (2, .int (J k))] [.int (J (bI (0 ≤ k ∧ k ≤ 6)))]
    refine w_if_ne_b (pc := 15) (tgt := 20) hC dX12_as_15 (by decide) (fun c15 => ?_) (fun c15 => ?_)
    · refine w_aload_n (pc := 20) hC dX12_as_20 0 rfl rfl ?_
      refine w_getf (pc := 21) (v := .ref (A 1)) hC dX12_as_21 fi_X12_9 0 rfl rfl ?_
      refine w_sipush (pc := 24) hC dX12_as_24 (z := 166) rfl ?_
      refine w_iload_n (pc := 27) hC dX12_as_27 1 rfl rfl ?_
      refine w_iadd (pc := 28) hC dX12_as_28 ?_
      have hkd := hR.kd (166 + name) (by omega) (by omega)
      refine w_iald (pc := 29) (g := (I 1)) hC dX12_as_29 1 rfl (by omega) (Nat.le_of_ble_eq_true rfl) ?_
      refine w_iload_n (pc := 30) hC dX12_as_30 2 rfl rfl ?_
      refine w_callS (pc := 31) (As := [.int (J ((I 1) (166 + name))), .int (J k)]) (rest := []) hC dX12_as_31 cs_X12_280 (c_X12_isUnder (kl K) G (MW A G.2.1 I F) ((I 1) (166 + name)) k (show -2147483648 ≤ ((I 1) (166 + name)) ∧ ((I 1) (166 + name)) < 2147483648 from by first | assumption | omega) (show -2147483648 ≤ k ∧ k < 2147483648 from by first | assumption | omega)) (by decide) ⟨Nat.le_of_ble_eq_true rfl, Nat.le_of_ble_eq_true rfl⟩ rfl (Nat.le_of_ble_eq_true rfl) rfl (fun vo wo hv => ?_)
      obtain ⟨hv1, hw1⟩ := hv
      rw [hv1, hw1]
      show WW K G 0 0 (MW A G.2.1 I F) 34 [(0, .ref (A 0)), (1, .int (J name)), (2, .int (J k))] [.int (J (bI (k = 0 ∨ k = ((I 1) (166 + name)) ∨ (k = 2 ∧ (((I 1) (166 + name)) = 3 ∨ ((I 1) (166 + name)) = 4)) ∨ (k = 5 ∧ ((I 1) (166 + name)) = 6))))]
      refine w_if_eq_b (pc := 34) (tgt := 50) hC dX12_as_34 (by decide) (fun c34 => ?_) (fun c34 => ?_)
      · refine w_bipush (pc := 50) hC dX12_as_50 (z := (-6)) rfl ?_
        refine w_iret (pc := 52) hC hRT dX12_as_52 rfl ?_
        refine ⟨retI (by first | rfl | (simp only [v_as]; repeat' split) <;> first | rfl | omega), rfl⟩
      · refine w_aload_n (pc := 37) hC dX12_as_37 0 rfl rfl ?_
        refine w_getf (pc := 38) (v := .ref (A 1)) hC dX12_as_38 fi_X12_9 0 rfl rfl ?_
        refine w_sipush (pc := 41) hC dX12_as_41 (z := 172) rfl ?_
        refine w_iload_n (pc := 44) hC dX12_as_44 1 rfl rfl ?_
        refine w_iadd (pc := 45) hC dX12_as_45 ?_
        have hvv := hR.vv (172 + name) (by omega) (by omega)
        refine w_iald (pc := 46) (g := (I 1)) hC dX12_as_46 1 rfl (by omega) (Nat.le_of_ble_eq_true rfl) ?_
        refine w_goto (pc := 47) hC dX12_as_47 (tgt := 52) (by decide) ?_
        refine w_iret (pc := 52) hC hRT dX12_as_52 rfl ?_
        refine ⟨retI (by first | rfl | (simp only [v_as]; repeat' split) <;> first | rfl | omega), rfl⟩
    · refine w_iconst (pc := 18) hC dX12_as_18 ?_
      refine w_iret (pc := 19) hC hRT dX12_as_19 rfl ?_
      refine ⟨retI (by first | rfl | (simp only [v_as]; repeat' split) <;> first | rfl | omega), rfl⟩
set_option maxRecDepth 100000 in
set_option maxHeartbeats 4000000 in
theorem c_X12_asker (l : Launch) (G : GT) (A : Nat → Nat) (I : Nat → Int → Int) (F : Nat → Int)  (name : Int) (kind : Int) (v : Int) (hR : RI (I 1)) (ha : -2147483648 ≤ name ∧ name < 2147483648) (hb : -2147483648 ≤ kind ∧ kind < 2147483648) (hc : -2147483648 ≤ v ∧ v < 2147483648) : CT l yX12_asker cX12_asker 5 (some .int) 2 0 0 G [.ref (A 0), .int (J name), .int (J kind), .int (J v)] (MW A G.2.1 I F) (fun vo wo => ∃ (b1 : Int → Int), vo = some (.int (J (v_asker (I 1) name kind v))) ∧ wo = MW A G.2.1 (au I 1 b1) F ∧ (b1 = n_asker (I 1) name kind v)) := by
  refine CT_of (own := RX12) rfl rfl (Nat.le_of_ble_eq_true rfl) (fun K hl hnL hC hRT hin => ?_)
  subst hl
  show WW K G 0 0 (MW A G.2.1 I F) 0 [(0, .ref (A 0)), (1, .int (J name)), (2, .int (J kind)), (3, .int (J v))] []
  have hn := hR.n
  refine w_aload_n (pc := 0) hC dX12_asker_0 0 rfl rfl ?_
  refine w_iload_n (pc := 1) hC dX12_asker_1 1 rfl rfl ?_
  refine w_callV (pc := 2) (As := [.int (J name)]) (rest := []) hC dX12_asker_2 cv_X12_60 (c_X12_isName (kl K) G A I F name (show RI (I 1) from by first | assumption | omega) (show -2147483648 ≤ name ∧ name < 2147483648 from by first | assumption | omega)) (by decide) ⟨Nat.le_of_ble_eq_true rfl, Nat.le_of_ble_eq_true rfl⟩ (q0 := 0) rfl rfl rfl rfl (Nat.le_of_ble_eq_true rfl) rfl (fun vo wo hv => ?_)
  obtain ⟨hv1, hw1⟩ := hv
  rw [hv1, hw1]
  show WW K G 0 0 (MW A G.2.1 I F) 5 [(0, .ref (A 0)), (1, .int (J name)), (2, .int (J kind)), (3, .int (J v))] [.int (J (bI (0 ≤ name ∧ name < (I 1) 0)))]
  refine w_if_eq_b (pc := 5) (tgt := 18) hC dX12_asker_5 (by decide) (fun c5 => ?_) (fun c5 => ?_)
  · refine w_iconst (pc := 18) hC dX12_asker_18 ?_
    refine w_iret (pc := 19) hC hRT dX12_asker_19 rfl ?_
    refine ⟨(I 1), retI (by first | rfl | (simp only [v_asker]; repeat' split) <;> first | rfl | omega), rfl, ?_⟩
    · unfold n_asker; rw [if_neg (by omega)]
  · refine w_iload_n (pc := 8) hC dX12_asker_8 2 rfl rfl ?_
    refine w_iconst (pc := 9) hC dX12_asker_9 ?_
    refine w_bipush (pc := 10) hC dX12_asker_10 (z := 6) rfl ?_
    refine w_callS (pc := 12) (As := [.int (J kind), .int (J 0), .int (J 6)]) (rest := []) hC dX12_asker_12 cs_X12_48 (c_X12_in (kl K) G (MW A G.2.1 I F) kind 0 6 (show (-2147483648 ≤ kind ∧ kind < 2147483648) ∧ (-2147483648 ≤ 0 ∧ 0 < 2147483648) ∧ -2147483648 ≤ 6 ∧ 6 < 2147483648 from by first | assumption | omega)) (by decide) ⟨Nat.le_of_ble_eq_true rfl, Nat.le_of_ble_eq_true rfl⟩ rfl (Nat.le_of_ble_eq_true rfl) rfl (fun vo wo hv => ?_)
    obtain ⟨hv1, hw1⟩ := hv
    rw [hv1, hw1]
    show WW K G 0 0 (MW A G.2.1 I F) 15 [(0, .ref (A 0)), (1, .int (J name)), (2, .int (J kind)), (3, .int (J v))] [.int (J (bI (0 ≤ kind ∧ kind ≤ 6)))]
    refine w_if_ne_b (pc := 15) (tgt := 20) hC dX12_asker_15 (by decide) (fun c15 => ?_) (fun c15 => ?_)
    · refine w_iload_n (pc := 20) hC dX12_asker_20 3 rfl rfl ?_
      refine w_iconst (pc := 21) hC dX12_asker_21 ?_
      refine w_bipush (pc := 22) hC dX12_asker_22 (z := 100) rfl ?_
      refine w_callS (pc := 24) (As := [.int (J v), .int (J 0), .int (J 100)]) (rest := []) hC dX12_asker_24 cs_X12_48 (c_X12_in (kl K) G (MW A G.2.1 I F) v 0 100 (show (-2147483648 ≤ v ∧ v < 2147483648) ∧ (-2147483648 ≤ 0 ∧ 0 < 2147483648) ∧ -2147483648 ≤ 100 ∧ 100 < 2147483648 from by first | assumption | omega)) (by decide) ⟨Nat.le_of_ble_eq_true rfl, Nat.le_of_ble_eq_true rfl⟩ rfl (Nat.le_of_ble_eq_true rfl) rfl (fun vo wo hv => ?_)
      obtain ⟨hv1, hw1⟩ := hv
      rw [hv1, hw1]
      show WW K G 0 0 (MW A G.2.1 I F) 27 [(0, .ref (A 0)), (1, .int (J name)), (2, .int (J kind)), (3, .int (J v))] [.int (J (bI (0 ≤ v ∧ v ≤ 100)))]
      refine w_if_ne_b (pc := 27) (tgt := 33) hC dX12_asker_27 (by decide) (fun c27 => ?_) (fun c27 => ?_)
      · refine w_aload_n (pc := 33) hC dX12_asker_33 0 rfl rfl ?_
        refine w_getf (pc := 34) (v := .ref (A 1)) hC dX12_asker_34 fi_X12_9 0 rfl rfl ?_
        refine w_sipush (pc := 37) hC dX12_asker_37 (z := 166) rfl ?_
        refine w_iload_n (pc := 40) hC dX12_asker_40 1 rfl rfl ?_
        refine w_iadd (pc := 41) hC dX12_asker_41 ?_
        refine w_iald (pc := 42) (g := (I 1)) hC dX12_asker_42 1 rfl (by omega) (Nat.le_of_ble_eq_true rfl) ?_
        refine w_istore (pc := 43) hC dX12_asker_43 (lv2 := [(4, .int (J ((I 1) (166 + name)))), (0, .ref (A 0)), (1, .int (J name)), (2, .int (J kind)), (3, .int (J v))]) (by rw [hnL]; decide) rfl ?_
        refine w_aload_n (pc := 45) hC dX12_asker_45 1 rfl rfl ?_
        refine w_getf (pc := 46) (v := .ref (A 1)) hC dX12_asker_46 fi_X12_9 0 rfl rfl ?_
        refine w_sipush (pc := 49) hC dX12_asker_49 (z := 166) rfl ?_
        refine w_iload_n (pc := 52) hC dX12_asker_52 2 rfl rfl ?_
        refine w_iadd (pc := 53) hC dX12_asker_53 ?_
        refine w_iload_n (pc := 54) hC dX12_asker_54 3 rfl rfl ?_
        refine w_iast (pc := 55) (g := (I 1)) (w2 := MW A G.2.1 (au I 1 (gu (I 1) (166 + name) kind)) F) hC dX12_asker_55 1 rfl (by omega) (Nat.le_of_ble_eq_true rfl) rfl ?_
        generalize h55 : gu (I 1) (166 + name) kind = s55
        refine w_aload_n (pc := 56) hC dX12_asker_56 1 rfl rfl ?_
        refine w_getf (pc := 57) (v := .ref (A 1)) hC dX12_asker_57 fi_X12_9 0 rfl rfl ?_
        refine w_sipush (pc := 60) hC dX12_asker_60 (z := 172) rfl ?_
        refine w_iload_n (pc := 63) hC dX12_asker_63 2 rfl rfl ?_
        refine w_iadd (pc := 64) hC dX12_asker_64 ?_
        refine w_iload_n (pc := 65) hC dX12_asker_65 4 rfl rfl ?_
        refine w_iast (pc := 66) (g := s55) (w2 := MW A G.2.1 (au I 1 (gu s55 (172 + name) v)) F) hC dX12_asker_66 1 rfl (by omega) (Nat.le_of_ble_eq_true rfl) rfl ?_
        generalize h66 : gu s55 (172 + name) v = s66
        refine w_iload (pc := 67) hC dX12_asker_67 0 rfl ?_
        refine w_iret (pc := 69) hC hRT dX12_asker_69 rfl ?_
        refine ⟨s66, retI (by first | rfl | (simp only [v_asker]; repeat' split) <;> first | rfl | omega), rfl, ?_⟩
        · subst h66 h55; unfold n_asker; rw [if_pos (by omega)]
      · refine w_bipush (pc := 30) hC dX12_asker_30 (z := (-2)) rfl ?_
        refine w_iret (pc := 32) hC hRT dX12_asker_32 rfl ?_
        refine ⟨(I 1), retI (by first | rfl | (simp only [v_asker]; repeat' split) <;> first | rfl | omega), rfl, ?_⟩
        · unfold n_asker; rw [if_neg (by omega)]
    · refine w_iconst (pc := 18) hC dX12_asker_18 ?_
      refine w_iret (pc := 19) hC hRT dX12_asker_19 rfl ?_
      refine ⟨(I 1), retI (by first | rfl | (simp only [v_asker]; repeat' split) <;> first | rfl | omega), rfl, ?_⟩
      · unfold n_asker; rw [if_neg (by omega)]
set_option maxRecDepth 100000 in
set_option maxHeartbeats 4000000 in
theorem c_X12_trace (l : Launch) (G : GT) (A : Nat → Nat) (I : Nat → Int → Int) (F : Nat → Int)  (i : Int) (hq : 0 ≤ (F 24) ∧ (F 24) ≤ 100) (ha : -2147483648 ≤ i ∧ i < 2147483648) : CT l yX12_trace cX12_trace 2 (some .int) 1 0 0 G [.ref (A 0), .int (J i)] (MW A G.2.1 I F) (fun vo wo => vo = some (.int (J (v_trace (I 9) (F 24) i))) ∧ wo = MW A G.2.1 I F) := by
  refine CT_of (own := RX12) rfl rfl (Nat.le_of_ble_eq_true rfl) (fun K hl hnL hC hRT hin => ?_)
  subst hl
  show WW K G 0 0 (MW A G.2.1 I F) 0 [(0, .ref (A 0)), (1, .int (J i))] []
  refine w_iload_n (pc := 0) hC dX12_trace_0 1 rfl rfl ?_
  refine w_iconst (pc := 1) hC dX12_trace_1 ?_
  refine w_aload_n (pc := 2) hC dX12_trace_2 0 rfl rfl ?_
  refine w_getf (pc := 3) (v := .int (J (F 24))) hC dX12_trace_3 fi_X12_256 0 rfl rfl ?_
  refine w_bipush (pc := 6) hC dX12_trace_6 (z := 20) rfl ?_
  refine w_icmp_ge (pc := 8) (tgt := 18) hC dX12_trace_8 (by decide) (by omega) (fun c8 => ?_) (fun c8 => ?_)
  · refine w_bipush (pc := 18) hC dX12_trace_18 (z := 20) rfl ?_
    refine w_iconst (pc := 20) hC dX12_trace_20 ?_
    refine w_isub (pc := 21) hC dX12_trace_21 ?_
    refine w_callS (pc := 22) (As := [.int (J i), .int (J 0), .int (J (20 - 1))]) (rest := []) hC dX12_trace_22 cs_X12_48 (c_X12_in (kl K) G (MW A G.2.1 I F) i 0 (20 - 1) (show (-2147483648 ≤ i ∧ i < 2147483648) ∧ (-2147483648 ≤ 0 ∧ 0 < 2147483648) ∧ -2147483648 ≤ (20 - 1) ∧ (20 - 1) < 2147483648 from by first | assumption | omega)) (by decide) ⟨Nat.le_of_ble_eq_true rfl, Nat.le_of_ble_eq_true rfl⟩ rfl (Nat.le_of_ble_eq_true rfl) rfl (fun vo wo hv => ?_)
    obtain ⟨hv1, hw1⟩ := hv
    rw [hv1, hw1]
    show WW K G 0 0 (MW A G.2.1 I F) 25 [(0, .ref (A 0)), (1, .int (J i))] [.int (J (bI (0 ≤ i ∧ i ≤ (20 - 1))))]
    refine w_if_eq_b (pc := 25) (tgt := 37) hC dX12_trace_25 (by decide) (fun c25 => ?_) (fun c25 => ?_)
    · refine w_iconst (pc := 37) hC dX12_trace_37 ?_
      refine w_iret (pc := 38) hC hRT dX12_trace_38 rfl ?_
      refine ⟨retI (by first | rfl | (simp only [v_trace]; repeat' split) <;> first | rfl | omega), rfl⟩
    · refine w_aload_n (pc := 28) hC dX12_trace_28 0 rfl rfl ?_
      refine w_getf (pc := 29) (v := .ref (A 9)) hC dX12_trace_29 fi_X12_42 0 rfl rfl ?_
      refine w_iload_n (pc := 32) hC dX12_trace_32 1 rfl rfl ?_
      refine w_iald (pc := 33) (g := (I 9)) hC dX12_trace_33 9 rfl (by omega) (Nat.le_of_ble_eq_true rfl) ?_
      refine w_goto (pc := 34) hC dX12_trace_34 (tgt := 38) (by decide) ?_
      refine w_iret (pc := 38) hC hRT dX12_trace_38 rfl ?_
      refine ⟨retI (by first | rfl | (simp only [v_trace]; repeat' split) <;> first | rfl | omega), rfl⟩
  · refine w_aload_n (pc := 11) hC dX12_trace_11 0 rfl rfl ?_
    refine w_getf (pc := 12) (v := .int (J (F 24))) hC dX12_trace_12 fi_X12_256 0 rfl rfl ?_
    refine w_goto (pc := 15) hC dX12_trace_15 (tgt := 20) (by decide) ?_
    refine w_iconst (pc := 20) hC dX12_trace_20 ?_
    refine w_isub (pc := 21) hC dX12_trace_21 ?_
    refine w_callS (pc := 22) (As := [.int (J i), .int (J 0), .int (J ((F 24) - 1))]) (rest := []) hC dX12_trace_22 cs_X12_48 (c_X12_in (kl K) G (MW A G.2.1 I F) i 0 ((F 24) - 1) (show (-2147483648 ≤ i ∧ i < 2147483648) ∧ (-2147483648 ≤ 0 ∧ 0 < 2147483648) ∧ -2147483648 ≤ ((F 24) - 1) ∧ ((F 24) - 1) < 2147483648 from by first | assumption | omega)) (by decide) ⟨Nat.le_of_ble_eq_true rfl, Nat.le_of_ble_eq_true rfl⟩ rfl (Nat.le_of_ble_eq_true rfl) rfl (fun vo wo hv => ?_)
    obtain ⟨hv1, hw1⟩ := hv
    rw [hv1, hw1]
    show WW K G 0 0 (MW A G.2.1 I F) 25 [(0, .ref (A 0)), (1, .int (J i))] [.int (J (bI (0 ≤ i ∧ i ≤ ((F 24) - 1))))]
    refine w_if_eq_b (pc := 25) (tgt := 37) hC dX12_trace_25 (by decide) (fun c25 => ?_) (fun c25 => ?_)
    · refine w_iconst (pc := 37) hC dX12_trace_37 ?_
      refine w_iret (pc := 38) hC hRT dX12_trace_38 rfl ?_
      refine ⟨retI (by first | rfl | (simp only [v_trace]; repeat' split) <;> first | rfl | omega), rfl⟩
    · refine w_aload_n (pc := 28) hC dX12_trace_28 0 rfl rfl ?_
      refine w_getf (pc := 29) (v := .ref (A 9)) hC dX12_trace_29 fi_X12_42 0 rfl rfl ?_
      refine w_iload_n (pc := 32) hC dX12_trace_32 1 rfl rfl ?_
      refine w_iald (pc := 33) (g := (I 9)) hC dX12_trace_33 9 rfl (by omega) (Nat.le_of_ble_eq_true rfl) ?_
      refine w_goto (pc := 34) hC dX12_trace_34 (tgt := 38) (by decide) ?_
      refine w_iret (pc := 38) hC hRT dX12_trace_38 rfl ?_
      refine ⟨retI (by first | rfl | (simp only [v_trace]; repeat' split) <;> first | rfl | omega), rfl⟩
set_option maxRecDepth 100000 in
set_option maxHeartbeats 4000000 in
theorem c_X12_runs (l : Launch) (G : GT) (A : Nat → Nat) (I : Nat → Int → Int) (F : Nat → Int)  (body : Int) (hq : 0 ≤ (F 24) ∧ (F 24) ≤ 100) : CT l yX12_runs cX12_runs 2 none 0 0 0 G [.ref (A 0), .int (J body)] (MW A G.2.1 I F) (fun vo wo => ∃ (b9 : Int → Int) (g24 : Int), vo = none ∧ wo = MW A G.2.1 (au I 9 b9) (fu F 24 g24) ∧ (b9 = napp (I 9) (F 24) body ∧ g24 = (F 24) + 1)) := by
  refine CT_of (own := RX12) rfl rfl (Nat.le_of_ble_eq_true rfl) (fun K hl hnL hC hRT hin => ?_)
  subst hl
  show WW K G 0 0 (MW A G.2.1 I F) 0 [(0, .ref (A 0)), (1, .int (J body))] []
  refine w_aload_n (pc := 0) hC dX12_runs_0 0 rfl rfl ?_
  refine w_getf (pc := 1) (v := .int (J (F 24))) hC dX12_runs_1 fi_X12_256 0 rfl rfl ?_
  refine w_bipush (pc := 4) hC dX12_runs_4 (z := 20) rfl ?_
  refine w_icmp_ge (pc := 6) (tgt := 19) hC dX12_runs_6 (by decide) (by omega) (fun c6 => ?_) (fun c6 => ?_)
  · refine w_aload_n (pc := 19) hC dX12_runs_19 0 rfl rfl ?_
    refine w_dup (pc := 20) hC dX12_runs_20 rfl ?_
    refine w_getf (pc := 21) (v := .int (J (F 24))) hC dX12_runs_21 fi_X12_256 0 rfl rfl ?_
    refine w_iconst (pc := 24) hC dX12_runs_24 ?_
    refine w_iadd (pc := 25) hC dX12_runs_25 ?_
    refine w_putf (pc := 26) (w2 := MW A G.2.1 I (fu F 24 ((F 24) + 1))) hC dX12_runs_26 fi_X12_256 fp_X12_24 rfl 0 rfl (rfl) (rfl) (Nat.le_of_ble_eq_true rfl) rfl ?_
    refine w_vret (pc := 29) hC hRT dX12_runs_29 ?_
    refine ⟨(I 9), (F 24) + 1, rfl, rfl, ?_⟩
    · first | (subst h18; unfold napp; rw [if_pos (by omega)]; exact ⟨rfl, rfl⟩) | (unfold napp; rw [if_neg (by omega)]; exact ⟨rfl, rfl⟩)
  · refine w_aload_n (pc := 9) hC dX12_runs_9 0 rfl rfl ?_
    refine w_getf (pc := 10) (v := .ref (A 9)) hC dX12_runs_10 fi_X12_42 0 rfl rfl ?_
    refine w_aload_n (pc := 13) hC dX12_runs_13 0 rfl rfl ?_
    refine w_getf (pc := 14) (v := .int (J (F 24))) hC dX12_runs_14 fi_X12_256 0 rfl rfl ?_
    refine w_iload_n (pc := 17) hC dX12_runs_17 1 rfl rfl ?_
    refine w_iast (pc := 18) (g := (I 9)) (w2 := MW A G.2.1 (au I 9 (gu (I 9) (F 24) body)) F) hC dX12_runs_18 9 rfl (by omega) (Nat.le_of_ble_eq_true rfl) rfl ?_
    generalize h18 : gu (I 9) (F 24) body = s18
    refine w_aload_n (pc := 19) hC dX12_runs_19 0 rfl rfl ?_
    refine w_dup (pc := 20) hC dX12_runs_20 rfl ?_
    refine w_getf (pc := 21) (v := .int (J (F 24))) hC dX12_runs_21 fi_X12_256 0 rfl rfl ?_
    refine w_iconst (pc := 24) hC dX12_runs_24 ?_
    refine w_iadd (pc := 25) hC dX12_runs_25 ?_
    refine w_putf (pc := 26) (w2 := MW A G.2.1 (au I 9 s18) (fu F 24 ((F 24) + 1))) hC dX12_runs_26 fi_X12_256 fp_X12_24 rfl 0 rfl (rfl) (rfl) (Nat.le_of_ble_eq_true rfl) rfl ?_
    refine w_vret (pc := 29) hC hRT dX12_runs_29 ?_
    refine ⟨s18, (F 24) + 1, rfl, rfl, ?_⟩
    · first | (subst h18; unfold napp; rw [if_pos (by omega)]; exact ⟨rfl, rfl⟩) | (unfold napp; rw [if_neg (by omega)]; exact ⟨rfl, rfl⟩)
set_option maxRecDepth 100000 in
set_option maxHeartbeats 4000000 in
theorem c_X12_plainAsks (l : Launch) (G : GT) (A : Nat → Nat) (I : Nat → Int → Int) (F : Nat → Int)  (x : Int) (hq : 0 ≤ (F 24) ∧ (F 24) ≤ 99) : CT l yX12_plainAsks cX12_plainAsks 2 (some .int) 1 0 0 G [.ref (A 0), .int (J x)] (MW A G.2.1 I F) (fun vo wo => ∃ (b9 : Int → Int) (g24 : Int), vo = some (.int (J (x + (F 26)))) ∧ wo = MW A G.2.1 (au I 9 b9) (fu F 24 g24) ∧ (b9 = napp (I 9) (F 24) 1 ∧ g24 = (F 24) + 1)) := by
  refine CT_of (own := RX12) rfl rfl (Nat.le_of_ble_eq_true rfl) (fun K hl hnL hC hRT hin => ?_)
  subst hl
  show WW K G 0 0 (MW A G.2.1 I F) 0 [(0, .ref (A 0)), (1, .int (J x))] []
  refine w_aload_n (pc := 0) hC dX12_plainAsks_0 0 rfl rfl ?_
  refine w_iconst (pc := 1) hC dX12_plainAsks_1 ?_
  refine w_callV (pc := 2) (As := [.int (J 1)]) (rest := []) hC dX12_plainAsks_2 cv_X12_259 (c_X12_runs (kl K) G A I F 1 (show 0 ≤ (F 24) ∧ (F 24) ≤ 100 from by first | assumption | omega)) (by decide) ⟨Nat.le_of_ble_eq_true rfl, Nat.le_of_ble_eq_true rfl⟩ (q0 := 0) rfl rfl rfl rfl (Nat.le_of_ble_eq_true rfl) rfl (fun vo wo hv => ?_)
  obtain ⟨b9_2, g24_2, hv1, hw1, r2⟩ := hv
  rw [hv1, hw1]
  show WW K G 0 0 (MW A G.2.1 (au I 9 b9_2) (fu F 24 g24_2)) 5 [(0, .ref (A 0)), (1, .int (J x))] []
  have r2 : b9_2 = napp (I 9) (F 24) 1 ∧ g24_2 = (F 24) + 1 := r2
  refine w_iload_n (pc := 5) hC dX12_plainAsks_5 1 rfl rfl ?_
  refine w_aload_n (pc := 6) hC dX12_plainAsks_6 0 rfl rfl ?_
  refine w_getf (pc := 7) (v := .int (J (F 26))) hC dX12_plainAsks_7 fi_X12_262 0 rfl rfl ?_
  refine w_iadd (pc := 10) hC dX12_plainAsks_10 ?_
  refine w_iret (pc := 11) hC hRT dX12_plainAsks_11 rfl ?_
  refine ⟨b9_2, g24_2, retI (by first | rfl | exact (bI_t (by omega)).symm | exact (bI_f (by omega)).symm | omega), rfl, ?_⟩
  · exact r2
set_option maxRecDepth 100000 in
set_option maxHeartbeats 4000000 in
theorem c_X12_asksActs (l : Launch) (G : GT) (A : Nat → Nat) (I : Nat → Int → Int) (F : Nat → Int)  (x : Int) (hq : 0 ≤ (F 24) ∧ (F 24) ≤ 97) (hk : 0 ≤ (F 25) ∧ (F 25) ≤ 6) : CT l yX12_asksActs cX12_asksActs 2 (some .int) 2 0 0 G [.ref (A 0), .int (J x)] (MW A G.2.1 I F) (fun vo wo => ∃ (b9 : Int → Int) (g24 : Int), vo = some (.int (J (asv (F 25) (F 26) x))) ∧ wo = MW A G.2.1 (au I 9 b9) (fu F 24 g24) ∧ (b9 = nb (asL (F 25)) (I 9) (F 24) ∧ g24 = (F 24) + ((asL (F 25)).length : Int))) := by
  refine CT_of (own := RX12) rfl rfl (Nat.le_of_ble_eq_true rfl) (fun K hl hnL hC hRT hin => ?_)
  subst hl
  show WW K G 0 0 (MW A G.2.1 I F) 0 [(0, .ref (A 0)), (1, .int (J x))] []
  refine w_aload_n (pc := 0) hC dX12_asksActs_0 0 rfl rfl ?_
  refine w_getf (pc := 1) (v := .int (J (F 25))) hC dX12_asksActs_1 fi_X12_265 0 rfl rfl ?_
  refine w_iconst (pc := 4) hC dX12_asksActs_4 ?_
  refine w_icmp_ne (pc := 5) (tgt := 22) hC dX12_asksActs_5 (by decide) (by omega) (fun c5 => ?_) (fun c5 => ?_)
  · refine w_aload_n (pc := 22) hC dX12_asksActs_22 0 rfl rfl ?_
    refine w_getf (pc := 23) (v := .int (J (F 25))) hC dX12_asksActs_23 fi_X12_265 0 rfl rfl ?_
    refine w_iconst (pc := 26) hC dX12_asksActs_26 ?_
    refine w_icmp_ne (pc := 27) (tgt := 47) hC dX12_asksActs_27 (by decide) (by omega) (fun c27 => ?_) (fun c27 => ?_)
    · refine w_aload_n (pc := 47) hC dX12_asksActs_47 0 rfl rfl ?_
      refine w_iload_n (pc := 48) hC dX12_asksActs_48 1 rfl rfl ?_
      refine w_callV (pc := 49) (As := [.int (J x)]) (rest := []) hC dX12_asksActs_49 cv_X12_268 (c_X12_plainAsks (kl K) G A I F x (show 0 ≤ (F 24) ∧ (F 24) ≤ 99 from by first | assumption | omega)) (by decide) ⟨Nat.le_of_ble_eq_true rfl, Nat.le_of_ble_eq_true rfl⟩ (q0 := 0) rfl rfl rfl rfl (Nat.le_of_ble_eq_true rfl) rfl (fun vo wo hv => ?_)
      obtain ⟨b9_49, g24_49, hv1, hw1, r49⟩ := hv
      rw [hv1, hw1]
      show WW K G 0 0 (MW A G.2.1 (au I 9 b9_49) (fu F 24 g24_49)) 52 [(0, .ref (A 0)), (1, .int (J x))] [.int (J (x + (F 26)))]
      have r49 : b9_49 = napp (I 9) (F 24) 1 ∧ g24_49 = (F 24) + 1 := r49
      refine w_iret (pc := 52) hC hRT dX12_asksActs_52 rfl ?_
      refine ⟨b9_49, g24_49, retI (by first | rfl | (simp only [asv]; repeat' split) <;> first | rfl | omega), rfl, ?_⟩
      · rw [r49.1, r49.2, show asL (F 25) = [1] by unfold asL; rw [if_neg (by omega), if_neg (by omega)]]; exact ⟨rfl, by simp⟩
    · refine w_aload_n (pc := 30) hC dX12_asksActs_30 0 rfl rfl ?_
      refine w_bipush (pc := 31) hC dX12_asksActs_31 (z := 51) rfl ?_
      refine w_callV (pc := 33) (As := [.int (J 51)]) (rest := []) hC dX12_asksActs_33 cv_X12_259 (c_X12_runs (kl K) G A I F 51 (show 0 ≤ (F 24) ∧ (F 24) ≤ 100 from by first | assumption | omega)) (by decide) ⟨Nat.le_of_ble_eq_true rfl, Nat.le_of_ble_eq_true rfl⟩ (q0 := 0) rfl rfl rfl rfl (Nat.le_of_ble_eq_true rfl) rfl (fun vo wo hv => ?_)
      obtain ⟨b9_33, g24_33, hv1, hw1, r33⟩ := hv
      rw [hv1, hw1]
      show WW K G 0 0 (MW A G.2.1 (au I 9 b9_33) (fu F 24 g24_33)) 36 [(0, .ref (A 0)), (1, .int (J x))] []
      have r33 : b9_33 = napp (I 9) (F 24) 51 ∧ g24_33 = (F 24) + 1 := r33
      refine w_aload_n (pc := 36) hC dX12_asksActs_36 0 rfl rfl ?_
      refine w_iload_n (pc := 37) hC dX12_asksActs_37 1 rfl rfl ?_
      refine w_callV (pc := 38) (As := [.int (J x)]) (rest := []) hC dX12_asksActs_38 cv_X12_268 (c_X12_plainAsks (kl K) G A (au I 9 b9_33) (fu F 24 g24_33) x (show 0 ≤ g24_33 ∧ g24_33 ≤ 99 from by first | assumption | omega)) (by decide) ⟨Nat.le_of_ble_eq_true rfl, Nat.le_of_ble_eq_true rfl⟩ (q0 := 0) rfl rfl rfl rfl (Nat.le_of_ble_eq_true rfl) rfl (fun vo wo hv => ?_)
      obtain ⟨b9_38, g24_38, hv1, hw1, r38⟩ := hv
      rw [hv1, hw1]
      show WW K G 0 0 (MW A G.2.1 (au I 9 b9_38) (fu F 24 g24_38)) 41 [(0, .ref (A 0)), (1, .int (J x))] [.int (J (x + (F 26)))]
      have r38 : b9_38 = napp b9_33 g24_33 1 ∧ g24_38 = g24_33 + 1 := r38
      refine w_aload_n (pc := 41) hC dX12_asksActs_41 0 rfl rfl ?_
      refine w_getf (pc := 42) (v := .int (J (F 26))) hC dX12_asksActs_42 fi_X12_262 0 rfl rfl ?_
      refine w_ixor (pc := 45) hC dX12_asksActs_45 (v := jx (x + (F 26)) (F 26)) (J_xor _ _) ?_
      refine w_iret (pc := 46) hC hRT dX12_asksActs_46 rfl ?_
      refine ⟨b9_38, g24_38, retI (by first | rfl | (simp only [asv]; repeat' split) <;> first | rfl | omega), rfl, ?_⟩
      · rw [r38.1, r38.2, r33.1, r33.2, show asL (F 25) = [51, 1] by unfold asL; rw [if_neg (by omega), if_pos (by omega)]]; exact ⟨rfl, by simp; omega⟩
  · refine w_aload_n (pc := 8) hC dX12_asksActs_8 0 rfl rfl ?_
    refine w_bipush (pc := 9) hC dX12_asksActs_9 (z := 11) rfl ?_
    refine w_callV (pc := 11) (As := [.int (J 11)]) (rest := []) hC dX12_asksActs_11 cv_X12_259 (c_X12_runs (kl K) G A I F 11 (show 0 ≤ (F 24) ∧ (F 24) ≤ 100 from by first | assumption | omega)) (by decide) ⟨Nat.le_of_ble_eq_true rfl, Nat.le_of_ble_eq_true rfl⟩ (q0 := 0) rfl rfl rfl rfl (Nat.le_of_ble_eq_true rfl) rfl (fun vo wo hv => ?_)
    obtain ⟨b9_11, g24_11, hv1, hw1, r11⟩ := hv
    rw [hv1, hw1]
    show WW K G 0 0 (MW A G.2.1 (au I 9 b9_11) (fu F 24 g24_11)) 14 [(0, .ref (A 0)), (1, .int (J x))] []
    have r11 : b9_11 = napp (I 9) (F 24) 11 ∧ g24_11 = (F 24) + 1 := r11
    refine w_aload_n (pc := 14) hC dX12_asksActs_14 0 rfl rfl ?_
    refine w_iload_n (pc := 15) hC dX12_asksActs_15 1 rfl rfl ?_
    refine w_iconst (pc := 16) hC dX12_asksActs_16 ?_
    refine w_imul (pc := 17) hC dX12_asksActs_17 ?_
    refine w_callV (pc := 18) (As := [.int (J (x * 3))]) (rest := []) hC dX12_asksActs_18 cv_X12_268 (c_X12_plainAsks (kl K) G A (au I 9 b9_11) (fu F 24 g24_11) (x * 3) (show 0 ≤ g24_11 ∧ g24_11 ≤ 99 from by first | assumption | omega)) (by decide) ⟨Nat.le_of_ble_eq_true rfl, Nat.le_of_ble_eq_true rfl⟩ (q0 := 0) rfl rfl rfl rfl (Nat.le_of_ble_eq_true rfl) rfl (fun vo wo hv => ?_)
    obtain ⟨b9_18, g24_18, hv1, hw1, r18⟩ := hv
    rw [hv1, hw1]
    show WW K G 0 0 (MW A G.2.1 (au I 9 b9_18) (fu F 24 g24_18)) 21 [(0, .ref (A 0)), (1, .int (J x))] [.int (J ((x * 3) + (F 26)))]
    have r18 : b9_18 = napp b9_11 g24_11 1 ∧ g24_18 = g24_11 + 1 := r18
    refine w_iret (pc := 21) hC hRT dX12_asksActs_21 rfl ?_
    refine ⟨b9_18, g24_18, retI (by first | rfl | (simp only [asv]; repeat' split) <;> first | rfl | omega), rfl, ?_⟩
    · rw [r18.1, r18.2, r11.1, r11.2, show asL (F 25) = [11, 1] from if_pos c5]; exact ⟨rfl, by simp; omega⟩
set_option maxRecDepth 100000 in
set_option maxHeartbeats 4000000 in
theorem c_X12_plainTakes (l : Launch) (G : GT) (A : Nat → Nat) (I : Nat → Int → Int) (F : Nat → Int)  (x : Int) (hq : 0 ≤ (F 24) ∧ (F 24) ≤ 96) (hk : 0 ≤ (F 25) ∧ (F 25) ≤ 6) : CT l yX12_plainTakes cX12_plainTakes 2 (some .int) 3 0 0 G [.ref (A 0), .int (J x)] (MW A G.2.1 I F) (fun vo wo => ∃ (b9 : Int → Int) (g24 : Int), vo = some (.int (J (asv (F 25) (F 26) x - (F 27)))) ∧ wo = MW A G.2.1 (au I 9 b9) (fu F 24 g24) ∧ (b9 = nb (ptL (F 25)) (I 9) (F 24) ∧ g24 = (F 24) + ((ptL (F 25)).length : Int))) := by
  refine CT_of (own := RX12) rfl rfl (Nat.le_of_ble_eq_true rfl) (fun K hl hnL hC hRT hin => ?_)
  subst hl
  show WW K G 0 0 (MW A G.2.1 I F) 0 [(0, .ref (A 0)), (1, .int (J x))] []
  refine w_aload_n (pc := 0) hC dX12_plainTakes_0 0 rfl rfl ?_
  refine w_iconst (pc := 1) hC dX12_plainTakes_1 ?_
  refine w_callV (pc := 2) (As := [.int (J 2)]) (rest := []) hC dX12_plainTakes_2 cv_X12_259 (c_X12_runs (kl K) G A I F 2 (show 0 ≤ (F 24) ∧ (F 24) ≤ 100 from by first | assumption | omega)) (by decide) ⟨Nat.le_of_ble_eq_true rfl, Nat.le_of_ble_eq_true rfl⟩ (q0 := 0) rfl rfl rfl rfl (Nat.le_of_ble_eq_true rfl) rfl (fun vo wo hv => ?_)
  obtain ⟨b9_2, g24_2, hv1, hw1, r2⟩ := hv
  rw [hv1, hw1]
  show WW K G 0 0 (MW A G.2.1 (au I 9 b9_2) (fu F 24 g24_2)) 5 [(0, .ref (A 0)), (1, .int (J x))] []
  have r2 : b9_2 = napp (I 9) (F 24) 2 ∧ g24_2 = (F 24) + 1 := r2
  refine w_aload_n (pc := 5) hC dX12_plainTakes_5 0 rfl rfl ?_
  refine w_iload_n (pc := 6) hC dX12_plainTakes_6 1 rfl rfl ?_
  refine w_callV (pc := 7) (As := [.int (J x)]) (rest := []) hC dX12_plainTakes_7 cv_X12_271 (c_X12_asksActs (kl K) G A (au I 9 b9_2) (fu F 24 g24_2) x (show 0 ≤ g24_2 ∧ g24_2 ≤ 97 from by first | assumption | omega) (show 0 ≤ (F 25) ∧ (F 25) ≤ 6 from by first | assumption | omega)) (by decide) ⟨Nat.le_of_ble_eq_true rfl, Nat.le_of_ble_eq_true rfl⟩ (q0 := 0) rfl rfl rfl rfl (Nat.le_of_ble_eq_true rfl) rfl (fun vo wo hv => ?_)
  obtain ⟨b9_7, g24_7, hv1, hw1, r7⟩ := hv
  rw [hv1, hw1]
  show WW K G 0 0 (MW A G.2.1 (au I 9 b9_7) (fu F 24 g24_7)) 10 [(0, .ref (A 0)), (1, .int (J x))] [.int (J (asv (F 25) (F 26) x))]
  have r7 : b9_7 = nb (asL (F 25)) b9_2 g24_2 ∧ g24_7 = g24_2 + ((asL (F 25)).length : Int) := r7
  refine w_aload_n (pc := 10) hC dX12_plainTakes_10 0 rfl rfl ?_
  refine w_getf (pc := 11) (v := .int (J (F 27))) hC dX12_plainTakes_11 fi_X12_274 0 rfl rfl ?_
  refine w_isub (pc := 14) hC dX12_plainTakes_14 ?_
  refine w_iret (pc := 15) hC hRT dX12_plainTakes_15 rfl ?_
  refine ⟨b9_7, g24_7, retI (by first | rfl | exact (bI_t (by omega)).symm | exact (bI_f (by omega)).symm | omega), rfl, ?_⟩
  · rw [r7.1, r7.2, r2.1, r2.2]; exact ⟨rfl, by unfold ptL; simp only [List.length_cons]; omega⟩
set_option maxRecDepth 100000 in
set_option maxHeartbeats 4000000 in
theorem c_X12_takesActs (l : Launch) (G : GT) (A : Nat → Nat) (I : Nat → Int → Int) (F : Nat → Int)  (x : Int) (hq : 0 ≤ (F 24) ∧ (F 24) ≤ 95) (hk : 0 ≤ (F 25) ∧ (F 25) ≤ 6) : CT l yX12_takesActs cX12_takesActs 2 (some .int) 4 0 0 G [.ref (A 0), .int (J x)] (MW A G.2.1 I F) (fun vo wo => ∃ (b9 : Int → Int) (g24 : Int), vo = some (.int (J (tkv (F 25) (F 26) (F 27) x))) ∧ wo = MW A G.2.1 (au I 9 b9) (fu F 24 g24) ∧ (b9 = nb (tkL (F 25)) (I 9) (F 24) ∧ g24 = (F 24) + ((tkL (F 25)).length : Int))) := by
  refine CT_of (own := RX12) rfl rfl (Nat.le_of_ble_eq_true rfl) (fun K hl hnL hC hRT hin => ?_)
  subst hl
  show WW K G 0 0 (MW A G.2.1 I F) 0 [(0, .ref (A 0)), (1, .int (J x))] []
  refine w_aload_n (pc := 0) hC dX12_takesActs_0 0 rfl rfl ?_
  refine w_getf (pc := 1) (v := .int (J (F 25))) hC dX12_takesActs_1 fi_X12_265 0 rfl rfl ?_
  refine w_bipush (pc := 4) hC dX12_takesActs_4 (z := 6) rfl ?_
  refine w_icmp_ne (pc := 6) (tgt := 26) hC dX12_takesActs_6 (by decide) (by omega) (fun c6 => ?_) (fun c6 => ?_)
  · refine w_aload_n (pc := 26) hC dX12_takesActs_26 0 rfl rfl ?_
    refine w_getf (pc := 27) (v := .int (J (F 25))) hC dX12_takesActs_27 fi_X12_265 0 rfl rfl ?_
    refine w_iconst (pc := 30) hC dX12_takesActs_30 ?_
    refine w_callS (pc := 31) (As := [.int (J (F 25)), .int (J 2)]) (rest := []) hC dX12_takesActs_31 cs_X12_280 (c_X12_isUnder (kl K) G (MW A G.2.1 I F) (F 25) 2 (show -2147483648 ≤ (F 25) ∧ (F 25) < 2147483648 from by first | assumption | omega) (show -2147483648 ≤ 2 ∧ 2 < 2147483648 from by first | assumption | omega)) (by decide) ⟨Nat.le_of_ble_eq_true rfl, Nat.le_of_ble_eq_true rfl⟩ rfl (Nat.le_of_ble_eq_true rfl) rfl (fun vo wo hv => ?_)
    obtain ⟨hv1, hw1⟩ := hv
    rw [hv1, hw1]
    show WW K G 0 0 (MW A G.2.1 I F) 34 [(0, .ref (A 0)), (1, .int (J x))] [.int (J (bI (2 = 0 ∨ 2 = (F 25) ∨ (2 = 2 ∧ ((F 25) = 3 ∨ (F 25) = 4)) ∨ (2 = 5 ∧ (F 25) = 6))))]
    refine w_if_eq_b (pc := 34) (tgt := 50) hC dX12_takesActs_34 (by decide) (fun c34 => ?_) (fun c34 => ?_)
    · refine w_aload_n (pc := 50) hC dX12_takesActs_50 0 rfl rfl ?_
      refine w_iload_n (pc := 51) hC dX12_takesActs_51 1 rfl rfl ?_
      refine w_callV (pc := 52) (As := [.int (J x)]) (rest := []) hC dX12_takesActs_52 cv_X12_277 (c_X12_plainTakes (kl K) G A I F x (show 0 ≤ (F 24) ∧ (F 24) ≤ 96 from by first | assumption | omega) (show 0 ≤ (F 25) ∧ (F 25) ≤ 6 from by first | assumption | omega)) (by decide) ⟨Nat.le_of_ble_eq_true rfl, Nat.le_of_ble_eq_true rfl⟩ (q0 := 0) rfl rfl rfl rfl (Nat.le_of_ble_eq_true rfl) rfl (fun vo wo hv => ?_)
      obtain ⟨b9_52, g24_52, hv1, hw1, r52⟩ := hv
      rw [hv1, hw1]
      show WW K G 0 0 (MW A G.2.1 (au I 9 b9_52) (fu F 24 g24_52)) 55 [(0, .ref (A 0)), (1, .int (J x))] [.int (J (asv (F 25) (F 26) x - (F 27)))]
      have r52 : b9_52 = nb (ptL (F 25)) (I 9) (F 24) ∧ g24_52 = (F 24) + ((ptL (F 25)).length : Int) := r52
      refine w_iret (pc := 55) hC hRT dX12_takesActs_55 rfl ?_
      refine ⟨b9_52, g24_52, retI (by first | rfl | (simp only [tkv]; repeat' split) <;> first | rfl | omega), rfl, ?_⟩
      · rw [r52.1, r52.2, show tkL (F 25) = ptL (F 25) by unfold tkL; rw [if_neg (by omega), if_neg (by omega)]]; exact ⟨rfl, rfl⟩
    · refine w_aload_n (pc := 37) hC dX12_takesActs_37 0 rfl rfl ?_
      refine w_bipush (pc := 38) hC dX12_takesActs_38 (z := 21) rfl ?_
      refine w_callV (pc := 40) (As := [.int (J 21)]) (rest := []) hC dX12_takesActs_40 cv_X12_259 (c_X12_runs (kl K) G A I F 21 (show 0 ≤ (F 24) ∧ (F 24) ≤ 100 from by first | assumption | omega)) (by decide) ⟨Nat.le_of_ble_eq_true rfl, Nat.le_of_ble_eq_true rfl⟩ (q0 := 0) rfl rfl rfl rfl (Nat.le_of_ble_eq_true rfl) rfl (fun vo wo hv => ?_)
      obtain ⟨b9_40, g24_40, hv1, hw1, r40⟩ := hv
      rw [hv1, hw1]
      show WW K G 0 0 (MW A G.2.1 (au I 9 b9_40) (fu F 24 g24_40)) 43 [(0, .ref (A 0)), (1, .int (J x))] []
      have r40 : b9_40 = napp (I 9) (F 24) 21 ∧ g24_40 = (F 24) + 1 := r40
      refine w_aload_n (pc := 43) hC dX12_takesActs_43 0 rfl rfl ?_
      refine w_iload_n (pc := 44) hC dX12_takesActs_44 1 rfl rfl ?_
      refine w_callV (pc := 45) (As := [.int (J x)]) (rest := []) hC dX12_takesActs_45 cv_X12_277 (c_X12_plainTakes (kl K) G A (au I 9 b9_40) (fu F 24 g24_40) x (show 0 ≤ g24_40 ∧ g24_40 ≤ 96 from by first | assumption | omega) (show 0 ≤ (F 25) ∧ (F 25) ≤ 6 from by first | assumption | omega)) (by decide) ⟨Nat.le_of_ble_eq_true rfl, Nat.le_of_ble_eq_true rfl⟩ (q0 := 0) rfl rfl rfl rfl (Nat.le_of_ble_eq_true rfl) rfl (fun vo wo hv => ?_)
      obtain ⟨b9_45, g24_45, hv1, hw1, r45⟩ := hv
      rw [hv1, hw1]
      show WW K G 0 0 (MW A G.2.1 (au I 9 b9_45) (fu F 24 g24_45)) 48 [(0, .ref (A 0)), (1, .int (J x))] [.int (J (asv (F 25) (F 26) x - (F 27)))]
      have r45 : b9_45 = nb (ptL (F 25)) b9_40 g24_40 ∧ g24_45 = g24_40 + ((ptL (F 25)).length : Int) := r45
      refine w_ineg (pc := 48) hC dX12_takesActs_48 ?_
      refine w_iret (pc := 49) hC hRT dX12_takesActs_49 rfl ?_
      refine ⟨b9_45, g24_45, retI (by first | rfl | (simp only [tkv]; repeat' split) <;> first | rfl | omega), rfl, ?_⟩
      · rw [r45.1, r45.2, r40.1, r40.2, show tkL (F 25) = 21 :: ptL (F 25) by unfold tkL; rw [if_neg (by omega), if_pos (by omega)]]; exact ⟨rfl, by simp only [List.length_cons]; omega⟩
  · refine w_aload_n (pc := 9) hC dX12_takesActs_9 0 rfl rfl ?_
    refine w_bipush (pc := 10) hC dX12_takesActs_10 (z := 61) rfl ?_
    refine w_callV (pc := 12) (As := [.int (J 61)]) (rest := []) hC dX12_takesActs_12 cv_X12_259 (c_X12_runs (kl K) G A I F 61 (show 0 ≤ (F 24) ∧ (F 24) ≤ 100 from by first | assumption | omega)) (by decide) ⟨Nat.le_of_ble_eq_true rfl, Nat.le_of_ble_eq_true rfl⟩ (q0 := 0) rfl rfl rfl rfl (Nat.le_of_ble_eq_true rfl) rfl (fun vo wo hv => ?_)
    obtain ⟨b9_12, g24_12, hv1, hw1, r12⟩ := hv
    rw [hv1, hw1]
    show WW K G 0 0 (MW A G.2.1 (au I 9 b9_12) (fu F 24 g24_12)) 15 [(0, .ref (A 0)), (1, .int (J x))] []
    have r12 : b9_12 = napp (I 9) (F 24) 61 ∧ g24_12 = (F 24) + 1 := r12
    refine w_aload_n (pc := 15) hC dX12_takesActs_15 0 rfl rfl ?_
    refine w_iload_n (pc := 16) hC dX12_takesActs_16 1 rfl rfl ?_
    refine w_callV (pc := 17) (As := [.int (J x)]) (rest := []) hC dX12_takesActs_17 cv_X12_277 (c_X12_plainTakes (kl K) G A (au I 9 b9_12) (fu F 24 g24_12) x (show 0 ≤ g24_12 ∧ g24_12 ≤ 96 from by first | assumption | omega) (show 0 ≤ (F 25) ∧ (F 25) ≤ 6 from by first | assumption | omega)) (by decide) ⟨Nat.le_of_ble_eq_true rfl, Nat.le_of_ble_eq_true rfl⟩ (q0 := 0) rfl rfl rfl rfl (Nat.le_of_ble_eq_true rfl) rfl (fun vo wo hv => ?_)
    obtain ⟨b9_17, g24_17, hv1, hw1, r17⟩ := hv
    rw [hv1, hw1]
    show WW K G 0 0 (MW A G.2.1 (au I 9 b9_17) (fu F 24 g24_17)) 20 [(0, .ref (A 0)), (1, .int (J x))] [.int (J (asv (F 25) (F 26) x - (F 27)))]
    have r17 : b9_17 = nb (ptL (F 25)) b9_12 g24_12 ∧ g24_17 = g24_12 + ((ptL (F 25)).length : Int) := r17
    refine w_aload_n (pc := 20) hC dX12_takesActs_20 0 rfl rfl ?_
    refine w_getf (pc := 21) (v := .int (J (F 27))) hC dX12_takesActs_21 fi_X12_274 0 rfl rfl ?_
    refine w_iadd (pc := 24) hC dX12_takesActs_24 ?_
    refine w_iret (pc := 25) hC hRT dX12_takesActs_25 rfl ?_
    refine ⟨b9_17, g24_17, retI (by first | rfl | (simp only [tkv]; repeat' split) <;> first | rfl | omega), rfl, ?_⟩
    · rw [r17.1, r17.2, r12.1, r12.2, show tkL (F 25) = 61 :: ptL (F 25) from if_pos c6]; exact ⟨rfl, by simp only [List.length_cons]; omega⟩
set_option maxRecDepth 100000 in
set_option maxHeartbeats 4000000 in
theorem c_X12_plainWaits (l : Launch) (G : GT) (A : Nat → Nat) (I : Nat → Int → Int) (F : Nat → Int)  (x : Int) (hq : 0 ≤ (F 24) ∧ (F 24) ≤ 94) (hk : 0 ≤ (F 25) ∧ (F 25) ≤ 6) : CT l yX12_plainWaits cX12_plainWaits 2 (some .int) 5 0 0 G [.ref (A 0), .int (J x)] (MW A G.2.1 I F) (fun vo wo => ∃ (b9 : Int → Int) (g24 : Int), vo = some (.int (J (tkv (F 25) (F 26) (F 27) x * 2))) ∧ wo = MW A G.2.1 (au I 9 b9) (fu F 24 g24) ∧ (b9 = nb (pwL (F 25)) (I 9) (F 24) ∧ g24 = (F 24) + ((pwL (F 25)).length : Int))) := by
  refine CT_of (own := RX12) rfl rfl (Nat.le_of_ble_eq_true rfl) (fun K hl hnL hC hRT hin => ?_)
  subst hl
  show WW K G 0 0 (MW A G.2.1 I F) 0 [(0, .ref (A 0)), (1, .int (J x))] []
  refine w_aload_n (pc := 0) hC dX12_plainWaits_0 0 rfl rfl ?_
  refine w_iconst (pc := 1) hC dX12_plainWaits_1 ?_
  refine w_callV (pc := 2) (As := [.int (J 3)]) (rest := []) hC dX12_plainWaits_2 cv_X12_259 (c_X12_runs (kl K) G A I F 3 (show 0 ≤ (F 24) ∧ (F 24) ≤ 100 from by first | assumption | omega)) (by decide) ⟨Nat.le_of_ble_eq_true rfl, Nat.le_of_ble_eq_true rfl⟩ (q0 := 0) rfl rfl rfl rfl (Nat.le_of_ble_eq_true rfl) rfl (fun vo wo hv => ?_)
  obtain ⟨b9_2, g24_2, hv1, hw1, r2⟩ := hv
  rw [hv1, hw1]
  show WW K G 0 0 (MW A G.2.1 (au I 9 b9_2) (fu F 24 g24_2)) 5 [(0, .ref (A 0)), (1, .int (J x))] []
  have r2 : b9_2 = napp (I 9) (F 24) 3 ∧ g24_2 = (F 24) + 1 := r2
  refine w_aload_n (pc := 5) hC dX12_plainWaits_5 0 rfl rfl ?_
  refine w_iload_n (pc := 6) hC dX12_plainWaits_6 1 rfl rfl ?_
  refine w_callV (pc := 7) (As := [.int (J x)]) (rest := []) hC dX12_plainWaits_7 cv_X12_283 (c_X12_takesActs (kl K) G A (au I 9 b9_2) (fu F 24 g24_2) x (show 0 ≤ g24_2 ∧ g24_2 ≤ 95 from by first | assumption | omega) (show 0 ≤ (F 25) ∧ (F 25) ≤ 6 from by first | assumption | omega)) (by decide) ⟨Nat.le_of_ble_eq_true rfl, Nat.le_of_ble_eq_true rfl⟩ (q0 := 0) rfl rfl rfl rfl (Nat.le_of_ble_eq_true rfl) rfl (fun vo wo hv => ?_)
  obtain ⟨b9_7, g24_7, hv1, hw1, r7⟩ := hv
  rw [hv1, hw1]
  show WW K G 0 0 (MW A G.2.1 (au I 9 b9_7) (fu F 24 g24_7)) 10 [(0, .ref (A 0)), (1, .int (J x))] [.int (J (tkv (F 25) (F 26) (F 27) x))]
  have r7 : b9_7 = nb (tkL (F 25)) b9_2 g24_2 ∧ g24_7 = g24_2 + ((tkL (F 25)).length : Int) := r7
  refine w_iconst (pc := 10) hC dX12_plainWaits_10 ?_
  refine w_imul (pc := 11) hC dX12_plainWaits_11 ?_
  refine w_iret (pc := 12) hC hRT dX12_plainWaits_12 rfl ?_
  refine ⟨b9_7, g24_7, retI (by first | rfl | exact (bI_t (by omega)).symm | exact (bI_f (by omega)).symm | omega), rfl, ?_⟩
  · rw [r7.1, r7.2, r2.1, r2.2]; exact ⟨rfl, by unfold pwL; simp only [List.length_cons]; omega⟩
set_option maxRecDepth 100000 in
set_option maxHeartbeats 4000000 in
theorem c_X12_waitsActs (l : Launch) (G : GT) (A : Nat → Nat) (I : Nat → Int → Int) (F : Nat → Int)  (x : Int) (hq : 0 ≤ (F 24) ∧ (F 24) ≤ 80) (hk : 0 ≤ (F 25) ∧ (F 25) ≤ 6) : CT l yX12_waitsActs cX12_waitsActs 3 (some .int) 6 0 0 G [.ref (A 0), .int (J x)] (MW A G.2.1 I F) (fun vo wo => ∃ (b9 : Int → Int) (g24 : Int), vo = some (.int (J (wtv (F 25) (F 26) (F 27) x))) ∧ wo = MW A G.2.1 (au I 9 b9) (fu F 24 g24) ∧ (b9 = nb (wtL (F 25)) (I 9) (F 24) ∧ g24 = (F 24) + ((wtL (F 25)).length : Int))) := by
  refine CT_of (own := RX12) rfl rfl (Nat.le_of_ble_eq_true rfl) (fun K hl hnL hC hRT hin => ?_)
  subst hl
  show WW K G 0 0 (MW A G.2.1 I F) 0 [(0, .ref (A 0)), (1, .int (J x))] []
  have hl := tkL_len (F 25)
  refine w_aload_n (pc := 0) hC dX12_waitsActs_0 0 rfl rfl ?_
  refine w_getf (pc := 1) (v := .int (J (F 25))) hC dX12_waitsActs_1 fi_X12_265 0 rfl rfl ?_
  refine w_iconst (pc := 4) hC dX12_waitsActs_4 ?_
  refine w_icmp_ne (pc := 5) (tgt := 30) hC dX12_waitsActs_5 (by decide) (by omega) (fun c5 => ?_) (fun c5 => ?_)
  · refine w_aload_n (pc := 30) hC dX12_waitsActs_30 0 rfl rfl ?_
    refine w_getf (pc := 31) (v := .int (J (F 25))) hC dX12_waitsActs_31 fi_X12_265 0 rfl rfl ?_
    refine w_iconst (pc := 34) hC dX12_waitsActs_34 ?_
    refine w_callS (pc := 35) (As := [.int (J (F 25)), .int (J 5)]) (rest := []) hC dX12_waitsActs_35 cs_X12_280 (c_X12_isUnder (kl K) G (MW A G.2.1 I F) (F 25) 5 (show -2147483648 ≤ (F 25) ∧ (F 25) < 2147483648 from by first | assumption | omega) (show -2147483648 ≤ 5 ∧ 5 < 2147483648 from by first | assumption | omega)) (by decide) ⟨Nat.le_of_ble_eq_true rfl, Nat.le_of_ble_eq_true rfl⟩ rfl (Nat.le_of_ble_eq_true rfl) rfl (fun vo wo hv => ?_)
    obtain ⟨hv1, hw1⟩ := hv
    rw [hv1, hw1]
    show WW K G 0 0 (MW A G.2.1 I F) 38 [(0, .ref (A 0)), (1, .int (J x))] [.int (J (bI (5 = 0 ∨ 5 = (F 25) ∨ (5 = 2 ∧ ((F 25) = 3 ∨ (F 25) = 4)) ∨ (5 = 5 ∧ (F 25) = 6))))]
    refine w_if_eq_b (pc := 38) (tgt := 56) hC dX12_waitsActs_38 (by decide) (fun c38 => ?_) (fun c38 => ?_)
    · refine w_aload_n (pc := 56) hC dX12_waitsActs_56 0 rfl rfl ?_
      refine w_iload_n (pc := 57) hC dX12_waitsActs_57 1 rfl rfl ?_
      refine w_callV (pc := 58) (As := [.int (J x)]) (rest := []) hC dX12_waitsActs_58 cv_X12_286 (c_X12_plainWaits (kl K) G A I F x (show 0 ≤ (F 24) ∧ (F 24) ≤ 94 from by first | assumption | omega) (show 0 ≤ (F 25) ∧ (F 25) ≤ 6 from by first | assumption | omega)) (by decide) ⟨Nat.le_of_ble_eq_true rfl, Nat.le_of_ble_eq_true rfl⟩ (q0 := 0) rfl rfl rfl rfl (Nat.le_of_ble_eq_true rfl) rfl (fun vo wo hv => ?_)
      obtain ⟨b9_58, g24_58, hv1, hw1, r58⟩ := hv
      rw [hv1, hw1]
      show WW K G 0 0 (MW A G.2.1 (au I 9 b9_58) (fu F 24 g24_58)) 61 [(0, .ref (A 0)), (1, .int (J x))] [.int (J (tkv (F 25) (F 26) (F 27) x * 2))]
      have r58 : b9_58 = nb (pwL (F 25)) (I 9) (F 24) ∧ g24_58 = (F 24) + ((pwL (F 25)).length : Int) := r58
      refine w_iret (pc := 61) hC hRT dX12_waitsActs_61 rfl ?_
      refine ⟨b9_58, g24_58, retI (by first | rfl | (simp only [wtv]; repeat' split) <;> first | rfl | omega), rfl, ?_⟩
      · rw [r58.1, r58.2, show wtL (F 25) = pwL (F 25) by unfold wtL; rw [if_neg (by omega), if_neg (by omega)]]; exact ⟨rfl, rfl⟩
    · refine w_aload_n (pc := 41) hC dX12_waitsActs_41 0 rfl rfl ?_
      refine w_bipush (pc := 42) hC dX12_waitsActs_42 (z := 31) rfl ?_
      refine w_callV (pc := 44) (As := [.int (J 31)]) (rest := []) hC dX12_waitsActs_44 cv_X12_259 (c_X12_runs (kl K) G A I F 31 (show 0 ≤ (F 24) ∧ (F 24) ≤ 100 from by first | assumption | omega)) (by decide) ⟨Nat.le_of_ble_eq_true rfl, Nat.le_of_ble_eq_true rfl⟩ (q0 := 0) rfl rfl rfl rfl (Nat.le_of_ble_eq_true rfl) rfl (fun vo wo hv => ?_)
      obtain ⟨b9_44, g24_44, hv1, hw1, r44⟩ := hv
      rw [hv1, hw1]
      show WW K G 0 0 (MW A G.2.1 (au I 9 b9_44) (fu F 24 g24_44)) 47 [(0, .ref (A 0)), (1, .int (J x))] []
      have r44 : b9_44 = napp (I 9) (F 24) 31 ∧ g24_44 = (F 24) + 1 := r44
      refine w_aload_n (pc := 47) hC dX12_waitsActs_47 0 rfl rfl ?_
      refine w_iload_n (pc := 48) hC dX12_waitsActs_48 1 rfl rfl ?_
      refine w_callV (pc := 49) (As := [.int (J x)]) (rest := []) hC dX12_waitsActs_49 cv_X12_286 (c_X12_plainWaits (kl K) G A (au I 9 b9_44) (fu F 24 g24_44) x (show 0 ≤ g24_44 ∧ g24_44 ≤ 94 from by first | assumption | omega) (show 0 ≤ (F 25) ∧ (F 25) ≤ 6 from by first | assumption | omega)) (by decide) ⟨Nat.le_of_ble_eq_true rfl, Nat.le_of_ble_eq_true rfl⟩ (q0 := 0) rfl rfl rfl rfl (Nat.le_of_ble_eq_true rfl) rfl (fun vo wo hv => ?_)
      obtain ⟨b9_49, g24_49, hv1, hw1, r49⟩ := hv
      rw [hv1, hw1]
      show WW K G 0 0 (MW A G.2.1 (au I 9 b9_49) (fu F 24 g24_49)) 52 [(0, .ref (A 0)), (1, .int (J x))] [.int (J (tkv (F 25) (F 26) (F 27) x * 2))]
      have r49 : b9_49 = nb (pwL (F 25)) b9_44 g24_44 ∧ g24_49 = g24_44 + ((pwL (F 25)).length : Int) := r49
      refine w_bipush (pc := 52) hC dX12_waitsActs_52 (z := 7) rfl ?_
      refine w_ixor (pc := 54) hC dX12_waitsActs_54 (v := jx (tkv (F 25) (F 26) (F 27) x * 2) 7) (J_xor _ _) ?_
      refine w_iret (pc := 55) hC hRT dX12_waitsActs_55 rfl ?_
      refine ⟨b9_49, g24_49, retI (by first | rfl | (simp only [wtv]; repeat' split) <;> first | rfl | omega), rfl, ?_⟩
      · rw [r49.1, r49.2, r44.1, r44.2, show wtL (F 25) = 31 :: pwL (F 25) by unfold wtL; rw [if_neg (by omega), if_pos (by omega)]]; exact ⟨rfl, by simp only [List.length_cons]; omega⟩
  · refine w_aload_n (pc := 8) hC dX12_waitsActs_8 0 rfl rfl ?_
    refine w_bipush (pc := 9) hC dX12_waitsActs_9 (z := 41) rfl ?_
    refine w_callV (pc := 11) (As := [.int (J 41)]) (rest := []) hC dX12_waitsActs_11 cv_X12_259 (c_X12_runs (kl K) G A I F 41 (show 0 ≤ (F 24) ∧ (F 24) ≤ 100 from by first | assumption | omega)) (by decide) ⟨Nat.le_of_ble_eq_true rfl, Nat.le_of_ble_eq_true rfl⟩ (q0 := 0) rfl rfl rfl rfl (Nat.le_of_ble_eq_true rfl) rfl (fun vo wo hv => ?_)
    obtain ⟨b9_11, g24_11, hv1, hw1, r11⟩ := hv
    rw [hv1, hw1]
    show WW K G 0 0 (MW A G.2.1 (au I 9 b9_11) (fu F 24 g24_11)) 14 [(0, .ref (A 0)), (1, .int (J x))] []
    have r11 : b9_11 = napp (I 9) (F 24) 41 ∧ g24_11 = (F 24) + 1 := r11
    refine w_aload_n (pc := 14) hC dX12_waitsActs_14 0 rfl rfl ?_
    refine w_iload_n (pc := 15) hC dX12_waitsActs_15 1 rfl rfl ?_
    refine w_iconst (pc := 16) hC dX12_waitsActs_16 ?_
    refine w_isub (pc := 17) hC dX12_waitsActs_17 ?_
    refine w_callV (pc := 18) (As := [.int (J (x - 1))]) (rest := []) hC dX12_waitsActs_18 cv_X12_286 (c_X12_plainWaits (kl K) G A (au I 9 b9_11) (fu F 24 g24_11) (x - 1) (show 0 ≤ g24_11 ∧ g24_11 ≤ 94 from by first | assumption | omega) (show 0 ≤ (F 25) ∧ (F 25) ≤ 6 from by first | assumption | omega)) (by decide) ⟨Nat.le_of_ble_eq_true rfl, Nat.le_of_ble_eq_true rfl⟩ (q0 := 0) rfl rfl rfl rfl (Nat.le_of_ble_eq_true rfl) rfl (fun vo wo hv => ?_)
    obtain ⟨b9_18, g24_18, hv1, hw1, r18⟩ := hv
    rw [hv1, hw1]
    show WW K G 0 0 (MW A G.2.1 (au I 9 b9_18) (fu F 24 g24_18)) 21 [(0, .ref (A 0)), (1, .int (J x))] [.int (J (tkv (F 25) (F 26) (F 27) (x - 1) * 2))]
    have r18 : b9_18 = nb (pwL (F 25)) b9_11 g24_11 ∧ g24_18 = g24_11 + ((pwL (F 25)).length : Int) := r18
    refine w_istore_n (pc := 21) hC dX12_waitsActs_21 rfl (lv2 := [(2, .int (J (tkv (F 25) (F 26) (F 27) (x - 1) * 2))), (0, .ref (A 0)), (1, .int (J x))]) (by rw [hnL]; decide) rfl ?_
    refine w_iload_n (pc := 22) hC dX12_waitsActs_22 0 rfl rfl ?_
    refine w_aload_n (pc := 23) hC dX12_waitsActs_23 1 rfl rfl ?_
    refine w_iconst (pc := 24) hC dX12_waitsActs_24 ?_
    refine w_callV (pc := 25) (As := [.int (J 2)]) (rest := [.int (J (tkv (F 25) (F 26) (F 27) (x - 1) * 2))]) hC dX12_waitsActs_25 cv_X12_271 (c_X12_asksActs (kl K) G A (au I 9 b9_18) (fu F 24 g24_18) 2 (show 0 ≤ g24_18 ∧ g24_18 ≤ 97 from by rw [r18.2, r11.2]; unfold pwL; simp only [List.length_cons]; omega) (show 0 ≤ (F 25) ∧ (F 25) ≤ 6 from by first | assumption | omega)) (by decide) ⟨Nat.le_of_ble_eq_true rfl, Nat.le_of_ble_eq_true rfl⟩ (q0 := 0) rfl rfl rfl rfl (Nat.le_of_ble_eq_true rfl) rfl (fun vo wo hv => ?_)
    obtain ⟨b9_25, g24_25, hv1, hw1, r25⟩ := hv
    rw [hv1, hw1]
    show WW K G 0 0 (MW A G.2.1 (au I 9 b9_25) (fu F 24 g24_25)) 28 [(2, .int (J (tkv (F 25) (F 26) (F 27) (x - 1) * 2))), (0, .ref (A 0)), (1, .int (J x))] [.int (J (asv (F 25) (F 26) 2)), .int (J (tkv (F 25) (F 26) (F 27) (x - 1) * 2))]
    have r25 : b9_25 = nb (asL (F 25)) b9_18 g24_18 ∧ g24_25 = g24_18 + ((asL (F 25)).length : Int) := r25
    refine w_iadd (pc := 28) hC dX12_waitsActs_28 ?_
    refine w_iret (pc := 29) hC hRT dX12_waitsActs_29 rfl ?_
    refine ⟨b9_25, g24_25, retI (by first | rfl | (simp only [wtv]; repeat' split) <;> first | rfl | omega), rfl, ?_⟩
    · rw [r25.1, r25.2, r18.1, r18.2, r11.1, r11.2, show wtL (F 25) = (41 :: pwL (F 25)) ++ asL (F 25) from if_pos c5, nb_app]; refine ⟨?_, by simp only [List.length_cons, List.length_append]; omega⟩; simp only [List.length_cons, nb]; congr 1; omega
set_option maxRecDepth 100000 in
set_option maxHeartbeats 4000000 in
theorem c_X12_act (l : Launch) (G : GT) (A : Nat → Nat) (I : Nat → Int → Int) (F : Nat → Int)  (a : Int) (c : Int) (x : Int) (hR : RI (I 1)) (ha : -2147483648 ≤ a ∧ a < 2147483648) (hb : -2147483648 ≤ c ∧ c < 2147483648) : CT l yX12_act cX12_act 4 (some .int) 7 0 0 G [.ref (A 0), .int (J a), .int (J c), .int (J x)] (MW A G.2.1 I F) (fun vo wo => ∃ (b9 : Int → Int) (g24 : Int) (g25 : Int) (g26 : Int) (g27 : Int), vo = some (.int (J (v_act (I 1) a c x))) ∧ wo = MW A G.2.1 (au I 9 b9) (fu (fu (fu (fu F 24 g24) 25 g25) 26 g26) 27 g27) ∧ (b9 = nb (actL (I 1) a c) (I 9) 0 ∧ g24 = ((actL (I 1) a c).length : Int))) := by
  refine CT_of (own := RX12) rfl rfl (Nat.le_of_ble_eq_true rfl) (fun K hl hnL hC hRT hin => ?_)
  subst hl
  show WW K G 0 0 (MW A G.2.1 I F) 0 [(0, .ref (A 0)), (1, .int (J a)), (2, .int (J c)), (3, .int (J x))] []
  have hn := hR.n
  refine w_aload_n (pc := 0) hC dX12_act_0 0 rfl rfl ?_
  refine w_iconst (pc := 1) hC dX12_act_1 ?_
  refine w_putf (pc := 2) (w2 := MW A G.2.1 I (fu F 24 0)) hC dX12_act_2 fi_X12_256 fp_X12_24 rfl 0 rfl (rfl) (rfl) (Nat.le_of_ble_eq_true rfl) rfl ?_
  refine w_aload_n (pc := 5) hC dX12_act_5 0 rfl rfl ?_
  refine w_iload_n (pc := 6) hC dX12_act_6 1 rfl rfl ?_
  refine w_callV (pc := 7) (As := [.int (J a)]) (rest := []) hC dX12_act_7 cv_X12_60 (c_X12_isName (kl K) G A I (fu F 24 0) a (show RI (I 1) from by first | assumption | omega) (show -2147483648 ≤ a ∧ a < 2147483648 from by first | assumption | omega)) (by decide) ⟨Nat.le_of_ble_eq_true rfl, Nat.le_of_ble_eq_true rfl⟩ (q0 := 0) rfl rfl rfl rfl (Nat.le_of_ble_eq_true rfl) rfl (fun vo wo hv => ?_)
  obtain ⟨hv1, hw1⟩ := hv
  rw [hv1, hw1]
  show WW K G 0 0 (MW A G.2.1 I (fu F 24 0)) 10 [(0, .ref (A 0)), (1, .int (J a)), (2, .int (J c)), (3, .int (J x))] [.int (J (bI (0 ≤ a ∧ a < (I 1) 0)))]
  refine w_if_eq_b (pc := 10) (tgt := 22) hC dX12_act_10 (by decide) (fun c10 => ?_) (fun c10 => ?_)
  · refine w_iconst (pc := 22) hC dX12_act_22 ?_
    refine w_iret (pc := 23) hC hRT dX12_act_23 rfl ?_
    refine ⟨(I 9), 0, (F 25), (F 26), (F 27), retI (by first | rfl | (simp only [v_act]; repeat' split) <;> first | rfl | omega), rfl, ?_⟩
    · rw [show actL (I 1) a c = [] by unfold actL; rw [if_pos (by omega)]]; exact ⟨rfl, rfl⟩
  · refine w_iload_n (pc := 13) hC dX12_act_13 2 rfl rfl ?_
    refine w_iconst (pc := 14) hC dX12_act_14 ?_
    refine w_iconst (pc := 15) hC dX12_act_15 ?_
    refine w_callS (pc := 16) (As := [.int (J c), .int (J 0), .int (J 2)]) (rest := []) hC dX12_act_16 cs_X12_48 (c_X12_in (kl K) G (MW A G.2.1 I (fu F 24 0)) c 0 2 (show (-2147483648 ≤ c ∧ c < 2147483648) ∧ (-2147483648 ≤ 0 ∧ 0 < 2147483648) ∧ -2147483648 ≤ 2 ∧ 2 < 2147483648 from by first | assumption | omega)) (by decide) ⟨Nat.le_of_ble_eq_true rfl, Nat.le_of_ble_eq_true rfl⟩ rfl (Nat.le_of_ble_eq_true rfl) rfl (fun vo wo hv => ?_)
    obtain ⟨hv1, hw1⟩ := hv
    rw [hv1, hw1]
    show WW K G 0 0 (MW A G.2.1 I (fu F 24 0)) 19 [(0, .ref (A 0)), (1, .int (J a)), (2, .int (J c)), (3, .int (J x))] [.int (J (bI (0 ≤ c ∧ c ≤ 2)))]
    refine w_if_ne_b (pc := 19) (tgt := 24) hC dX12_act_19 (by decide) (fun c19 => ?_) (fun c19 => ?_)
    · refine w_aload_n (pc := 24) hC dX12_act_24 0 rfl rfl ?_
      refine w_aload_n (pc := 25) hC dX12_act_25 0 rfl rfl ?_
      refine w_getf (pc := 26) (v := .ref (A 1)) hC dX12_act_26 fi_X12_9 0 rfl rfl ?_
      refine w_sipush (pc := 29) hC dX12_act_29 (z := 166) rfl ?_
      refine w_iload_n (pc := 32) hC dX12_act_32 1 rfl rfl ?_
      refine w_iadd (pc := 33) hC dX12_act_33 ?_
      have hkd := hR.kd (166 + a) (by omega) (by omega)
      refine w_iald (pc := 34) (g := (I 1)) hC dX12_act_34 1 rfl (by omega) (Nat.le_of_ble_eq_true rfl) ?_
      refine w_putf (pc := 35) (w2 := MW A G.2.1 I (fu (fu F 24 0) 25 ((I 1) (166 + a)))) hC dX12_act_35 fi_X12_265 fp_X12_25 rfl 0 rfl (rfl) (rfl) (Nat.le_of_ble_eq_true rfl) rfl ?_
      refine w_aload_n (pc := 38) hC dX12_act_38 0 rfl rfl ?_
      refine w_iload_n (pc := 39) hC dX12_act_39 1 rfl rfl ?_
      refine w_putf (pc := 40) (w2 := MW A G.2.1 I (fu (fu (fu F 24 0) 25 ((I 1) (166 + a))) 26 a)) hC dX12_act_40 fi_X12_262 fp_X12_26 rfl 0 rfl (rfl) (rfl) (Nat.le_of_ble_eq_true rfl) rfl ?_
      refine w_aload_n (pc := 43) hC dX12_act_43 0 rfl rfl ?_
      refine w_aload_n (pc := 44) hC dX12_act_44 0 rfl rfl ?_
      refine w_getf (pc := 45) (v := .ref (A 1)) hC dX12_act_45 fi_X12_9 0 rfl rfl ?_
      refine w_sipush (pc := 48) hC dX12_act_48 (z := 172) rfl ?_
      refine w_iload_n (pc := 51) hC dX12_act_51 1 rfl rfl ?_
      refine w_iadd (pc := 52) hC dX12_act_52 ?_
      have hvv := hR.vv (172 + a) (by omega) (by omega)
      refine w_iald (pc := 53) (g := (I 1)) hC dX12_act_53 1 rfl (by omega) (Nat.le_of_ble_eq_true rfl) ?_
      refine w_putf (pc := 54) (w2 := MW A G.2.1 I (fu (fu (fu (fu F 24 0) 25 ((I 1) (166 + a))) 26 a) 27 ((I 1) (172 + a)))) hC dX12_act_54 fi_X12_274 fp_X12_27 rfl 0 rfl (rfl) (rfl) (Nat.le_of_ble_eq_true rfl) rfl ?_
      refine w_iload_n (pc := 57) hC dX12_act_57 2 rfl rfl ?_
      refine w_if_ne (pc := 58) (tgt := 69) hC dX12_act_58 (by decide) (by omega) (fun c58 => ?_) (fun c58 => ?_)
      · refine w_iload_n (pc := 69) hC dX12_act_69 2 rfl rfl ?_
        refine w_iconst (pc := 70) hC dX12_act_70 ?_
        refine w_icmp_ne (pc := 71) (tgt := 82) hC dX12_act_71 (by decide) (by omega) (fun c71 => ?_) (fun c71 => ?_)
        · refine w_aload_n (pc := 82) hC dX12_act_82 0 rfl rfl ?_
          refine w_iload_n (pc := 83) hC dX12_act_83 3 rfl rfl ?_
          refine w_callV (pc := 84) (As := [.int (J x)]) (rest := []) hC dX12_act_84 cv_X12_289 (c_X12_waitsActs (kl K) G A I (fu (fu (fu (fu F 24 0) 25 ((I 1) (166 + a))) 26 a) 27 ((I 1) (172 + a))) x (show 0 ≤ 0 ∧ 0 ≤ 80 from by first | assumption | omega) (show 0 ≤ ((I 1) (166 + a)) ∧ ((I 1) (166 + a)) ≤ 6 from by first | assumption | omega)) (by decide) ⟨Nat.le_of_ble_eq_true rfl, Nat.le_of_ble_eq_true rfl⟩ (q0 := 0) rfl rfl rfl rfl (Nat.le_of_ble_eq_true rfl) rfl (fun vo wo hv => ?_)
          obtain ⟨b9_84, g24_84, hv1, hw1, r84⟩ := hv
          rw [hv1, hw1]
          show WW K G 0 0 (MW A G.2.1 (au I 9 b9_84) (fu (fu (fu (fu F 24 g24_84) 25 ((I 1) (166 + a))) 26 a) 27 ((I 1) (172 + a)))) 87 [(0, .ref (A 0)), (1, .int (J a)), (2, .int (J c)), (3, .int (J x))] [.int (J (wtv ((I 1) (166 + a)) a ((I 1) (172 + a)) x))]
          have r84 : b9_84 = nb (wtL ((I 1) (166 + a))) (I 9) 0 ∧ g24_84 = 0 + ((wtL ((I 1) (166 + a))).length : Int) := r84
          refine w_iret (pc := 87) hC hRT dX12_act_87 rfl ?_
          refine ⟨b9_84, g24_84, (I 1) (166 + a), a, (I 1) (172 + a), retI (by first | rfl | (simp only [v_act]; repeat' split) <;> first | rfl | omega), rfl, ?_⟩
          · first | (rw [r63.1, r63.2, show actL (I 1) a c = asL (I 1 (166 + a)) by unfold actL; rw [if_neg (by omega), if_pos (by omega)]]; exact ⟨rfl, by omega⟩) | (rw [r76.1, r76.2, show actL (I 1) a c = tkL (I 1 (166 + a)) by unfold actL; rw [if_neg (by omega), if_neg (by omega), if_pos (by omega)]]; exact ⟨rfl, by omega⟩) | (rw [r84.1, r84.2, show actL (I 1) a c = wtL (I 1 (166 + a)) by unfold actL; rw [if_neg (by omega), if_neg (by omega), if_neg (by omega)]]; exact ⟨rfl, by omega⟩)
        · refine w_aload_n (pc := 74) hC dX12_act_74 0 rfl rfl ?_
          refine w_iload_n (pc := 75) hC dX12_act_75 3 rfl rfl ?_
          refine w_callV (pc := 76) (As := [.int (J x)]) (rest := []) hC dX12_act_76 cv_X12_283 (c_X12_takesActs (kl K) G A I (fu (fu (fu (fu F 24 0) 25 ((I 1) (166 + a))) 26 a) 27 ((I 1) (172 + a))) x (show 0 ≤ 0 ∧ 0 ≤ 95 from by first | assumption | omega) (show 0 ≤ ((I 1) (166 + a)) ∧ ((I 1) (166 + a)) ≤ 6 from by first | assumption | omega)) (by decide) ⟨Nat.le_of_ble_eq_true rfl, Nat.le_of_ble_eq_true rfl⟩ (q0 := 0) rfl rfl rfl rfl (Nat.le_of_ble_eq_true rfl) rfl (fun vo wo hv => ?_)
          obtain ⟨b9_76, g24_76, hv1, hw1, r76⟩ := hv
          rw [hv1, hw1]
          show WW K G 0 0 (MW A G.2.1 (au I 9 b9_76) (fu (fu (fu (fu F 24 g24_76) 25 ((I 1) (166 + a))) 26 a) 27 ((I 1) (172 + a)))) 79 [(0, .ref (A 0)), (1, .int (J a)), (2, .int (J c)), (3, .int (J x))] [.int (J (tkv ((I 1) (166 + a)) a ((I 1) (172 + a)) x))]
          have r76 : b9_76 = nb (tkL ((I 1) (166 + a))) (I 9) 0 ∧ g24_76 = 0 + ((tkL ((I 1) (166 + a))).length : Int) := r76
          refine w_goto (pc := 79) hC dX12_act_79 (tgt := 87) (by decide) ?_
          refine w_iret (pc := 87) hC hRT dX12_act_87 rfl ?_
          refine ⟨b9_76, g24_76, (I 1) (166 + a), a, (I 1) (172 + a), retI (by first | rfl | (simp only [v_act]; repeat' split) <;> first | rfl | omega), rfl, ?_⟩
          · first | (rw [r63.1, r63.2, show actL (I 1) a c = asL (I 1 (166 + a)) by unfold actL; rw [if_neg (by omega), if_pos (by omega)]]; exact ⟨rfl, by omega⟩) | (rw [r76.1, r76.2, show actL (I 1) a c = tkL (I 1 (166 + a)) by unfold actL; rw [if_neg (by omega), if_neg (by omega), if_pos (by omega)]]; exact ⟨rfl, by omega⟩) | (rw [r84.1, r84.2, show actL (I 1) a c = wtL (I 1 (166 + a)) by unfold actL; rw [if_neg (by omega), if_neg (by omega), if_neg (by omega)]]; exact ⟨rfl, by omega⟩)
      · refine w_aload_n (pc := 61) hC dX12_act_61 0 rfl rfl ?_
        refine w_iload_n (pc := 62) hC dX12_act_62 3 rfl rfl ?_
        refine w_callV (pc := 63) (As := [.int (J x)]) (rest := []) hC dX12_act_63 cv_X12_271 (c_X12_asksActs (kl K) G A I (fu (fu (fu (fu F 24 0) 25 ((I 1) (166 + a))) 26 a) 27 ((I 1) (172 + a))) x (show 0 ≤ 0 ∧ 0 ≤ 97 from by first | assumption | omega) (show 0 ≤ ((I 1) (166 + a)) ∧ ((I 1) (166 + a)) ≤ 6 from by first | assumption | omega)) (by decide) ⟨Nat.le_of_ble_eq_true rfl, Nat.le_of_ble_eq_true rfl⟩ (q0 := 0) rfl rfl rfl rfl (Nat.le_of_ble_eq_true rfl) rfl (fun vo wo hv => ?_)
        obtain ⟨b9_63, g24_63, hv1, hw1, r63⟩ := hv
        rw [hv1, hw1]
        show WW K G 0 0 (MW A G.2.1 (au I 9 b9_63) (fu (fu (fu (fu F 24 g24_63) 25 ((I 1) (166 + a))) 26 a) 27 ((I 1) (172 + a)))) 66 [(0, .ref (A 0)), (1, .int (J a)), (2, .int (J c)), (3, .int (J x))] [.int (J (asv ((I 1) (166 + a)) a x))]
        have r63 : b9_63 = nb (asL ((I 1) (166 + a))) (I 9) 0 ∧ g24_63 = 0 + ((asL ((I 1) (166 + a))).length : Int) := r63
        refine w_goto (pc := 66) hC dX12_act_66 (tgt := 87) (by decide) ?_
        refine w_iret (pc := 87) hC hRT dX12_act_87 rfl ?_
        refine ⟨b9_63, g24_63, (I 1) (166 + a), a, (I 1) (172 + a), retI (by first | rfl | (simp only [v_act]; repeat' split) <;> first | rfl | omega), rfl, ?_⟩
        · first | (rw [r63.1, r63.2, show actL (I 1) a c = asL (I 1 (166 + a)) by unfold actL; rw [if_neg (by omega), if_pos (by omega)]]; exact ⟨rfl, by omega⟩) | (rw [r76.1, r76.2, show actL (I 1) a c = tkL (I 1 (166 + a)) by unfold actL; rw [if_neg (by omega), if_neg (by omega), if_pos (by omega)]]; exact ⟨rfl, by omega⟩) | (rw [r84.1, r84.2, show actL (I 1) a c = wtL (I 1 (166 + a)) by unfold actL; rw [if_neg (by omega), if_neg (by omega), if_neg (by omega)]]; exact ⟨rfl, by omega⟩)
    · refine w_iconst (pc := 22) hC dX12_act_22 ?_
      refine w_iret (pc := 23) hC hRT dX12_act_23 rfl ?_
      refine ⟨(I 9), 0, (F 25), (F 26), (F 27), retI (by first | rfl | (simp only [v_act]; repeat' split) <;> first | rfl | omega), rfl, ?_⟩
      · rw [show actL (I 1) a c = [] by unfold actL; rw [if_pos (by omega)]]; exact ⟨rfl, rfl⟩
