
theorem st_0 {n b : Int} {g W : Int → Int} (h : ∀ f : Int → Int, isum f (DBf n g) W (1 : Int).toNat = f b) : DBf n g 0 = b := by
  have h2 := h (fun x => bI (x = b))
  have h3 : isum (fun x => bI (x = b)) (DBf n g) W (1 : Int).toNat = 0 + bI (DBf n g 0 = b) * W 0 := rfl
  rw [h3, bI_t rfl] at h2
  by_cases c : DBf n g 0 = b
  · exact c
  · rw [bI_f c] at h2
    omega
theorem is_bd {n m : Int} {g W f : Int → Int} (hD : DOK n g W m) (h : ∀ k : Int, 0 ≤ k → k < m → 0 ≤ f (DBf n g k) ∧ f (DBf n g k) ≤ 6) : 0 ≤ isum f (DBf n g) W m.toNat ∧ isum f (DBf n g) W m.toNat ≤ isum one1 (DBf n g) W m.toNat * 6 := by
  constructor
  · exact isum_nn (fun k k0 k1 => ⟨(h k k0 (by omega)).1, by have := hD.1.2.2 k k0 (by omega); omega⟩)
  · rw [← isum_mul]
    exact isum_le (fun k k0 k1 => ⟨by have := (h k k0 (by omega)).2; show _ ≤ (1 : Int) * 6; omega, by have := hD.1.2.2 k k0 (by omega); omega⟩)
theorem is_rk {n m a : Int} {g W : Int → Int} (hD : DOK n g W m) (ha : 0 ≤ a ∧ a < n) : 0 ≤ isum (fun b => rk n b a) (DBf n g) W m.toNat ∧ isum (fun b => rk n b a) (DBf n g) W m.toNat ≤ isum one1 (DBf n g) W m.toNat * 6 := is_bd hD (fun k k0 k1 => by
  have hV := (hD.2 k k0 k1).1
  have := rk_spec hV ha.1 ha.2
  have := hV.1
  omega)
theorem EXP_1 (S : Int → Int) (c rf first : Int) (f : Int → Int) (b : Int) : EXP S c rf first (1 : Int).toNat f b = STEP S c rf (S 2) first f b := by
  have h := EXP_s S c rf first f (k := 0) (Int.le_refl 0)
  rw [show ((0 : Int) + 1) = 1 from rfl, Int.add_zero, if_pos rfl] at h
  rw [h]
  rfl
theorem gcd_run {a b : Int} {i : Int} (h : i = 0 ∨ (b < a ∧ a * b * 2 ^ (i - 1).toNat ≤ 10000000000000000000000000000)) (hi : 0 ≤ i) (ha : 0 ≤ a ∧ a ≤ 100000000000000) (hb : 0 < b ∧ b ≤ 100000000000000) : (a % b < b ∧ b * (a % b) * 2 ^ (i + 1 - 1).toNat ≤ 10000000000000000000000000000) := by
  have h1 := Int.emod_lt_of_pos a hb.1
  have h0 := Int.emod_nonneg a (show b ≠ 0 by omega)
  refine ⟨h1, ?_⟩
  rcases h with e | ⟨e1, e2⟩
  · subst e
    rw [show ((0 : Int) + 1 - 1).toNat = 0 from rfl]
    have h3 : b * (a % b) ≤ 100000000000000 * (a % b) := Int.mul_le_mul_of_nonneg_right hb.2 h0
    omega
  · rcases (show i = 0 ∨ 1 ≤ i by omega) with c | c
    · subst c
      rw [show ((0 : Int) + 1 - 1).toNat = 0 from rfl]
      have h3 : b * (a % b) ≤ 100000000000000 * (a % b) := Int.mul_le_mul_of_nonneg_right hb.2 h0
      omega
    · rw [show (i + 1 - 1).toNat = (i - 1).toNat + 1 by omega, Int.pow_succ]
      have hd := Int.emod_add_mul_ediv a b
      have hq : 1 ≤ a / b := by
        rcases Int.lt_or_le 0 (a / b) with z | z
        · omega
        · have : b * (a / b) ≤ 0 := Int.mul_nonpos_of_nonneg_of_nonpos (by omega) z
          omega
      have hq2 : b * 1 ≤ b * (a / b) := Int.mul_le_mul_of_nonneg_left hq (by omega)
      have h5 : 2 * (a % b) ≤ a := by omega
      have hp : (0 : Int) < 2 ^ (i - 1).toNat := Int.pow_pos (by decide)
      have h6 : b * (2 * (a % b)) ≤ b * a := Int.mul_le_mul_of_nonneg_left h5 (by omega)
      have h7 : b * (2 * (a % b)) * 2 ^ (i - 1).toNat ≤ b * a * 2 ^ (i - 1).toNat := Int.mul_le_mul_of_nonneg_right h6 (by omega)
      rw [Int.mul_comm b a] at h7
      have e9 : b * (a % b) * (2 ^ (i - 1).toNat * 2) = b * (2 * (a % b)) * 2 ^ (i - 1).toNat := by
        generalize (2 : Int) ^ (i - 1).toNat = p
        generalize a % b = r
        rw [Int.mul_comm p 2, ← Int.mul_assoc, Int.mul_assoc b r 2, Int.mul_comm r 2]
      omega
theorem gcd_end {a b : Int} {i : Int} (h : i = 0 ∨ (b < a ∧ a * b * 2 ^ (i - 1).toNat ≤ 10000000000000000000000000000)) (hi : 200 ≤ i) (hb : 0 ≤ b) : b = 0 := by
  rcases h with e | ⟨e1, e2⟩
  · omega
  · rcases (show b = 0 ∨ 1 ≤ b by omega) with c | c
    · exact c
    · exfalso
      have h1 : (2 : Int) ^ 199 ≤ 2 ^ (i - 1).toNat := by
        rw [p2N, p2N]
        exact Int.ofNat_le.mpr (Nat.pow_le_pow_right (by decide) (by omega))
      have h2 : 1 ≤ a * b := by
        have := Int.mul_le_mul_of_nonneg_left c (show 0 ≤ a by omega)
        omega
      have h3 : 1 * 2 ^ (i - 1).toNat ≤ a * b * 2 ^ (i - 1).toNat := Int.mul_le_mul_of_nonneg_right h2 (by have : (0 : Int) < 2 ^ (i - 1).toNat := Int.pow_pos (by decide); omega)
      have h4 : (10000000000000000000000000000 : Int) < 2 ^ 199 := by decide
      omega

set_option maxRecDepth 100000 in
set_option maxHeartbeats 4000000 in
theorem c_X11_clubAt (l : Launch) (G : GT) (A D : Nat → Nat) (T : Nat) (I : Nat → Int → Int) (F : Nat → Int) (Q : Nat → Nat → Option Nat) (P : va_W) (S : Int → Int) (a : Int) (hR : RI S) (hL : LRn G.2.1 S I F Q P) (ha : -2147483648 ≤ a ∧ a < 2147483648) : CT l yX11_clubAt cX11_clubAt 2 (some (.object "LadderClub$Club")) 0 0 0 G [.ref (A 0), .int (J a)] (CW A D T G.2.1 I F Q P) (fun vo wo => vo = some (va_rf (if 0 ≤ a ∧ a < S 1 then Q 12 a.toNat else none)) ∧ wo = CW A D T G.2.1 I F Q P) := by
  refine CT_of (own := RX11) rfl rfl (Nat.le_of_ble_eq_true rfl) (fun K hl hnL hC hRT hin => ?_)
  subst hl
  show WW K G 0 0 (CW A D T G.2.1 I F Q P) 0 [(0, .ref (A 0)), (1, .int (J a))] []
  have hn := hR.n
  have hbd := hR.bd
  have hcn := hR.cl
  refine w_iload_n (pc := 0) hC dX11_clubAt_0 1 rfl rfl ?_
  refine w_if_lt (pc := 1) (tgt := 27) hC dX11_clubAt_1 (by decide) (by omega) (fun c1 => ?_) (fun c1 => ?_)
  · refine w_null (pc := 27) hC dX11_clubAt_27 ?_
    refine w_aret (pc := 28) (o := none) hC hRT dX11_clubAt_28 (Or.inl ⟨_, rfl⟩) ?_
    refine ⟨by rw [if_neg (by omega)], rfl⟩
  · refine w_iload_n (pc := 4) hC dX11_clubAt_4 1 rfl rfl ?_
    refine w_aload_n (pc := 5) hC dX11_clubAt_5 0 rfl rfl ?_
    refine w_getf (pc := 6) (v := .ref (A 1)) hC dX11_clubAt_6 fi_X11_12 0 CW_0 rfl ?_
    refine w_getfN (pc := 9) (v := .int (J (S 1))) hC dX11_clubAt_9 fn_X11_97 1 CW_1 (congrArg (fun z : Int => some (Value.int (J z))) (l_cl hL)) ?_
    refine w_icmp_ge (pc := 12) (tgt := 27) hC dX11_clubAt_12 (by decide) (by omega) (fun c12 => ?_) (fun c12 => ?_)
    · refine w_null (pc := 27) hC dX11_clubAt_27 ?_
      refine w_aret (pc := 28) (o := none) hC hRT dX11_clubAt_28 (Or.inl ⟨_, rfl⟩) ?_
      refine ⟨by rw [if_neg (by omega)], rfl⟩
    · obtain ⟨q, hQ, -⟩ := l_clb hL (by omega) c12
      refine w_aload_n (pc := 15) hC dX11_clubAt_15 0 rfl rfl ?_
      refine w_getf (pc := 16) (v := .ref (A 1)) hC dX11_clubAt_16 fi_X11_12 0 CW_0 rfl ?_
      refine w_getfN (pc := 19) (v := .ref (A 12)) hC dX11_clubAt_19 fn_X11_108 1 CW_1 rfl ?_
      refine w_iload_n (pc := 22) hC dX11_clubAt_22 1 rfl rfl ?_
      refine w_aaldS (t0 := 5) (q := q) hC dX11_clubAt_23 12 CW_12 rfl rfl (by omega) (Nat.le_of_ble_eq_true rfl) (hQ) ?_
      refine w_goto (pc := 24) hC dX11_clubAt_24 (tgt := 28) (by decide) ?_
      refine w_aret (pc := 28) (o := (some q)) hC hRT dX11_clubAt_28 (Or.inl ⟨_, rfl⟩) ?_
      refine ⟨by rw [if_pos ⟨by omega, c12⟩, hQ], rfl⟩
set_option maxRecDepth 100000 in
set_option maxHeartbeats 4000000 in
theorem c_X4_whole (l : Launch) (G : GT) (A D : Nat → Nat) (T : Nat) (I : Nat → Int → Int) (F : Nat → Int) (Q : Nat → Nat → Option Nat) (P : va_W)    : CT l yX4_whole cX4_whole 1 (some .long) 0 0 0 G [.ref (A 49)] (CW A D T G.2.1 I F Q P) (fun vo wo => vo = some (.long (JL (F 32))) ∧ wo = CW A D T G.2.1 I F Q P) := by
  refine CT_of (own := RX4) rfl rfl (Nat.le_of_ble_eq_true rfl) (fun K hl hnL hC hRT hin => ?_)
  subst hl
  show WW K G 0 0 (CW A D T G.2.1 I F Q P) 0 [(0, .ref (A 49))] []
  refine w_aload_n (pc := 0) hC dX4_whole_0 0 rfl rfl ?_
  refine w_getf (pc := 1) (v := .long (JL (F 32))) hC dX4_whole_1 fi_X4_32 49 CW_49 rfl ?_
  refine w_lret (pc := 4) hC hRT dX4_whole_4 ?_
  refine ⟨retL (by first | rfl | exact (bI_t (by omega)).symm | exact (bI_f (by omega)).symm | omega), rfl⟩
set_option maxRecDepth 100000 in
set_option maxHeartbeats 4000000 in
theorem c_X4_onRung (l : Launch) (G : GT) (A D : Nat → Nat) (T : Nat) (I : Nat → Int → Int) (F : Nat → Int) (Q : Nat → Nat → Option Nat) (P : va_W) (S : Int → Int) (nm : Int) (rung : Int) (hR : RI S) (hL : LRn G.2.1 S I F Q P) (hD : DOK (S 0) (I 50) (I 51) (F 30)) (hr : 0 ≤ rung ∧ rung < S 0) (hnm : -2147483648 ≤ nm ∧ nm < 2147483648) : CT l yX4_onRung cX4_onRung 6 (some .long) 1 0 0 G [.ref (A 49), .int (J nm), .int (J rung)] (CW A D T G.2.1 I F Q P) (fun vo wo => vo = some (.long (JL (isum (fun b => bI (dg b rung = nm)) (DBf (S 0) (I 50)) (I 51) ((F 30) : Int).toNat))) ∧ wo = CW A D T G.2.1 I F Q P) := by
  refine CT_of (own := RX4) rfl rfl (Nat.le_of_ble_eq_true rfl) (fun K hl hnL hC hRT hin => ?_)
  subst hl
  show WW K G 0 0 (CW A D T G.2.1 I F Q P) 0 [(0, .ref (A 49)), (1, .int (J nm)), (2, .int (J rung))] []
  have hn := hR.n
  have hbd := hR.bd
  have h64 := hD.1.1
  refine w_lconst (pc := 0) hC dX4_onRung_0 (z := 0) rfl ?_
  refine w_lstore_n (pc := 1) hC dX4_onRung_1 rfl (lv2 := [(3, .long (JL 0)), (0, .ref (A 49)), (1, .int (J nm)), (2, .int (J rung))]) (by rw [hnL]; decide) rfl ?_
  refine w_iconst (pc := 2) hC dX4_onRung_2 ?_
  refine w_istore (pc := 3) hC dX4_onRung_3 (lv2 := [(5, .int (J 0)), (3, .long (JL 0)), (0, .ref (A 49)), (1, .int (J nm)), (2, .int (J rung))]) (by rw [hnL]; decide) rfl ?_
  have loop5 : ∀ (nF : Nat) (x : Int) (k : Int), (0 ≤ k) → (k ≤ (F 30)) → (x = isum (fun b => bI (dg b rung = nm)) (DBf (S 0) (I 50)) (I 51) (k : Int).toNat) → ((F 30) - k) < (nF : Int) → WW K G 0 0 (CW A D T G.2.1 I F Q P) 5 [(0, .ref (A 49)), (1, .int (J nm)), (2, .int (J rung)), (3, .long (JL x)), (5, .int (J k))] [] := by
    intro nF
    induction nF with
    | zero => intro x k i1 i2 i3 hm5; exact absurd hm5 (by omega)
    | succ nF ih5 =>
      intro x k i1 i2 i3 hm5
      refine w_iload (pc := 5) hC dX4_onRung_5 4 rfl ?_
      refine w_aload_n (pc := 7) hC dX4_onRung_7 0 rfl rfl ?_
      refine w_getf (pc := 8) (v := .int (J (F 30))) hC dX4_onRung_8 fi_X4_19 49 CW_49 rfl ?_
      refine w_icmp_ge (pc := 11) (tgt := 46) hC dX4_onRung_11 (by decide) (by omega) (fun c11 => ?_) (fun c11 => ?_)
      · refine w_lload_n (pc := 46) hC dX4_onRung_46 3 rfl rfl ?_
        refine w_lret (pc := 47) hC hRT dX4_onRung_47 ?_
        refine ⟨retL (by rw [i3, show k = (F 30) by omega]), rfl⟩
      · have hk := DOK_bd hn hD i1 (by omega)
        have hv := hD.2 k i1 (by omega)
        refine w_aload_n (pc := 14) hC dX4_onRung_14 0 rfl rfl ?_
        refine w_aload_n (pc := 15) hC dX4_onRung_15 0 rfl rfl ?_
        refine w_getf (pc := 16) (v := .ref (D 0)) hC dX4_onRung_16 fi_X4_11 49 CW_49 rfl ?_
        refine w_iload (pc := 19) hC dX4_onRung_19 4 rfl ?_
        refine w_ialdV (pc := 21) (g := (I 50)) (v := (I 50) k) hC dX4_onRung_21 50 CW_50 (by omega) (Nat.le_of_ble_eq_true rfl) rfl ?_
        refine w_iload_n (pc := 22) hC dX4_onRung_22 2 rfl rfl ?_
        refine w_callV (pc := 23) (As := [.int (J ((I 50) k)), .int (J rung)]) (rest := []) hC dX4_onRung_23 cv_X4_87 (c_X4_nameOn (kl K) G A D T I F Q P S (DBf (S 0) (I 50) k) ((I 50) k) rung (show RI S from by first | assumption | omega) (show LRn G.2.1 S I F Q P from by exact hL) (show ((I 50) k) = cv (S 0) (DBf (S 0) (I 50) k) from by exact hv.2) (show 0 ≤ rung ∧ rung < S 0 from by first | assumption | omega)) (by decide) ⟨Nat.le_of_ble_eq_true rfl, Nat.le_of_ble_eq_true rfl⟩ (q0 := 49) CW_49 rfl rfl rfl (Nat.le_of_ble_eq_true rfl) rfl (fun vo wo hv => ?_)
        obtain ⟨hv1, hw1⟩ := hv
        rw [hv1, hw1]
        show WW K G 0 0 (CW A D T G.2.1 I F Q P) 26 [(0, .ref (A 49)), (1, .int (J nm)), (2, .int (J rung)), (3, .long (JL x)), (5, .int (J k))] [.int (J (dg (DBf (S 0) (I 50) k) rung))]
        have q23_0 := dg7 (DBf (S 0) (I 50) k) rung
        refine w_iload_n (pc := 26) hC dX4_onRung_26 1 rfl rfl ?_
        refine w_icmp_ne (pc := 27) (tgt := 40) hC dX4_onRung_27 (by decide) (by omega) (fun c27 => ?_) (fun c27 => ?_)
        · refine w_iinc (pc := 40) hC dX4_onRung_40 (lv2 := [(5, .int (J (k + 1))), (0, .ref (A 49)), (1, .int (J nm)), (2, .int (J rung)), (3, .long (JL x))]) 4 rfl (by rw [hnL]; decide) rfl ?_
          refine w_goto (pc := 43) hC dX4_onRung_43 (tgt := 5) (by decide) ?_
          refine w_sub [1, 2, 3, 4, 0] (lv2 := [(0, .ref (A 49)), (1, .int (J nm)), (2, .int (J rung)), (3, .long (JL x)), (5, .int (J (k + 1)))]) rfl ?_
          refine ih5 x (k + 1) ?_ ?_ ?_ ?_
          · first | assumption | omega
          · first | assumption | omega
          · rw [isum_sI _ _ _ i1, i3]; first | rw [bI_t c27, Int.one_mul] | rw [bI_f c27, Int.zero_mul, Int.add_zero]
          · omega
        · refine w_lload_n (pc := 30) hC dX4_onRung_30 3 rfl rfl ?_
          refine w_aload_n (pc := 31) hC dX4_onRung_31 0 rfl rfl ?_
          refine w_getf (pc := 32) (v := .ref (D 1)) hC dX4_onRung_32 fi_X4_15 49 CW_49 rfl ?_
          refine w_iload (pc := 35) hC dX4_onRung_35 4 rfl ?_
          refine w_laldV (pc := 37) (g := (I 51)) (v := (I 51) k) hC dX4_onRung_37 51 CW_51 (by omega) (Nat.le_of_ble_eq_true rfl) rfl ?_
          refine w_ladd (pc := 38) hC dX4_onRung_38 ?_
          refine w_lstore_n (pc := 39) hC dX4_onRung_39 rfl (lv2 := [(3, .long (JL (x + ((I 51) k)))), (0, .ref (A 49)), (1, .int (J nm)), (2, .int (J rung)), (5, .int (J k))]) (by rw [hnL]; decide) rfl ?_
          refine w_iinc (pc := 40) hC dX4_onRung_40 (lv2 := [(5, .int (J (k + 1))), (3, .long (JL (x + ((I 51) k)))), (0, .ref (A 49)), (1, .int (J nm)), (2, .int (J rung))]) 4 rfl (by rw [hnL]; decide) rfl ?_
          refine w_goto (pc := 43) hC dX4_onRung_43 (tgt := 5) (by decide) ?_
          refine w_sub [2, 3, 4, 1, 0] (lv2 := [(0, .ref (A 49)), (1, .int (J nm)), (2, .int (J rung)), (3, .long (JL (x + ((I 51) k)))), (5, .int (J (k + 1)))]) rfl ?_
          refine ih5 (x + ((I 51) k)) (k + 1) ?_ ?_ ?_ ?_
          · first | assumption | omega
          · first | assumption | omega
          · rw [isum_sI _ _ _ i1, i3]; first | rw [bI_t c27, Int.one_mul] | rw [bI_f c27, Int.zero_mul, Int.add_zero]
          · omega
  refine w_sub [2, 3, 4, 1, 0] (lv2 := [(0, .ref (A 49)), (1, .int (J nm)), (2, .int (J rung)), (3, .long (JL 0)), (5, .int (J 0))]) rfl ?_
  refine loop5 (((F 30) - 0) + 1 : Int).toNat 0 0 ?_ ?_ ?_ ?_
  · first | assumption | omega
  · first | assumption | omega
  · rfl
  · omega
set_option maxRecDepth 100000 in
set_option maxHeartbeats 4000000 in
theorem c_X4_sumOfRungs (l : Launch) (G : GT) (A D : Nat → Nat) (T : Nat) (I : Nat → Int → Int) (F : Nat → Int) (Q : Nat → Nat → Option Nat) (P : va_W) (S : Int → Int) (nm : Int) (hR : RI S) (hL : LRn G.2.1 S I F Q P) (hD : DOK (S 0) (I 50) (I 51) (F 30)) (hnm : 0 ≤ nm ∧ nm < S 0) : CT l yX4_sumOfRungs cX4_sumOfRungs 5 (some .long) 2 0 0 G [.ref (A 49), .int (J nm)] (CW A D T G.2.1 I F Q P) (fun vo wo => vo = some (.long (JL (isum (fun b => rk (S 0) b nm) (DBf (S 0) (I 50)) (I 51) ((F 30) : Int).toNat))) ∧ wo = CW A D T G.2.1 I F Q P) := by
  refine CT_of (own := RX4) rfl rfl (Nat.le_of_ble_eq_true rfl) (fun K hl hnL hC hRT hin => ?_)
  subst hl
  show WW K G 0 0 (CW A D T G.2.1 I F Q P) 0 [(0, .ref (A 49)), (1, .int (J nm))] []
  have hn := hR.n
  have hbd := hR.bd
  refine w_lconst (pc := 0) hC dX4_sumOfRungs_0 (z := 0) rfl ?_
  refine w_lstore_n (pc := 1) hC dX4_sumOfRungs_1 rfl (lv2 := [(2, .long (JL 0)), (0, .ref (A 49)), (1, .int (J nm))]) (by rw [hnL]; decide) rfl ?_
  refine w_iconst (pc := 2) hC dX4_sumOfRungs_2 ?_
  refine w_istore (pc := 3) hC dX4_sumOfRungs_3 (lv2 := [(4, .int (J 1)), (2, .long (JL 0)), (0, .ref (A 49)), (1, .int (J nm))]) (by rw [hnL]; decide) rfl ?_
  have loop5 : ∀ (nF : Nat) (x : Int) (r : Int), (1 ≤ r) → (r ≤ S 0) → (x = isum (fun b => if rk (S 0) b nm < r then rk (S 0) b nm else 0) (DBf (S 0) (I 50)) (I 51) ((F 30) : Int).toNat) → (S 0 - r) < (nF : Int) → WW K G 0 0 (CW A D T G.2.1 I F Q P) 5 [(0, .ref (A 49)), (1, .int (J nm)), (2, .long (JL x)), (4, .int (J r))] [] := by
    intro nF
    induction nF with
    | zero => intro x r i1 i2 i3 hm5; exact absurd hm5 (by omega)
    | succ nF ih5 =>
      intro x r i1 i2 i3 hm5
      refine w_iload (pc := 5) hC dX4_sumOfRungs_5 3 rfl ?_
      refine w_aload_n (pc := 7) hC dX4_sumOfRungs_7 0 rfl rfl ?_
      refine w_getf (pc := 8) (v := .ref (A 1)) hC dX4_sumOfRungs_8 fi_X4_39 49 CW_49 rfl ?_
      refine w_getfN (pc := 11) (v := .int (J (S 0))) hC dX4_sumOfRungs_11 fn_X4_54 1 CW_1 (congrArg (fun z : Int => some (Value.int (J z))) (l_n hL)) ?_
      refine w_icmp_ge (pc := 14) (tgt := 37) hC dX4_sumOfRungs_14 (by decide) (by omega) (fun c14 => ?_) (fun c14 => ?_)
      · refine w_lload_n (pc := 37) hC dX4_sumOfRungs_37 2 rfl rfl ?_
        refine w_lret (pc := 38) hC hRT dX4_sumOfRungs_38 ?_
        refine ⟨retL (by rw [i3]; exact sor_n hD hnm (by omega)), rfl⟩
      · refine w_lload_n (pc := 17) hC dX4_sumOfRungs_17 2 rfl rfl ?_
        refine w_iload (pc := 18) hC dX4_sumOfRungs_18 3 rfl ?_
        refine w_i2l (pc := 20) hC dX4_sumOfRungs_20 (by omega) ?_
        refine w_aload_n (pc := 21) hC dX4_sumOfRungs_21 0 rfl rfl ?_
        refine w_iload_n (pc := 22) hC dX4_sumOfRungs_22 1 rfl rfl ?_
        refine w_iload (pc := 23) hC dX4_sumOfRungs_23 3 rfl ?_
        refine w_callV (pc := 25) (As := [.int (J nm), .int (J r)]) (rest := [.long (JL r), .long (JL x)]) hC dX4_sumOfRungs_25 cv_X4_91 (c_X4_onRung (kl K) G A D T I F Q P S nm r (show RI S from by first | assumption | omega) (show LRn G.2.1 S I F Q P from by exact hL) (show DOK (S 0) (I 50) (I 51) (F 30) from by first | assumption | omega) (show 0 ≤ r ∧ r < S 0 from by first | assumption | omega) (show -2147483648 ≤ nm ∧ nm < 2147483648 from by first | assumption | omega)) (by decide) ⟨Nat.le_of_ble_eq_true rfl, Nat.le_of_ble_eq_true rfl⟩ (q0 := 49) CW_49 rfl rfl rfl (Nat.le_of_ble_eq_true rfl) rfl (fun vo wo hv => ?_)
        obtain ⟨hv1, hw1⟩ := hv
        rw [hv1, hw1]
        show WW K G 0 0 (CW A D T G.2.1 I F Q P) 28 [(0, .ref (A 49)), (1, .int (J nm)), (2, .long (JL x)), (4, .int (J r))] [.long (JL (isum (fun b => bI (dg b r = nm)) (DBf (S 0) (I 50)) (I 51) ((F 30) : Int).toNat)), .long (JL r), .long (JL x)]
        refine w_lmul (pc := 28) hC dX4_sumOfRungs_28 ?_
        refine w_ladd (pc := 29) hC dX4_sumOfRungs_29 ?_
        refine w_lstore_n (pc := 30) hC dX4_sumOfRungs_30 rfl (lv2 := [(2, .long (JL (x + (r * (isum (fun b => bI (dg b r = nm)) (DBf (S 0) (I 50)) (I 51) ((F 30) : Int).toNat))))), (0, .ref (A 49)), (1, .int (J nm)), (4, .int (J r))]) (by rw [hnL]; decide) rfl ?_
        refine w_iinc (pc := 31) hC dX4_sumOfRungs_31 (lv2 := [(4, .int (J (r + 1))), (2, .long (JL (x + (r * (isum (fun b => bI (dg b r = nm)) (DBf (S 0) (I 50)) (I 51) ((F 30) : Int).toNat))))), (0, .ref (A 49)), (1, .int (J nm))]) 3 rfl (by rw [hnL]; decide) rfl ?_
        refine w_goto (pc := 34) hC dX4_sumOfRungs_34 (tgt := 5) (by decide) ?_
        refine w_sub [2, 3, 1, 0] (lv2 := [(0, .ref (A 49)), (1, .int (J nm)), (2, .long (JL (x + (r * (isum (fun b => bI (dg b r = nm)) (DBf (S 0) (I 50)) (I 51) ((F 30) : Int).toNat))))), (4, .int (J (r + 1)))]) rfl ?_
        refine ih5 (x + (r * (isum (fun b => bI (dg b r = nm)) (DBf (S 0) (I 50)) (I 51) ((F 30) : Int).toNat))) (r + 1) ?_ ?_ ?_ ?_
        · first | assumption | omega
        · first | assumption | omega
        · rw [sor_s hD hnm (by omega) c14, i3]
        · omega
  refine w_sub [2, 3, 1, 0] (lv2 := [(0, .ref (A 49)), (1, .int (J nm)), (2, .long (JL 0)), (4, .int (J 1))]) rfl ?_
  refine loop5 ((S 0 - 1) + 1 : Int).toNat 0 1 ?_ ?_ ?_ ?_
  · first | assumption | omega
  · first | assumption | omega
  · exact (sor_0 hD hnm).symm
  · omega
set_option maxRecDepth 100000 in
set_option maxHeartbeats 4000000 in
theorem c_X11_goBehind_v2 (l : Launch) (G : GT) (A D : Nat → Nat) (T : Nat) (I : Nat → Int → Int) (F : Nat → Int) (Q : Nat → Nat → Option Nat) (P : va_W) (S : Int → Int) (c : Int) (b : Int) (rf : Int) (qb : Nat) (n : Int) (ref : Int) (hR : RI S) (hL : LRn G.2.1 S I F Q P) (hc : 0 ≤ c ∧ c < S 1) (hcl : CLB P G.2.1 S c qb) (h0 : 0 < S 0) (hnn : 0 ≤ n ∧ n ≤ 6) (hV : VB (S 0) b) (hB : ∀ r : Int, 0 ≤ r → r < S 0 → (I 2) r = dg b r) (hrf : rf = -1 ∨ (0 ≤ rf ∧ rf < 6)) (href : ref = if rf = -1 then 0 else 2 ^ rf.toNat) : CT l yX11_goBehind cX11_goBehind 6 none 5 0 0 G [.ref (A 0), .ref qb, .int (J n), .ref (A 2), .int (J ref)] (CW A D T G.2.1 I F Q P) (fun vo wo => ∃ (D : Nat → Nat) (b23 : Int → Int) (b50 : Int → Int) (b51 : Int → Int) (b52 : Int → Int) (b53 : Int → Int) (b54 : Int → Int) (g30 : Int) (g31 : Int) (g32 : Int), vo = none ∧ wo = CW A D T G.2.1 (au (au (au (au (au (au I 23 b23) 50 b50) 51 b51) 52 b52) 53 b53) 54 b54) (fu (fu (fu F 30 g30) 31 g31) 32 g32) Q P ∧ (DOK (S 0) b50 b51 g30 ∧ (∀ f : Int → Int, isum f (DBf (S 0) b50) b51 (g30 : Int).toNat = EXP S c rf (-7) n.toNat f b) ∧ g32 = 100 ^ n.toNat ∧ isum one1 (DBf (S 0) b50) b51 (g30 : Int).toNat = g32)) := by
  refine CT_of (own := RX11) rfl rfl (Nat.le_of_ble_eq_true rfl) (fun K hl hnL hC hRT hin => ?_)
  subst hl
  show WW K G 0 0 (CW A D T G.2.1 I F Q P) 0 [(0, .ref (A 0)), (1, .ref qb), (2, .int (J n)), (3, .ref (A 2)), (4, .int (J ref))] []
  have hn := hR.n
  have hbd := hR.bd
  have htd := hR.td
  refine w_aload_n (pc := 0) hC dX11_goBehind_0 0 rfl rfl ?_
  refine w_getf (pc := 1) (v := .ref (A 49)) hC dX11_goBehind_1 fi_X11_41 0 CW_0 rfl ?_
  refine w_aload_n (pc := 4) hC dX11_goBehind_4 3 rfl rfl ?_
  refine w_callV (pc := 5) (As := [.ref (A 2)]) (rest := []) hC dX11_goBehind_5 cv_X11_295 (c_X4_startFrom_v2 (kl K) G A D T I F Q P S b (show RI S from by first | assumption | omega) (show LRn G.2.1 S I F Q P from by exact hL) (show VB (S 0) b from by first | assumption | omega) (show ∀ r : Int, 0 ≤ r → r < S 0 → (I 2) r = dg b r from by first | assumption | omega)) (by decide) ⟨Nat.le_of_ble_eq_true rfl, Nat.le_of_ble_eq_true rfl⟩ (q0 := 49) CW_49 rfl rfl rfl (Nat.le_of_ble_eq_true rfl) rfl (fun vo wo hv => ?_)
  obtain ⟨b50_5, b51_5, g30_5, hv1, hw1, r5⟩ := hv
  rw [hv1, hw1]
  show WW K G 0 0 (CW A D T G.2.1 (au (au I 50 b50_5) 51 b51_5) (fu (fu F 30 g30_5) 32 1) Q P) 8 [(0, .ref (A 0)), (1, .ref qb), (2, .int (J n)), (3, .ref (A 2)), (4, .int (J ref))] []
  have r5 : DOK (S 0) b50_5 b51_5 g30_5 ∧ (∀ f : Int → Int, isum f (DBf (S 0) b50_5) b51_5 (g30_5 : Int).toNat = f b) ∧ g30_5 = 1 := r5
  refine w_iconst (pc := 8) hC dX11_goBehind_8 ?_
  refine w_istore (pc := 9) hC dX11_goBehind_9 (lv2 := [(5, .int (J 0)), (0, .ref (A 0)), (1, .ref qb), (2, .int (J n)), (3, .ref (A 2)), (4, .int (J ref))]) (by rw [hnL]; decide) rfl ?_
  have loop11 : ∀ (nF : Nat) (k : Int) (D_11 : Nat → Nat) (a23_11 : Int → Int) (a50_11 : Int → Int) (a51_11 : Int → Int) (a52_11 : Int → Int) (a53_11 : Int → Int) (a54_11 : Int → Int) (f30_11 : Int) (f31_11 : Int) (f32_11 : Int), (0 ≤ k) → (k ≤ n) → (DOK (S 0) a50_11 a51_11 f30_11) → (∀ f : Int → Int, isum f (DBf (S 0) a50_11) a51_11 (f30_11 : Int).toNat = EXP S c rf (-7) k.toNat f b) → (f30_11 ≤ 2 ^ k.toNat) → (f32_11 = 100 ^ k.toNat) → (isum one1 (DBf (S 0) a50_11) a51_11 (f30_11 : Int).toNat = f32_11) → (n - k) < (nF : Int) → WW K G 0 0 (CW A D_11 T G.2.1 (au (au (au (au (au (au I 23 a23_11) 50 a50_11) 51 a51_11) 52 a52_11) 53 a53_11) 54 a54_11) (fu (fu (fu F 30 f30_11) 31 f31_11) 32 f32_11) Q P) 11 [(0, .ref (A 0)), (1, .ref qb), (2, .int (J n)), (4, .int (J ref)), (5, .int (J k))] [] := by
    intro nF
    induction nF with
    | zero => intro k D_11 a23_11 a50_11 a51_11 a52_11 a53_11 a54_11 f30_11 f31_11 f32_11 i1 i2 j1 j2 j3 j4 j5 hm11; exact absurd hm11 (by omega)
    | succ nF ih11 =>
      intro k D_11 a23_11 a50_11 a51_11 a52_11 a53_11 a54_11 f30_11 f31_11 f32_11 i1 i2 j1 j2 j3 j4 j5 hm11
      refine w_iload (pc := 11) hC dX11_goBehind_11 4 rfl ?_
      refine w_iload_n (pc := 13) hC dX11_goBehind_13 2 rfl rfl ?_
      refine w_icmp_ge (pc := 14) (tgt := 43) hC dX11_goBehind_14 (by decide) (by omega) (fun c14 => ?_) (fun c14 => ?_)
      · refine w_vret (pc := 43) hC hRT dX11_goBehind_43 ?_
        refine ⟨D_11, a23_11, a50_11, a51_11, a52_11, a53_11, a54_11, f30_11, f31_11, f32_11, rfl, rfl, ?_⟩
        · rw [show k = n by omega] at j2 j4
          exact ⟨j1, j2, j4, j5⟩
      · have p3 := p2_7 (k := k + 1) (by omega) (by omega)
        rw [p2_s i1] at p3
        have p4 := p100_7 (k := k + 1) (by omega) (by omega)
        rw [p100_s i1, ← j4] at p4
        have p5 := p100_7 i1 (by omega)
        rw [← j4] at p5
        refine w_aload_n (pc := 17) hC dX11_goBehind_17 0 rfl rfl ?_
        refine w_getf (pc := 18) (v := .ref (A 49)) hC dX11_goBehind_18 fi_X11_41 0 CW_0 rfl ?_
        refine w_aload_n (pc := 21) hC dX11_goBehind_21 1 rfl rfl ?_
        refine w_aload_n (pc := 22) hC dX11_goBehind_22 0 rfl rfl ?_
        refine w_getf (pc := 23) (v := .ref (A 1)) hC dX11_goBehind_23 fi_X11_12 0 CW_0 rfl ?_
        refine w_getfN (pc := 26) (v := .int (J (S 2))) hC dX11_goBehind_26 fn_X11_143 1 CW_1 (congrArg (fun z : Int => some (Value.int (J z))) (l_td hL)) ?_
        refine w_iload (pc := 29) hC dX11_goBehind_29 4 rfl ?_
        refine w_iadd (pc := 31) hC dX11_goBehind_31 ?_
        refine w_iload (pc := 32) hC dX11_goBehind_32 3 rfl ?_
        refine w_callV (pc := 34) (As := [.ref qb, .int (J ((S 2) + k)), .int (J ref)]) (rest := []) hC dX11_goBehind_34 cv_X11_298 (c_X4_goOn (kl K) G A D_11 T (au (au (au (au (au (au I 23 a23_11) 50 a50_11) 51 a51_11) 52 a52_11) 53 a53_11) 54 a54_11) (fu (fu (fu F 30 f30_11) 31 f31_11) 32 f32_11) Q P S c rf qb ((S 2) + k) ref (show RI S from by first | assumption | omega) (show LRn G.2.1 S (au (au (au (au (au (au I 23 a23_11) 50 a50_11) 51 a51_11) 52 a52_11) 53 a53_11) 54 a54_11) (fu (fu (fu F 30 f30_11) 31 f31_11) 32 f32_11) Q P from by exact (LRb_fu (by decide) (LRb_fu (by decide) (LRb_fu (by decide) (LRb_au (by decide) (LRb_au (by decide) (LRb_au (by decide) (LRb_au (by decide) (LRb_au (by decide) (LRb_au (by decide) hL)))))))))) (show 0 ≤ c ∧ c < S 1 from by first | assumption | omega) (show CLB P G.2.1 S c qb from by first | assumption | omega) (show 0 < S 0 from by first | assumption | omega) (show 0 ≤ ((S 2) + k) ∧ ((S 2) + k) ≤ 5000 from by first | assumption | omega) (show rf = -1 ∨ (0 ≤ rf ∧ rf < 6) from by first | assumption | omega) (show ref = if rf = -1 then 0 else 2 ^ rf.toNat from by first | assumption | omega) (show DOK (S 0) a50_11 a51_11 f30_11 from by exact j1) (show isum one1 (DBf (S 0) a50_11) a51_11 (f30_11 : Int).toNat = f32_11 from by exact j5) (show 1 ≤ f32_11 ∧ f32_11 ≤ 10000000000 from by first | assumption | omega) (show f30_11 ≤ 32 from by first | assumption | omega)) (by decide) ⟨Nat.le_of_ble_eq_true rfl, Nat.le_of_ble_eq_true rfl⟩ (q0 := 49) CW_49 rfl rfl rfl (Nat.le_of_ble_eq_true rfl) rfl (fun vo wo hv => ?_)
        obtain ⟨D_34, b23_34, b50_34, b51_34, b54_34, g30_34, hv1, hw1, r34⟩ := hv
        rw [hv1, hw1]
        refine w_weq (CW_cong (au_th (au_th (au_th (au_th (au_th (au_th rfl (au_cm (by decide) (au_cm (by decide) (au_cm (by decide) (au_cm (by decide) (au_cm (by decide) au_rp)))))) (au_cm (by decide) (au_cm (by decide) (au_cm (by decide) (au_cm (by decide) au_rp))))) (au_cm (by decide) (au_cm (by decide) (au_cm (by decide) au_rp)))) (au_cm (by decide) (au_cm (by decide) au_rp))) (au_cm (by decide) au_rp)) au_rp) (fu_th (fu_th (fu_th rfl (fu_cm (by decide) (fu_cm (by decide) fu_rp))) (fu_cm (by decide) fu_rp)) fu_rp) rfl) ?_
        show WW K G 0 0 (CW A D_34 T G.2.1 (au (au (au (au (au (au I 23 b23_34) 50 b50_34) 51 b51_34) 52 a50_11) 53 a51_11) 54 b54_34) (fu (fu (fu F 30 g30_34) 31 f30_11) 32 (f32_11 * 100)) Q P) 37 [(0, .ref (A 0)), (1, .ref qb), (2, .int (J n)), (4, .int (J ref)), (5, .int (J k))] []
        have r34 : DOK (S 0) b50_34 b51_34 g30_34 ∧ (∀ f : Int → Int, isum f (DBf (S 0) b50_34) b51_34 (g30_34 : Int).toNat = isum (STEP S c rf ((S 2) + k) (-7) f) (DBf (S 0) a50_11) a51_11 (f30_11 : Int).toNat) ∧ g30_34 ≤ 2 * f30_11 ∧ isum one1 (DBf (S 0) b50_34) b51_34 (g30_34 : Int).toNat = f32_11 * 100 := r34
        refine w_iinc (pc := 37) hC dX11_goBehind_37 (lv2 := [(5, .int (J (k + 1))), (0, .ref (A 0)), (1, .ref qb), (2, .int (J n)), (4, .int (J ref))]) 4 rfl (by rw [hnL]; decide) rfl ?_
        refine w_goto (pc := 40) hC dX11_goBehind_40 (tgt := 11) (by decide) ?_
        refine w_sub [1, 2, 3, 4, 0] (lv2 := [(0, .ref (A 0)), (1, .ref qb), (2, .int (J n)), (4, .int (J ref)), (5, .int (J (k + 1)))]) rfl ?_
        refine ih11 (k + 1) D_34 b23_34 b50_34 b51_34 a50_11 a51_11 b54_34 g30_34 f30_11 (f32_11 * 100) ?_ ?_ ?_ ?_ ?_ ?_ ?_ ?_
        · first | assumption | omega
        · first | assumption | omega
        · exact r34.1
        · intro f; rw [r34.2.1 f, j2, EXP_s S c rf (-7) f i1, ite_self]
        · rw [p2_s i1]; omega
        · rw [p100_s i1, j4]
        · exact r34.2.2.2
        · omega
  refine w_weq (CW_cong (au_ms (k := 23) (v := I 23) rfl (au_cm (by decide) (au_cm (by decide) rfl)) (au_ms (k := 52) (v := I 52) rfl rfl (au_ms (k := 53) (v := I 53) rfl rfl (au_ms (k := 54) (v := I 54) rfl rfl rfl)))) (fu_ms (k := 31) (v := F 31) rfl (fu_cm (by decide) rfl) rfl) rfl) ?_
  refine w_sub [1, 2, 3, 5, 0] (lv2 := [(0, .ref (A 0)), (1, .ref qb), (2, .int (J n)), (4, .int (J ref)), (5, .int (J 0))]) rfl ?_
  refine loop11 ((n - 0) + 1 : Int).toNat 0 D (I 23) b50_5 b51_5 (I 52) (I 53) (I 54) g30_5 (F 31) 1 ?_ ?_ ?_ ?_ ?_ ?_ ?_ ?_
  · first | assumption | omega
  · first | assumption | omega
  · exact r5.1
  · exact fun f => r5.2.1 f
  · show _ ≤ (1 : Int); omega
  · rfl
  · exact r5.2.1 one1
  · omega
set_option maxRecDepth 100000 in
set_option maxHeartbeats 4000000 in
theorem c_X11_goBehind_v58 (l : Launch) (G : GT) (A D : Nat → Nat) (T : Nat) (I : Nat → Int → Int) (F : Nat → Int) (Q : Nat → Nat → Option Nat) (P : va_W) (S : Int → Int) (c : Int) (b : Int) (rf : Int) (qb : Nat) (n : Int) (ref : Int) (hR : RI S) (hL : LRn G.2.1 S I F Q P) (hc : 0 ≤ c ∧ c < S 1) (hcl : CLB P G.2.1 S c qb) (h0 : 0 < S 0) (hnn : 0 ≤ n ∧ n ≤ 6) (hV : VB (S 0) b) (hB : ∀ r : Int, 0 ≤ r → r < S 0 → (I 58) r = dg b r) (hrf : rf = -1 ∨ (0 ≤ rf ∧ rf < 6)) (href : ref = if rf = -1 then 0 else 2 ^ rf.toNat) : CT l yX11_goBehind cX11_goBehind 6 none 5 0 0 G [.ref (A 0), .ref qb, .int (J n), .ref (A 58), .int (J ref)] (CW A D T G.2.1 I F Q P) (fun vo wo => ∃ (D : Nat → Nat) (b23 : Int → Int) (b50 : Int → Int) (b51 : Int → Int) (b52 : Int → Int) (b53 : Int → Int) (b54 : Int → Int) (g30 : Int) (g31 : Int) (g32 : Int), vo = none ∧ wo = CW A D T G.2.1 (au (au (au (au (au (au I 23 b23) 50 b50) 51 b51) 52 b52) 53 b53) 54 b54) (fu (fu (fu F 30 g30) 31 g31) 32 g32) Q P ∧ (DOK (S 0) b50 b51 g30 ∧ (∀ f : Int → Int, isum f (DBf (S 0) b50) b51 (g30 : Int).toNat = EXP S c rf (-7) n.toNat f b) ∧ g32 = 100 ^ n.toNat ∧ isum one1 (DBf (S 0) b50) b51 (g30 : Int).toNat = g32)) := by
  refine CT_of (own := RX11) rfl rfl (Nat.le_of_ble_eq_true rfl) (fun K hl hnL hC hRT hin => ?_)
  subst hl
  show WW K G 0 0 (CW A D T G.2.1 I F Q P) 0 [(0, .ref (A 0)), (1, .ref qb), (2, .int (J n)), (3, .ref (A 58)), (4, .int (J ref))] []
  have hn := hR.n
  have hbd := hR.bd
  have htd := hR.td
  refine w_aload_n (pc := 0) hC dX11_goBehind_0 0 rfl rfl ?_
  refine w_getf (pc := 1) (v := .ref (A 49)) hC dX11_goBehind_1 fi_X11_41 0 CW_0 rfl ?_
  refine w_aload_n (pc := 4) hC dX11_goBehind_4 3 rfl rfl ?_
  refine w_callV (pc := 5) (As := [.ref (A 58)]) (rest := []) hC dX11_goBehind_5 cv_X11_295 (c_X4_startFrom_v58 (kl K) G A D T I F Q P S b (show RI S from by first | assumption | omega) (show LRn G.2.1 S I F Q P from by exact hL) (show VB (S 0) b from by first | assumption | omega) (show ∀ r : Int, 0 ≤ r → r < S 0 → (I 58) r = dg b r from by first | assumption | omega)) (by decide) ⟨Nat.le_of_ble_eq_true rfl, Nat.le_of_ble_eq_true rfl⟩ (q0 := 49) CW_49 rfl rfl rfl (Nat.le_of_ble_eq_true rfl) rfl (fun vo wo hv => ?_)
  obtain ⟨b50_5, b51_5, g30_5, hv1, hw1, r5⟩ := hv
  rw [hv1, hw1]
  show WW K G 0 0 (CW A D T G.2.1 (au (au I 50 b50_5) 51 b51_5) (fu (fu F 30 g30_5) 32 1) Q P) 8 [(0, .ref (A 0)), (1, .ref qb), (2, .int (J n)), (3, .ref (A 58)), (4, .int (J ref))] []
  have r5 : DOK (S 0) b50_5 b51_5 g30_5 ∧ (∀ f : Int → Int, isum f (DBf (S 0) b50_5) b51_5 (g30_5 : Int).toNat = f b) ∧ g30_5 = 1 := r5
  refine w_iconst (pc := 8) hC dX11_goBehind_8 ?_
  refine w_istore (pc := 9) hC dX11_goBehind_9 (lv2 := [(5, .int (J 0)), (0, .ref (A 0)), (1, .ref qb), (2, .int (J n)), (3, .ref (A 58)), (4, .int (J ref))]) (by rw [hnL]; decide) rfl ?_
  have loop11 : ∀ (nF : Nat) (k : Int) (D_11 : Nat → Nat) (a23_11 : Int → Int) (a50_11 : Int → Int) (a51_11 : Int → Int) (a52_11 : Int → Int) (a53_11 : Int → Int) (a54_11 : Int → Int) (f30_11 : Int) (f31_11 : Int) (f32_11 : Int), (0 ≤ k) → (k ≤ n) → (DOK (S 0) a50_11 a51_11 f30_11) → (∀ f : Int → Int, isum f (DBf (S 0) a50_11) a51_11 (f30_11 : Int).toNat = EXP S c rf (-7) k.toNat f b) → (f30_11 ≤ 2 ^ k.toNat) → (f32_11 = 100 ^ k.toNat) → (isum one1 (DBf (S 0) a50_11) a51_11 (f30_11 : Int).toNat = f32_11) → (n - k) < (nF : Int) → WW K G 0 0 (CW A D_11 T G.2.1 (au (au (au (au (au (au I 23 a23_11) 50 a50_11) 51 a51_11) 52 a52_11) 53 a53_11) 54 a54_11) (fu (fu (fu F 30 f30_11) 31 f31_11) 32 f32_11) Q P) 11 [(0, .ref (A 0)), (1, .ref qb), (2, .int (J n)), (4, .int (J ref)), (5, .int (J k))] [] := by
    intro nF
    induction nF with
    | zero => intro k D_11 a23_11 a50_11 a51_11 a52_11 a53_11 a54_11 f30_11 f31_11 f32_11 i1 i2 j1 j2 j3 j4 j5 hm11; exact absurd hm11 (by omega)
    | succ nF ih11 =>
      intro k D_11 a23_11 a50_11 a51_11 a52_11 a53_11 a54_11 f30_11 f31_11 f32_11 i1 i2 j1 j2 j3 j4 j5 hm11
      refine w_iload (pc := 11) hC dX11_goBehind_11 4 rfl ?_
      refine w_iload_n (pc := 13) hC dX11_goBehind_13 2 rfl rfl ?_
      refine w_icmp_ge (pc := 14) (tgt := 43) hC dX11_goBehind_14 (by decide) (by omega) (fun c14 => ?_) (fun c14 => ?_)
      · refine w_vret (pc := 43) hC hRT dX11_goBehind_43 ?_
        refine ⟨D_11, a23_11, a50_11, a51_11, a52_11, a53_11, a54_11, f30_11, f31_11, f32_11, rfl, rfl, ?_⟩
        · rw [show k = n by omega] at j2 j4
          exact ⟨j1, j2, j4, j5⟩
      · have p3 := p2_7 (k := k + 1) (by omega) (by omega)
        rw [p2_s i1] at p3
        have p4 := p100_7 (k := k + 1) (by omega) (by omega)
        rw [p100_s i1, ← j4] at p4
        have p5 := p100_7 i1 (by omega)
        rw [← j4] at p5
        refine w_aload_n (pc := 17) hC dX11_goBehind_17 0 rfl rfl ?_
        refine w_getf (pc := 18) (v := .ref (A 49)) hC dX11_goBehind_18 fi_X11_41 0 CW_0 rfl ?_
        refine w_aload_n (pc := 21) hC dX11_goBehind_21 1 rfl rfl ?_
        refine w_aload_n (pc := 22) hC dX11_goBehind_22 0 rfl rfl ?_
        refine w_getf (pc := 23) (v := .ref (A 1)) hC dX11_goBehind_23 fi_X11_12 0 CW_0 rfl ?_
        refine w_getfN (pc := 26) (v := .int (J (S 2))) hC dX11_goBehind_26 fn_X11_143 1 CW_1 (congrArg (fun z : Int => some (Value.int (J z))) (l_td hL)) ?_
        refine w_iload (pc := 29) hC dX11_goBehind_29 4 rfl ?_
        refine w_iadd (pc := 31) hC dX11_goBehind_31 ?_
        refine w_iload (pc := 32) hC dX11_goBehind_32 3 rfl ?_
        refine w_callV (pc := 34) (As := [.ref qb, .int (J ((S 2) + k)), .int (J ref)]) (rest := []) hC dX11_goBehind_34 cv_X11_298 (c_X4_goOn (kl K) G A D_11 T (au (au (au (au (au (au I 23 a23_11) 50 a50_11) 51 a51_11) 52 a52_11) 53 a53_11) 54 a54_11) (fu (fu (fu F 30 f30_11) 31 f31_11) 32 f32_11) Q P S c rf qb ((S 2) + k) ref (show RI S from by first | assumption | omega) (show LRn G.2.1 S (au (au (au (au (au (au I 23 a23_11) 50 a50_11) 51 a51_11) 52 a52_11) 53 a53_11) 54 a54_11) (fu (fu (fu F 30 f30_11) 31 f31_11) 32 f32_11) Q P from by exact (LRb_fu (by decide) (LRb_fu (by decide) (LRb_fu (by decide) (LRb_au (by decide) (LRb_au (by decide) (LRb_au (by decide) (LRb_au (by decide) (LRb_au (by decide) (LRb_au (by decide) hL)))))))))) (show 0 ≤ c ∧ c < S 1 from by first | assumption | omega) (show CLB P G.2.1 S c qb from by first | assumption | omega) (show 0 < S 0 from by first | assumption | omega) (show 0 ≤ ((S 2) + k) ∧ ((S 2) + k) ≤ 5000 from by first | assumption | omega) (show rf = -1 ∨ (0 ≤ rf ∧ rf < 6) from by first | assumption | omega) (show ref = if rf = -1 then 0 else 2 ^ rf.toNat from by first | assumption | omega) (show DOK (S 0) a50_11 a51_11 f30_11 from by exact j1) (show isum one1 (DBf (S 0) a50_11) a51_11 (f30_11 : Int).toNat = f32_11 from by exact j5) (show 1 ≤ f32_11 ∧ f32_11 ≤ 10000000000 from by first | assumption | omega) (show f30_11 ≤ 32 from by first | assumption | omega)) (by decide) ⟨Nat.le_of_ble_eq_true rfl, Nat.le_of_ble_eq_true rfl⟩ (q0 := 49) CW_49 rfl rfl rfl (Nat.le_of_ble_eq_true rfl) rfl (fun vo wo hv => ?_)
        obtain ⟨D_34, b23_34, b50_34, b51_34, b54_34, g30_34, hv1, hw1, r34⟩ := hv
        rw [hv1, hw1]
        refine w_weq (CW_cong (au_th (au_th (au_th (au_th (au_th (au_th rfl (au_cm (by decide) (au_cm (by decide) (au_cm (by decide) (au_cm (by decide) (au_cm (by decide) au_rp)))))) (au_cm (by decide) (au_cm (by decide) (au_cm (by decide) (au_cm (by decide) au_rp))))) (au_cm (by decide) (au_cm (by decide) (au_cm (by decide) au_rp)))) (au_cm (by decide) (au_cm (by decide) au_rp))) (au_cm (by decide) au_rp)) au_rp) (fu_th (fu_th (fu_th rfl (fu_cm (by decide) (fu_cm (by decide) fu_rp))) (fu_cm (by decide) fu_rp)) fu_rp) rfl) ?_
        show WW K G 0 0 (CW A D_34 T G.2.1 (au (au (au (au (au (au I 23 b23_34) 50 b50_34) 51 b51_34) 52 a50_11) 53 a51_11) 54 b54_34) (fu (fu (fu F 30 g30_34) 31 f30_11) 32 (f32_11 * 100)) Q P) 37 [(0, .ref (A 0)), (1, .ref qb), (2, .int (J n)), (4, .int (J ref)), (5, .int (J k))] []
        have r34 : DOK (S 0) b50_34 b51_34 g30_34 ∧ (∀ f : Int → Int, isum f (DBf (S 0) b50_34) b51_34 (g30_34 : Int).toNat = isum (STEP S c rf ((S 2) + k) (-7) f) (DBf (S 0) a50_11) a51_11 (f30_11 : Int).toNat) ∧ g30_34 ≤ 2 * f30_11 ∧ isum one1 (DBf (S 0) b50_34) b51_34 (g30_34 : Int).toNat = f32_11 * 100 := r34
        refine w_iinc (pc := 37) hC dX11_goBehind_37 (lv2 := [(5, .int (J (k + 1))), (0, .ref (A 0)), (1, .ref qb), (2, .int (J n)), (4, .int (J ref))]) 4 rfl (by rw [hnL]; decide) rfl ?_
        refine w_goto (pc := 40) hC dX11_goBehind_40 (tgt := 11) (by decide) ?_
        refine w_sub [1, 2, 3, 4, 0] (lv2 := [(0, .ref (A 0)), (1, .ref qb), (2, .int (J n)), (4, .int (J ref)), (5, .int (J (k + 1)))]) rfl ?_
        refine ih11 (k + 1) D_34 b23_34 b50_34 b51_34 a50_11 a51_11 b54_34 g30_34 f30_11 (f32_11 * 100) ?_ ?_ ?_ ?_ ?_ ?_ ?_ ?_
        · first | assumption | omega
        · first | assumption | omega
        · exact r34.1
        · intro f; rw [r34.2.1 f, j2, EXP_s S c rf (-7) f i1, ite_self]
        · rw [p2_s i1]; omega
        · rw [p100_s i1, j4]
        · exact r34.2.2.2
        · omega
  refine w_weq (CW_cong (au_ms (k := 23) (v := I 23) rfl (au_cm (by decide) (au_cm (by decide) rfl)) (au_ms (k := 52) (v := I 52) rfl rfl (au_ms (k := 53) (v := I 53) rfl rfl (au_ms (k := 54) (v := I 54) rfl rfl rfl)))) (fu_ms (k := 31) (v := F 31) rfl (fu_cm (by decide) rfl) rfl) rfl) ?_
  refine w_sub [1, 2, 3, 5, 0] (lv2 := [(0, .ref (A 0)), (1, .ref qb), (2, .int (J n)), (4, .int (J ref)), (5, .int (J 0))]) rfl ?_
  refine loop11 ((n - 0) + 1 : Int).toNat 0 D (I 23) b50_5 b51_5 (I 52) (I 53) (I 54) g30_5 (F 31) 1 ?_ ?_ ?_ ?_ ?_ ?_ ?_ ?_
  · first | assumption | omega
  · first | assumption | omega
  · exact r5.1
  · exact fun f => r5.2.1 f
  · show _ ≤ (1 : Int); omega
  · rfl
  · exact r5.2.1 one1
  · omega
set_option maxRecDepth 100000 in
set_option maxHeartbeats 4000000 in
theorem c_X11_rungsHavingAsked (l : Launch) (G : GT) (A D : Nat → Nat) (T : Nat) (I : Nat → Int → Int) (F : Nat → Int) (Q : Nat → Nat → Option Nat) (P : va_W) (S : Int → Int) (c : Int) (qb : Nat) (n : Int) (nm : Int) (wm : Int) (hR : RI S) (hL : LRn G.2.1 S I F Q P) (hc : 0 ≤ c ∧ c < S 1) (hcl : CLB P G.2.1 S c qb) (h0 : 0 < S 0) (hnn : 1 ≤ n ∧ n ≤ 6) (hnm : 0 ≤ nm ∧ nm < S 0) (hwm : wm = -5 ∨ ((0 ≤ wm ∧ wm < S 0) ∧ rk (S 0) (S 6) wm < S 0 - 1 - S 2 % S 0)) : CT l yX11_rungsHavingAsked cX11_rungsHavingAsked 6 (some .long) 5 0 0 G [.ref (A 0), .ref qb, .int (J n), .int (J nm), .int (J wm)] (CW A D T G.2.1 I F Q P) (fun vo wo => ∃ (D : Nat → Nat) (b23 : Int → Int) (b50 : Int → Int) (b51 : Int → Int) (b52 : Int → Int) (b53 : Int → Int) (b54 : Int → Int) (g30 : Int) (g31 : Int) (g32 : Int), vo = some (.long (JL (EXP S c (-1) wm n.toNat (fun b => rk (S 0) b nm) (S 6)))) ∧ wo = CW A D T G.2.1 (au (au (au (au (au (au I 23 b23) 50 b50) 51 b51) 52 b52) 53 b53) 54 b54) (fu (fu (fu F 30 g30) 31 g31) 32 g32) Q P ∧ (0 ≤ EXP S c (-1) wm n.toNat (fun b => rk (S 0) b nm) (S 6) ∧ EXP S c (-1) wm n.toNat (fun b => rk (S 0) b nm) (S 6) ≤ 6000000000000)) := by
  refine CT_of (own := RX11) rfl rfl (Nat.le_of_ble_eq_true rfl) (fun K hl hnL hC hRT hin => ?_)
  subst hl
  show WW K G 0 0 (CW A D T G.2.1 I F Q P) 0 [(0, .ref (A 0)), (1, .ref qb), (2, .int (J n)), (3, .int (J nm)), (4, .int (J wm))] []
  have hn := hR.n
  have hbd := hR.bd
  have htd := hR.td
  refine w_aload_n (pc := 0) hC dX11_rungsHavingAsked_0 0 rfl rfl ?_
  refine w_getf (pc := 1) (v := .ref (A 49)) hC dX11_rungsHavingAsked_1 fi_X11_41 0 CW_0 rfl ?_
  refine w_aload_n (pc := 4) hC dX11_rungsHavingAsked_4 0 rfl rfl ?_
  refine w_getf (pc := 5) (v := .ref (A 1)) hC dX11_rungsHavingAsked_5 fi_X11_12 0 CW_0 rfl ?_
  refine w_getfN (pc := 8) (v := .ref (A 2)) hC dX11_rungsHavingAsked_8 fn_X11_61 1 CW_1 rfl ?_
  refine w_callV (pc := 11) (As := [.ref (A 2)]) (rest := []) hC dX11_rungsHavingAsked_11 cv_X11_295 (c_X4_startFrom_v2 (kl K) G A D T I F Q P S (S 6) (show RI S from by first | assumption | omega) (show LRn G.2.1 S I F Q P from by exact hL) (show VB (S 0) (S 6) from by exact hR.bd) (show ∀ r : Int, 0 ≤ r → r < S 0 → (I 2) r = dg (S 6) r from by exact fun r r0 r1 => l_bd hL r0 r1)) (by decide) ⟨Nat.le_of_ble_eq_true rfl, Nat.le_of_ble_eq_true rfl⟩ (q0 := 49) CW_49 rfl rfl rfl (Nat.le_of_ble_eq_true rfl) rfl (fun vo wo hv => ?_)
  obtain ⟨b50_11, b51_11, g30_11, hv1, hw1, r11⟩ := hv
  rw [hv1, hw1]
  show WW K G 0 0 (CW A D T G.2.1 (au (au I 50 b50_11) 51 b51_11) (fu (fu F 30 g30_11) 32 1) Q P) 14 [(0, .ref (A 0)), (1, .ref qb), (2, .int (J n)), (3, .int (J nm)), (4, .int (J wm))] []
  have r11 : DOK (S 0) b50_11 b51_11 g30_11 ∧ (∀ f : Int → Int, isum f (DBf (S 0) b50_11) b51_11 (g30_11 : Int).toNat = f (S 6)) ∧ g30_11 = 1 := r11
  have e1 := r11.2.1
  rw [r11.2.2] at e1
  have e0 := st_0 e1
  refine w_aload_n (pc := 14) hC dX11_rungsHavingAsked_14 0 rfl rfl ?_
  refine w_getf (pc := 15) (v := .ref (A 49)) hC dX11_rungsHavingAsked_15 fi_X11_41 0 CW_0 rfl ?_
  refine w_aload_n (pc := 18) hC dX11_rungsHavingAsked_18 1 rfl rfl ?_
  refine w_aload_n (pc := 19) hC dX11_rungsHavingAsked_19 0 rfl rfl ?_
  refine w_getf (pc := 20) (v := .ref (A 1)) hC dX11_rungsHavingAsked_20 fi_X11_12 0 CW_0 rfl ?_
  refine w_getfN (pc := 23) (v := .int (J (S 2))) hC dX11_rungsHavingAsked_23 fn_X11_143 1 CW_1 (congrArg (fun z : Int => some (Value.int (J z))) (l_td hL)) ?_
  refine w_iload (pc := 26) hC dX11_rungsHavingAsked_26 4 rfl ?_
  refine w_callV (pc := 28) (As := [.ref qb, .int (J (S 2)), .int (J wm)]) (rest := []) hC dX11_rungsHavingAsked_28 cv_X11_302 (c_X4_goOnAsking (kl K) G A D T (au (au I 50 b50_11) 51 b51_11) (fu (fu F 30 g30_11) 32 1) Q P S c (-1) qb (S 2) wm (show RI S from by first | assumption | omega) (show LRn G.2.1 S (au (au I 50 b50_11) 51 b51_11) (fu (fu F 30 g30_11) 32 1) Q P from by exact (LRb_fu (by decide) (LRb_fu (by decide) (LRb_au (by decide) (LRb_au (by decide) hL))))) (show 0 ≤ c ∧ c < S 1 from by first | assumption | omega) (show CLB P G.2.1 S c qb from by first | assumption | omega) (show 0 < S 0 from by first | assumption | omega) (show 0 ≤ (S 2) ∧ (S 2) ≤ 5000 from by first | assumption | omega) (show wm = -5 ∨ ((0 ≤ wm ∧ wm < S 0) ∧ rk (S 0) (DBf (S 0) b50_11 0) wm < S 0 - 1 - (S 2) % S 0) from by rw [e0]; exact hwm) (show DOK (S 0) b50_11 b51_11 g30_11 from by exact r11.1) (show isum one1 (DBf (S 0) b50_11) b51_11 (g30_11 : Int).toNat = 1 from by exact r11.2.1 one1) (show 1 ≤ 1 ∧ 1 ≤ 10000000000 from by omega) (show g30_11 = 1 from by exact r11.2.2)) (by decide) ⟨Nat.le_of_ble_eq_true rfl, Nat.le_of_ble_eq_true rfl⟩ (q0 := 49) CW_49 rfl rfl rfl (Nat.le_of_ble_eq_true rfl) rfl (fun vo wo hv => ?_)
  obtain ⟨D_28, b23_28, b50_28, b51_28, b54_28, g30_28, hv1, hw1, r28⟩ := hv
  rw [hv1, hw1]
  refine w_weq (CW_cong (au_th (au_th (au_th (au_th (au_th (au_th rfl (au_cm (by decide) (au_cm (by decide) rfl))) (au_cm (by decide) au_rp)) au_rp) rfl) rfl) rfl) (fu_th (fu_th (fu_th rfl (fu_cm (by decide) fu_rp)) (fu_cm (by decide) rfl)) fu_rp) rfl) ?_
  show WW K G 0 0 (CW A D_28 T G.2.1 (au (au (au (au (au (au I 23 b23_28) 50 b50_28) 51 b51_28) 52 b50_11) 53 b51_11) 54 b54_28) (fu (fu (fu F 30 g30_28) 31 g30_11) 32 (1 * 100)) Q P) 31 [(0, .ref (A 0)), (1, .ref qb), (2, .int (J n)), (3, .int (J nm)), (4, .int (J wm))] []
  have r28 : DOK (S 0) b50_28 b51_28 g30_28 ∧ (∀ f : Int → Int, isum f (DBf (S 0) b50_28) b51_28 (g30_28 : Int).toNat = isum (STEP S c (-1) (S 2) wm f) (DBf (S 0) b50_11) b51_11 (g30_11 : Int).toNat) ∧ g30_28 ≤ 2 * g30_11 ∧ isum one1 (DBf (S 0) b50_28) b51_28 (g30_28 : Int).toNat = 1 * 100 := r28
  refine w_iconst (pc := 31) hC dX11_rungsHavingAsked_31 ?_
  refine w_istore (pc := 32) hC dX11_rungsHavingAsked_32 (lv2 := [(5, .int (J 1)), (0, .ref (A 0)), (1, .ref qb), (2, .int (J n)), (3, .int (J nm)), (4, .int (J wm))]) (by rw [hnL]; decide) rfl ?_
  have loop34 : ∀ (nF : Nat) (k : Int) (D_34 : Nat → Nat) (a23_34 : Int → Int) (a50_34 : Int → Int) (a51_34 : Int → Int) (a52_34 : Int → Int) (a53_34 : Int → Int) (a54_34 : Int → Int) (f30_34 : Int) (f31_34 : Int) (f32_34 : Int), (1 ≤ k) → (k ≤ n) → (DOK (S 0) a50_34 a51_34 f30_34) → (∀ f : Int → Int, isum f (DBf (S 0) a50_34) a51_34 (f30_34 : Int).toNat = EXP S c (-1) wm k.toNat f (S 6)) → (f30_34 ≤ 2 ^ k.toNat) → (f32_34 = 100 ^ k.toNat) → (isum one1 (DBf (S 0) a50_34) a51_34 (f30_34 : Int).toNat = f32_34) → (n - k) < (nF : Int) → WW K G 0 0 (CW A D_34 T G.2.1 (au (au (au (au (au (au I 23 a23_34) 50 a50_34) 51 a51_34) 52 a52_34) 53 a53_34) 54 a54_34) (fu (fu (fu F 30 f30_34) 31 f31_34) 32 f32_34) Q P) 34 [(0, .ref (A 0)), (1, .ref qb), (2, .int (J n)), (3, .int (J nm)), (5, .int (J k))] [] := by
    intro nF
    induction nF with
    | zero => intro k D_34 a23_34 a50_34 a51_34 a52_34 a53_34 a54_34 f30_34 f31_34 f32_34 i1 i2 j1 j2 j3 j4 j5 hm34; exact absurd hm34 (by omega)
    | succ nF ih34 =>
      intro k D_34 a23_34 a50_34 a51_34 a52_34 a53_34 a54_34 f30_34 f31_34 f32_34 i1 i2 j1 j2 j3 j4 j5 hm34
      refine w_iload (pc := 34) hC dX11_rungsHavingAsked_34 4 rfl ?_
      refine w_iload_n (pc := 36) hC dX11_rungsHavingAsked_36 2 rfl rfl ?_
      refine w_icmp_ge (pc := 37) (tgt := 65) hC dX11_rungsHavingAsked_37 (by decide) (by omega) (fun c37 => ?_) (fun c37 => ?_)
      · refine w_aload_n (pc := 65) hC dX11_rungsHavingAsked_65 0 rfl rfl ?_
        refine w_getf (pc := 66) (v := .ref (A 49)) hC dX11_rungsHavingAsked_66 fi_X11_41 0 CW_0 rfl ?_
        refine w_iload_n (pc := 69) hC dX11_rungsHavingAsked_69 3 rfl rfl ?_
        refine w_callV (pc := 70) (As := [.int (J nm)]) (rest := []) hC dX11_rungsHavingAsked_70 cv_X11_183 (c_X4_sumOfRungs (kl K) G A D_34 T (au (au (au (au (au (au I 23 a23_34) 50 a50_34) 51 a51_34) 52 a52_34) 53 a53_34) 54 a54_34) (fu (fu (fu F 30 f30_34) 31 f31_34) 32 f32_34) Q P S nm (show RI S from by first | assumption | omega) (show LRn G.2.1 S (au (au (au (au (au (au I 23 a23_34) 50 a50_34) 51 a51_34) 52 a52_34) 53 a53_34) 54 a54_34) (fu (fu (fu F 30 f30_34) 31 f31_34) 32 f32_34) Q P from by exact (LRb_fu (by decide) (LRb_fu (by decide) (LRb_fu (by decide) (LRb_au (by decide) (LRb_au (by decide) (LRb_au (by decide) (LRb_au (by decide) (LRb_au (by decide) (LRb_au (by decide) hL)))))))))) (show DOK (S 0) a50_34 a51_34 f30_34 from by first | assumption | omega) (show 0 ≤ nm ∧ nm < S 0 from by first | assumption | omega)) (by decide) ⟨Nat.le_of_ble_eq_true rfl, Nat.le_of_ble_eq_true rfl⟩ (q0 := 49) CW_49 rfl rfl rfl (Nat.le_of_ble_eq_true rfl) rfl (fun vo wo hv => ?_)
        obtain ⟨hv1, hw1⟩ := hv
        rw [hv1, hw1]
        show WW K G 0 0 (CW A D_34 T G.2.1 (au (au (au (au (au (au I 23 a23_34) 50 a50_34) 51 a51_34) 52 a52_34) 53 a53_34) 54 a54_34) (fu (fu (fu F 30 f30_34) 31 f31_34) 32 f32_34) Q P) 73 [(0, .ref (A 0)), (1, .ref qb), (2, .int (J n)), (3, .int (J nm)), (5, .int (J k))] [.long (JL (isum (fun b => rk (S 0) b nm) (DBf (S 0) a50_34) a51_34 (f30_34 : Int).toNat))]
        refine w_lret (pc := 73) hC hRT dX11_rungsHavingAsked_73 ?_
        refine ⟨D_34, a23_34, a50_34, a51_34, a52_34, a53_34, a54_34, f30_34, f31_34, f32_34, retL (by rw [j2, show k = n by omega]), rfl, ?_⟩
        · have hb := is_rk (a := nm) j1 hnm
          rw [j2, j5, j4] at hb
          have p5 := p100_7 (k := k) (by omega) (by omega)
          rw [← show k = n by omega]
          omega
      · have p3 := p2_7 (k := k + 1) (by omega) (by omega)
        rw [p2_s (by omega)] at p3
        have p4 := p100_7 (k := k + 1) (by omega) (by omega)
        rw [p100_s (by omega), ← j4] at p4
        have p5 := p100_7 (k := k) (by omega) (by omega)
        rw [← j4] at p5
        refine w_aload_n (pc := 40) hC dX11_rungsHavingAsked_40 0 rfl rfl ?_
        refine w_getf (pc := 41) (v := .ref (A 49)) hC dX11_rungsHavingAsked_41 fi_X11_41 0 CW_0 rfl ?_
        refine w_aload_n (pc := 44) hC dX11_rungsHavingAsked_44 1 rfl rfl ?_
        refine w_aload_n (pc := 45) hC dX11_rungsHavingAsked_45 0 rfl rfl ?_
        refine w_getf (pc := 46) (v := .ref (A 1)) hC dX11_rungsHavingAsked_46 fi_X11_12 0 CW_0 rfl ?_
        refine w_getfN (pc := 49) (v := .int (J (S 2))) hC dX11_rungsHavingAsked_49 fn_X11_143 1 CW_1 (congrArg (fun z : Int => some (Value.int (J z))) (l_td hL)) ?_
        refine w_iload (pc := 52) hC dX11_rungsHavingAsked_52 4 rfl ?_
        refine w_iadd (pc := 54) hC dX11_rungsHavingAsked_54 ?_
        refine w_iconst (pc := 55) hC dX11_rungsHavingAsked_55 ?_
        refine w_callV (pc := 56) (As := [.ref qb, .int (J ((S 2) + k)), .int (J 0)]) (rest := []) hC dX11_rungsHavingAsked_56 cv_X11_298 (c_X4_goOn (kl K) G A D_34 T (au (au (au (au (au (au I 23 a23_34) 50 a50_34) 51 a51_34) 52 a52_34) 53 a53_34) 54 a54_34) (fu (fu (fu F 30 f30_34) 31 f31_34) 32 f32_34) Q P S c (-1) qb ((S 2) + k) 0 (show RI S from by first | assumption | omega) (show LRn G.2.1 S (au (au (au (au (au (au I 23 a23_34) 50 a50_34) 51 a51_34) 52 a52_34) 53 a53_34) 54 a54_34) (fu (fu (fu F 30 f30_34) 31 f31_34) 32 f32_34) Q P from by exact (LRb_fu (by decide) (LRb_fu (by decide) (LRb_fu (by decide) (LRb_au (by decide) (LRb_au (by decide) (LRb_au (by decide) (LRb_au (by decide) (LRb_au (by decide) (LRb_au (by decide) hL)))))))))) (show 0 ≤ c ∧ c < S 1 from by first | assumption | omega) (show CLB P G.2.1 S c qb from by first | assumption | omega) (show 0 < S 0 from by first | assumption | omega) (show 0 ≤ ((S 2) + k) ∧ ((S 2) + k) ≤ 5000 from by first | assumption | omega) (show (-1) = -1 ∨ (0 ≤ (-1) ∧ (-1) < 6) from by exact Or.inl rfl) (show 0 = if (-1) = -1 then 0 else 2 ^ ((-1) : Int).toNat from by rfl) (show DOK (S 0) a50_34 a51_34 f30_34 from by exact j1) (show isum one1 (DBf (S 0) a50_34) a51_34 (f30_34 : Int).toNat = f32_34 from by exact j5) (show 1 ≤ f32_34 ∧ f32_34 ≤ 10000000000 from by first | assumption | omega) (show f30_34 ≤ 32 from by first | assumption | omega)) (by decide) ⟨Nat.le_of_ble_eq_true rfl, Nat.le_of_ble_eq_true rfl⟩ (q0 := 49) CW_49 rfl rfl rfl (Nat.le_of_ble_eq_true rfl) rfl (fun vo wo hv => ?_)
        obtain ⟨D_56, b23_56, b50_56, b51_56, b54_56, g30_56, hv1, hw1, r56⟩ := hv
        rw [hv1, hw1]
        refine w_weq (CW_cong (au_th (au_th (au_th (au_th (au_th (au_th rfl (au_cm (by decide) (au_cm (by decide) (au_cm (by decide) (au_cm (by decide) (au_cm (by decide) au_rp)))))) (au_cm (by decide) (au_cm (by decide) (au_cm (by decide) (au_cm (by decide) au_rp))))) (au_cm (by decide) (au_cm (by decide) (au_cm (by decide) au_rp)))) (au_cm (by decide) (au_cm (by decide) au_rp))) (au_cm (by decide) au_rp)) au_rp) (fu_th (fu_th (fu_th rfl (fu_cm (by decide) (fu_cm (by decide) fu_rp))) (fu_cm (by decide) fu_rp)) fu_rp) rfl) ?_
        show WW K G 0 0 (CW A D_56 T G.2.1 (au (au (au (au (au (au I 23 b23_56) 50 b50_56) 51 b51_56) 52 a50_34) 53 a51_34) 54 b54_56) (fu (fu (fu F 30 g30_56) 31 f30_34) 32 (f32_34 * 100)) Q P) 59 [(0, .ref (A 0)), (1, .ref qb), (2, .int (J n)), (3, .int (J nm)), (5, .int (J k))] []
        have r56 : DOK (S 0) b50_56 b51_56 g30_56 ∧ (∀ f : Int → Int, isum f (DBf (S 0) b50_56) b51_56 (g30_56 : Int).toNat = isum (STEP S c (-1) ((S 2) + k) (-7) f) (DBf (S 0) a50_34) a51_34 (f30_34 : Int).toNat) ∧ g30_56 ≤ 2 * f30_34 ∧ isum one1 (DBf (S 0) b50_56) b51_56 (g30_56 : Int).toNat = f32_34 * 100 := r56
        refine w_iinc (pc := 59) hC dX11_rungsHavingAsked_59 (lv2 := [(5, .int (J (k + 1))), (0, .ref (A 0)), (1, .ref qb), (2, .int (J n)), (3, .int (J nm))]) 4 rfl (by rw [hnL]; decide) rfl ?_
        refine w_goto (pc := 62) hC dX11_rungsHavingAsked_62 (tgt := 34) (by decide) ?_
        refine w_sub [1, 2, 3, 4, 0] (lv2 := [(0, .ref (A 0)), (1, .ref qb), (2, .int (J n)), (3, .int (J nm)), (5, .int (J (k + 1)))]) rfl ?_
        refine ih34 (k + 1) D_56 b23_56 b50_56 b51_56 a50_34 a51_34 b54_56 g30_56 f30_34 (f32_34 * 100) ?_ ?_ ?_ ?_ ?_ ?_ ?_ ?_
        · first | assumption | omega
        · first | assumption | omega
        · exact r56.1
        · intro f; rw [r56.2.1 f, j2, EXP_s S c (-1) wm f (by omega), if_neg (by omega)]
        · rw [p2_s (by omega)]; omega
        · rw [p100_s (by omega), j4]
        · exact r56.2.2.2
        · omega
  refine w_sub [1, 2, 3, 4, 0] (lv2 := [(0, .ref (A 0)), (1, .ref qb), (2, .int (J n)), (3, .int (J nm)), (5, .int (J 1))]) rfl ?_
  refine loop34 ((n - 1) + 1 : Int).toNat 1 D_28 b23_28 b50_28 b51_28 b50_11 b51_11 b54_28 g30_28 g30_11 (1 * 100) ?_ ?_ ?_ ?_ ?_ ?_ ?_ ?_
  · first | assumption | omega
  · first | assumption | omega
  · exact r28.1
  · intro f; rw [r28.2.1 f, r11.2.1, EXP_1]
  · show _ ≤ (2 : Int); omega
  · rfl
  · exact r28.2.2.2
  · omega
set_option maxRecDepth 100000 in
set_option maxHeartbeats 4000000 in
theorem c_X4_being (l : Launch) (G : GT) (A D : Nat → Nat) (T : Nat) (I : Nat → Int → Int) (F : Nat → Int) (Q : Nat → Nat → Option Nat) (P : va_W) (S : Int → Int) (b : Int)  (hR : RI S) (hL : LRn G.2.1 S I F Q P) (hD : DOK (S 0) (I 50) (I 51) (F 30)) (hV : VB (S 0) b) (hB : ∀ r : Int, 0 ≤ r → r < S 0 → (I 56) r = dg b r) : CT l yX4_being cX4_being 4 (some .long) 1 0 0 G [.ref (A 49), .ref (A 56)] (CW A D T G.2.1 I F Q P) (fun vo wo => vo = some (.long (JL (isum (fun x => bI (x = b)) (DBf (S 0) (I 50)) (I 51) ((F 30) : Int).toNat))) ∧ wo = CW A D T G.2.1 I F Q P) := by
  refine CT_of (own := RX4) rfl rfl (Nat.le_of_ble_eq_true rfl) (fun K hl hnL hC hRT hin => ?_)
  subst hl
  show WW K G 0 0 (CW A D T G.2.1 I F Q P) 0 [(0, .ref (A 49)), (1, .ref (A 56))] []
  have hn := hR.n
  have hbd := hR.bd
  have h64 := hD.1.1
  refine w_aload_n (pc := 0) hC dX4_being_0 0 rfl rfl ?_
  refine w_aload_n (pc := 1) hC dX4_being_1 1 rfl rfl ?_
  refine w_callV (pc := 2) (As := [.ref (A 56)]) (rest := []) hC dX4_being_2 cv_X4_43 (c_X4_numberOf_v56 (kl K) G A D T I F Q P S b (show RI S from by first | assumption | omega) (show LRn G.2.1 S I F Q P from by exact hL) (show ∀ r : Int, 0 ≤ r → r < S 0 → (I 56) r = dg b r from by first | assumption | omega)) (by decide) ⟨Nat.le_of_ble_eq_true rfl, Nat.le_of_ble_eq_true rfl⟩ (q0 := 49) CW_49 rfl rfl rfl (Nat.le_of_ble_eq_true rfl) rfl (fun vo wo hv => ?_)
  obtain ⟨hv1, hw1⟩ := hv
  rw [hv1, hw1]
  show WW K G 0 0 (CW A D T G.2.1 I F Q P) 5 [(0, .ref (A 49)), (1, .ref (A 56))] [.int (J (cv (S 0) b))]
  have q2_0 := @cv_bd (S 0) (by omega) b
  refine w_istore_n (pc := 5) hC dX4_being_5 rfl (lv2 := [(2, .int (J (cv (S 0) b))), (0, .ref (A 49)), (1, .ref (A 56))]) (by rw [hnL]; decide) rfl ?_
  refine w_iconst (pc := 6) hC dX4_being_6 ?_
  refine w_istore_n (pc := 7) hC dX4_being_7 rfl (lv2 := [(3, .int (J 0)), (2, .int (J (cv (S 0) b))), (0, .ref (A 49)), (1, .ref (A 56))]) (by rw [hnL]; decide) rfl ?_
  have loop8 : ∀ (nF : Nat) (k : Int), (0 ≤ k) → (k ≤ (F 30)) → (∀ z : Int, 0 ≤ z → z < k → ¬ (I 50) z = cv (S 0) b) → ((F 30) - k) < (nF : Int) → WW K G 0 0 (CW A D T G.2.1 I F Q P) 8 [(0, .ref (A 49)), (2, .int (J (cv (S 0) b))), (3, .int (J k))] [] := by
    intro nF
    induction nF with
    | zero => intro k i1 i2 i3 hm8; exact absurd hm8 (by omega)
    | succ nF ih8 =>
      intro k i1 i2 i3 hm8
      refine w_iload_n (pc := 8) hC dX4_being_8 2 rfl rfl ?_
      refine w_aload_n (pc := 9) hC dX4_being_9 0 rfl rfl ?_
      refine w_getf (pc := 10) (v := .int (J (F 30))) hC dX4_being_10 fi_X4_19 49 CW_49 rfl ?_
      refine w_icmp_ge (pc := 13) (tgt := 39) hC dX4_being_13 (by decide) (by omega) (fun c13 => ?_) (fun c13 => ?_)
      · refine w_lconst (pc := 39) hC dX4_being_39 (z := 0) rfl ?_
        refine w_lret (pc := 40) hC hRT dX4_being_40 ?_
        refine ⟨retL (by exact (DOK_isnt hD (fun z z0 z1 => i3 z z0 (by omega))).symm), rfl⟩
      · have hk := DOK_bd hn hD i1 (by omega)
        have hcb := cv_bd hn b
        refine w_aload_n (pc := 16) hC dX4_being_16 0 rfl rfl ?_
        refine w_getf (pc := 17) (v := .ref (D 0)) hC dX4_being_17 fi_X4_11 49 CW_49 rfl ?_
        refine w_iload_n (pc := 20) hC dX4_being_20 2 rfl rfl ?_
        refine w_ialdV (pc := 21) (g := (I 50)) (v := (I 50) k) hC dX4_being_21 50 CW_50 (by omega) (Nat.le_of_ble_eq_true rfl) rfl ?_
        refine w_iload_n (pc := 22) hC dX4_being_22 1 rfl rfl ?_
        refine w_icmp_ne (pc := 23) (tgt := 33) hC dX4_being_23 (by decide) (by omega) (fun c23 => ?_) (fun c23 => ?_)
        · refine w_iinc (pc := 33) hC dX4_being_33 (lv2 := [(3, .int (J (k + 1))), (0, .ref (A 49)), (2, .int (J (cv (S 0) b)))]) 2 rfl (by rw [hnL]; decide) rfl ?_
          refine w_goto (pc := 36) hC dX4_being_36 (tgt := 8) (by decide) ?_
          refine w_sub [1, 2, 0] (lv2 := [(0, .ref (A 49)), (2, .int (J (cv (S 0) b))), (3, .int (J (k + 1)))]) rfl ?_
          refine ih8 (k + 1) ?_ ?_ ?_ ?_
          · first | assumption | omega
          · first | assumption | omega
          · intro z z0 z1; rcases (show z = k ∨ z < k by omega) with e | e; subst e; exact c23; exact i3 z z0 e
          · omega
        · refine w_aload_n (pc := 26) hC dX4_being_26 0 rfl rfl ?_
          refine w_getf (pc := 27) (v := .ref (D 1)) hC dX4_being_27 fi_X4_15 49 CW_49 rfl ?_
          refine w_iload_n (pc := 30) hC dX4_being_30 2 rfl rfl ?_
          refine w_laldV (pc := 31) (g := (I 51)) (v := (I 51) k) hC dX4_being_31 51 CW_51 (by omega) (Nat.le_of_ble_eq_true rfl) rfl ?_
          refine w_lret (pc := 32) hC hRT dX4_being_32 ?_
          refine ⟨retL (by exact (DOK_is hD i1 (by omega) hV c23).symm), rfl⟩
  refine w_sub [2, 1, 0] (lv2 := [(0, .ref (A 49)), (2, .int (J (cv (S 0) b))), (3, .int (J 0))]) rfl ?_
  refine loop8 (((F 30) - 0) + 1 : Int).toNat 0 ?_ ?_ ?_ ?_
  · first | assumption | omega
  · first | assumption | omega
  · intro z z0 z1; omega
  · omega
set_option maxRecDepth 100000 in
set_option maxHeartbeats 4000000 in
theorem c_X4_findLikeliest (l : Launch) (G : GT) (A D : Nat → Nat) (T : Nat) (I : Nat → Int → Int) (F : Nat → Int) (Q : Nat → Nat → Option Nat) (P : va_W) (S : Int → Int)  (hR : RI S) (hL : LRn G.2.1 S I F Q P) (hD : DOK (S 0) (I 50) (I 51) (F 30)) (h1 : 1 ≤ (F 30)) (ht : isum one1 (DBf (S 0) (I 50)) (I 51) ((F 30) : Int).toNat ≤ 1000000000000) : CT l yX4_findLikeliest cX4_findLikeliest 4 none 1 0 0 G [.ref (A 49), .ref (A 57)] (CW A D T G.2.1 I F Q P) (fun vo wo => ∃ (b57 : Int → Int), vo = none ∧ wo = CW A D T G.2.1 (au I 57 b57) F Q P ∧ (∃ x : Int, (0 ≤ x ∧ x < (F 30)) ∧ (∀ j : Int, 0 ≤ j → j < (F 30) → ((I 51) j < (I 51) x ∨ ((I 51) j = (I 51) x ∧ (I 50) x ≤ (I 50) j))) ∧ ∀ zq : Int, 0 ≤ zq → zq < S 0 → b57 zq = dg (DBf (S 0) (I 50) x) zq)) := by
  refine CT_of (own := RX4) rfl rfl (Nat.le_of_ble_eq_true rfl) (fun K hl hnL hC hRT hin => ?_)
  subst hl
  show WW K G 0 0 (CW A D T G.2.1 I F Q P) 0 [(0, .ref (A 49)), (1, .ref (A 57))] []
  have hn := hR.n
  have hbd := hR.bd
  have h64 := hD.1.1
  refine w_iconst (pc := 0) hC dX4_findLikeliest_0 ?_
  refine w_istore_n (pc := 1) hC dX4_findLikeliest_1 rfl (lv2 := [(2, .int (J 0)), (0, .ref (A 49)), (1, .ref (A 57))]) (by rw [hnL]; decide) rfl ?_
  refine w_iconst (pc := 2) hC dX4_findLikeliest_2 ?_
  refine w_istore_n (pc := 3) hC dX4_findLikeliest_3 rfl (lv2 := [(3, .int (J 1)), (2, .int (J 0)), (0, .ref (A 49)), (1, .ref (A 57))]) (by rw [hnL]; decide) rfl ?_
  have loop4 : ∀ (nF : Nat) (x : Int) (i : Int), (1 ≤ i) → (i ≤ (F 30)) → (0 ≤ x ∧ x < i) → (∀ j : Int, 0 ≤ j → j < i → ((I 51) j < (I 51) x ∨ ((I 51) j = (I 51) x ∧ (I 50) x ≤ (I 50) j))) → ((F 30) - i) < (nF : Int) → WW K G 0 0 (CW A D T G.2.1 I F Q P) 4 [(0, .ref (A 49)), (1, .ref (A 57)), (2, .int (J x)), (3, .int (J i))] [] := by
    intro nF
    induction nF with
    | zero => intro x i i1 i2 i3 i4 hm4; exact absurd hm4 (by omega)
    | succ nF ih4 =>
      intro x i i1 i2 i3 i4 hm4
      refine w_iload_n (pc := 4) hC dX4_findLikeliest_4 3 rfl rfl ?_
      refine w_aload_n (pc := 5) hC dX4_findLikeliest_5 0 rfl rfl ?_
      refine w_getf (pc := 6) (v := .int (J (F 30))) hC dX4_findLikeliest_6 fi_X4_19 49 CW_49 rfl ?_
      refine w_icmp_ge (pc := 9) (tgt := 67) hC dX4_findLikeliest_9 (by decide) (by omega) (fun c9 => ?_) (fun c9 => ?_)
      · have hv := hD.2 x i3.1 (by omega)
        refine w_iconst (pc := 67) hC dX4_findLikeliest_67 ?_
        refine w_istore_n (pc := 68) hC dX4_findLikeliest_68 rfl (lv2 := [(3, .int (J 0)), (0, .ref (A 49)), (1, .ref (A 57)), (2, .int (J x))]) (by rw [hnL]; decide) rfl ?_
        have loop69 : ∀ (nF : Nat) (r : Int) (a57_69 : Int → Int), (0 ≤ r) → (r ≤ S 0) → (∀ z : Int, 0 ≤ z → z < r → a57_69 z = dg (DBf (S 0) (I 50) x) z) → (S 0 - r) < (nF : Int) → WW K G 0 0 (CW A D T G.2.1 (au I 57 a57_69) F Q P) 69 [(0, .ref (A 49)), (1, .ref (A 57)), (2, .int (J x)), (3, .int (J r))] [] := by
          intro nF
          induction nF with
          | zero => intro r a57_69 k1 k2 k3 hm69; exact absurd hm69 (by omega)
          | succ nF ih69 =>
            intro r a57_69 k1 k2 k3 hm69
            refine w_iload_n (pc := 69) hC dX4_findLikeliest_69 3 rfl rfl ?_
            refine w_aload_n (pc := 70) hC dX4_findLikeliest_70 0 rfl rfl ?_
            refine w_getf (pc := 71) (v := .ref (A 1)) hC dX4_findLikeliest_71 fi_X4_39 49 CW_49 rfl ?_
            refine w_getfN (pc := 74) (v := .int (J (S 0))) hC dX4_findLikeliest_74 fn_X4_54 1 CW_1 (congrArg (fun z : Int => some (Value.int (J z))) (l_n hL)) ?_
            refine w_icmp_ge (pc := 77) (tgt := 100) hC dX4_findLikeliest_77 (by decide) (by omega) (fun c77 => ?_) (fun c77 => ?_)
            · refine w_vret (pc := 100) hC hRT dX4_findLikeliest_100 ?_
              refine ⟨a57_69, rfl, rfl, ?_⟩
              · exact ⟨x, ⟨i3.1, by omega⟩, fun j j0 j1 => i4 j j0 (by omega), fun zq z0 z1 => k3 zq z0 (by omega)⟩
            · refine w_aload_n (pc := 80) hC dX4_findLikeliest_80 1 rfl rfl ?_
              refine w_iload_n (pc := 81) hC dX4_findLikeliest_81 3 rfl rfl ?_
              refine w_aload_n (pc := 82) hC dX4_findLikeliest_82 0 rfl rfl ?_
              refine w_aload_n (pc := 83) hC dX4_findLikeliest_83 0 rfl rfl ?_
              refine w_getf (pc := 84) (v := .ref (D 0)) hC dX4_findLikeliest_84 fi_X4_11 49 CW_49 rfl ?_
              refine w_iload_n (pc := 87) hC dX4_findLikeliest_87 2 rfl rfl ?_
              refine w_ialdV (pc := 88) (g := (I 50)) (v := (I 50) x) hC dX4_findLikeliest_88 50 CW_50 (by omega) (Nat.le_of_ble_eq_true rfl) rfl ?_
              refine w_iload_n (pc := 89) hC dX4_findLikeliest_89 3 rfl rfl ?_
              refine w_callV (pc := 90) (As := [.int (J ((I 50) x)), .int (J r)]) (rest := [.int (J r), .ref (A 57)]) hC dX4_findLikeliest_90 cv_X4_87 (c_X4_nameOn (kl K) G A D T (au I 57 a57_69) F Q P S (DBf (S 0) (I 50) x) ((I 50) x) r (show RI S from by first | assumption | omega) (show LRn G.2.1 S (au I 57 a57_69) F Q P from by exact (LRb_au (by decide) hL)) (show ((I 50) x) = cv (S 0) (DBf (S 0) (I 50) x) from by exact hv.2) (show 0 ≤ r ∧ r < S 0 from by first | assumption | omega)) (by decide) ⟨Nat.le_of_ble_eq_true rfl, Nat.le_of_ble_eq_true rfl⟩ (q0 := 49) CW_49 rfl rfl rfl (Nat.le_of_ble_eq_true rfl) rfl (fun vo wo hv => ?_)
              obtain ⟨hv1, hw1⟩ := hv
              rw [hv1, hw1]
              show WW K G 0 0 (CW A D T G.2.1 (au I 57 a57_69) F Q P) 93 [(0, .ref (A 49)), (1, .ref (A 57)), (2, .int (J x)), (3, .int (J r))] [.int (J (dg (DBf (S 0) (I 50) x) r)), .int (J r), .ref (A 57)]
              have q90_0 := dg7 (DBf (S 0) (I 50) x) r
              refine w_iast (pc := 93) (g := a57_69) (w2 := CW A D T G.2.1 (au I 57 (gu a57_69 r (dg (DBf (S 0) (I 50) x) r))) F Q P) hC dX4_findLikeliest_93 57 CW_57 (by omega) (Nat.le_of_ble_eq_true rfl) (CWa_57 au_rp) ?_
              generalize h93 : gu a57_69 r (dg (DBf (S 0) (I 50) x) r) = s93
              refine w_iinc (pc := 94) hC dX4_findLikeliest_94 (lv2 := [(3, .int (J (r + 1))), (0, .ref (A 49)), (1, .ref (A 57)), (2, .int (J x))]) 3 rfl (by rw [hnL]; decide) rfl ?_
              refine w_goto (pc := 97) hC dX4_findLikeliest_97 (tgt := 69) (by decide) ?_
              refine w_sub [1, 2, 3, 0] (lv2 := [(0, .ref (A 49)), (1, .ref (A 57)), (2, .int (J x)), (3, .int (J (r + 1)))]) rfl ?_
              refine ih69 (r + 1) s93 ?_ ?_ ?_ ?_
              · first | assumption | omega
              · first | assumption | omega
              · exact ly_put h93 k3
              · omega
        refine w_weq (CW_cong (au_ms (k := 57) (v := I 57) rfl rfl rfl) rfl rfl) ?_
        refine w_sub [1, 2, 3, 0] (lv2 := [(0, .ref (A 49)), (1, .ref (A 57)), (2, .int (J x)), (3, .int (J 0))]) rfl ?_
        refine loop69 ((S 0 - 0) + 1 : Int).toNat 0 (I 57) ?_ ?_ ?_ ?_
        · first | assumption | omega
        · first | assumption | omega
        · intro z z0 z1; omega
        · omega
      · have hki := DOK_bd hn hD (k := i) (by omega) (by omega)
        have hkx := DOK_bd hn hD i3.1 (by omega)
        refine w_aload_n (pc := 12) hC dX4_findLikeliest_12 0 rfl rfl ?_
        refine w_getf (pc := 13) (v := .ref (D 1)) hC dX4_findLikeliest_13 fi_X4_15 49 CW_49 rfl ?_
        refine w_iload_n (pc := 16) hC dX4_findLikeliest_16 3 rfl rfl ?_
        refine w_laldV (pc := 17) (g := (I 51)) (v := (I 51) i) hC dX4_findLikeliest_17 51 CW_51 (by omega) (Nat.le_of_ble_eq_true rfl) rfl ?_
        refine w_aload_n (pc := 18) hC dX4_findLikeliest_18 0 rfl rfl ?_
        refine w_getf (pc := 19) (v := .ref (D 1)) hC dX4_findLikeliest_19 fi_X4_15 49 CW_49 rfl ?_
        refine w_iload_n (pc := 22) hC dX4_findLikeliest_22 2 rfl rfl ?_
        refine w_laldV (pc := 23) (g := (I 51)) (v := (I 51) x) hC dX4_findLikeliest_23 51 CW_51 (by omega) (Nat.le_of_ble_eq_true rfl) rfl ?_
        refine w_lcmp (pc := 24) hC dX4_findLikeliest_24 (by omega) ?_
        refine w_if_gt_c (pc := 25) (tgt := 59) hC dX4_findLikeliest_25 (by decide) (fun c25 => ?_) (fun c25 => ?_)
        · refine w_iload_n (pc := 59) hC dX4_findLikeliest_59 3 rfl rfl ?_
          refine w_istore_n (pc := 60) hC dX4_findLikeliest_60 rfl (lv2 := [(2, .int (J i)), (0, .ref (A 49)), (1, .ref (A 57)), (3, .int (J i))]) (by rw [hnL]; decide) rfl ?_
          refine w_iinc (pc := 61) hC dX4_findLikeliest_61 (lv2 := [(3, .int (J (i + 1))), (2, .int (J i)), (0, .ref (A 49)), (1, .ref (A 57))]) 3 rfl (by rw [hnL]; decide) rfl ?_
          refine w_goto (pc := 64) hC dX4_findLikeliest_64 (tgt := 4) (by decide) ?_
          refine w_sub [2, 3, 1, 0] (lv2 := [(0, .ref (A 49)), (1, .ref (A 57)), (2, .int (J i)), (3, .int (J (i + 1)))]) rfl ?_
          refine ih4 i (i + 1) ?_ ?_ ?_ ?_ ?_
          · first | assumption | omega
          · first | assumption | omega
          · first | assumption | omega
          · intro j j0 j1; rcases (show j = i ∨ j < i by omega) with e | e; subst e; omega; have := i4 j j0 e; omega
          · omega
        · refine w_aload_n (pc := 28) hC dX4_findLikeliest_28 0 rfl rfl ?_
          refine w_getf (pc := 29) (v := .ref (D 1)) hC dX4_findLikeliest_29 fi_X4_15 49 CW_49 rfl ?_
          refine w_iload_n (pc := 32) hC dX4_findLikeliest_32 3 rfl rfl ?_
          refine w_laldV (pc := 33) (g := (I 51)) (v := (I 51) i) hC dX4_findLikeliest_33 51 CW_51 (by omega) (Nat.le_of_ble_eq_true rfl) rfl ?_
          refine w_aload_n (pc := 34) hC dX4_findLikeliest_34 0 rfl rfl ?_
          refine w_getf (pc := 35) (v := .ref (D 1)) hC dX4_findLikeliest_35 fi_X4_15 49 CW_49 rfl ?_
          refine w_iload_n (pc := 38) hC dX4_findLikeliest_38 2 rfl rfl ?_
          refine w_laldV (pc := 39) (g := (I 51)) (v := (I 51) x) hC dX4_findLikeliest_39 51 CW_51 (by omega) (Nat.le_of_ble_eq_true rfl) rfl ?_
          refine w_lcmp (pc := 40) hC dX4_findLikeliest_40 (by omega) ?_
          refine w_if_ne_c (pc := 41) (tgt := 61) hC dX4_findLikeliest_41 (by decide) (fun c41 => ?_) (fun c41 => ?_)
          · refine w_iinc (pc := 61) hC dX4_findLikeliest_61 (lv2 := [(3, .int (J (i + 1))), (0, .ref (A 49)), (1, .ref (A 57)), (2, .int (J x))]) 3 rfl (by rw [hnL]; decide) rfl ?_
            refine w_goto (pc := 64) hC dX4_findLikeliest_64 (tgt := 4) (by decide) ?_
            refine w_sub [1, 2, 3, 0] (lv2 := [(0, .ref (A 49)), (1, .ref (A 57)), (2, .int (J x)), (3, .int (J (i + 1)))]) rfl ?_
            refine ih4 x (i + 1) ?_ ?_ ?_ ?_ ?_
            · first | assumption | omega
            · first | assumption | omega
            · first | assumption | omega
            · intro j j0 j1; rcases (show j = i ∨ j < i by omega) with e | e; subst e; omega; have := i4 j j0 e; omega
            · omega
          · refine w_aload_n (pc := 44) hC dX4_findLikeliest_44 0 rfl rfl ?_
            refine w_getf (pc := 45) (v := .ref (D 0)) hC dX4_findLikeliest_45 fi_X4_11 49 CW_49 rfl ?_
            refine w_iload_n (pc := 48) hC dX4_findLikeliest_48 3 rfl rfl ?_
            refine w_ialdV (pc := 49) (g := (I 50)) (v := (I 50) i) hC dX4_findLikeliest_49 50 CW_50 (by omega) (Nat.le_of_ble_eq_true rfl) rfl ?_
            refine w_aload_n (pc := 50) hC dX4_findLikeliest_50 0 rfl rfl ?_
            refine w_getf (pc := 51) (v := .ref (D 0)) hC dX4_findLikeliest_51 fi_X4_11 49 CW_49 rfl ?_
            refine w_iload_n (pc := 54) hC dX4_findLikeliest_54 2 rfl rfl ?_
            refine w_ialdV (pc := 55) (g := (I 50)) (v := (I 50) x) hC dX4_findLikeliest_55 50 CW_50 (by omega) (Nat.le_of_ble_eq_true rfl) rfl ?_
            refine w_icmp_ge (pc := 56) (tgt := 61) hC dX4_findLikeliest_56 (by decide) (by omega) (fun c56 => ?_) (fun c56 => ?_)
            · refine w_iinc (pc := 61) hC dX4_findLikeliest_61 (lv2 := [(3, .int (J (i + 1))), (0, .ref (A 49)), (1, .ref (A 57)), (2, .int (J x))]) 3 rfl (by rw [hnL]; decide) rfl ?_
              refine w_goto (pc := 64) hC dX4_findLikeliest_64 (tgt := 4) (by decide) ?_
              refine w_sub [1, 2, 3, 0] (lv2 := [(0, .ref (A 49)), (1, .ref (A 57)), (2, .int (J x)), (3, .int (J (i + 1)))]) rfl ?_
              refine ih4 x (i + 1) ?_ ?_ ?_ ?_ ?_
              · first | assumption | omega
              · first | assumption | omega
              · first | assumption | omega
              · intro j j0 j1; rcases (show j = i ∨ j < i by omega) with e | e; subst e; omega; have := i4 j j0 e; omega
              · omega
            · refine w_iload_n (pc := 59) hC dX4_findLikeliest_59 3 rfl rfl ?_
              refine w_istore_n (pc := 60) hC dX4_findLikeliest_60 rfl (lv2 := [(2, .int (J i)), (0, .ref (A 49)), (1, .ref (A 57)), (3, .int (J i))]) (by rw [hnL]; decide) rfl ?_
              refine w_iinc (pc := 61) hC dX4_findLikeliest_61 (lv2 := [(3, .int (J (i + 1))), (2, .int (J i)), (0, .ref (A 49)), (1, .ref (A 57))]) 3 rfl (by rw [hnL]; decide) rfl ?_
              refine w_goto (pc := 64) hC dX4_findLikeliest_64 (tgt := 4) (by decide) ?_
              refine w_sub [2, 3, 1, 0] (lv2 := [(0, .ref (A 49)), (1, .ref (A 57)), (2, .int (J i)), (3, .int (J (i + 1)))]) rfl ?_
              refine ih4 i (i + 1) ?_ ?_ ?_ ?_ ?_
              · first | assumption | omega
              · first | assumption | omega
              · first | assumption | omega
              · intro j j0 j1; rcases (show j = i ∨ j < i by omega) with e | e; subst e; omega; have := i4 j j0 e; omega
              · omega
  refine w_sub [2, 3, 1, 0] (lv2 := [(0, .ref (A 49)), (1, .ref (A 57)), (2, .int (J 0)), (3, .int (J 1))]) rfl ?_
  refine loop4 (((F 30) - 1) + 1 : Int).toNat 0 1 ?_ ?_ ?_ ?_ ?_
  · first | assumption | omega
  · first | assumption | omega
  · first | assumption | omega
  · intro j j0 j1; obtain rfl : j = 0 := (by omega); exact Or.inr ⟨rfl, Int.le_refl _⟩
  · omega
set_option maxRecDepth 100000 in
set_option maxHeartbeats 4000000 in
theorem c_X11_commonDivisor (l : Launch) (G : GT) (w0 : va_W)  (a : Int) (b : Int) (ha : 0 ≤ a ∧ a ≤ 100000000000000) (hb : 0 < b ∧ b ≤ 1000000000000) : CT l yX11_commonDivisor cX11_commonDivisor 7 (some .long) 0 0 0 G [.long (JL a), .long (JL b)] w0 (fun vo wo => vo = some (.long (JL (GCD a b))) ∧ wo = w0) := by
  refine CT_of (own := RX11) rfl rfl (Nat.le_of_ble_eq_true rfl) (fun K hl hnL hC hRT hin => ?_)
  subst hl
  show WW K G 0 0 w0 0 [(0, .long (JL a)), (2, .long (JL b))] []
  refine w_iconst (pc := 0) hC dX11_commonDivisor_0 ?_
  refine w_istore (pc := 1) hC dX11_commonDivisor_1 (lv2 := [(4, .int (J 0)), (0, .long (JL a)), (2, .long (JL b))]) (by rw [hnL]; decide) rfl ?_
  have loop3 : ∀ (nF : Nat) (x : Int) (y : Int) (i : Int), (0 ≤ i) → (i ≤ 200) → ((0 ≤ x ∧ x ≤ 100000000000000) ∧ 0 ≤ y ∧ y ≤ 100000000000000) → (GCD x y = GCD a b) → (i = 0 ∨ (y < x ∧ x * y * 2 ^ (i - 1).toNat ≤ 10000000000000000000000000000)) → (200 - i) < (nF : Int) → WW K G 0 0 w0 3 [(0, .long (JL x)), (2, .long (JL y)), (4, .int (J i))] [] := by
    intro nF
    induction nF with
    | zero => intro x y i i1 i2 i3 i4 i5 hm3; exact absurd hm3 (by omega)
    | succ nF ih3 =>
      intro x y i i1 i2 i3 i4 i5 hm3
      refine w_iload (pc := 3) hC dX11_commonDivisor_3 2 rfl ?_
      refine w_sipush (pc := 5) hC dX11_commonDivisor_5 (z := 200) rfl ?_
      refine w_icmp_ge (pc := 8) (tgt := 33) hC dX11_commonDivisor_8 (by decide) (by omega) (fun c8 => ?_) (fun c8 => ?_)
      · refine w_lload_n (pc := 33) hC dX11_commonDivisor_33 0 rfl rfl ?_
        refine w_lret (pc := 34) hC hRT dX11_commonDivisor_34 ?_
        refine ⟨retL (by have e := i4; first | (rw [gcd_end i5 (by omega) i3.2.1, gcd_0 i3.1.1] at e; exact e) | (rw [c14, gcd_0 i3.1.1] at e; exact e)), rfl⟩
      · refine w_lload_n (pc := 11) hC dX11_commonDivisor_11 1 rfl rfl ?_
        refine w_lconst (pc := 12) hC dX11_commonDivisor_12 (z := 0) rfl ?_
        refine w_lcmp (pc := 13) hC dX11_commonDivisor_13 (by omega) ?_
        refine w_if_eq_c (pc := 14) (tgt := 33) hC dX11_commonDivisor_14 (by decide) (fun c14 => ?_) (fun c14 => ?_)
        · refine w_lload_n (pc := 33) hC dX11_commonDivisor_33 0 rfl rfl ?_
          refine w_lret (pc := 34) hC hRT dX11_commonDivisor_34 ?_
          refine ⟨retL (by have e := i4; first | (rw [gcd_end i5 (by omega) i3.2.1, gcd_0 i3.1.1] at e; exact e) | (rw [c14, gcd_0 i3.1.1] at e; exact e)), rfl⟩
        · refine w_lload_n (pc := 17) hC dX11_commonDivisor_17 0 rfl rfl ?_
          refine w_lload_n (pc := 18) hC dX11_commonDivisor_18 1 rfl rfl ?_
          refine w_lrem (pc := 19) hC dX11_commonDivisor_19 (by omega) ?_
          refine w_lstore (pc := 20) hC dX11_commonDivisor_20 (lv2 := [(5, .long (JL (x % y))), (0, .long (JL x)), (2, .long (JL y)), (4, .int (J i))]) (by rw [hnL]; decide) rfl ?_
          refine w_lload_n (pc := 22) hC dX11_commonDivisor_22 2 rfl rfl ?_
          refine w_lstore_n (pc := 23) hC dX11_commonDivisor_23 rfl (lv2 := [(0, .long (JL y)), (5, .long (JL (x % y))), (2, .long (JL y)), (4, .int (J i))]) (by rw [hnL]; decide) rfl ?_
          refine w_lload (pc := 24) hC dX11_commonDivisor_24 1 rfl ?_
          refine w_lstore_n (pc := 26) hC dX11_commonDivisor_26 rfl (lv2 := [(2, .long (JL (x % y))), (0, .long (JL y)), (5, .long (JL (x % y))), (4, .int (J i))]) (by rw [hnL]; decide) rfl ?_
          refine w_iinc (pc := 27) hC dX11_commonDivisor_27 (lv2 := [(4, .int (J (i + 1))), (2, .long (JL (x % y))), (0, .long (JL y)), (5, .long (JL (x % y)))]) 3 rfl (by rw [hnL]; decide) rfl ?_
          refine w_goto (pc := 30) hC dX11_commonDivisor_30 (tgt := 3) (by decide) ?_
          refine w_sub [2, 1, 0] (lv2 := [(0, .long (JL y)), (2, .long (JL (x % y))), (4, .int (J (i + 1)))]) rfl ?_
          refine ih3 y (x % y) (i + 1) ?_ ?_ ?_ ?_ ?_ ?_
          · first | assumption | omega
          · first | assumption | omega
          · have e0 := Int.emod_nonneg x (show y ≠ 0 by omega); have e1 := Int.emod_lt_of_pos x (show 0 < y by omega); omega
          · rw [gcd_step i3.1.1 (by omega)]; exact i4
          · exact Or.inr (gcd_run i5 i1 i3.1 (by omega))
          · omega
  refine w_sub [1, 2, 0] (lv2 := [(0, .long (JL a)), (2, .long (JL b)), (4, .int (J 0))]) rfl ?_
  refine loop3 ((200 - 0) + 1 : Int).toNat a b 0 ?_ ?_ ?_ ?_ ?_ ?_
  · first | assumption | omega
  · first | assumption | omega
  · omega
  · rfl
  · exact Or.inl rfl
  · omega
set_option maxRecDepth 100000 in
set_option maxHeartbeats 4000000 in
theorem c_X11_partOf (l : Launch) (G : GT) (A D : Nat → Nat) (T : Nat) (I : Nat → Int → Int) (F : Nat → Int) (Q : Nat → Nat → Option Nat) (P : va_W)  (up : Int) (lo : Int) (pt : Int) (hup : -100000000000000 ≤ up ∧ up ≤ 100000000000000) (hlo : 0 < lo ∧ lo ≤ 1000000000000) (hpt : 0 ≤ pt ∧ pt ≤ 1) : CT l yX11_partOf cX11_partOf 7 (some .long) 1 0 0 G [.long (JL up), .long (JL lo), .int (J pt)] (CW A D T G.2.1 I F Q P) (fun vo wo => vo = some (.long (JL (LOW up lo pt))) ∧ wo = CW A D T G.2.1 I F Q P) := by
  refine CT_of (own := RX11) rfl rfl (Nat.le_of_ble_eq_true rfl) (fun K hl hnL hC hRT hin => ?_)
  subst hl
  show WW K G 0 0 (CW A D T G.2.1 I F Q P) 0 [(0, .long (JL up)), (2, .long (JL lo)), (4, .int (J pt))] []
  refine w_lload_n (pc := 0) hC dX11_partOf_0 0 rfl rfl ?_
  refine w_labs (pc := 1) hC dX11_partOf_1 tw_4_2 (by omega) (Nat.le_of_ble_eq_true rfl) (Nat.le_of_ble_eq_true rfl) ⟨Nat.le_of_ble_eq_true rfl, Nat.le_of_ble_eq_true rfl⟩ ?_
  refine w_lload_n (pc := 4) hC dX11_partOf_4 1 rfl rfl ?_
  refine w_callS (pc := 5) (As := [.long (JL (if 0 < up then up else -up)), .long (JL lo)]) (rest := []) hC dX11_partOf_5 cs_X11_311 (c_X11_commonDivisor (kl K) G (CW A D T G.2.1 I F Q P) (if 0 < up then up else -up) lo (show 0 ≤ (if 0 < up then up else -up) ∧ (if 0 < up then up else -up) ≤ 100000000000000 from by split <;> omega) (show 0 < lo ∧ lo ≤ 1000000000000 from by first | assumption | omega)) (by decide) ⟨Nat.le_of_ble_eq_true rfl, Nat.le_of_ble_eq_true rfl⟩ rfl (Nat.le_of_ble_eq_true rfl) rfl (fun vo wo hv => ?_)
  obtain ⟨hv1, hw1⟩ := hv
  rw [hv1, hw1]
  show WW K G 0 0 (CW A D T G.2.1 I F Q P) 8 [(0, .long (JL up)), (2, .long (JL lo)), (4, .int (J pt))] [.long (JL (GCD (if 0 < up then up else -up) lo))]
  have q5_0 := (@gcd_pos (if 0 < up then up else -up) lo (by omega))
  refine w_topL (e2 := GCD up lo) (by exact gcd_abs (by split <;> omega)) ?_
  have hg := gcd_pos (x := up) hlo.1
  refine w_lstore (pc := 8) hC dX11_partOf_8 (lv2 := [(5, .long (JL (GCD up lo))), (0, .long (JL up)), (2, .long (JL lo)), (4, .int (J pt))]) (by rw [hnL]; decide) rfl ?_
  refine w_lload (pc := 10) hC dX11_partOf_10 0 rfl ?_
  refine w_lconst (pc := 12) hC dX11_partOf_12 (z := 0) rfl ?_
  refine w_lcmp (pc := 13) hC dX11_partOf_13 (by omega) ?_
  refine w_if_ne_c (pc := 14) (tgt := 21) hC dX11_partOf_14 (by decide) (fun c14 => ?_) (fun c14 => ?_)
  · refine w_iload (pc := 21) hC dX11_partOf_21 3 rfl ?_
    refine w_if_ne (pc := 23) (tgt := 30) hC dX11_partOf_23 (by decide) (by omega) (fun c23 => ?_) (fun c23 => ?_)
    · refine w_lload_n (pc := 30) hC dX11_partOf_30 2 rfl rfl ?_
      refine w_lload (pc := 31) hC dX11_partOf_31 0 rfl ?_
      refine w_ldiv (pc := 33) hC dX11_partOf_33 (by omega) ?_
      refine w_lret (pc := 34) hC hRT dX11_partOf_34 ?_
      refine ⟨retL (by unfold LOW; first | rw [if_pos (by omega)] | rw [if_neg (by omega)]), rfl⟩
    · refine w_lload_n (pc := 26) hC dX11_partOf_26 1 rfl rfl ?_
      refine w_goto (pc := 27) hC dX11_partOf_27 (tgt := 31) (by decide) ?_
      refine w_lload (pc := 31) hC dX11_partOf_31 0 rfl ?_
      refine w_ldiv (pc := 33) hC dX11_partOf_33 (by omega) ?_
      refine w_lret (pc := 34) hC hRT dX11_partOf_34 ?_
      refine ⟨retL (by unfold LOW; first | rw [if_pos (by omega)] | rw [if_neg (by omega)]), rfl⟩
  · exfalso; omega
