def au (I : Nat → Int → Int) (k : Nat) (g : Int → Int) : Nat → Int → Int := fun j => if j = k then g else I j
def fu (F : Nat → Int) (k : Nat) (v : Int) : Nat → Int := fun j => if j = k then v else F j
/-- the reference: its object, its nine arrays -/
def MW (A : Nat → Nat) (cy : Nat → ClassId) (I : Nat → Int → Int) (F : Nat → Int) : va_W := [(A 0, .inr (12, [.int (J (F 0)), .ref (A 1), .ref (A 2), .int (J (F 3)), .int (J (F 4)), .int (J (F 5)), .int (J (F 6)), .int (J (F 7)), .int (J (F 8)), .ref (A 3), .ref (A 4), .int (J (F 11)), .ref (A 5), .ref (A 6), .ref (A 7), .ref (A 8), .int (J (F 16)), .int (J (F 17)), .long (JL (F 18)), .int (J (F 19)), .int (J (F 20)), .int (J (F 21)), .int (J (F 22)), .ref (A 9), .int (J (F 24)), .int (J (F 25)), .int (J (F 26)), .int (J (F 27))])), (A 1, .inl (cy 0, 965, .inl (jf (I 1)))), (A 2, .inl (cy 0, 965, .inl (jf (I 2)))), (A 3, .inl (cy 2, 64, .inl (jf (I 3)))), (A 4, .inl (cy 0, 6, .inl (jf (I 4)))), (A 5, .inl (cy 0, 64, .inl (jf (I 5)))), (A 6, .inl (cy 0, 64, .inl (jf (I 6)))), (A 7, .inl (cy 1, 64, .inr (.inl (jlf (I 7))))), (A 8, .inl (cy 1, 64, .inr (.inl (jlf (I 8))))), (A 9, .inl (cy 0, 20, .inl (jf (I 9))))]
theorem w_top {K : KT} {G : GT} {cs ss pc : Nat} {w : va_W} {lv : List (Nat × Value)} {st : List Value} {e e2 : Int} (h : e = e2) (k : WW K G cs ss w pc lv (.int (J e2) :: st)) : WW K G cs ss w pc lv (.int (J e) :: st) := h ▸ k
theorem w_topL {K : KT} {G : GT} {cs ss pc : Nat} {w : va_W} {lv : List (Nat × Value)} {st : List Value} {e e2 : Int} (h : e = e2) (k : WW K G cs ss w pc lv (.long (JL e2) :: st)) : WW K G cs ss w pc lv (.long (JL e) :: st) := h ▸ k
theorem retI {a b : Int} (h : a = b) : some (Value.int (J a)) = some (.int (J b)) := by rw [h]
theorem retL {a b : Int} (h : a = b) : some (Value.long (JL a)) = some (.long (JL b)) := by rw [h]
theorem bI_vnar {φ : Prop} [Decidable φ] : vp_nar .boolean (J (bI φ)) = J (bI φ) := by
  by_cases h : φ
  · rw [bI_t h]; rfl
  · rw [bI_f h]; rfl
theorem bI_fits {φ : Prop} [Decidable φ] : fits .boolean (.int (J (bI φ))) = true := by
  by_cases h : φ
  · rw [bI_t h]; rfl
  · rw [bI_f h]; rfl

theorem J_andN (a : Int) (k : Nat) (hk : k ≤ 31) : J a &&& J (2 ^ k - 1) = J (a % 2 ^ k) := by
  have hp : (0 : Int) < 2 ^ k := Int.pow_pos (by decide)
  have hm : (J (2 ^ k - 1)).toBitVec.toNat = 2 ^ k - 1 := by
    show (BitVec.ofInt 32 (2 ^ k - 1)).toNat = _
    rw [BitVec.toNat_ofInt]
    have h1 : ((2 : Int) ^ k) ≤ 2 ^ 31 := by
      have := Nat.pow_le_pow_right (n := 2) (by decide) hk
      have h := Int.ofNat_le.mpr this
      simpa using h
    have h2 : ((2 : Int) ^ k - 1) % ((2 ^ 32 : Nat) : Int) = 2 ^ k - 1 := Int.emod_eq_of_lt (by omega) (by show _ < (4294967296 : Int); have : (2 : Int) ^ 31 = 2147483648 := rfl; omega)
    rw [h2]
    have h3 : ((2 : Int) ^ k) = ((2 ^ k : Nat) : Int) := by simp
    omega
  rw [pk_and (J a) k hm]
  show Int32.ofNat _ = Int32.ofInt _
  rw [← Int32.ofInt_eq_ofNat]
  congr 1
  show ((((BitVec.ofInt 32 a).toNat % 2 ^ k : Nat)) : Int) = _
  rw [BitVec.toNat_ofInt, Int.natCast_emod, Int.toNat_of_nonneg (Int.emod_nonneg _ (by decide)), Int.natCast_pow]
  exact Int.emod_emod_of_dvd a (by
    have := Nat.pow_dvd_pow 2 (show k ≤ 32 by omega)
    have h := Int.natCast_dvd_natCast.mpr this
    simpa using h)
theorem J_and1 (a : Int) : J a &&& J 1 = J (a % 2) := J_andN a 1 (by decide)
theorem J_and7 (a : Int) : J a &&& J 7 = J (a % 8) := J_andN a 3 (by decide)
def dg (b r : Int) : Int := b / 8 ^ r.toNat % 8
theorem dg_bd (b r : Int) : 0 ≤ dg b r ∧ dg b r < 8 := ⟨Int.emod_nonneg _ (by decide), Int.emod_lt_of_pos _ (by decide)⟩
theorem dg_shr {b r : Int} (h : 0 ≤ r) : b / 2 ^ (3 * r).toNat % 8 = dg b r := by
  unfold dg
  rw [show (3 * r).toNat = 3 * r.toNat by omega, Int.pow_mul]
  rfl

set_option maxRecDepth 100000 in
set_option maxHeartbeats 4000000 in
theorem c_X12_in (l : Launch) (G : GT) (w0 : va_W)  (v : Int) (low : Int) (high : Int) (hr : (-2147483648 ≤ v ∧ v < 2147483648) ∧ (-2147483648 ≤ low ∧ low < 2147483648) ∧ -2147483648 ≤ high ∧ high < 2147483648) : CT l yX12_in cX12_in 3 (some .boolean) 0 0 0 G [.int (J v), .int (J low), .int (J high)] w0 (fun vo wo => vo = some (.int (J (bI (low ≤ v ∧ v ≤ high)))) ∧ wo = w0) := by
  refine CT_of (own := RX12) rfl rfl (Nat.le_of_ble_eq_true rfl) (fun K hl hnL hC hRT hin => ?_)
  subst hl
  show WW K G 0 0 w0 0 [(0, .int (J v)), (1, .int (J low)), (2, .int (J high))] []
  refine w_iload_n (pc := 0) hC dX12_in_0 0 rfl rfl ?_
  refine w_iload_n (pc := 1) hC dX12_in_1 1 rfl rfl ?_
  refine w_icmp_lt (pc := 2) (tgt := 14) hC dX12_in_2 (by decide) (by omega) (fun c2 => ?_) (fun c2 => ?_)
  · refine w_iconst (pc := 14) hC dX12_in_14 ?_
    refine w_iret (pc := 15) hC hRT dX12_in_15 rfl ?_
    refine ⟨retI (by first | rfl | exact (bI_t (by omega)).symm | exact (bI_f (by omega)).symm | omega), rfl⟩
  · refine w_iload_n (pc := 5) hC dX12_in_5 0 rfl rfl ?_
    refine w_iload_n (pc := 6) hC dX12_in_6 2 rfl rfl ?_
    refine w_icmp_gt (pc := 7) (tgt := 14) hC dX12_in_7 (by decide) (by omega) (fun c7 => ?_) (fun c7 => ?_)
    · refine w_iconst (pc := 14) hC dX12_in_14 ?_
      refine w_iret (pc := 15) hC hRT dX12_in_15 rfl ?_
      refine ⟨retI (by first | rfl | exact (bI_t (by omega)).symm | exact (bI_f (by omega)).symm | omega), rfl⟩
    · refine w_iconst (pc := 10) hC dX12_in_10 ?_
      refine w_goto (pc := 11) hC dX12_in_11 (tgt := 15) (by decide) ?_
      refine w_iret (pc := 15) hC hRT dX12_in_15 rfl ?_
      refine ⟨retI (by first | rfl | exact (bI_t (by omega)).symm | exact (bI_f (by omega)).symm | omega), rfl⟩
set_option maxRecDepth 100000 in
set_option maxHeartbeats 4000000 in
theorem c_X12_nameOn (l : Launch) (G : GT) (w0 : va_W)  (board : Int) (rung : Int) (hb : -2147483648 ≤ board ∧ board < 2147483648) (hg : 0 ≤ rung ∧ rung ≤ 10) : CT l yX12_nameOn cX12_nameOn 2 (some .int) 0 0 0 G [.int (J board), .int (J rung)] w0 (fun vo wo => vo = some (.int (J (dg board rung))) ∧ wo = w0) := by
  refine CT_of (own := RX12) rfl rfl (Nat.le_of_ble_eq_true rfl) (fun K hl hnL hC hRT hin => ?_)
  subst hl
  show WW K G 0 0 w0 0 [(0, .int (J board)), (1, .int (J rung))] []
  refine w_iload_n (pc := 0) hC dX12_nameOn_0 0 rfl rfl ?_
  refine w_iconst (pc := 1) hC dX12_nameOn_1 ?_
  refine w_iload_n (pc := 2) hC dX12_nameOn_2 1 rfl rfl ?_
  refine w_imul (pc := 3) hC dX12_nameOn_3 ?_
  refine w_ishr (pc := 4) hC dX12_nameOn_4 (by omega) ?_
  refine w_bipush (pc := 5) hC dX12_nameOn_5 (z := 7) rfl ?_
  refine w_iand (pc := 7) hC dX12_nameOn_7 (v := (board / 2 ^ (3 * rung).toNat) % 8) (J_and7 _) ?_
  refine w_top (e2 := dg board rung) (by exact dg_shr hg.1) ?_
  refine w_iret (pc := 8) hC hRT dX12_nameOn_8 rfl ?_
  refine ⟨retI (by first | rfl | exact (bI_t (by omega)).symm | exact (bI_f (by omega)).symm | omega), rfl⟩
set_option maxRecDepth 100000 in
set_option maxHeartbeats 4000000 in
theorem c_X12_isDay (l : Launch) (G : GT) (w0 : va_W)  (d : Int) (hd : -2147483648 ≤ d ∧ d < 2147483648) : CT l yX12_isDay cX12_isDay 1 (some .boolean) 1 0 0 G [.int (J d)] w0 (fun vo wo => vo = some (.int (J (bI (0 ≤ d ∧ d ≤ 999)))) ∧ wo = w0) := by
  refine CT_of (own := RX12) rfl rfl (Nat.le_of_ble_eq_true rfl) (fun K hl hnL hC hRT hin => ?_)
  subst hl
  show WW K G 0 0 w0 0 [(0, .int (J d))] []
  refine w_iload_n (pc := 0) hC dX12_isDay_0 0 rfl rfl ?_
  refine w_iconst (pc := 1) hC dX12_isDay_1 ?_
  refine w_sipush (pc := 2) hC dX12_isDay_2 (z := 999) rfl ?_
  refine w_callS (pc := 5) (As := [.int (J d), .int (J 0), .int (J 999)]) (rest := []) hC dX12_isDay_5 cs_X12_48 (c_X12_in (kl K) G w0 d 0 999 (by first | assumption | omega)) (by decide) ⟨Nat.le_of_ble_eq_true rfl, Nat.le_of_ble_eq_true rfl⟩ rfl (Nat.le_of_ble_eq_true rfl) rfl (fun vo wo hv => ?_)
  obtain ⟨hv1, hw1⟩ := hv
  rw [hv1, hw1]
  show WW K G 0 0 w0 8 [(0, .int (J d))] [.int (J (bI (0 ≤ d ∧ d ≤ 999)))]
  refine w_iret (pc := 8) hC hRT dX12_isDay_8 bI_narrow ?_
  refine ⟨retI (by first | rfl | exact (bI_t (by omega)).symm | exact (bI_f (by omega)).symm | omega), rfl⟩
