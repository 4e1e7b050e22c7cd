
theorem cnt_s (p : Int → Bool) {b : Int} (h : 0 ≤ b) : cnt p (b + 1).toNat = cnt p b.toNat + (if p b = true then 1 else 0) := by
  rw [show (b + 1).toNat = b.toNat + 1 by omega]
  show cnt p b.toNat + (if p ((b.toNat : Nat) : Int) = true then 1 else 0) = _
  rw [Int.toNat_of_nonneg h]
theorem cd_s (f : Int → Int) {k : Int} (h : 0 ≤ k) : cd f (k + 1).toNat = cd f k.toNat + f k * 8 ^ k.toNat := by
  rw [show (k + 1).toNat = k.toNat + 1 by omega]
  show cd f k.toNat + f ((k.toNat : Nat) : Int) * 8 ^ k.toNat = _
  rw [Int.toNat_of_nonneg h]
theorem or8 {x v k : Int} (hk : 0 ≤ k) (h1 : 0 ≤ x) (h2 : x < 8 ^ k.toNat) (hv : 0 ≤ v) : J x ||| J (v * 2 ^ (3 * k).toNat) = J (x + v * 8 ^ k.toNat) := by
  rw [show (3 * k).toNat = 3 * k.toNat by omega, p38]
  have hp := p8 k.toNat
  rw [J_or ⟨h1, Int.mul_nonneg hv (by omega)⟩, ← p38, ior_add h1 (by rw [p38]; exact h2) hv]
theorem or0 (x : Int) (h : 0 ≤ x) : J x ||| J 0 = J x := by
  rw [J_or ⟨h, by decide⟩]
  unfold ior
  rw [show (0 : Int).toNat = 0 from rfl, Nat.or_zero, Int.toNat_of_nonneg h]
/-- the names that stand ahead of place (n, a), by how many they are stronger than, then by number -/
def plc (S : Int → Int) (n a : Int) : Int := cnt (fun b => decide (n < wk S b ∨ wk S b = n ∧ b < a)) (S 0).toNat
theorem plc_ah (S : Int → Int) {n a : Int} (h : wk S a = n) : plc S n a = ah S a := by
  subst h
  rfl
theorem plc_bd (S : Int → Int) (n a : Int) (h : 0 ≤ S 0) : 0 ≤ plc S n a ∧ plc S n a ≤ S 0 := by
  have := cnt_bd (fun b => decide (n < wk S b ∨ wk S b = n ∧ b < a)) (S 0).toNat
  unfold plc
  omega
theorem plc_yes (S : Int → Int) {n a : Int} (h1 : 0 ≤ a) (h2 : a < S 0) (h : wk S a = n) : plc S n (a + 1) = plc S n a + 1 := by
  unfold plc
  refine cnt_add1 (x := a) h1 (by omega) (by simp; omega) (by simp; omega) (fun i _ _ g => ?_)
  congr 1
  exact propext ⟨fun h => by omega, fun h => by omega⟩
theorem plc_no (S : Int → Int) {n a : Int} (h : wk S a ≠ n) : plc S n (a + 1) = plc S n a := by
  unfold plc
  refine cnt_congr (fun i _ _ => ?_)
  congr 1
  exact propext ⟨fun g => by
    rcases g with g | g
    · exact Or.inl g
    · have : i ≠ a := fun e => h (by rw [← e]; exact g.1)
      omega, fun g => by omega⟩
theorem plc_next (S : Int → Int) (n : Int) : plc S n (S 0) = plc S (n - 1) 0 := by
  unfold plc
  refine cnt_congr (fun i _ _ => ?_)
  congr 1
  exact propext ⟨fun g => by omega, fun g => by omega⟩
theorem plc_top (S : Int → Int) {n : Int} (h : S 0 ≤ n + 1) : plc S n 0 = 0 := by
  unfold plc
  refine cnt_none (fun i h1 h2 => ?_)
  have := wk_lt S h1 (a := i) (by omega)
  simp
  omega
theorem plc_end (S : Int → Int) (h : 0 ≤ S 0) : plc S (-1) 0 = S 0 := by
  unfold plc
  rw [cnt_all (fun i h1 h2 => ?_)]
  · omega
  · have := wk_bd S i h
    simp
    omega
/-! ===== what the methods of the board answer, and what they leave ===== -/
def v_name (S : Int → Int) : Int := if S 0 = 6 then -4 else S 0
def n_name (S : Int → Int) : Int → Int := if S 0 = 6 then S else fun j => if j = 0 then S 0 + 1 else if j = 6 then S 6 + S 0 * 8 ^ (S 0).toNat else if j = 166 + S 0 then 0 else if j = 172 + S 0 then 0 else if 130 ≤ j ∧ j < 166 ∧ ((j - 130) / 6 = S 0 ∨ (j - 130) % 6 = S 0) then 50 else S j
def v_chance (S : Int → Int) (a b n : Int) : Int := if ¬ (0 ≤ a ∧ a < S 0) ∨ ¬ (0 ≤ b ∧ b < S 0) then -1 else if a = b ∨ ¬ (0 ≤ n ∧ n ≤ 100) then -2 else S (130 + 6 * a + b)
def n_chance (S : Int → Int) (a b n : Int) : Int → Int := if (0 ≤ a ∧ a < S 0) ∧ (0 ≤ b ∧ b < S 0) ∧ ¬ a = b ∧ 0 ≤ n ∧ n ≤ 100 then gu (gu S (130 + 6 * a + b) n) (130 + 6 * b + a) (100 - n) else S
def v_beats (S : Int → Int) (a b : Int) : Int := if ¬ (0 ≤ a ∧ a < S 0) ∨ ¬ (0 ≤ b ∧ b < S 0) then -1 else if a = b then -2 else S (130 + 6 * a + b)
def v_board (S : Int → Int) (r w : Int) : Int := if (0 ≤ r ∧ r < S 0) ∧ (0 ≤ w ∧ w ≤ 1) then (if w = 0 then dg (S 6) r else dg (TB S) r) else -1
def v_hang (S : Int → Int) (a r : Int) : Int := if ¬ (0 ≤ a ∧ a < S 0) ∨ ¬ (0 ≤ r ∧ r < S 0) then -1 else rk (S 0) (S 6) a
def n_hang (S : Int → Int) (a r : Int) : Int → Int := if (0 ≤ a ∧ a < S 0) ∧ (0 ≤ r ∧ r < S 0) then gu S 6 (mvd (S 0) (S 6) a r) else S
def psum (g : Int → Int → Bool) : Nat → Int
  | 0 => 0
  | k + 1 => psum g k + cnt (g (k : Int)) k
theorem psum_s (g : Int → Int → Bool) {k : Int} (h : 0 ≤ k) : psum g (k + 1).toNat = psum g k.toNat + cnt (g k) k.toNat := by
  rw [show (k + 1).toNat = k.toNat + 1 by omega]
  show psum g k.toNat + cnt (g ((k.toNat : Nat) : Int)) k.toNat = _
  rw [Int.toNat_of_nonneg h]
theorem psum_bd (g : Int → Int → Bool) : ∀ k : Nat, k ≤ 6 → 0 ≤ psum g k ∧ psum g k ≤ 6 * (k : Int)
  | 0, _ => by simp [psum]
  | k + 1, h => by
    have ih := psum_bd g k (by omega)
    have := cnt_bd (g (k : Int)) k
    unfold psum
    omega
def disc (S : Int → Int) (a b : Int) : Bool := decide (¬ (rk (S 0) (TB S) a < rk (S 0) (TB S) b ↔ rk (S 0) (S 6) a < rk (S 0) (S 6) b))
def FAR (S : Int → Int) : Int := psum (disc S) (S 0).toNat
def v_feed (S : Int → Int) (n : Int) : Int := if ¬ (1 ≤ n ∧ n ≤ 8) then -2 else if 120 < S 5 + n then -4 else S 5 + n
def n_feed (S : Int → Int) (w n : Int) : Int → Int := if (1 ≤ n ∧ n ≤ 8) ∧ S 5 + n ≤ 120 then fun j => if j = 5 then S 5 + n else if 10 + S 5 ≤ j ∧ j < 10 + S 5 + n then w / 2 ^ (8 * (n - 1 - (j - 10 - S 5))).toNat % 256 else S j else S
def v_pass (S : Int → Int) (n : Int) : Int := if (1 ≤ n ∧ n ≤ 99) ∧ S 2 + n ≤ 999 then S 2 + n else -2
def n_pass (S : Int → Int) (n : Int) : Int → Int := if (1 ≤ n ∧ n ≤ 99) ∧ S 2 + n ≤ 999 then gu S 2 (S 2 + n) else S
def v_past (S : Int → Int) (a b n : Int) : Int := if ¬ (0 ≤ a ∧ a < S 0) ∨ ¬ (0 ≤ b ∧ b < S 0) then -1 else if a = b ∨ ¬ (0 ≤ n ∧ n ≤ 99) then -2 else S (929 + 6 * a + b)
def n_past (S : Int → Int) (a b n : Int) : Int → Int := if (0 ≤ a ∧ a < S 0) ∧ (0 ≤ b ∧ b < S 0) ∧ ¬ a = b ∧ 0 ≤ n ∧ n ≤ 99 then gu S (929 + 6 * a + b) n else S
def v_row (S : Int → Int) (a : Int) : Int := if a = -2 then 0 else if ¬ (-1 ≤ a ∧ a ≤ 5) then -2 else if S 4 = 6 then -4 else S 4 + 1
def n_row (S : Int → Int) (a : Int) : Int → Int := if a = -2 then gu S 4 0 else if ¬ (-1 ≤ a ∧ a ≤ 5) then S else if S 4 = 6 then S else gu (gu S (923 + S 4) a) 4 (S 4 + 1)
def v_round (S : Int → Int) (i j : Int) : Int := if i = -1 then 0 else if ¬ (0 ≤ i ∧ i ≤ 5) ∨ ¬ (0 ≤ j ∧ j ≤ 5) ∨ j ≤ i then -2 else if S 3 = 15 then -4 else S 3 + 1
def n_round (S : Int → Int) (i j : Int) : Int → Int := if i = -1 then gu S 3 0 else if ¬ (0 ≤ i ∧ i ≤ 5) ∨ ¬ (0 ≤ j ∧ j ≤ 5) ∨ j ≤ i then S else if S 3 = 15 then S else gu (gu (gu S (893 + 2 * S 3) i) (893 + 2 * S 3 + 1) j) 3 (S 3 + 1)
def v_count (S : Int → Int) (ran w : Int) : Int := if w = 0 then S 0 else if w = 1 then S 1 else if w = 2 then S 2 else if w = 3 then S 3 else if w = 4 then S 4 else if w = 5 then S 5 else if w = 6 then ran else -1
def und (kd k : Int) : Prop := k = 0 ∨ k = kd ∨ (k = 2 ∧ (kd = 3 ∨ kd = 4)) ∨ (k = 5 ∧ kd = 6)
def v_as (S : Int → Int) (a k : Int) : Int := if ¬ (0 ≤ a ∧ a < S 0) ∨ ¬ (0 ≤ k ∧ k ≤ 6) then -1 else if (k = 0 ∨ k = S (166 + a) ∨ (k = 2 ∧ (S (166 + a) = 3 ∨ S (166 + a) = 4)) ∨ (k = 5 ∧ S (166 + a) = 6)) then S (172 + a) else -6
def v_asker (S : Int → Int) (a k v : Int) : Int := if ¬ (0 ≤ a ∧ a < S 0) ∨ ¬ (0 ≤ k ∧ k ≤ 6) then -1 else if ¬ (0 ≤ v ∧ v ≤ 100) then -2 else S (166 + a)
def n_asker (S : Int → Int) (a k v : Int) : Int → Int := if (0 ≤ a ∧ a < S 0) ∧ (0 ≤ k ∧ k ≤ 6) ∧ 0 ≤ v ∧ v ≤ 100 then gu (gu S (166 + a) k) (172 + a) v else S
theorem JL_and255 (a : Int) : JL a &&& JL 255 = JL (a % 256) := by
  apply Int64.toBitVec_inj.mp
  apply BitVec.eq_of_toNat_eq
  show ((BitVec.ofInt 64 a) &&& (BitVec.ofInt 64 255)).toNat = (BitVec.ofInt 64 (a % 256)).toNat
  rw [BitVec.toNat_and, BitVec.toNat_ofInt, BitVec.toNat_ofInt, BitVec.toNat_ofInt]
  show (a % 18446744073709551616).toNat &&& (2 ^ 8 - 1) = (a % 256 % 18446744073709551616).toNat
  rw [Nat.and_two_pow_sub_one_eq_mod]
  omega

set_option maxRecDepth 100000 in
set_option maxHeartbeats 4000000 in
theorem c_X12_moved (l : Launch) (G : GT) (A : Nat → Nat) (I : Nat → Int → Int) (F : Nat → Int)  (board : Int) (name : Int) (rung : Int) (hR : RI (I 1)) (hV : VB ((I 1) 0) board) (ha : 0 ≤ name ∧ name < (I 1) 0) (ht : 0 ≤ rung ∧ rung < (I 1) 0) : CT l yX12_moved cX12_moved 8 (some .int) 1 0 0 G [.ref (A 0), .int (J board), .int (J name), .int (J rung)] (MW A G.2.1 I F) (fun vo wo => vo = some (.int (J (mvd ((I 1) 0) board name rung))) ∧ wo = MW A G.2.1 I F) := by
  refine CT_of (own := RX12) rfl rfl (Nat.le_of_ble_eq_true rfl) (fun K hl hnL hC hRT hin => ?_)
  subst hl
  show WW K G 0 0 (MW A G.2.1 I F) 0 [(0, .ref (A 0)), (1, .int (J board)), (2, .int (J name)), (3, .int (J rung))] []
  have hn := hR.n
  have hb := VB_rng hV
  have hk := rk_spec hV ha.1 ha.2
  generalize hp : rk (I 1 0) board name = p at hk
  refine w_iconst (pc := 0) hC dX12_moved_0 ?_
  refine w_istore (pc := 1) hC dX12_moved_1 (lv2 := [(4, .int (J 0)), (0, .ref (A 0)), (1, .int (J board)), (2, .int (J name)), (3, .int (J rung))]) (by rw [hnL]; decide) rfl ?_
  refine w_iconst (pc := 3) hC dX12_moved_3 ?_
  refine w_istore (pc := 4) hC dX12_moved_4 (lv2 := [(5, .int (J 0)), (4, .int (J 0)), (0, .ref (A 0)), (1, .int (J board)), (2, .int (J name)), (3, .int (J rung))]) (by rw [hnL]; decide) rfl ?_
  refine w_iconst (pc := 6) hC dX12_moved_6 ?_
  refine w_istore (pc := 7) hC dX12_moved_7 (lv2 := [(6, .int (J 0)), (5, .int (J 0)), (4, .int (J 0)), (0, .ref (A 0)), (1, .int (J board)), (2, .int (J name)), (3, .int (J rung))]) (by rw [hnL]; decide) rfl ?_
  have loop9 : ∀ (nF : Nat) (nx : Int) (fr : Int) (k : Int), (0 ≤ k ∧ k ≤ (I 1) 0) → (nx = cd (fun k => dg board (mvi p rung k)) k.toNat) → (fr = if (if rung < k then k - 1 else k) ≤ p then (if rung < k then k - 1 else k) else (if rung < k then k - 1 else k) + 1) → (0 ≤ fr ∧ fr ≤ (I 1) 0) → ((I 1) 0 - k) < (nF : Int) → WW K G 0 0 (MW A G.2.1 I F) 9 [(0, .ref (A 0)), (1, .int (J board)), (2, .int (J name)), (3, .int (J rung)), (4, .int (J nx)), (5, .int (J fr)), (6, .int (J k))] [] := by
    intro nF
    induction nF with
    | zero => intro nx fr k i1 i2 i3 i4 hm9; exact absurd hm9 (by omega)
    | succ nF ih9 =>
      intro nx fr k i1 i2 i3 i4 hm9
      refine w_iload (pc := 9) hC dX12_moved_9 6 rfl ?_
      refine w_aload_n (pc := 11) hC dX12_moved_11 0 rfl rfl ?_
      refine w_getf (pc := 12) (v := .ref (A 1)) hC dX12_moved_12 fi_X12_9 0 rfl rfl ?_
      refine w_iconst (pc := 15) hC dX12_moved_15 ?_
      refine w_iald (pc := 16) (g := (I 1)) hC dX12_moved_16 1 rfl (by omega) (Nat.le_of_ble_eq_true rfl) ?_
      refine w_icmp_ge (pc := 17) (tgt := 78) hC dX12_moved_17 (by decide) (by omega) (fun c17 => ?_) (fun c17 => ?_)
      · refine w_iload (pc := 78) hC dX12_moved_78 4 rfl ?_
        refine w_iret (pc := 80) hC hRT dX12_moved_80 rfl ?_
        refine ⟨retI (by unfold mvd brd; rw [hp, i2, show k = I 1 0 by omega]), rfl⟩
      · refine w_iload_n (pc := 20) hC dX12_moved_20 2 rfl rfl ?_
        refine w_istore (pc := 21) hC dX12_moved_21 (lv2 := [(7, .int (J name)), (0, .ref (A 0)), (1, .int (J board)), (2, .int (J name)), (3, .int (J rung)), (4, .int (J nx)), (5, .int (J fr)), (6, .int (J k))]) (by rw [hnL]; decide) rfl ?_
        refine w_iload (pc := 23) hC dX12_moved_23 7 rfl ?_
        refine w_iload_n (pc := 25) hC dX12_moved_25 4 rfl rfl ?_
        refine w_icmp_eq (pc := 26) (tgt := 60) hC dX12_moved_26 (by decide) (by omega) (fun c26 => ?_) (fun c26 => ?_)
        · refine w_iload (pc := 60) hC dX12_moved_60 5 rfl ?_
          refine w_iload (pc := 62) hC dX12_moved_62 0 rfl ?_
          refine w_iconst (pc := 64) hC dX12_moved_64 ?_
          refine w_iload (pc := 65) hC dX12_moved_65 7 rfl ?_
          refine w_imul (pc := 67) hC dX12_moved_67 ?_
          refine w_ishl (pc := 68) hC dX12_moved_68 (by have := sh_bd (v := name) (k := k) (by omega) (by omega); omega) ?_
          refine w_ior (pc := 69) hC dX12_moved_69 (v := cd (fun k => dg board (mvi p rung k)) (k + 1).toNat) (cd_or i1.1 (fun i _ _ => dg_bd board _) i2 (by first | (rw [c26]; unfold mvi; rw [if_pos rfl]; exact hk.2.symm) | (congr 1; unfold mvi; (repeat' split) <;> (repeat' split at i3) <;> omega)) (by omega)) ?_
          refine w_istore (pc := 70) hC dX12_moved_70 (lv2 := [(4, .int (J (cd (fun k => dg board (mvi p rung k)) (k + 1).toNat))), (7, .int (J name)), (0, .ref (A 0)), (1, .int (J board)), (2, .int (J name)), (3, .int (J rung)), (5, .int (J fr)), (6, .int (J k))]) (by rw [hnL]; decide) rfl ?_
          refine w_iinc (pc := 72) hC dX12_moved_72 (lv2 := [(6, .int (J (k + 1))), (4, .int (J (cd (fun k => dg board (mvi p rung k)) (k + 1).toNat))), (7, .int (J name)), (0, .ref (A 0)), (1, .int (J board)), (2, .int (J name)), (3, .int (J rung)), (5, .int (J fr))]) 7 rfl (by rw [hnL]; decide) rfl ?_
          refine w_goto (pc := 75) hC dX12_moved_75 (tgt := 9) (by decide) ?_
          refine w_sub [3, 4, 5, 6, 1, 7, 0] (lv2 := [(0, .ref (A 0)), (1, .int (J board)), (2, .int (J name)), (3, .int (J rung)), (4, .int (J (cd (fun k => dg board (mvi p rung k)) (k + 1).toNat))), (5, .int (J fr)), (6, .int (J (k + 1)))]) rfl ?_
          refine ih9 (cd (fun k => dg board (mvi p rung k)) (k + 1).toNat) fr (k + 1) ?_ ?_ ?_ ?_ ?_
          · first | assumption | omega
          · rfl
          · (repeat' split) <;> (repeat' split at i3) <;> omega
          · omega
          · omega
        · have hfn : fr < I 1 0 := by (repeat' split at i3) <;> omega
          have hfp : dg board fr = name ↔ fr = p := ⟨fun e => VB_inj hV i4.1 hfn hk.1.1 hk.1.2 (e.trans hk.2.symm), fun e => by rw [e]; exact hk.2⟩
          refine w_iload (pc := 29) hC dX12_moved_29 6 rfl ?_
          refine w_iload_n (pc := 31) hC dX12_moved_31 2 rfl rfl ?_
          refine w_iload (pc := 32) hC dX12_moved_32 6 rfl ?_
          refine w_callS (pc := 34) (As := [.int (J board), .int (J fr)]) (rest := [.int (J fr)]) hC dX12_moved_34 cs_X12_52 (c_X12_nameOn (kl K) G (MW A G.2.1 I F) board fr (show -2147483648 ≤ board ∧ board < 2147483648 from by omega) (show 0 ≤ fr ∧ fr ≤ 10 from by first | assumption | omega)) (by decide) ⟨Nat.le_of_ble_eq_true rfl, Nat.le_of_ble_eq_true rfl⟩ rfl (Nat.le_of_ble_eq_true rfl) rfl (fun vo wo hv => ?_)
          obtain ⟨hv1, hw1⟩ := hv
          rw [hv1, hw1]
          show WW K G 0 0 (MW A G.2.1 I F) 37 [(7, .int (J name)), (0, .ref (A 0)), (1, .int (J board)), (2, .int (J name)), (3, .int (J rung)), (4, .int (J nx)), (5, .int (J fr)), (6, .int (J k))] [.int (J (dg board fr)), .int (J fr)]
          have q34_0 := dg_bd board fr
          refine w_iload_n (pc := 37) hC dX12_moved_37 3 rfl rfl ?_
          refine w_icmp_ne (pc := 38) (tgt := 45) hC dX12_moved_38 (by decide) (by omega) (fun c38 => ?_) (fun c38 => ?_)
          · refine w_iconst (pc := 45) hC dX12_moved_45 ?_
            refine w_iadd (pc := 46) hC dX12_moved_46 ?_
            refine w_istore (pc := 47) hC dX12_moved_47 (lv2 := [(5, .int (J (fr + 0))), (7, .int (J name)), (0, .ref (A 0)), (1, .int (J board)), (2, .int (J name)), (3, .int (J rung)), (4, .int (J nx)), (6, .int (J k))]) (by rw [hnL]; decide) rfl ?_
            refine w_iload_n (pc := 49) hC dX12_moved_49 3 rfl rfl ?_
            refine w_iload (pc := 50) hC dX12_moved_50 0 rfl ?_
            refine w_callS (pc := 52) (As := [.int (J board), .int (J (fr + 0))]) (rest := []) hC dX12_moved_52 cs_X12_52 (c_X12_nameOn (kl K) G (MW A G.2.1 I F) board (fr + 0) (show -2147483648 ≤ board ∧ board < 2147483648 from by omega) (show 0 ≤ (fr + 0) ∧ (fr + 0) ≤ 10 from by first | assumption | omega)) (by decide) ⟨Nat.le_of_ble_eq_true rfl, Nat.le_of_ble_eq_true rfl⟩ rfl (Nat.le_of_ble_eq_true rfl) rfl (fun vo wo hv => ?_)
            obtain ⟨hv1, hw1⟩ := hv
            rw [hv1, hw1]
            show WW K G 0 0 (MW A G.2.1 I F) 55 [(5, .int (J (fr + 0))), (7, .int (J name)), (0, .ref (A 0)), (1, .int (J board)), (2, .int (J name)), (3, .int (J rung)), (4, .int (J nx)), (6, .int (J k))] [.int (J (dg board (fr + 0)))]
            have q52_0 := dg_bd board (fr + 0)
            refine w_istore (pc := 55) hC dX12_moved_55 (lv2 := [(7, .int (J (dg board (fr + 0)))), (5, .int (J (fr + 0))), (0, .ref (A 0)), (1, .int (J board)), (2, .int (J name)), (3, .int (J rung)), (4, .int (J nx)), (6, .int (J k))]) (by rw [hnL]; decide) rfl ?_
            refine w_iinc (pc := 57) hC dX12_moved_57 (lv2 := [(5, .int (J ((fr + 0) + 1))), (7, .int (J (dg board (fr + 0)))), (0, .ref (A 0)), (1, .int (J board)), (2, .int (J name)), (3, .int (J rung)), (4, .int (J nx)), (6, .int (J k))]) 1 rfl (by rw [hnL]; decide) rfl ?_
            refine w_iload (pc := 60) hC dX12_moved_60 6 rfl ?_
            refine w_iload (pc := 62) hC dX12_moved_62 1 rfl ?_
            refine w_iconst (pc := 64) hC dX12_moved_64 ?_
            refine w_iload (pc := 65) hC dX12_moved_65 7 rfl ?_
            refine w_imul (pc := 67) hC dX12_moved_67 ?_
            refine w_ishl (pc := 68) hC dX12_moved_68 (by have := sh_bd (v := (dg board (fr + 0))) (k := k) (by omega) (by omega); omega) ?_
            refine w_ior (pc := 69) hC dX12_moved_69 (v := cd (fun k => dg board (mvi p rung k)) (k + 1).toNat) (cd_or i1.1 (fun i _ _ => dg_bd board _) i2 (by first | (rw [c26]; unfold mvi; rw [if_pos rfl]; exact hk.2.symm) | (congr 1; unfold mvi; (repeat' split) <;> (repeat' split at i3) <;> omega)) (by omega)) ?_
            refine w_istore (pc := 70) hC dX12_moved_70 (lv2 := [(4, .int (J (cd (fun k => dg board (mvi p rung k)) (k + 1).toNat))), (5, .int (J ((fr + 0) + 1))), (7, .int (J (dg board (fr + 0)))), (0, .ref (A 0)), (1, .int (J board)), (2, .int (J name)), (3, .int (J rung)), (6, .int (J k))]) (by rw [hnL]; decide) rfl ?_
            refine w_iinc (pc := 72) hC dX12_moved_72 (lv2 := [(6, .int (J (k + 1))), (4, .int (J (cd (fun k => dg board (mvi p rung k)) (k + 1).toNat))), (5, .int (J ((fr + 0) + 1))), (7, .int (J (dg board (fr + 0)))), (0, .ref (A 0)), (1, .int (J board)), (2, .int (J name)), (3, .int (J rung))]) 7 rfl (by rw [hnL]; decide) rfl ?_
            refine w_goto (pc := 75) hC dX12_moved_75 (tgt := 9) (by decide) ?_
            refine w_sub [4, 5, 6, 7, 1, 2, 0] (lv2 := [(0, .ref (A 0)), (1, .int (J board)), (2, .int (J name)), (3, .int (J rung)), (4, .int (J (cd (fun k => dg board (mvi p rung k)) (k + 1).toNat))), (5, .int (J ((fr + 0) + 1))), (6, .int (J (k + 1)))]) rfl ?_
            refine ih9 (cd (fun k => dg board (mvi p rung k)) (k + 1).toNat) ((fr + 0) + 1) (k + 1) ?_ ?_ ?_ ?_ ?_
            · first | assumption | omega
            · rfl
            · (repeat' split) <;> (repeat' split at i3) <;> omega
            · omega
            · omega
          · refine w_iconst (pc := 41) hC dX12_moved_41 ?_
            refine w_goto (pc := 42) hC dX12_moved_42 (tgt := 46) (by decide) ?_
            refine w_iadd (pc := 46) hC dX12_moved_46 ?_
            refine w_istore (pc := 47) hC dX12_moved_47 (lv2 := [(5, .int (J (fr + 1))), (7, .int (J name)), (0, .ref (A 0)), (1, .int (J board)), (2, .int (J name)), (3, .int (J rung)), (4, .int (J nx)), (6, .int (J k))]) (by rw [hnL]; decide) rfl ?_
            refine w_iload_n (pc := 49) hC dX12_moved_49 3 rfl rfl ?_
            refine w_iload (pc := 50) hC dX12_moved_50 0 rfl ?_
            refine w_callS (pc := 52) (As := [.int (J board), .int (J (fr + 1))]) (rest := []) hC dX12_moved_52 cs_X12_52 (c_X12_nameOn (kl K) G (MW A G.2.1 I F) board (fr + 1) (show -2147483648 ≤ board ∧ board < 2147483648 from by omega) (show 0 ≤ (fr + 1) ∧ (fr + 1) ≤ 10 from by first | assumption | omega)) (by decide) ⟨Nat.le_of_ble_eq_true rfl, Nat.le_of_ble_eq_true rfl⟩ rfl (Nat.le_of_ble_eq_true rfl) rfl (fun vo wo hv => ?_)
            obtain ⟨hv1, hw1⟩ := hv
            rw [hv1, hw1]
            show WW K G 0 0 (MW A G.2.1 I F) 55 [(5, .int (J (fr + 1))), (7, .int (J name)), (0, .ref (A 0)), (1, .int (J board)), (2, .int (J name)), (3, .int (J rung)), (4, .int (J nx)), (6, .int (J k))] [.int (J (dg board (fr + 1)))]
            have q52_0 := dg_bd board (fr + 1)
            refine w_istore (pc := 55) hC dX12_moved_55 (lv2 := [(7, .int (J (dg board (fr + 1)))), (5, .int (J (fr + 1))), (0, .ref (A 0)), (1, .int (J board)), (2, .int (J name)), (3, .int (J rung)), (4, .int (J nx)), (6, .int (J k))]) (by rw [hnL]; decide) rfl ?_
            refine w_iinc (pc := 57) hC dX12_moved_57 (lv2 := [(5, .int (J ((fr + 1) + 1))), (7, .int (J (dg board (fr + 1)))), (0, .ref (A 0)), (1, .int (J board)), (2, .int (J name)), (3, .int (J rung)), (4, .int (J nx)), (6, .int (J k))]) 1 rfl (by rw [hnL]; decide) rfl ?_
            refine w_iload (pc := 60) hC dX12_moved_60 6 rfl ?_
            refine w_iload (pc := 62) hC dX12_moved_62 1 rfl ?_
            refine w_iconst (pc := 64) hC dX12_moved_64 ?_
            refine w_iload (pc := 65) hC dX12_moved_65 7 rfl ?_
            refine w_imul (pc := 67) hC dX12_moved_67 ?_
            refine w_ishl (pc := 68) hC dX12_moved_68 (by have := sh_bd (v := (dg board (fr + 1))) (k := k) (by omega) (by omega); omega) ?_
            refine w_ior (pc := 69) hC dX12_moved_69 (v := cd (fun k => dg board (mvi p rung k)) (k + 1).toNat) (cd_or i1.1 (fun i _ _ => dg_bd board _) i2 (by first | (rw [c26]; unfold mvi; rw [if_pos rfl]; exact hk.2.symm) | (congr 1; unfold mvi; (repeat' split) <;> (repeat' split at i3) <;> omega)) (by omega)) ?_
            refine w_istore (pc := 70) hC dX12_moved_70 (lv2 := [(4, .int (J (cd (fun k => dg board (mvi p rung k)) (k + 1).toNat))), (5, .int (J ((fr + 1) + 1))), (7, .int (J (dg board (fr + 1)))), (0, .ref (A 0)), (1, .int (J board)), (2, .int (J name)), (3, .int (J rung)), (6, .int (J k))]) (by rw [hnL]; decide) rfl ?_
            refine w_iinc (pc := 72) hC dX12_moved_72 (lv2 := [(6, .int (J (k + 1))), (4, .int (J (cd (fun k => dg board (mvi p rung k)) (k + 1).toNat))), (5, .int (J ((fr + 1) + 1))), (7, .int (J (dg board (fr + 1)))), (0, .ref (A 0)), (1, .int (J board)), (2, .int (J name)), (3, .int (J rung))]) 7 rfl (by rw [hnL]; decide) rfl ?_
            refine w_goto (pc := 75) hC dX12_moved_75 (tgt := 9) (by decide) ?_
            refine w_sub [4, 5, 6, 7, 1, 2, 0] (lv2 := [(0, .ref (A 0)), (1, .int (J board)), (2, .int (J name)), (3, .int (J rung)), (4, .int (J (cd (fun k => dg board (mvi p rung k)) (k + 1).toNat))), (5, .int (J ((fr + 1) + 1))), (6, .int (J (k + 1)))]) rfl ?_
            refine ih9 (cd (fun k => dg board (mvi p rung k)) (k + 1).toNat) ((fr + 1) + 1) (k + 1) ?_ ?_ ?_ ?_ ?_
            · first | assumption | omega
            · rfl
            · (repeat' split) <;> (repeat' split at i3) <;> omega
            · omega
            · omega
  refine w_sub [3, 4, 5, 6, 2, 1, 0] (lv2 := [(0, .ref (A 0)), (1, .int (J board)), (2, .int (J name)), (3, .int (J rung)), (4, .int (J 0)), (5, .int (J 0)), (6, .int (J 0))]) rfl ?_
  refine loop9 (((I 1) 0 - 0) + 1 : Int).toNat 0 0 0 ?_ ?_ ?_ ?_ ?_
  · first | assumption | omega
  · rfl
  · (repeat' split) <;> omega
  · omega
  · omega
set_option maxRecDepth 100000 in
set_option maxHeartbeats 4000000 in
theorem c_X12_isStronger (l : Launch) (G : GT) (A : Nat → Nat) (I : Nat → Int → Int) (F : Nat → Int)  (a : Int) (b : Int) (hR : RI (I 1)) (ha : 0 ≤ a ∧ a < 6) (hb : 0 ≤ b ∧ b < 6) : CT l yX12_isStronger cX12_isStronger 3 (some .boolean) 0 0 0 G [.ref (A 0), .int (J a), .int (J b)] (MW A G.2.1 I F) (fun vo wo => vo = some (.int (J (bI (50 < (I 1) (130 + 6 * a + b))))) ∧ wo = MW A G.2.1 I F) := by
  refine CT_of (own := RX12) rfl rfl (Nat.le_of_ble_eq_true rfl) (fun K hl hnL hC hRT hin => ?_)
  subst hl
  show WW K G 0 0 (MW A G.2.1 I F) 0 [(0, .ref (A 0)), (1, .int (J a)), (2, .int (J b))] []
  have hn := hR.n
  have hc := hR.chr (130 + 6 * a + b) (by omega) (by omega)
  refine w_aload_n (pc := 0) hC dX12_isStronger_0 0 rfl rfl ?_
  refine w_getf (pc := 1) (v := .ref (A 1)) hC dX12_isStronger_1 fi_X12_9 0 rfl rfl ?_
  refine w_sipush (pc := 4) hC dX12_isStronger_4 (z := 130) rfl ?_
  refine w_bipush (pc := 7) hC dX12_isStronger_7 (z := 6) rfl ?_
  refine w_iload_n (pc := 9) hC dX12_isStronger_9 1 rfl rfl ?_
  refine w_imul (pc := 10) hC dX12_isStronger_10 ?_
  refine w_iadd (pc := 11) hC dX12_isStronger_11 ?_
  refine w_iload_n (pc := 12) hC dX12_isStronger_12 2 rfl rfl ?_
  refine w_iadd (pc := 13) hC dX12_isStronger_13 ?_
  refine w_iald (pc := 14) (g := (I 1)) hC dX12_isStronger_14 1 rfl (by omega) (Nat.le_of_ble_eq_true rfl) ?_
  refine w_bipush (pc := 15) hC dX12_isStronger_15 (z := 50) rfl ?_
  refine w_icmp_le (pc := 17) (tgt := 24) hC dX12_isStronger_17 (by decide) (by omega) (fun c17 => ?_) (fun c17 => ?_)
  · refine w_iconst (pc := 24) hC dX12_isStronger_24 ?_
    refine w_iret (pc := 25) hC hRT dX12_isStronger_25 rfl ?_
    refine ⟨retI (by first | exact (bI_t (by omega)).symm | exact (bI_f (by omega)).symm), rfl⟩
  · refine w_iconst (pc := 20) hC dX12_isStronger_20 ?_
    refine w_goto (pc := 21) hC dX12_isStronger_21 (tgt := 25) (by decide) ?_
    refine w_iret (pc := 25) hC hRT dX12_isStronger_25 rfl ?_
    refine ⟨retI (by first | exact (bI_t (by omega)).symm | exact (bI_f (by omega)).symm), rfl⟩
set_option maxRecDepth 100000 in
set_option maxHeartbeats 4000000 in
theorem c_X12_trueBoard (l : Launch) (G : GT) (A : Nat → Nat) (I : Nat → Int → Int) (F : Nat → Int)   (hR : RI (I 1)) : CT l yX12_trueBoard cX12_trueBoard 7 (some .int) 1 0 0 G [.ref (A 0)] (MW A G.2.1 I F) (fun vo wo => vo = some (.int (J (TB (I 1)))) ∧ wo = MW A G.2.1 I F) := by
  refine CT_of (own := RX12) rfl rfl (Nat.le_of_ble_eq_true rfl) (fun K hl hnL hC hRT hin => ?_)
  subst hl
  show WW K G 0 0 (MW A G.2.1 I F) 0 [(0, .ref (A 0))] []
  have hn := hR.n
  have hT0 := fun (i : Int) (g1 : 0 ≤ i) (g2 : i < I 1 0) => tbn_in (I 1) g1 g2
  refine w_iconst (pc := 0) hC dX12_trueBoard_0 ?_
  refine w_istore_n (pc := 1) hC dX12_trueBoard_1 rfl (lv2 := [(1, .int (J 0)), (0, .ref (A 0))]) (by rw [hnL]; decide) rfl ?_
  refine w_iconst (pc := 2) hC dX12_trueBoard_2 ?_
  refine w_istore_n (pc := 3) hC dX12_trueBoard_3 rfl (lv2 := [(2, .int (J 0)), (1, .int (J 0)), (0, .ref (A 0))]) (by rw [hnL]; decide) rfl ?_
  refine w_iconst (pc := 4) hC dX12_trueBoard_4 ?_
  refine w_istore_n (pc := 5) hC dX12_trueBoard_5 rfl (lv2 := [(3, .int (J 5)), (2, .int (J 0)), (1, .int (J 0)), (0, .ref (A 0))]) (by rw [hnL]; decide) rfl ?_
  have loop6 : ∀ (nF : Nat) (bd : Int) (at_ : Int) (n : Int), (-1 ≤ n ∧ n ≤ 5) → (at_ = plc (I 1) n 0) → (bd = cd (tbn (I 1)) at_.toNat) → (n + 1) < (nF : Int) → WW K G 0 0 (MW A G.2.1 I F) 6 [(0, .ref (A 0)), (1, .int (J bd)), (2, .int (J at_)), (3, .int (J n))] [] := by
    intro nF
    induction nF with
    | zero => intro bd at_ n i1 i2 i3 hm6; exact absurd hm6 (by omega)
    | succ nF ih6 =>
      intro bd at_ n i1 i2 i3 hm6
      refine w_iload_n (pc := 6) hC dX12_trueBoard_6 3 rfl rfl ?_
      refine w_if_lt (pc := 7) (tgt := 120) hC dX12_trueBoard_7 (by decide) (by omega) (fun c7 => ?_) (fun c7 => ?_)
      · refine w_iload_n (pc := 120) hC dX12_trueBoard_120 1 rfl rfl ?_
        refine w_iret (pc := 121) hC hRT dX12_trueBoard_121 rfl ?_
        refine ⟨retI (by rw [i3, i2, show n = -1 by omega, plc_end _ hn.1]; rfl), rfl⟩
      · refine w_iconst (pc := 10) hC dX12_trueBoard_10 ?_
        refine w_istore (pc := 11) hC dX12_trueBoard_11 (lv2 := [(4, .int (J 0)), (0, .ref (A 0)), (1, .int (J bd)), (2, .int (J at_)), (3, .int (J n))]) (by rw [hnL]; decide) rfl ?_
        have loop13 : ∀ (nF : Nat) (bd2 : Int) (at2 : Int) (a : Int), (0 ≤ a ∧ a ≤ (I 1) 0) → (at2 = plc (I 1) n a) → (bd2 = cd (tbn (I 1)) at2.toNat) → ((I 1) 0 - a) < (nF : Int) → WW K G 0 0 (MW A G.2.1 I F) 13 [(0, .ref (A 0)), (1, .int (J bd2)), (2, .int (J at2)), (3, .int (J n)), (4, .int (J a))] [] := by
          intro nF
          induction nF with
          | zero => intro bd2 at2 a i4 i5 i6 hm13; exact absurd hm13 (by omega)
          | succ nF ih13 =>
            intro bd2 at2 a i4 i5 i6 hm13
            refine w_iload (pc := 13) hC dX12_trueBoard_13 4 rfl ?_
            refine w_aload_n (pc := 15) hC dX12_trueBoard_15 0 rfl rfl ?_
            refine w_getf (pc := 16) (v := .ref (A 1)) hC dX12_trueBoard_16 fi_X12_9 0 rfl rfl ?_
            refine w_iconst (pc := 19) hC dX12_trueBoard_19 ?_
            refine w_iald (pc := 20) (g := (I 1)) hC dX12_trueBoard_20 1 rfl (by omega) (Nat.le_of_ble_eq_true rfl) ?_
            refine w_icmp_ge (pc := 21) (tgt := 114) hC dX12_trueBoard_21 (by decide) (by omega) (fun c21 => ?_) (fun c21 => ?_)
            · refine w_iinc (pc := 114) hC dX12_trueBoard_114 (lv2 := [(3, .int (J (n + (-1)))), (0, .ref (A 0)), (1, .int (J bd2)), (2, .int (J at2)), (4, .int (J a))]) 3 rfl (by rw [hnL]; decide) rfl ?_
              refine w_goto (pc := 117) hC dX12_trueBoard_117 (tgt := 6) (by decide) ?_
              refine w_sub [1, 2, 3, 0] (lv2 := [(0, .ref (A 0)), (1, .int (J bd2)), (2, .int (J at2)), (3, .int (J (n + (-1))))]) rfl ?_
              refine ih6 bd2 at2 (n + (-1)) ?_ ?_ ?_ ?_
              · first | assumption | omega
              · rw [i5, show a = I 1 0 by omega]; exact plc_next _ _
              · exact i6
              · omega
            · refine w_iconst (pc := 24) hC dX12_trueBoard_24 ?_
              refine w_istore (pc := 25) hC dX12_trueBoard_25 (lv2 := [(5, .int (J 0)), (0, .ref (A 0)), (1, .int (J bd2)), (2, .int (J at2)), (3, .int (J n)), (4, .int (J a))]) (by rw [hnL]; decide) rfl ?_
              refine w_iconst (pc := 27) hC dX12_trueBoard_27 ?_
              refine w_istore (pc := 28) hC dX12_trueBoard_28 (lv2 := [(6, .int (J 0)), (5, .int (J 0)), (0, .ref (A 0)), (1, .int (J bd2)), (2, .int (J at2)), (3, .int (J n)), (4, .int (J a))]) (by rw [hnL]; decide) rfl ?_
              have loop30 : ∀ (nF : Nat) (bt : Int) (b : Int), (0 ≤ b ∧ b ≤ (I 1) 0) → (bt = cnt (fun b => decide (a ≠ b ∧ 50 < (I 1) (130 + 6 * a + b))) b.toNat) → (0 ≤ bt ∧ bt ≤ b) → ((I 1) 0 - b) < (nF : Int) → WW K G 0 0 (MW A G.2.1 I F) 30 [(0, .ref (A 0)), (1, .int (J bd2)), (2, .int (J at2)), (3, .int (J n)), (4, .int (J a)), (5, .int (J bt)), (6, .int (J b))] [] := by
                intro nF
                induction nF with
                | zero => intro bt b i7 i8 i9 hm30; exact absurd hm30 (by omega)
                | succ nF ih30 =>
                  intro bt b i7 i8 i9 hm30
                  refine w_iload (pc := 30) hC dX12_trueBoard_30 6 rfl ?_
                  refine w_aload_n (pc := 32) hC dX12_trueBoard_32 0 rfl rfl ?_
                  refine w_getf (pc := 33) (v := .ref (A 1)) hC dX12_trueBoard_33 fi_X12_9 0 rfl rfl ?_
                  refine w_iconst (pc := 36) hC dX12_trueBoard_36 ?_
                  refine w_iald (pc := 37) (g := (I 1)) hC dX12_trueBoard_37 1 rfl (by omega) (Nat.le_of_ble_eq_true rfl) ?_
                  refine w_icmp_ge (pc := 38) (tgt := 75) hC dX12_trueBoard_38 (by decide) (by omega) (fun c38 => ?_) (fun c38 => ?_)
                  · have hw : bt = wk (I 1) a := by rw [i8, show b = I 1 0 by omega]; rfl
                    have hpl := plc_bd (I 1) n a hn.1
                    have hb2 : 0 ≤ bd2 := by rw [i6]; exact (cd_bd (fun i g1 g2 => by have := (hT0 i g1 (by omega)).1; omega)).1
                    refine w_iload_n (pc := 75) hC dX12_trueBoard_75 1 rfl rfl ?_
                    refine w_iload (pc := 76) hC dX12_trueBoard_76 5 rfl ?_
                    refine w_iload_n (pc := 78) hC dX12_trueBoard_78 3 rfl rfl ?_
                    refine w_icmp_ne (pc := 79) (tgt := 91) hC dX12_trueBoard_79 (by decide) (by omega) (fun c79 => ?_) (fun c79 => ?_)
                    · refine w_iconst (pc := 91) hC dX12_trueBoard_91 ?_
                      refine w_ior (pc := 92) hC dX12_trueBoard_92 (v := bd2) (or0 _ hb2) ?_
                      refine w_istore_n (pc := 93) hC dX12_trueBoard_93 rfl (lv2 := [(1, .int (J bd2)), (0, .ref (A 0)), (2, .int (J at2)), (3, .int (J n)), (4, .int (J a)), (5, .int (J bt)), (6, .int (J b))]) (by rw [hnL]; decide) rfl ?_
                      refine w_iload_n (pc := 94) hC dX12_trueBoard_94 2 rfl rfl ?_
                      refine w_iload (pc := 95) hC dX12_trueBoard_95 5 rfl ?_
                      refine w_iload_n (pc := 97) hC dX12_trueBoard_97 3 rfl rfl ?_
                      refine w_icmp_ne (pc := 98) (tgt := 105) hC dX12_trueBoard_98 (by decide) (by omega) (fun c98 => ?_) (fun c98 => ?_)
                      · refine w_iconst (pc := 105) hC dX12_trueBoard_105 ?_
                        refine w_iadd (pc := 106) hC dX12_trueBoard_106 ?_
                        refine w_istore_n (pc := 107) hC dX12_trueBoard_107 rfl (lv2 := [(2, .int (J (at2 + 0))), (1, .int (J bd2)), (0, .ref (A 0)), (3, .int (J n)), (4, .int (J a)), (5, .int (J bt)), (6, .int (J b))]) (by rw [hnL]; decide) rfl ?_
                        refine w_iinc (pc := 108) hC dX12_trueBoard_108 (lv2 := [(4, .int (J (a + 1))), (2, .int (J (at2 + 0))), (1, .int (J bd2)), (0, .ref (A 0)), (3, .int (J n)), (5, .int (J bt)), (6, .int (J b))]) 4 rfl (by rw [hnL]; decide) rfl ?_
                        refine w_goto (pc := 111) hC dX12_trueBoard_111 (tgt := 13) (by decide) ?_
                        refine w_sub [3, 2, 1, 4, 0] (lv2 := [(0, .ref (A 0)), (1, .int (J bd2)), (2, .int (J (at2 + 0))), (3, .int (J n)), (4, .int (J (a + 1)))]) rfl ?_
                        refine ih13 bd2 (at2 + 0) (a + 1) ?_ ?_ ?_ ?_
                        · first | assumption | omega
                        · first | (rw [plc_yes _ i4.1 (by omega) (by omega)]; omega) | (rw [plc_no _ (by omega)]; omega)
                        · first | rfl | (rw [Int.add_zero]; exact i6) | (exfalso; omega)
                        · omega
                      · refine w_iconst (pc := 101) hC dX12_trueBoard_101 ?_
                        refine w_goto (pc := 102) hC dX12_trueBoard_102 (tgt := 106) (by decide) ?_
                        refine w_iadd (pc := 106) hC dX12_trueBoard_106 ?_
                        refine w_istore_n (pc := 107) hC dX12_trueBoard_107 rfl (lv2 := [(2, .int (J (at2 + 1))), (1, .int (J bd2)), (0, .ref (A 0)), (3, .int (J n)), (4, .int (J a)), (5, .int (J bt)), (6, .int (J b))]) (by rw [hnL]; decide) rfl ?_
                        refine w_iinc (pc := 108) hC dX12_trueBoard_108 (lv2 := [(4, .int (J (a + 1))), (2, .int (J (at2 + 1))), (1, .int (J bd2)), (0, .ref (A 0)), (3, .int (J n)), (5, .int (J bt)), (6, .int (J b))]) 4 rfl (by rw [hnL]; decide) rfl ?_
                        refine w_goto (pc := 111) hC dX12_trueBoard_111 (tgt := 13) (by decide) ?_
                        refine w_sub [3, 2, 1, 4, 0] (lv2 := [(0, .ref (A 0)), (1, .int (J bd2)), (2, .int (J (at2 + 1))), (3, .int (J n)), (4, .int (J (a + 1)))]) rfl ?_
                        refine ih13 bd2 (at2 + 1) (a + 1) ?_ ?_ ?_ ?_
                        · first | assumption | omega
                        · first | (rw [plc_yes _ i4.1 (by omega) (by omega)]; omega) | (rw [plc_no _ (by omega)]; omega)
                        · first | rfl | (rw [Int.add_zero]; exact i6) | (exfalso; omega)
                        · omega
                    · refine w_iload (pc := 82) hC dX12_trueBoard_82 4 rfl ?_
                      refine w_iconst (pc := 84) hC dX12_trueBoard_84 ?_
                      refine w_iload_n (pc := 85) hC dX12_trueBoard_85 2 rfl rfl ?_
                      refine w_imul (pc := 86) hC dX12_trueBoard_86 ?_
                      refine w_ishl (pc := 87) hC dX12_trueBoard_87 (by have := sh_bd (v := a) (k := at2) (by omega) (by omega); omega) ?_
                      refine w_goto (pc := 88) hC dX12_trueBoard_88 (tgt := 92) (by decide) ?_
                      refine w_ior (pc := 92) hC dX12_trueBoard_92 (v := cd (tbn (I 1)) (at2 + 1).toNat) (cd_or (by omega) (fun i g1 g2 => by have := (hT0 i g1 (by omega)).1; omega) i6 (by rw [i5, plc_ah _ (show wk (I 1) a = n by omega)]; exact (tbn_ah _ i4.1 (by omega)).symm) (by omega)) ?_
                      refine w_istore_n (pc := 93) hC dX12_trueBoard_93 rfl (lv2 := [(1, .int (J (cd (tbn (I 1)) (at2 + 1).toNat))), (0, .ref (A 0)), (2, .int (J at2)), (3, .int (J n)), (4, .int (J a)), (5, .int (J bt)), (6, .int (J b))]) (by rw [hnL]; decide) rfl ?_
                      refine w_iload_n (pc := 94) hC dX12_trueBoard_94 2 rfl rfl ?_
                      refine w_iload (pc := 95) hC dX12_trueBoard_95 5 rfl ?_
                      refine w_iload_n (pc := 97) hC dX12_trueBoard_97 3 rfl rfl ?_
                      refine w_icmp_ne (pc := 98) (tgt := 105) hC dX12_trueBoard_98 (by decide) (by omega) (fun c98 => ?_) (fun c98 => ?_)
                      · refine w_iconst (pc := 105) hC dX12_trueBoard_105 ?_
                        refine w_iadd (pc := 106) hC dX12_trueBoard_106 ?_
                        refine w_istore_n (pc := 107) hC dX12_trueBoard_107 rfl (lv2 := [(2, .int (J (at2 + 0))), (1, .int (J (cd (tbn (I 1)) (at2 + 1).toNat))), (0, .ref (A 0)), (3, .int (J n)), (4, .int (J a)), (5, .int (J bt)), (6, .int (J b))]) (by rw [hnL]; decide) rfl ?_
                        refine w_iinc (pc := 108) hC dX12_trueBoard_108 (lv2 := [(4, .int (J (a + 1))), (2, .int (J (at2 + 0))), (1, .int (J (cd (tbn (I 1)) (at2 + 1).toNat))), (0, .ref (A 0)), (3, .int (J n)), (5, .int (J bt)), (6, .int (J b))]) 4 rfl (by rw [hnL]; decide) rfl ?_
                        refine w_goto (pc := 111) hC dX12_trueBoard_111 (tgt := 13) (by decide) ?_
                        refine w_sub [3, 2, 1, 4, 0] (lv2 := [(0, .ref (A 0)), (1, .int (J (cd (tbn (I 1)) (at2 + 1).toNat))), (2, .int (J (at2 + 0))), (3, .int (J n)), (4, .int (J (a + 1)))]) rfl ?_
                        refine ih13 (cd (tbn (I 1)) (at2 + 1).toNat) (at2 + 0) (a + 1) ?_ ?_ ?_ ?_
                        · first | assumption | omega
                        · first | (rw [plc_yes _ i4.1 (by omega) (by omega)]; omega) | (rw [plc_no _ (by omega)]; omega)
                        · first | rfl | (rw [Int.add_zero]; exact i6) | (exfalso; omega)
                        · omega
                      · refine w_iconst (pc := 101) hC dX12_trueBoard_101 ?_
                        refine w_goto (pc := 102) hC dX12_trueBoard_102 (tgt := 106) (by decide) ?_
                        refine w_iadd (pc := 106) hC dX12_trueBoard_106 ?_
                        refine w_istore_n (pc := 107) hC dX12_trueBoard_107 rfl (lv2 := [(2, .int (J (at2 + 1))), (1, .int (J (cd (tbn (I 1)) (at2 + 1).toNat))), (0, .ref (A 0)), (3, .int (J n)), (4, .int (J a)), (5, .int (J bt)), (6, .int (J b))]) (by rw [hnL]; decide) rfl ?_
                        refine w_iinc (pc := 108) hC dX12_trueBoard_108 (lv2 := [(4, .int (J (a + 1))), (2, .int (J (at2 + 1))), (1, .int (J (cd (tbn (I 1)) (at2 + 1).toNat))), (0, .ref (A 0)), (3, .int (J n)), (5, .int (J bt)), (6, .int (J b))]) 4 rfl (by rw [hnL]; decide) rfl ?_
                        refine w_goto (pc := 111) hC dX12_trueBoard_111 (tgt := 13) (by decide) ?_
                        refine w_sub [3, 2, 1, 4, 0] (lv2 := [(0, .ref (A 0)), (1, .int (J (cd (tbn (I 1)) (at2 + 1).toNat))), (2, .int (J (at2 + 1))), (3, .int (J n)), (4, .int (J (a + 1)))]) rfl ?_
                        refine ih13 (cd (tbn (I 1)) (at2 + 1).toNat) (at2 + 1) (a + 1) ?_ ?_ ?_ ?_
                        · first | assumption | omega
                        · first | (rw [plc_yes _ i4.1 (by omega) (by omega)]; omega) | (rw [plc_no _ (by omega)]; omega)
                        · first | rfl | (rw [Int.add_zero]; exact i6) | (exfalso; omega)
                        · omega
                  · refine w_iload (pc := 41) hC dX12_trueBoard_41 5 rfl ?_
                    refine w_iload (pc := 43) hC dX12_trueBoard_43 4 rfl ?_
                    refine w_iload (pc := 45) hC dX12_trueBoard_45 6 rfl ?_
                    refine w_icmp_eq (pc := 47) (tgt := 65) hC dX12_trueBoard_47 (by decide) (by omega) (fun c47 => ?_) (fun c47 => ?_)
                    · refine w_iconst (pc := 65) hC dX12_trueBoard_65 ?_
                      refine w_iadd (pc := 66) hC dX12_trueBoard_66 ?_
                      refine w_istore (pc := 67) hC dX12_trueBoard_67 (lv2 := [(5, .int (J (bt + 0))), (0, .ref (A 0)), (1, .int (J bd2)), (2, .int (J at2)), (3, .int (J n)), (4, .int (J a)), (6, .int (J b))]) (by rw [hnL]; decide) rfl ?_
                      refine w_iinc (pc := 69) hC dX12_trueBoard_69 (lv2 := [(6, .int (J (b + 1))), (5, .int (J (bt + 0))), (0, .ref (A 0)), (1, .int (J bd2)), (2, .int (J at2)), (3, .int (J n)), (4, .int (J a))]) 6 rfl (by rw [hnL]; decide) rfl ?_
                      refine w_goto (pc := 72) hC dX12_trueBoard_72 (tgt := 30) (by decide) ?_
                      refine w_sub [2, 3, 4, 5, 6, 1, 0] (lv2 := [(0, .ref (A 0)), (1, .int (J bd2)), (2, .int (J at2)), (3, .int (J n)), (4, .int (J a)), (5, .int (J (bt + 0))), (6, .int (J (b + 1)))]) rfl ?_
                      refine ih30 (bt + 0) (b + 1) ?_ ?_ ?_ ?_
                      · first | assumption | omega
                      · rw [cnt_s _ i7.1]; simp only [decide_eq_true_eq]; split <;> omega
                      · first | assumption | omega
                      · omega
                    · refine w_aload_n (pc := 50) hC dX12_trueBoard_50 0 rfl rfl ?_
                      refine w_iload (pc := 51) hC dX12_trueBoard_51 4 rfl ?_
                      refine w_iload (pc := 53) hC dX12_trueBoard_53 6 rfl ?_
                      refine w_callV (pc := 55) (As := [.int (J a), .int (J b)]) (rest := [.int (J bt)]) hC dX12_trueBoard_55 cv_X12_56 (c_X12_isStronger (kl K) G A I F a b (show RI (I 1) from by first | assumption | omega) (show 0 ≤ a ∧ a < 6 from by first | assumption | omega) (show 0 ≤ b ∧ b < 6 from by first | assumption | omega)) (by decide) ⟨Nat.le_of_ble_eq_true rfl, Nat.le_of_ble_eq_true rfl⟩ (q0 := 0) rfl rfl rfl rfl (Nat.le_of_ble_eq_true rfl) rfl (fun vo wo hv => ?_)
                      obtain ⟨hv1, hw1⟩ := hv
                      rw [hv1, hw1]
                      show WW K G 0 0 (MW A G.2.1 I F) 58 [(0, .ref (A 0)), (1, .int (J bd2)), (2, .int (J at2)), (3, .int (J n)), (4, .int (J a)), (5, .int (J bt)), (6, .int (J b))] [.int (J (bI (50 < (I 1) (130 + 6 * a + b)))), .int (J bt)]
                      refine w_if_eq_b (pc := 58) (tgt := 65) hC dX12_trueBoard_58 (by decide) (fun c58 => ?_) (fun c58 => ?_)
                      · refine w_iconst (pc := 65) hC dX12_trueBoard_65 ?_
                        refine w_iadd (pc := 66) hC dX12_trueBoard_66 ?_
                        refine w_istore (pc := 67) hC dX12_trueBoard_67 (lv2 := [(5, .int (J (bt + 0))), (0, .ref (A 0)), (1, .int (J bd2)), (2, .int (J at2)), (3, .int (J n)), (4, .int (J a)), (6, .int (J b))]) (by rw [hnL]; decide) rfl ?_
                        refine w_iinc (pc := 69) hC dX12_trueBoard_69 (lv2 := [(6, .int (J (b + 1))), (5, .int (J (bt + 0))), (0, .ref (A 0)), (1, .int (J bd2)), (2, .int (J at2)), (3, .int (J n)), (4, .int (J a))]) 6 rfl (by rw [hnL]; decide) rfl ?_
                        refine w_goto (pc := 72) hC dX12_trueBoard_72 (tgt := 30) (by decide) ?_
                        refine w_sub [2, 3, 4, 5, 6, 1, 0] (lv2 := [(0, .ref (A 0)), (1, .int (J bd2)), (2, .int (J at2)), (3, .int (J n)), (4, .int (J a)), (5, .int (J (bt + 0))), (6, .int (J (b + 1)))]) rfl ?_
                        refine ih30 (bt + 0) (b + 1) ?_ ?_ ?_ ?_
                        · first | assumption | omega
                        · rw [cnt_s _ i7.1]; simp only [decide_eq_true_eq]; split <;> omega
                        · first | assumption | omega
                        · omega
                      · refine w_iconst (pc := 61) hC dX12_trueBoard_61 ?_
                        refine w_goto (pc := 62) hC dX12_trueBoard_62 (tgt := 66) (by decide) ?_
                        refine w_iadd (pc := 66) hC dX12_trueBoard_66 ?_
                        refine w_istore (pc := 67) hC dX12_trueBoard_67 (lv2 := [(5, .int (J (bt + 1))), (0, .ref (A 0)), (1, .int (J bd2)), (2, .int (J at2)), (3, .int (J n)), (4, .int (J a)), (6, .int (J b))]) (by rw [hnL]; decide) rfl ?_
                        refine w_iinc (pc := 69) hC dX12_trueBoard_69 (lv2 := [(6, .int (J (b + 1))), (5, .int (J (bt + 1))), (0, .ref (A 0)), (1, .int (J bd2)), (2, .int (J at2)), (3, .int (J n)), (4, .int (J a))]) 6 rfl (by rw [hnL]; decide) rfl ?_
                        refine w_goto (pc := 72) hC dX12_trueBoard_72 (tgt := 30) (by decide) ?_
                        refine w_sub [2, 3, 4, 5, 6, 1, 0] (lv2 := [(0, .ref (A 0)), (1, .int (J bd2)), (2, .int (J at2)), (3, .int (J n)), (4, .int (J a)), (5, .int (J (bt + 1))), (6, .int (J (b + 1)))]) rfl ?_
                        refine ih30 (bt + 1) (b + 1) ?_ ?_ ?_ ?_
                        · first | assumption | omega
                        · rw [cnt_s _ i7.1]; simp only [decide_eq_true_eq]; split <;> omega
                        · first | assumption | omega
                        · omega
              refine w_sub [2, 3, 4, 5, 6, 1, 0] (lv2 := [(0, .ref (A 0)), (1, .int (J bd2)), (2, .int (J at2)), (3, .int (J n)), (4, .int (J a)), (5, .int (J 0)), (6, .int (J 0))]) rfl ?_
              refine loop30 (((I 1) 0 - 0) + 1 : Int).toNat 0 0 ?_ ?_ ?_ ?_
              · first | assumption | omega
              · rfl
              · first | assumption | omega
              · omega
        refine w_sub [1, 2, 3, 4, 0] (lv2 := [(0, .ref (A 0)), (1, .int (J bd)), (2, .int (J at_)), (3, .int (J n)), (4, .int (J 0))]) rfl ?_
        refine loop13 (((I 1) 0 - 0) + 1 : Int).toNat bd at_ 0 ?_ ?_ ?_ ?_
        · first | assumption | omega
        · exact i2
        · exact i3
        · omega
  refine w_sub [3, 2, 1, 0] (lv2 := [(0, .ref (A 0)), (1, .int (J 0)), (2, .int (J 0)), (3, .int (J 5))]) rfl ?_
  refine loop6 ((5 + 1) + 1 : Int).toNat 0 0 5 ?_ ?_ ?_ ?_
  · first | assumption | omega
  · exact (plc_top _ (by omega)).symm
  · rfl
  · omega
set_option maxRecDepth 100000 in
set_option maxHeartbeats 4000000 in
theorem c_X12_name (l : Launch) (G : GT) (A : Nat → Nat) (I : Nat → Int → Int) (F : Nat → Int)   (hR : RI (I 1)) : CT l yX12_name cX12_name 3 (some .int) 0 0 0 G [.ref (A 0)] (MW A G.2.1 I F) (fun vo wo => ∃ (b1 : Int → Int), vo = some (.int (J (v_name (I 1)))) ∧ wo = MW A G.2.1 (au I 1 b1) F ∧ (b1 = n_name (I 1))) := by
  refine CT_of (own := RX12) rfl rfl (Nat.le_of_ble_eq_true rfl) (fun K hl hnL hC hRT hin => ?_)
  subst hl
  show WW K G 0 0 (MW A G.2.1 I F) 0 [(0, .ref (A 0))] []
  have hn := hR.n
  have hV := hR.bd
  refine w_aload_n (pc := 0) hC dX12_name_0 0 rfl rfl ?_
  refine w_getf (pc := 1) (v := .ref (A 1)) hC dX12_name_1 fi_X12_9 0 rfl rfl ?_
  refine w_iconst (pc := 4) hC dX12_name_4 ?_
  refine w_iald (pc := 5) (g := (I 1)) hC dX12_name_5 1 rfl (by omega) (Nat.le_of_ble_eq_true rfl) ?_
  refine w_bipush (pc := 6) hC dX12_name_6 (z := 6) rfl ?_
  refine w_icmp_ne (pc := 8) (tgt := 14) hC dX12_name_8 (by decide) (by omega) (fun c8 => ?_) (fun c8 => ?_)
  · refine w_aload_n (pc := 14) hC dX12_name_14 0 rfl rfl ?_
    refine w_getf (pc := 15) (v := .ref (A 1)) hC dX12_name_15 fi_X12_9 0 rfl rfl ?_
    refine w_iconst (pc := 18) hC dX12_name_18 ?_
    refine w_iald (pc := 19) (g := (I 1)) hC dX12_name_19 1 rfl (by omega) (Nat.le_of_ble_eq_true rfl) ?_
    refine w_istore_n (pc := 20) hC dX12_name_20 rfl (lv2 := [(1, .int (J ((I 1) 0))), (0, .ref (A 0))]) (by rw [hnL]; decide) rfl ?_
    refine w_iconst (pc := 21) hC dX12_name_21 ?_
    refine w_istore_n (pc := 22) hC dX12_name_22 rfl (lv2 := [(2, .int (J 0)), (1, .int (J ((I 1) 0))), (0, .ref (A 0))]) (by rw [hnL]; decide) rfl ?_
    have loop23 : ∀ (nF : Nat) (b : Int) (a1_23 : Int → Int), (0 ≤ b ∧ b ≤ 6) → (∀ j : Int, a1_23 j = if 130 ≤ j ∧ j < 166 ∧ (((j - 130) / 6 = I 1 0 ∧ (j - 130) % 6 < b) ∨ ((j - 130) % 6 = I 1 0 ∧ (j - 130) / 6 < b)) then 50 else I 1 j) → (6 - b) < (nF : Int) → WW K G 0 0 (MW A G.2.1 (au I 1 a1_23) F) 23 [(0, .ref (A 0)), (1, .int (J ((I 1) 0))), (2, .int (J b))] [] := by
      intro nF
      induction nF with
      | zero => intro b a1_23 i1 i2 hm23; exact absurd hm23 (by omega)
      | succ nF ih23 =>
        intro b a1_23 i1 i2 hm23
        refine w_iload_n (pc := 23) hC dX12_name_23 2 rfl rfl ?_
        refine w_bipush (pc := 24) hC dX12_name_24 (z := 6) rfl ?_
        refine w_icmp_ge (pc := 26) (tgt := 69) hC dX12_name_26 (by decide) (by omega) (fun c26 => ?_) (fun c26 => ?_)
        · refine w_aload_n (pc := 69) hC dX12_name_69 0 rfl rfl ?_
          refine w_getf (pc := 70) (v := .ref (A 1)) hC dX12_name_70 fi_X12_9 0 rfl rfl ?_
          refine w_sipush (pc := 73) hC dX12_name_73 (z := 166) rfl ?_
          refine w_iload_n (pc := 76) hC dX12_name_76 1 rfl rfl ?_
          refine w_iadd (pc := 77) hC dX12_name_77 ?_
          refine w_iconst (pc := 78) hC dX12_name_78 ?_
          refine w_iast (pc := 79) (g := a1_23) (w2 := MW A G.2.1 (au I 1 (gu a1_23 (166 + ((I 1) 0)) 0)) F) hC dX12_name_79 1 rfl (by omega) (Nat.le_of_ble_eq_true rfl) rfl ?_
          generalize h79 : gu a1_23 (166 + ((I 1) 0)) 0 = s79
          refine w_aload_n (pc := 80) hC dX12_name_80 0 rfl rfl ?_
          refine w_getf (pc := 81) (v := .ref (A 1)) hC dX12_name_81 fi_X12_9 0 rfl rfl ?_
          refine w_sipush (pc := 84) hC dX12_name_84 (z := 172) rfl ?_
          refine w_iload_n (pc := 87) hC dX12_name_87 1 rfl rfl ?_
          refine w_iadd (pc := 88) hC dX12_name_88 ?_
          refine w_iconst (pc := 89) hC dX12_name_89 ?_
          refine w_iast (pc := 90) (g := s79) (w2 := MW A G.2.1 (au I 1 (gu s79 (172 + ((I 1) 0)) 0)) F) hC dX12_name_90 1 rfl (by omega) (Nat.le_of_ble_eq_true rfl) rfl ?_
          generalize h90 : gu s79 (172 + ((I 1) 0)) 0 = s90
          refine w_aload_n (pc := 91) hC dX12_name_91 0 rfl rfl ?_
          refine w_getf (pc := 92) (v := .ref (A 1)) hC dX12_name_92 fi_X12_9 0 rfl rfl ?_
          refine w_bipush (pc := 95) hC dX12_name_95 (z := 6) rfl ?_
          refine w_dup2 (pc := 97) hC dX12_name_97 rfl rfl ?_
          have e98 : s90 6 = I 1 6 := by subst h90 h79; simp only [gu, i2]; (repeat' split) <;> first | rfl | omega
          refine w_iald (pc := 98) (g := s90) hC dX12_name_98 1 rfl (by omega) (Nat.le_of_ble_eq_true rfl) ?_
          refine w_iload_n (pc := 99) hC dX12_name_99 1 rfl rfl ?_
          refine w_iconst (pc := 100) hC dX12_name_100 ?_
          refine w_iload_n (pc := 101) hC dX12_name_101 1 rfl rfl ?_
          refine w_imul (pc := 102) hC dX12_name_102 ?_
          refine w_ishl (pc := 103) hC dX12_name_103 (by omega) ?_
          refine w_ior (pc := 104) hC dX12_name_104 (v := I 1 6 + I 1 0 * 8 ^ (I 1 0).toNat) (by rw [e98]; exact or8 hn.1 hV.2.1.1 hV.2.1.2 hn.1) ?_
          refine w_iast (pc := 105) (g := s90) (w2 := MW A G.2.1 (au I 1 (gu s90 6 (I 1 6 + I 1 0 * 8 ^ (I 1 0).toNat))) F) hC dX12_name_105 1 rfl (by omega) (Nat.le_of_ble_eq_true rfl) rfl ?_
          generalize h105 : gu s90 6 (I 1 6 + I 1 0 * 8 ^ (I 1 0).toNat) = s105
          refine w_aload_n (pc := 106) hC dX12_name_106 0 rfl rfl ?_
          refine w_getf (pc := 107) (v := .ref (A 1)) hC dX12_name_107 fi_X12_9 0 rfl rfl ?_
          refine w_iconst (pc := 110) hC dX12_name_110 ?_
          refine w_dup2 (pc := 111) hC dX12_name_111 rfl rfl ?_
          have e112 : s105 0 = I 1 0 := by subst h105 h90 h79; simp only [gu, i2]; (repeat' split) <;> first | rfl | omega
          refine w_iald (pc := 112) (g := s105) hC dX12_name_112 1 rfl (by omega) (Nat.le_of_ble_eq_true rfl) ?_
          refine w_iconst (pc := 113) hC dX12_name_113 ?_
          refine w_iadd (pc := 114) hC dX12_name_114 ?_
          refine w_iast (pc := 115) (g := s105) (w2 := MW A G.2.1 (au I 1 (gu s105 0 ((s105 0) + 1))) F) hC dX12_name_115 1 rfl (by omega) (Nat.le_of_ble_eq_true rfl) rfl ?_
          generalize h115 : gu s105 0 ((s105 0) + 1) = s115
          refine w_iload_n (pc := 116) hC dX12_name_116 1 rfl rfl ?_
          refine w_iret (pc := 117) hC hRT dX12_name_117 rfl ?_
          refine ⟨s115, retI (by first | rfl | (simp only [v_name]; repeat' split) <;> first | rfl | omega), rfl, ?_⟩
          · funext j; subst h115; rw [e112]; subst h105 h90 h79; unfold n_name; rw [if_neg (by omega)]; simp only [gu, i2]; (repeat' split) <;> first | rfl | omega
        · refine w_aload_n (pc := 29) hC dX12_name_29 0 rfl rfl ?_
          refine w_getf (pc := 30) (v := .ref (A 1)) hC dX12_name_30 fi_X12_9 0 rfl rfl ?_
          refine w_sipush (pc := 33) hC dX12_name_33 (z := 130) rfl ?_
          refine w_bipush (pc := 36) hC dX12_name_36 (z := 6) rfl ?_
          refine w_iload_n (pc := 38) hC dX12_name_38 1 rfl rfl ?_
          refine w_imul (pc := 39) hC dX12_name_39 ?_
          refine w_iadd (pc := 40) hC dX12_name_40 ?_
          refine w_iload_n (pc := 41) hC dX12_name_41 2 rfl rfl ?_
          refine w_iadd (pc := 42) hC dX12_name_42 ?_
          refine w_bipush (pc := 43) hC dX12_name_43 (z := 50) rfl ?_
          refine w_iast (pc := 45) (g := a1_23) (w2 := MW A G.2.1 (au I 1 (gu a1_23 ((130 + (6 * ((I 1) 0))) + b) 50)) F) hC dX12_name_45 1 rfl (by omega) (Nat.le_of_ble_eq_true rfl) rfl ?_
          generalize h45 : gu a1_23 ((130 + (6 * ((I 1) 0))) + b) 50 = s45
          refine w_aload_n (pc := 46) hC dX12_name_46 0 rfl rfl ?_
          refine w_getf (pc := 47) (v := .ref (A 1)) hC dX12_name_47 fi_X12_9 0 rfl rfl ?_
          refine w_sipush (pc := 50) hC dX12_name_50 (z := 130) rfl ?_
          refine w_bipush (pc := 53) hC dX12_name_53 (z := 6) rfl ?_
          refine w_iload_n (pc := 55) hC dX12_name_55 2 rfl rfl ?_
          refine w_imul (pc := 56) hC dX12_name_56 ?_
          refine w_iadd (pc := 57) hC dX12_name_57 ?_
          refine w_iload_n (pc := 58) hC dX12_name_58 1 rfl rfl ?_
          refine w_iadd (pc := 59) hC dX12_name_59 ?_
          refine w_bipush (pc := 60) hC dX12_name_60 (z := 50) rfl ?_
          refine w_iast (pc := 62) (g := s45) (w2 := MW A G.2.1 (au I 1 (gu s45 ((130 + (6 * b)) + ((I 1) 0)) 50)) F) hC dX12_name_62 1 rfl (by omega) (Nat.le_of_ble_eq_true rfl) rfl ?_
          generalize h62 : gu s45 ((130 + (6 * b)) + ((I 1) 0)) 50 = s62
          refine w_iinc (pc := 63) hC dX12_name_63 (lv2 := [(2, .int (J (b + 1))), (0, .ref (A 0)), (1, .int (J ((I 1) 0)))]) 2 rfl (by rw [hnL]; decide) rfl ?_
          refine w_goto (pc := 66) hC dX12_name_66 (tgt := 23) (by decide) ?_
          refine w_sub [1, 2, 0] (lv2 := [(0, .ref (A 0)), (1, .int (J ((I 1) 0))), (2, .int (J (b + 1)))]) rfl ?_
          refine ih23 (b + 1) s62 ?_ ?_ ?_
          · first | assumption | omega
          · intro j; subst h62 h45; simp only [gu, i2]; (repeat' split) <;> first | rfl | omega
          · omega
    refine w_sub [2, 1, 0] (lv2 := [(0, .ref (A 0)), (1, .int (J ((I 1) 0))), (2, .int (J 0))]) rfl ?_
    refine loop23 ((6 - 0) + 1 : Int).toNat 0 (I 1) ?_ ?_ ?_
    · first | assumption | omega
    · intro j; rw [if_neg (by omega)]
    · omega
  · refine w_bipush (pc := 11) hC dX12_name_11 (z := (-4)) rfl ?_
    refine w_iret (pc := 13) hC hRT dX12_name_13 rfl ?_
    refine ⟨(I 1), retI (by first | rfl | (simp only [v_name]; repeat' split) <;> first | rfl | omega), rfl, ?_⟩
    · unfold n_name; rw [if_pos (by omega)]
set_option maxRecDepth 100000 in
set_option maxHeartbeats 4000000 in
theorem c_X12_chance (l : Launch) (G : GT) (A : Nat → Nat) (I : Nat → Int → Int) (F : Nat → Int)  (a : Int) (b : Int) (n : Int) (hR : RI (I 1)) (ha : -2147483648 ≤ a ∧ a < 2147483648) (hb : -2147483648 ≤ b ∧ b < 2147483648) (hc : -2147483648 ≤ n ∧ n < 2147483648) : CT l yX12_chance cX12_chance 5 (some .int) 2 0 0 G [.ref (A 0), .int (J a), .int (J b), .int (J n)] (MW A G.2.1 I F) (fun vo wo => ∃ (b1 : Int → Int), vo = some (.int (J (v_chance (I 1) a b n))) ∧ wo = MW A G.2.1 (au I 1 b1) F ∧ (b1 = n_chance (I 1) a b n)) := by
  refine CT_of (own := RX12) rfl rfl (Nat.le_of_ble_eq_true rfl) (fun K hl hnL hC hRT hin => ?_)
  subst hl
  show WW K G 0 0 (MW A G.2.1 I F) 0 [(0, .ref (A 0)), (1, .int (J a)), (2, .int (J b)), (3, .int (J n))] []
  have hn := hR.n
  refine w_aload_n (pc := 0) hC dX12_chance_0 0 rfl rfl ?_
  refine w_iload_n (pc := 1) hC dX12_chance_1 1 rfl rfl ?_
  refine w_callV (pc := 2) (As := [.int (J a)]) (rest := []) hC dX12_chance_2 cv_X12_60 (c_X12_isName (kl K) G A I F a (show RI (I 1) from by first | assumption | omega) (show -2147483648 ≤ a ∧ a < 2147483648 from by first | assumption | omega)) (by decide) ⟨Nat.le_of_ble_eq_true rfl, Nat.le_of_ble_eq_true rfl⟩ (q0 := 0) rfl rfl rfl rfl (Nat.le_of_ble_eq_true rfl) rfl (fun vo wo hv => ?_)
  obtain ⟨hv1, hw1⟩ := hv
  rw [hv1, hw1]
  show WW K G 0 0 (MW A G.2.1 I F) 5 [(0, .ref (A 0)), (1, .int (J a)), (2, .int (J b)), (3, .int (J n))] [.int (J (bI (0 ≤ a ∧ a < (I 1) 0)))]
  refine w_if_eq_b (pc := 5) (tgt := 16) hC dX12_chance_5 (by decide) (fun c5 => ?_) (fun c5 => ?_)
  · refine w_iconst (pc := 16) hC dX12_chance_16 ?_
    refine w_iret (pc := 17) hC hRT dX12_chance_17 rfl ?_
    refine ⟨(I 1), retI (by first | rfl | (simp only [v_chance]; repeat' split) <;> first | rfl | omega), rfl, ?_⟩
    · unfold n_chance; rw [if_neg (by omega)]
  · refine w_aload_n (pc := 8) hC dX12_chance_8 0 rfl rfl ?_
    refine w_iload_n (pc := 9) hC dX12_chance_9 2 rfl rfl ?_
    refine w_callV (pc := 10) (As := [.int (J b)]) (rest := []) hC dX12_chance_10 cv_X12_60 (c_X12_isName (kl K) G A I F b (show RI (I 1) from by first | assumption | omega) (show -2147483648 ≤ b ∧ b < 2147483648 from by first | assumption | omega)) (by decide) ⟨Nat.le_of_ble_eq_true rfl, Nat.le_of_ble_eq_true rfl⟩ (q0 := 0) rfl rfl rfl rfl (Nat.le_of_ble_eq_true rfl) rfl (fun vo wo hv => ?_)
    obtain ⟨hv1, hw1⟩ := hv
    rw [hv1, hw1]
    show WW K G 0 0 (MW A G.2.1 I F) 13 [(0, .ref (A 0)), (1, .int (J a)), (2, .int (J b)), (3, .int (J n))] [.int (J (bI (0 ≤ b ∧ b < (I 1) 0)))]
    refine w_if_ne_b (pc := 13) (tgt := 18) hC dX12_chance_13 (by decide) (fun c13 => ?_) (fun c13 => ?_)
    · refine w_iload_n (pc := 18) hC dX12_chance_18 1 rfl rfl ?_
      refine w_iload_n (pc := 19) hC dX12_chance_19 2 rfl rfl ?_
      refine w_icmp_eq (pc := 20) (tgt := 33) hC dX12_chance_20 (by decide) (by omega) (fun c20 => ?_) (fun c20 => ?_)
      · refine w_bipush (pc := 33) hC dX12_chance_33 (z := (-2)) rfl ?_
        refine w_iret (pc := 35) hC hRT dX12_chance_35 rfl ?_
        refine ⟨(I 1), retI (by first | rfl | (simp only [v_chance]; repeat' split) <;> first | rfl | omega), rfl, ?_⟩
        · unfold n_chance; rw [if_neg (by omega)]
      · refine w_iload_n (pc := 23) hC dX12_chance_23 3 rfl rfl ?_
        refine w_iconst (pc := 24) hC dX12_chance_24 ?_
        refine w_bipush (pc := 25) hC dX12_chance_25 (z := 100) rfl ?_
        refine w_callS (pc := 27) (As := [.int (J n), .int (J 0), .int (J 100)]) (rest := []) hC dX12_chance_27 cs_X12_48 (c_X12_in (kl K) G (MW A G.2.1 I F) n 0 100 (show (-2147483648 ≤ n ∧ n < 2147483648) ∧ (-2147483648 ≤ 0 ∧ 0 < 2147483648) ∧ -2147483648 ≤ 100 ∧ 100 < 2147483648 from by first | assumption | omega)) (by decide) ⟨Nat.le_of_ble_eq_true rfl, Nat.le_of_ble_eq_true rfl⟩ rfl (Nat.le_of_ble_eq_true rfl) rfl (fun vo wo hv => ?_)
        obtain ⟨hv1, hw1⟩ := hv
        rw [hv1, hw1]
        show WW K G 0 0 (MW A G.2.1 I F) 30 [(0, .ref (A 0)), (1, .int (J a)), (2, .int (J b)), (3, .int (J n))] [.int (J (bI (0 ≤ n ∧ n ≤ 100)))]
        refine w_if_ne_b (pc := 30) (tgt := 36) hC dX12_chance_30 (by decide) (fun c30 => ?_) (fun c30 => ?_)
        · refine w_aload_n (pc := 36) hC dX12_chance_36 0 rfl rfl ?_
          refine w_getf (pc := 37) (v := .ref (A 1)) hC dX12_chance_37 fi_X12_9 0 rfl rfl ?_
          refine w_sipush (pc := 40) hC dX12_chance_40 (z := 130) rfl ?_
          refine w_bipush (pc := 43) hC dX12_chance_43 (z := 6) rfl ?_
          refine w_iload_n (pc := 45) hC dX12_chance_45 1 rfl rfl ?_
          refine w_imul (pc := 46) hC dX12_chance_46 ?_
          refine w_iadd (pc := 47) hC dX12_chance_47 ?_
          refine w_iload_n (pc := 48) hC dX12_chance_48 2 rfl rfl ?_
          refine w_iadd (pc := 49) hC dX12_chance_49 ?_
          refine w_iald (pc := 50) (g := (I 1)) hC dX12_chance_50 1 rfl (by omega) (Nat.le_of_ble_eq_true rfl) ?_
          refine w_istore (pc := 51) hC dX12_chance_51 (lv2 := [(4, .int (J ((I 1) ((130 + (6 * a)) + b)))), (0, .ref (A 0)), (1, .int (J a)), (2, .int (J b)), (3, .int (J n))]) (by rw [hnL]; decide) rfl ?_
          refine w_aload_n (pc := 53) hC dX12_chance_53 1 rfl rfl ?_
          refine w_getf (pc := 54) (v := .ref (A 1)) hC dX12_chance_54 fi_X12_9 0 rfl rfl ?_
          refine w_sipush (pc := 57) hC dX12_chance_57 (z := 130) rfl ?_
          refine w_bipush (pc := 60) hC dX12_chance_60 (z := 6) rfl ?_
          refine w_iload_n (pc := 62) hC dX12_chance_62 2 rfl rfl ?_
          refine w_imul (pc := 63) hC dX12_chance_63 ?_
          refine w_iadd (pc := 64) hC dX12_chance_64 ?_
          refine w_iload_n (pc := 65) hC dX12_chance_65 3 rfl rfl ?_
          refine w_iadd (pc := 66) hC dX12_chance_66 ?_
          refine w_iload_n (pc := 67) hC dX12_chance_67 4 rfl rfl ?_
          refine w_iast (pc := 68) (g := (I 1)) (w2 := MW A G.2.1 (au I 1 (gu (I 1) ((130 + (6 * a)) + b) n)) F) hC dX12_chance_68 1 rfl (by omega) (Nat.le_of_ble_eq_true rfl) rfl ?_
          generalize h68 : gu (I 1) ((130 + (6 * a)) + b) n = s68
          refine w_aload_n (pc := 69) hC dX12_chance_69 1 rfl rfl ?_
          refine w_getf (pc := 70) (v := .ref (A 1)) hC dX12_chance_70 fi_X12_9 0 rfl rfl ?_
          refine w_sipush (pc := 73) hC dX12_chance_73 (z := 130) rfl ?_
          refine w_bipush (pc := 76) hC dX12_chance_76 (z := 6) rfl ?_
          refine w_iload_n (pc := 78) hC dX12_chance_78 3 rfl rfl ?_
          refine w_imul (pc := 79) hC dX12_chance_79 ?_
          refine w_iadd (pc := 80) hC dX12_chance_80 ?_
          refine w_iload_n (pc := 81) hC dX12_chance_81 2 rfl rfl ?_
          refine w_iadd (pc := 82) hC dX12_chance_82 ?_
          refine w_bipush (pc := 83) hC dX12_chance_83 (z := 100) rfl ?_
          refine w_iload_n (pc := 85) hC dX12_chance_85 4 rfl rfl ?_
          refine w_isub (pc := 86) hC dX12_chance_86 ?_
          refine w_iast (pc := 87) (g := s68) (w2 := MW A G.2.1 (au I 1 (gu s68 ((130 + (6 * b)) + a) (100 - n))) F) hC dX12_chance_87 1 rfl (by omega) (Nat.le_of_ble_eq_true rfl) rfl ?_
          generalize h87 : gu s68 ((130 + (6 * b)) + a) (100 - n) = s87
          refine w_iload (pc := 88) hC dX12_chance_88 0 rfl ?_
          refine w_iret (pc := 90) hC hRT dX12_chance_90 rfl ?_
          refine ⟨s87, retI (by first | rfl | (simp only [v_chance]; repeat' split) <;> first | rfl | omega), rfl, ?_⟩
          · subst h87 h68; unfold n_chance; rw [if_pos (by omega)]
        · refine w_bipush (pc := 33) hC dX12_chance_33 (z := (-2)) rfl ?_
          refine w_iret (pc := 35) hC hRT dX12_chance_35 rfl ?_
          refine ⟨(I 1), retI (by first | rfl | (simp only [v_chance]; repeat' split) <;> first | rfl | omega), rfl, ?_⟩
          · unfold n_chance; rw [if_neg (by omega)]
    · refine w_iconst (pc := 16) hC dX12_chance_16 ?_
      refine w_iret (pc := 17) hC hRT dX12_chance_17 rfl ?_
      refine ⟨(I 1), retI (by first | rfl | (simp only [v_chance]; repeat' split) <;> first | rfl | omega), rfl, ?_⟩
      · unfold n_chance; rw [if_neg (by omega)]
set_option maxRecDepth 100000 in
set_option maxHeartbeats 4000000 in
theorem c_X12_beats (l : Launch) (G : GT) (A : Nat → Nat) (I : Nat → Int → Int) (F : Nat → Int)  (a : Int) (b : Int) (hR : RI (I 1)) (ha : -2147483648 ≤ a ∧ a < 2147483648) (hb : -2147483648 ≤ b ∧ b < 2147483648) : CT l yX12_beats cX12_beats 3 (some .int) 2 0 0 G [.ref (A 0), .int (J a), .int (J b)] (MW A G.2.1 I F) (fun vo wo => vo = some (.int (J (v_beats (I 1) a b))) ∧ wo = MW A G.2.1 I F) := by
  refine CT_of (own := RX12) rfl rfl (Nat.le_of_ble_eq_true rfl) (fun K hl hnL hC hRT hin => ?_)
  subst hl
  show WW K G 0 0 (MW A G.2.1 I F) 0 [(0, .ref (A 0)), (1, .int (J a)), (2, .int (J b))] []
  have hn := hR.n
  refine w_aload_n (pc := 0) hC dX12_beats_0 0 rfl rfl ?_
  refine w_iload_n (pc := 1) hC dX12_beats_1 1 rfl rfl ?_
  refine w_callV (pc := 2) (As := [.int (J a)]) (rest := []) hC dX12_beats_2 cv_X12_60 (c_X12_isName (kl K) G A I F a (show RI (I 1) from by first | assumption | omega) (show -2147483648 ≤ a ∧ a < 2147483648 from by first | assumption | omega)) (by decide) ⟨Nat.le_of_ble_eq_true rfl, Nat.le_of_ble_eq_true rfl⟩ (q0 := 0) rfl rfl rfl rfl (Nat.le_of_ble_eq_true rfl) rfl (fun vo wo hv => ?_)
  obtain ⟨hv1, hw1⟩ := hv
  rw [hv1, hw1]
  show WW K G 0 0 (MW A G.2.1 I F) 5 [(0, .ref (A 0)), (1, .int (J a)), (2, .int (J b))] [.int (J (bI (0 ≤ a ∧ a < (I 1) 0)))]
  refine w_if_eq_b (pc := 5) (tgt := 16) hC dX12_beats_5 (by decide) (fun c5 => ?_) (fun c5 => ?_)
  · refine w_iconst (pc := 16) hC dX12_beats_16 ?_
    refine w_iret (pc := 17) hC hRT dX12_beats_17 rfl ?_
    refine ⟨retI (by first | rfl | (simp only [v_beats]; repeat' split) <;> first | rfl | omega), rfl⟩
  · refine w_aload_n (pc := 8) hC dX12_beats_8 0 rfl rfl ?_
    refine w_iload_n (pc := 9) hC dX12_beats_9 2 rfl rfl ?_
    refine w_callV (pc := 10) (As := [.int (J b)]) (rest := []) hC dX12_beats_10 cv_X12_60 (c_X12_isName (kl K) G A I F b (show RI (I 1) from by first | assumption | omega) (show -2147483648 ≤ b ∧ b < 2147483648 from by first | assumption | omega)) (by decide) ⟨Nat.le_of_ble_eq_true rfl, Nat.le_of_ble_eq_true rfl⟩ (q0 := 0) rfl rfl rfl rfl (Nat.le_of_ble_eq_true rfl) rfl (fun vo wo hv => ?_)
    obtain ⟨hv1, hw1⟩ := hv
    rw [hv1, hw1]
    show WW K G 0 0 (MW A G.2.1 I F) 13 [(0, .ref (A 0)), (1, .int (J a)), (2, .int (J b))] [.int (J (bI (0 ≤ b ∧ b < (I 1) 0)))]
    refine w_if_ne_b (pc := 13) (tgt := 18) hC dX12_beats_13 (by decide) (fun c13 => ?_) (fun c13 => ?_)
    · refine w_iload_n (pc := 18) hC dX12_beats_18 1 rfl rfl ?_
      refine w_iload_n (pc := 19) hC dX12_beats_19 2 rfl rfl ?_
      refine w_icmp_ne (pc := 20) (tgt := 28) hC dX12_beats_20 (by decide) (by omega) (fun c20 => ?_) (fun c20 => ?_)
      · refine w_aload_n (pc := 28) hC dX12_beats_28 0 rfl rfl ?_
        refine w_getf (pc := 29) (v := .ref (A 1)) hC dX12_beats_29 fi_X12_9 0 rfl rfl ?_
        refine w_sipush (pc := 32) hC dX12_beats_32 (z := 130) rfl ?_
        refine w_bipush (pc := 35) hC dX12_beats_35 (z := 6) rfl ?_
        refine w_iload_n (pc := 37) hC dX12_beats_37 1 rfl rfl ?_
        refine w_imul (pc := 38) hC dX12_beats_38 ?_
        refine w_iadd (pc := 39) hC dX12_beats_39 ?_
        refine w_iload_n (pc := 40) hC dX12_beats_40 2 rfl rfl ?_
        refine w_iadd (pc := 41) hC dX12_beats_41 ?_
        refine w_iald (pc := 42) (g := (I 1)) hC dX12_beats_42 1 rfl (by omega) (Nat.le_of_ble_eq_true rfl) ?_
        refine w_iret (pc := 43) hC hRT dX12_beats_43 rfl ?_
        refine ⟨retI (by first | rfl | (simp only [v_beats]; repeat' split) <;> first | rfl | omega), rfl⟩
      · refine w_bipush (pc := 23) hC dX12_beats_23 (z := (-2)) rfl ?_
        refine w_goto (pc := 25) hC dX12_beats_25 (tgt := 43) (by decide) ?_
        refine w_iret (pc := 43) hC hRT dX12_beats_43 rfl ?_
        refine ⟨retI (by first | rfl | (simp only [v_beats]; repeat' split) <;> first | rfl | omega), rfl⟩
    · refine w_iconst (pc := 16) hC dX12_beats_16 ?_
      refine w_iret (pc := 17) hC hRT dX12_beats_17 rfl ?_
      refine ⟨retI (by first | rfl | (simp only [v_beats]; repeat' split) <;> first | rfl | omega), rfl⟩
set_option maxRecDepth 100000 in
set_option maxHeartbeats 4000000 in
theorem c_X12_board (l : Launch) (G : GT) (A : Nat → Nat) (I : Nat → Int → Int) (F : Nat → Int)  (rung : Int) (what : Int) (hR : RI (I 1)) (ha : -2147483648 ≤ rung ∧ rung < 2147483648) (hb : -2147483648 ≤ what ∧ what < 2147483648) : CT l yX12_board cX12_board 3 (some .int) 2 0 0 G [.ref (A 0), .int (J rung), .int (J what)] (MW A G.2.1 I F) (fun vo wo => vo = some (.int (J (v_board (I 1) rung what))) ∧ wo = MW A G.2.1 I F) := by
  refine CT_of (own := RX12) rfl rfl (Nat.le_of_ble_eq_true rfl) (fun K hl hnL hC hRT hin => ?_)
  subst hl
  show WW K G 0 0 (MW A G.2.1 I F) 0 [(0, .ref (A 0)), (1, .int (J rung)), (2, .int (J what))] []
  have hn := hR.n
  have hB := VB_rng hR.bd
  refine w_iload_n (pc := 0) hC dX12_board_0 1 rfl rfl ?_
  refine w_iconst (pc := 1) hC dX12_board_1 ?_
  refine w_aload_n (pc := 2) hC dX12_board_2 0 rfl rfl ?_
  refine w_getf (pc := 3) (v := .ref (A 1)) hC dX12_board_3 fi_X12_9 0 rfl rfl ?_
  refine w_iconst (pc := 6) hC dX12_board_6 ?_
  refine w_iald (pc := 7) (g := (I 1)) hC dX12_board_7 1 rfl (by omega) (Nat.le_of_ble_eq_true rfl) ?_
  refine w_iconst (pc := 8) hC dX12_board_8 ?_
  refine w_isub (pc := 9) hC dX12_board_9 ?_
  refine w_callS (pc := 10) (As := [.int (J rung), .int (J 0), .int (J (((I 1) 0) - 1))]) (rest := []) hC dX12_board_10 cs_X12_48 (c_X12_in (kl K) G (MW A G.2.1 I F) rung 0 (((I 1) 0) - 1) (show (-2147483648 ≤ rung ∧ rung < 2147483648) ∧ (-2147483648 ≤ 0 ∧ 0 < 2147483648) ∧ -2147483648 ≤ (((I 1) 0) - 1) ∧ (((I 1) 0) - 1) < 2147483648 from by first | assumption | omega)) (by decide) ⟨Nat.le_of_ble_eq_true rfl, Nat.le_of_ble_eq_true rfl⟩ rfl (Nat.le_of_ble_eq_true rfl) rfl (fun vo wo hv => ?_)
  obtain ⟨hv1, hw1⟩ := hv
  rw [hv1, hw1]
  show WW K G 0 0 (MW A G.2.1 I F) 13 [(0, .ref (A 0)), (1, .int (J rung)), (2, .int (J what))] [.int (J (bI (0 ≤ rung ∧ rung ≤ (((I 1) 0) - 1))))]
  refine w_if_eq_b (pc := 13) (tgt := 50) hC dX12_board_13 (by decide) (fun c13 => ?_) (fun c13 => ?_)
  · refine w_iconst (pc := 50) hC dX12_board_50 ?_
    refine w_iret (pc := 51) hC hRT dX12_board_51 rfl ?_
    refine ⟨retI (by first | rfl | (simp only [v_board]; repeat' split) <;> first | rfl | omega), rfl⟩
  · refine w_iload_n (pc := 16) hC dX12_board_16 2 rfl rfl ?_
    refine w_iconst (pc := 17) hC dX12_board_17 ?_
    refine w_iconst (pc := 18) hC dX12_board_18 ?_
    refine w_callS (pc := 19) (As := [.int (J what), .int (J 0), .int (J 1)]) (rest := []) hC dX12_board_19 cs_X12_48 (c_X12_in (kl K) G (MW A G.2.1 I F) what 0 1 (show (-2147483648 ≤ what ∧ what < 2147483648) ∧ (-2147483648 ≤ 0 ∧ 0 < 2147483648) ∧ -2147483648 ≤ 1 ∧ 1 < 2147483648 from by first | assumption | omega)) (by decide) ⟨Nat.le_of_ble_eq_true rfl, Nat.le_of_ble_eq_true rfl⟩ rfl (Nat.le_of_ble_eq_true rfl) rfl (fun vo wo hv => ?_)
    obtain ⟨hv1, hw1⟩ := hv
    rw [hv1, hw1]
    show WW K G 0 0 (MW A G.2.1 I F) 22 [(0, .ref (A 0)), (1, .int (J rung)), (2, .int (J what))] [.int (J (bI (0 ≤ what ∧ what ≤ 1)))]
    refine w_if_eq_b (pc := 22) (tgt := 50) hC dX12_board_22 (by decide) (fun c22 => ?_) (fun c22 => ?_)
    · refine w_iconst (pc := 50) hC dX12_board_50 ?_
      refine w_iret (pc := 51) hC hRT dX12_board_51 rfl ?_
      refine ⟨retI (by first | rfl | (simp only [v_board]; repeat' split) <;> first | rfl | omega), rfl⟩
    · refine w_iload_n (pc := 25) hC dX12_board_25 2 rfl rfl ?_
      refine w_if_ne (pc := 26) (tgt := 39) hC dX12_board_26 (by decide) (by omega) (fun c26 => ?_) (fun c26 => ?_)
      · refine w_aload_n (pc := 39) hC dX12_board_39 0 rfl rfl ?_
        refine w_callV (pc := 40) (As := []) (rest := []) hC dX12_board_40 cv_X12_64 (c_X12_trueBoard (kl K) G A I F (show RI (I 1) from by first | assumption | omega)) (by decide) ⟨Nat.le_of_ble_eq_true rfl, Nat.le_of_ble_eq_true rfl⟩ (q0 := 0) rfl rfl rfl rfl (Nat.le_of_ble_eq_true rfl) rfl (fun vo wo hv => ?_)
        obtain ⟨hv1, hw1⟩ := hv
        rw [hv1, hw1]
        show WW K G 0 0 (MW A G.2.1 I F) 43 [(0, .ref (A 0)), (1, .int (J rung)), (2, .int (J what))] [.int (J (TB (I 1)))]
        have q40_0 := VB_TB (I 1) (by omega) (by omega)
        refine w_iload_n (pc := 43) hC dX12_board_43 1 rfl rfl ?_
        refine w_callS (pc := 44) (As := [.int (J (TB (I 1))), .int (J rung)]) (rest := []) hC dX12_board_44 cs_X12_52 (c_X12_nameOn (kl K) G (MW A G.2.1 I F) (TB (I 1)) rung (show -2147483648 ≤ (TB (I 1)) ∧ (TB (I 1)) < 2147483648 from by first | omega | (have := VB_rng (q40_0); omega)) (show 0 ≤ rung ∧ rung ≤ 10 from by first | assumption | omega)) (by decide) ⟨Nat.le_of_ble_eq_true rfl, Nat.le_of_ble_eq_true rfl⟩ rfl (Nat.le_of_ble_eq_true rfl) rfl (fun vo wo hv => ?_)
        obtain ⟨hv1, hw1⟩ := hv
        rw [hv1, hw1]
        show WW K G 0 0 (MW A G.2.1 I F) 47 [(0, .ref (A 0)), (1, .int (J rung)), (2, .int (J what))] [.int (J (dg (TB (I 1)) rung))]
        have q44_0 := dg_bd (TB (I 1)) rung
        refine w_goto (pc := 47) hC dX12_board_47 (tgt := 51) (by decide) ?_
        refine w_iret (pc := 51) hC hRT dX12_board_51 rfl ?_
        refine ⟨retI (by first | rfl | (simp only [v_board]; repeat' split) <;> first | rfl | omega), rfl⟩
      · refine w_aload_n (pc := 29) hC dX12_board_29 0 rfl rfl ?_
        refine w_getf (pc := 30) (v := .ref (A 1)) hC dX12_board_30 fi_X12_9 0 rfl rfl ?_
        refine w_bipush (pc := 33) hC dX12_board_33 (z := 6) rfl ?_
        refine w_iald (pc := 35) (g := (I 1)) hC dX12_board_35 1 rfl (by omega) (Nat.le_of_ble_eq_true rfl) ?_
        refine w_goto (pc := 36) hC dX12_board_36 (tgt := 43) (by decide) ?_
        refine w_iload_n (pc := 43) hC dX12_board_43 1 rfl rfl ?_
        refine w_callS (pc := 44) (As := [.int (J ((I 1) 6)), .int (J rung)]) (rest := []) hC dX12_board_44 cs_X12_52 (c_X12_nameOn (kl K) G (MW A G.2.1 I F) ((I 1) 6) rung (show -2147483648 ≤ ((I 1) 6) ∧ ((I 1) 6) < 2147483648 from by first | omega | (have := VB_rng (q40_0); omega)) (show 0 ≤ rung ∧ rung ≤ 10 from by first | assumption | omega)) (by decide) ⟨Nat.le_of_ble_eq_true rfl, Nat.le_of_ble_eq_true rfl⟩ rfl (Nat.le_of_ble_eq_true rfl) rfl (fun vo wo hv => ?_)
        obtain ⟨hv1, hw1⟩ := hv
        rw [hv1, hw1]
        show WW K G 0 0 (MW A G.2.1 I F) 47 [(0, .ref (A 0)), (1, .int (J rung)), (2, .int (J what))] [.int (J (dg ((I 1) 6) rung))]
        have q44_0 := dg_bd ((I 1) 6) rung
        refine w_goto (pc := 47) hC dX12_board_47 (tgt := 51) (by decide) ?_
        refine w_iret (pc := 51) hC hRT dX12_board_51 rfl ?_
        refine ⟨retI (by first | rfl | (simp only [v_board]; repeat' split) <;> first | rfl | omega), rfl⟩
set_option maxRecDepth 100000 in
set_option maxHeartbeats 4000000 in
theorem c_X12_hang (l : Launch) (G : GT) (A : Nat → Nat) (I : Nat → Int → Int) (F : Nat → Int)  (name : Int) (rung : Int) (hR : RI (I 1)) (ha : -2147483648 ≤ name ∧ name < 2147483648) (hb : -2147483648 ≤ rung ∧ rung < 2147483648) : CT l yX12_hang cX12_hang 4 (some .int) 2 0 0 G [.ref (A 0), .int (J name), .int (J rung)] (MW A G.2.1 I F) (fun vo wo => ∃ (b1 : Int → Int), vo = some (.int (J (v_hang (I 1) name rung))) ∧ wo = MW A G.2.1 (au I 1 b1) F ∧ (b1 = n_hang (I 1) name rung)) := by
  refine CT_of (own := RX12) rfl rfl (Nat.le_of_ble_eq_true rfl) (fun K hl hnL hC hRT hin => ?_)
  subst hl
  show WW K G 0 0 (MW A G.2.1 I F) 0 [(0, .ref (A 0)), (1, .int (J name)), (2, .int (J rung))] []
  have hn := hR.n
  have hV := hR.bd
  refine w_aload_n (pc := 0) hC dX12_hang_0 0 rfl rfl ?_
  refine w_iload_n (pc := 1) hC dX12_hang_1 1 rfl rfl ?_
  refine w_callV (pc := 2) (As := [.int (J name)]) (rest := []) hC dX12_hang_2 cv_X12_60 (c_X12_isName (kl K) G A I F name (show RI (I 1) from by first | assumption | omega) (show -2147483648 ≤ name ∧ name < 2147483648 from by first | assumption | omega)) (by decide) ⟨Nat.le_of_ble_eq_true rfl, Nat.le_of_ble_eq_true rfl⟩ (q0 := 0) rfl rfl rfl rfl (Nat.le_of_ble_eq_true rfl) rfl (fun vo wo hv => ?_)
  obtain ⟨hv1, hw1⟩ := hv
  rw [hv1, hw1]
  show WW K G 0 0 (MW A G.2.1 I F) 5 [(0, .ref (A 0)), (1, .int (J name)), (2, .int (J rung))] [.int (J (bI (0 ≤ name ∧ name < (I 1) 0)))]
  refine w_if_eq_b (pc := 5) (tgt := 24) hC dX12_hang_5 (by decide) (fun c5 => ?_) (fun c5 => ?_)
  · refine w_iconst (pc := 24) hC dX12_hang_24 ?_
    refine w_iret (pc := 25) hC hRT dX12_hang_25 rfl ?_
    refine ⟨(I 1), retI (by first | rfl | (simp only [v_hang]; repeat' split) <;> first | rfl | omega), rfl, ?_⟩
    · unfold n_hang; rw [if_neg (by omega)]
  · refine w_iload_n (pc := 8) hC dX12_hang_8 2 rfl rfl ?_
    refine w_iconst (pc := 9) hC dX12_hang_9 ?_
    refine w_aload_n (pc := 10) hC dX12_hang_10 0 rfl rfl ?_
    refine w_getf (pc := 11) (v := .ref (A 1)) hC dX12_hang_11 fi_X12_9 0 rfl rfl ?_
    refine w_iconst (pc := 14) hC dX12_hang_14 ?_
    refine w_iald (pc := 15) (g := (I 1)) hC dX12_hang_15 1 rfl (by omega) (Nat.le_of_ble_eq_true rfl) ?_
    refine w_iconst (pc := 16) hC dX12_hang_16 ?_
    refine w_isub (pc := 17) hC dX12_hang_17 ?_
    refine w_callS (pc := 18) (As := [.int (J rung), .int (J 0), .int (J (((I 1) 0) - 1))]) (rest := []) hC dX12_hang_18 cs_X12_48 (c_X12_in (kl K) G (MW A G.2.1 I F) rung 0 (((I 1) 0) - 1) (show (-2147483648 ≤ rung ∧ rung < 2147483648) ∧ (-2147483648 ≤ 0 ∧ 0 < 2147483648) ∧ -2147483648 ≤ (((I 1) 0) - 1) ∧ (((I 1) 0) - 1) < 2147483648 from by first | assumption | omega)) (by decide) ⟨Nat.le_of_ble_eq_true rfl, Nat.le_of_ble_eq_true rfl⟩ rfl (Nat.le_of_ble_eq_true rfl) rfl (fun vo wo hv => ?_)
    obtain ⟨hv1, hw1⟩ := hv
    rw [hv1, hw1]
    show WW K G 0 0 (MW A G.2.1 I F) 21 [(0, .ref (A 0)), (1, .int (J name)), (2, .int (J rung))] [.int (J (bI (0 ≤ rung ∧ rung ≤ (((I 1) 0) - 1))))]
    refine w_if_ne_b (pc := 21) (tgt := 26) hC dX12_hang_21 (by decide) (fun c21 => ?_) (fun c21 => ?_)
    · refine w_aload_n (pc := 26) hC dX12_hang_26 0 rfl rfl ?_
      refine w_aload_n (pc := 27) hC dX12_hang_27 0 rfl rfl ?_
      refine w_getf (pc := 28) (v := .ref (A 1)) hC dX12_hang_28 fi_X12_9 0 rfl rfl ?_
      refine w_bipush (pc := 31) hC dX12_hang_31 (z := 6) rfl ?_
      refine w_iald (pc := 33) (g := (I 1)) hC dX12_hang_33 1 rfl (by omega) (Nat.le_of_ble_eq_true rfl) ?_
      refine w_iload_n (pc := 34) hC dX12_hang_34 1 rfl rfl ?_
      refine w_callV (pc := 35) (As := [.int (J ((I 1) 6)), .int (J name)]) (rest := []) hC dX12_hang_35 cv_X12_68 (c_X12_rungOf (kl K) G A I F ((I 1) 0) ((I 1) 6) name (show VB ((I 1) 0) ((I 1) 6) from by first | assumption | omega) (show 0 ≤ name ∧ name < ((I 1) 0) from by first | assumption | omega)) (by decide) ⟨Nat.le_of_ble_eq_true rfl, Nat.le_of_ble_eq_true rfl⟩ (q0 := 0) rfl rfl rfl rfl (Nat.le_of_ble_eq_true rfl) rfl (fun vo wo hv => ?_)
      obtain ⟨hv1, hw1⟩ := hv
      rw [hv1, hw1]
      show WW K G 0 0 (MW A G.2.1 I F) 38 [(0, .ref (A 0)), (1, .int (J name)), (2, .int (J rung))] [.int (J (rk ((I 1) 0) ((I 1) 6) name))]
      have q35_0 := (@rk_spec ((I 1) 0) ((I 1) 6) name (by assumption) (by omega) (by omega)).1
      refine w_istore_n (pc := 38) hC dX12_hang_38 rfl (lv2 := [(3, .int (J (rk ((I 1) 0) ((I 1) 6) name))), (0, .ref (A 0)), (1, .int (J name)), (2, .int (J rung))]) (by rw [hnL]; decide) rfl ?_
      refine w_aload_n (pc := 39) hC dX12_hang_39 1 rfl rfl ?_
      refine w_getf (pc := 40) (v := .ref (A 1)) hC dX12_hang_40 fi_X12_9 0 rfl rfl ?_
      refine w_bipush (pc := 43) hC dX12_hang_43 (z := 6) rfl ?_
      refine w_aload_n (pc := 45) hC dX12_hang_45 1 rfl rfl ?_
      refine w_aload_n (pc := 46) hC dX12_hang_46 1 rfl rfl ?_
      refine w_getf (pc := 47) (v := .ref (A 1)) hC dX12_hang_47 fi_X12_9 0 rfl rfl ?_
      refine w_bipush (pc := 50) hC dX12_hang_50 (z := 6) rfl ?_
      refine w_iald (pc := 52) (g := (I 1)) hC dX12_hang_52 1 rfl (by omega) (Nat.le_of_ble_eq_true rfl) ?_
      refine w_iload_n (pc := 53) hC dX12_hang_53 2 rfl rfl ?_
      refine w_iload_n (pc := 54) hC dX12_hang_54 3 rfl rfl ?_
      refine w_callV (pc := 55) (As := [.int (J ((I 1) 6)), .int (J name), .int (J rung)]) (rest := [.int (J 6), .ref (A 1)]) hC dX12_hang_55 cv_X12_71 (c_X12_moved (kl K) G A I F ((I 1) 6) name rung (show RI (I 1) from by first | assumption | omega) (show VB ((I 1) 0) ((I 1) 6) from by first | assumption | omega) (show 0 ≤ name ∧ name < (I 1) 0 from by first | assumption | omega) (show 0 ≤ rung ∧ rung < (I 1) 0 from by first | assumption | omega)) (by decide) ⟨Nat.le_of_ble_eq_true rfl, Nat.le_of_ble_eq_true rfl⟩ (q0 := 0) rfl rfl rfl rfl (Nat.le_of_ble_eq_true rfl) rfl (fun vo wo hv => ?_)
      obtain ⟨hv1, hw1⟩ := hv
      rw [hv1, hw1]
      show WW K G 0 0 (MW A G.2.1 I F) 58 [(3, .int (J (rk ((I 1) 0) ((I 1) 6) name))), (0, .ref (A 0)), (1, .int (J name)), (2, .int (J rung))] [.int (J (mvd ((I 1) 0) ((I 1) 6) name rung)), .int (J 6), .ref (A 1)]
      have q55_0 := @VB_mvd ((I 1) 0) ((I 1) 6) name rung (by assumption) (by omega) (by omega)
      refine w_iast (pc := 58) (g := (I 1)) (w2 := MW A G.2.1 (au I 1 (gu (I 1) 6 (mvd ((I 1) 0) ((I 1) 6) name rung))) F) hC dX12_hang_58 1 rfl (by omega) (Nat.le_of_ble_eq_true rfl) rfl ?_
      generalize h58 : gu (I 1) 6 (mvd ((I 1) 0) ((I 1) 6) name rung) = s58
      refine w_iload_n (pc := 59) hC dX12_hang_59 0 rfl rfl ?_
      refine w_iret (pc := 60) hC hRT dX12_hang_60 rfl ?_
      refine ⟨s58, retI (by first | rfl | (simp only [v_hang]; repeat' split) <;> first | rfl | omega), rfl, ?_⟩
      · subst h58; unfold n_hang; rw [if_pos (by omega)]
    · refine w_iconst (pc := 24) hC dX12_hang_24 ?_
      refine w_iret (pc := 25) hC hRT dX12_hang_25 rfl ?_
      refine ⟨(I 1), retI (by first | rfl | (simp only [v_hang]; repeat' split) <;> first | rfl | omega), rfl, ?_⟩
      · unfold n_hang; rw [if_neg (by omega)]
set_option maxRecDepth 100000 in
set_option maxHeartbeats 4000000 in
theorem c_X12_far (l : Launch) (G : GT) (A : Nat → Nat) (I : Nat → Int → Int) (F : Nat → Int)   (hR : RI (I 1)) : CT l yX12_far cX12_far 5 (some .int) 2 0 0 G [.ref (A 0)] (MW A G.2.1 I F) (fun vo wo => vo = some (.int (J (FAR (I 1)))) ∧ wo = MW A G.2.1 I F) := by
  refine CT_of (own := RX12) rfl rfl (Nat.le_of_ble_eq_true rfl) (fun K hl hnL hC hRT hin => ?_)
  subst hl
  show WW K G 0 0 (MW A G.2.1 I F) 0 [(0, .ref (A 0))] []
  have hn := hR.n
  have hV := hR.bd
  have hT := VB_TB (I 1) hn.1 hn.2
  refine w_aload_n (pc := 0) hC dX12_far_0 0 rfl rfl ?_
  refine w_callV (pc := 1) (As := []) (rest := []) hC dX12_far_1 cv_X12_64 (c_X12_trueBoard (kl K) G A I F (show RI (I 1) from by first | assumption | omega)) (by decide) ⟨Nat.le_of_ble_eq_true rfl, Nat.le_of_ble_eq_true rfl⟩ (q0 := 0) rfl rfl rfl rfl (Nat.le_of_ble_eq_true rfl) rfl (fun vo wo hv => ?_)
  obtain ⟨hv1, hw1⟩ := hv
  rw [hv1, hw1]
  show WW K G 0 0 (MW A G.2.1 I F) 4 [(0, .ref (A 0))] [.int (J (TB (I 1)))]
  have q1_0 := VB_TB (I 1) (by omega) (by omega)
  refine w_istore_n (pc := 4) hC dX12_far_4 rfl (lv2 := [(1, .int (J (TB (I 1)))), (0, .ref (A 0))]) (by rw [hnL]; decide) rfl ?_
  refine w_iconst (pc := 5) hC dX12_far_5 ?_
  refine w_istore_n (pc := 6) hC dX12_far_6 rfl (lv2 := [(2, .int (J 0)), (1, .int (J (TB (I 1)))), (0, .ref (A 0))]) (by rw [hnL]; decide) rfl ?_
  refine w_iconst (pc := 7) hC dX12_far_7 ?_
  refine w_istore_n (pc := 8) hC dX12_far_8 rfl (lv2 := [(3, .int (J 0)), (2, .int (J 0)), (1, .int (J (TB (I 1)))), (0, .ref (A 0))]) (by rw [hnL]; decide) rfl ?_
  have loop9 : ∀ (nF : Nat) (x : Int) (a : Int), (0 ≤ a ∧ a ≤ (I 1) 0) → (x = psum (disc (I 1)) a.toNat) → ((I 1) 0 - a) < (nF : Int) → WW K G 0 0 (MW A G.2.1 I F) 9 [(0, .ref (A 0)), (1, .int (J (TB (I 1)))), (2, .int (J x)), (3, .int (J a))] [] := by
    intro nF
    induction nF with
    | zero => intro x a i1 i2 hm9; exact absurd hm9 (by omega)
    | succ nF ih9 =>
      intro x a i1 i2 hm9
      refine w_iload_n (pc := 9) hC dX12_far_9 3 rfl rfl ?_
      refine w_aload_n (pc := 10) hC dX12_far_10 0 rfl rfl ?_
      refine w_getf (pc := 11) (v := .ref (A 1)) hC dX12_far_11 fi_X12_9 0 rfl rfl ?_
      refine w_iconst (pc := 14) hC dX12_far_14 ?_
      refine w_iald (pc := 15) (g := (I 1)) hC dX12_far_15 1 rfl (by omega) (Nat.le_of_ble_eq_true rfl) ?_
      refine w_icmp_ge (pc := 16) (tgt := 105) hC dX12_far_16 (by decide) (by omega) (fun c16 => ?_) (fun c16 => ?_)
      · refine w_iload_n (pc := 105) hC dX12_far_105 2 rfl rfl ?_
        refine w_iret (pc := 106) hC hRT dX12_far_106 rfl ?_
        refine ⟨retI (by rw [i2, show a = I 1 0 by omega]; rfl), rfl⟩
      · refine w_iconst (pc := 19) hC dX12_far_19 ?_
        refine w_istore (pc := 20) hC dX12_far_20 (lv2 := [(4, .int (J 0)), (0, .ref (A 0)), (1, .int (J (TB (I 1)))), (2, .int (J x)), (3, .int (J a))]) (by rw [hnL]; decide) rfl ?_
        have loop22 : ∀ (nF : Nat) (y : Int) (b : Int), (0 ≤ b ∧ b ≤ a) → (y = psum (disc (I 1)) a.toNat + cnt (disc (I 1) a) b.toNat) → (a - b) < (nF : Int) → WW K G 0 0 (MW A G.2.1 I F) 22 [(0, .ref (A 0)), (1, .int (J (TB (I 1)))), (2, .int (J y)), (3, .int (J a)), (4, .int (J b))] [] := by
          intro nF
          induction nF with
          | zero => intro y b i3 i4 hm22; exact absurd hm22 (by omega)
          | succ nF ih22 =>
            intro y b i3 i4 hm22
            refine w_iload (pc := 22) hC dX12_far_22 4 rfl ?_
            refine w_iload_n (pc := 24) hC dX12_far_24 3 rfl rfl ?_
            refine w_icmp_ge (pc := 25) (tgt := 99) hC dX12_far_25 (by decide) (by omega) (fun c25 => ?_) (fun c25 => ?_)
            · refine w_iinc (pc := 99) hC dX12_far_99 (lv2 := [(3, .int (J (a + 1))), (0, .ref (A 0)), (1, .int (J (TB (I 1)))), (2, .int (J y)), (4, .int (J b))]) 3 rfl (by rw [hnL]; decide) rfl ?_
              refine w_goto (pc := 102) hC dX12_far_102 (tgt := 9) (by decide) ?_
              refine w_sub [1, 2, 3, 0] (lv2 := [(0, .ref (A 0)), (1, .int (J (TB (I 1)))), (2, .int (J y)), (3, .int (J (a + 1)))]) rfl ?_
              refine ih9 y (a + 1) ?_ ?_ ?_
              · first | assumption | omega
              · rw [psum_s _ i1.1, i4, show b = a by omega]
              · omega
            · refine w_iload_n (pc := 28) hC dX12_far_28 2 rfl rfl ?_
              refine w_aload_n (pc := 29) hC dX12_far_29 0 rfl rfl ?_
              refine w_iload_n (pc := 30) hC dX12_far_30 1 rfl rfl ?_
              refine w_iload_n (pc := 31) hC dX12_far_31 3 rfl rfl ?_
              refine w_callV (pc := 32) (As := [.int (J (TB (I 1))), .int (J a)]) (rest := [.int (J y)]) hC dX12_far_32 cv_X12_68 (c_X12_rungOf (kl K) G A I F ((I 1) 0) (TB (I 1)) a (show VB ((I 1) 0) (TB (I 1)) from by first | assumption | omega) (show 0 ≤ a ∧ a < ((I 1) 0) from by first | assumption | omega)) (by decide) ⟨Nat.le_of_ble_eq_true rfl, Nat.le_of_ble_eq_true rfl⟩ (q0 := 0) rfl rfl rfl rfl (Nat.le_of_ble_eq_true rfl) rfl (fun vo wo hv => ?_)
              obtain ⟨hv1, hw1⟩ := hv
              rw [hv1, hw1]
              show WW K G 0 0 (MW A G.2.1 I F) 35 [(0, .ref (A 0)), (1, .int (J (TB (I 1)))), (2, .int (J y)), (3, .int (J a)), (4, .int (J b))] [.int (J (rk ((I 1) 0) (TB (I 1)) a)), .int (J y)]
              have q32_0 := (@rk_spec ((I 1) 0) (TB (I 1)) a (by assumption) (by omega) (by omega)).1
              refine w_aload_n (pc := 35) hC dX12_far_35 0 rfl rfl ?_
              refine w_iload_n (pc := 36) hC dX12_far_36 1 rfl rfl ?_
              refine w_iload (pc := 37) hC dX12_far_37 4 rfl ?_
              refine w_callV (pc := 39) (As := [.int (J (TB (I 1))), .int (J b)]) (rest := [.int (J (rk ((I 1) 0) (TB (I 1)) a)), .int (J y)]) hC dX12_far_39 cv_X12_68 (c_X12_rungOf (kl K) G A I F ((I 1) 0) (TB (I 1)) b (show VB ((I 1) 0) (TB (I 1)) from by first | assumption | omega) (show 0 ≤ b ∧ b < ((I 1) 0) from by first | assumption | omega)) (by decide) ⟨Nat.le_of_ble_eq_true rfl, Nat.le_of_ble_eq_true rfl⟩ (q0 := 0) rfl rfl rfl rfl (Nat.le_of_ble_eq_true rfl) rfl (fun vo wo hv => ?_)
              obtain ⟨hv1, hw1⟩ := hv
              rw [hv1, hw1]
              show WW K G 0 0 (MW A G.2.1 I F) 42 [(0, .ref (A 0)), (1, .int (J (TB (I 1)))), (2, .int (J y)), (3, .int (J a)), (4, .int (J b))] [.int (J (rk ((I 1) 0) (TB (I 1)) b)), .int (J (rk ((I 1) 0) (TB (I 1)) a)), .int (J y)]
              have q39_0 := (@rk_spec ((I 1) 0) (TB (I 1)) b (by assumption) (by omega) (by omega)).1
              refine w_icmp_ge (pc := 42) (tgt := 49) hC dX12_far_42 (by decide) (by omega) (fun c42 => ?_) (fun c42 => ?_)
              · refine w_iconst (pc := 49) hC dX12_far_49 ?_
                refine w_aload_n (pc := 50) hC dX12_far_50 0 rfl rfl ?_
                refine w_aload_n (pc := 51) hC dX12_far_51 0 rfl rfl ?_
                refine w_getf (pc := 52) (v := .ref (A 1)) hC dX12_far_52 fi_X12_9 0 rfl rfl ?_
                refine w_bipush (pc := 55) hC dX12_far_55 (z := 6) rfl ?_
                refine w_iald (pc := 57) (g := (I 1)) hC dX12_far_57 1 rfl (by omega) (Nat.le_of_ble_eq_true rfl) ?_
                refine w_iload_n (pc := 58) hC dX12_far_58 3 rfl rfl ?_
                refine w_callV (pc := 59) (As := [.int (J ((I 1) 6)), .int (J a)]) (rest := [.int (J 0), .int (J y)]) hC dX12_far_59 cv_X12_68 (c_X12_rungOf (kl K) G A I F ((I 1) 0) ((I 1) 6) a (show VB ((I 1) 0) ((I 1) 6) from by first | assumption | omega) (show 0 ≤ a ∧ a < ((I 1) 0) from by first | assumption | omega)) (by decide) ⟨Nat.le_of_ble_eq_true rfl, Nat.le_of_ble_eq_true rfl⟩ (q0 := 0) rfl rfl rfl rfl (Nat.le_of_ble_eq_true rfl) rfl (fun vo wo hv => ?_)
                obtain ⟨hv1, hw1⟩ := hv
                rw [hv1, hw1]
                show WW K G 0 0 (MW A G.2.1 I F) 62 [(0, .ref (A 0)), (1, .int (J (TB (I 1)))), (2, .int (J y)), (3, .int (J a)), (4, .int (J b))] [.int (J (rk ((I 1) 0) ((I 1) 6) a)), .int (J 0), .int (J y)]
                have q59_0 := (@rk_spec ((I 1) 0) ((I 1) 6) a (by assumption) (by omega) (by omega)).1
                refine w_aload_n (pc := 62) hC dX12_far_62 0 rfl rfl ?_
                refine w_aload_n (pc := 63) hC dX12_far_63 0 rfl rfl ?_
                refine w_getf (pc := 64) (v := .ref (A 1)) hC dX12_far_64 fi_X12_9 0 rfl rfl ?_
                refine w_bipush (pc := 67) hC dX12_far_67 (z := 6) rfl ?_
                refine w_iald (pc := 69) (g := (I 1)) hC dX12_far_69 1 rfl (by omega) (Nat.le_of_ble_eq_true rfl) ?_
                refine w_iload (pc := 70) hC dX12_far_70 4 rfl ?_
                refine w_callV (pc := 72) (As := [.int (J ((I 1) 6)), .int (J b)]) (rest := [.int (J (rk ((I 1) 0) ((I 1) 6) a)), .int (J 0), .int (J y)]) hC dX12_far_72 cv_X12_68 (c_X12_rungOf (kl K) G A I F ((I 1) 0) ((I 1) 6) b (show VB ((I 1) 0) ((I 1) 6) from by first | assumption | omega) (show 0 ≤ b ∧ b < ((I 1) 0) from by first | assumption | omega)) (by decide) ⟨Nat.le_of_ble_eq_true rfl, Nat.le_of_ble_eq_true rfl⟩ (q0 := 0) rfl rfl rfl rfl (Nat.le_of_ble_eq_true rfl) rfl (fun vo wo hv => ?_)
                obtain ⟨hv1, hw1⟩ := hv
                rw [hv1, hw1]
                show WW K G 0 0 (MW A G.2.1 I F) 75 [(0, .ref (A 0)), (1, .int (J (TB (I 1)))), (2, .int (J y)), (3, .int (J a)), (4, .int (J b))] [.int (J (rk ((I 1) 0) ((I 1) 6) b)), .int (J (rk ((I 1) 0) ((I 1) 6) a)), .int (J 0), .int (J y)]
                have q72_0 := (@rk_spec ((I 1) 0) ((I 1) 6) b (by assumption) (by omega) (by omega)).1
                refine w_icmp_ge (pc := 75) (tgt := 82) hC dX12_far_75 (by decide) (by omega) (fun c75 => ?_) (fun c75 => ?_)
                · refine w_iconst (pc := 82) hC dX12_far_82 ?_
                  refine w_icmp_eq (pc := 83) (tgt := 90) hC dX12_far_83 (by decide) (by omega) (fun c83 => ?_) (fun c83 => ?_)
                  · refine w_iconst (pc := 90) hC dX12_far_90 ?_
                    refine w_iadd (pc := 91) hC dX12_far_91 ?_
                    refine w_istore_n (pc := 92) hC dX12_far_92 rfl (lv2 := [(2, .int (J (y + 0))), (0, .ref (A 0)), (1, .int (J (TB (I 1)))), (3, .int (J a)), (4, .int (J b))]) (by rw [hnL]; decide) rfl ?_
                    refine w_iinc (pc := 93) hC dX12_far_93 (lv2 := [(4, .int (J (b + 1))), (2, .int (J (y + 0))), (0, .ref (A 0)), (1, .int (J (TB (I 1)))), (3, .int (J a))]) 4 rfl (by rw [hnL]; decide) rfl ?_
                    refine w_goto (pc := 96) hC dX12_far_96 (tgt := 22) (by decide) ?_
                    refine w_sub [2, 3, 1, 4, 0] (lv2 := [(0, .ref (A 0)), (1, .int (J (TB (I 1)))), (2, .int (J (y + 0))), (3, .int (J a)), (4, .int (J (b + 1)))]) rfl ?_
                    refine ih22 (y + 0) (b + 1) ?_ ?_ ?_
                    · first | assumption | omega
                    · rw [cnt_s _ i3.1, i4, Int.add_assoc]; congr 1; congr 1; unfold disc; simp only [decide_eq_true_eq]; (split <;> omega)
                    · omega
                  · exact absurd c83 (by decide)
                · refine w_iconst (pc := 78) hC dX12_far_78 ?_
                  refine w_goto (pc := 79) hC dX12_far_79 (tgt := 83) (by decide) ?_
                  refine w_icmp_eq (pc := 83) (tgt := 90) hC dX12_far_83 (by decide) (by omega) (fun c83 => ?_) (fun c83 => ?_)
                  · exact absurd c83 (by decide)
                  · refine w_iconst (pc := 86) hC dX12_far_86 ?_
                    refine w_goto (pc := 87) hC dX12_far_87 (tgt := 91) (by decide) ?_
                    refine w_iadd (pc := 91) hC dX12_far_91 ?_
                    refine w_istore_n (pc := 92) hC dX12_far_92 rfl (lv2 := [(2, .int (J (y + 1))), (0, .ref (A 0)), (1, .int (J (TB (I 1)))), (3, .int (J a)), (4, .int (J b))]) (by rw [hnL]; decide) rfl ?_
                    refine w_iinc (pc := 93) hC dX12_far_93 (lv2 := [(4, .int (J (b + 1))), (2, .int (J (y + 1))), (0, .ref (A 0)), (1, .int (J (TB (I 1)))), (3, .int (J a))]) 4 rfl (by rw [hnL]; decide) rfl ?_
                    refine w_goto (pc := 96) hC dX12_far_96 (tgt := 22) (by decide) ?_
                    refine w_sub [2, 3, 1, 4, 0] (lv2 := [(0, .ref (A 0)), (1, .int (J (TB (I 1)))), (2, .int (J (y + 1))), (3, .int (J a)), (4, .int (J (b + 1)))]) rfl ?_
                    refine ih22 (y + 1) (b + 1) ?_ ?_ ?_
                    · first | assumption | omega
                    · rw [cnt_s _ i3.1, i4, Int.add_assoc]; congr 1; congr 1; unfold disc; simp only [decide_eq_true_eq]; (split <;> omega)
                    · omega
              · refine w_iconst (pc := 45) hC dX12_far_45 ?_
                refine w_goto (pc := 46) hC dX12_far_46 (tgt := 50) (by decide) ?_
                refine w_aload_n (pc := 50) hC dX12_far_50 0 rfl rfl ?_
                refine w_aload_n (pc := 51) hC dX12_far_51 0 rfl rfl ?_
                refine w_getf (pc := 52) (v := .ref (A 1)) hC dX12_far_52 fi_X12_9 0 rfl rfl ?_
                refine w_bipush (pc := 55) hC dX12_far_55 (z := 6) rfl ?_
                refine w_iald (pc := 57) (g := (I 1)) hC dX12_far_57 1 rfl (by omega) (Nat.le_of_ble_eq_true rfl) ?_
                refine w_iload_n (pc := 58) hC dX12_far_58 3 rfl rfl ?_
                refine w_callV (pc := 59) (As := [.int (J ((I 1) 6)), .int (J a)]) (rest := [.int (J 1), .int (J y)]) hC dX12_far_59 cv_X12_68 (c_X12_rungOf (kl K) G A I F ((I 1) 0) ((I 1) 6) a (show VB ((I 1) 0) ((I 1) 6) from by first | assumption | omega) (show 0 ≤ a ∧ a < ((I 1) 0) from by first | assumption | omega)) (by decide) ⟨Nat.le_of_ble_eq_true rfl, Nat.le_of_ble_eq_true rfl⟩ (q0 := 0) rfl rfl rfl rfl (Nat.le_of_ble_eq_true rfl) rfl (fun vo wo hv => ?_)
                obtain ⟨hv1, hw1⟩ := hv
                rw [hv1, hw1]
                show WW K G 0 0 (MW A G.2.1 I F) 62 [(0, .ref (A 0)), (1, .int (J (TB (I 1)))), (2, .int (J y)), (3, .int (J a)), (4, .int (J b))] [.int (J (rk ((I 1) 0) ((I 1) 6) a)), .int (J 1), .int (J y)]
                have q59_0 := (@rk_spec ((I 1) 0) ((I 1) 6) a (by assumption) (by omega) (by omega)).1
                refine w_aload_n (pc := 62) hC dX12_far_62 0 rfl rfl ?_
                refine w_aload_n (pc := 63) hC dX12_far_63 0 rfl rfl ?_
                refine w_getf (pc := 64) (v := .ref (A 1)) hC dX12_far_64 fi_X12_9 0 rfl rfl ?_
                refine w_bipush (pc := 67) hC dX12_far_67 (z := 6) rfl ?_
                refine w_iald (pc := 69) (g := (I 1)) hC dX12_far_69 1 rfl (by omega) (Nat.le_of_ble_eq_true rfl) ?_
                refine w_iload (pc := 70) hC dX12_far_70 4 rfl ?_
                refine w_callV (pc := 72) (As := [.int (J ((I 1) 6)), .int (J b)]) (rest := [.int (J (rk ((I 1) 0) ((I 1) 6) a)), .int (J 1), .int (J y)]) hC dX12_far_72 cv_X12_68 (c_X12_rungOf (kl K) G A I F ((I 1) 0) ((I 1) 6) b (show VB ((I 1) 0) ((I 1) 6) from by first | assumption | omega) (show 0 ≤ b ∧ b < ((I 1) 0) from by first | assumption | omega)) (by decide) ⟨Nat.le_of_ble_eq_true rfl, Nat.le_of_ble_eq_true rfl⟩ (q0 := 0) rfl rfl rfl rfl (Nat.le_of_ble_eq_true rfl) rfl (fun vo wo hv => ?_)
                obtain ⟨hv1, hw1⟩ := hv
                rw [hv1, hw1]
                show WW K G 0 0 (MW A G.2.1 I F) 75 [(0, .ref (A 0)), (1, .int (J (TB (I 1)))), (2, .int (J y)), (3, .int (J a)), (4, .int (J b))] [.int (J (rk ((I 1) 0) ((I 1) 6) b)), .int (J (rk ((I 1) 0) ((I 1) 6) a)), .int (J 1), .int (J y)]
                have q72_0 := (@rk_spec ((I 1) 0) ((I 1) 6) b (by assumption) (by omega) (by omega)).1
                refine w_icmp_ge (pc := 75) (tgt := 82) hC dX12_far_75 (by decide) (by omega) (fun c75 => ?_) (fun c75 => ?_)
                · refine w_iconst (pc := 82) hC dX12_far_82 ?_
                  refine w_icmp_eq (pc := 83) (tgt := 90) hC dX12_far_83 (by decide) (by omega) (fun c83 => ?_) (fun c83 => ?_)
                  · exact absurd c83 (by decide)
                  · refine w_iconst (pc := 86) hC dX12_far_86 ?_
                    refine w_goto (pc := 87) hC dX12_far_87 (tgt := 91) (by decide) ?_
                    refine w_iadd (pc := 91) hC dX12_far_91 ?_
                    refine w_istore_n (pc := 92) hC dX12_far_92 rfl (lv2 := [(2, .int (J (y + 1))), (0, .ref (A 0)), (1, .int (J (TB (I 1)))), (3, .int (J a)), (4, .int (J b))]) (by rw [hnL]; decide) rfl ?_
                    refine w_iinc (pc := 93) hC dX12_far_93 (lv2 := [(4, .int (J (b + 1))), (2, .int (J (y + 1))), (0, .ref (A 0)), (1, .int (J (TB (I 1)))), (3, .int (J a))]) 4 rfl (by rw [hnL]; decide) rfl ?_
                    refine w_goto (pc := 96) hC dX12_far_96 (tgt := 22) (by decide) ?_
                    refine w_sub [2, 3, 1, 4, 0] (lv2 := [(0, .ref (A 0)), (1, .int (J (TB (I 1)))), (2, .int (J (y + 1))), (3, .int (J a)), (4, .int (J (b + 1)))]) rfl ?_
                    refine ih22 (y + 1) (b + 1) ?_ ?_ ?_
                    · first | assumption | omega
                    · rw [cnt_s _ i3.1, i4, Int.add_assoc]; congr 1; congr 1; unfold disc; simp only [decide_eq_true_eq]; (split <;> omega)
                    · omega
                · refine w_iconst (pc := 78) hC dX12_far_78 ?_
                  refine w_goto (pc := 79) hC dX12_far_79 (tgt := 83) (by decide) ?_
                  refine w_icmp_eq (pc := 83) (tgt := 90) hC dX12_far_83 (by decide) (by omega) (fun c83 => ?_) (fun c83 => ?_)
                  · refine w_iconst (pc := 90) hC dX12_far_90 ?_
                    refine w_iadd (pc := 91) hC dX12_far_91 ?_
                    refine w_istore_n (pc := 92) hC dX12_far_92 rfl (lv2 := [(2, .int (J (y + 0))), (0, .ref (A 0)), (1, .int (J (TB (I 1)))), (3, .int (J a)), (4, .int (J b))]) (by rw [hnL]; decide) rfl ?_
                    refine w_iinc (pc := 93) hC dX12_far_93 (lv2 := [(4, .int (J (b + 1))), (2, .int (J (y + 0))), (0, .ref (A 0)), (1, .int (J (TB (I 1)))), (3, .int (J a))]) 4 rfl (by rw [hnL]; decide) rfl ?_
                    refine w_goto (pc := 96) hC dX12_far_96 (tgt := 22) (by decide) ?_
                    refine w_sub [2, 3, 1, 4, 0] (lv2 := [(0, .ref (A 0)), (1, .int (J (TB (I 1)))), (2, .int (J (y + 0))), (3, .int (J a)), (4, .int (J (b + 1)))]) rfl ?_
                    refine ih22 (y + 0) (b + 1) ?_ ?_ ?_
                    · first | assumption | omega
                    · rw [cnt_s _ i3.1, i4, Int.add_assoc]; congr 1; congr 1; unfold disc; simp only [decide_eq_true_eq]; (split <;> omega)
                    · omega
                  · exact absurd c83 (by decide)
        refine w_sub [1, 2, 3, 4, 0] (lv2 := [(0, .ref (A 0)), (1, .int (J (TB (I 1)))), (2, .int (J x)), (3, .int (J a)), (4, .int (J 0))]) rfl ?_
        refine loop22 ((a - 0) + 1 : Int).toNat x 0 ?_ ?_ ?_
        · first | assumption | omega
        · rw [i2]; exact (Int.add_zero _).symm
        · omega
  refine w_sub [3, 2, 1, 0] (lv2 := [(0, .ref (A 0)), (1, .int (J (TB (I 1)))), (2, .int (J 0)), (3, .int (J 0))]) rfl ?_
  refine loop9 (((I 1) 0 - 0) + 1 : Int).toNat 0 0 ?_ ?_ ?_
  · first | assumption | omega
  · rfl
  · omega
set_option maxRecDepth 100000 in
set_option maxHeartbeats 4000000 in
theorem c_X12_feed (l : Launch) (G : GT) (A : Nat → Nat) (I : Nat → Int → Int) (F : Nat → Int)  (w : Int) (n : Int) (hR : RI (I 1)) (hw : -9223372036854775808 ≤ w ∧ w < 9223372036854775808) (hc : -2147483648 ≤ n ∧ n < 2147483648) : CT l yX12_feed cX12_feed 5 (some .int) 1 0 0 G [.ref (A 0), .long (JL w), .int (J n)] (MW A G.2.1 I F) (fun vo wo => ∃ (b1 : Int → Int), vo = some (.int (J (v_feed (I 1) n))) ∧ wo = MW A G.2.1 (au I 1 b1) F ∧ (b1 = n_feed (I 1) w n)) := by
  refine CT_of (own := RX12) rfl rfl (Nat.le_of_ble_eq_true rfl) (fun K hl hnL hC hRT hin => ?_)
  subst hl
  show WW K G 0 0 (MW A G.2.1 I F) 0 [(0, .ref (A 0)), (1, .long (JL w)), (3, .int (J n))] []
  have hn := hR.n
  have ht := hR.tp
  refine w_iload_n (pc := 0) hC dX12_feed_0 2 rfl rfl ?_
  refine w_iconst (pc := 1) hC dX12_feed_1 ?_
  refine w_bipush (pc := 2) hC dX12_feed_2 (z := 8) rfl ?_
  refine w_callS (pc := 4) (As := [.int (J n), .int (J 1), .int (J 8)]) (rest := []) hC dX12_feed_4 cs_X12_48 (c_X12_in (kl K) G (MW A G.2.1 I F) n 1 8 (show (-2147483648 ≤ n ∧ n < 2147483648) ∧ (-2147483648 ≤ 1 ∧ 1 < 2147483648) ∧ -2147483648 ≤ 8 ∧ 8 < 2147483648 from by first | assumption | omega)) (by decide) ⟨Nat.le_of_ble_eq_true rfl, Nat.le_of_ble_eq_true rfl⟩ rfl (Nat.le_of_ble_eq_true rfl) rfl (fun vo wo hv => ?_)
  obtain ⟨hv1, hw1⟩ := hv
  rw [hv1, hw1]
  show WW K G 0 0 (MW A G.2.1 I F) 7 [(0, .ref (A 0)), (1, .long (JL w)), (3, .int (J n))] [.int (J (bI (1 ≤ n ∧ n ≤ 8)))]
  refine w_if_ne_b (pc := 7) (tgt := 13) hC dX12_feed_7 (by decide) (fun c7 => ?_) (fun c7 => ?_)
  · refine w_aload_n (pc := 13) hC dX12_feed_13 0 rfl rfl ?_
    refine w_getf (pc := 14) (v := .ref (A 1)) hC dX12_feed_14 fi_X12_9 0 rfl rfl ?_
    refine w_iconst (pc := 17) hC dX12_feed_17 ?_
    refine w_iald (pc := 18) (g := (I 1)) hC dX12_feed_18 1 rfl (by omega) (Nat.le_of_ble_eq_true rfl) ?_
    refine w_iload_n (pc := 19) hC dX12_feed_19 2 rfl rfl ?_
    refine w_iadd (pc := 20) hC dX12_feed_20 ?_
    refine w_bipush (pc := 21) hC dX12_feed_21 (z := 120) rfl ?_
    refine w_icmp_le (pc := 23) (tgt := 29) hC dX12_feed_23 (by decide) (by omega) (fun c23 => ?_) (fun c23 => ?_)
    · refine w_iload_n (pc := 29) hC dX12_feed_29 2 rfl rfl ?_
      refine w_iconst (pc := 30) hC dX12_feed_30 ?_
      refine w_isub (pc := 31) hC dX12_feed_31 ?_
      refine w_istore (pc := 32) hC dX12_feed_32 (lv2 := [(4, .int (J (n - 1))), (0, .ref (A 0)), (1, .long (JL w)), (3, .int (J n))]) (by rw [hnL]; decide) rfl ?_
      have loop34 : ∀ (nF : Nat) (k : Int) (a1_34 : Int → Int), (-1 ≤ k ∧ k < n) → (∀ j : Int, a1_34 j = if j = 5 then I 1 5 + (n - 1 - k) else if 10 + I 1 5 ≤ j ∧ j < 10 + I 1 5 + (n - 1 - k) then w / 2 ^ (8 * (n - 1 - (j - 10 - I 1 5))).toNat % 256 else I 1 j) → (k + 1) < (nF : Int) → WW K G 0 0 (MW A G.2.1 (au I 1 a1_34) F) 34 [(0, .ref (A 0)), (1, .long (JL w)), (4, .int (J k))] [] := by
        intro nF
        induction nF with
        | zero => intro k a1_34 i1 i2 hm34; exact absurd hm34 (by omega)
        | succ nF ih34 =>
          intro k a1_34 i1 i2 hm34
          refine w_iload (pc := 34) hC dX12_feed_34 2 rfl ?_
          refine w_if_lt (pc := 36) (tgt := 81) hC dX12_feed_36 (by decide) (by omega) (fun c36 => ?_) (fun c36 => ?_)
          · refine w_aload_n (pc := 81) hC dX12_feed_81 0 rfl rfl ?_
            refine w_getf (pc := 82) (v := .ref (A 1)) hC dX12_feed_82 fi_X12_9 0 rfl rfl ?_
            have e85 : a1_34 5 = I 1 5 + n := by rw [i2, if_pos rfl]; omega
            refine w_iconst (pc := 85) hC dX12_feed_85 ?_
            refine w_iald (pc := 86) (g := a1_34) hC dX12_feed_86 1 rfl (by omega) (Nat.le_of_ble_eq_true rfl) ?_
            refine w_iret (pc := 87) hC hRT dX12_feed_87 rfl ?_
            refine ⟨a1_34, retI (by first | (rw [e85]; unfold v_feed; (repeat' split) <;> omega) | (unfold v_feed; (repeat' split) <;> omega)), rfl, ?_⟩
            · funext j; unfold n_feed; rw [if_pos (by omega), i2, show k = -1 by omega]; (repeat' split) <;> first | rfl | omega
          · refine w_aload_n (pc := 39) hC dX12_feed_39 0 rfl rfl ?_
            refine w_getf (pc := 40) (v := .ref (A 1)) hC dX12_feed_40 fi_X12_9 0 rfl rfl ?_
            refine w_bipush (pc := 43) hC dX12_feed_43 (z := 10) rfl ?_
            refine w_aload_n (pc := 45) hC dX12_feed_45 0 rfl rfl ?_
            refine w_getf (pc := 46) (v := .ref (A 1)) hC dX12_feed_46 fi_X12_9 0 rfl rfl ?_
            refine w_iconst (pc := 49) hC dX12_feed_49 ?_
            have e50 : a1_34 5 = I 1 5 + (n - 1 - k) := by rw [i2, if_pos rfl]
            refine w_iald (pc := 50) (g := a1_34) hC dX12_feed_50 1 rfl (by omega) (Nat.le_of_ble_eq_true rfl) ?_
            refine w_iadd (pc := 51) hC dX12_feed_51 ?_
            refine w_lload_n (pc := 52) hC dX12_feed_52 1 rfl rfl ?_
            refine w_bipush (pc := 53) hC dX12_feed_53 (z := 8) rfl ?_
            refine w_iload (pc := 55) hC dX12_feed_55 2 rfl ?_
            refine w_imul (pc := 57) hC dX12_feed_57 ?_
            refine w_lshr (pc := 58) hC dX12_feed_58 (by omega) ?_
            refine w_ldc2 (pc := 59) hC dX12_feed_59 (z := 255) tw_5_180 (by decide) ?_
            refine w_land (pc := 62) hC dX12_feed_62 (v := w / 2 ^ (8 * k).toNat % 256) (JL_and255 _) ?_
            refine w_l2i (pc := 63) hC dX12_feed_63 ?_
            refine w_iast (pc := 64) (g := a1_34) (w2 := MW A G.2.1 (au I 1 (gu a1_34 (10 + (a1_34 5)) (w / 2 ^ (8 * k).toNat % 256))) F) hC dX12_feed_64 1 rfl (by omega) (Nat.le_of_ble_eq_true rfl) rfl ?_
            generalize h64 : gu a1_34 (10 + (a1_34 5)) (w / 2 ^ (8 * k).toNat % 256) = s64
            refine w_aload_n (pc := 65) hC dX12_feed_65 0 rfl rfl ?_
            refine w_getf (pc := 66) (v := .ref (A 1)) hC dX12_feed_66 fi_X12_9 0 rfl rfl ?_
            refine w_iconst (pc := 69) hC dX12_feed_69 ?_
            refine w_dup2 (pc := 70) hC dX12_feed_70 rfl rfl ?_
            have e71 : s64 5 = I 1 5 + (n - 1 - k) := by subst h64; rw [gu_ne (by omega), e50]
            refine w_iald (pc := 71) (g := s64) hC dX12_feed_71 1 rfl (by omega) (Nat.le_of_ble_eq_true rfl) ?_
            refine w_iconst (pc := 72) hC dX12_feed_72 ?_
            refine w_iadd (pc := 73) hC dX12_feed_73 ?_
            refine w_iast (pc := 74) (g := s64) (w2 := MW A G.2.1 (au I 1 (gu s64 5 ((s64 5) + 1))) F) hC dX12_feed_74 1 rfl (by omega) (Nat.le_of_ble_eq_true rfl) rfl ?_
            generalize h74 : gu s64 5 ((s64 5) + 1) = s74
            refine w_iinc (pc := 75) hC dX12_feed_75 (lv2 := [(4, .int (J (k + (-1)))), (0, .ref (A 0)), (1, .long (JL w))]) 2 rfl (by rw [hnL]; decide) rfl ?_
            refine w_goto (pc := 78) hC dX12_feed_78 (tgt := 34) (by decide) ?_
            refine w_sub [1, 2, 0] (lv2 := [(0, .ref (A 0)), (1, .long (JL w)), (4, .int (J (k + (-1))))]) rfl ?_
            refine ih34 (k + (-1)) s74 ?_ ?_ ?_
            · first | assumption | omega
            · intro j; subst h74; rw [e71]; subst h64; simp only [gu]; rw [e50]; simp only [i2]; (repeat' split) <;> first | rfl | omega | (rename_i h _ _ _; subst h; congr 3; omega) | (congr 3; omega)
            · omega
      refine w_sub [1, 2, 0] (lv2 := [(0, .ref (A 0)), (1, .long (JL w)), (4, .int (J (n - 1)))]) rfl ?_
      refine loop34 (((n - 1) + 1) + 1 : Int).toNat (n - 1) (I 1) ?_ ?_ ?_
      · first | assumption | omega
      · intro j; (repeat' split) <;> first | rfl | omega | (rename_i h; rw [h]; omega)
      · omega
    · refine w_bipush (pc := 26) hC dX12_feed_26 (z := (-4)) rfl ?_
      refine w_iret (pc := 28) hC hRT dX12_feed_28 rfl ?_
      refine ⟨(I 1), retI (by first | (rw [e85]; unfold v_feed; (repeat' split) <;> omega) | (unfold v_feed; (repeat' split) <;> omega)), rfl, ?_⟩
      · unfold n_feed; rw [if_neg (by omega)]
  · refine w_bipush (pc := 10) hC dX12_feed_10 (z := (-2)) rfl ?_
    refine w_iret (pc := 12) hC hRT dX12_feed_12 rfl ?_
    refine ⟨(I 1), retI (by first | (rw [e85]; unfold v_feed; (repeat' split) <;> omega) | (unfold v_feed; (repeat' split) <;> omega)), rfl, ?_⟩
    · unfold n_feed; rw [if_neg (by omega)]
