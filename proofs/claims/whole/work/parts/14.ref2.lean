
def dpt (st : Int → Int) : Nat → Int
  | 0 => 0
  | i + 1 => if 0 ≤ st (i : Int) then dpt st i + 1 else if st (i : Int) = -1 then dpt st i else if st (i : Int) = -2 ∨ st (i : Int) = -3 then dpt st i - 1 else 0
/-- a club's steps: none asks for what isn't there -/
def WFs (st : Int → Int) (i : Nat) : Prop := -5 ≤ st (i : Int) ∧ (0 ≤ st (i : Int) → dpt st i < 14 ∧ st (i : Int) % 8 < 6 ∧ st (i : Int) / 8 % 4 < 3 ∧ st (i : Int) / 32 ≤ 99) ∧ (st (i : Int) = -1 → 1 ≤ dpt st i) ∧ (st (i : Int) = -2 ∨ st (i : Int) = -3 → 2 ≤ dpt st i) ∧ (st (i : Int) = -4 ∨ st (i : Int) = -5 → dpt st i = 1)
def steps (S : Int → Int) (c : Int) : Int → Int := fun i => S (193 + 140 * c + i)
/-- what always holds of the reference's row -/
def RI (S : Int → Int) : Prop := (0 ≤ S 0 ∧ S 0 ≤ 6) ∧ (0 ≤ S 1 ∧ S 1 ≤ 5) ∧ (0 ≤ S 2 ∧ S 2 ≤ 999) ∧ (0 ≤ S 3 ∧ S 3 ≤ 15) ∧ (0 ≤ S 4 ∧ S 4 ≤ 6) ∧ (0 ≤ S 5 ∧ S 5 ≤ 120) ∧ VB (S 0) (S 6) ∧
  (∀ j : Int, 10 ≤ j → j < 130 → 0 ≤ S j ∧ S j ≤ 255) ∧ (∀ j : Int, 130 ≤ j → j < 166 → 0 ≤ S j ∧ S j ≤ 100) ∧ (∀ j : Int, 166 ≤ j → j < 172 → 0 ≤ S j ∧ S j ≤ 6) ∧ (∀ j : Int, 172 ≤ j → j < 178 → 0 ≤ S j ∧ S j ≤ 100) ∧ (∀ j : Int, 178 ≤ j → j < 183 → 0 ≤ S j ∧ S j ≤ 99) ∧ (∀ j : Int, 183 ≤ j → j < 188 → 0 ≤ S j ∧ S j ≤ 2) ∧ (∀ j : Int, 188 ≤ j → j < 193 → 0 ≤ S j ∧ S j ≤ 140) ∧
  (∀ c : Int, 0 ≤ c → c < S 1 → ∀ i : Nat, (i : Int) < S (188 + c) → WFs (steps S c) i) ∧
  (∀ k : Int, 0 ≤ k → k < S 3 → (0 ≤ S (893 + 2 * k) ∧ S (893 + 2 * k) < S (893 + 2 * k + 1)) ∧ S (893 + 2 * k + 1) ≤ 5) ∧ (∀ j : Int, 923 ≤ j → j < 929 → -1 ≤ S j ∧ S j ≤ 5) ∧ (∀ j : Int, 929 ≤ j → j < 965 → 0 ≤ S j ∧ S j ≤ 99) ∧ (∀ j : Int, -2147483648 ≤ S j ∧ S j < 2147483648)
theorem RI.n {S : Int → Int} (h : RI S) : 0 ≤ S 0 ∧ S 0 ≤ 6 := h.1
theorem RI.cl {S : Int → Int} (h : RI S) : 0 ≤ S 1 ∧ S 1 ≤ 5 := h.2.1
theorem RI.td {S : Int → Int} (h : RI S) : 0 ≤ S 2 ∧ S 2 ≤ 999 := h.2.2.1
theorem RI.rd {S : Int → Int} (h : RI S) : 0 ≤ S 3 ∧ S 3 ≤ 15 := h.2.2.2.1
theorem RI.rw {S : Int → Int} (h : RI S) : 0 ≤ S 4 ∧ S 4 ≤ 6 := h.2.2.2.2.1
theorem RI.tp {S : Int → Int} (h : RI S) : 0 ≤ S 5 ∧ S 5 ≤ 120 := h.2.2.2.2.2.1
theorem RI.bd {S : Int → Int} (h : RI S) : VB (S 0) (S 6) := h.2.2.2.2.2.2.1
theorem RI.tape {S : Int → Int} (h : RI S) : ∀ j : Int, 10 ≤ j → j < 130 → 0 ≤ S j ∧ S j ≤ 255 := h.2.2.2.2.2.2.2.1
theorem RI.chr {S : Int → Int} (h : RI S) : ∀ j : Int, 130 ≤ j → j < 166 → 0 ≤ S j ∧ S j ≤ 100 := h.2.2.2.2.2.2.2.2.1
theorem RI.ch {S : Int → Int} (h : RI S) {a b : Int} (h1 : 0 ≤ a ∧ a < S 0) (h2 : 0 ≤ b ∧ b < S 0) : 0 ≤ S (130 + 6 * a + b) ∧ S (130 + 6 * a + b) ≤ 100 := h.chr _ (by have := h.n; omega) (by have := h.n; omega)
theorem RI.kd {S : Int → Int} (h : RI S) : ∀ j : Int, 166 ≤ j → j < 172 → 0 ≤ S j ∧ S j ≤ 6 := h.2.2.2.2.2.2.2.2.2.1
theorem RI.vv {S : Int → Int} (h : RI S) : ∀ j : Int, 172 ≤ j → j < 178 → 0 ≤ S j ∧ S j ≤ 100 := h.2.2.2.2.2.2.2.2.2.2.1
theorem RI.up {S : Int → Int} (h : RI S) : ∀ j : Int, 178 ≤ j → j < 183 → 0 ≤ S j ∧ S j ≤ 99 := h.2.2.2.2.2.2.2.2.2.2.2.1
theorem RI.wi {S : Int → Int} (h : RI S) : ∀ j : Int, 183 ≤ j → j < 188 → 0 ≤ S j ∧ S j ≤ 2 := h.2.2.2.2.2.2.2.2.2.2.2.2.1
theorem RI.sm {S : Int → Int} (h : RI S) : ∀ j : Int, 188 ≤ j → j < 193 → 0 ≤ S j ∧ S j ≤ 140 := h.2.2.2.2.2.2.2.2.2.2.2.2.2.1
theorem RI.wf {S : Int → Int} (h : RI S) : ∀ c : Int, 0 ≤ c → c < S 1 → ∀ i : Nat, (i : Int) < S (188 + c) → WFs (steps S c) i := h.2.2.2.2.2.2.2.2.2.2.2.2.2.2.1
theorem RI.ro {S : Int → Int} (h : RI S) : ∀ k : Int, 0 ≤ k → k < S 3 → (0 ≤ S (893 + 2 * k) ∧ S (893 + 2 * k) < S (893 + 2 * k + 1)) ∧ S (893 + 2 * k + 1) ≤ 5 := h.2.2.2.2.2.2.2.2.2.2.2.2.2.2.2.1
theorem RI.rr {S : Int → Int} (h : RI S) : ∀ j : Int, 923 ≤ j → j < 929 → -1 ≤ S j ∧ S j ≤ 5 := h.2.2.2.2.2.2.2.2.2.2.2.2.2.2.2.2.1
theorem RI.pa {S : Int → Int} (h : RI S) : ∀ j : Int, 929 ≤ j → j < 965 → 0 ≤ S j ∧ S j ≤ 99 := h.2.2.2.2.2.2.2.2.2.2.2.2.2.2.2.2.2.1
theorem RI.i {S : Int → Int} (h : RI S) : ∀ j : Int, -2147483648 ≤ S j ∧ S j < 2147483648 := h.2.2.2.2.2.2.2.2.2.2.2.2.2.2.2.2.2.2

theorem bI_iff {p q : Prop} [Decidable p] [Decidable q] (h : p ↔ q) : bI p = bI q := by
  unfold bI
  by_cases c : p
  · rw [if_pos c, if_pos (h.mp c)]
  · rw [if_neg c, if_neg (fun g => c (h.mpr g))]

set_option maxRecDepth 100000 in
set_option maxHeartbeats 4000000 in
theorem c_X12_isName (l : Launch) (G : GT) (A : Nat → Nat) (I : Nat → Int → Int) (F : Nat → Int)  (a : Int) (hR : RI (I 1)) (ha : -2147483648 ≤ a ∧ a < 2147483648) : CT l yX12_isName cX12_isName 2 (some .boolean) 1 0 0 G [.ref (A 0), .int (J a)] (MW A G.2.1 I F) (fun vo wo => vo = some (.int (J (bI (0 ≤ a ∧ a < (I 1) 0)))) ∧ wo = MW A G.2.1 I F) := by
  refine CT_of (own := RX12) rfl rfl (Nat.le_of_ble_eq_true rfl) (fun K hl hnL hC hRT hin => ?_)
  subst hl
  show WW K G 0 0 (MW A G.2.1 I F) 0 [(0, .ref (A 0)), (1, .int (J a))] []
  have hn := hR.n
  refine w_iload_n (pc := 0) hC dX12_isName_0 1 rfl rfl ?_
  refine w_iconst (pc := 1) hC dX12_isName_1 ?_
  refine w_aload_n (pc := 2) hC dX12_isName_2 0 rfl rfl ?_
  refine w_getf (pc := 3) (v := .ref (A 1)) hC dX12_isName_3 fi_X12_9 0 rfl rfl ?_
  refine w_iconst (pc := 6) hC dX12_isName_6 ?_
  refine w_iald (pc := 7) (g := (I 1)) hC dX12_isName_7 1 rfl (by omega) (Nat.le_of_ble_eq_true rfl) ?_
  refine w_iconst (pc := 8) hC dX12_isName_8 ?_
  refine w_isub (pc := 9) hC dX12_isName_9 ?_
  refine w_callS (pc := 10) (As := [.int (J a), .int (J 0), .int (J (((I 1) 0) - 1))]) (rest := []) hC dX12_isName_10 cs_X12_48 (c_X12_in (kl K) G (MW A G.2.1 I F) a 0 (((I 1) 0) - 1) (by first | assumption | omega)) (by decide) ⟨Nat.le_of_ble_eq_true rfl, Nat.le_of_ble_eq_true rfl⟩ rfl (Nat.le_of_ble_eq_true rfl) rfl (fun vo wo hv => ?_)
  obtain ⟨hv1, hw1⟩ := hv
  rw [hv1, hw1]
  show WW K G 0 0 (MW A G.2.1 I F) 13 [(0, .ref (A 0)), (1, .int (J a))] [.int (J (bI (0 ≤ a ∧ a ≤ (((I 1) 0) - 1))))]
  refine w_iret (pc := 13) hC hRT dX12_isName_13 bI_narrow ?_
  refine ⟨retI (by exact bI_iff (by omega)), rfl⟩
set_option maxRecDepth 100000 in
set_option maxHeartbeats 4000000 in
theorem c_X12_isClub (l : Launch) (G : GT) (A : Nat → Nat) (I : Nat → Int → Int) (F : Nat → Int)  (c : Int) (hR : RI (I 1)) (ha : -2147483648 ≤ c ∧ c < 2147483648) : CT l yX12_isClub cX12_isClub 2 (some .boolean) 1 0 0 G [.ref (A 0), .int (J c)] (MW A G.2.1 I F) (fun vo wo => vo = some (.int (J (bI (0 ≤ c ∧ c < (I 1) 1)))) ∧ wo = MW A G.2.1 I F) := by
  refine CT_of (own := RX12) rfl rfl (Nat.le_of_ble_eq_true rfl) (fun K hl hnL hC hRT hin => ?_)
  subst hl
  show WW K G 0 0 (MW A G.2.1 I F) 0 [(0, .ref (A 0)), (1, .int (J c))] []
  have hn := hR.cl
  refine w_iload_n (pc := 0) hC dX12_isClub_0 1 rfl rfl ?_
  refine w_iconst (pc := 1) hC dX12_isClub_1 ?_
  refine w_aload_n (pc := 2) hC dX12_isClub_2 0 rfl rfl ?_
  refine w_getf (pc := 3) (v := .ref (A 1)) hC dX12_isClub_3 fi_X12_9 0 rfl rfl ?_
  refine w_iconst (pc := 6) hC dX12_isClub_6 ?_
  refine w_iald (pc := 7) (g := (I 1)) hC dX12_isClub_7 1 rfl (by omega) (Nat.le_of_ble_eq_true rfl) ?_
  refine w_iconst (pc := 8) hC dX12_isClub_8 ?_
  refine w_isub (pc := 9) hC dX12_isClub_9 ?_
  refine w_callS (pc := 10) (As := [.int (J c), .int (J 0), .int (J (((I 1) 1) - 1))]) (rest := []) hC dX12_isClub_10 cs_X12_48 (c_X12_in (kl K) G (MW A G.2.1 I F) c 0 (((I 1) 1) - 1) (by first | assumption | omega)) (by decide) ⟨Nat.le_of_ble_eq_true rfl, Nat.le_of_ble_eq_true rfl⟩ rfl (Nat.le_of_ble_eq_true rfl) rfl (fun vo wo hv => ?_)
  obtain ⟨hv1, hw1⟩ := hv
  rw [hv1, hw1]
  show WW K G 0 0 (MW A G.2.1 I F) 13 [(0, .ref (A 0)), (1, .int (J c))] [.int (J (bI (0 ≤ c ∧ c ≤ (((I 1) 1) - 1))))]
  refine w_iret (pc := 13) hC hRT dX12_isClub_13 bI_narrow ?_
  refine ⟨retI (by exact bI_iff (by omega)), rfl⟩
set_option maxRecDepth 100000 in
set_option maxHeartbeats 4000000 in
theorem c_X12_rungOf (l : Launch) (G : GT) (A : Nat → Nat) (I : Nat → Int → Int) (F : Nat → Int) (n : Int) (board : Int) (name : Int) (hV : VB n board) (ha : 0 ≤ name ∧ name < n) : CT l yX12_rungOf cX12_rungOf 4 (some .int) 1 0 0 G [.ref (A 0), .int (J board), .int (J name)] (MW A G.2.1 I F) (fun vo wo => vo = some (.int (J (rk n board name))) ∧ wo = MW A G.2.1 I F) := by
  refine CT_of (own := RX12) rfl rfl (Nat.le_of_ble_eq_true rfl) (fun K hl hnL hC hRT hin => ?_)
  subst hl
  show WW K G 0 0 (MW A G.2.1 I F) 0 [(0, .ref (A 0)), (1, .int (J board)), (2, .int (J name))] []
  have hb := VB_rng hV
  have hn := VB_n hV
  have hk := rk_spec hV ha.1 ha.2
  refine w_iconst (pc := 0) hC dX12_rungOf_0 ?_
  refine w_istore_n (pc := 1) hC dX12_rungOf_1 rfl (lv2 := [(3, .int (J 0)), (0, .ref (A 0)), (1, .int (J board)), (2, .int (J name))]) (by rw [hnL]; decide) rfl ?_
  have loop2 : ∀ (nF : Nat) (r : Int), (0 ≤ r) → (r ≤ rk n board name) → (rk n board name - r) < (nF : Int) → WW K G 0 0 (MW A G.2.1 I F) 2 [(1, .int (J board)), (2, .int (J name)), (3, .int (J r))] [] := by
    intro nF
    induction nF with
    | zero => intro r i1 i2 hm2; exact absurd hm2 (by omega)
    | succ nF ih2 =>
      intro r i1 i2 hm2
      refine w_iload_n (pc := 2) hC dX12_rungOf_2 0 rfl rfl ?_
      refine w_iload_n (pc := 3) hC dX12_rungOf_3 2 rfl rfl ?_
      refine w_callS (pc := 4) (As := [.int (J board), .int (J r)]) (rest := []) hC dX12_rungOf_4 cs_X12_52 (c_X12_nameOn (kl K) G (MW A G.2.1 I F) board r (by first | assumption | omega) (by first | assumption | omega)) (by decide) ⟨Nat.le_of_ble_eq_true rfl, Nat.le_of_ble_eq_true rfl⟩ rfl (Nat.le_of_ble_eq_true rfl) rfl (fun vo wo hv => ?_)
      obtain ⟨hv1, hw1⟩ := hv
      rw [hv1, hw1]
      show WW K G 0 0 (MW A G.2.1 I F) 7 [(1, .int (J board)), (2, .int (J name)), (3, .int (J r))] [.int (J (dg board r))]
      have q4_0 := dg_bd board r
      refine w_iload_n (pc := 7) hC dX12_rungOf_7 1 rfl rfl ?_
      refine w_icmp_eq (pc := 8) (tgt := 17) hC dX12_rungOf_8 (by decide) (by omega) (fun c8 => ?_) (fun c8 => ?_)
      · refine w_iload_n (pc := 17) hC dX12_rungOf_17 2 rfl rfl ?_
        refine w_iret (pc := 18) hC hRT dX12_rungOf_18 rfl ?_
        refine ⟨retI (by exact (rk_uniq hV (by omega) (by omega) c8).symm), rfl⟩
      · refine w_iinc (pc := 11) hC dX12_rungOf_11 (lv2 := [(3, .int (J (r + 1))), (1, .int (J board)), (2, .int (J name))]) 2 rfl (by rw [hnL]; decide) rfl ?_
        refine w_goto (pc := 14) hC dX12_rungOf_14 (tgt := 2) (by decide) ?_
        refine w_sub [1, 2, 0] (lv2 := [(1, .int (J board)), (2, .int (J name)), (3, .int (J (r + 1)))]) rfl ?_
        refine ih2 (r + 1) ?_ ?_ ?_
        · first | assumption | omega
        · have h9 : r ≠ rk n board name := fun e => c8 (by rw [e]; exact hk.2)
          omega
        · omega
  refine w_sub [2, 3, 0] (lv2 := [(1, .int (J board)), (2, .int (J name)), (3, .int (J 0))]) rfl ?_
  refine loop2 ((rk n board name - 0) + 1 : Int).toNat 0 ?_ ?_ ?_
  · first | assumption | omega
  · omega
  · omega
