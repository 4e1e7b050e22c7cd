

def FCN : Nat → Int
  | 0 => 1
  | k + 1 => FCN k * ((k : Int) + 1)
def FAC (n : Int) : Int := FCN n.toNat

theorem FAC_s {i : Int} (h : 2 ≤ i) : FAC i = FAC (i - 1) * i := by
  unfold FAC
  obtain ⟨k, hk⟩ : ∃ k : Nat, i = (k : Int) + 1 := ⟨(i - 1).toNat, by omega⟩
  subst hk
  rw [show ((k : Int) + 1).toNat = k + 1 by omega, show ((k : Int) + 1 - 1).toNat = k by omega]
  rfl
theorem FAC_e {n i : Int} (h : 0 ≤ n ∧ n ≤ 6) (h1 : n < i) (h2 : 2 ≤ i) (h3 : i ≤ n ∨ i = n + 1 ∨ i = 2) : FAC (i - 1) = FAC n := by
  rcases (show i = n + 1 ∨ n = 0 ∧ i = 2 by omega) with e | ⟨e, f⟩
  · rw [e, show n + 1 - 1 = n by omega]
  · subst e; subst f; rfl
theorem FAC_bd {n : Int} (h : 0 ≤ n ∧ n ≤ 6) : 1 ≤ FAC n ∧ FAC n ≤ 720 := by
  rcases (show n = 0 ∨ n = 1 ∨ n = 2 ∨ n = 3 ∨ n = 4 ∨ n = 5 ∨ n = 6 by omega) with e | e | e | e | e | e | e <;> subst e <;> decide

theorem swi_st (g : Int → Int) (i j r : Int) : gu (gu g i (g j)) j (g i) r = g (swi i j r) := by
  unfold swi gu
  by_cases h1 : r = j
  · rw [if_pos h1]
    by_cases h2 : r = i
    · rw [if_pos h2, ← h1, h2]
    · rw [if_neg h2, if_pos h1]
  · rw [if_neg h1]
    by_cases h2 : r = i
    · rw [if_pos h2, if_pos h2]
    · rw [if_neg h2, if_neg h2, if_neg h1]

theorem mv_up {g f s : Int → Int} {p r : Int} (h : gu f r (f (r - 1)) = s) (hr : r ≤ p) (i : ∀ q : Int, f q = if r < q ∧ q ≤ p then g (q - 1) else g q) : ∀ q : Int, s q = if r - 1 < q ∧ q ≤ p then g (q - 1) else g q := by
  intro q
  rw [← h]
  unfold gu
  by_cases e : q = r
  · rw [if_pos e, if_pos (by omega), i (r - 1), if_neg (by omega), e]
  · rw [if_neg e, i q]
    by_cases c : r < q ∧ q ≤ p
    · rw [if_pos c, if_pos (by omega)]
    · rw [if_neg c, if_neg (by omega)]
theorem mv_mid {g f : Int → Int} {p t r : Int} (hc : r ≤ t) (h : r ≤ p ∧ (t ≤ r ∨ r = p)) (i : ∀ q : Int, f q = if r < q ∧ q ≤ p then g (q - 1) else g q) : ∀ q : Int, f q = if t ≤ p then (if t < q ∧ q ≤ p then g (q - 1) else g q) else (if p ≤ q ∧ q < p then g (q + 1) else g q) := by
  intro q
  rw [i q]
  by_cases c : t ≤ p
  · rw [if_pos c, show r = t by omega]
  · rw [if_neg c, if_neg (by omega), if_neg (by omega)]
theorem mv_dn {g f s : Int → Int} {p t r : Int} (h : gu f r (f (r + 1)) = s) (hc : r < t) (hr : p ≤ r) (i : ∀ q : Int, f q = if t ≤ p then (if t < q ∧ q ≤ p then g (q - 1) else g q) else (if p ≤ q ∧ q < r then g (q + 1) else g q)) : ∀ q : Int, s q = if t ≤ p then (if t < q ∧ q ≤ p then g (q - 1) else g q) else (if p ≤ q ∧ q < r + 1 then g (q + 1) else g q) := by
  intro q
  have ht : ¬ t ≤ p := by omega
  rw [← h]
  unfold gu
  rw [if_neg ht]
  by_cases e : q = r
  · rw [if_pos e, if_pos (by omega), i (r + 1), if_neg ht, if_neg (by omega), e]
  · rw [if_neg e, i q, if_neg ht]
    by_cases c : p ≤ q ∧ q < r
    · rw [if_pos c, if_pos (by omega)]
    · rw [if_neg c, if_neg (by omega)]
theorem mv_end {g f : Int → Int} {p t r : Int} (hp : 0 ≤ p ∧ p < 6) (ht : 0 ≤ t ∧ t < 6) (h : p ≤ r ∧ (r ≤ t ∨ r = p)) (hc : t ≤ r) (i : ∀ q : Int, f q = if t ≤ p then (if t < q ∧ q ≤ p then g (q - 1) else g q) else (if p ≤ q ∧ q < r then g (q + 1) else g q)) : ∀ q : Int, gu f t (g p) q = g (mvi p t q) := by
  intro q
  unfold gu mvi
  by_cases e : q = t
  · rw [if_pos e, if_pos e]
  · rw [if_neg e, if_neg e, i q]
    by_cases c : t ≤ p
    · rw [if_pos c]
      by_cases d : t < q ∧ q ≤ p
      · rw [if_pos d, if_pos d]
      · rw [if_neg d, if_neg d, if_neg (by omega)]
    · rw [if_neg c, if_neg (show ¬ (t < q ∧ q ≤ p) by omega)]
      by_cases d : p ≤ q ∧ q < r
      · rw [if_pos d, if_pos (by omega)]
      · rw [if_neg d, if_neg (by omega)]

theorem tr_put {S f s : Int → Int} {a x : Int} (h : gu f x a = s) (h0 : 0 ≤ a) (h1 : a < S 0) {b : Int} (hx : x = cnt (fun b => decide (wk S a < wk S b ∨ wk S b = wk S a ∧ b < a)) b.toNat) (i : ∀ q : Int, 0 ≤ q → q < a → f (ah S q) = q) (hb : b = S 0 := by omega) : ∀ q : Int, 0 ≤ q → q < a + 1 → s (ah S q) = q := by
  intro q g1 g2
  have e : x = ah S a := by rw [hx, hb]; rfl
  rw [← h]
  unfold gu
  by_cases c : q = a
  · subst c
    rw [if_pos e.symm]
  · rw [if_neg (fun h9 => c (ah_inj S g1 (by omega) h0 h1 (h9.trans e)))]
    exact i q g1 (by omega)

theorem so_sw {S f s : Int → Int} {o k : Int} (hn : 0 ≤ S 0 ∧ S 0 ≤ 6) (g1 : 0 ≤ S (893 + 2 * k)) (g2 : S (893 + 2 * k) < S (893 + 2 * k + 1)) (g3 : S (893 + 2 * k + 1) < S 0) (c : 50 < S (130 + 6 * dg o (S (893 + 2 * k + 1)) + dg o (S (893 + 2 * k)))) (i : ∀ q : Int, 0 ≤ q → q < S 0 → f q = dg o q ∧ dg o q < S 0) (h : ∀ q : Int, s q = f (swi (S (893 + 2 * k)) (S (893 + 2 * k + 1)) q)) : ∀ q : Int, 0 ≤ q → q < S 0 → s q = dg (SR1 S o k) q ∧ dg (SR1 S o k) q < S 0 := by
  intro q q1 q2
  unfold SR1
  rw [if_pos c]
  unfold swd
  rw [brd_dg q1 (by omega), h q]
  have := swi_in (n := S 0) ⟨g1, by omega⟩ (show 0 ≤ S (893 + 2 * k + 1) ∧ S (893 + 2 * k + 1) < S 0 by omega) q1 q2
  exact i _ this.1 this.2
theorem so_no {S f : Int → Int} {o k : Int} (c : ¬ 50 < S (130 + 6 * dg o (S (893 + 2 * k + 1)) + dg o (S (893 + 2 * k)))) (i : ∀ q : Int, 0 ≤ q → q < S 0 → f q = dg o q ∧ dg o q < S 0) : ∀ q : Int, 0 ≤ q → q < S 0 → f q = dg (SR1 S o k) q ∧ dg (SR1 S o k) q < S 0 := by
  unfold SR1
  rw [if_neg c]
  exact i
theorem SOK_0s {S : Int → Int} {o : Int} : ∀ {k m : Nat}, k ≤ m → ¬ SOK S o k = 1 → ¬ SOK S o m = 1
  | k, 0, h, g => by rw [show k = 0 by omega] at g; exact g
  | k, m + 1, h, g => by
    rcases Nat.lt_or_ge k (m + 1) with h1 | h1
    · unfold SOK
      rw [if_neg (fun h2 => SOK_0s (k := k) (m := m) (by omega) g h2.1)]
      decide
    · rw [show k = m + 1 by omega] at g
      exact g

set_option maxRecDepth 100000 in
set_option maxHeartbeats 4000000 in
theorem c_X11_isName (l : Launch) (G : GT) (A D : Nat → Nat) (T : Nat) (I : Nat → Int → Int) (F : Nat → Int) (Q : Nat → Nat → Option Nat) (P : va_W) (S : Int → Int) (a : Int) (hR : RI S) (hL : LRn G.2.1 S I F Q P) (ha : -2147483648 ≤ a ∧ a < 2147483648) : CT l yX11_isName cX11_isName 2 (some .boolean) 0 0 0 G [.ref (A 0), .int (J a)] (CW A D T G.2.1 I F Q P) (fun vo wo => vo = some (.int (J (bI (0 ≤ a ∧ a < S 0)))) ∧ wo = CW A D T G.2.1 I F Q P) := by
  refine CT_of (own := RX11) rfl rfl (Nat.le_of_ble_eq_true rfl) (fun K hl hnL hC hRT hin => ?_)
  subst hl
  show WW K G 0 0 (CW A D T G.2.1 I F Q P) 0 [(0, .ref (A 0)), (1, .int (J a))] []
  have hn := hR.n
  refine w_iload_n (pc := 0) hC dX11_isName_0 1 rfl rfl ?_
  refine w_if_lt (pc := 1) (tgt := 19) hC dX11_isName_1 (by decide) (by omega) (fun c1 => ?_) (fun c1 => ?_)
  · refine w_iconst (pc := 19) hC dX11_isName_19 ?_
    refine w_iret (pc := 20) hC hRT dX11_isName_20 rfl ?_
    refine ⟨retI (by first | rfl | exact (bI_t (by omega)).symm | exact (bI_f (by omega)).symm | omega), rfl⟩
  · refine w_iload_n (pc := 4) hC dX11_isName_4 1 rfl rfl ?_
    refine w_aload_n (pc := 5) hC dX11_isName_5 0 rfl rfl ?_
    refine w_getf (pc := 6) (v := .ref (A 1)) hC dX11_isName_6 fi_X11_12 0 CW_0 rfl ?_
    refine w_getfN (pc := 9) (v := .int (J (S 0))) hC dX11_isName_9 fn_X11_57 1 CW_1 (congrArg (fun z : Int => some (Value.int (J z))) (l_n hL)) ?_
    refine w_icmp_ge (pc := 12) (tgt := 19) hC dX11_isName_12 (by decide) (by omega) (fun c12 => ?_) (fun c12 => ?_)
    · refine w_iconst (pc := 19) hC dX11_isName_19 ?_
      refine w_iret (pc := 20) hC hRT dX11_isName_20 rfl ?_
      refine ⟨retI (by first | rfl | exact (bI_t (by omega)).symm | exact (bI_f (by omega)).symm | omega), rfl⟩
    · refine w_iconst (pc := 15) hC dX11_isName_15 ?_
      refine w_goto (pc := 16) hC dX11_isName_16 (tgt := 20) (by decide) ?_
      refine w_iret (pc := 20) hC hRT dX11_isName_20 rfl ?_
      refine ⟨retI (by first | rfl | exact (bI_t (by omega)).symm | exact (bI_f (by omega)).symm | omega), rfl⟩
set_option maxRecDepth 100000 in
set_option maxHeartbeats 4000000 in
theorem c_X11_isRung (l : Launch) (G : GT) (A D : Nat → Nat) (T : Nat) (I : Nat → Int → Int) (F : Nat → Int) (Q : Nat → Nat → Option Nat) (P : va_W) (S : Int → Int) (a : Int) (hR : RI S) (hL : LRn G.2.1 S I F Q P) (ha : -2147483648 ≤ a ∧ a < 2147483648) : CT l yX11_isRung cX11_isRung 2 (some .boolean) 0 0 0 G [.ref (A 0), .int (J a)] (CW A D T G.2.1 I F Q P) (fun vo wo => vo = some (.int (J (bI (0 ≤ a ∧ a < S 0)))) ∧ wo = CW A D T G.2.1 I F Q P) := by
  refine CT_of (own := RX11) rfl rfl (Nat.le_of_ble_eq_true rfl) (fun K hl hnL hC hRT hin => ?_)
  subst hl
  show WW K G 0 0 (CW A D T G.2.1 I F Q P) 0 [(0, .ref (A 0)), (1, .int (J a))] []
  have hn := hR.n
  refine w_iload_n (pc := 0) hC dX11_isRung_0 1 rfl rfl ?_
  refine w_if_lt (pc := 1) (tgt := 19) hC dX11_isRung_1 (by decide) (by omega) (fun c1 => ?_) (fun c1 => ?_)
  · refine w_iconst (pc := 19) hC dX11_isRung_19 ?_
    refine w_iret (pc := 20) hC hRT dX11_isRung_20 rfl ?_
    refine ⟨retI (by first | rfl | exact (bI_t (by omega)).symm | exact (bI_f (by omega)).symm | omega), rfl⟩
  · refine w_iload_n (pc := 4) hC dX11_isRung_4 1 rfl rfl ?_
    refine w_aload_n (pc := 5) hC dX11_isRung_5 0 rfl rfl ?_
    refine w_getf (pc := 6) (v := .ref (A 1)) hC dX11_isRung_6 fi_X11_12 0 CW_0 rfl ?_
    refine w_getfN (pc := 9) (v := .int (J (S 0))) hC dX11_isRung_9 fn_X11_57 1 CW_1 (congrArg (fun z : Int => some (Value.int (J z))) (l_n hL)) ?_
    refine w_icmp_ge (pc := 12) (tgt := 19) hC dX11_isRung_12 (by decide) (by omega) (fun c12 => ?_) (fun c12 => ?_)
    · refine w_iconst (pc := 19) hC dX11_isRung_19 ?_
      refine w_iret (pc := 20) hC hRT dX11_isRung_20 rfl ?_
      refine ⟨retI (by first | rfl | exact (bI_t (by omega)).symm | exact (bI_f (by omega)).symm | omega), rfl⟩
    · refine w_iconst (pc := 15) hC dX11_isRung_15 ?_
      refine w_goto (pc := 16) hC dX11_isRung_16 (tgt := 20) (by decide) ?_
      refine w_iret (pc := 20) hC hRT dX11_isRung_20 rfl ?_
      refine ⟨retI (by first | rfl | exact (bI_t (by omega)).symm | exact (bI_f (by omega)).symm | omega), rfl⟩
set_option maxRecDepth 100000 in
set_option maxHeartbeats 4000000 in
theorem c_X11_isKind (l : Launch) (G : GT) (w0 : va_W)  (a : Int) (ha : -2147483648 ≤ a ∧ a < 2147483648) : CT l yX11_isKind cX11_isKind 1 (some .boolean) 0 0 0 G [.int (J a)] w0 (fun vo wo => vo = some (.int (J (bI (0 ≤ a ∧ a ≤ 6)))) ∧ wo = w0) := by
  refine CT_of (own := RX11) rfl rfl (Nat.le_of_ble_eq_true rfl) (fun K hl hnL hC hRT hin => ?_)
  subst hl
  show WW K G 0 0 w0 0 [(0, .int (J a))] []
  refine w_iload_n (pc := 0) hC dX11_isKind_0 0 rfl rfl ?_
  refine w_if_lt (pc := 1) (tgt := 14) hC dX11_isKind_1 (by decide) (by omega) (fun c1 => ?_) (fun c1 => ?_)
  · refine w_iconst (pc := 14) hC dX11_isKind_14 ?_
    refine w_iret (pc := 15) hC hRT dX11_isKind_15 rfl ?_
    refine ⟨retI (by first | rfl | exact (bI_t (by omega)).symm | exact (bI_f (by omega)).symm | omega), rfl⟩
  · refine w_iload_n (pc := 4) hC dX11_isKind_4 0 rfl rfl ?_
    refine w_bipush (pc := 5) hC dX11_isKind_5 (z := 6) rfl ?_
    refine w_icmp_gt (pc := 7) (tgt := 14) hC dX11_isKind_7 (by decide) (by omega) (fun c7 => ?_) (fun c7 => ?_)
    · refine w_iconst (pc := 14) hC dX11_isKind_14 ?_
      refine w_iret (pc := 15) hC hRT dX11_isKind_15 rfl ?_
      refine ⟨retI (by first | rfl | exact (bI_t (by omega)).symm | exact (bI_f (by omega)).symm | omega), rfl⟩
    · refine w_iconst (pc := 10) hC dX11_isKind_10 ?_
      refine w_goto (pc := 11) hC dX11_isKind_11 (tgt := 15) (by decide) ?_
      refine w_iret (pc := 15) hC hRT dX11_isKind_15 rfl ?_
      refine ⟨retI (by first | rfl | exact (bI_t (by omega)).symm | exact (bI_f (by omega)).symm | omega), rfl⟩
set_option maxRecDepth 100000 in
set_option maxHeartbeats 4000000 in
theorem c_X11_isEither (l : Launch) (G : GT) (w0 : va_W)  (a : Int) (ha : -2147483648 ≤ a ∧ a < 2147483648) : CT l yX11_isEither cX11_isEither 1 (some .boolean) 0 0 0 G [.int (J a)] w0 (fun vo wo => vo = some (.int (J (bI (a = 0 ∨ a = 1)))) ∧ wo = w0) := by
  refine CT_of (own := RX11) rfl rfl (Nat.le_of_ble_eq_true rfl) (fun K hl hnL hC hRT hin => ?_)
  subst hl
  show WW K G 0 0 w0 0 [(0, .int (J a))] []
  refine w_iload_n (pc := 0) hC dX11_isEither_0 0 rfl rfl ?_
  refine w_if_eq (pc := 1) (tgt := 9) hC dX11_isEither_1 (by decide) (by omega) (fun c1 => ?_) (fun c1 => ?_)
  · refine w_iconst (pc := 9) hC dX11_isEither_9 ?_
    refine w_goto (pc := 10) hC dX11_isEither_10 (tgt := 14) (by decide) ?_
    refine w_iret (pc := 14) hC hRT dX11_isEither_14 rfl ?_
    refine ⟨retI (by first | rfl | exact (bI_t (by omega)).symm | exact (bI_f (by omega)).symm | omega), rfl⟩
  · refine w_iload_n (pc := 4) hC dX11_isEither_4 0 rfl rfl ?_
    refine w_iconst (pc := 5) hC dX11_isEither_5 ?_
    refine w_icmp_ne (pc := 6) (tgt := 13) hC dX11_isEither_6 (by decide) (by omega) (fun c6 => ?_) (fun c6 => ?_)
    · refine w_iconst (pc := 13) hC dX11_isEither_13 ?_
      refine w_iret (pc := 14) hC hRT dX11_isEither_14 rfl ?_
      refine ⟨retI (by first | rfl | exact (bI_t (by omega)).symm | exact (bI_f (by omega)).symm | omega), rfl⟩
    · refine w_iconst (pc := 9) hC dX11_isEither_9 ?_
      refine w_goto (pc := 10) hC dX11_isEither_10 (tgt := 14) (by decide) ?_
      refine w_iret (pc := 14) hC hRT dX11_isEither_14 rfl ?_
      refine ⟨retI (by first | rfl | exact (bI_t (by omega)).symm | exact (bI_f (by omega)).symm | omega), rfl⟩
set_option maxRecDepth 100000 in
set_option maxHeartbeats 4000000 in
theorem c_X11_isDay (l : Launch) (G : GT) (w0 : va_W)  (a : Int) (ha : -2147483648 ≤ a ∧ a < 2147483648) : CT l yX11_isDay cX11_isDay 1 (some .boolean) 0 0 0 G [.int (J a)] w0 (fun vo wo => vo = some (.int (J (bI (0 ≤ a ∧ a ≤ 999)))) ∧ wo = w0) := by
  refine CT_of (own := RX11) rfl rfl (Nat.le_of_ble_eq_true rfl) (fun K hl hnL hC hRT hin => ?_)
  subst hl
  show WW K G 0 0 w0 0 [(0, .int (J a))] []
  refine w_iload_n (pc := 0) hC dX11_isDay_0 0 rfl rfl ?_
  refine w_if_lt (pc := 1) (tgt := 15) hC dX11_isDay_1 (by decide) (by omega) (fun c1 => ?_) (fun c1 => ?_)
  · refine w_iconst (pc := 15) hC dX11_isDay_15 ?_
    refine w_iret (pc := 16) hC hRT dX11_isDay_16 rfl ?_
    refine ⟨retI (by first | rfl | exact (bI_t (by omega)).symm | exact (bI_f (by omega)).symm | omega), rfl⟩
  · refine w_iload_n (pc := 4) hC dX11_isDay_4 0 rfl rfl ?_
    refine w_sipush (pc := 5) hC dX11_isDay_5 (z := 999) rfl ?_
    refine w_icmp_gt (pc := 8) (tgt := 15) hC dX11_isDay_8 (by decide) (by omega) (fun c8 => ?_) (fun c8 => ?_)
    · refine w_iconst (pc := 15) hC dX11_isDay_15 ?_
      refine w_iret (pc := 16) hC hRT dX11_isDay_16 rfl ?_
      refine ⟨retI (by first | rfl | exact (bI_t (by omega)).symm | exact (bI_f (by omega)).symm | omega), rfl⟩
    · refine w_iconst (pc := 11) hC dX11_isDay_11 ?_
      refine w_goto (pc := 12) hC dX11_isDay_12 (tgt := 16) (by decide) ?_
      refine w_iret (pc := 16) hC hRT dX11_isDay_16 rfl ?_
      refine ⟨retI (by first | rfl | exact (bI_t (by omega)).symm | exact (bI_f (by omega)).symm | omega), rfl⟩
set_option maxRecDepth 100000 in
set_option maxHeartbeats 4000000 in
theorem c_X11_isDaysOn (l : Launch) (G : GT) (w0 : va_W)  (a : Int) (ha : -2147483648 ≤ a ∧ a < 2147483648) : CT l yX11_isDaysOn cX11_isDaysOn 1 (some .boolean) 0 0 0 G [.int (J a)] w0 (fun vo wo => vo = some (.int (J (bI (0 ≤ a ∧ a ≤ 6)))) ∧ wo = w0) := by
  refine CT_of (own := RX11) rfl rfl (Nat.le_of_ble_eq_true rfl) (fun K hl hnL hC hRT hin => ?_)
  subst hl
  show WW K G 0 0 w0 0 [(0, .int (J a))] []
  refine w_iload_n (pc := 0) hC dX11_isDaysOn_0 0 rfl rfl ?_
  refine w_if_lt (pc := 1) (tgt := 14) hC dX11_isDaysOn_1 (by decide) (by omega) (fun c1 => ?_) (fun c1 => ?_)
  · refine w_iconst (pc := 14) hC dX11_isDaysOn_14 ?_
    refine w_iret (pc := 15) hC hRT dX11_isDaysOn_15 rfl ?_
    refine ⟨retI (by first | rfl | exact (bI_t (by omega)).symm | exact (bI_f (by omega)).symm | omega), rfl⟩
  · refine w_iload_n (pc := 4) hC dX11_isDaysOn_4 0 rfl rfl ?_
    refine w_bipush (pc := 5) hC dX11_isDaysOn_5 (z := 6) rfl ?_
    refine w_icmp_gt (pc := 7) (tgt := 14) hC dX11_isDaysOn_7 (by decide) (by omega) (fun c7 => ?_) (fun c7 => ?_)
    · refine w_iconst (pc := 14) hC dX11_isDaysOn_14 ?_
      refine w_iret (pc := 15) hC hRT dX11_isDaysOn_15 rfl ?_
      refine ⟨retI (by first | rfl | exact (bI_t (by omega)).symm | exact (bI_f (by omega)).symm | omega), rfl⟩
    · refine w_iconst (pc := 10) hC dX11_isDaysOn_10 ?_
      refine w_goto (pc := 11) hC dX11_isDaysOn_11 (tgt := 15) (by decide) ?_
      refine w_iret (pc := 15) hC hRT dX11_isDaysOn_15 rfl ?_
      refine ⟨retI (by first | rfl | exact (bI_t (by omega)).symm | exact (bI_f (by omega)).symm | omega), rfl⟩
set_option maxRecDepth 100000 in
set_option maxHeartbeats 4000000 in
theorem c_X6_isStronger (l : Launch) (G : GT) (A D : Nat → Nat) (T : Nat) (I : Nat → Int → Int) (F : Nat → Int) (Q : Nat → Nat → Option Nat) (P : va_W) (S : Int → Int) (a : Int) (b : Int) (hR : RI S) (hL : LRn G.2.1 S I F Q P) (ha : 0 ≤ a ∧ a < S 0) (hb : 0 ≤ b ∧ b < S 0) : CT l yX6_isStronger cX6_isStronger 3 (some .boolean) 0 0 0 G [.ref (A 1), .int (J a), .int (J b)] (CW A D T G.2.1 I F Q P) (fun vo wo => vo = some (.int (J (bI (50 < S (130 + 6 * a + b))))) ∧ wo = CW A D T G.2.1 I F Q P) := by
  refine CT_of (own := RX6) rfl rfl (Nat.le_of_ble_eq_true rfl) (fun K hl hnL hC hRT hin => ?_)
  subst hl
  show WW K G 0 0 (CW A D T G.2.1 I F Q P) 0 [(0, .ref (A 1)), (1, .int (J a)), (2, .int (J b))] []
  have hn := hR.n
  have hch := hR.ch ha hb
  refine w_aload_n (pc := 0) hC dX6_isStronger_0 0 rfl rfl ?_
  refine w_getf (pc := 1) (v := .ref (A 3)) hC dX6_isStronger_1 fi_X6_21 1 CW_1 rfl ?_
  refine w_iload_n (pc := 4) hC dX6_isStronger_4 1 rfl rfl ?_
  refine w_aaldS (t0 := 6) (q := A (4 + (a).toNat)) hC dX6_isStronger_5 3 CW_3 rfl rfl (by omega) (Nat.le_of_ble_eq_true rfl) (rw6_at (by omega)) ?_
  refine w_iload_n (pc := 6) hC dX6_isStronger_6 2 rfl rfl ?_
  refine w_ialdV (pc := 7) (v := S (130 + 6 * a + b)) hC dX6_isStronger_7 (4 + (a).toNat) (CW_ch (by omega) (by omega)) (by omega) (Nat.le_of_ble_eq_true rfl) (l_ch hL hR (by omega) (by omega) (by omega) (by omega)) ?_
  refine w_bipush (pc := 8) hC dX6_isStronger_8 (z := 50) rfl ?_
  refine w_icmp_le (pc := 10) (tgt := 17) hC dX6_isStronger_10 (by decide) (by omega) (fun c10 => ?_) (fun c10 => ?_)
  · refine w_iconst (pc := 17) hC dX6_isStronger_17 ?_
    refine w_iret (pc := 18) hC hRT dX6_isStronger_18 rfl ?_
    refine ⟨retI (by first | rfl | exact (bI_t (by omega)).symm | exact (bI_f (by omega)).symm | omega), rfl⟩
  · refine w_iconst (pc := 13) hC dX6_isStronger_13 ?_
    refine w_goto (pc := 14) hC dX6_isStronger_14 (tgt := 18) (by decide) ?_
    refine w_iret (pc := 18) hC hRT dX6_isStronger_18 rfl ?_
    refine ⟨retI (by first | rfl | exact (bI_t (by omega)).symm | exact (bI_f (by omega)).symm | omega), rfl⟩
set_option maxRecDepth 100000 in
set_option maxHeartbeats 4000000 in
theorem c_X6_rungOf (l : Launch) (G : GT) (A D : Nat → Nat) (T : Nat) (I : Nat → Int → Int) (F : Nat → Int) (Q : Nat → Nat → Option Nat) (P : va_W) (S : Int → Int) (a : Int) (hR : RI S) (hL : LRn G.2.1 S I F Q P) (ha : 0 ≤ a ∧ a < S 0) : CT l yX6_rungOf cX6_rungOf 4 (some .int) 0 0 0 G [.ref (A 1), .int (J a)] (CW A D T G.2.1 I F Q P) (fun vo wo => vo = some (.int (J (rk (S 0) (S 6) a))) ∧ wo = CW A D T G.2.1 I F Q P) := by
  refine CT_of (own := RX6) rfl rfl (Nat.le_of_ble_eq_true rfl) (fun K hl hnL hC hRT hin => ?_)
  subst hl
  show WW K G 0 0 (CW A D T G.2.1 I F Q P) 0 [(0, .ref (A 1)), (1, .int (J a))] []
  have hn := hR.n
  have hk := rk_spec hR.bd ha.1 ha.2
  refine w_iconst (pc := 0) hC dX6_rungOf_0 ?_
  refine w_istore_n (pc := 1) hC dX6_rungOf_1 rfl (lv2 := [(2, .int (J 0)), (0, .ref (A 1)), (1, .int (J a))]) (by rw [hnL]; decide) rfl ?_
  refine w_iconst (pc := 2) hC dX6_rungOf_2 ?_
  refine w_istore_n (pc := 3) hC dX6_rungOf_3 rfl (lv2 := [(3, .int (J 0)), (2, .int (J 0)), (0, .ref (A 1)), (1, .int (J a))]) (by rw [hnL]; decide) rfl ?_
  have loop4 : ∀ (nF : Nat) (x : Int) (r : Int), (0 ≤ r) → (r ≤ S 0) → ((rk (S 0) (S 6) a < r → x = rk (S 0) (S 6) a) ∧ (0 ≤ x ∧ x ≤ 6)) → (S 0 - r) < (nF : Int) → WW K G 0 0 (CW A D T G.2.1 I F Q P) 4 [(0, .ref (A 1)), (1, .int (J a)), (2, .int (J x)), (3, .int (J r))] [] := by
    intro nF
    induction nF with
    | zero => intro x r i1 i2 i3 hm4; exact absurd hm4 (by omega)
    | succ nF ih4 =>
      intro x r i1 i2 i3 hm4
      refine w_iload_n (pc := 4) hC dX6_rungOf_4 3 rfl rfl ?_
      refine w_aload_n (pc := 5) hC dX6_rungOf_5 0 rfl rfl ?_
      refine w_getf (pc := 6) (v := .int (J (S 0))) hC dX6_rungOf_6 fi_X6_9 1 CW_1 (congrArg (fun z : Int => some (Value.int (J z))) (l_n hL)) ?_
      refine w_icmp_ge (pc := 9) (tgt := 30) hC dX6_rungOf_9 (by decide) (by omega) (fun c9 => ?_) (fun c9 => ?_)
      · refine w_iload_n (pc := 30) hC dX6_rungOf_30 2 rfl rfl ?_
        refine w_iret (pc := 31) hC hRT dX6_rungOf_31 rfl ?_
        refine ⟨retI (by exact i3.1 (by omega)), rfl⟩
      · refine w_aload_n (pc := 12) hC dX6_rungOf_12 0 rfl rfl ?_
        refine w_getf (pc := 13) (v := .ref (A 2)) hC dX6_rungOf_13 fi_X6_15 1 CW_1 rfl ?_
        refine w_iload_n (pc := 16) hC dX6_rungOf_16 3 rfl rfl ?_
        refine w_ialdV (pc := 17) (g := (I 2)) (v := dg (S 6) r) hC dX6_rungOf_17 2 CW_2 (by omega) (Nat.le_of_ble_eq_true rfl) (l_bd hL (by omega) (by omega)) ?_
        refine w_iload_n (pc := 18) hC dX6_rungOf_18 1 rfl rfl ?_
        refine w_icmp_ne (pc := 19) (tgt := 24) hC dX6_rungOf_19 (by decide) (by have := dg7 (S 6) r; omega) (fun c19 => ?_) (fun c19 => ?_)
        · refine w_iinc (pc := 24) hC dX6_rungOf_24 (lv2 := [(3, .int (J (r + 1))), (0, .ref (A 1)), (1, .int (J a)), (2, .int (J x))]) 3 rfl (by rw [hnL]; decide) rfl ?_
          refine w_goto (pc := 27) hC dX6_rungOf_27 (tgt := 4) (by decide) ?_
          refine w_sub [1, 2, 3, 0] (lv2 := [(0, .ref (A 1)), (1, .int (J a)), (2, .int (J x)), (3, .int (J (r + 1)))]) rfl ?_
          refine ih4 x (r + 1) ?_ ?_ ?_ ?_
          · first | assumption | omega
          · first | assumption | omega
          · first | exact ⟨fun h => i3.1 (by have h9 : r ≠ rk (S 0) (S 6) a := fun e => c19 (e ▸ hk.2); omega), i3.2⟩ | exact ⟨fun _ => (rk_uniq hR.bd i1 c9 c19).symm, by omega⟩
          · omega
        · refine w_iload_n (pc := 22) hC dX6_rungOf_22 3 rfl rfl ?_
          refine w_istore_n (pc := 23) hC dX6_rungOf_23 rfl (lv2 := [(2, .int (J r)), (0, .ref (A 1)), (1, .int (J a)), (3, .int (J r))]) (by rw [hnL]; decide) rfl ?_
          refine w_iinc (pc := 24) hC dX6_rungOf_24 (lv2 := [(3, .int (J (r + 1))), (2, .int (J r)), (0, .ref (A 1)), (1, .int (J a))]) 3 rfl (by rw [hnL]; decide) rfl ?_
          refine w_goto (pc := 27) hC dX6_rungOf_27 (tgt := 4) (by decide) ?_
          refine w_sub [2, 3, 1, 0] (lv2 := [(0, .ref (A 1)), (1, .int (J a)), (2, .int (J r)), (3, .int (J (r + 1)))]) rfl ?_
          refine ih4 r (r + 1) ?_ ?_ ?_ ?_
          · first | assumption | omega
          · first | assumption | omega
          · first | exact ⟨fun h => i3.1 (by have h9 : r ≠ rk (S 0) (S 6) a := fun e => c19 (e ▸ hk.2); omega), i3.2⟩ | exact ⟨fun _ => (rk_uniq hR.bd i1 c9 c19).symm, by omega⟩
          · omega
  refine w_sub [2, 3, 1, 0] (lv2 := [(0, .ref (A 1)), (1, .int (J a)), (2, .int (J 0)), (3, .int (J 0))]) rfl ?_
  refine loop4 ((S 0 - 0) + 1 : Int).toNat 0 0 ?_ ?_ ?_ ?_
  · first | assumption | omega
  · first | assumption | omega
  · constructor <;> omega
  · omega
set_option maxRecDepth 100000 in
set_option maxHeartbeats 4000000 in
theorem c_X6_weaker (l : Launch) (G : GT) (A D : Nat → Nat) (T : Nat) (I : Nat → Int → Int) (F : Nat → Int) (Q : Nat → Nat → Option Nat) (P : va_W) (S : Int → Int) (a : Int) (hR : RI S) (hL : LRn G.2.1 S I F Q P) (ha : 0 ≤ a ∧ a < S 0) : CT l yX6_weaker cX6_weaker 4 (some .int) 1 0 0 G [.ref (A 1), .int (J a)] (CW A D T G.2.1 I F Q P) (fun vo wo => vo = some (.int (J (wk S a))) ∧ wo = CW A D T G.2.1 I F Q P) := by
  refine CT_of (own := RX6) rfl rfl (Nat.le_of_ble_eq_true rfl) (fun K hl hnL hC hRT hin => ?_)
  subst hl
  show WW K G 0 0 (CW A D T G.2.1 I F Q P) 0 [(0, .ref (A 1)), (1, .int (J a))] []
  have hn := hR.n
  refine w_iconst (pc := 0) hC dX6_weaker_0 ?_
  refine w_istore_n (pc := 1) hC dX6_weaker_1 rfl (lv2 := [(2, .int (J 0)), (0, .ref (A 1)), (1, .int (J a))]) (by rw [hnL]; decide) rfl ?_
  refine w_iconst (pc := 2) hC dX6_weaker_2 ?_
  refine w_istore_n (pc := 3) hC dX6_weaker_3 rfl (lv2 := [(3, .int (J 0)), (2, .int (J 0)), (0, .ref (A 1)), (1, .int (J a))]) (by rw [hnL]; decide) rfl ?_
  have loop4 : ∀ (nF : Nat) (x : Int) (b : Int), (0 ≤ b) → (b ≤ S 0) → (x = cnt (fun b => decide (a ≠ b ∧ 50 < S (130 + 6 * a + b))) b.toNat) → (S 0 - b) < (nF : Int) → WW K G 0 0 (CW A D T G.2.1 I F Q P) 4 [(0, .ref (A 1)), (1, .int (J a)), (2, .int (J x)), (3, .int (J b))] [] := by
    intro nF
    induction nF with
    | zero => intro x b i1 i2 i3 hm4; exact absurd hm4 (by omega)
    | succ nF ih4 =>
      intro x b i1 i2 i3 hm4
      refine w_iload_n (pc := 4) hC dX6_weaker_4 3 rfl rfl ?_
      refine w_aload_n (pc := 5) hC dX6_weaker_5 0 rfl rfl ?_
      refine w_getf (pc := 6) (v := .int (J (S 0))) hC dX6_weaker_6 fi_X6_9 1 CW_1 (congrArg (fun z : Int => some (Value.int (J z))) (l_n hL)) ?_
      have hx := cnt_bd (fun b => decide (a ≠ b ∧ 50 < S (130 + 6 * a + b))) b.toNat
      refine w_icmp_ge (pc := 9) (tgt := 35) hC dX6_weaker_9 (by decide) (by omega) (fun c9 => ?_) (fun c9 => ?_)
      · refine w_iload_n (pc := 35) hC dX6_weaker_35 2 rfl rfl ?_
        refine w_iret (pc := 36) hC hRT dX6_weaker_36 rfl ?_
        refine ⟨retI (by rw [i3, show b = S 0 by omega]; rfl), rfl⟩
      · refine w_iload_n (pc := 12) hC dX6_weaker_12 1 rfl rfl ?_
        refine w_iload_n (pc := 13) hC dX6_weaker_13 3 rfl rfl ?_
        refine w_icmp_eq (pc := 14) (tgt := 29) hC dX6_weaker_14 (by decide) (by omega) (fun c14 => ?_) (fun c14 => ?_)
        · refine w_iinc (pc := 29) hC dX6_weaker_29 (lv2 := [(3, .int (J (b + 1))), (0, .ref (A 1)), (1, .int (J a)), (2, .int (J x))]) 3 rfl (by rw [hnL]; decide) rfl ?_
          refine w_goto (pc := 32) hC dX6_weaker_32 (tgt := 4) (by decide) ?_
          refine w_sub [1, 2, 3, 0] (lv2 := [(0, .ref (A 1)), (1, .int (J a)), (2, .int (J x)), (3, .int (J (b + 1)))]) rfl ?_
          refine ih4 x (b + 1) ?_ ?_ ?_ ?_
          · first | assumption | omega
          · first | assumption | omega
          · rw [cnt_s _ i1, i3]; first | rw [if_pos (by simp only [decide_eq_true_eq]; exact ⟨c14, c23⟩)] | rw [if_neg (by simp only [decide_eq_true_eq]; omega)]; omega
          · omega
        · refine w_aload_n (pc := 17) hC dX6_weaker_17 0 rfl rfl ?_
          refine w_iload_n (pc := 18) hC dX6_weaker_18 1 rfl rfl ?_
          refine w_iload_n (pc := 19) hC dX6_weaker_19 3 rfl rfl ?_
          refine w_callV (pc := 20) (As := [.int (J a), .int (J b)]) (rest := []) hC dX6_weaker_20 cv_X6_83 (c_X6_isStronger (kl K) G A D T I F Q P S a b (show RI S from by first | assumption | omega) (show LRn G.2.1 S I F Q P from by exact hL) (show 0 ≤ a ∧ a < S 0 from by first | assumption | omega) (show 0 ≤ b ∧ b < S 0 from by first | assumption | omega)) (by decide) ⟨Nat.le_of_ble_eq_true rfl, Nat.le_of_ble_eq_true rfl⟩ (q0 := 1) CW_1 rfl rfl rfl (Nat.le_of_ble_eq_true rfl) rfl (fun vo wo hv => ?_)
          obtain ⟨hv1, hw1⟩ := hv
          rw [hv1, hw1]
          show WW K G 0 0 (CW A D T G.2.1 I F Q P) 23 [(0, .ref (A 1)), (1, .int (J a)), (2, .int (J x)), (3, .int (J b))] [.int (J (bI (50 < S (130 + 6 * a + b))))]
          refine w_if_eq_b (pc := 23) (tgt := 29) hC dX6_weaker_23 (by decide) (fun c23 => ?_) (fun c23 => ?_)
          · refine w_iinc (pc := 29) hC dX6_weaker_29 (lv2 := [(3, .int (J (b + 1))), (0, .ref (A 1)), (1, .int (J a)), (2, .int (J x))]) 3 rfl (by rw [hnL]; decide) rfl ?_
            refine w_goto (pc := 32) hC dX6_weaker_32 (tgt := 4) (by decide) ?_
            refine w_sub [1, 2, 3, 0] (lv2 := [(0, .ref (A 1)), (1, .int (J a)), (2, .int (J x)), (3, .int (J (b + 1)))]) rfl ?_
            refine ih4 x (b + 1) ?_ ?_ ?_ ?_
            · first | assumption | omega
            · first | assumption | omega
            · rw [cnt_s _ i1, i3]; first | rw [if_pos (by simp only [decide_eq_true_eq]; exact ⟨c14, c23⟩)] | rw [if_neg (by simp only [decide_eq_true_eq]; omega)]; omega
            · omega
          · refine w_iinc (pc := 26) hC dX6_weaker_26 (lv2 := [(2, .int (J (x + 1))), (0, .ref (A 1)), (1, .int (J a)), (3, .int (J b))]) 2 rfl (by rw [hnL]; decide) rfl ?_
            refine w_iinc (pc := 29) hC dX6_weaker_29 (lv2 := [(3, .int (J (b + 1))), (2, .int (J (x + 1))), (0, .ref (A 1)), (1, .int (J a))]) 3 rfl (by rw [hnL]; decide) rfl ?_
            refine w_goto (pc := 32) hC dX6_weaker_32 (tgt := 4) (by decide) ?_
            refine w_sub [2, 3, 1, 0] (lv2 := [(0, .ref (A 1)), (1, .int (J a)), (2, .int (J (x + 1))), (3, .int (J (b + 1)))]) rfl ?_
            refine ih4 (x + 1) (b + 1) ?_ ?_ ?_ ?_
            · first | assumption | omega
            · first | assumption | omega
            · rw [cnt_s _ i1, i3]; first | rw [if_pos (by simp only [decide_eq_true_eq]; exact ⟨c14, c23⟩)] | rw [if_neg (by simp only [decide_eq_true_eq]; omega)]; omega
            · omega
  refine w_sub [2, 3, 1, 0] (lv2 := [(0, .ref (A 1)), (1, .int (J a)), (2, .int (J 0)), (3, .int (J 0))]) rfl ?_
  refine loop4 ((S 0 - 0) + 1 : Int).toNat 0 0 ?_ ?_ ?_ ?_
  · first | assumption | omega
  · first | assumption | omega
  · rfl
  · omega
set_option maxRecDepth 100000 in
set_option maxHeartbeats 4000000 in
theorem c_X11_ordersOf (l : Launch) (G : GT) (w0 : va_W)  (n : Int) (h : 0 ≤ n ∧ n ≤ 6) : CT l yX11_ordersOf cX11_ordersOf 3 (some .int) 0 0 0 G [.int (J n)] w0 (fun vo wo => vo = some (.int (J (FAC n))) ∧ wo = w0) := by
  refine CT_of (own := RX11) rfl rfl (Nat.le_of_ble_eq_true rfl) (fun K hl hnL hC hRT hin => ?_)
  subst hl
  show WW K G 0 0 w0 0 [(0, .int (J n))] []
  refine w_iconst (pc := 0) hC dX11_ordersOf_0 ?_
  refine w_istore_n (pc := 1) hC dX11_ordersOf_1 rfl (lv2 := [(1, .int (J 1)), (0, .int (J n))]) (by rw [hnL]; decide) rfl ?_
  refine w_iconst (pc := 2) hC dX11_ordersOf_2 ?_
  refine w_istore_n (pc := 3) hC dX11_ordersOf_3 rfl (lv2 := [(2, .int (J 2)), (1, .int (J 1)), (0, .int (J n))]) (by rw [hnL]; decide) rfl ?_
  have loop4 : ∀ (nF : Nat) (x : Int) (i : Int), (2 ≤ i) → (i ≤ n ∨ i = n + 1 ∨ i = 2) → (x = FAC (i - 1)) → (n + 2 - i) < (nF : Int) → WW K G 0 0 w0 4 [(0, .int (J n)), (1, .int (J x)), (2, .int (J i))] [] := by
    intro nF
    induction nF with
    | zero => intro x i i1 i2 i3 hm4; exact absurd hm4 (by omega)
    | succ nF ih4 =>
      intro x i i1 i2 i3 hm4
      refine w_iload_n (pc := 4) hC dX11_ordersOf_4 2 rfl rfl ?_
      refine w_iload_n (pc := 5) hC dX11_ordersOf_5 0 rfl rfl ?_
      refine w_icmp_gt (pc := 6) (tgt := 19) hC dX11_ordersOf_6 (by decide) (by omega) (fun c6 => ?_) (fun c6 => ?_)
      · refine w_iload_n (pc := 19) hC dX11_ordersOf_19 1 rfl rfl ?_
        refine w_iret (pc := 20) hC hRT dX11_ordersOf_20 rfl ?_
        refine ⟨retI (by rw [i3]; exact FAC_e h (by omega) i1 i2), rfl⟩
      · refine w_iload_n (pc := 9) hC dX11_ordersOf_9 1 rfl rfl ?_
        refine w_iload_n (pc := 10) hC dX11_ordersOf_10 2 rfl rfl ?_
        refine w_imul (pc := 11) hC dX11_ordersOf_11 ?_
        refine w_istore_n (pc := 12) hC dX11_ordersOf_12 rfl (lv2 := [(1, .int (J (x * i))), (0, .int (J n)), (2, .int (J i))]) (by rw [hnL]; decide) rfl ?_
        refine w_iinc (pc := 13) hC dX11_ordersOf_13 (lv2 := [(2, .int (J (i + 1))), (1, .int (J (x * i))), (0, .int (J n))]) 2 rfl (by rw [hnL]; decide) rfl ?_
        refine w_goto (pc := 16) hC dX11_ordersOf_16 (tgt := 4) (by decide) ?_
        refine w_sub [2, 1, 0] (lv2 := [(0, .int (J n)), (1, .int (J (x * i))), (2, .int (J (i + 1)))]) rfl ?_
        refine ih4 (x * i) (i + 1) ?_ ?_ ?_ ?_
        · first | assumption | omega
        · first | assumption | omega
        · have e := FAC_s i1
          rw [show i + 1 - 1 = i by omega, e, i3]
        · omega
  refine w_sub [2, 1, 0] (lv2 := [(0, .int (J n)), (1, .int (J 1)), (2, .int (J 2))]) rfl ?_
  refine loop4 ((n + 2 - 2) + 1 : Int).toNat 1 2 ?_ ?_ ?_ ?_
  · first | assumption | omega
  · first | assumption | omega
  · rfl
  · omega
set_option maxRecDepth 100000 in
set_option maxHeartbeats 4000000 in
theorem c_X6_turn (l : Launch) (G : GT) (A D : Nat → Nat) (T : Nat) (I : Nat → Int → Int) (F : Nat → Int) (Q : Nat → Nat → Option Nat) (P : va_W) (S : Int → Int) (day : Int) (hR : RI S) (hL : LRn G.2.1 S I F Q P) (hd : 0 ≤ day ∧ day < 2147483648) : CT l yX6_turn cX6_turn 2 (some .int) 0 0 0 G [.ref (A 1), .int (J day)] (CW A D T G.2.1 I F Q P) (fun vo wo => vo = some (.int (J (if S 0 = 0 then 0 else S 0 - 1 - day % S 0))) ∧ wo = CW A D T G.2.1 I F Q P) := by
  refine CT_of (own := RX6) rfl rfl (Nat.le_of_ble_eq_true rfl) (fun K hl hnL hC hRT hin => ?_)
  subst hl
  show WW K G 0 0 (CW A D T G.2.1 I F Q P) 0 [(0, .ref (A 1)), (1, .int (J day))] []
  have hn := hR.n
  refine w_aload_n (pc := 0) hC dX6_turn_0 0 rfl rfl ?_
  refine w_getf (pc := 1) (v := .int (J (S 0))) hC dX6_turn_1 fi_X6_9 1 CW_1 (congrArg (fun z : Int => some (Value.int (J z))) (l_n hL)) ?_
  refine w_if_ne (pc := 4) (tgt := 11) hC dX6_turn_4 (by decide) (by omega) (fun c4 => ?_) (fun c4 => ?_)
  · refine w_aload_n (pc := 11) hC dX6_turn_11 0 rfl rfl ?_
    refine w_getf (pc := 12) (v := .int (J (S 0))) hC dX6_turn_12 fi_X6_9 1 CW_1 (congrArg (fun z : Int => some (Value.int (J z))) (l_n hL)) ?_
    refine w_iconst (pc := 15) hC dX6_turn_15 ?_
    refine w_isub (pc := 16) hC dX6_turn_16 ?_
    refine w_iload_n (pc := 17) hC dX6_turn_17 1 rfl rfl ?_
    refine w_aload_n (pc := 18) hC dX6_turn_18 0 rfl rfl ?_
    refine w_getf (pc := 19) (v := .int (J (S 0))) hC dX6_turn_19 fi_X6_9 1 CW_1 (congrArg (fun z : Int => some (Value.int (J z))) (l_n hL)) ?_
    refine w_irem (pc := 22) hC dX6_turn_22 (by omega) ?_
    refine w_isub (pc := 23) hC dX6_turn_23 ?_
    refine w_iret (pc := 24) hC hRT dX6_turn_24 rfl ?_
    refine ⟨retI (by first | rw [if_pos (by omega)] | rw [if_neg (by omega)]), rfl⟩
  · refine w_iconst (pc := 7) hC dX6_turn_7 ?_
    refine w_goto (pc := 8) hC dX6_turn_8 (tgt := 24) (by decide) ?_
    refine w_iret (pc := 24) hC hRT dX6_turn_24 rfl ?_
    refine ⟨retI (by first | rw [if_pos (by omega)] | rw [if_neg (by omega)]), rfl⟩
set_option maxRecDepth 100000 in
set_option maxHeartbeats 4000000 in
theorem c_X11_swap_v2 (l : Launch) (G : GT) (A D : Nat → Nat) (T : Nat) (I : Nat → Int → Int) (F : Nat → Int) (Q : Nat → Nat → Option Nat) (P : va_W)  (i : Int) (j : Int) (hi : 0 ≤ i ∧ i < 6) (hj : 0 ≤ j ∧ j < 6) : CT l yX11_swap cX11_swap 4 none 0 0 0 G [.ref (A 2), .int (J i), .int (J j)] (CW A D T G.2.1 I F Q P) (fun vo wo => ∃ (b2 : Int → Int), vo = none ∧ wo = CW A D T G.2.1 (au I 2 b2) F Q P ∧ (∀ zq : Int, b2 zq = (I 2) (swi i j zq))) := by
  refine CT_of (own := RX11) rfl rfl (Nat.le_of_ble_eq_true rfl) (fun K hl hnL hC hRT hin => ?_)
  subst hl
  show WW K G 0 0 (CW A D T G.2.1 I F Q P) 0 [(0, .ref (A 2)), (1, .int (J i)), (2, .int (J j))] []
  refine w_aload_n (pc := 0) hC dX11_swap_0 0 rfl rfl ?_
  refine w_iload_n (pc := 1) hC dX11_swap_1 1 rfl rfl ?_
  refine w_ialdV (pc := 2) (g := (I 2)) (v := (I 2) i) hC dX11_swap_2 2 CW_2 (by omega) (Nat.le_of_ble_eq_true rfl) rfl ?_
  refine w_istore_n (pc := 3) hC dX11_swap_3 rfl (lv2 := [(3, .int (J ((I 2) i))), (0, .ref (A 2)), (1, .int (J i)), (2, .int (J j))]) (by rw [hnL]; decide) rfl ?_
  refine w_aload_n (pc := 4) hC dX11_swap_4 1 rfl rfl ?_
  refine w_iload_n (pc := 5) hC dX11_swap_5 2 rfl rfl ?_
  refine w_aload_n (pc := 6) hC dX11_swap_6 1 rfl rfl ?_
  refine w_iload_n (pc := 7) hC dX11_swap_7 3 rfl rfl ?_
  refine w_ialdV (pc := 8) (g := (I 2)) (v := (I 2) j) hC dX11_swap_8 2 CW_2 (by omega) (Nat.le_of_ble_eq_true rfl) rfl ?_
  refine w_iast (pc := 9) (g := (I 2)) (w2 := CW A D T G.2.1 (au I 2 (gu (I 2) i ((I 2) j))) F Q P) hC dX11_swap_9 2 CW_2 (by omega) (Nat.le_of_ble_eq_true rfl) (CWa_2 rfl) ?_
  generalize h9 : gu (I 2) i ((I 2) j) = s9
  refine w_aload_n (pc := 10) hC dX11_swap_10 1 rfl rfl ?_
  refine w_iload_n (pc := 11) hC dX11_swap_11 3 rfl rfl ?_
  refine w_iload_n (pc := 12) hC dX11_swap_12 0 rfl rfl ?_
  refine w_iast (pc := 13) (g := s9) (w2 := CW A D T G.2.1 (au I 2 (gu s9 j ((I 2) i))) F Q P) hC dX11_swap_13 2 CW_2 (by omega) (Nat.le_of_ble_eq_true rfl) (CWa_2 au_rp) ?_
  generalize h13 : gu s9 j ((I 2) i) = s13
  refine w_vret (pc := 14) hC hRT dX11_swap_14 ?_
  refine ⟨s13, rfl, rfl, ?_⟩
  · intro r
    rw [← h13, ← h9]
    exact swi_st _ _ _ _
set_option maxRecDepth 100000 in
set_option maxHeartbeats 4000000 in
theorem c_X11_swap_v54 (l : Launch) (G : GT) (A D : Nat → Nat) (T : Nat) (I : Nat → Int → Int) (F : Nat → Int) (Q : Nat → Nat → Option Nat) (P : va_W)  (i : Int) (j : Int) (hi : 0 ≤ i ∧ i < 6) (hj : 0 ≤ j ∧ j < 6) : CT l yX11_swap cX11_swap 4 none 0 0 0 G [.ref (A 54), .int (J i), .int (J j)] (CW A D T G.2.1 I F Q P) (fun vo wo => ∃ (b54 : Int → Int), vo = none ∧ wo = CW A D T G.2.1 (au I 54 b54) F Q P ∧ (∀ zq : Int, b54 zq = (I 54) (swi i j zq))) := by
  refine CT_of (own := RX11) rfl rfl (Nat.le_of_ble_eq_true rfl) (fun K hl hnL hC hRT hin => ?_)
  subst hl
  show WW K G 0 0 (CW A D T G.2.1 I F Q P) 0 [(0, .ref (A 54)), (1, .int (J i)), (2, .int (J j))] []
  refine w_aload_n (pc := 0) hC dX11_swap_0 0 rfl rfl ?_
  refine w_iload_n (pc := 1) hC dX11_swap_1 1 rfl rfl ?_
  refine w_ialdV (pc := 2) (g := (I 54)) (v := (I 54) i) hC dX11_swap_2 54 CW_54 (by omega) (Nat.le_of_ble_eq_true rfl) rfl ?_
  refine w_istore_n (pc := 3) hC dX11_swap_3 rfl (lv2 := [(3, .int (J ((I 54) i))), (0, .ref (A 54)), (1, .int (J i)), (2, .int (J j))]) (by rw [hnL]; decide) rfl ?_
  refine w_aload_n (pc := 4) hC dX11_swap_4 1 rfl rfl ?_
  refine w_iload_n (pc := 5) hC dX11_swap_5 2 rfl rfl ?_
  refine w_aload_n (pc := 6) hC dX11_swap_6 1 rfl rfl ?_
  refine w_iload_n (pc := 7) hC dX11_swap_7 3 rfl rfl ?_
  refine w_ialdV (pc := 8) (g := (I 54)) (v := (I 54) j) hC dX11_swap_8 54 CW_54 (by omega) (Nat.le_of_ble_eq_true rfl) rfl ?_
  refine w_iast (pc := 9) (g := (I 54)) (w2 := CW A D T G.2.1 (au I 54 (gu (I 54) i ((I 54) j))) F Q P) hC dX11_swap_9 54 CW_54 (by omega) (Nat.le_of_ble_eq_true rfl) (CWa_54 rfl) ?_
  generalize h9 : gu (I 54) i ((I 54) j) = s9
  refine w_aload_n (pc := 10) hC dX11_swap_10 1 rfl rfl ?_
  refine w_iload_n (pc := 11) hC dX11_swap_11 3 rfl rfl ?_
  refine w_iload_n (pc := 12) hC dX11_swap_12 0 rfl rfl ?_
  refine w_iast (pc := 13) (g := s9) (w2 := CW A D T G.2.1 (au I 54 (gu s9 j ((I 54) i))) F Q P) hC dX11_swap_13 54 CW_54 (by omega) (Nat.le_of_ble_eq_true rfl) (CWa_54 au_rp) ?_
  generalize h13 : gu s9 j ((I 54) i) = s13
  refine w_vret (pc := 14) hC hRT dX11_swap_14 ?_
  refine ⟨s13, rfl, rfl, ?_⟩
  · intro r
    rw [← h13, ← h9]
    exact swi_st _ _ _ _
set_option maxRecDepth 100000 in
set_option maxHeartbeats 4000000 in
theorem c_X11_swap_v57 (l : Launch) (G : GT) (A D : Nat → Nat) (T : Nat) (I : Nat → Int → Int) (F : Nat → Int) (Q : Nat → Nat → Option Nat) (P : va_W)  (i : Int) (j : Int) (hi : 0 ≤ i ∧ i < 6) (hj : 0 ≤ j ∧ j < 6) : CT l yX11_swap cX11_swap 4 none 0 0 0 G [.ref (A 57), .int (J i), .int (J j)] (CW A D T G.2.1 I F Q P) (fun vo wo => ∃ (b57 : Int → Int), vo = none ∧ wo = CW A D T G.2.1 (au I 57 b57) F Q P ∧ (∀ zq : Int, b57 zq = (I 57) (swi i j zq))) := by
  refine CT_of (own := RX11) rfl rfl (Nat.le_of_ble_eq_true rfl) (fun K hl hnL hC hRT hin => ?_)
  subst hl
  show WW K G 0 0 (CW A D T G.2.1 I F Q P) 0 [(0, .ref (A 57)), (1, .int (J i)), (2, .int (J j))] []
  refine w_aload_n (pc := 0) hC dX11_swap_0 0 rfl rfl ?_
  refine w_iload_n (pc := 1) hC dX11_swap_1 1 rfl rfl ?_
  refine w_ialdV (pc := 2) (g := (I 57)) (v := (I 57) i) hC dX11_swap_2 57 CW_57 (by omega) (Nat.le_of_ble_eq_true rfl) rfl ?_
  refine w_istore_n (pc := 3) hC dX11_swap_3 rfl (lv2 := [(3, .int (J ((I 57) i))), (0, .ref (A 57)), (1, .int (J i)), (2, .int (J j))]) (by rw [hnL]; decide) rfl ?_
  refine w_aload_n (pc := 4) hC dX11_swap_4 1 rfl rfl ?_
  refine w_iload_n (pc := 5) hC dX11_swap_5 2 rfl rfl ?_
  refine w_aload_n (pc := 6) hC dX11_swap_6 1 rfl rfl ?_
  refine w_iload_n (pc := 7) hC dX11_swap_7 3 rfl rfl ?_
  refine w_ialdV (pc := 8) (g := (I 57)) (v := (I 57) j) hC dX11_swap_8 57 CW_57 (by omega) (Nat.le_of_ble_eq_true rfl) rfl ?_
  refine w_iast (pc := 9) (g := (I 57)) (w2 := CW A D T G.2.1 (au I 57 (gu (I 57) i ((I 57) j))) F Q P) hC dX11_swap_9 57 CW_57 (by omega) (Nat.le_of_ble_eq_true rfl) (CWa_57 rfl) ?_
  generalize h9 : gu (I 57) i ((I 57) j) = s9
  refine w_aload_n (pc := 10) hC dX11_swap_10 1 rfl rfl ?_
  refine w_iload_n (pc := 11) hC dX11_swap_11 3 rfl rfl ?_
  refine w_iload_n (pc := 12) hC dX11_swap_12 0 rfl rfl ?_
  refine w_iast (pc := 13) (g := s9) (w2 := CW A D T G.2.1 (au I 57 (gu s9 j ((I 57) i))) F Q P) hC dX11_swap_13 57 CW_57 (by omega) (Nat.le_of_ble_eq_true rfl) (CWa_57 au_rp) ?_
  generalize h13 : gu s9 j ((I 57) i) = s13
  refine w_vret (pc := 14) hC hRT dX11_swap_14 ?_
  refine ⟨s13, rfl, rfl, ?_⟩
  · intro r
    rw [← h13, ← h9]
    exact swi_st _ _ _ _
set_option maxRecDepth 100000 in
set_option maxHeartbeats 4000000 in
theorem c_X11_swap_v58 (l : Launch) (G : GT) (A D : Nat → Nat) (T : Nat) (I : Nat → Int → Int) (F : Nat → Int) (Q : Nat → Nat → Option Nat) (P : va_W)  (i : Int) (j : Int) (hi : 0 ≤ i ∧ i < 6) (hj : 0 ≤ j ∧ j < 6) : CT l yX11_swap cX11_swap 4 none 0 0 0 G [.ref (A 58), .int (J i), .int (J j)] (CW A D T G.2.1 I F Q P) (fun vo wo => ∃ (b58 : Int → Int), vo = none ∧ wo = CW A D T G.2.1 (au I 58 b58) F Q P ∧ (∀ zq : Int, b58 zq = (I 58) (swi i j zq))) := by
  refine CT_of (own := RX11) rfl rfl (Nat.le_of_ble_eq_true rfl) (fun K hl hnL hC hRT hin => ?_)
  subst hl
  show WW K G 0 0 (CW A D T G.2.1 I F Q P) 0 [(0, .ref (A 58)), (1, .int (J i)), (2, .int (J j))] []
  refine w_aload_n (pc := 0) hC dX11_swap_0 0 rfl rfl ?_
  refine w_iload_n (pc := 1) hC dX11_swap_1 1 rfl rfl ?_
  refine w_ialdV (pc := 2) (g := (I 58)) (v := (I 58) i) hC dX11_swap_2 58 CW_58 (by omega) (Nat.le_of_ble_eq_true rfl) rfl ?_
  refine w_istore_n (pc := 3) hC dX11_swap_3 rfl (lv2 := [(3, .int (J ((I 58) i))), (0, .ref (A 58)), (1, .int (J i)), (2, .int (J j))]) (by rw [hnL]; decide) rfl ?_
  refine w_aload_n (pc := 4) hC dX11_swap_4 1 rfl rfl ?_
  refine w_iload_n (pc := 5) hC dX11_swap_5 2 rfl rfl ?_
  refine w_aload_n (pc := 6) hC dX11_swap_6 1 rfl rfl ?_
  refine w_iload_n (pc := 7) hC dX11_swap_7 3 rfl rfl ?_
  refine w_ialdV (pc := 8) (g := (I 58)) (v := (I 58) j) hC dX11_swap_8 58 CW_58 (by omega) (Nat.le_of_ble_eq_true rfl) rfl ?_
  refine w_iast (pc := 9) (g := (I 58)) (w2 := CW A D T G.2.1 (au I 58 (gu (I 58) i ((I 58) j))) F Q P) hC dX11_swap_9 58 CW_58 (by omega) (Nat.le_of_ble_eq_true rfl) (CWa_58 rfl) ?_
  generalize h9 : gu (I 58) i ((I 58) j) = s9
  refine w_aload_n (pc := 10) hC dX11_swap_10 1 rfl rfl ?_
  refine w_iload_n (pc := 11) hC dX11_swap_11 3 rfl rfl ?_
  refine w_iload_n (pc := 12) hC dX11_swap_12 0 rfl rfl ?_
  refine w_iast (pc := 13) (g := s9) (w2 := CW A D T G.2.1 (au I 58 (gu s9 j ((I 58) i))) F Q P) hC dX11_swap_13 58 CW_58 (by omega) (Nat.le_of_ble_eq_true rfl) (CWa_58 au_rp) ?_
  generalize h13 : gu s9 j ((I 58) i) = s13
  refine w_vret (pc := 14) hC hRT dX11_swap_14 ?_
  refine ⟨s13, rfl, rfl, ?_⟩
  · intro r
    rw [← h13, ← h9]
    exact swi_st _ _ _ _
set_option maxRecDepth 100000 in
set_option maxHeartbeats 4000000 in
theorem c_X11_move_v2 (l : Launch) (G : GT) (A D : Nat → Nat) (T : Nat) (I : Nat → Int → Int) (F : Nat → Int) (Q : Nat → Nat → Option Nat) (P : va_W)  (p : Int) (t : Int) (hp : 0 ≤ p ∧ p < 6) (ht : 0 ≤ t ∧ t < 6) : CT l yX11_move cX11_move 5 none 0 0 0 G [.ref (A 2), .int (J p), .int (J t)] (CW A D T G.2.1 I F Q P) (fun vo wo => ∃ (b2 : Int → Int), vo = none ∧ wo = CW A D T G.2.1 (au I 2 b2) F Q P ∧ (∀ zq : Int, b2 zq = (I 2) (mvi p t zq))) := by
  refine CT_of (own := RX11) rfl rfl (Nat.le_of_ble_eq_true rfl) (fun K hl hnL hC hRT hin => ?_)
  subst hl
  show WW K G 0 0 (CW A D T G.2.1 I F Q P) 0 [(0, .ref (A 2)), (1, .int (J p)), (2, .int (J t))] []
  refine w_aload_n (pc := 0) hC dX11_move_0 0 rfl rfl ?_
  refine w_iload_n (pc := 1) hC dX11_move_1 1 rfl rfl ?_
  refine w_ialdV (pc := 2) (g := (I 2)) (v := (I 2) p) hC dX11_move_2 2 CW_2 (by omega) (Nat.le_of_ble_eq_true rfl) rfl ?_
  refine w_istore_n (pc := 3) hC dX11_move_3 rfl (lv2 := [(3, .int (J ((I 2) p))), (0, .ref (A 2)), (1, .int (J p)), (2, .int (J t))]) (by rw [hnL]; decide) rfl ?_
  refine w_iload_n (pc := 4) hC dX11_move_4 2 rfl rfl ?_
  refine w_istore (pc := 5) hC dX11_move_5 (lv2 := [(4, .int (J p)), (3, .int (J ((I 2) p))), (0, .ref (A 2)), (1, .int (J p)), (2, .int (J t))]) (by rw [hnL]; decide) rfl ?_
  have loop7 : ∀ (nF : Nat) (r : Int) (a2_7 : Int → Int), (r ≤ p ∧ (t ≤ r ∨ r = p)) → (∀ q : Int, a2_7 q = if r < q ∧ q ≤ p then (I 2) (q - 1) else (I 2) q) → (r - t + 6) < (nF : Int) → WW K G 0 0 (CW A D T G.2.1 (au I 2 a2_7) F Q P) 7 [(0, .ref (A 2)), (1, .int (J p)), (2, .int (J t)), (3, .int (J ((I 2) p))), (4, .int (J r))] [] := by
    intro nF
    induction nF with
    | zero => intro r a2_7 i1 i2 hm7; exact absurd hm7 (by omega)
    | succ nF ih7 =>
      intro r a2_7 i1 i2 hm7
      refine w_iload (pc := 7) hC dX11_move_7 4 rfl ?_
      refine w_iload_n (pc := 9) hC dX11_move_9 2 rfl rfl ?_
      refine w_icmp_le (pc := 10) (tgt := 29) hC dX11_move_10 (by decide) (by omega) (fun c10 => ?_) (fun c10 => ?_)
      · refine w_iload_n (pc := 29) hC dX11_move_29 1 rfl rfl ?_
        refine w_istore (pc := 30) hC dX11_move_30 (lv2 := [(4, .int (J p)), (0, .ref (A 2)), (1, .int (J p)), (2, .int (J t)), (3, .int (J ((I 2) p)))]) (by rw [hnL]; decide) rfl ?_
        have loop32 : ∀ (nF : Nat) (r : Int) (a2_32 : Int → Int), (p ≤ r ∧ (r ≤ t ∨ r = p)) → (∀ q : Int, a2_32 q = if t ≤ p then (if t < q ∧ q ≤ p then (I 2) (q - 1) else (I 2) q) else (if p ≤ q ∧ q < r then (I 2) (q + 1) else (I 2) q)) → (t - r + 6) < (nF : Int) → WW K G 0 0 (CW A D T G.2.1 (au I 2 a2_32) F Q P) 32 [(0, .ref (A 2)), (2, .int (J t)), (3, .int (J ((I 2) p))), (4, .int (J r))] [] := by
          intro nF
          induction nF with
          | zero => intro r a2_32 j1 j2 hm32; exact absurd hm32 (by omega)
          | succ nF ih32 =>
            intro r a2_32 j1 j2 hm32
            refine w_iload (pc := 32) hC dX11_move_32 3 rfl ?_
            refine w_iload_n (pc := 34) hC dX11_move_34 1 rfl rfl ?_
            refine w_icmp_ge (pc := 35) (tgt := 54) hC dX11_move_35 (by decide) (by omega) (fun c35 => ?_) (fun c35 => ?_)
            · refine w_aload_n (pc := 54) hC dX11_move_54 0 rfl rfl ?_
              refine w_iload_n (pc := 55) hC dX11_move_55 1 rfl rfl ?_
              refine w_iload_n (pc := 56) hC dX11_move_56 2 rfl rfl ?_
              refine w_iast (pc := 57) (g := a2_32) (w2 := CW A D T G.2.1 (au I 2 (gu a2_32 t ((I 2) p))) F Q P) hC dX11_move_57 2 CW_2 (by omega) (Nat.le_of_ble_eq_true rfl) (CWa_2 au_rp) ?_
              generalize h57 : gu a2_32 t ((I 2) p) = s57
              refine w_vret (pc := 58) hC hRT dX11_move_58 ?_
              refine ⟨s57, rfl, rfl, ?_⟩
              · intro r
                rw [← h57]
                exact mv_end hp ht j1 (by omega) j2 r
            · refine w_aload_n (pc := 38) hC dX11_move_38 0 rfl rfl ?_
              refine w_iload (pc := 39) hC dX11_move_39 3 rfl ?_
              refine w_aload_n (pc := 41) hC dX11_move_41 0 rfl rfl ?_
              refine w_iload (pc := 42) hC dX11_move_42 3 rfl ?_
              refine w_iconst (pc := 44) hC dX11_move_44 ?_
              refine w_iadd (pc := 45) hC dX11_move_45 ?_
              refine w_ialdV (pc := 46) (g := a2_32) (v := a2_32 (r + 1)) hC dX11_move_46 2 CW_2 (by omega) (Nat.le_of_ble_eq_true rfl) rfl ?_
              refine w_iast (pc := 47) (g := a2_32) (w2 := CW A D T G.2.1 (au I 2 (gu a2_32 r (a2_32 (r + 1)))) F Q P) hC dX11_move_47 2 CW_2 (by omega) (Nat.le_of_ble_eq_true rfl) (CWa_2 au_rp) ?_
              generalize h47 : gu a2_32 r (a2_32 (r + 1)) = s47
              refine w_iinc (pc := 48) hC dX11_move_48 (lv2 := [(4, .int (J (r + 1))), (0, .ref (A 2)), (2, .int (J t)), (3, .int (J ((I 2) p)))]) 3 rfl (by rw [hnL]; decide) rfl ?_
              refine w_goto (pc := 51) hC dX11_move_51 (tgt := 32) (by decide) ?_
              refine w_sub [1, 2, 3, 0] (lv2 := [(0, .ref (A 2)), (2, .int (J t)), (3, .int (J ((I 2) p))), (4, .int (J (r + 1)))]) rfl ?_
              refine ih32 (r + 1) s47 ?_ ?_ ?_
              · omega
              · exact mv_dn h47 c35 j1.1 j2
              · omega
        refine w_sub [1, 3, 4, 0] (lv2 := [(0, .ref (A 2)), (2, .int (J t)), (3, .int (J ((I 2) p))), (4, .int (J p))]) rfl ?_
        refine loop32 ((t - p + 6) + 1 : Int).toNat p a2_7 ?_ ?_ ?_
        · omega
        · exact mv_mid c10 i1 i2
        · omega
      · refine w_aload_n (pc := 13) hC dX11_move_13 0 rfl rfl ?_
        refine w_iload (pc := 14) hC dX11_move_14 4 rfl ?_
        refine w_aload_n (pc := 16) hC dX11_move_16 0 rfl rfl ?_
        refine w_iload (pc := 17) hC dX11_move_17 4 rfl ?_
        refine w_iconst (pc := 19) hC dX11_move_19 ?_
        refine w_isub (pc := 20) hC dX11_move_20 ?_
        refine w_ialdV (pc := 21) (g := a2_7) (v := a2_7 (r - 1)) hC dX11_move_21 2 CW_2 (by omega) (Nat.le_of_ble_eq_true rfl) rfl ?_
        refine w_iast (pc := 22) (g := a2_7) (w2 := CW A D T G.2.1 (au I 2 (gu a2_7 r (a2_7 (r - 1)))) F Q P) hC dX11_move_22 2 CW_2 (by omega) (Nat.le_of_ble_eq_true rfl) (CWa_2 au_rp) ?_
        generalize h22 : gu a2_7 r (a2_7 (r - 1)) = s22
        refine w_iinc (pc := 23) hC dX11_move_23 (lv2 := [(4, .int (J (r + (-1)))), (0, .ref (A 2)), (1, .int (J p)), (2, .int (J t)), (3, .int (J ((I 2) p)))]) 4 rfl (by rw [hnL]; decide) rfl ?_
        refine w_goto (pc := 26) hC dX11_move_26 (tgt := 7) (by decide) ?_
        refine w_sub [1, 2, 3, 4, 0] (lv2 := [(0, .ref (A 2)), (1, .int (J p)), (2, .int (J t)), (3, .int (J ((I 2) p))), (4, .int (J (r + (-1))))]) rfl ?_
        refine ih7 (r + (-1)) s22 ?_ ?_ ?_
        · omega
        · exact mv_up h22 i1.1 i2
        · omega
  refine w_weq (CW_cong (au_ms (k := 2) (v := I 2) rfl rfl rfl) rfl rfl) ?_
  refine w_sub [2, 3, 4, 1, 0] (lv2 := [(0, .ref (A 2)), (1, .int (J p)), (2, .int (J t)), (3, .int (J ((I 2) p))), (4, .int (J p))]) rfl ?_
  refine loop7 ((p - t + 6) + 1 : Int).toNat p (I 2) ?_ ?_ ?_
  · omega
  · intro q; rw [if_neg (by omega)]
  · omega
set_option maxRecDepth 100000 in
set_option maxHeartbeats 4000000 in
theorem c_X11_move_v54 (l : Launch) (G : GT) (A D : Nat → Nat) (T : Nat) (I : Nat → Int → Int) (F : Nat → Int) (Q : Nat → Nat → Option Nat) (P : va_W)  (p : Int) (t : Int) (hp : 0 ≤ p ∧ p < 6) (ht : 0 ≤ t ∧ t < 6) : CT l yX11_move cX11_move 5 none 0 0 0 G [.ref (A 54), .int (J p), .int (J t)] (CW A D T G.2.1 I F Q P) (fun vo wo => ∃ (b54 : Int → Int), vo = none ∧ wo = CW A D T G.2.1 (au I 54 b54) F Q P ∧ (∀ zq : Int, b54 zq = (I 54) (mvi p t zq))) := by
  refine CT_of (own := RX11) rfl rfl (Nat.le_of_ble_eq_true rfl) (fun K hl hnL hC hRT hin => ?_)
  subst hl
  show WW K G 0 0 (CW A D T G.2.1 I F Q P) 0 [(0, .ref (A 54)), (1, .int (J p)), (2, .int (J t))] []
  refine w_aload_n (pc := 0) hC dX11_move_0 0 rfl rfl ?_
  refine w_iload_n (pc := 1) hC dX11_move_1 1 rfl rfl ?_
  refine w_ialdV (pc := 2) (g := (I 54)) (v := (I 54) p) hC dX11_move_2 54 CW_54 (by omega) (Nat.le_of_ble_eq_true rfl) rfl ?_
  refine w_istore_n (pc := 3) hC dX11_move_3 rfl (lv2 := [(3, .int (J ((I 54) p))), (0, .ref (A 54)), (1, .int (J p)), (2, .int (J t))]) (by rw [hnL]; decide) rfl ?_
  refine w_iload_n (pc := 4) hC dX11_move_4 2 rfl rfl ?_
  refine w_istore (pc := 5) hC dX11_move_5 (lv2 := [(4, .int (J p)), (3, .int (J ((I 54) p))), (0, .ref (A 54)), (1, .int (J p)), (2, .int (J t))]) (by rw [hnL]; decide) rfl ?_
  have loop7 : ∀ (nF : Nat) (r : Int) (a54_7 : Int → Int), (r ≤ p ∧ (t ≤ r ∨ r = p)) → (∀ q : Int, a54_7 q = if r < q ∧ q ≤ p then (I 54) (q - 1) else (I 54) q) → (r - t + 6) < (nF : Int) → WW K G 0 0 (CW A D T G.2.1 (au I 54 a54_7) F Q P) 7 [(0, .ref (A 54)), (1, .int (J p)), (2, .int (J t)), (3, .int (J ((I 54) p))), (4, .int (J r))] [] := by
    intro nF
    induction nF with
    | zero => intro r a54_7 i1 i2 hm7; exact absurd hm7 (by omega)
    | succ nF ih7 =>
      intro r a54_7 i1 i2 hm7
      refine w_iload (pc := 7) hC dX11_move_7 4 rfl ?_
      refine w_iload_n (pc := 9) hC dX11_move_9 2 rfl rfl ?_
      refine w_icmp_le (pc := 10) (tgt := 29) hC dX11_move_10 (by decide) (by omega) (fun c10 => ?_) (fun c10 => ?_)
      · refine w_iload_n (pc := 29) hC dX11_move_29 1 rfl rfl ?_
        refine w_istore (pc := 30) hC dX11_move_30 (lv2 := [(4, .int (J p)), (0, .ref (A 54)), (1, .int (J p)), (2, .int (J t)), (3, .int (J ((I 54) p)))]) (by rw [hnL]; decide) rfl ?_
        have loop32 : ∀ (nF : Nat) (r : Int) (a54_32 : Int → Int), (p ≤ r ∧ (r ≤ t ∨ r = p)) → (∀ q : Int, a54_32 q = if t ≤ p then (if t < q ∧ q ≤ p then (I 54) (q - 1) else (I 54) q) else (if p ≤ q ∧ q < r then (I 54) (q + 1) else (I 54) q)) → (t - r + 6) < (nF : Int) → WW K G 0 0 (CW A D T G.2.1 (au I 54 a54_32) F Q P) 32 [(0, .ref (A 54)), (2, .int (J t)), (3, .int (J ((I 54) p))), (4, .int (J r))] [] := by
          intro nF
          induction nF with
          | zero => intro r a54_32 j1 j2 hm32; exact absurd hm32 (by omega)
          | succ nF ih32 =>
            intro r a54_32 j1 j2 hm32
            refine w_iload (pc := 32) hC dX11_move_32 3 rfl ?_
            refine w_iload_n (pc := 34) hC dX11_move_34 1 rfl rfl ?_
            refine w_icmp_ge (pc := 35) (tgt := 54) hC dX11_move_35 (by decide) (by omega) (fun c35 => ?_) (fun c35 => ?_)
            · refine w_aload_n (pc := 54) hC dX11_move_54 0 rfl rfl ?_
              refine w_iload_n (pc := 55) hC dX11_move_55 1 rfl rfl ?_
              refine w_iload_n (pc := 56) hC dX11_move_56 2 rfl rfl ?_
              refine w_iast (pc := 57) (g := a54_32) (w2 := CW A D T G.2.1 (au I 54 (gu a54_32 t ((I 54) p))) F Q P) hC dX11_move_57 54 CW_54 (by omega) (Nat.le_of_ble_eq_true rfl) (CWa_54 au_rp) ?_
              generalize h57 : gu a54_32 t ((I 54) p) = s57
              refine w_vret (pc := 58) hC hRT dX11_move_58 ?_
              refine ⟨s57, rfl, rfl, ?_⟩
              · intro r
                rw [← h57]
                exact mv_end hp ht j1 (by omega) j2 r
            · refine w_aload_n (pc := 38) hC dX11_move_38 0 rfl rfl ?_
              refine w_iload (pc := 39) hC dX11_move_39 3 rfl ?_
              refine w_aload_n (pc := 41) hC dX11_move_41 0 rfl rfl ?_
              refine w_iload (pc := 42) hC dX11_move_42 3 rfl ?_
              refine w_iconst (pc := 44) hC dX11_move_44 ?_
              refine w_iadd (pc := 45) hC dX11_move_45 ?_
              refine w_ialdV (pc := 46) (g := a54_32) (v := a54_32 (r + 1)) hC dX11_move_46 54 CW_54 (by omega) (Nat.le_of_ble_eq_true rfl) rfl ?_
              refine w_iast (pc := 47) (g := a54_32) (w2 := CW A D T G.2.1 (au I 54 (gu a54_32 r (a54_32 (r + 1)))) F Q P) hC dX11_move_47 54 CW_54 (by omega) (Nat.le_of_ble_eq_true rfl) (CWa_54 au_rp) ?_
              generalize h47 : gu a54_32 r (a54_32 (r + 1)) = s47
              refine w_iinc (pc := 48) hC dX11_move_48 (lv2 := [(4, .int (J (r + 1))), (0, .ref (A 54)), (2, .int (J t)), (3, .int (J ((I 54) p)))]) 3 rfl (by rw [hnL]; decide) rfl ?_
              refine w_goto (pc := 51) hC dX11_move_51 (tgt := 32) (by decide) ?_
              refine w_sub [1, 2, 3, 0] (lv2 := [(0, .ref (A 54)), (2, .int (J t)), (3, .int (J ((I 54) p))), (4, .int (J (r + 1)))]) rfl ?_
              refine ih32 (r + 1) s47 ?_ ?_ ?_
              · omega
              · exact mv_dn h47 c35 j1.1 j2
              · omega
        refine w_sub [1, 3, 4, 0] (lv2 := [(0, .ref (A 54)), (2, .int (J t)), (3, .int (J ((I 54) p))), (4, .int (J p))]) rfl ?_
        refine loop32 ((t - p + 6) + 1 : Int).toNat p a54_7 ?_ ?_ ?_
        · omega
        · exact mv_mid c10 i1 i2
        · omega
      · refine w_aload_n (pc := 13) hC dX11_move_13 0 rfl rfl ?_
        refine w_iload (pc := 14) hC dX11_move_14 4 rfl ?_
        refine w_aload_n (pc := 16) hC dX11_move_16 0 rfl rfl ?_
        refine w_iload (pc := 17) hC dX11_move_17 4 rfl ?_
        refine w_iconst (pc := 19) hC dX11_move_19 ?_
        refine w_isub (pc := 20) hC dX11_move_20 ?_
        refine w_ialdV (pc := 21) (g := a54_7) (v := a54_7 (r - 1)) hC dX11_move_21 54 CW_54 (by omega) (Nat.le_of_ble_eq_true rfl) rfl ?_
        refine w_iast (pc := 22) (g := a54_7) (w2 := CW A D T G.2.1 (au I 54 (gu a54_7 r (a54_7 (r - 1)))) F Q P) hC dX11_move_22 54 CW_54 (by omega) (Nat.le_of_ble_eq_true rfl) (CWa_54 au_rp) ?_
        generalize h22 : gu a54_7 r (a54_7 (r - 1)) = s22
        refine w_iinc (pc := 23) hC dX11_move_23 (lv2 := [(4, .int (J (r + (-1)))), (0, .ref (A 54)), (1, .int (J p)), (2, .int (J t)), (3, .int (J ((I 54) p)))]) 4 rfl (by rw [hnL]; decide) rfl ?_
        refine w_goto (pc := 26) hC dX11_move_26 (tgt := 7) (by decide) ?_
        refine w_sub [1, 2, 3, 4, 0] (lv2 := [(0, .ref (A 54)), (1, .int (J p)), (2, .int (J t)), (3, .int (J ((I 54) p))), (4, .int (J (r + (-1))))]) rfl ?_
        refine ih7 (r + (-1)) s22 ?_ ?_ ?_
        · omega
        · exact mv_up h22 i1.1 i2
        · omega
  refine w_weq (CW_cong (au_ms (k := 54) (v := I 54) rfl rfl rfl) rfl rfl) ?_
  refine w_sub [2, 3, 4, 1, 0] (lv2 := [(0, .ref (A 54)), (1, .int (J p)), (2, .int (J t)), (3, .int (J ((I 54) p))), (4, .int (J p))]) rfl ?_
  refine loop7 ((p - t + 6) + 1 : Int).toNat p (I 54) ?_ ?_ ?_
  · omega
  · intro q; rw [if_neg (by omega)]
  · omega
set_option maxRecDepth 100000 in
set_option maxHeartbeats 4000000 in
theorem c_X11_move_v58 (l : Launch) (G : GT) (A D : Nat → Nat) (T : Nat) (I : Nat → Int → Int) (F : Nat → Int) (Q : Nat → Nat → Option Nat) (P : va_W)  (p : Int) (t : Int) (hp : 0 ≤ p ∧ p < 6) (ht : 0 ≤ t ∧ t < 6) : CT l yX11_move cX11_move 5 none 0 0 0 G [.ref (A 58), .int (J p), .int (J t)] (CW A D T G.2.1 I F Q P) (fun vo wo => ∃ (b58 : Int → Int), vo = none ∧ wo = CW A D T G.2.1 (au I 58 b58) F Q P ∧ (∀ zq : Int, b58 zq = (I 58) (mvi p t zq))) := by
  refine CT_of (own := RX11) rfl rfl (Nat.le_of_ble_eq_true rfl) (fun K hl hnL hC hRT hin => ?_)
  subst hl
  show WW K G 0 0 (CW A D T G.2.1 I F Q P) 0 [(0, .ref (A 58)), (1, .int (J p)), (2, .int (J t))] []
  refine w_aload_n (pc := 0) hC dX11_move_0 0 rfl rfl ?_
  refine w_iload_n (pc := 1) hC dX11_move_1 1 rfl rfl ?_
  refine w_ialdV (pc := 2) (g := (I 58)) (v := (I 58) p) hC dX11_move_2 58 CW_58 (by omega) (Nat.le_of_ble_eq_true rfl) rfl ?_
  refine w_istore_n (pc := 3) hC dX11_move_3 rfl (lv2 := [(3, .int (J ((I 58) p))), (0, .ref (A 58)), (1, .int (J p)), (2, .int (J t))]) (by rw [hnL]; decide) rfl ?_
  refine w_iload_n (pc := 4) hC dX11_move_4 2 rfl rfl ?_
  refine w_istore (pc := 5) hC dX11_move_5 (lv2 := [(4, .int (J p)), (3, .int (J ((I 58) p))), (0, .ref (A 58)), (1, .int (J p)), (2, .int (J t))]) (by rw [hnL]; decide) rfl ?_
  have loop7 : ∀ (nF : Nat) (r : Int) (a58_7 : Int → Int), (r ≤ p ∧ (t ≤ r ∨ r = p)) → (∀ q : Int, a58_7 q = if r < q ∧ q ≤ p then (I 58) (q - 1) else (I 58) q) → (r - t + 6) < (nF : Int) → WW K G 0 0 (CW A D T G.2.1 (au I 58 a58_7) F Q P) 7 [(0, .ref (A 58)), (1, .int (J p)), (2, .int (J t)), (3, .int (J ((I 58) p))), (4, .int (J r))] [] := by
    intro nF
    induction nF with
    | zero => intro r a58_7 i1 i2 hm7; exact absurd hm7 (by omega)
    | succ nF ih7 =>
      intro r a58_7 i1 i2 hm7
      refine w_iload (pc := 7) hC dX11_move_7 4 rfl ?_
      refine w_iload_n (pc := 9) hC dX11_move_9 2 rfl rfl ?_
      refine w_icmp_le (pc := 10) (tgt := 29) hC dX11_move_10 (by decide) (by omega) (fun c10 => ?_) (fun c10 => ?_)
      · refine w_iload_n (pc := 29) hC dX11_move_29 1 rfl rfl ?_
        refine w_istore (pc := 30) hC dX11_move_30 (lv2 := [(4, .int (J p)), (0, .ref (A 58)), (1, .int (J p)), (2, .int (J t)), (3, .int (J ((I 58) p)))]) (by rw [hnL]; decide) rfl ?_
        have loop32 : ∀ (nF : Nat) (r : Int) (a58_32 : Int → Int), (p ≤ r ∧ (r ≤ t ∨ r = p)) → (∀ q : Int, a58_32 q = if t ≤ p then (if t < q ∧ q ≤ p then (I 58) (q - 1) else (I 58) q) else (if p ≤ q ∧ q < r then (I 58) (q + 1) else (I 58) q)) → (t - r + 6) < (nF : Int) → WW K G 0 0 (CW A D T G.2.1 (au I 58 a58_32) F Q P) 32 [(0, .ref (A 58)), (2, .int (J t)), (3, .int (J ((I 58) p))), (4, .int (J r))] [] := by
          intro nF
          induction nF with
          | zero => intro r a58_32 j1 j2 hm32; exact absurd hm32 (by omega)
          | succ nF ih32 =>
            intro r a58_32 j1 j2 hm32
            refine w_iload (pc := 32) hC dX11_move_32 3 rfl ?_
            refine w_iload_n (pc := 34) hC dX11_move_34 1 rfl rfl ?_
            refine w_icmp_ge (pc := 35) (tgt := 54) hC dX11_move_35 (by decide) (by omega) (fun c35 => ?_) (fun c35 => ?_)
            · refine w_aload_n (pc := 54) hC dX11_move_54 0 rfl rfl ?_
              refine w_iload_n (pc := 55) hC dX11_move_55 1 rfl rfl ?_
              refine w_iload_n (pc := 56) hC dX11_move_56 2 rfl rfl ?_
              refine w_iast (pc := 57) (g := a58_32) (w2 := CW A D T G.2.1 (au I 58 (gu a58_32 t ((I 58) p))) F Q P) hC dX11_move_57 58 CW_58 (by omega) (Nat.le_of_ble_eq_true rfl) (CWa_58 au_rp) ?_
              generalize h57 : gu a58_32 t ((I 58) p) = s57
              refine w_vret (pc := 58) hC hRT dX11_move_58 ?_
              refine ⟨s57, rfl, rfl, ?_⟩
              · intro r
                rw [← h57]
                exact mv_end hp ht j1 (by omega) j2 r
            · refine w_aload_n (pc := 38) hC dX11_move_38 0 rfl rfl ?_
              refine w_iload (pc := 39) hC dX11_move_39 3 rfl ?_
              refine w_aload_n (pc := 41) hC dX11_move_41 0 rfl rfl ?_
              refine w_iload (pc := 42) hC dX11_move_42 3 rfl ?_
              refine w_iconst (pc := 44) hC dX11_move_44 ?_
              refine w_iadd (pc := 45) hC dX11_move_45 ?_
              refine w_ialdV (pc := 46) (g := a58_32) (v := a58_32 (r + 1)) hC dX11_move_46 58 CW_58 (by omega) (Nat.le_of_ble_eq_true rfl) rfl ?_
              refine w_iast (pc := 47) (g := a58_32) (w2 := CW A D T G.2.1 (au I 58 (gu a58_32 r (a58_32 (r + 1)))) F Q P) hC dX11_move_47 58 CW_58 (by omega) (Nat.le_of_ble_eq_true rfl) (CWa_58 au_rp) ?_
              generalize h47 : gu a58_32 r (a58_32 (r + 1)) = s47
              refine w_iinc (pc := 48) hC dX11_move_48 (lv2 := [(4, .int (J (r + 1))), (0, .ref (A 58)), (2, .int (J t)), (3, .int (J ((I 58) p)))]) 3 rfl (by rw [hnL]; decide) rfl ?_
              refine w_goto (pc := 51) hC dX11_move_51 (tgt := 32) (by decide) ?_
              refine w_sub [1, 2, 3, 0] (lv2 := [(0, .ref (A 58)), (2, .int (J t)), (3, .int (J ((I 58) p))), (4, .int (J (r + 1)))]) rfl ?_
              refine ih32 (r + 1) s47 ?_ ?_ ?_
              · omega
              · exact mv_dn h47 c35 j1.1 j2
              · omega
        refine w_sub [1, 3, 4, 0] (lv2 := [(0, .ref (A 58)), (2, .int (J t)), (3, .int (J ((I 58) p))), (4, .int (J p))]) rfl ?_
        refine loop32 ((t - p + 6) + 1 : Int).toNat p a58_7 ?_ ?_ ?_
        · omega
        · exact mv_mid c10 i1 i2
        · omega
      · refine w_aload_n (pc := 13) hC dX11_move_13 0 rfl rfl ?_
        refine w_iload (pc := 14) hC dX11_move_14 4 rfl ?_
        refine w_aload_n (pc := 16) hC dX11_move_16 0 rfl rfl ?_
        refine w_iload (pc := 17) hC dX11_move_17 4 rfl ?_
        refine w_iconst (pc := 19) hC dX11_move_19 ?_
        refine w_isub (pc := 20) hC dX11_move_20 ?_
        refine w_ialdV (pc := 21) (g := a58_7) (v := a58_7 (r - 1)) hC dX11_move_21 58 CW_58 (by omega) (Nat.le_of_ble_eq_true rfl) rfl ?_
        refine w_iast (pc := 22) (g := a58_7) (w2 := CW A D T G.2.1 (au I 58 (gu a58_7 r (a58_7 (r - 1)))) F Q P) hC dX11_move_22 58 CW_58 (by omega) (Nat.le_of_ble_eq_true rfl) (CWa_58 au_rp) ?_
        generalize h22 : gu a58_7 r (a58_7 (r - 1)) = s22
        refine w_iinc (pc := 23) hC dX11_move_23 (lv2 := [(4, .int (J (r + (-1)))), (0, .ref (A 58)), (1, .int (J p)), (2, .int (J t)), (3, .int (J ((I 58) p)))]) 4 rfl (by rw [hnL]; decide) rfl ?_
        refine w_goto (pc := 26) hC dX11_move_26 (tgt := 7) (by decide) ?_
        refine w_sub [1, 2, 3, 4, 0] (lv2 := [(0, .ref (A 58)), (1, .int (J p)), (2, .int (J t)), (3, .int (J ((I 58) p))), (4, .int (J (r + (-1))))]) rfl ?_
        refine ih7 (r + (-1)) s22 ?_ ?_ ?_
        · omega
        · exact mv_up h22 i1.1 i2
        · omega
  refine w_weq (CW_cong (au_ms (k := 58) (v := I 58) rfl rfl rfl) rfl rfl) ?_
  refine w_sub [2, 3, 4, 1, 0] (lv2 := [(0, .ref (A 58)), (1, .int (J p)), (2, .int (J t)), (3, .int (J ((I 58) p))), (4, .int (J p))]) rfl ?_
  refine loop7 ((p - t + 6) + 1 : Int).toNat p (I 58) ?_ ?_ ?_
  · omega
  · intro q; rw [if_neg (by omega)]
  · omega
set_option maxRecDepth 100000 in
set_option maxHeartbeats 4000000 in
theorem c_X6_findTruth (l : Launch) (G : GT) (A D : Nat → Nat) (T : Nat) (I : Nat → Int → Int) (F : Nat → Int) (Q : Nat → Nat → Option Nat) (P : va_W) (S : Int → Int)  (hR : RI S) (hL : LRn G.2.1 S I F Q P) : CT l yX6_findTruth cX6_findTruth 6 none 2 0 0 G [.ref (A 1), .ref (A 56)] (CW A D T G.2.1 I F Q P) (fun vo wo => ∃ (b56 : Int → Int), vo = none ∧ wo = CW A D T G.2.1 (au I 56 b56) F Q P ∧ (∀ zq : Int, 0 ≤ zq → zq < S 0 → b56 zq = dg (TB S) zq)) := by
  refine CT_of (own := RX6) rfl rfl (Nat.le_of_ble_eq_true rfl) (fun K hl hnL hC hRT hin => ?_)
  subst hl
  show WW K G 0 0 (CW A D T G.2.1 I F Q P) 0 [(0, .ref (A 1)), (1, .ref (A 56))] []
  have hn := hR.n
  refine w_iconst (pc := 0) hC dX6_findTruth_0 ?_
  refine w_istore_n (pc := 1) hC dX6_findTruth_1 rfl (lv2 := [(2, .int (J 0)), (0, .ref (A 1)), (1, .ref (A 56))]) (by rw [hnL]; decide) rfl ?_
  have loop2 : ∀ (nF : Nat) (a : Int) (a56_2 : Int → Int), (0 ≤ a) → (a ≤ S 0) → (∀ q : Int, 0 ≤ q → q < a → a56_2 (ah S q) = q) → (S 0 - a) < (nF : Int) → WW K G 0 0 (CW A D T G.2.1 (au I 56 a56_2) F Q P) 2 [(0, .ref (A 1)), (1, .ref (A 56)), (2, .int (J a))] [] := by
    intro nF
    induction nF with
    | zero => intro a a56_2 i1 i2 i3 hm2; exact absurd hm2 (by omega)
    | succ nF ih2 =>
      intro a a56_2 i1 i2 i3 hm2
      refine w_iload_n (pc := 2) hC dX6_findTruth_2 2 rfl rfl ?_
      refine w_aload_n (pc := 3) hC dX6_findTruth_3 0 rfl rfl ?_
      refine w_getf (pc := 4) (v := .int (J (S 0))) hC dX6_findTruth_4 fi_X6_9 1 CW_1 (congrArg (fun z : Int => some (Value.int (J z))) (l_n hL)) ?_
      refine w_icmp_ge (pc := 7) (tgt := 73) hC dX6_findTruth_7 (by decide) (by omega) (fun c7 => ?_) (fun c7 => ?_)
      · refine w_vret (pc := 73) hC hRT dX6_findTruth_73 ?_
        refine ⟨a56_2, rfl, rfl, ?_⟩
        · intro zq g1 g2
          obtain ⟨y, y0, y1, y2⟩ := tb_onto S g1 g2
          rw [TB_dg S hn.2 g1 g2, ← y2, tbn_ah S y0 y1]
          exact i3 y y0 (by omega)
      · refine w_iconst (pc := 10) hC dX6_findTruth_10 ?_
        refine w_istore_n (pc := 11) hC dX6_findTruth_11 rfl (lv2 := [(3, .int (J 0)), (0, .ref (A 1)), (1, .ref (A 56)), (2, .int (J a))]) (by rw [hnL]; decide) rfl ?_
        refine w_iconst (pc := 12) hC dX6_findTruth_12 ?_
        refine w_istore (pc := 13) hC dX6_findTruth_13 (lv2 := [(4, .int (J 0)), (3, .int (J 0)), (0, .ref (A 1)), (1, .ref (A 56)), (2, .int (J a))]) (by rw [hnL]; decide) rfl ?_
        have loop15 : ∀ (nF : Nat) (x : Int) (b : Int), (0 ≤ b) → (b ≤ S 0) → (x = cnt (fun b => decide (wk S a < wk S b ∨ wk S b = wk S a ∧ b < a)) b.toNat) → (S 0 - b) < (nF : Int) → WW K G 0 0 (CW A D T G.2.1 (au I 56 a56_2) F Q P) 15 [(0, .ref (A 1)), (1, .ref (A 56)), (2, .int (J a)), (3, .int (J x)), (4, .int (J b))] [] := by
          intro nF
          induction nF with
          | zero => intro x b j1 j2 j3 hm15; exact absurd hm15 (by omega)
          | succ nF ih15 =>
            intro x b j1 j2 j3 hm15
            refine w_iload (pc := 15) hC dX6_findTruth_15 4 rfl ?_
            refine w_aload_n (pc := 17) hC dX6_findTruth_17 0 rfl rfl ?_
            refine w_getf (pc := 18) (v := .int (J (S 0))) hC dX6_findTruth_18 fi_X6_9 1 CW_1 (congrArg (fun z : Int => some (Value.int (J z))) (l_n hL)) ?_
            refine w_icmp_ge (pc := 21) (tgt := 63) hC dX6_findTruth_21 (by decide) (by omega) (fun c21 => ?_) (fun c21 => ?_)
            · have hx : x = ah S a := by rw [j3, show b = S 0 by omega]; rfl
              have ha := ah_lt S i1 (by omega)
              refine w_aload_n (pc := 63) hC dX6_findTruth_63 1 rfl rfl ?_
              refine w_iload_n (pc := 64) hC dX6_findTruth_64 3 rfl rfl ?_
              refine w_iload_n (pc := 65) hC dX6_findTruth_65 2 rfl rfl ?_
              refine w_iast (pc := 66) (g := a56_2) (w2 := CW A D T G.2.1 (au I 56 (gu a56_2 x a)) F Q P) hC dX6_findTruth_66 56 CW_56 (by omega) (Nat.le_of_ble_eq_true rfl) (CWa_56 au_rp) ?_
              generalize h66 : gu a56_2 x a = s66
              refine w_iinc (pc := 67) hC dX6_findTruth_67 (lv2 := [(2, .int (J (a + 1))), (0, .ref (A 1)), (1, .ref (A 56)), (3, .int (J x)), (4, .int (J b))]) 2 rfl (by rw [hnL]; decide) rfl ?_
              refine w_goto (pc := 70) hC dX6_findTruth_70 (tgt := 2) (by decide) ?_
              refine w_sub [1, 2, 0] (lv2 := [(0, .ref (A 1)), (1, .ref (A 56)), (2, .int (J (a + 1)))]) rfl ?_
              refine ih2 (a + 1) s66 ?_ ?_ ?_ ?_
              · first | assumption | omega
              · first | assumption | omega
              · exact tr_put h66 i1 (by omega) j3 i3
              · omega
            · refine w_aload_n (pc := 24) hC dX6_findTruth_24 0 rfl rfl ?_
              refine w_iload (pc := 25) hC dX6_findTruth_25 4 rfl ?_
              refine w_callV (pc := 27) (As := [.int (J b)]) (rest := []) hC dX6_findTruth_27 cv_X6_79 (c_X6_weaker (kl K) G A D T (au I 56 a56_2) F Q P S b (show RI S from by first | assumption | omega) (show LRn G.2.1 S (au I 56 a56_2) F Q P from by exact (LRb_au (by decide) hL)) (show 0 ≤ b ∧ b < S 0 from by first | assumption | omega)) (by decide) ⟨Nat.le_of_ble_eq_true rfl, Nat.le_of_ble_eq_true rfl⟩ (q0 := 1) CW_1 rfl rfl rfl (Nat.le_of_ble_eq_true rfl) rfl (fun vo wo hv => ?_)
              obtain ⟨hv1, hw1⟩ := hv
              rw [hv1, hw1]
              show WW K G 0 0 (CW A D T G.2.1 (au I 56 a56_2) F Q P) 30 [(0, .ref (A 1)), (1, .ref (A 56)), (2, .int (J a)), (3, .int (J x)), (4, .int (J b))] [.int (J (wk S b))]
              have q27_0 := @wk_lt S b (by omega) (by omega)
              have q27_1 := (wk_bd S b (by omega)).1
              refine w_aload_n (pc := 30) hC dX6_findTruth_30 0 rfl rfl ?_
              refine w_iload_n (pc := 31) hC dX6_findTruth_31 2 rfl rfl ?_
              refine w_callV (pc := 32) (As := [.int (J a)]) (rest := [.int (J (wk S b))]) hC dX6_findTruth_32 cv_X6_79 (c_X6_weaker (kl K) G A D T (au I 56 a56_2) F Q P S a (show RI S from by first | assumption | omega) (show LRn G.2.1 S (au I 56 a56_2) F Q P from by exact (LRb_au (by decide) hL)) (show 0 ≤ a ∧ a < S 0 from by first | assumption | omega)) (by decide) ⟨Nat.le_of_ble_eq_true rfl, Nat.le_of_ble_eq_true rfl⟩ (q0 := 1) CW_1 rfl rfl rfl (Nat.le_of_ble_eq_true rfl) rfl (fun vo wo hv => ?_)
              obtain ⟨hv1, hw1⟩ := hv
              rw [hv1, hw1]
              show WW K G 0 0 (CW A D T G.2.1 (au I 56 a56_2) F Q P) 35 [(0, .ref (A 1)), (1, .ref (A 56)), (2, .int (J a)), (3, .int (J x)), (4, .int (J b))] [.int (J (wk S a)), .int (J (wk S b))]
              have q32_0 := @wk_lt S a (by omega) (by omega)
              have q32_1 := (wk_bd S a (by omega)).1
              refine w_isub (pc := 35) hC dX6_findTruth_35 ?_
              refine w_istore (pc := 36) hC dX6_findTruth_36 (lv2 := [(5, .int (J ((wk S b) - (wk S a)))), (0, .ref (A 1)), (1, .ref (A 56)), (2, .int (J a)), (3, .int (J x)), (4, .int (J b))]) (by rw [hnL]; decide) rfl ?_
              refine w_iload (pc := 38) hC dX6_findTruth_38 0 rfl ?_
              refine w_if_gt (pc := 40) (tgt := 54) hC dX6_findTruth_40 (by decide) (by omega) (fun c40 => ?_) (fun c40 => ?_)
              · refine w_iinc (pc := 54) hC dX6_findTruth_54 (lv2 := [(3, .int (J (x + 1))), (5, .int (J ((wk S b) - (wk S a)))), (0, .ref (A 1)), (1, .ref (A 56)), (2, .int (J a)), (4, .int (J b))]) 4 rfl (by rw [hnL]; decide) rfl ?_
                refine w_iinc (pc := 57) hC dX6_findTruth_57 (lv2 := [(4, .int (J (b + 1))), (3, .int (J (x + 1))), (5, .int (J ((wk S b) - (wk S a)))), (0, .ref (A 1)), (1, .ref (A 56)), (2, .int (J a))]) 5 rfl (by rw [hnL]; decide) rfl ?_
                refine w_goto (pc := 60) hC dX6_findTruth_60 (tgt := 15) (by decide) ?_
                refine w_sub [3, 4, 5, 1, 0] (lv2 := [(0, .ref (A 1)), (1, .ref (A 56)), (2, .int (J a)), (3, .int (J (x + 1))), (4, .int (J (b + 1)))]) rfl ?_
                refine ih15 (x + 1) (b + 1) ?_ ?_ ?_ ?_
                · first | assumption | omega
                · first | assumption | omega
                · rw [cnt_s _ j1, j3]; first | rw [if_pos (by simp only [decide_eq_true_eq]; omega)] | rw [if_neg (by simp only [decide_eq_true_eq]; omega)]; omega
                · omega
              · refine w_iload (pc := 43) hC dX6_findTruth_43 0 rfl ?_
                refine w_if_ne (pc := 45) (tgt := 57) hC dX6_findTruth_45 (by decide) (by omega) (fun c45 => ?_) (fun c45 => ?_)
                · refine w_iinc (pc := 57) hC dX6_findTruth_57 (lv2 := [(4, .int (J (b + 1))), (5, .int (J ((wk S b) - (wk S a)))), (0, .ref (A 1)), (1, .ref (A 56)), (2, .int (J a)), (3, .int (J x))]) 5 rfl (by rw [hnL]; decide) rfl ?_
                  refine w_goto (pc := 60) hC dX6_findTruth_60 (tgt := 15) (by decide) ?_
                  refine w_sub [2, 3, 4, 5, 0] (lv2 := [(0, .ref (A 1)), (1, .ref (A 56)), (2, .int (J a)), (3, .int (J x)), (4, .int (J (b + 1)))]) rfl ?_
                  refine ih15 x (b + 1) ?_ ?_ ?_ ?_
                  · first | assumption | omega
                  · first | assumption | omega
                  · rw [cnt_s _ j1, j3]; first | rw [if_pos (by simp only [decide_eq_true_eq]; omega)] | rw [if_neg (by simp only [decide_eq_true_eq]; omega)]; omega
                  · omega
                · refine w_iload (pc := 48) hC dX6_findTruth_48 5 rfl ?_
                  refine w_iload_n (pc := 50) hC dX6_findTruth_50 3 rfl rfl ?_
                  refine w_icmp_ge (pc := 51) (tgt := 57) hC dX6_findTruth_51 (by decide) (by omega) (fun c51 => ?_) (fun c51 => ?_)
                  · refine w_iinc (pc := 57) hC dX6_findTruth_57 (lv2 := [(4, .int (J (b + 1))), (5, .int (J ((wk S b) - (wk S a)))), (0, .ref (A 1)), (1, .ref (A 56)), (2, .int (J a)), (3, .int (J x))]) 5 rfl (by rw [hnL]; decide) rfl ?_
                    refine w_goto (pc := 60) hC dX6_findTruth_60 (tgt := 15) (by decide) ?_
                    refine w_sub [2, 3, 4, 5, 0] (lv2 := [(0, .ref (A 1)), (1, .ref (A 56)), (2, .int (J a)), (3, .int (J x)), (4, .int (J (b + 1)))]) rfl ?_
                    refine ih15 x (b + 1) ?_ ?_ ?_ ?_
                    · first | assumption | omega
                    · first | assumption | omega
                    · rw [cnt_s _ j1, j3]; first | rw [if_pos (by simp only [decide_eq_true_eq]; omega)] | rw [if_neg (by simp only [decide_eq_true_eq]; omega)]; omega
                    · omega
                  · refine w_iinc (pc := 54) hC dX6_findTruth_54 (lv2 := [(3, .int (J (x + 1))), (5, .int (J ((wk S b) - (wk S a)))), (0, .ref (A 1)), (1, .ref (A 56)), (2, .int (J a)), (4, .int (J b))]) 4 rfl (by rw [hnL]; decide) rfl ?_
                    refine w_iinc (pc := 57) hC dX6_findTruth_57 (lv2 := [(4, .int (J (b + 1))), (3, .int (J (x + 1))), (5, .int (J ((wk S b) - (wk S a)))), (0, .ref (A 1)), (1, .ref (A 56)), (2, .int (J a))]) 5 rfl (by rw [hnL]; decide) rfl ?_
                    refine w_goto (pc := 60) hC dX6_findTruth_60 (tgt := 15) (by decide) ?_
                    refine w_sub [3, 4, 5, 1, 0] (lv2 := [(0, .ref (A 1)), (1, .ref (A 56)), (2, .int (J a)), (3, .int (J (x + 1))), (4, .int (J (b + 1)))]) rfl ?_
                    refine ih15 (x + 1) (b + 1) ?_ ?_ ?_ ?_
                    · first | assumption | omega
                    · first | assumption | omega
                    · rw [cnt_s _ j1, j3]; first | rw [if_pos (by simp only [decide_eq_true_eq]; omega)] | rw [if_neg (by simp only [decide_eq_true_eq]; omega)]; omega
                    · omega
        refine w_sub [2, 3, 4, 1, 0] (lv2 := [(0, .ref (A 1)), (1, .ref (A 56)), (2, .int (J a)), (3, .int (J 0)), (4, .int (J 0))]) rfl ?_
        refine loop15 ((S 0 - 0) + 1 : Int).toNat 0 0 ?_ ?_ ?_ ?_
        · first | assumption | omega
        · first | assumption | omega
        · rfl
        · omega
  refine w_weq (CW_cong (au_ms (k := 56) (v := I 56) rfl rfl rfl) rfl rfl) ?_
  refine w_sub [1, 2, 0] (lv2 := [(0, .ref (A 1)), (1, .ref (A 56)), (2, .int (J 0))]) rfl ?_
  refine loop2 ((S 0 - 0) + 1 : Int).toNat 0 (I 56) ?_ ?_ ?_ ?_
  · first | assumption | omega
  · first | assumption | omega
  · intro q g1 g2; omega
  · omega
set_option maxRecDepth 100000 in
set_option maxHeartbeats 4000000 in
theorem c_X6_hasRungsOfRounds (l : Launch) (G : GT) (A D : Nat → Nat) (T : Nat) (I : Nat → Int → Int) (F : Nat → Int) (Q : Nat → Nat → Option Nat) (P : va_W) (S : Int → Int)  (hR : RI S) (hL : LRn G.2.1 S I F Q P) : CT l yX6_hasRungsOfRounds cX6_hasRungsOfRounds 2 (some .boolean) 0 0 0 G [.ref (A 1)] (CW A D T G.2.1 I F Q P) (fun vo wo => vo = some (.int (J (bI (RFN S (S 3).toNat = 1)))) ∧ wo = CW A D T G.2.1 I F Q P) := by
  refine CT_of (own := RX6) rfl rfl (Nat.le_of_ble_eq_true rfl) (fun K hl hnL hC hRT hin => ?_)
  subst hl
  show WW K G 0 0 (CW A D T G.2.1 I F Q P) 0 [(0, .ref (A 1))] []
  have hn := hR.n
  have hrd := hR.rd
  refine w_iconst (pc := 0) hC dX6_hasRungsOfRounds_0 ?_
  refine w_istore_n (pc := 1) hC dX6_hasRungsOfRounds_1 rfl (lv2 := [(1, .int (J 0)), (0, .ref (A 1))]) (by rw [hnL]; decide) rfl ?_
  have loop2 : ∀ (nF : Nat) (k : Int), (0 ≤ k) → (k ≤ S 3) → (RFN S k.toNat = 1) → (S 3 - k) < (nF : Int) → WW K G 0 0 (CW A D T G.2.1 I F Q P) 2 [(0, .ref (A 1)), (1, .int (J k))] [] := by
    intro nF
    induction nF with
    | zero => intro k i1 i2 i3 hm2; exact absurd hm2 (by omega)
    | succ nF ih2 =>
      intro k i1 i2 i3 hm2
      refine w_iload_n (pc := 2) hC dX6_hasRungsOfRounds_2 1 rfl rfl ?_
      refine w_aload_n (pc := 3) hC dX6_hasRungsOfRounds_3 0 rfl rfl ?_
      refine w_getf (pc := 4) (v := .int (J (S 3))) hC dX6_hasRungsOfRounds_4 fi_X6_61 1 CW_1 (congrArg (fun z : Int => some (Value.int (J z))) (l_rd hL)) ?_
      refine w_icmp_ge (pc := 7) (tgt := 31) hC dX6_hasRungsOfRounds_7 (by decide) (by omega) (fun c7 => ?_) (fun c7 => ?_)
      · refine w_iconst (pc := 31) hC dX6_hasRungsOfRounds_31 ?_
        refine w_iret (pc := 32) hC hRT dX6_hasRungsOfRounds_32 rfl ?_
        refine ⟨retI (by exact (bI_t (by rw [← show k = S 3 by omega]; exact i3)).symm), rfl⟩
      · refine w_aload_n (pc := 10) hC dX6_hasRungsOfRounds_10 0 rfl rfl ?_
        refine w_getf (pc := 11) (v := .ref (A 15)) hC dX6_hasRungsOfRounds_11 fi_X6_58 1 CW_1 rfl ?_
        refine w_iload_n (pc := 14) hC dX6_hasRungsOfRounds_14 1 rfl rfl ?_
        have hro := hR.ro k i1 (by omega)
        refine w_ialdV (pc := 15) (g := (I 15)) (v := S (893 + 2 * k + 1)) hC dX6_hasRungsOfRounds_15 15 CW_15 (by omega) (Nat.le_of_ble_eq_true rfl) (l_lo hL (by omega) (by omega)) ?_
        refine w_aload_n (pc := 16) hC dX6_hasRungsOfRounds_16 0 rfl rfl ?_
        refine w_getf (pc := 17) (v := .int (J (S 0))) hC dX6_hasRungsOfRounds_17 fi_X6_9 1 CW_1 (congrArg (fun z : Int => some (Value.int (J z))) (l_n hL)) ?_
        refine w_icmp_lt (pc := 20) (tgt := 25) hC dX6_hasRungsOfRounds_20 (by decide) (by omega) (fun c20 => ?_) (fun c20 => ?_)
        · refine w_iinc (pc := 25) hC dX6_hasRungsOfRounds_25 (lv2 := [(1, .int (J (k + 1))), (0, .ref (A 1))]) 1 rfl (by rw [hnL]; decide) rfl ?_
          refine w_goto (pc := 28) hC dX6_hasRungsOfRounds_28 (tgt := 2) (by decide) ?_
          refine w_sub [1, 0] (lv2 := [(0, .ref (A 1)), (1, .int (J (k + 1)))]) rfl ?_
          refine ih2 (k + 1) ?_ ?_ ?_ ?_
          · first | assumption | omega
          · first | assumption | omega
          · rw [RFN_s S i1, if_neg (by omega)]; exact i3
          · omega
        · refine w_iconst (pc := 23) hC dX6_hasRungsOfRounds_23 ?_
          refine w_iret (pc := 24) hC hRT dX6_hasRungsOfRounds_24 rfl ?_
          refine ⟨retI (by exact (bI_f (RFN_0 i1 (by omega) _ (by omega))).symm), rfl⟩
  refine w_sub [1, 0] (lv2 := [(0, .ref (A 1)), (1, .int (J 0))]) rfl ?_
  refine loop2 ((S 3 - 0) + 1 : Int).toNat 0 ?_ ?_ ?_ ?_
  · first | assumption | omega
  · first | assumption | omega
  · rfl
  · omega
set_option maxRecDepth 100000 in
set_option maxHeartbeats 4000000 in
theorem c_X6_playRounds (l : Launch) (G : GT) (A D : Nat → Nat) (T : Nat) (I : Nat → Int → Int) (F : Nat → Int) (Q : Nat → Nat → Option Nat) (P : va_W) (S : Int → Int) (o : Int)  (hR : RI S) (hL : LRn G.2.1 S I F Q P) (hro : ∀ k : Int, 0 ≤ k → k < S 3 → S (893 + 2 * k + 1) < S 0) (hB : ∀ r : Int, 0 ≤ r → r < S 0 → (I 58) r = dg o r ∧ dg o r < S 0) : CT l yX6_playRounds cX6_playRounds 3 none 1 0 0 G [.ref (A 1), .ref (A 58)] (CW A D T G.2.1 I F Q P) (fun vo wo => ∃ (b58 : Int → Int), vo = none ∧ wo = CW A D T G.2.1 (au I 58 b58) F Q P ∧ (∀ zq : Int, 0 ≤ zq → zq < S 0 → b58 zq = dg (SRT S o (S 3).toNat) zq ∧ dg (SRT S o (S 3).toNat) zq < S 0)) := by
  refine CT_of (own := RX6) rfl rfl (Nat.le_of_ble_eq_true rfl) (fun K hl hnL hC hRT hin => ?_)
  subst hl
  show WW K G 0 0 (CW A D T G.2.1 I F Q P) 0 [(0, .ref (A 1)), (1, .ref (A 58))] []
  have hn := hR.n
  have hrd := hR.rd
  refine w_iconst (pc := 0) hC dX6_playRounds_0 ?_
  refine w_istore_n (pc := 1) hC dX6_playRounds_1 rfl (lv2 := [(2, .int (J 0)), (0, .ref (A 1)), (1, .ref (A 58))]) (by rw [hnL]; decide) rfl ?_
  have loop2 : ∀ (nF : Nat) (k : Int) (a58_2 : Int → Int), (0 ≤ k) → (k ≤ S 3) → (∀ q : Int, 0 ≤ q → q < S 0 → a58_2 q = dg (SRT S o k.toNat) q ∧ dg (SRT S o k.toNat) q < S 0) → (S 3 - k) < (nF : Int) → WW K G 0 0 (CW A D T G.2.1 (au I 58 a58_2) F Q P) 2 [(0, .ref (A 1)), (1, .ref (A 58)), (2, .int (J k))] [] := by
    intro nF
    induction nF with
    | zero => intro k a58_2 i1 i2 i3 hm2; exact absurd hm2 (by omega)
    | succ nF ih2 =>
      intro k a58_2 i1 i2 i3 hm2
      refine w_iload_n (pc := 2) hC dX6_playRounds_2 2 rfl rfl ?_
      refine w_aload_n (pc := 3) hC dX6_playRounds_3 0 rfl rfl ?_
      refine w_getf (pc := 4) (v := .int (J (S 3))) hC dX6_playRounds_4 fi_X6_61 1 CW_1 (congrArg (fun z : Int => some (Value.int (J z))) (l_rd hL)) ?_
      refine w_icmp_ge (pc := 7) (tgt := 55) hC dX6_playRounds_7 (by decide) (by omega) (fun c7 => ?_) (fun c7 => ?_)
      · refine w_vret (pc := 55) hC hRT dX6_playRounds_55 ?_
        refine ⟨a58_2, rfl, rfl, ?_⟩
        · intro zq z1 z2
          rw [← show k = S 3 by omega]
          exact i3 zq z1 z2
      · obtain ⟨⟨g1, g2⟩, g4⟩ := hR.ro k i1 (by omega)
        have g3 := hro k i1 (by omega)
        have gU := i3 _ g1 (by omega)
        have gL := i3 (S (893 + 2 * k + 1)) (by omega) g3
        have gU0 := dg_bd (SRT S o k.toNat) (S (893 + 2 * k))
        have gL0 := dg_bd (SRT S o k.toNat) (S (893 + 2 * k + 1))
        refine w_aload_n (pc := 10) hC dX6_playRounds_10 0 rfl rfl ?_
        refine w_aload_n (pc := 11) hC dX6_playRounds_11 1 rfl rfl ?_
        refine w_aload_n (pc := 12) hC dX6_playRounds_12 0 rfl rfl ?_
        refine w_getf (pc := 13) (v := .ref (A 15)) hC dX6_playRounds_13 fi_X6_58 1 CW_1 rfl ?_
        refine w_iload_n (pc := 16) hC dX6_playRounds_16 2 rfl rfl ?_
        refine w_ialdV (pc := 17) (g := (I 15)) (v := S (893 + 2 * k + 1)) hC dX6_playRounds_17 15 CW_15 (by omega) (Nat.le_of_ble_eq_true rfl) (l_lo hL (by omega) (by omega)) ?_
        refine w_ialdV (pc := 18) (g := a58_2) (v := dg (SRT S o k.toNat) (S (893 + 2 * k + 1))) hC dX6_playRounds_18 58 CW_58 (by omega) (Nat.le_of_ble_eq_true rfl) (i3 _ (by omega) (by omega)).1 ?_
        refine w_aload_n (pc := 19) hC dX6_playRounds_19 1 rfl rfl ?_
        refine w_aload_n (pc := 20) hC dX6_playRounds_20 0 rfl rfl ?_
        refine w_getf (pc := 21) (v := .ref (A 14)) hC dX6_playRounds_21 fi_X6_55 1 CW_1 rfl ?_
        refine w_iload_n (pc := 24) hC dX6_playRounds_24 2 rfl rfl ?_
        refine w_ialdV (pc := 25) (g := (I 14)) (v := S (893 + 2 * k)) hC dX6_playRounds_25 14 CW_14 (by omega) (Nat.le_of_ble_eq_true rfl) (l_up hL (by omega) (by omega)) ?_
        refine w_ialdV (pc := 26) (g := a58_2) (v := dg (SRT S o k.toNat) (S (893 + 2 * k))) hC dX6_playRounds_26 58 CW_58 (by omega) (Nat.le_of_ble_eq_true rfl) (i3 _ (by omega) (by omega)).1 ?_
        refine w_callV (pc := 27) (As := [.int (J (dg (SRT S o k.toNat) (S (893 + 2 * k + 1)))), .int (J (dg (SRT S o k.toNat) (S (893 + 2 * k))))]) (rest := []) hC dX6_playRounds_27 cv_X6_83 (c_X6_isStronger (kl K) G A D T (au I 58 a58_2) F Q P S (dg (SRT S o k.toNat) (S (893 + 2 * k + 1))) (dg (SRT S o k.toNat) (S (893 + 2 * k))) (show RI S from by first | assumption | omega) (show LRn G.2.1 S (au I 58 a58_2) F Q P from by exact (LRb_au (by decide) hL)) (show 0 ≤ (dg (SRT S o k.toNat) (S (893 + 2 * k + 1))) ∧ (dg (SRT S o k.toNat) (S (893 + 2 * k + 1))) < S 0 from by first | assumption | omega) (show 0 ≤ (dg (SRT S o k.toNat) (S (893 + 2 * k))) ∧ (dg (SRT S o k.toNat) (S (893 + 2 * k))) < S 0 from by first | assumption | omega)) (by decide) ⟨Nat.le_of_ble_eq_true rfl, Nat.le_of_ble_eq_true rfl⟩ (q0 := 1) CW_1 rfl rfl rfl (Nat.le_of_ble_eq_true rfl) rfl (fun vo wo hv => ?_)
        obtain ⟨hv1, hw1⟩ := hv
        rw [hv1, hw1]
        show WW K G 0 0 (CW A D T G.2.1 (au I 58 a58_2) F Q P) 30 [(0, .ref (A 1)), (1, .ref (A 58)), (2, .int (J k))] [.int (J (bI (50 < S (130 + 6 * (dg (SRT S o k.toNat) (S (893 + 2 * k + 1))) + (dg (SRT S o k.toNat) (S (893 + 2 * k)))))))]
        refine w_if_eq_b (pc := 30) (tgt := 49) hC dX6_playRounds_30 (by decide) (fun c30 => ?_) (fun c30 => ?_)
        · refine w_iinc (pc := 49) hC dX6_playRounds_49 (lv2 := [(2, .int (J (k + 1))), (0, .ref (A 1)), (1, .ref (A 58))]) 2 rfl (by rw [hnL]; decide) rfl ?_
          refine w_goto (pc := 52) hC dX6_playRounds_52 (tgt := 2) (by decide) ?_
          refine w_sub [1, 2, 0] (lv2 := [(0, .ref (A 1)), (1, .ref (A 58)), (2, .int (J (k + 1)))]) rfl ?_
          refine ih2 (k + 1) a58_2 ?_ ?_ ?_ ?_
          · first | assumption | omega
          · first | assumption | omega
          · rw [SRT_s S o i1]; first | exact so_sw hn g1 g2 g3 c30 i3 r46 | exact so_no c30 i3
          · omega
        · refine w_aload_n (pc := 33) hC dX6_playRounds_33 1 rfl rfl ?_
          refine w_aload_n (pc := 34) hC dX6_playRounds_34 0 rfl rfl ?_
          refine w_getf (pc := 35) (v := .ref (A 14)) hC dX6_playRounds_35 fi_X6_55 1 CW_1 rfl ?_
          refine w_iload_n (pc := 38) hC dX6_playRounds_38 2 rfl rfl ?_
          refine w_ialdV (pc := 39) (g := (I 14)) (v := S (893 + 2 * k)) hC dX6_playRounds_39 14 CW_14 (by omega) (Nat.le_of_ble_eq_true rfl) (l_up hL (by omega) (by omega)) ?_
          refine w_aload_n (pc := 40) hC dX6_playRounds_40 0 rfl rfl ?_
          refine w_getf (pc := 41) (v := .ref (A 15)) hC dX6_playRounds_41 fi_X6_58 1 CW_1 rfl ?_
          refine w_iload_n (pc := 44) hC dX6_playRounds_44 2 rfl rfl ?_
          refine w_ialdV (pc := 45) (g := (I 15)) (v := S (893 + 2 * k + 1)) hC dX6_playRounds_45 15 CW_15 (by omega) (Nat.le_of_ble_eq_true rfl) (l_lo hL (by omega) (by omega)) ?_
          refine w_callSN (pc := 46) (As := [.ref (A 58), .int (J (S (893 + 2 * k))), .int (J (S (893 + 2 * k + 1)))]) (rest := []) hC dX6_playRounds_46 sn_X6_102 (c_X11_swap_v58 (kl K) G A D T (au I 58 a58_2) F Q P (S (893 + 2 * k)) (S (893 + 2 * k + 1)) (show 0 ≤ (S (893 + 2 * k)) ∧ (S (893 + 2 * k)) < 6 from by first | assumption | omega) (show 0 ≤ (S (893 + 2 * k + 1)) ∧ (S (893 + 2 * k + 1)) < 6 from by first | assumption | omega)) (by decide) ⟨Nat.le_of_ble_eq_true rfl, Nat.le_of_ble_eq_true rfl⟩ rfl (Nat.le_of_ble_eq_true rfl) rfl (fun vo wo hv => ?_)
          obtain ⟨b58_46, hv1, hw1, r46⟩ := hv
          rw [hv1, hw1]
          refine w_weq (CW_cong (au_th rfl au_rp) rfl rfl) ?_
          show WW K G 0 0 (CW A D T G.2.1 (au I 58 b58_46) F Q P) 49 [(0, .ref (A 1)), (1, .ref (A 58)), (2, .int (J k))] []
          have r46 : ∀ zq : Int, b58_46 zq = a58_2 (swi (S (893 + 2 * k)) (S (893 + 2 * k + 1)) zq) := r46
          refine w_iinc (pc := 49) hC dX6_playRounds_49 (lv2 := [(2, .int (J (k + 1))), (0, .ref (A 1)), (1, .ref (A 58))]) 2 rfl (by rw [hnL]; decide) rfl ?_
          refine w_goto (pc := 52) hC dX6_playRounds_52 (tgt := 2) (by decide) ?_
          refine w_sub [1, 2, 0] (lv2 := [(0, .ref (A 1)), (1, .ref (A 58)), (2, .int (J (k + 1)))]) rfl ?_
          refine ih2 (k + 1) b58_46 ?_ ?_ ?_ ?_
          · first | assumption | omega
          · first | assumption | omega
          · rw [SRT_s S o i1]; first | exact so_sw hn g1 g2 g3 c30 i3 r46 | exact so_no c30 i3
          · omega
  refine w_weq (CW_cong (au_ms (k := 58) (v := I 58) rfl rfl rfl) rfl rfl) ?_
  refine w_sub [1, 2, 0] (lv2 := [(0, .ref (A 1)), (1, .ref (A 58)), (2, .int (J 0))]) rfl ?_
  refine loop2 ((S 3 - 0) + 1 : Int).toNat 0 (I 58) ?_ ?_ ?_ ?_
  · first | assumption | omega
  · first | assumption | omega
  · exact hB
  · omega
set_option maxRecDepth 100000 in
set_option maxHeartbeats 4000000 in
theorem c_X6_isSettled (l : Launch) (G : GT) (A D : Nat → Nat) (T : Nat) (I : Nat → Int → Int) (F : Nat → Int) (Q : Nat → Nat → Option Nat) (P : va_W) (S : Int → Int) (o : Int)  (hR : RI S) (hL : LRn G.2.1 S I F Q P) (hB : ∀ r : Int, 0 ≤ r → r < S 0 → (I 58) r = dg o r ∧ dg o r < S 0) : CT l yX6_isSettled cX6_isSettled 3 (some .boolean) 1 0 0 G [.ref (A 1), .ref (A 58)] (CW A D T G.2.1 I F Q P) (fun vo wo => vo = some (.int (J (bI (SOK S o (S 0 - 1).toNat = 1)))) ∧ wo = CW A D T G.2.1 I F Q P) := by
  refine CT_of (own := RX6) rfl rfl (Nat.le_of_ble_eq_true rfl) (fun K hl hnL hC hRT hin => ?_)
  subst hl
  show WW K G 0 0 (CW A D T G.2.1 I F Q P) 0 [(0, .ref (A 1)), (1, .ref (A 58))] []
  have hn := hR.n
  refine w_iconst (pc := 0) hC dX6_isSettled_0 ?_
  refine w_istore_n (pc := 1) hC dX6_isSettled_1 rfl (lv2 := [(2, .int (J 1)), (0, .ref (A 1)), (1, .ref (A 58))]) (by rw [hnL]; decide) rfl ?_
  have loop2 : ∀ (nF : Nat) (r : Int), (1 ≤ r) → (r ≤ S 0 ∨ r = 1) → (SOK S o (r - 1).toNat = 1) → (S 0 + 1 - r) < (nF : Int) → WW K G 0 0 (CW A D T G.2.1 I F Q P) 2 [(0, .ref (A 1)), (1, .ref (A 58)), (2, .int (J r))] [] := by
    intro nF
    induction nF with
    | zero => intro r i1 i2 i3 hm2; exact absurd hm2 (by omega)
    | succ nF ih2 =>
      intro r i1 i2 i3 hm2
      refine w_iload_n (pc := 2) hC dX6_isSettled_2 2 rfl rfl ?_
      refine w_aload_n (pc := 3) hC dX6_isSettled_3 0 rfl rfl ?_
      refine w_getf (pc := 4) (v := .int (J (S 0))) hC dX6_isSettled_4 fi_X6_9 1 CW_1 (congrArg (fun z : Int => some (Value.int (J z))) (l_n hL)) ?_
      refine w_icmp_ge (pc := 7) (tgt := 33) hC dX6_isSettled_7 (by decide) (by omega) (fun c7 => ?_) (fun c7 => ?_)
      · refine w_iconst (pc := 33) hC dX6_isSettled_33 ?_
        refine w_iret (pc := 34) hC hRT dX6_isSettled_34 rfl ?_
        refine ⟨retI (by exact (bI_t (by rw [show (S 0 - 1).toNat = (r - 1).toNat by omega]; exact i3)).symm), rfl⟩
      · have g1 := hB r (by omega) (by omega)
        have g2 := hB (r - 1) (by omega) (by omega)
        have g3 := dg_bd o r
        have g4 := dg_bd o (r - 1)
        refine w_aload_n (pc := 10) hC dX6_isSettled_10 0 rfl rfl ?_
        refine w_aload_n (pc := 11) hC dX6_isSettled_11 1 rfl rfl ?_
        refine w_iload_n (pc := 12) hC dX6_isSettled_12 2 rfl rfl ?_
        refine w_ialdV (pc := 13) (g := (I 58)) (v := dg o r) hC dX6_isSettled_13 58 CW_58 (by omega) (Nat.le_of_ble_eq_true rfl) (hB _ (by omega) (by omega)).1 ?_
        refine w_aload_n (pc := 14) hC dX6_isSettled_14 1 rfl rfl ?_
        refine w_iload_n (pc := 15) hC dX6_isSettled_15 2 rfl rfl ?_
        refine w_iconst (pc := 16) hC dX6_isSettled_16 ?_
        refine w_isub (pc := 17) hC dX6_isSettled_17 ?_
        refine w_ialdV (pc := 18) (g := (I 58)) (v := dg o (r - 1)) hC dX6_isSettled_18 58 CW_58 (by omega) (Nat.le_of_ble_eq_true rfl) (hB _ (by omega) (by omega)).1 ?_
        refine w_callV (pc := 19) (As := [.int (J (dg o r)), .int (J (dg o (r - 1)))]) (rest := []) hC dX6_isSettled_19 cv_X6_83 (c_X6_isStronger (kl K) G A D T I F Q P S (dg o r) (dg o (r - 1)) (show RI S from by first | assumption | omega) (show LRn G.2.1 S I F Q P from by exact hL) (show 0 ≤ (dg o r) ∧ (dg o r) < S 0 from by first | assumption | omega) (show 0 ≤ (dg o (r - 1)) ∧ (dg o (r - 1)) < S 0 from by first | assumption | omega)) (by decide) ⟨Nat.le_of_ble_eq_true rfl, Nat.le_of_ble_eq_true rfl⟩ (q0 := 1) CW_1 rfl rfl rfl (Nat.le_of_ble_eq_true rfl) rfl (fun vo wo hv => ?_)
        obtain ⟨hv1, hw1⟩ := hv
        rw [hv1, hw1]
        show WW K G 0 0 (CW A D T G.2.1 I F Q P) 22 [(0, .ref (A 1)), (1, .ref (A 58)), (2, .int (J r))] [.int (J (bI (50 < S (130 + 6 * (dg o r) + (dg o (r - 1))))))]
        refine w_if_eq_b (pc := 22) (tgt := 27) hC dX6_isSettled_22 (by decide) (fun c22 => ?_) (fun c22 => ?_)
        · refine w_iinc (pc := 27) hC dX6_isSettled_27 (lv2 := [(2, .int (J (r + 1))), (0, .ref (A 1)), (1, .ref (A 58))]) 2 rfl (by rw [hnL]; decide) rfl ?_
          refine w_goto (pc := 30) hC dX6_isSettled_30 (tgt := 2) (by decide) ?_
          refine w_sub [1, 2, 0] (lv2 := [(0, .ref (A 1)), (1, .ref (A 58)), (2, .int (J (r + 1)))]) rfl ?_
          refine ih2 (r + 1) ?_ ?_ ?_ ?_
          · first | assumption | omega
          · first | assumption | omega
          · rw [show r + 1 - 1 = r by omega, SOK_s S o i1, if_pos ⟨i3, c22⟩]
          · omega
        · refine w_iconst (pc := 25) hC dX6_isSettled_25 ?_
          refine w_iret (pc := 26) hC hRT dX6_isSettled_26 rfl ?_
          refine ⟨retI (by exact (bI_f (SOK_0s (k := r.toNat) (by omega) (by rw [SOK_s S o i1, if_neg (fun h9 => h9.2 c22)]; decide))).symm), rfl⟩
  refine w_sub [1, 2, 0] (lv2 := [(0, .ref (A 1)), (1, .ref (A 58)), (2, .int (J 1))]) rfl ?_
  refine loop2 ((S 0 + 1 - 1) + 1 : Int).toNat 1 ?_ ?_ ?_ ?_
  · first | assumption | omega
  · first | assumption | omega
  · rfl
  · omega
set_option maxRecDepth 100000 in
set_option maxHeartbeats 4000000 in
theorem c_X6_wonMore (l : Launch) (G : GT) (A D : Nat → Nat) (T : Nat) (I : Nat → Int → Int) (F : Nat → Int) (Q : Nat → Nat → Option Nat) (P : va_W) (S : Int → Int) (a : Int) (b : Int) (hR : RI S) (hL : LRn G.2.1 S I F Q P) (ha : 0 ≤ a ∧ a < S 0) (hb : 0 ≤ b ∧ b < S 0) : CT l yX6_wonMore cX6_wonMore 3 (some .boolean) 0 0 0 G [.ref (A 1), .int (J a), .int (J b)] (CW A D T G.2.1 I F Q P) (fun vo wo => vo = some (.int (J (bI (S (929 + 6 * b + a) < S (929 + 6 * a + b))))) ∧ wo = CW A D T G.2.1 I F Q P) := by
  refine CT_of (own := RX6) rfl rfl (Nat.le_of_ble_eq_true rfl) (fun K hl hnL hC hRT hin => ?_)
  subst hl
  show WW K G 0 0 (CW A D T G.2.1 I F Q P) 0 [(0, .ref (A 1)), (1, .int (J a)), (2, .int (J b))] []
  have hn := hR.n
  have g1 := hR.pa (929 + 6 * a + b) (by omega) (by omega)
  have g2 := hR.pa (929 + 6 * b + a) (by omega) (by omega)
  refine w_aload_n (pc := 0) hC dX6_wonMore_0 0 rfl rfl ?_
  refine w_getf (pc := 1) (v := .ref (A 16)) hC dX6_wonMore_1 fi_X6_64 1 CW_1 rfl ?_
  refine w_iload_n (pc := 4) hC dX6_wonMore_4 1 rfl rfl ?_
  refine w_aaldS (t0 := 6) (q := A (17 + (a).toNat)) hC dX6_wonMore_5 16 CW_16 rfl rfl (by omega) (Nat.le_of_ble_eq_true rfl) (rw6_at (by omega)) ?_
  refine w_iload_n (pc := 6) hC dX6_wonMore_6 2 rfl rfl ?_
  refine w_ialdV (pc := 7) (v := S (929 + 6 * a + b)) hC dX6_wonMore_7 (17 + (a).toNat) (CW_pa (by omega) (by omega)) (by omega) (Nat.le_of_ble_eq_true rfl) (l_pa hL (by omega) (by omega) (by omega) (by omega)) ?_
  refine w_aload_n (pc := 8) hC dX6_wonMore_8 0 rfl rfl ?_
  refine w_getf (pc := 9) (v := .ref (A 16)) hC dX6_wonMore_9 fi_X6_64 1 CW_1 rfl ?_
  refine w_iload_n (pc := 12) hC dX6_wonMore_12 2 rfl rfl ?_
  refine w_aaldS (t0 := 6) (q := A (17 + (b).toNat)) hC dX6_wonMore_13 16 CW_16 rfl rfl (by omega) (Nat.le_of_ble_eq_true rfl) (rw6_at (by omega)) ?_
  refine w_iload_n (pc := 14) hC dX6_wonMore_14 1 rfl rfl ?_
  refine w_ialdV (pc := 15) (v := S (929 + 6 * b + a)) hC dX6_wonMore_15 (17 + (b).toNat) (CW_pa (by omega) (by omega)) (by omega) (Nat.le_of_ble_eq_true rfl) (l_pa hL (by omega) (by omega) (by omega) (by omega)) ?_
  refine w_icmp_le (pc := 16) (tgt := 23) hC dX6_wonMore_16 (by decide) (by omega) (fun c16 => ?_) (fun c16 => ?_)
  · refine w_iconst (pc := 23) hC dX6_wonMore_23 ?_
    refine w_iret (pc := 24) hC hRT dX6_wonMore_24 rfl ?_
    refine ⟨retI (by first | rfl | exact (bI_t (by omega)).symm | exact (bI_f (by omega)).symm | omega), rfl⟩
  · refine w_iconst (pc := 19) hC dX6_wonMore_19 ?_
    refine w_goto (pc := 20) hC dX6_wonMore_20 (tgt := 24) (by decide) ?_
    refine w_iret (pc := 24) hC hRT dX6_wonMore_24 rfl ?_
    refine ⟨retI (by first | rfl | exact (bI_t (by omega)).symm | exact (bI_f (by omega)).symm | omega), rfl⟩
set_option maxRecDepth 100000 in
set_option maxHeartbeats 4000000 in
theorem c_X6_threes (l : Launch) (G : GT) (A D : Nat → Nat) (T : Nat) (I : Nat → Int → Int) (F : Nat → Int) (Q : Nat → Nat → Option Nat) (P : va_W) (S : Int → Int)  (hR : RI S) (hL : LRn G.2.1 S I F Q P) : CT l yX6_threes cX6_threes 5 (some .int) 1 0 0 G [.ref (A 1)] (CW A D T G.2.1 I F Q P) (fun vo wo => vo = some (.int (J (TRI S))) ∧ wo = CW A D T G.2.1 I F Q P) := by
  refine CT_of (own := RX6) rfl rfl (Nat.le_of_ble_eq_true rfl) (fun K hl hnL hC hRT hin => ?_)
  subst hl
  show WW K G 0 0 (CW A D T G.2.1 I F Q P) 0 [(0, .ref (A 1))] []
  have hn := hR.n
  refine w_iconst (pc := 0) hC dX6_threes_0 ?_
  refine w_istore_n (pc := 1) hC dX6_threes_1 rfl (lv2 := [(1, .int (J 0)), (0, .ref (A 1))]) (by rw [hnL]; decide) rfl ?_
  refine w_iconst (pc := 2) hC dX6_threes_2 ?_
  refine w_istore_n (pc := 3) hC dX6_threes_3 rfl (lv2 := [(2, .int (J 0)), (1, .int (J 0)), (0, .ref (A 1))]) (by rw [hnL]; decide) rfl ?_
  have loop4 : ∀ (nF : Nat) (x : Int) (a : Int), (0 ≤ a) → (a ≤ S 0) → (x = rs (fun i => rs (fun j => rs (fun k => tri S i j k) (i + 1) (S 0)) (i + 1) (S 0)) 0 a) → (S 0 - a) < (nF : Int) → WW K G 0 0 (CW A D T G.2.1 I F Q P) 4 [(0, .ref (A 1)), (1, .int (J x)), (2, .int (J a))] [] := by
    intro nF
    induction nF with
    | zero => intro x a i1 i2 i3 hm4; exact absurd hm4 (by omega)
    | succ nF ih4 =>
      intro x a i1 i2 i3 hm4
      refine w_iload_n (pc := 4) hC dX6_threes_4 2 rfl rfl ?_
      refine w_aload_n (pc := 5) hC dX6_threes_5 0 rfl rfl ?_
      refine w_getf (pc := 6) (v := .int (J (S 0))) hC dX6_threes_6 fi_X6_9 1 CW_1 (congrArg (fun z : Int => some (Value.int (J z))) (l_n hL)) ?_
      refine w_icmp_ge (pc := 9) (tgt := 88) hC dX6_threes_9 (by decide) (by omega) (fun c9 => ?_) (fun c9 => ?_)
      · refine w_iload_n (pc := 88) hC dX6_threes_88 1 rfl rfl ?_
        refine w_iret (pc := 89) hC hRT dX6_threes_89 rfl ?_
        refine ⟨retI (by rw [i3, show a = S 0 by omega]; rfl), rfl⟩
      · refine w_iload_n (pc := 12) hC dX6_threes_12 2 rfl rfl ?_
        refine w_iconst (pc := 13) hC dX6_threes_13 ?_
        refine w_iadd (pc := 14) hC dX6_threes_14 ?_
        refine w_istore_n (pc := 15) hC dX6_threes_15 rfl (lv2 := [(3, .int (J (a + 1))), (0, .ref (A 1)), (1, .int (J x)), (2, .int (J a))]) (by rw [hnL]; decide) rfl ?_
        have loop16 : ∀ (nF : Nat) (y : Int) (b : Int), (a + 1 ≤ b) → (b ≤ S 0) → (y = x + rs (fun j => rs (fun k => tri S a j k) (a + 1) (S 0)) (a + 1) b) → (S 0 - b) < (nF : Int) → WW K G 0 0 (CW A D T G.2.1 I F Q P) 16 [(0, .ref (A 1)), (1, .int (J y)), (2, .int (J a)), (3, .int (J b))] [] := by
          intro nF
          induction nF with
          | zero => intro y b j1 j2 j3 hm16; exact absurd hm16 (by omega)
          | succ nF ih16 =>
            intro y b j1 j2 j3 hm16
            refine w_iload_n (pc := 16) hC dX6_threes_16 3 rfl rfl ?_
            refine w_aload_n (pc := 17) hC dX6_threes_17 0 rfl rfl ?_
            refine w_getf (pc := 18) (v := .int (J (S 0))) hC dX6_threes_18 fi_X6_9 1 CW_1 (congrArg (fun z : Int => some (Value.int (J z))) (l_n hL)) ?_
            refine w_icmp_ge (pc := 21) (tgt := 82) hC dX6_threes_21 (by decide) (by omega) (fun c21 => ?_) (fun c21 => ?_)
            · refine w_iinc (pc := 82) hC dX6_threes_82 (lv2 := [(2, .int (J (a + 1))), (0, .ref (A 1)), (1, .int (J y)), (3, .int (J b))]) 2 rfl (by rw [hnL]; decide) rfl ?_
              refine w_goto (pc := 85) hC dX6_threes_85 (tgt := 4) (by decide) ?_
              refine w_sub [1, 2, 0] (lv2 := [(0, .ref (A 1)), (1, .int (J y)), (2, .int (J (a + 1)))]) rfl ?_
              refine ih4 y (a + 1) ?_ ?_ ?_ ?_
              · first | assumption | omega
              · first | assumption | omega
              · rw [rs_s _ i1, j3, show b = S 0 by omega, i3]
              · omega
            · refine w_iload_n (pc := 24) hC dX6_threes_24 2 rfl rfl ?_
              refine w_iconst (pc := 25) hC dX6_threes_25 ?_
              refine w_iadd (pc := 26) hC dX6_threes_26 ?_
              refine w_istore (pc := 27) hC dX6_threes_27 (lv2 := [(4, .int (J (a + 1))), (0, .ref (A 1)), (1, .int (J y)), (2, .int (J a)), (3, .int (J b))]) (by rw [hnL]; decide) rfl ?_
              have loop29 : ∀ (nF : Nat) (z : Int) (c : Int), (a + 1 ≤ c) → (c ≤ S 0) → (z = y + rs (fun k => tri S a b k) (a + 1) c) → (S 0 - c) < (nF : Int) → WW K G 0 0 (CW A D T G.2.1 I F Q P) 29 [(0, .ref (A 1)), (1, .int (J z)), (2, .int (J a)), (3, .int (J b)), (4, .int (J c))] [] := by
                intro nF
                induction nF with
                | zero => intro z c k1 k2 k3 hm29; exact absurd hm29 (by omega)
                | succ nF ih29 =>
                  intro z c k1 k2 k3 hm29
                  refine w_iload (pc := 29) hC dX6_threes_29 4 rfl ?_
                  refine w_aload_n (pc := 31) hC dX6_threes_31 0 rfl rfl ?_
                  refine w_getf (pc := 32) (v := .int (J (S 0))) hC dX6_threes_32 fi_X6_9 1 CW_1 (congrArg (fun z : Int => some (Value.int (J z))) (l_n hL)) ?_
                  refine w_icmp_ge (pc := 35) (tgt := 76) hC dX6_threes_35 (by decide) (by omega) (fun c35 => ?_) (fun c35 => ?_)
                  · refine w_iinc (pc := 76) hC dX6_threes_76 (lv2 := [(3, .int (J (b + 1))), (0, .ref (A 1)), (1, .int (J z)), (2, .int (J a)), (4, .int (J c))]) 3 rfl (by rw [hnL]; decide) rfl ?_
                    refine w_goto (pc := 79) hC dX6_threes_79 (tgt := 16) (by decide) ?_
                    refine w_sub [1, 2, 3, 0] (lv2 := [(0, .ref (A 1)), (1, .int (J z)), (2, .int (J a)), (3, .int (J (b + 1)))]) rfl ?_
                    refine ih16 z (b + 1) ?_ ?_ ?_ ?_
                    · first | assumption | omega
                    · first | assumption | omega
                    · rw [rs_s _ j1, k3, show c = S 0 by omega, j3]; omega
                    · omega
                  · refine w_aload_n (pc := 38) hC dX6_threes_38 0 rfl rfl ?_
                    refine w_iload_n (pc := 39) hC dX6_threes_39 2 rfl rfl ?_
                    refine w_iload_n (pc := 40) hC dX6_threes_40 3 rfl rfl ?_
                    refine w_callV (pc := 41) (As := [.int (J a), .int (J b)]) (rest := []) hC dX6_threes_41 cv_X6_106 (c_X6_wonMore (kl K) G A D T I F Q P S a b (show RI S from by first | assumption | omega) (show LRn G.2.1 S I F Q P from by exact hL) (show 0 ≤ a ∧ a < S 0 from by first | assumption | omega) (show 0 ≤ b ∧ b < S 0 from by first | assumption | omega)) (by decide) ⟨Nat.le_of_ble_eq_true rfl, Nat.le_of_ble_eq_true rfl⟩ (q0 := 1) CW_1 rfl rfl rfl (Nat.le_of_ble_eq_true rfl) rfl (fun vo wo hv => ?_)
                    obtain ⟨hv1, hw1⟩ := hv
                    rw [hv1, hw1]
                    show WW K G 0 0 (CW A D T G.2.1 I F Q P) 44 [(0, .ref (A 1)), (1, .int (J z)), (2, .int (J a)), (3, .int (J b)), (4, .int (J c))] [.int (J (bI (S (929 + 6 * b + a) < S (929 + 6 * a + b))))]
                    refine w_if_eq_b (pc := 44) (tgt := 70) hC dX6_threes_44 (by decide) (fun c44 => ?_) (fun c44 => ?_)
                    · refine w_iinc (pc := 70) hC dX6_threes_70 (lv2 := [(4, .int (J (c + 1))), (0, .ref (A 1)), (1, .int (J z)), (2, .int (J a)), (3, .int (J b))]) 4 rfl (by rw [hnL]; decide) rfl ?_
                      refine w_goto (pc := 73) hC dX6_threes_73 (tgt := 29) (by decide) ?_
                      refine w_sub [1, 2, 3, 4, 0] (lv2 := [(0, .ref (A 1)), (1, .int (J z)), (2, .int (J a)), (3, .int (J b)), (4, .int (J (c + 1)))]) rfl ?_
                      refine ih29 z (c + 1) ?_ ?_ ?_ ?_
                      · first | assumption | omega
                      · first | assumption | omega
                      · rw [rs_s _ k1, k3]; unfold tri; first | rw [if_pos ⟨c44, c54, c64⟩]; omega | rw [if_neg (fun h9 => c44 h9.1)]; omega | rw [if_neg (fun h9 => c54 h9.2.1)]; omega | rw [if_neg (fun h9 => c64 h9.2.2)]; omega
                      · omega
                    · refine w_aload_n (pc := 47) hC dX6_threes_47 0 rfl rfl ?_
                      refine w_iload_n (pc := 48) hC dX6_threes_48 3 rfl rfl ?_
                      refine w_iload (pc := 49) hC dX6_threes_49 4 rfl ?_
                      refine w_callV (pc := 51) (As := [.int (J b), .int (J c)]) (rest := []) hC dX6_threes_51 cv_X6_106 (c_X6_wonMore (kl K) G A D T I F Q P S b c (show RI S from by first | assumption | omega) (show LRn G.2.1 S I F Q P from by exact hL) (show 0 ≤ b ∧ b < S 0 from by first | assumption | omega) (show 0 ≤ c ∧ c < S 0 from by first | assumption | omega)) (by decide) ⟨Nat.le_of_ble_eq_true rfl, Nat.le_of_ble_eq_true rfl⟩ (q0 := 1) CW_1 rfl rfl rfl (Nat.le_of_ble_eq_true rfl) rfl (fun vo wo hv => ?_)
                      obtain ⟨hv1, hw1⟩ := hv
                      rw [hv1, hw1]
                      show WW K G 0 0 (CW A D T G.2.1 I F Q P) 54 [(0, .ref (A 1)), (1, .int (J z)), (2, .int (J a)), (3, .int (J b)), (4, .int (J c))] [.int (J (bI (S (929 + 6 * c + b) < S (929 + 6 * b + c))))]
                      refine w_if_eq_b (pc := 54) (tgt := 70) hC dX6_threes_54 (by decide) (fun c54 => ?_) (fun c54 => ?_)
                      · refine w_iinc (pc := 70) hC dX6_threes_70 (lv2 := [(4, .int (J (c + 1))), (0, .ref (A 1)), (1, .int (J z)), (2, .int (J a)), (3, .int (J b))]) 4 rfl (by rw [hnL]; decide) rfl ?_
                        refine w_goto (pc := 73) hC dX6_threes_73 (tgt := 29) (by decide) ?_
                        refine w_sub [1, 2, 3, 4, 0] (lv2 := [(0, .ref (A 1)), (1, .int (J z)), (2, .int (J a)), (3, .int (J b)), (4, .int (J (c + 1)))]) rfl ?_
                        refine ih29 z (c + 1) ?_ ?_ ?_ ?_
                        · first | assumption | omega
                        · first | assumption | omega
                        · rw [rs_s _ k1, k3]; unfold tri; first | rw [if_pos ⟨c44, c54, c64⟩]; omega | rw [if_neg (fun h9 => c44 h9.1)]; omega | rw [if_neg (fun h9 => c54 h9.2.1)]; omega | rw [if_neg (fun h9 => c64 h9.2.2)]; omega
                        · omega
                      · refine w_aload_n (pc := 57) hC dX6_threes_57 0 rfl rfl ?_
                        refine w_iload (pc := 58) hC dX6_threes_58 4 rfl ?_
                        refine w_iload_n (pc := 60) hC dX6_threes_60 2 rfl rfl ?_
                        refine w_callV (pc := 61) (As := [.int (J c), .int (J a)]) (rest := []) hC dX6_threes_61 cv_X6_106 (c_X6_wonMore (kl K) G A D T I F Q P S c a (show RI S from by first | assumption | omega) (show LRn G.2.1 S I F Q P from by exact hL) (show 0 ≤ c ∧ c < S 0 from by first | assumption | omega) (show 0 ≤ a ∧ a < S 0 from by first | assumption | omega)) (by decide) ⟨Nat.le_of_ble_eq_true rfl, Nat.le_of_ble_eq_true rfl⟩ (q0 := 1) CW_1 rfl rfl rfl (Nat.le_of_ble_eq_true rfl) rfl (fun vo wo hv => ?_)
                        obtain ⟨hv1, hw1⟩ := hv
                        rw [hv1, hw1]
                        show WW K G 0 0 (CW A D T G.2.1 I F Q P) 64 [(0, .ref (A 1)), (1, .int (J z)), (2, .int (J a)), (3, .int (J b)), (4, .int (J c))] [.int (J (bI (S (929 + 6 * a + c) < S (929 + 6 * c + a))))]
                        refine w_if_eq_b (pc := 64) (tgt := 70) hC dX6_threes_64 (by decide) (fun c64 => ?_) (fun c64 => ?_)
                        · refine w_iinc (pc := 70) hC dX6_threes_70 (lv2 := [(4, .int (J (c + 1))), (0, .ref (A 1)), (1, .int (J z)), (2, .int (J a)), (3, .int (J b))]) 4 rfl (by rw [hnL]; decide) rfl ?_
                          refine w_goto (pc := 73) hC dX6_threes_73 (tgt := 29) (by decide) ?_
                          refine w_sub [1, 2, 3, 4, 0] (lv2 := [(0, .ref (A 1)), (1, .int (J z)), (2, .int (J a)), (3, .int (J b)), (4, .int (J (c + 1)))]) rfl ?_
                          refine ih29 z (c + 1) ?_ ?_ ?_ ?_
                          · first | assumption | omega
                          · first | assumption | omega
                          · rw [rs_s _ k1, k3]; unfold tri; first | rw [if_pos ⟨c44, c54, c64⟩]; omega | rw [if_neg (fun h9 => c44 h9.1)]; omega | rw [if_neg (fun h9 => c54 h9.2.1)]; omega | rw [if_neg (fun h9 => c64 h9.2.2)]; omega
                          · omega
                        · refine w_iinc (pc := 67) hC dX6_threes_67 (lv2 := [(1, .int (J (z + 1))), (0, .ref (A 1)), (2, .int (J a)), (3, .int (J b)), (4, .int (J c))]) 1 rfl (by rw [hnL]; decide) rfl ?_
                          refine w_iinc (pc := 70) hC dX6_threes_70 (lv2 := [(4, .int (J (c + 1))), (1, .int (J (z + 1))), (0, .ref (A 1)), (2, .int (J a)), (3, .int (J b))]) 4 rfl (by rw [hnL]; decide) rfl ?_
                          refine w_goto (pc := 73) hC dX6_threes_73 (tgt := 29) (by decide) ?_
                          refine w_sub [2, 1, 3, 4, 0] (lv2 := [(0, .ref (A 1)), (1, .int (J (z + 1))), (2, .int (J a)), (3, .int (J b)), (4, .int (J (c + 1)))]) rfl ?_
                          refine ih29 (z + 1) (c + 1) ?_ ?_ ?_ ?_
                          · first | assumption | omega
                          · first | assumption | omega
                          · rw [rs_s _ k1, k3]; unfold tri; first | rw [if_pos ⟨c44, c54, c64⟩]; omega | rw [if_neg (fun h9 => c44 h9.1)]; omega | rw [if_neg (fun h9 => c54 h9.2.1)]; omega | rw [if_neg (fun h9 => c64 h9.2.2)]; omega
                          · omega
              refine w_sub [1, 2, 3, 4, 0] (lv2 := [(0, .ref (A 1)), (1, .int (J y)), (2, .int (J a)), (3, .int (J b)), (4, .int (J (a + 1)))]) rfl ?_
              refine loop29 ((S 0 - (a + 1)) + 1 : Int).toNat y (a + 1) ?_ ?_ ?_ ?_
              · first | assumption | omega
              · first | assumption | omega
              · rw [rs_0]; omega
              · omega
        refine w_sub [1, 2, 3, 0] (lv2 := [(0, .ref (A 1)), (1, .int (J x)), (2, .int (J a)), (3, .int (J (a + 1)))]) rfl ?_
        refine loop16 ((S 0 - (a + 1)) + 1 : Int).toNat x (a + 1) ?_ ?_ ?_ ?_
        · first | assumption | omega
        · first | assumption | omega
        · rw [rs_0]; omega
        · omega
  refine w_sub [2, 1, 0] (lv2 := [(0, .ref (A 1)), (1, .int (J 0)), (2, .int (J 0))]) rfl ?_
  refine loop4 ((S 0 - 0) + 1 : Int).toNat 0 0 ?_ ?_ ?_ ?_
  · first | assumption | omega
  · first | assumption | omega
  · exact (rs_0 _ 0).symm
  · omega
set_option maxRecDepth 100000 in
set_option maxHeartbeats 4000000 in
theorem c_X6_neverAsked (l : Launch) (G : GT) (A D : Nat → Nat) (T : Nat) (I : Nat → Int → Int) (F : Nat → Int) (Q : Nat → Nat → Option Nat) (P : va_W) (S : Int → Int)  (hR : RI S) (hL : LRn G.2.1 S I F Q P) : CT l yX6_neverAsked cX6_neverAsked 4 (some .int) 0 0 0 G [.ref (A 1)] (CW A D T G.2.1 I F Q P) (fun vo wo => vo = some (.int (J (UNM S))) ∧ wo = CW A D T G.2.1 I F Q P) := by
  refine CT_of (own := RX6) rfl rfl (Nat.le_of_ble_eq_true rfl) (fun K hl hnL hC hRT hin => ?_)
  subst hl
  show WW K G 0 0 (CW A D T G.2.1 I F Q P) 0 [(0, .ref (A 1))] []
  have hn := hR.n
  refine w_iconst (pc := 0) hC dX6_neverAsked_0 ?_
  refine w_istore_n (pc := 1) hC dX6_neverAsked_1 rfl (lv2 := [(1, .int (J 0)), (0, .ref (A 1))]) (by rw [hnL]; decide) rfl ?_
  refine w_iconst (pc := 2) hC dX6_neverAsked_2 ?_
  refine w_istore_n (pc := 3) hC dX6_neverAsked_3 rfl (lv2 := [(2, .int (J 0)), (1, .int (J 0)), (0, .ref (A 1))]) (by rw [hnL]; decide) rfl ?_
  have loop4 : ∀ (nF : Nat) (x : Int) (a : Int), (0 ≤ a) → (a ≤ S 0) → (x = rs (fun i => rs (fun j => unm S i j) (i + 1) (S 0)) 0 a) → (S 0 - a) < (nF : Int) → WW K G 0 0 (CW A D T G.2.1 I F Q P) 4 [(0, .ref (A 1)), (1, .int (J x)), (2, .int (J a))] [] := by
    intro nF
    induction nF with
    | zero => intro x a i1 i2 i3 hm4; exact absurd hm4 (by omega)
    | succ nF ih4 =>
      intro x a i1 i2 i3 hm4
      refine w_iload_n (pc := 4) hC dX6_neverAsked_4 2 rfl rfl ?_
      refine w_aload_n (pc := 5) hC dX6_neverAsked_5 0 rfl rfl ?_
      refine w_getf (pc := 6) (v := .int (J (S 0))) hC dX6_neverAsked_6 fi_X6_9 1 CW_1 (congrArg (fun z : Int => some (Value.int (J z))) (l_n hL)) ?_
      refine w_icmp_ge (pc := 9) (tgt := 61) hC dX6_neverAsked_9 (by decide) (by omega) (fun c9 => ?_) (fun c9 => ?_)
      · refine w_iload_n (pc := 61) hC dX6_neverAsked_61 1 rfl rfl ?_
        refine w_iret (pc := 62) hC hRT dX6_neverAsked_62 rfl ?_
        refine ⟨retI (by rw [i3, show a = S 0 by omega]; rfl), rfl⟩
      · refine w_iload_n (pc := 12) hC dX6_neverAsked_12 2 rfl rfl ?_
        refine w_iconst (pc := 13) hC dX6_neverAsked_13 ?_
        refine w_iadd (pc := 14) hC dX6_neverAsked_14 ?_
        refine w_istore_n (pc := 15) hC dX6_neverAsked_15 rfl (lv2 := [(3, .int (J (a + 1))), (0, .ref (A 1)), (1, .int (J x)), (2, .int (J a))]) (by rw [hnL]; decide) rfl ?_
        have loop16 : ∀ (nF : Nat) (y : Int) (b : Int), (a + 1 ≤ b) → (b ≤ S 0) → (y = x + rs (fun j => unm S a j) (a + 1) b) → (S 0 - b) < (nF : Int) → WW K G 0 0 (CW A D T G.2.1 I F Q P) 16 [(0, .ref (A 1)), (1, .int (J y)), (2, .int (J a)), (3, .int (J b))] [] := by
          intro nF
          induction nF with
          | zero => intro y b j1 j2 j3 hm16; exact absurd hm16 (by omega)
          | succ nF ih16 =>
            intro y b j1 j2 j3 hm16
            refine w_iload_n (pc := 16) hC dX6_neverAsked_16 3 rfl rfl ?_
            refine w_aload_n (pc := 17) hC dX6_neverAsked_17 0 rfl rfl ?_
            refine w_getf (pc := 18) (v := .int (J (S 0))) hC dX6_neverAsked_18 fi_X6_9 1 CW_1 (congrArg (fun z : Int => some (Value.int (J z))) (l_n hL)) ?_
            refine w_icmp_ge (pc := 21) (tgt := 55) hC dX6_neverAsked_21 (by decide) (by omega) (fun c21 => ?_) (fun c21 => ?_)
            · refine w_iinc (pc := 55) hC dX6_neverAsked_55 (lv2 := [(2, .int (J (a + 1))), (0, .ref (A 1)), (1, .int (J y)), (3, .int (J b))]) 2 rfl (by rw [hnL]; decide) rfl ?_
              refine w_goto (pc := 58) hC dX6_neverAsked_58 (tgt := 4) (by decide) ?_
              refine w_sub [1, 2, 0] (lv2 := [(0, .ref (A 1)), (1, .int (J y)), (2, .int (J (a + 1)))]) rfl ?_
              refine ih4 y (a + 1) ?_ ?_ ?_ ?_
              · first | assumption | omega
              · first | assumption | omega
              · rw [rs_s _ i1, j3, show b = S 0 by omega, i3]
              · omega
            · have g1 := hR.pa (929 + 6 * a + b) (by omega) (by omega)
              have g2 := hR.pa (929 + 6 * b + a) (by omega) (by omega)
              refine w_aload_n (pc := 24) hC dX6_neverAsked_24 0 rfl rfl ?_
              refine w_getf (pc := 25) (v := .ref (A 16)) hC dX6_neverAsked_25 fi_X6_64 1 CW_1 rfl ?_
              refine w_iload_n (pc := 28) hC dX6_neverAsked_28 2 rfl rfl ?_
              refine w_aaldS (t0 := 6) (q := A (17 + (a).toNat)) hC dX6_neverAsked_29 16 CW_16 rfl rfl (by omega) (Nat.le_of_ble_eq_true rfl) (rw6_at (by omega)) ?_
              refine w_iload_n (pc := 30) hC dX6_neverAsked_30 3 rfl rfl ?_
              refine w_ialdV (pc := 31) (v := S (929 + 6 * a + b)) hC dX6_neverAsked_31 (17 + (a).toNat) (CW_pa (by omega) (by omega)) (by omega) (Nat.le_of_ble_eq_true rfl) (l_pa hL (by omega) (by omega) (by omega) (by omega)) ?_
              refine w_if_ne (pc := 32) (tgt := 49) hC dX6_neverAsked_32 (by decide) (by omega) (fun c32 => ?_) (fun c32 => ?_)
              · refine w_iinc (pc := 49) hC dX6_neverAsked_49 (lv2 := [(3, .int (J (b + 1))), (0, .ref (A 1)), (1, .int (J y)), (2, .int (J a))]) 3 rfl (by rw [hnL]; decide) rfl ?_
                refine w_goto (pc := 52) hC dX6_neverAsked_52 (tgt := 16) (by decide) ?_
                refine w_sub [1, 2, 3, 0] (lv2 := [(0, .ref (A 1)), (1, .int (J y)), (2, .int (J a)), (3, .int (J (b + 1)))]) rfl ?_
                refine ih16 y (b + 1) ?_ ?_ ?_ ?_
                · first | assumption | omega
                · first | assumption | omega
                · rw [rs_s _ j1, j3]; unfold unm; first | rw [if_pos (by omega)]; omega | rw [if_neg (by omega)]; omega
                · omega
              · refine w_aload_n (pc := 35) hC dX6_neverAsked_35 0 rfl rfl ?_
                refine w_getf (pc := 36) (v := .ref (A 16)) hC dX6_neverAsked_36 fi_X6_64 1 CW_1 rfl ?_
                refine w_iload_n (pc := 39) hC dX6_neverAsked_39 3 rfl rfl ?_
                refine w_aaldS (t0 := 6) (q := A (17 + (b).toNat)) hC dX6_neverAsked_40 16 CW_16 rfl rfl (by omega) (Nat.le_of_ble_eq_true rfl) (rw6_at (by omega)) ?_
                refine w_iload_n (pc := 41) hC dX6_neverAsked_41 2 rfl rfl ?_
                refine w_ialdV (pc := 42) (v := S (929 + 6 * b + a)) hC dX6_neverAsked_42 (17 + (b).toNat) (CW_pa (by omega) (by omega)) (by omega) (Nat.le_of_ble_eq_true rfl) (l_pa hL (by omega) (by omega) (by omega) (by omega)) ?_
                refine w_if_ne (pc := 43) (tgt := 49) hC dX6_neverAsked_43 (by decide) (by omega) (fun c43 => ?_) (fun c43 => ?_)
                · refine w_iinc (pc := 49) hC dX6_neverAsked_49 (lv2 := [(3, .int (J (b + 1))), (0, .ref (A 1)), (1, .int (J y)), (2, .int (J a))]) 3 rfl (by rw [hnL]; decide) rfl ?_
                  refine w_goto (pc := 52) hC dX6_neverAsked_52 (tgt := 16) (by decide) ?_
                  refine w_sub [1, 2, 3, 0] (lv2 := [(0, .ref (A 1)), (1, .int (J y)), (2, .int (J a)), (3, .int (J (b + 1)))]) rfl ?_
                  refine ih16 y (b + 1) ?_ ?_ ?_ ?_
                  · first | assumption | omega
                  · first | assumption | omega
                  · rw [rs_s _ j1, j3]; unfold unm; first | rw [if_pos (by omega)]; omega | rw [if_neg (by omega)]; omega
                  · omega
                · refine w_iinc (pc := 46) hC dX6_neverAsked_46 (lv2 := [(1, .int (J (y + 1))), (0, .ref (A 1)), (2, .int (J a)), (3, .int (J b))]) 1 rfl (by rw [hnL]; decide) rfl ?_
                  refine w_iinc (pc := 49) hC dX6_neverAsked_49 (lv2 := [(3, .int (J (b + 1))), (1, .int (J (y + 1))), (0, .ref (A 1)), (2, .int (J a))]) 3 rfl (by rw [hnL]; decide) rfl ?_
                  refine w_goto (pc := 52) hC dX6_neverAsked_52 (tgt := 16) (by decide) ?_
                  refine w_sub [2, 1, 3, 0] (lv2 := [(0, .ref (A 1)), (1, .int (J (y + 1))), (2, .int (J a)), (3, .int (J (b + 1)))]) rfl ?_
                  refine ih16 (y + 1) (b + 1) ?_ ?_ ?_ ?_
                  · first | assumption | omega
                  · first | assumption | omega
                  · rw [rs_s _ j1, j3]; unfold unm; first | rw [if_pos (by omega)]; omega | rw [if_neg (by omega)]; omega
                  · omega
        refine w_sub [1, 2, 3, 0] (lv2 := [(0, .ref (A 1)), (1, .int (J x)), (2, .int (J a)), (3, .int (J (a + 1)))]) rfl ?_
        refine loop16 ((S 0 - (a + 1)) + 1 : Int).toNat x (a + 1) ?_ ?_ ?_ ?_
        · first | assumption | omega
        · first | assumption | omega
        · rw [rs_0]; omega
        · omega
  refine w_sub [2, 1, 0] (lv2 := [(0, .ref (A 1)), (1, .int (J 0)), (2, .int (J 0))]) rfl ?_
  refine loop4 ((S 0 - 0) + 1 : Int).toNat 0 0 ?_ ?_ ?_ ?_
  · first | assumption | omega
  · first | assumption | omega
  · exact (rs_0 _ 0).symm
  · omega
set_option maxRecDepth 100000 in
set_option maxHeartbeats 4000000 in
theorem c_X6_wonFromBelow (l : Launch) (G : GT) (A D : Nat → Nat) (T : Nat) (I : Nat → Int → Int) (F : Nat → Int) (Q : Nat → Nat → Option Nat) (P : va_W) (S : Int → Int) (o : Int)  (hR : RI S) (hL : LRn G.2.1 S I F Q P) (hB : ∀ r : Int, 0 ≤ r → r < S 0 → (I 57) r = dg o r ∧ dg o r < S 0) : CT l yX6_wonFromBelow cX6_wonFromBelow 5 (some .int) 0 0 0 G [.ref (A 1), .ref (A 57)] (CW A D T G.2.1 I F Q P) (fun vo wo => vo = some (.int (J (v_below S o))) ∧ wo = CW A D T G.2.1 I F Q P) := by
  refine CT_of (own := RX6) rfl rfl (Nat.le_of_ble_eq_true rfl) (fun K hl hnL hC hRT hin => ?_)
  subst hl
  show WW K G 0 0 (CW A D T G.2.1 I F Q P) 0 [(0, .ref (A 1)), (1, .ref (A 57))] []
  have hn := hR.n
  refine w_iconst (pc := 0) hC dX6_wonFromBelow_0 ?_
  refine w_istore_n (pc := 1) hC dX6_wonFromBelow_1 rfl (lv2 := [(2, .int (J 0)), (0, .ref (A 1)), (1, .ref (A 57))]) (by rw [hnL]; decide) rfl ?_
  refine w_iconst (pc := 2) hC dX6_wonFromBelow_2 ?_
  refine w_istore_n (pc := 3) hC dX6_wonFromBelow_3 rfl (lv2 := [(3, .int (J 0)), (2, .int (J 0)), (0, .ref (A 1)), (1, .ref (A 57))]) (by rw [hnL]; decide) rfl ?_
  have loop4 : ∀ (nF : Nat) (x : Int) (a : Int), (0 ≤ a) → (a ≤ S 0) → (x = rs (fun i => rs (fun j => S (929 + 6 * dg o j + dg o i)) (i + 1) (S 0)) 0 a) → (S 0 - a) < (nF : Int) → WW K G 0 0 (CW A D T G.2.1 I F Q P) 4 [(0, .ref (A 1)), (1, .ref (A 57)), (2, .int (J x)), (3, .int (J a))] [] := by
    intro nF
    induction nF with
    | zero => intro x a i1 i2 i3 hm4; exact absurd hm4 (by omega)
    | succ nF ih4 =>
      intro x a i1 i2 i3 hm4
      refine w_iload_n (pc := 4) hC dX6_wonFromBelow_4 3 rfl rfl ?_
      refine w_aload_n (pc := 5) hC dX6_wonFromBelow_5 0 rfl rfl ?_
      refine w_getf (pc := 6) (v := .int (J (S 0))) hC dX6_wonFromBelow_6 fi_X6_9 1 CW_1 (congrArg (fun z : Int => some (Value.int (J z))) (l_n hL)) ?_
      refine w_icmp_ge (pc := 9) (tgt := 54) hC dX6_wonFromBelow_9 (by decide) (by omega) (fun c9 => ?_) (fun c9 => ?_)
      · refine w_iload_n (pc := 54) hC dX6_wonFromBelow_54 2 rfl rfl ?_
        refine w_iret (pc := 55) hC hRT dX6_wonFromBelow_55 rfl ?_
        refine ⟨retI (by rw [i3, show a = S 0 by omega]; rfl), rfl⟩
      · refine w_iload_n (pc := 12) hC dX6_wonFromBelow_12 3 rfl rfl ?_
        refine w_iconst (pc := 13) hC dX6_wonFromBelow_13 ?_
        refine w_iadd (pc := 14) hC dX6_wonFromBelow_14 ?_
        refine w_istore (pc := 15) hC dX6_wonFromBelow_15 (lv2 := [(4, .int (J (a + 1))), (0, .ref (A 1)), (1, .ref (A 57)), (2, .int (J x)), (3, .int (J a))]) (by rw [hnL]; decide) rfl ?_
        have loop17 : ∀ (nF : Nat) (y : Int) (b : Int), (a + 1 ≤ b) → (b ≤ S 0) → (y = x + rs (fun j => S (929 + 6 * dg o j + dg o a)) (a + 1) b) → (S 0 - b) < (nF : Int) → WW K G 0 0 (CW A D T G.2.1 I F Q P) 17 [(0, .ref (A 1)), (1, .ref (A 57)), (2, .int (J y)), (3, .int (J a)), (4, .int (J b))] [] := by
          intro nF
          induction nF with
          | zero => intro y b j1 j2 j3 hm17; exact absurd hm17 (by omega)
          | succ nF ih17 =>
            intro y b j1 j2 j3 hm17
            refine w_iload (pc := 17) hC dX6_wonFromBelow_17 4 rfl ?_
            refine w_aload_n (pc := 19) hC dX6_wonFromBelow_19 0 rfl rfl ?_
            refine w_getf (pc := 20) (v := .int (J (S 0))) hC dX6_wonFromBelow_20 fi_X6_9 1 CW_1 (congrArg (fun z : Int => some (Value.int (J z))) (l_n hL)) ?_
            refine w_icmp_ge (pc := 23) (tgt := 48) hC dX6_wonFromBelow_23 (by decide) (by omega) (fun c23 => ?_) (fun c23 => ?_)
            · refine w_iinc (pc := 48) hC dX6_wonFromBelow_48 (lv2 := [(3, .int (J (a + 1))), (0, .ref (A 1)), (1, .ref (A 57)), (2, .int (J y)), (4, .int (J b))]) 3 rfl (by rw [hnL]; decide) rfl ?_
              refine w_goto (pc := 51) hC dX6_wonFromBelow_51 (tgt := 4) (by decide) ?_
              refine w_sub [1, 2, 3, 0] (lv2 := [(0, .ref (A 1)), (1, .ref (A 57)), (2, .int (J y)), (3, .int (J (a + 1)))]) rfl ?_
              refine ih4 y (a + 1) ?_ ?_ ?_ ?_
              · first | assumption | omega
              · first | assumption | omega
              · rw [rs_s _ i1, j3, show b = S 0 by omega, i3]
              · omega
            · have g1 := hB a (by omega) (by omega)
              have g2 := hB b (by omega) (by omega)
              have g3 := dg_bd o a
              have g4 := dg_bd o b
              refine w_iload_n (pc := 26) hC dX6_wonFromBelow_26 2 rfl rfl ?_
              refine w_aload_n (pc := 27) hC dX6_wonFromBelow_27 0 rfl rfl ?_
              refine w_getf (pc := 28) (v := .ref (A 16)) hC dX6_wonFromBelow_28 fi_X6_64 1 CW_1 rfl ?_
              refine w_aload_n (pc := 31) hC dX6_wonFromBelow_31 1 rfl rfl ?_
              refine w_iload (pc := 32) hC dX6_wonFromBelow_32 4 rfl ?_
              refine w_ialdV (pc := 34) (g := (I 57)) (v := dg o b) hC dX6_wonFromBelow_34 57 CW_57 (by omega) (Nat.le_of_ble_eq_true rfl) (hB _ (by omega) (by omega)).1 ?_
              refine w_aaldS (t0 := 6) (q := A (17 + (dg o b).toNat)) hC dX6_wonFromBelow_35 16 CW_16 rfl rfl (by omega) (Nat.le_of_ble_eq_true rfl) (rw6_at (by omega)) ?_
              refine w_aload_n (pc := 36) hC dX6_wonFromBelow_36 1 rfl rfl ?_
              refine w_iload_n (pc := 37) hC dX6_wonFromBelow_37 3 rfl rfl ?_
              refine w_ialdV (pc := 38) (g := (I 57)) (v := dg o a) hC dX6_wonFromBelow_38 57 CW_57 (by omega) (Nat.le_of_ble_eq_true rfl) (hB _ (by omega) (by omega)).1 ?_
              refine w_ialdV (pc := 39) (v := S (929 + 6 * (dg o b) + (dg o a))) hC dX6_wonFromBelow_39 (17 + (dg o b).toNat) (CW_pa (by omega) (by omega)) (by omega) (Nat.le_of_ble_eq_true rfl) (l_pa hL (by omega) (by omega) (by omega) (by omega)) ?_
              refine w_iadd (pc := 40) hC dX6_wonFromBelow_40 ?_
              refine w_istore_n (pc := 41) hC dX6_wonFromBelow_41 rfl (lv2 := [(2, .int (J (y + (S (929 + 6 * (dg o b) + (dg o a)))))), (0, .ref (A 1)), (1, .ref (A 57)), (3, .int (J a)), (4, .int (J b))]) (by rw [hnL]; decide) rfl ?_
              refine w_iinc (pc := 42) hC dX6_wonFromBelow_42 (lv2 := [(4, .int (J (b + 1))), (2, .int (J (y + (S (929 + 6 * (dg o b) + (dg o a)))))), (0, .ref (A 1)), (1, .ref (A 57)), (3, .int (J a))]) 4 rfl (by rw [hnL]; decide) rfl ?_
              refine w_goto (pc := 45) hC dX6_wonFromBelow_45 (tgt := 17) (by decide) ?_
              refine w_sub [2, 3, 1, 4, 0] (lv2 := [(0, .ref (A 1)), (1, .ref (A 57)), (2, .int (J (y + (S (929 + 6 * (dg o b) + (dg o a)))))), (3, .int (J a)), (4, .int (J (b + 1)))]) rfl ?_
              refine ih17 (y + (S (929 + 6 * (dg o b) + (dg o a)))) (b + 1) ?_ ?_ ?_ ?_
              · first | assumption | omega
              · first | assumption | omega
              · rw [rs_s _ j1, j3]; omega
              · omega
        refine w_sub [1, 2, 3, 4, 0] (lv2 := [(0, .ref (A 1)), (1, .ref (A 57)), (2, .int (J x)), (3, .int (J a)), (4, .int (J (a + 1)))]) rfl ?_
        refine loop17 ((S 0 - (a + 1)) + 1 : Int).toNat x (a + 1) ?_ ?_ ?_ ?_
        · first | assumption | omega
        · first | assumption | omega
        · rw [rs_0]; omega
        · omega
  refine w_sub [2, 3, 1, 0] (lv2 := [(0, .ref (A 1)), (1, .ref (A 57)), (2, .int (J 0)), (3, .int (J 0))]) rfl ?_
  refine loop4 ((S 0 - 0) + 1 : Int).toNat 0 0 ?_ ?_ ?_ ?_
  · first | assumption | omega
  · first | assumption | omega
  · exact (rs_0 _ 0).symm
  · omega
