
theorem cx_X3_105 : CX RX3 105 yX2_testOf cX2_testOf 3 (some Jvm.ClassFile.FieldType.int) 3 := ⟨tw_2_201, tw_2_202, tw_1_13, tw_2_203, by decide, by decide +kernel⟩
theorem lp_stop {S : Int → Int} {e : Int} {f : PQ → PQ} {c s p : Int} {l : List Int} (k : Nat) (h : ¬ hr S e p = c) : lp S e f c s k (p, 0, l) = (p, 0, l) := by
  cases k with
  | zero => rfl
  | succ k => unfold lp; rw [if_neg (by exact fun g => h g.2)]
theorem lp_go {S : Int → Int} {e : Int} {f : PQ → PQ} {c s p : Int} {l : List Int} {k : Int} (hk : 0 ≤ k) (h : hr S e p = c) : lp S e f c s (k + 1).toNat (p, 0, l) = lp S e f c s k.toNat (emt s (f (p + 1, 0, l))) := by
  rw [show (k + 1).toNat = k.toNat + 1 by omega]
  show (if _ then _ else _) = _
  rw [if_pos (And.intro rfl h)]
theorem emt_ok {s : Int} {q : PQ} (h : q.2.1 = 0) : emt s q = (q.1, 0, q.2.2 ++ [s]) := by
  unfold emt
  rw [if_neg (by omega), h]
theorem pq_eta {q : PQ} (h : q.2.1 = 0) : q = (q.1, 0, q.2.2) := by
  obtain ⟨a, b, l⟩ := q
  have hb : b = 0 := h
  rw [hb]
theorem pb_0 {e p : Int} {l : List Int} (h : 0 ≤ p ∧ p ≤ e) : PB e ((p, 0, l) : PQ) := And.intro h (Or.inl rfl)
theorem gr_l {e p : Int} {l : List Int} {r : PQ} (h : GR e ((p, 0, l) : PQ) r) : ((p ≤ r.1 ∧ r.1 ≤ e) ∧ (r.2.2.length : Int) - r.1 ≤ (l.length : Int) - p) ∧ (r.2.1 = 0 ∨ r.2.1 = 1) := And.intro (And.intro h.1 h.2.2) h.2.1
theorem sx_lt {S : Int → Int} {e p : Int} {i : Nat} (hi : i < nST) (h : 0 ≤ SX i (hr S e p)) : p < e := by
  by_cases z : p < e
  · exact z
  · rw [hr_out (by omega), SX_neg hi (by decide)] at h; omega
theorem fg_b {S : Int → Int} {e p : Int} (hb : 48 ≤ hr S e p ∧ hr S e p ≤ 57) : 0 ≤ fgv S e p ∧ fgv S e p ≤ 99 := by
  unfold fgv
  split <;> omega
theorem rnv {S : Int → Int} {e p : Int} : (-1 ≤ (if 48 ≤ hr S e p ∧ hr S e p ≤ 57 then fgv S e p else -1) ∧ (if 48 ≤ hr S e p ∧ hr S e p ≤ 57 then fgv S e p else -1) ≤ 99) ∧ ((if 48 ≤ hr S e p ∧ hr S e p ≤ 57 then fgv S e p else -1) < 0 → ¬ (48 ≤ hr S e p ∧ hr S e p ≤ 57)) ∧ (0 ≤ (if 48 ≤ hr S e p ∧ hr S e p ≤ 57 then fgv S e p else -1) → 48 ≤ hr S e p ∧ hr S e p ≤ 57) := by
  by_cases h : 48 ≤ hr S e p ∧ hr S e p ≤ 57
  · rw [if_pos h]
    have := fg_b h
    exact And.intro (And.intro (by omega) (by omega)) (And.intro (fun z => by omega) (fun _ => h))
  · rw [if_neg h]
    exact And.intro (And.intro (by omega) (by omega)) (And.intro (fun _ => h) (fun z => by omega))
theorem spN_x {S : Int → Int} {e : Int} {i : Nat} {q : PQ} (k : Nat) (h : (spN S e i k q).2.1 = 1) : ∀ n : Nat, k ≤ n → spN S e i n q = spN S e i k q := by
  intro n
  induction n with
  | zero => intro hk; rw [show k = 0 by omega]
  | succ n ih =>
    intro hk
    by_cases c : k = n + 1
    · rw [c]
    · have hi := ih (by omega)
      show mst S e (stc i (n : Int)) (spN S e i n q) = _
      rw [hi, mst_w h]
theorem spl_bad {S : Int → Int} {e p k : Int} {i : Nat} {l : List Int} (h0 : 0 ≤ k) (h1 : k < stl i) (h : spN S e i k.toNat (p, 0, l) = (p + k, 0, l)) (c : ¬ hr S e (p + k) = stc i k) : spl S e i (p, 0, l) = (p + k, 1, l) := by
  have hw : spN S e i (k + 1).toNat (p, 0, l) = (p + k, 1, l) := by
    rw [spN_s _ _ _ _ h0, h]
    unfold mst
    rw [if_pos (Or.inr c)]
  unfold spl
  rw [spN_x (k + 1).toNat (by rw [hw]) _ (by omega), hw]
theorem spl_next {S : Int → Int} {e p k : Int} {i : Nat} {l : List Int} (h0 : 0 ≤ k) (h : spN S e i k.toNat (p, 0, l) = (p + k, 0, l)) (c : hr S e (p + k) = stc i k) : spN S e i (k + 1).toNat (p, 0, l) = (p + (k + 1), 0, l) := by
  rw [spN_s _ _ _ _ h0, h]
  unfold mst
  rw [if_neg (by exact fun g => g.elim (fun z => absurd z (by decide : ¬ (0 : Int) = 1)) (fun z => z c))]
  show (p + k + 1, 0, l) = _
  rw [Int.add_assoc]
theorem fac_at {S : Int → Int} {e p : Int} {l : List Int} {n : Nat} (h : n = 0 ∨ (¬ hr S e p = 33 ∧ ¬ hr S e p = 40)) : fac S e n (p, 0, l) = atm S e (p, 0, l) := by
  by_cases c : hr S e p = 33 ∨ hr S e p = 40
  · have hn : n = 0 := by omega
    subst hn
    rw [fac_out (S := S) (e := e) (q := (p, 0, l)) (by decide : ¬ (0 : Int) = 1) c]
    unfold atm
    have : SX 6 (hr S e p) = -1 := by
      rcases c with c | c
      · rw [c]; decide +kernel
      · rw [c]; decide +kernel
    dsimp only
    rw [if_pos this]
  · exact fac_atm n (by decide : ¬ (0 : Int) = 1) (fun z => c (Or.inl z)) (fun z => c (Or.inr z))
theorem atm_6 {S : Int → Int} {e p : Int} {l : List Int} (h : SX 6 (hr S e p) < 0) : atm S e (p, 0, l) = (p, 1, l) := by
  have hs := SX_bd (hr S e p) (show 6 < nST by decide)
  unfold atm
  dsimp only
  rw [if_pos (by omega)]
theorem atm_7 {S : Int → Int} {e p : Int} {l : List Int} (h6 : 0 ≤ SX 6 (hr S e p)) (h : SX 7 (hr S e (p + 1)) < 0) : atm S e (p, 0, l) = (p + 1, 1, l) := by
  have hs := SX_bd (hr S e (p + 1)) (show 7 < nST by decide)
  unfold atm
  dsimp only
  rw [if_neg (by omega), if_pos (by omega)]
theorem atm_d {S : Int → Int} {e p : Int} {l : List Int} (h6 : 0 ≤ SX 6 (hr S e p)) (h7 : 0 ≤ SX 7 (hr S e (p + 1))) (h : ¬ (48 ≤ hr S e (p + 1 + 1) ∧ hr S e (p + 1 + 1) ≤ 57)) : atm S e (p, 0, l) = (p + 1 + 1, 1, l) := by
  unfold atm
  dsimp only
  rw [if_neg (by omega), if_neg (by omega)]
  unfold figQ
  rw [if_pos (Or.inr h), emt_w rfl]
theorem atm_k {S : Int → Int} {e p : Int} {l : List Int} (h6 : 0 ≤ SX 6 (hr S e p)) (h7 : 0 ≤ SX 7 (hr S e (p + 1))) (h : 48 ≤ hr S e (p + 1 + 1) ∧ hr S e (p + 1 + 1) ≤ 57) : atm S e (p, 0, l) = (fgs S e (p + 1 + 1), 0, l ++ [SX 6 (hr S e p) + 8 * SX 7 (hr S e (p + 1)) + 32 * fgv S e (p + 1 + 1)]) := by
  have hq : figQ S e (p + 1 + 1, 0, l) = (fgv S e (p + 1 + 1), (fgs S e (p + 1 + 1), 0, l)) := by
    unfold figQ
    rw [if_neg (by exact fun g => g.elim (fun z => absurd z (by decide : ¬ (0 : Int) = 1)) (fun z => z h))]
  unfold atm
  dsimp only
  rw [if_neg (by omega), if_neg (by omega), hq, emt_ok rfl]
theorem fgs_b {S : Int → Int} {e p : Int} (hb : 48 ≤ hr S e p ∧ hr S e p ≤ 57) : p ≤ fgs S e p ∧ fgs S e p ≤ e := by
  have h1 := hr_at (rfl : hr S e p = hr S e p) (by omega)
  unfold fgs
  split
  · have h2 := hr_at (rfl : hr S e (p + 1) = hr S e (p + 1)) (by omega)
    omega
  · omega
theorem cde_at {a b n : Int} (ha : 0 ≤ a ∧ a < 8) (hb : 0 ≤ b ∧ b < 4) (hn : 0 ≤ n) : cde (a + 8 * b + 32 * n) = (a * 3 + b) * 100 + n := by
  unfold cde
  rw [if_neg (by omega)]
  omega

set_option maxRecDepth 100000 in
set_option maxHeartbeats 4000000 in
theorem c_X3_readUp (l : Launch) (G : GT) (A D : Nat → Nat) (I : Nat → Int → Int) (F : Nat → Int) (Q : Nat → Nat → Option Nat) (P : va_W) (S : Int → Int)  (hR : RI S) (hL : LRn G.2.1 S I F Q P) (hsz : (F 21) = S 5) (hat : 0 ≤ (F 22) ∧ (F 22) ≤ S 5) : CT l yX3_readUp cX3_readUp 1 (some .boolean) 6 0 0 G [.ref (A 47)] (CW A D (A 11) G.2.1 I F Q P) (fun vo wo => ∃ (g22 : Int) (g23 : Int), vo = some (.int (J (bI (48 ≤ (hr S (S 5) (F 22)) ∧ (hr S (S 5) (F 22)) ≤ 57)))) ∧ wo = CW A D (A 11) G.2.1 I (fu (fu F 22 g22) 23 g23) Q P ∧ (g22 = (if 48 ≤ (hr S (S 5) (F 22)) ∧ (hr S (S 5) (F 22)) ≤ 57 then fgs S (S 5) (F 22) else (F 22)) ∧ g23 = (if 48 ≤ (hr S (S 5) (F 22)) ∧ (hr S (S 5) (F 22)) ≤ 57 then fgv S (S 5) (F 22) else -1))) := by
  refine CT_of (own := RX3) rfl rfl (Nat.le_of_ble_eq_true rfl) (fun K hl hnL hC hRT hin => ?_)
  subst hl
  show WW K G 0 0 (CW A D (A 11) G.2.1 I F Q P) 0 [(0, .ref (A 47))] []
  have hn := hR.n
  have hbd := hR.bd
  have htp := hR.tp
  have hv := rnv (S := S) (e := S 5) (p := F 22)
  refine w_aload_n (pc := 0) hC dX3_readUp_0 0 rfl rfl ?_
  refine w_aload_n (pc := 1) hC dX3_readUp_1 0 rfl rfl ?_
  refine w_callV (pc := 2) (As := []) (rest := [.ref (A 47)]) hC dX3_readUp_2 cv_X3_89 (c_X3_readNumber (kl K) G A D I F Q P S (show RI S from by first | assumption | omega) (show LRn G.2.1 S I F Q P from by exact hL) (show (F 21) = S 5 from by first | assumption | omega) (show 0 ≤ (F 22) ∧ (F 22) ≤ S 5 from by first | assumption | omega)) (by decide) ⟨Nat.le_of_ble_eq_true rfl, Nat.le_of_ble_eq_true rfl⟩ (q0 := 47) CW_47 rfl rfl rfl (Nat.le_of_ble_eq_true rfl) rfl (fun vo wo hv => ?_)
  obtain ⟨g22_2, hv1, hw1, r2⟩ := hv
  rw [hv1, hw1]
  show WW K G 0 0 (CW A D (A 11) G.2.1 I (fu F 22 g22_2) Q P) 5 [(0, .ref (A 47))] [.int (J (if 48 ≤ (hr S (S 5) (F 22)) ∧ (hr S (S 5) (F 22)) ≤ 57 then fgv S (S 5) (F 22) else -1)), .ref (A 47)]
  have r2 : g22_2 = if 48 ≤ (hr S (S 5) (F 22)) ∧ (hr S (S 5) (F 22)) ≤ 57 then fgs S (S 5) (F 22) else (F 22) := r2
  refine w_putf (pc := 5) (w2 := CW A D (A 11) G.2.1 I (fu (fu F 22 g22_2) 23 (if 48 ≤ (hr S (S 5) (F 22)) ∧ (hr S (S 5) (F 22)) ≤ 57 then fgv S (S 5) (F 22) else -1)) Q P) hC dX3_readUp_5 fi_X3_29 fp_X3_5 rfl 47 CW_47 (rfl) (rfl) (Nat.le_of_ble_eq_true rfl) (CWf_23 rfl) ?_
  refine w_aload_n (pc := 8) hC dX3_readUp_8 0 rfl rfl ?_
  refine w_getf (pc := 9) (v := .int (J (if 48 ≤ (hr S (S 5) (F 22)) ∧ (hr S (S 5) (F 22)) ≤ 57 then fgv S (S 5) (F 22) else -1))) hC dX3_readUp_9 fi_X3_29 47 CW_47 rfl ?_
  refine w_if_lt (pc := 12) (tgt := 19) hC dX3_readUp_12 (by decide) (by omega) (fun c12 => ?_) (fun c12 => ?_)
  · refine w_iconst (pc := 19) hC dX3_readUp_19 ?_
    refine w_iret (pc := 20) hC hRT dX3_readUp_20 rfl ?_
    refine ⟨g22_2, if 48 ≤ (hr S (S 5) (F 22)) ∧ (hr S (S 5) (F 22)) ≤ 57 then fgv S (S 5) (F 22) else -1, retI (by first | exact (bI_t (hv.2.2 (by omega))).symm | exact (bI_f (hv.2.1 (by omega))).symm), rfl, ?_⟩
    · exact And.intro r2 rfl
  · refine w_iconst (pc := 15) hC dX3_readUp_15 ?_
    refine w_goto (pc := 16) hC dX3_readUp_16 (tgt := 20) (by decide) ?_
    refine w_iret (pc := 20) hC hRT dX3_readUp_20 rfl ?_
    refine ⟨g22_2, if 48 ≤ (hr S (S 5) (F 22)) ∧ (hr S (S 5) (F 22)) ≤ 57 then fgv S (S 5) (F 22) else -1, retI (by first | exact (bI_t (hv.2.2 (by omega))).symm | exact (bI_f (hv.2.1 (by omega))).symm), rfl, ?_⟩
    · exact And.intro r2 rfl
set_option maxRecDepth 100000 in
set_option maxHeartbeats 4000000 in
theorem c_X3_readWins (l : Launch) (G : GT) (A D : Nat → Nat) (I : Nat → Int → Int) (F : Nat → Int) (Q : Nat → Nat → Option Nat) (P : va_W) (S : Int → Int)  (hR : RI S) (hL : LRn G.2.1 S I F Q P) (hsz : (F 21) = S 5) (hat : 0 ≤ (F 22) ∧ (F 22) ≤ S 5) : CT l yX3_readWins cX3_readWins 1 (some .boolean) 5 0 0 G [.ref (A 47)] (CW A D (A 11) G.2.1 I F Q P) (fun vo wo => ∃ (g22 : Int) (g24 : Int), vo = some (.int (J (bI (0 ≤ SX 4 (hr S (S 5) (F 22)))))) ∧ wo = CW A D (A 11) G.2.1 I (fu (fu F 22 g22) 24 g24) Q P ∧ (g22 = (if SX 4 (hr S (S 5) (F 22)) = -1 then (F 22) else (F 22) + 1) ∧ g24 = SX 4 (hr S (S 5) (F 22)))) := by
  refine CT_of (own := RX3) rfl rfl (Nat.le_of_ble_eq_true rfl) (fun K hl hnL hC hRT hin => ?_)
  subst hl
  show WW K G 0 0 (CW A D (A 11) G.2.1 I F Q P) 0 [(0, .ref (A 47))] []
  have hn := hR.n
  have hbd := hR.bd
  have htp := hR.tp
  have hs4 := SX_bd (hr S (S 5) (F 22)) (show 4 < nST by decide)
  have hsl := stl_bd 4 (by decide)
  refine w_aload_n (pc := 0) hC dX3_readWins_0 0 rfl rfl ?_
  refine w_aload_n (pc := 1) hC dX3_readWins_1 0 rfl rfl ?_
  refine w_ldcS (pc := 2) (index := 93) (i := 4) (tx := "tco") hC dX3_readWins_2 (List.mem_of_getElem? (i := 4) rfl) ?_
  refine w_callV (pc := 4) (As := [.ref (G.2.2.1 4)]) (rest := [.ref (A 47)]) hC dX3_readWins_4 cv_X3_60 (c_X3_takeOneOf (kl K) G A D I F Q P S 4 (show RI S from by first | assumption | omega) (show LRn G.2.1 S I F Q P from by exact hL) (show (F 21) = S 5 from by first | assumption | omega) (show 0 ≤ (F 22) ∧ (F 22) ≤ S 5 from by first | assumption | omega) (show 4 < nST from by decide)) (by decide) ⟨Nat.le_of_ble_eq_true rfl, Nat.le_of_ble_eq_true rfl⟩ (q0 := 47) CW_47 rfl rfl rfl (Nat.le_of_ble_eq_true rfl) rfl (fun vo wo hv => ?_)
  obtain ⟨g22_4, hv1, hw1, r4⟩ := hv
  rw [hv1, hw1]
  show WW K G 0 0 (CW A D (A 11) G.2.1 I (fu F 22 g22_4) Q P) 7 [(0, .ref (A 47))] [.int (J (SX 4 (hr S (S 5) (F 22)))), .ref (A 47)]
  have r4 : g22_4 = if SX 4 (hr S (S 5) (F 22)) = -1 then (F 22) else (F 22) + 1 := r4
  refine w_putf (pc := 7) (w2 := CW A D (A 11) G.2.1 I (fu (fu F 22 g22_4) 24 (SX 4 (hr S (S 5) (F 22)))) Q P) hC dX3_readWins_7 fi_X3_34 fp_X3_6 rfl 47 CW_47 (rfl) (rfl) (Nat.le_of_ble_eq_true rfl) (CWf_24 rfl) ?_
  refine w_aload_n (pc := 10) hC dX3_readWins_10 0 rfl rfl ?_
  refine w_getf (pc := 11) (v := .int (J (SX 4 (hr S (S 5) (F 22))))) hC dX3_readWins_11 fi_X3_34 47 CW_47 rfl ?_
  refine w_if_lt (pc := 14) (tgt := 21) hC dX3_readWins_14 (by decide) (by omega) (fun c14 => ?_) (fun c14 => ?_)
  · refine w_iconst (pc := 21) hC dX3_readWins_21 ?_
    refine w_iret (pc := 22) hC hRT dX3_readWins_22 rfl ?_
    refine ⟨g22_4, SX 4 (hr S (S 5) (F 22)), retI (by first | rfl | exact (bI_t (by omega)).symm | exact (bI_f (by omega)).symm | omega), rfl, ?_⟩
    · exact And.intro r4 rfl
  · refine w_iconst (pc := 17) hC dX3_readWins_17 ?_
    refine w_goto (pc := 18) hC dX3_readWins_18 (tgt := 22) (by decide) ?_
    refine w_iret (pc := 22) hC hRT dX3_readWins_22 rfl ?_
    refine ⟨g22_4, SX 4 (hr S (S 5) (F 22)), retI (by first | rfl | exact (bI_t (by omega)).symm | exact (bI_f (by omega)).symm | omega), rfl, ?_⟩
    · exact And.intro r4 rfl
set_option maxRecDepth 100000 in
set_option maxHeartbeats 4000000 in
theorem c_X3_place (l : Launch) (G : GT) (A D : Nat → Nat) (I : Nat → Int → Int) (F : Nat → Int) (Q : Nat → Nat → Option Nat) (P : va_W)    : CT l yX3_place cX3_place 1 (some .int) 0 0 0 G [.ref (A 47)] (CW A D (A 11) G.2.1 I F Q P) (fun vo wo => vo = some (.int (J (F 22))) ∧ wo = CW A D (A 11) G.2.1 I F Q P) := by
  refine CT_of (own := RX3) rfl rfl (Nat.le_of_ble_eq_true rfl) (fun K hl hnL hC hRT hin => ?_)
  subst hl
  show WW K G 0 0 (CW A D (A 11) G.2.1 I F Q P) 0 [(0, .ref (A 47))] []
  refine w_aload_n (pc := 0) hC dX3_place_0 0 rfl rfl ?_
  refine w_getf (pc := 1) (v := .int (J (F 22))) hC dX3_place_1 fi_X3_26 47 CW_47 rfl ?_
  refine w_iret (pc := 4) hC hRT dX3_place_4 rfl ?_
  refine ⟨retI (by first | rfl | exact (bI_t (by omega)).symm | exact (bI_f (by omega)).symm | omega), rfl⟩
set_option maxRecDepth 100000 in
set_option maxHeartbeats 4000000 in
theorem c_X3_takeWord (l : Launch) (G : GT) (A D : Nat → Nat) (I : Nat → Int → Int) (F : Nat → Int) (Q : Nat → Nat → Option Nat) (P : va_W) (S : Int → Int) (i : Nat) (ql : List Int)  (hR : RI S) (hL : LRn G.2.1 S I F Q P) (hsz : (F 21) = S 5) (hat : 0 ≤ (F 22) ∧ (F 22) ≤ S 5) (hi : i < nST) : CT l yX3_takeWord cX3_takeWord 3 (some .boolean) 4 0 0 G [.ref (A 47), .ref (G.2.2.1 i)] (CW A D (A 11) G.2.1 I F Q P) (fun vo wo => ∃ (g22 : Int), vo = some (.int (J (bI ((spl S (S 5) i ((F 22), 0, ql)).2.1 = 0)))) ∧ wo = CW A D (A 11) G.2.1 I (fu F 22 g22) Q P ∧ (g22 = (spl S (S 5) i ((F 22), 0, ql)).1 ∧ (spl S (S 5) i ((F 22), 0, ql)).2.2 = ql)) := by
  refine CT_of (own := RX3) rfl rfl (Nat.le_of_ble_eq_true rfl) (fun K hl hnL hC hRT hin => ?_)
  subst hl
  show WW K G 0 0 (CW A D (A 11) G.2.1 I F Q P) 0 [(0, .ref (A 47)), (1, .ref (G.2.2.1 i))] []
  have hn := hR.n
  have hbd := hR.bd
  have htp := hR.tp
  have hsl := stl_bd i hi
  refine w_iconst (pc := 0) hC dX3_takeWord_0 ?_
  refine w_istore_n (pc := 1) hC dX3_takeWord_1 rfl (lv2 := [(2, .int (J 0)), (0, .ref (A 47)), (1, .ref (G.2.2.1 i))]) (by rw [hnL]; decide) rfl ?_
  have loop2 : ∀ (nF : Nat) (k : Int) (f22_2 : Int), (0 ≤ k ∧ k ≤ stl i) → (f22_2 = F 22 + k ∧ f22_2 ≤ S 5) → (spN S (S 5) i k.toNat (F 22, 0, ql) = (F 22 + k, 0, ql)) → (stl i - k) < (nF : Int) → WW K G 0 0 (CW A D (A 11) G.2.1 I (fu F 22 f22_2) Q P) 2 [(0, .ref (A 47)), (1, .ref (G.2.2.1 i)), (2, .int (J k))] [] := by
    intro nF
    induction nF with
    | zero => intro k f22_2 i1 i2 i3 hm2; exact absurd hm2 (by omega)
    | succ nF ih2 =>
      intro k f22_2 i1 i2 i3 hm2
      refine w_iload_n (pc := 2) hC dX3_takeWord_2 2 rfl rfl ?_
      refine w_aload_n (pc := 3) hC dX3_takeWord_3 1 rfl rfl ?_
      refine w_callVT (pc := 4) (As := []) (rest := [.int (J k)]) hC dX3_takeWord_4 cv_X3_111 (c_J0_length_8abf5 (kl K) G (CW A D (A 11) G.2.1 I (fu F 22 f22_2) Q P) i (show i < nST from by first | assumption | omega)) (by decide) ⟨Nat.le_of_ble_eq_true rfl, Nat.le_of_ble_eq_true rfl⟩ (i := i) hi rfl (Nat.le_of_ble_eq_true rfl) rfl (fun vo wo hv => ?_)
      obtain ⟨hv1, hw1⟩ := hv
      rw [hv1, hw1]
      show WW K G 0 0 (CW A D (A 11) G.2.1 I (fu F 22 f22_2) Q P) 7 [(0, .ref (A 47)), (1, .ref (G.2.2.1 i)), (2, .int (J k))] [.int (J (stl i)), .int (J k)]
      have q4_0 := stl_bd i (by assumption)
      refine w_icmp_ge (pc := 7) (tgt := 30) hC dX3_takeWord_7 (by decide) (by omega) (fun c7 => ?_) (fun c7 => ?_)
      · have e := i3
        rw [show k = stl i by omega] at e
        have e2 : spl S (S 5) i (F 22, 0, ql) = (F 22 + stl i, 0, ql) := e
        refine w_iconst (pc := 30) hC dX3_takeWord_30 ?_
        refine w_iret (pc := 31) hC hRT dX3_takeWord_31 rfl ?_
        refine ⟨f22_2, retI (by exact (bI_t (by rw [e2])).symm), rfl, ?_⟩
        · rw [e2]; exact And.intro (by show _ = F 22 + stl i; omega) rfl
      · have hc9 := stc_bd hi i1.1 (show k < stl i by omega)
        refine w_aload_n (pc := 10) hC dX3_takeWord_10 0 rfl rfl ?_
        refine w_aload_n (pc := 11) hC dX3_takeWord_11 1 rfl rfl ?_
        refine w_iload_n (pc := 12) hC dX3_takeWord_12 2 rfl rfl ?_
        refine w_callVT (pc := 13) (As := [.int (J k)]) (rest := [.ref (A 47)]) hC dX3_takeWord_13 cv_X3_115 (c_J0_charAt_5068e (kl K) G (CW A D (A 11) G.2.1 I (fu F 22 f22_2) Q P) i k (show i < nST from by first | assumption | omega) (show 0 ≤ k ∧ k < stl i from by first | assumption | omega)) (by decide) ⟨Nat.le_of_ble_eq_true rfl, Nat.le_of_ble_eq_true rfl⟩ (i := i) hi rfl (Nat.le_of_ble_eq_true rfl) rfl (fun vo wo hv => ?_)
        obtain ⟨hv1, hw1⟩ := hv
        rw [hv1, hw1]
        show WW K G 0 0 (CW A D (A 11) G.2.1 I (fu F 22 f22_2) Q P) 16 [(0, .ref (A 47)), (1, .ref (G.2.2.1 i)), (2, .int (J k))] [.int (J (stc i k)), .ref (A 47)]
        have q13_0 := stc_bd (by assumption : i < nST) (by omega : 0 ≤ k) (by omega)
        refine w_callV (pc := 16) (As := [.int (J (stc i k))]) (rest := []) hC dX3_takeWord_16 cv_X3_48 (c_X3_take (kl K) G A D I (fu F 22 f22_2) Q P S (stc i k) (show RI S from by first | assumption | omega) (show LRn G.2.1 S I (fu F 22 f22_2) Q P from by exact (LRb_fu (by decide) hL)) (show (F 21) = S 5 from by first | assumption | omega) (show 0 ≤ f22_2 ∧ f22_2 ≤ S 5 from by first | assumption | omega) (show 0 ≤ (stc i k) ∧ (stc i k) ≤ 127 from by first | assumption | omega)) (by decide) ⟨Nat.le_of_ble_eq_true rfl, Nat.le_of_ble_eq_true rfl⟩ (q0 := 47) CW_47 rfl rfl rfl (Nat.le_of_ble_eq_true rfl) rfl (fun vo wo hv => ?_)
        obtain ⟨g22_16, hv1, hw1, r16⟩ := hv
        rw [hv1, hw1]
        refine w_weq (CW_cong rfl (fu_th rfl fu_rp) rfl) ?_
        show WW K G 0 0 (CW A D (A 11) G.2.1 I (fu F 22 g22_16) Q P) 19 [(0, .ref (A 47)), (1, .ref (G.2.2.1 i)), (2, .int (J k))] [.int (J (bI ((hr S (S 5) f22_2) = (stc i k))))]
        have r16 : g22_16 = if (hr S (S 5) f22_2) = (stc i k) then f22_2 + 1 else f22_2 := r16
        refine w_if_ne_b (pc := 19) (tgt := 24) hC dX3_takeWord_19 (by decide) (fun c19 => ?_) (fun c19 => ?_)
        · have eT : g22_16 = f22_2 + 1 := by rw [r16, if_pos c19]
          have hlt := hr_at c19 hc9.1
          refine w_iinc (pc := 24) hC dX3_takeWord_24 (lv2 := [(2, .int (J (k + 1))), (0, .ref (A 47)), (1, .ref (G.2.2.1 i))]) 2 rfl (by rw [hnL]; decide) rfl ?_
          refine w_goto (pc := 27) hC dX3_takeWord_27 (tgt := 2) (by decide) ?_
          refine w_sub [1, 2, 0] (lv2 := [(0, .ref (A 47)), (1, .ref (G.2.2.1 i)), (2, .int (J (k + 1)))]) rfl ?_
          refine ih2 (k + 1) g22_16 ?_ ?_ ?_ ?_
          · first | assumption | omega
          · exact And.intro (by omega) (by omega)
          · exact spl_next i1.1 i3 (by rw [← i2.1]; exact c19)
          · omega
        · have eT : g22_16 = f22_2 := by rw [r16, if_neg c19]
          have e2 := spl_bad i1.1 (by omega) i3 (by rw [← i2.1]; exact c19)
          refine w_iconst (pc := 22) hC dX3_takeWord_22 ?_
          refine w_iret (pc := 23) hC hRT dX3_takeWord_23 rfl ?_
          refine ⟨g22_16, retI (by exact (bI_f (by rw [e2]; exact (by decide : ¬ (1 : Int) = 0))).symm), rfl, ?_⟩
          · rw [e2]; exact And.intro (by show _ = F 22 + k; omega) rfl
  refine w_weq (CW_cong rfl (fu_ms (k := 22) (v := F 22) rfl rfl rfl) rfl) ?_
  refine w_sub [1, 2, 0] (lv2 := [(0, .ref (A 47)), (1, .ref (G.2.2.1 i)), (2, .int (J 0))]) rfl ?_
  refine loop2 ((stl i - 0) + 1 : Int).toNat 0 (F 22) ?_ ?_ ?_ ?_
  · first | assumption | omega
  · exact And.intro (by omega) (by omega)
  · rw [Int.add_zero]; rfl
  · omega
def PG_rdr (l : Launch) (G : GT) (m : Nat) : Prop := (∀ (A D : Nat → Nat) (I : Nat → Int → Int) (F : Nat → Int) (Q : Nat → Nat → Option Nat) (P : va_W) (S : Int → Int) (ql : List Int) (opn : Int) (hR : RI S) (hL : LRn G.2.1 S I F Q P) (hsz : (F 21) = S 5) (hat : 0 ≤ (F 22) ∧ (F 22) ≤ S 5) (hq : (F 20) = (ql.length : Int) ∧ (ql.length : Int) ≤ (F 22)) (hcd : CD (I 48) ql) (ho : 0 ≤ opn ∧ opn ≤ 5) (hm : 3 * (5 - opn) + 0 ≤ ((m : Nat) : Int)), CT l yX3_readFactor cX3_readFactor 5 (some .boolean) (6 + m) 0 0 G [.ref (A 47), .int (J opn)] (CW A D (A 11) G.2.1 I F Q P) (fun vo wo => ∃ (b48 : Int → Int) (g20 : Int) (g22 : Int), vo = some (.int (J (bI (((fac S (S 5) (5 - (opn : Int)).toNat) ((F 22), 0, ql)).2.1 = 0)))) ∧ wo = CW A D (A 11) G.2.1 (au I 48 b48) (fu (fu F 20 g20) 22 g22) Q P ∧ (g22 = ((fac S (S 5) (5 - (opn : Int)).toNat) ((F 22), 0, ql)).1 ∧ (((fac S (S 5) (5 - (opn : Int)).toNat) ((F 22), 0, ql)).2.1 = 0 → g20 = (((fac S (S 5) (5 - (opn : Int)).toNat) ((F 22), 0, ql)).2.2.length : Int) ∧ CD b48 ((fac S (S 5) (5 - (opn : Int)).toNat) ((F 22), 0, ql)).2.2)))) ∧ (∀ (A D : Nat → Nat) (I : Nat → Int → Int) (F : Nat → Int) (Q : Nat → Nat → Option Nat) (P : va_W) (S : Int → Int) (ql : List Int) (opn : Int) (hR : RI S) (hL : LRn G.2.1 S I F Q P) (hsz : (F 21) = S 5) (hat : 0 ≤ (F 22) ∧ (F 22) ≤ S 5) (hq : (F 20) = (ql.length : Int) ∧ (ql.length : Int) ≤ (F 22)) (hcd : CD (I 48) ql) (ho : 0 ≤ opn ∧ opn ≤ 5) (hm : 3 * (5 - opn) + 1 ≤ ((m : Nat) : Int)), CT l yX3_readBoth cX3_readBoth 3 (some .boolean) (6 + m) 0 0 G [.ref (A 47), .int (J opn)] (CW A D (A 11) G.2.1 I F Q P) (fun vo wo => ∃ (b48 : Int → Int) (g20 : Int) (g22 : Int), vo = some (.int (J (bI (((evr S (S 5) (fac S (S 5) (5 - (opn : Int)).toNat)) ((F 22), 0, ql)).2.1 = 0)))) ∧ wo = CW A D (A 11) G.2.1 (au I 48 b48) (fu (fu F 20 g20) 22 g22) Q P ∧ (g22 = ((evr S (S 5) (fac S (S 5) (5 - (opn : Int)).toNat)) ((F 22), 0, ql)).1 ∧ (((evr S (S 5) (fac S (S 5) (5 - (opn : Int)).toNat)) ((F 22), 0, ql)).2.1 = 0 → g20 = (((evr S (S 5) (fac S (S 5) (5 - (opn : Int)).toNat)) ((F 22), 0, ql)).2.2.length : Int) ∧ CD b48 ((evr S (S 5) (fac S (S 5) (5 - (opn : Int)).toNat)) ((F 22), 0, ql)).2.2)))) ∧ (∀ (A D : Nat → Nat) (I : Nat → Int → Int) (F : Nat → Int) (Q : Nat → Nat → Option Nat) (P : va_W) (S : Int → Int) (ql : List Int) (opn : Int) (hR : RI S) (hL : LRn G.2.1 S I F Q P) (hsz : (F 21) = S 5) (hat : 0 ≤ (F 22) ∧ (F 22) ≤ S 5) (hq : (F 20) = (ql.length : Int) ∧ (ql.length : Int) ≤ (F 22)) (hcd : CD (I 48) ql) (ho : 0 ≤ opn ∧ opn ≤ 5) (hm : 3 * (5 - opn) + 2 ≤ ((m : Nat) : Int)), CT l yX3_readEither cX3_readEither 3 (some .boolean) (6 + m) 0 0 G [.ref (A 47), .int (J opn)] (CW A D (A 11) G.2.1 I F Q P) (fun vo wo => ∃ (b48 : Int → Int) (g20 : Int) (g22 : Int), vo = some (.int (J (bI (((som S (S 5) (fac S (S 5) (5 - (opn : Int)).toNat)) ((F 22), 0, ql)).2.1 = 0)))) ∧ wo = CW A D (A 11) G.2.1 (au I 48 b48) (fu (fu F 20 g20) 22 g22) Q P ∧ (g22 = ((som S (S 5) (fac S (S 5) (5 - (opn : Int)).toNat)) ((F 22), 0, ql)).1 ∧ (((som S (S 5) (fac S (S 5) (5 - (opn : Int)).toNat)) ((F 22), 0, ql)).2.1 = 0 → g20 = (((som S (S 5) (fac S (S 5) (5 - (opn : Int)).toNat)) ((F 22), 0, ql)).2.2.length : Int) ∧ CD b48 ((som S (S 5) (fac S (S 5) (5 - (opn : Int)).toNat)) ((F 22), 0, ql)).2.2))))
set_option maxRecDepth 100000 in
set_option maxHeartbeats 4000000 in
theorem r_X3_readFactor (l : Launch) (G : GT) (m : Nat) (IH : ∀ m2 : Nat, m2 < m → PG_rdr l G m2) (A D : Nat → Nat) (I : Nat → Int → Int) (F : Nat → Int) (Q : Nat → Nat → Option Nat) (P : va_W) (S : Int → Int) (ql : List Int) (opn : Int) (hR : RI S) (hL : LRn G.2.1 S I F Q P) (hsz : (F 21) = S 5) (hat : 0 ≤ (F 22) ∧ (F 22) ≤ S 5) (hq : (F 20) = (ql.length : Int) ∧ (ql.length : Int) ≤ (F 22)) (hcd : CD (I 48) ql) (ho : 0 ≤ opn ∧ opn ≤ 5) (hm : 3 * (5 - opn) + 0 ≤ ((m : Nat) : Int)) : CT l yX3_readFactor cX3_readFactor 5 (some .boolean) (6 + m) 0 0 G [.ref (A 47), .int (J opn)] (CW A D (A 11) G.2.1 I F Q P) (fun vo wo => ∃ (b48 : Int → Int) (g20 : Int) (g22 : Int), vo = some (.int (J (bI (((fac S (S 5) (5 - (opn : Int)).toNat) ((F 22), 0, ql)).2.1 = 0)))) ∧ wo = CW A D (A 11) G.2.1 (au I 48 b48) (fu (fu F 20 g20) 22 g22) Q P ∧ (g22 = ((fac S (S 5) (5 - (opn : Int)).toNat) ((F 22), 0, ql)).1 ∧ (((fac S (S 5) (5 - (opn : Int)).toNat) ((F 22), 0, ql)).2.1 = 0 → g20 = (((fac S (S 5) (5 - (opn : Int)).toNat) ((F 22), 0, ql)).2.2.length : Int) ∧ CD b48 ((fac S (S 5) (5 - (opn : Int)).toNat) ((F 22), 0, ql)).2.2))) := by
  refine CT_of (own := RX3) rfl rfl (Nat.le_of_ble_eq_true rfl) (fun K hl hnL hC hRT hin => ?_)
  subst hl
  show WW K G 0 0 (CW A D (A 11) G.2.1 I F Q P) 0 [(0, .ref (A 47)), (1, .int (J opn))] []
  have hn := hR.n
  have hbd := hR.bd
  have htp := hR.tp
  refine w_iload_n (pc := 0) hC dX3_readFactor_0 1 rfl rfl ?_
  refine w_iconst (pc := 1) hC dX3_readFactor_1 ?_
  refine w_icmp_ge (pc := 2) (tgt := 38) hC dX3_readFactor_2 (by decide) (by omega) (fun c2 => ?_) (fun c2 => ?_)
  · refine w_iload_n (pc := 38) hC dX3_readFactor_38 1 rfl rfl ?_
    refine w_iconst (pc := 39) hC dX3_readFactor_39 ?_
    refine w_icmp_ge (pc := 40) (tgt := 77) hC dX3_readFactor_40 (by decide) (by omega) (fun c40 => ?_) (fun c40 => ?_)
    · have fA := fac_at (S := S) (e := S 5) (p := F 22) (l := ql) (n := (5 - opn).toNat) (by omega)
      have hs6 := SX_bd (hr S (S 5) (F 22)) (show 6 < nST by decide)
      have hs7 := SX_bd (hr S (S 5) (F 22 + 1)) (show 7 < nST by decide)
      have hl6 : stl 6 = 6 := rfl
      have hl7 : stl 7 = 3 := rfl
      have hv := rnv (S := S) (e := S 5) (p := F 22 + 1 + 1)
      refine w_aload_n (pc := 77) hC dX3_readFactor_77 0 rfl rfl ?_
      refine w_ldcS (pc := 78) (index := 101) (i := 6) (tx := "abrucd") hC dX3_readFactor_78 (List.mem_of_getElem? (i := 6) rfl) ?_
      refine w_callV (pc := 80) (As := [.ref (G.2.2.1 6)]) (rest := []) hC dX3_readFactor_80 cv_X3_60 (c_X3_takeOneOf (kl K) G A D I F Q P S 6 (show RI S from by first | assumption | omega) (show LRn G.2.1 S I F Q P from by exact hL) (show (F 21) = S 5 from by first | assumption | omega) (show 0 ≤ (F 22) ∧ (F 22) ≤ S 5 from by first | assumption | omega) (show 6 < nST from by decide)) (by omega) ⟨Nat.le_of_ble_eq_true rfl, Nat.le_of_ble_eq_true rfl⟩ (q0 := 47) CW_47 rfl rfl rfl (Nat.le_of_ble_eq_true rfl) rfl (fun vo wo hv => ?_)
      obtain ⟨g22_80, hv1, hw1, r80⟩ := hv
      rw [hv1, hw1]
      show WW K G 0 0 (CW A D (A 11) G.2.1 I (fu F 22 g22_80) Q P) 83 [(0, .ref (A 47)), (1, .int (J opn))] [.int (J (SX 6 (hr S (S 5) (F 22))))]
      have r80 : g22_80 = if SX 6 (hr S (S 5) (F 22)) = -1 then (F 22) else (F 22) + 1 := r80
      refine w_istore_n (pc := 83) hC dX3_readFactor_83 rfl (lv2 := [(2, .int (J (SX 6 (hr S (S 5) (F 22))))), (0, .ref (A 47)), (1, .int (J opn))]) (by rw [hnL]; decide) rfl ?_
      refine w_iload_n (pc := 84) hC dX3_readFactor_84 0 rfl rfl ?_
      refine w_if_ge (pc := 85) (tgt := 92) hC dX3_readFactor_85 (by decide) (by omega) (fun c85 => ?_) (fun c85 => ?_)
      · have eT80 : g22_80 = (F 22 + 1) := by rw [r80, if_neg (by omega)]
        have hlt80 := sx_lt (S := S) (e := S 5) (show 6 < nST by decide) c85
        rw [eT80]
        show WW K G 0 0 (CW A D (A 11) G.2.1 I (fu F 22 (F 22 + 1)) Q P) 92 [(2, .int (J (SX 6 (hr S (S 5) (F 22))))), (0, .ref (A 47)), (1, .int (J opn))] []
        refine w_aload_n (pc := 92) hC dX3_readFactor_92 1 rfl rfl ?_
        refine w_ldcS (pc := 93) (index := 103) (i := 7) (tx := "<=>") hC dX3_readFactor_93 (List.mem_of_getElem? (i := 7) rfl) ?_
        refine w_callV (pc := 95) (As := [.ref (G.2.2.1 7)]) (rest := []) hC dX3_readFactor_95 cv_X3_60 (c_X3_takeOneOf (kl K) G A D I (fu F 22 (F 22 + 1)) Q P S 7 (show RI S from by first | assumption | omega) (show LRn G.2.1 S I (fu F 22 (F 22 + 1)) Q P from by exact (LRb_fu (by decide) hL)) (show (F 21) = S 5 from by first | assumption | omega) (show 0 ≤ (F 22 + 1) ∧ (F 22 + 1) ≤ S 5 from by first | assumption | omega) (show 7 < nST from by decide)) (by omega) ⟨Nat.le_of_ble_eq_true rfl, Nat.le_of_ble_eq_true rfl⟩ (q0 := 47) CW_47 rfl rfl rfl (Nat.le_of_ble_eq_true rfl) rfl (fun vo wo hv => ?_)
        obtain ⟨g22_95, hv1, hw1, r95⟩ := hv
        rw [hv1, hw1]
        refine w_weq (CW_cong rfl (fu_th rfl fu_rp) rfl) ?_
        show WW K G 0 0 (CW A D (A 11) G.2.1 I (fu F 22 g22_95) Q P) 98 [(2, .int (J (SX 6 (hr S (S 5) (F 22))))), (0, .ref (A 47)), (1, .int (J opn))] [.int (J (SX 7 (hr S (S 5) (F 22 + 1))))]
        have r95 : g22_95 = if SX 7 (hr S (S 5) (F 22 + 1)) = -1 then (F 22 + 1) else (F 22 + 1) + 1 := r95
        refine w_istore_n (pc := 98) hC dX3_readFactor_98 rfl (lv2 := [(3, .int (J (SX 7 (hr S (S 5) (F 22 + 1))))), (2, .int (J (SX 6 (hr S (S 5) (F 22))))), (0, .ref (A 47)), (1, .int (J opn))]) (by rw [hnL]; decide) rfl ?_
        refine w_iload_n (pc := 99) hC dX3_readFactor_99 0 rfl rfl ?_
        refine w_if_ge (pc := 100) (tgt := 107) hC dX3_readFactor_100 (by decide) (by omega) (fun c100 => ?_) (fun c100 => ?_)
        · have eT95 : g22_95 = (F 22 + 1 + 1) := by rw [r95, if_neg (by omega)]
          have hlt95 := sx_lt (S := S) (e := S 5) (show 7 < nST by decide) c100
          rw [eT95]
          show WW K G 0 0 (CW A D (A 11) G.2.1 I (fu F 22 (F 22 + 1 + 1)) Q P) 107 [(3, .int (J (SX 7 (hr S (S 5) (F 22 + 1))))), (2, .int (J (SX 6 (hr S (S 5) (F 22))))), (0, .ref (A 47)), (1, .int (J opn))] []
          refine w_aload_n (pc := 107) hC dX3_readFactor_107 2 rfl rfl ?_
          refine w_callV (pc := 108) (As := []) (rest := []) hC dX3_readFactor_108 cv_X3_89 (c_X3_readNumber (kl K) G A D I (fu F 22 (F 22 + 1 + 1)) Q P S (show RI S from by first | assumption | omega) (show LRn G.2.1 S I (fu F 22 (F 22 + 1 + 1)) Q P from by exact (LRb_fu (by decide) hL)) (show (F 21) = S 5 from by first | assumption | omega) (show 0 ≤ (F 22 + 1 + 1) ∧ (F 22 + 1 + 1) ≤ S 5 from by first | assumption | omega)) (by omega) ⟨Nat.le_of_ble_eq_true rfl, Nat.le_of_ble_eq_true rfl⟩ (q0 := 47) CW_47 rfl rfl rfl (Nat.le_of_ble_eq_true rfl) rfl (fun vo wo hv => ?_)
          obtain ⟨g22_108, hv1, hw1, r108⟩ := hv
          rw [hv1, hw1]
          refine w_weq (CW_cong rfl (fu_th rfl fu_rp) rfl) ?_
          show WW K G 0 0 (CW A D (A 11) G.2.1 I (fu F 22 g22_108) Q P) 111 [(3, .int (J (SX 7 (hr S (S 5) (F 22 + 1))))), (2, .int (J (SX 6 (hr S (S 5) (F 22))))), (0, .ref (A 47)), (1, .int (J opn))] [.int (J (if 48 ≤ (hr S (S 5) (F 22 + 1 + 1)) ∧ (hr S (S 5) (F 22 + 1 + 1)) ≤ 57 then fgv S (S 5) (F 22 + 1 + 1) else -1))]
          have r108 : g22_108 = if 48 ≤ (hr S (S 5) (F 22 + 1 + 1)) ∧ (hr S (S 5) (F 22 + 1 + 1)) ≤ 57 then fgs S (S 5) (F 22 + 1 + 1) else (F 22 + 1 + 1) := r108
          refine w_istore (pc := 111) hC dX3_readFactor_111 (lv2 := [(4, .int (J (if 48 ≤ (hr S (S 5) (F 22 + 1 + 1)) ∧ (hr S (S 5) (F 22 + 1 + 1)) ≤ 57 then fgv S (S 5) (F 22 + 1 + 1) else -1))), (3, .int (J (SX 7 (hr S (S 5) (F 22 + 1))))), (2, .int (J (SX 6 (hr S (S 5) (F 22))))), (0, .ref (A 47)), (1, .int (J opn))]) (by rw [hnL]; decide) rfl ?_
          refine w_iload (pc := 113) hC dX3_readFactor_113 0 rfl ?_
          refine w_if_lt (pc := 115) (tgt := 136) hC dX3_readFactor_115 (by decide) (by omega) (fun c115 => ?_) (fun c115 => ?_)
          · have hd := hv.2.1 (by omega)
            have eP : g22_108 = F 22 + 1 + 1 := by rw [r108, if_neg hd]
            have eA := atm_d (l := ql) (show 0 ≤ SX 6 (hr S (S 5) (F 22)) by omega) (show 0 ≤ SX 7 (hr S (S 5) (F 22 + 1)) by omega) hd
            refine w_iconst (pc := 136) hC dX3_readFactor_136 ?_
            refine w_iret (pc := 137) hC hRT dX3_readFactor_137 rfl ?_
            refine ⟨(I 48), (F 20), g22_108, retI (by exact (bI_f (by rw [fA, eA]; exact (by decide : ¬ (1 : Int) = 0))).symm), CW_cong (au_ms (k := 48) (v := I 48) rfl rfl rfl) (fu_ms (k := 20) (v := F 20) rfl (fu_cm (by decide) rfl) rfl) rfl, ?_⟩
            · exact And.intro (by rw [fA, eA]; exact eP) (fun z => absurd z (by rw [fA, eA]; exact (by decide : ¬ (1 : Int) = 0)))
          · have hd := hv.2.2 (by omega)
            have hf := fgs_b hd
            have e108 : g22_108 = fgs S (S 5) (F 22 + 1 + 1) := by rw [r108, if_pos hd]
            have eA := atm_k (l := ql) (show 0 ≤ SX 6 (hr S (S 5) (F 22)) by omega) (show 0 ≤ SX 7 (hr S (S 5) (F 22 + 1)) by omega) hd
            refine w_aload_n (pc := 118) hC dX3_readFactor_118 3 rfl rfl ?_
            refine w_iload_n (pc := 119) hC dX3_readFactor_119 2 rfl rfl ?_
            refine w_iload_n (pc := 120) hC dX3_readFactor_120 1 rfl rfl ?_
            refine w_iload (pc := 121) hC dX3_readFactor_121 0 rfl ?_
            refine w_callX (pc := 123) (As := [.int (J (SX 6 (hr S (S 5) (F 22)))), .int (J (SX 7 (hr S (S 5) (F 22 + 1)))), .int (J (if 48 ≤ (hr S (S 5) (F 22 + 1 + 1)) ∧ (hr S (S 5) (F 22 + 1 + 1)) ≤ 57 then fgv S (S 5) (F 22 + 1 + 1) else -1))]) (rest := [.ref (A 47)]) hC dX3_readFactor_123 cx_X3_105 (c_X2_testOf (kl K) G (CW A D (A 11) G.2.1 I (fu F 22 g22_108) Q P) (SX 6 (hr S (S 5) (F 22))) (SX 7 (hr S (S 5) (F 22 + 1))) (if 48 ≤ (hr S (S 5) (F 22 + 1 + 1)) ∧ (hr S (S 5) (F 22 + 1 + 1)) ≤ 57 then fgv S (S 5) (F 22 + 1 + 1) else -1)) (by omega) ⟨Nat.le_of_ble_eq_true rfl, Nat.le_of_ble_eq_true rfl⟩ rfl (Nat.le_of_ble_eq_true rfl) rfl (fun vo wo hv => ?_)
            obtain ⟨hv1, hw1⟩ := hv
            rw [hv1, hw1]
            show WW K G 0 0 (CW A D (A 11) G.2.1 I (fu F 22 g22_108) Q P) 126 [(4, .int (J (if 48 ≤ (hr S (S 5) (F 22 + 1 + 1)) ∧ (hr S (S 5) (F 22 + 1 + 1)) ≤ 57 then fgv S (S 5) (F 22 + 1 + 1) else -1))), (3, .int (J (SX 7 (hr S (S 5) (F 22 + 1))))), (2, .int (J (SX 6 (hr S (S 5) (F 22))))), (0, .ref (A 47)), (1, .int (J opn))] [.int (J (((SX 6 (hr S (S 5) (F 22))) * 3 + (SX 7 (hr S (S 5) (F 22 + 1)))) * 100 + (if 48 ≤ (hr S (S 5) (F 22 + 1 + 1)) ∧ (hr S (S 5) (F 22 + 1 + 1)) ≤ 57 then fgv S (S 5) (F 22 + 1 + 1) else -1))), .ref (A 47)]
            refine w_callV (pc := 126) (As := [.int (J (((SX 6 (hr S (S 5) (F 22))) * 3 + (SX 7 (hr S (S 5) (F 22 + 1)))) * 100 + (if 48 ≤ (hr S (S 5) (F 22 + 1 + 1)) ∧ (hr S (S 5) (F 22 + 1 + 1)) ≤ 57 then fgv S (S 5) (F 22 + 1 + 1) else -1)))]) (rest := []) hC dX3_readFactor_126 cv_X3_84 (c_X3_put (kl K) G A D I (fu F 22 g22_108) Q P S (((SX 6 (hr S (S 5) (F 22))) * 3 + (SX 7 (hr S (S 5) (F 22 + 1)))) * 100 + (if 48 ≤ (hr S (S 5) (F 22 + 1 + 1)) ∧ (hr S (S 5) (F 22 + 1 + 1)) ≤ 57 then fgv S (S 5) (F 22 + 1 + 1) else -1)) (show RI S from by first | assumption | omega) (show LRn G.2.1 S I (fu F 22 g22_108) Q P from by exact (LRb_fu (by decide) hL)) (show (F 21) = S 5 from by first | assumption | omega) (show 0 ≤ g22_108 ∧ g22_108 ≤ S 5 from by first | assumption | omega) (show 0 ≤ (F 20) ∧ (F 20) < 120 from by first | assumption | omega)) (by omega) ⟨Nat.le_of_ble_eq_true rfl, Nat.le_of_ble_eq_true rfl⟩ (q0 := 47) CW_47 rfl rfl rfl (Nat.le_of_ble_eq_true rfl) rfl (fun vo wo hv => ?_)
            obtain ⟨b48_126, g20_126, hv1, hw1, r126⟩ := hv
            rw [hv1, hw1]
            refine w_weq (CW_cong rfl (fu_th rfl (fu_cm (by decide) rfl)) rfl) ?_
            show WW K G 0 0 (CW A D (A 11) G.2.1 (au I 48 b48_126) (fu (fu F 20 g20_126) 22 g22_108) Q P) 129 [(4, .int (J (if 48 ≤ (hr S (S 5) (F 22 + 1 + 1)) ∧ (hr S (S 5) (F 22 + 1 + 1)) ≤ 57 then fgv S (S 5) (F 22 + 1 + 1) else -1))), (3, .int (J (SX 7 (hr S (S 5) (F 22 + 1))))), (2, .int (J (SX 6 (hr S (S 5) (F 22))))), (0, .ref (A 47)), (1, .int (J opn))] [.int (J 1)]
            have r126 : b48_126 = gu (I 48) (F 20) (((SX 6 (hr S (S 5) (F 22))) * 3 + (SX 7 (hr S (S 5) (F 22 + 1)))) * 100 + (if 48 ≤ (hr S (S 5) (F 22 + 1 + 1)) ∧ (hr S (S 5) (F 22 + 1 + 1)) ≤ 57 then fgv S (S 5) (F 22 + 1 + 1) else -1)) ∧ g20_126 = (F 20) + 1 := r126
            refine w_if_eq (pc := 129) (tgt := 136) hC dX3_readFactor_129 (by decide) (by omega) (fun c129 => ?_) (fun c129 => ?_)
            · exact absurd c129 (by decide)
            · refine w_iconst (pc := 132) hC dX3_readFactor_132 ?_
              refine w_goto (pc := 133) hC dX3_readFactor_133 (tgt := 137) (by decide) ?_
              refine w_iret (pc := 137) hC hRT dX3_readFactor_137 rfl ?_
              refine ⟨b48_126, g20_126, g22_108, retI (by exact (bI_t (by rw [fA, eA])).symm), rfl, ?_⟩
              · rw [fA, eA]
                exact And.intro (by rw [r108, if_pos hd]) (fun _ => And.intro (by show _ = ((ql ++ [SX 6 (hr S (S 5) (F 22)) + 8 * SX 7 (hr S (S 5) (F 22 + 1)) + 32 * fgv S (S 5) (F 22 + 1 + 1)]).length : Int); have w1 := r126.2; have w2 := hq.1; rw [List.length_append, List.length_singleton]; omega) (CD_put hcd hq.1 r126.1 (by rw [if_pos hd, cde_at (by omega) (by omega) (fg_b hd).1])))
        · refine w_iconst (pc := 103) hC dX3_readFactor_103 ?_
          refine w_goto (pc := 104) hC dX3_readFactor_104 (tgt := 111) (by decide) ?_
          refine w_istore (pc := 111) hC dX3_readFactor_111 (lv2 := [(4, .int (J (-1))), (3, .int (J (SX 7 (hr S (S 5) (F 22 + 1))))), (2, .int (J (SX 6 (hr S (S 5) (F 22))))), (0, .ref (A 47)), (1, .int (J opn))]) (by rw [hnL]; decide) rfl ?_
          refine w_iload (pc := 113) hC dX3_readFactor_113 0 rfl ?_
          refine w_if_lt (pc := 115) (tgt := 136) hC dX3_readFactor_115 (by decide) (by omega) (fun c115 => ?_) (fun c115 => ?_)
          · have eP : g22_95 = F 22 + 1 := by rw [r95, if_pos (by omega)]
            have eA := atm_7 (l := ql) (show 0 ≤ SX 6 (hr S (S 5) (F 22)) by omega) (show SX 7 (hr S (S 5) (F 22 + 1)) < 0 by omega)
            refine w_iconst (pc := 136) hC dX3_readFactor_136 ?_
            refine w_iret (pc := 137) hC hRT dX3_readFactor_137 rfl ?_
            refine ⟨(I 48), (F 20), g22_95, retI (by exact (bI_f (by rw [fA, eA]; exact (by decide : ¬ (1 : Int) = 0))).symm), CW_cong (au_ms (k := 48) (v := I 48) rfl rfl rfl) (fu_ms (k := 20) (v := F 20) rfl (fu_cm (by decide) rfl) rfl) rfl, ?_⟩
            · exact And.intro (by rw [fA, eA]; exact eP) (fun z => absurd z (by rw [fA, eA]; exact (by decide : ¬ (1 : Int) = 0)))
          · exact absurd c115 (by decide)
      · refine w_iconst (pc := 88) hC dX3_readFactor_88 ?_
        refine w_goto (pc := 89) hC dX3_readFactor_89 (tgt := 98) (by decide) ?_
        refine w_istore_n (pc := 98) hC dX3_readFactor_98 rfl (lv2 := [(3, .int (J (-1))), (2, .int (J (SX 6 (hr S (S 5) (F 22))))), (0, .ref (A 47)), (1, .int (J opn))]) (by rw [hnL]; decide) rfl ?_
        refine w_iload_n (pc := 99) hC dX3_readFactor_99 0 rfl rfl ?_
        refine w_if_ge (pc := 100) (tgt := 107) hC dX3_readFactor_100 (by decide) (by omega) (fun c100 => ?_) (fun c100 => ?_)
        · exact absurd c100 (by decide)
        · refine w_iconst (pc := 103) hC dX3_readFactor_103 ?_
          refine w_goto (pc := 104) hC dX3_readFactor_104 (tgt := 111) (by decide) ?_
          refine w_istore (pc := 111) hC dX3_readFactor_111 (lv2 := [(4, .int (J (-1))), (3, .int (J (-1))), (2, .int (J (SX 6 (hr S (S 5) (F 22))))), (0, .ref (A 47)), (1, .int (J opn))]) (by rw [hnL]; decide) rfl ?_
          refine w_iload (pc := 113) hC dX3_readFactor_113 0 rfl ?_
          refine w_if_lt (pc := 115) (tgt := 136) hC dX3_readFactor_115 (by decide) (by omega) (fun c115 => ?_) (fun c115 => ?_)
          · have eP : g22_80 = F 22 := by rw [r80, if_pos (by omega)]
            have eA := atm_6 (l := ql) (show SX 6 (hr S (S 5) (F 22)) < 0 by omega)
            refine w_iconst (pc := 136) hC dX3_readFactor_136 ?_
            refine w_iret (pc := 137) hC hRT dX3_readFactor_137 rfl ?_
            refine ⟨(I 48), (F 20), g22_80, retI (by exact (bI_f (by rw [fA, eA]; exact (by decide : ¬ (1 : Int) = 0))).symm), CW_cong (au_ms (k := 48) (v := I 48) rfl rfl rfl) (fu_ms (k := 20) (v := F 20) rfl (fu_cm (by decide) rfl) rfl) rfl, ?_⟩
            · exact And.intro (by rw [fA, eA]; exact eP) (fun z => absurd z (by rw [fA, eA]; exact (by decide : ¬ (1 : Int) = 0)))
          · exact absurd c115 (by decide)
    · exfalso; omega
  · refine w_aload_n (pc := 5) hC dX3_readFactor_5 0 rfl rfl ?_
    refine w_bipush (pc := 6) hC dX3_readFactor_6 (z := 33) rfl ?_
    refine w_callV (pc := 8) (As := [.int (J 33)]) (rest := []) hC dX3_readFactor_8 cv_X3_48 (c_X3_take (kl K) G A D I F Q P S 33 (show RI S from by first | assumption | omega) (show LRn G.2.1 S I F Q P from by exact hL) (show (F 21) = S 5 from by first | assumption | omega) (show 0 ≤ (F 22) ∧ (F 22) ≤ S 5 from by first | assumption | omega) (show 0 ≤ 33 ∧ 33 ≤ 127 from by decide)) (by omega) ⟨Nat.le_of_ble_eq_true rfl, Nat.le_of_ble_eq_true rfl⟩ (q0 := 47) CW_47 rfl rfl rfl (Nat.le_of_ble_eq_true rfl) rfl (fun vo wo hv => ?_)
    obtain ⟨g22_8, hv1, hw1, r8⟩ := hv
    rw [hv1, hw1]
    show WW K G 0 0 (CW A D (A 11) G.2.1 I (fu F 22 g22_8) Q P) 11 [(0, .ref (A 47)), (1, .int (J opn))] [.int (J (bI ((hr S (S 5) (F 22)) = 33)))]
    have r8 : g22_8 = if (hr S (S 5) (F 22)) = 33 then (F 22) + 1 else (F 22) := r8
    refine w_if_eq_b (pc := 11) (tgt := 38) hC dX3_readFactor_11 (by decide) (fun c11 => ?_) (fun c11 => ?_)
    · have eT8 : g22_8 = (F 22) := by rw [r8, if_neg c11]
      rw [eT8]
      show WW K G 0 0 (CW A D (A 11) G.2.1 I (fu F 22 (F 22)) Q P) 38 [(0, .ref (A 47)), (1, .int (J opn))] []
      refine w_iload_n (pc := 38) hC dX3_readFactor_38 1 rfl rfl ?_
      refine w_iconst (pc := 39) hC dX3_readFactor_39 ?_
      refine w_icmp_ge (pc := 40) (tgt := 77) hC dX3_readFactor_40 (by decide) (by omega) (fun c40 => ?_) (fun c40 => ?_)
      · exfalso; omega
      · refine w_aload_n (pc := 43) hC dX3_readFactor_43 0 rfl rfl ?_
        refine w_bipush (pc := 44) hC dX3_readFactor_44 (z := 40) rfl ?_
        refine w_callV (pc := 46) (As := [.int (J 40)]) (rest := []) hC dX3_readFactor_46 cv_X3_48 (c_X3_take (kl K) G A D I (fu F 22 (F 22)) Q P S 40 (show RI S from by first | assumption | omega) (show LRn G.2.1 S I (fu F 22 (F 22)) Q P from by exact (LRb_fu (by decide) hL)) (show (F 21) = S 5 from by first | assumption | omega) (show 0 ≤ (F 22) ∧ (F 22) ≤ S 5 from by first | assumption | omega) (show 0 ≤ 40 ∧ 40 ≤ 127 from by decide)) (by omega) ⟨Nat.le_of_ble_eq_true rfl, Nat.le_of_ble_eq_true rfl⟩ (q0 := 47) CW_47 rfl rfl rfl (Nat.le_of_ble_eq_true rfl) rfl (fun vo wo hv => ?_)
        obtain ⟨g22_46, hv1, hw1, r46⟩ := hv
        rw [hv1, hw1]
        refine w_weq (CW_cong rfl (fu_th rfl fu_rp) rfl) ?_
        show WW K G 0 0 (CW A D (A 11) G.2.1 I (fu F 22 g22_46) Q P) 49 [(0, .ref (A 47)), (1, .int (J opn))] [.int (J (bI ((hr S (S 5) (F 22)) = 40)))]
        have r46 : g22_46 = if (hr S (S 5) (F 22)) = 40 then (F 22) + 1 else (F 22) := r46
        refine w_if_eq_b (pc := 49) (tgt := 77) hC dX3_readFactor_49 (by decide) (fun c49 => ?_) (fun c49 => ?_)
        · have eT46 : g22_46 = (F 22) := by rw [r46, if_neg c49]
          rw [eT46]
          show WW K G 0 0 (CW A D (A 11) G.2.1 I (fu F 22 (F 22)) Q P) 77 [(0, .ref (A 47)), (1, .int (J opn))] []
          have fA := fac_at (S := S) (e := S 5) (p := F 22) (l := ql) (n := (5 - opn).toNat) (by omega)
          have hs6 := SX_bd (hr S (S 5) (F 22)) (show 6 < nST by decide)
          have hs7 := SX_bd (hr S (S 5) (F 22 + 1)) (show 7 < nST by decide)
          have hl6 : stl 6 = 6 := rfl
          have hl7 : stl 7 = 3 := rfl
          have hv := rnv (S := S) (e := S 5) (p := F 22 + 1 + 1)
          refine w_aload_n (pc := 77) hC dX3_readFactor_77 0 rfl rfl ?_
          refine w_ldcS (pc := 78) (index := 101) (i := 6) (tx := "abrucd") hC dX3_readFactor_78 (List.mem_of_getElem? (i := 6) rfl) ?_
          refine w_callV (pc := 80) (As := [.ref (G.2.2.1 6)]) (rest := []) hC dX3_readFactor_80 cv_X3_60 (c_X3_takeOneOf (kl K) G A D I (fu F 22 (F 22)) Q P S 6 (show RI S from by first | assumption | omega) (show LRn G.2.1 S I (fu F 22 (F 22)) Q P from by exact (LRb_fu (by decide) hL)) (show (F 21) = S 5 from by first | assumption | omega) (show 0 ≤ (F 22) ∧ (F 22) ≤ S 5 from by first | assumption | omega) (show 6 < nST from by decide)) (by omega) ⟨Nat.le_of_ble_eq_true rfl, Nat.le_of_ble_eq_true rfl⟩ (q0 := 47) CW_47 rfl rfl rfl (Nat.le_of_ble_eq_true rfl) rfl (fun vo wo hv => ?_)
          obtain ⟨g22_80, hv1, hw1, r80⟩ := hv
          rw [hv1, hw1]
          refine w_weq (CW_cong rfl (fu_th rfl fu_rp) rfl) ?_
          show WW K G 0 0 (CW A D (A 11) G.2.1 I (fu F 22 g22_80) Q P) 83 [(0, .ref (A 47)), (1, .int (J opn))] [.int (J (SX 6 (hr S (S 5) (F 22))))]
          have r80 : g22_80 = if SX 6 (hr S (S 5) (F 22)) = -1 then (F 22) else (F 22) + 1 := r80
          refine w_istore_n (pc := 83) hC dX3_readFactor_83 rfl (lv2 := [(2, .int (J (SX 6 (hr S (S 5) (F 22))))), (0, .ref (A 47)), (1, .int (J opn))]) (by rw [hnL]; decide) rfl ?_
          refine w_iload_n (pc := 84) hC dX3_readFactor_84 0 rfl rfl ?_
          refine w_if_ge (pc := 85) (tgt := 92) hC dX3_readFactor_85 (by decide) (by omega) (fun c85 => ?_) (fun c85 => ?_)
          · have eT80 : g22_80 = (F 22 + 1) := by rw [r80, if_neg (by omega)]
            have hlt80 := sx_lt (S := S) (e := S 5) (show 6 < nST by decide) c85
            rw [eT80]
            show WW K G 0 0 (CW A D (A 11) G.2.1 I (fu F 22 (F 22 + 1)) Q P) 92 [(2, .int (J (SX 6 (hr S (S 5) (F 22))))), (0, .ref (A 47)), (1, .int (J opn))] []
            refine w_aload_n (pc := 92) hC dX3_readFactor_92 1 rfl rfl ?_
            refine w_ldcS (pc := 93) (index := 103) (i := 7) (tx := "<=>") hC dX3_readFactor_93 (List.mem_of_getElem? (i := 7) rfl) ?_
            refine w_callV (pc := 95) (As := [.ref (G.2.2.1 7)]) (rest := []) hC dX3_readFactor_95 cv_X3_60 (c_X3_takeOneOf (kl K) G A D I (fu F 22 (F 22 + 1)) Q P S 7 (show RI S from by first | assumption | omega) (show LRn G.2.1 S I (fu F 22 (F 22 + 1)) Q P from by exact (LRb_fu (by decide) hL)) (show (F 21) = S 5 from by first | assumption | omega) (show 0 ≤ (F 22 + 1) ∧ (F 22 + 1) ≤ S 5 from by first | assumption | omega) (show 7 < nST from by decide)) (by omega) ⟨Nat.le_of_ble_eq_true rfl, Nat.le_of_ble_eq_true rfl⟩ (q0 := 47) CW_47 rfl rfl rfl (Nat.le_of_ble_eq_true rfl) rfl (fun vo wo hv => ?_)
            obtain ⟨g22_95, hv1, hw1, r95⟩ := hv
            rw [hv1, hw1]
            refine w_weq (CW_cong rfl (fu_th rfl fu_rp) rfl) ?_
            show WW K G 0 0 (CW A D (A 11) G.2.1 I (fu F 22 g22_95) Q P) 98 [(2, .int (J (SX 6 (hr S (S 5) (F 22))))), (0, .ref (A 47)), (1, .int (J opn))] [.int (J (SX 7 (hr S (S 5) (F 22 + 1))))]
            have r95 : g22_95 = if SX 7 (hr S (S 5) (F 22 + 1)) = -1 then (F 22 + 1) else (F 22 + 1) + 1 := r95
            refine w_istore_n (pc := 98) hC dX3_readFactor_98 rfl (lv2 := [(3, .int (J (SX 7 (hr S (S 5) (F 22 + 1))))), (2, .int (J (SX 6 (hr S (S 5) (F 22))))), (0, .ref (A 47)), (1, .int (J opn))]) (by rw [hnL]; decide) rfl ?_
            refine w_iload_n (pc := 99) hC dX3_readFactor_99 0 rfl rfl ?_
            refine w_if_ge (pc := 100) (tgt := 107) hC dX3_readFactor_100 (by decide) (by omega) (fun c100 => ?_) (fun c100 => ?_)
            · have eT95 : g22_95 = (F 22 + 1 + 1) := by rw [r95, if_neg (by omega)]
              have hlt95 := sx_lt (S := S) (e := S 5) (show 7 < nST by decide) c100
              rw [eT95]
              show WW K G 0 0 (CW A D (A 11) G.2.1 I (fu F 22 (F 22 + 1 + 1)) Q P) 107 [(3, .int (J (SX 7 (hr S (S 5) (F 22 + 1))))), (2, .int (J (SX 6 (hr S (S 5) (F 22))))), (0, .ref (A 47)), (1, .int (J opn))] []
              refine w_aload_n (pc := 107) hC dX3_readFactor_107 2 rfl rfl ?_
              refine w_callV (pc := 108) (As := []) (rest := []) hC dX3_readFactor_108 cv_X3_89 (c_X3_readNumber (kl K) G A D I (fu F 22 (F 22 + 1 + 1)) Q P S (show RI S from by first | assumption | omega) (show LRn G.2.1 S I (fu F 22 (F 22 + 1 + 1)) Q P from by exact (LRb_fu (by decide) hL)) (show (F 21) = S 5 from by first | assumption | omega) (show 0 ≤ (F 22 + 1 + 1) ∧ (F 22 + 1 + 1) ≤ S 5 from by first | assumption | omega)) (by omega) ⟨Nat.le_of_ble_eq_true rfl, Nat.le_of_ble_eq_true rfl⟩ (q0 := 47) CW_47 rfl rfl rfl (Nat.le_of_ble_eq_true rfl) rfl (fun vo wo hv => ?_)
              obtain ⟨g22_108, hv1, hw1, r108⟩ := hv
              rw [hv1, hw1]
              refine w_weq (CW_cong rfl (fu_th rfl fu_rp) rfl) ?_
              show WW K G 0 0 (CW A D (A 11) G.2.1 I (fu F 22 g22_108) Q P) 111 [(3, .int (J (SX 7 (hr S (S 5) (F 22 + 1))))), (2, .int (J (SX 6 (hr S (S 5) (F 22))))), (0, .ref (A 47)), (1, .int (J opn))] [.int (J (if 48 ≤ (hr S (S 5) (F 22 + 1 + 1)) ∧ (hr S (S 5) (F 22 + 1 + 1)) ≤ 57 then fgv S (S 5) (F 22 + 1 + 1) else -1))]
              have r108 : g22_108 = if 48 ≤ (hr S (S 5) (F 22 + 1 + 1)) ∧ (hr S (S 5) (F 22 + 1 + 1)) ≤ 57 then fgs S (S 5) (F 22 + 1 + 1) else (F 22 + 1 + 1) := r108
              refine w_istore (pc := 111) hC dX3_readFactor_111 (lv2 := [(4, .int (J (if 48 ≤ (hr S (S 5) (F 22 + 1 + 1)) ∧ (hr S (S 5) (F 22 + 1 + 1)) ≤ 57 then fgv S (S 5) (F 22 + 1 + 1) else -1))), (3, .int (J (SX 7 (hr S (S 5) (F 22 + 1))))), (2, .int (J (SX 6 (hr S (S 5) (F 22))))), (0, .ref (A 47)), (1, .int (J opn))]) (by rw [hnL]; decide) rfl ?_
              refine w_iload (pc := 113) hC dX3_readFactor_113 0 rfl ?_
              refine w_if_lt (pc := 115) (tgt := 136) hC dX3_readFactor_115 (by decide) (by omega) (fun c115 => ?_) (fun c115 => ?_)
              · have hd := hv.2.1 (by omega)
                have eP : g22_108 = F 22 + 1 + 1 := by rw [r108, if_neg hd]
                have eA := atm_d (l := ql) (show 0 ≤ SX 6 (hr S (S 5) (F 22)) by omega) (show 0 ≤ SX 7 (hr S (S 5) (F 22 + 1)) by omega) hd
                refine w_iconst (pc := 136) hC dX3_readFactor_136 ?_
                refine w_iret (pc := 137) hC hRT dX3_readFactor_137 rfl ?_
                refine ⟨(I 48), (F 20), g22_108, retI (by exact (bI_f (by rw [fA, eA]; exact (by decide : ¬ (1 : Int) = 0))).symm), CW_cong (au_ms (k := 48) (v := I 48) rfl rfl rfl) (fu_ms (k := 20) (v := F 20) rfl (fu_cm (by decide) rfl) rfl) rfl, ?_⟩
                · exact And.intro (by rw [fA, eA]; exact eP) (fun z => absurd z (by rw [fA, eA]; exact (by decide : ¬ (1 : Int) = 0)))
              · have hd := hv.2.2 (by omega)
                have hf := fgs_b hd
                have e108 : g22_108 = fgs S (S 5) (F 22 + 1 + 1) := by rw [r108, if_pos hd]
                have eA := atm_k (l := ql) (show 0 ≤ SX 6 (hr S (S 5) (F 22)) by omega) (show 0 ≤ SX 7 (hr S (S 5) (F 22 + 1)) by omega) hd
                refine w_aload_n (pc := 118) hC dX3_readFactor_118 3 rfl rfl ?_
                refine w_iload_n (pc := 119) hC dX3_readFactor_119 2 rfl rfl ?_
                refine w_iload_n (pc := 120) hC dX3_readFactor_120 1 rfl rfl ?_
                refine w_iload (pc := 121) hC dX3_readFactor_121 0 rfl ?_
                refine w_callX (pc := 123) (As := [.int (J (SX 6 (hr S (S 5) (F 22)))), .int (J (SX 7 (hr S (S 5) (F 22 + 1)))), .int (J (if 48 ≤ (hr S (S 5) (F 22 + 1 + 1)) ∧ (hr S (S 5) (F 22 + 1 + 1)) ≤ 57 then fgv S (S 5) (F 22 + 1 + 1) else -1))]) (rest := [.ref (A 47)]) hC dX3_readFactor_123 cx_X3_105 (c_X2_testOf (kl K) G (CW A D (A 11) G.2.1 I (fu F 22 g22_108) Q P) (SX 6 (hr S (S 5) (F 22))) (SX 7 (hr S (S 5) (F 22 + 1))) (if 48 ≤ (hr S (S 5) (F 22 + 1 + 1)) ∧ (hr S (S 5) (F 22 + 1 + 1)) ≤ 57 then fgv S (S 5) (F 22 + 1 + 1) else -1)) (by omega) ⟨Nat.le_of_ble_eq_true rfl, Nat.le_of_ble_eq_true rfl⟩ rfl (Nat.le_of_ble_eq_true rfl) rfl (fun vo wo hv => ?_)
                obtain ⟨hv1, hw1⟩ := hv
                rw [hv1, hw1]
                show WW K G 0 0 (CW A D (A 11) G.2.1 I (fu F 22 g22_108) Q P) 126 [(4, .int (J (if 48 ≤ (hr S (S 5) (F 22 + 1 + 1)) ∧ (hr S (S 5) (F 22 + 1 + 1)) ≤ 57 then fgv S (S 5) (F 22 + 1 + 1) else -1))), (3, .int (J (SX 7 (hr S (S 5) (F 22 + 1))))), (2, .int (J (SX 6 (hr S (S 5) (F 22))))), (0, .ref (A 47)), (1, .int (J opn))] [.int (J (((SX 6 (hr S (S 5) (F 22))) * 3 + (SX 7 (hr S (S 5) (F 22 + 1)))) * 100 + (if 48 ≤ (hr S (S 5) (F 22 + 1 + 1)) ∧ (hr S (S 5) (F 22 + 1 + 1)) ≤ 57 then fgv S (S 5) (F 22 + 1 + 1) else -1))), .ref (A 47)]
                refine w_callV (pc := 126) (As := [.int (J (((SX 6 (hr S (S 5) (F 22))) * 3 + (SX 7 (hr S (S 5) (F 22 + 1)))) * 100 + (if 48 ≤ (hr S (S 5) (F 22 + 1 + 1)) ∧ (hr S (S 5) (F 22 + 1 + 1)) ≤ 57 then fgv S (S 5) (F 22 + 1 + 1) else -1)))]) (rest := []) hC dX3_readFactor_126 cv_X3_84 (c_X3_put (kl K) G A D I (fu F 22 g22_108) Q P S (((SX 6 (hr S (S 5) (F 22))) * 3 + (SX 7 (hr S (S 5) (F 22 + 1)))) * 100 + (if 48 ≤ (hr S (S 5) (F 22 + 1 + 1)) ∧ (hr S (S 5) (F 22 + 1 + 1)) ≤ 57 then fgv S (S 5) (F 22 + 1 + 1) else -1)) (show RI S from by first | assumption | omega) (show LRn G.2.1 S I (fu F 22 g22_108) Q P from by exact (LRb_fu (by decide) hL)) (show (F 21) = S 5 from by first | assumption | omega) (show 0 ≤ g22_108 ∧ g22_108 ≤ S 5 from by first | assumption | omega) (show 0 ≤ (F 20) ∧ (F 20) < 120 from by first | assumption | omega)) (by omega) ⟨Nat.le_of_ble_eq_true rfl, Nat.le_of_ble_eq_true rfl⟩ (q0 := 47) CW_47 rfl rfl rfl (Nat.le_of_ble_eq_true rfl) rfl (fun vo wo hv => ?_)
                obtain ⟨b48_126, g20_126, hv1, hw1, r126⟩ := hv
                rw [hv1, hw1]
                refine w_weq (CW_cong rfl (fu_th rfl (fu_cm (by decide) rfl)) rfl) ?_
                show WW K G 0 0 (CW A D (A 11) G.2.1 (au I 48 b48_126) (fu (fu F 20 g20_126) 22 g22_108) Q P) 129 [(4, .int (J (if 48 ≤ (hr S (S 5) (F 22 + 1 + 1)) ∧ (hr S (S 5) (F 22 + 1 + 1)) ≤ 57 then fgv S (S 5) (F 22 + 1 + 1) else -1))), (3, .int (J (SX 7 (hr S (S 5) (F 22 + 1))))), (2, .int (J (SX 6 (hr S (S 5) (F 22))))), (0, .ref (A 47)), (1, .int (J opn))] [.int (J 1)]
                have r126 : b48_126 = gu (I 48) (F 20) (((SX 6 (hr S (S 5) (F 22))) * 3 + (SX 7 (hr S (S 5) (F 22 + 1)))) * 100 + (if 48 ≤ (hr S (S 5) (F 22 + 1 + 1)) ∧ (hr S (S 5) (F 22 + 1 + 1)) ≤ 57 then fgv S (S 5) (F 22 + 1 + 1) else -1)) ∧ g20_126 = (F 20) + 1 := r126
                refine w_if_eq (pc := 129) (tgt := 136) hC dX3_readFactor_129 (by decide) (by omega) (fun c129 => ?_) (fun c129 => ?_)
                · exact absurd c129 (by decide)
                · refine w_iconst (pc := 132) hC dX3_readFactor_132 ?_
                  refine w_goto (pc := 133) hC dX3_readFactor_133 (tgt := 137) (by decide) ?_
                  refine w_iret (pc := 137) hC hRT dX3_readFactor_137 rfl ?_
                  refine ⟨b48_126, g20_126, g22_108, retI (by exact (bI_t (by rw [fA, eA])).symm), rfl, ?_⟩
                  · rw [fA, eA]
                    exact And.intro (by rw [r108, if_pos hd]) (fun _ => And.intro (by show _ = ((ql ++ [SX 6 (hr S (S 5) (F 22)) + 8 * SX 7 (hr S (S 5) (F 22 + 1)) + 32 * fgv S (S 5) (F 22 + 1 + 1)]).length : Int); have w1 := r126.2; have w2 := hq.1; rw [List.length_append, List.length_singleton]; omega) (CD_put hcd hq.1 r126.1 (by rw [if_pos hd, cde_at (by omega) (by omega) (fg_b hd).1])))
            · refine w_iconst (pc := 103) hC dX3_readFactor_103 ?_
              refine w_goto (pc := 104) hC dX3_readFactor_104 (tgt := 111) (by decide) ?_
              refine w_istore (pc := 111) hC dX3_readFactor_111 (lv2 := [(4, .int (J (-1))), (3, .int (J (SX 7 (hr S (S 5) (F 22 + 1))))), (2, .int (J (SX 6 (hr S (S 5) (F 22))))), (0, .ref (A 47)), (1, .int (J opn))]) (by rw [hnL]; decide) rfl ?_
              refine w_iload (pc := 113) hC dX3_readFactor_113 0 rfl ?_
              refine w_if_lt (pc := 115) (tgt := 136) hC dX3_readFactor_115 (by decide) (by omega) (fun c115 => ?_) (fun c115 => ?_)
              · have eP : g22_95 = F 22 + 1 := by rw [r95, if_pos (by omega)]
                have eA := atm_7 (l := ql) (show 0 ≤ SX 6 (hr S (S 5) (F 22)) by omega) (show SX 7 (hr S (S 5) (F 22 + 1)) < 0 by omega)
                refine w_iconst (pc := 136) hC dX3_readFactor_136 ?_
                refine w_iret (pc := 137) hC hRT dX3_readFactor_137 rfl ?_
                refine ⟨(I 48), (F 20), g22_95, retI (by exact (bI_f (by rw [fA, eA]; exact (by decide : ¬ (1 : Int) = 0))).symm), CW_cong (au_ms (k := 48) (v := I 48) rfl rfl rfl) (fu_ms (k := 20) (v := F 20) rfl (fu_cm (by decide) rfl) rfl) rfl, ?_⟩
                · exact And.intro (by rw [fA, eA]; exact eP) (fun z => absurd z (by rw [fA, eA]; exact (by decide : ¬ (1 : Int) = 0)))
              · exact absurd c115 (by decide)
          · refine w_iconst (pc := 88) hC dX3_readFactor_88 ?_
            refine w_goto (pc := 89) hC dX3_readFactor_89 (tgt := 98) (by decide) ?_
            refine w_istore_n (pc := 98) hC dX3_readFactor_98 rfl (lv2 := [(3, .int (J (-1))), (2, .int (J (SX 6 (hr S (S 5) (F 22))))), (0, .ref (A 47)), (1, .int (J opn))]) (by rw [hnL]; decide) rfl ?_
            refine w_iload_n (pc := 99) hC dX3_readFactor_99 0 rfl rfl ?_
            refine w_if_ge (pc := 100) (tgt := 107) hC dX3_readFactor_100 (by decide) (by omega) (fun c100 => ?_) (fun c100 => ?_)
            · exact absurd c100 (by decide)
            · refine w_iconst (pc := 103) hC dX3_readFactor_103 ?_
              refine w_goto (pc := 104) hC dX3_readFactor_104 (tgt := 111) (by decide) ?_
              refine w_istore (pc := 111) hC dX3_readFactor_111 (lv2 := [(4, .int (J (-1))), (3, .int (J (-1))), (2, .int (J (SX 6 (hr S (S 5) (F 22))))), (0, .ref (A 47)), (1, .int (J opn))]) (by rw [hnL]; decide) rfl ?_
              refine w_iload (pc := 113) hC dX3_readFactor_113 0 rfl ?_
              refine w_if_lt (pc := 115) (tgt := 136) hC dX3_readFactor_115 (by decide) (by omega) (fun c115 => ?_) (fun c115 => ?_)
              · have eP : g22_80 = F 22 := by rw [r80, if_pos (by omega)]
                have eA := atm_6 (l := ql) (show SX 6 (hr S (S 5) (F 22)) < 0 by omega)
                refine w_iconst (pc := 136) hC dX3_readFactor_136 ?_
                refine w_iret (pc := 137) hC hRT dX3_readFactor_137 rfl ?_
                refine ⟨(I 48), (F 20), g22_80, retI (by exact (bI_f (by rw [fA, eA]; exact (by decide : ¬ (1 : Int) = 0))).symm), CW_cong (au_ms (k := 48) (v := I 48) rfl rfl rfl) (fu_ms (k := 20) (v := F 20) rfl (fu_cm (by decide) rfl) rfl) rfl, ?_⟩
                · exact And.intro (by rw [fA, eA]; exact eP) (fun z => absurd z (by rw [fA, eA]; exact (by decide : ¬ (1 : Int) = 0)))
              · exact absurd c115 (by decide)
        · have eT46 : g22_46 = (F 22 + 1) := by rw [r46, if_pos c49]
          rw [eT46]
          show WW K G 0 0 (CW A D (A 11) G.2.1 I (fu F 22 (F 22 + 1)) Q P) 52 [(0, .ref (A 47)), (1, .int (J opn))] []
          have hlt := hr_at c49 (by decide)
          have eF : fac S (S 5) (5 - opn).toNat (F 22, 0, ql) = mst S (S 5) 41 (som S (S 5) (fac S (S 5) (5 - (opn + 1)).toNat) (F 22 + 1, 0, ql)) := by rw [show (5 - opn).toNat = (5 - (opn + 1)).toNat + 1 by omega]; exact fac_par _ (by decide : ¬ (0 : Int) = 1) c49
          have gl := gr_l (som_gr (S := S) (f := fac S (S 5) (5 - (opn + 1)).toNat) (fac_gr (S := S) (5 - (opn + 1)).toNat) (pb_0 (e := S 5) (l := ql) (show 0 ≤ F 22 + 1 ∧ F 22 + 1 ≤ S 5 by omega)))
          refine w_aload_n (pc := 52) hC dX3_readFactor_52 0 rfl rfl ?_
          refine w_iload_n (pc := 53) hC dX3_readFactor_53 1 rfl rfl ?_
          refine w_iconst (pc := 54) hC dX3_readFactor_54 ?_
          refine w_iadd (pc := 55) hC dX3_readFactor_55 ?_
          refine w_callV (pc := 56) (As := [.int (J (opn + 1))]) (rest := []) hC dX3_readFactor_56 cv_X3_80 ((IH (m - 1) (by omega)).2.2 A D I (fu F 22 (F 22 + 1)) Q P S ql (opn + 1) (show RI S from by first | assumption | omega) (show LRn G.2.1 S I (fu F 22 (F 22 + 1)) Q P from by exact (LRb_fu (by decide) hL)) (show (F 21) = S 5 from by first | assumption | omega) (show 0 ≤ (F 22 + 1) ∧ (F 22 + 1) ≤ S 5 from by first | assumption | omega) (show (F 20) = (ql.length : Int) ∧ (ql.length : Int) ≤ (F 22 + 1) from by first | assumption | omega) (show CD (I 48) ql from by first | assumption | omega) (show 0 ≤ (opn + 1) ∧ (opn + 1) ≤ 5 from by first | assumption | omega) (show 3 * (5 - (opn + 1)) + 2 ≤ (((m - 1) : Nat) : Int) from by first | assumption | omega)) (by omega) ⟨Nat.le_of_ble_eq_true rfl, Nat.le_of_ble_eq_true rfl⟩ (q0 := 47) CW_47 rfl rfl rfl (Nat.le_of_ble_eq_true rfl) rfl (fun vo wo hv => ?_)
          obtain ⟨b48_56, g20_56, g22_56, hv1, hw1, r56⟩ := hv
          rw [hv1, hw1]
          refine w_weq (CW_cong rfl (fu_th (fu_th rfl (fu_cm (by decide) rfl)) fu_rp) rfl) ?_
          show WW K G 0 0 (CW A D (A 11) G.2.1 (au I 48 b48_56) (fu (fu F 20 g20_56) 22 g22_56) Q P) 59 [(0, .ref (A 47)), (1, .int (J opn))] [.int (J (bI (((som S (S 5) (fac S (S 5) (5 - ((opn + 1) : Int)).toNat)) ((F 22 + 1), 0, ql)).2.1 = 0)))]
          have r56 : g22_56 = ((som S (S 5) (fac S (S 5) (5 - ((opn + 1) : Int)).toNat)) ((F 22 + 1), 0, ql)).1 ∧ (((som S (S 5) (fac S (S 5) (5 - ((opn + 1) : Int)).toNat)) ((F 22 + 1), 0, ql)).2.1 = 0 → g20_56 = (((som S (S 5) (fac S (S 5) (5 - ((opn + 1) : Int)).toNat)) ((F 22 + 1), 0, ql)).2.2.length : Int) ∧ CD b48_56 ((som S (S 5) (fac S (S 5) (5 - ((opn + 1) : Int)).toNat)) ((F 22 + 1), 0, ql)).2.2) := r56
          refine w_if_eq_b (pc := 59) (tgt := 75) hC dX3_readFactor_59 (by decide) (fun c59 => ?_) (fun c59 => ?_)
          · have hb : (som S (S 5) (fac S (S 5) (5 - (opn + 1)).toNat) (F 22 + 1, 0, ql)).2.1 = 1 := by omega
            refine w_iconst (pc := 75) hC dX3_readFactor_75 ?_
            refine w_iret (pc := 76) hC hRT dX3_readFactor_76 rfl ?_
            refine ⟨b48_56, g20_56, g22_56, retI (by exact (bI_f (by rw [eF, mst_w hb]; exact c59)).symm), rfl, ?_⟩
            · exact And.intro (by rw [eF, mst_w hb]; exact r56.1) (fun z => absurd z (by rw [eF, mst_w hb]; exact c59))
          · have e56 := r56.1
            refine w_aload_n (pc := 62) hC dX3_readFactor_62 0 rfl rfl ?_
            refine w_bipush (pc := 63) hC dX3_readFactor_63 (z := 41) rfl ?_
            refine w_callV (pc := 65) (As := [.int (J 41)]) (rest := []) hC dX3_readFactor_65 cv_X3_48 (c_X3_take (kl K) G A D (au I 48 b48_56) (fu (fu F 20 g20_56) 22 g22_56) Q P S 41 (show RI S from by first | assumption | omega) (show LRn G.2.1 S (au I 48 b48_56) (fu (fu F 20 g20_56) 22 g22_56) Q P from by exact (LRb_fu (by decide) (LRb_fu (by decide) (LRb_au (by decide) hL)))) (show (F 21) = S 5 from by first | assumption | omega) (show 0 ≤ g22_56 ∧ g22_56 ≤ S 5 from by first | assumption | omega) (show 0 ≤ 41 ∧ 41 ≤ 127 from by decide)) (by omega) ⟨Nat.le_of_ble_eq_true rfl, Nat.le_of_ble_eq_true rfl⟩ (q0 := 47) CW_47 rfl rfl rfl (Nat.le_of_ble_eq_true rfl) rfl (fun vo wo hv => ?_)
            obtain ⟨g22_65, hv1, hw1, r65⟩ := hv
            rw [hv1, hw1]
            refine w_weq (CW_cong rfl (fu_th rfl fu_rp) rfl) ?_
            show WW K G 0 0 (CW A D (A 11) G.2.1 (au I 48 b48_56) (fu (fu F 20 g20_56) 22 g22_65) Q P) 68 [(0, .ref (A 47)), (1, .int (J opn))] [.int (J (bI ((hr S (S 5) g22_56) = 41)))]
            have r65 : g22_65 = if (hr S (S 5) g22_56) = 41 then g22_56 + 1 else g22_56 := r65
            refine w_if_eq_b (pc := 68) (tgt := 75) hC dX3_readFactor_68 (by decide) (fun c68 => ?_) (fun c68 => ?_)
            · have eT65 : g22_65 = g22_56 := by rw [r65, if_neg c68]
              rw [eT65]
              show WW K G 0 0 (CW A D (A 11) G.2.1 (au I 48 b48_56) (fu (fu F 20 g20_56) 22 g22_56) Q P) 75 [(0, .ref (A 47)), (1, .int (J opn))] []
              have eM : mst S (S 5) 41 (som S (S 5) (fac S (S 5) (5 - (opn + 1)).toNat) (F 22 + 1, 0, ql)) = ((som S (S 5) (fac S (S 5) (5 - (opn + 1)).toNat) (F 22 + 1, 0, ql)).1, 1, (som S (S 5) (fac S (S 5) (5 - (opn + 1)).toNat) (F 22 + 1, 0, ql)).2.2) := by unfold mst; rw [if_pos (Or.inr (by rw [← r56.1]; exact c68))]
              refine w_iconst (pc := 75) hC dX3_readFactor_75 ?_
              refine w_iret (pc := 76) hC hRT dX3_readFactor_76 rfl ?_
              refine ⟨b48_56, g20_56, g22_56, retI (by exact (bI_f (by rw [eF, eM]; exact (by decide : ¬ (1 : Int) = 0))).symm), rfl, ?_⟩
              · exact And.intro (by rw [eF, eM]; exact r56.1) (fun z => absurd z (by rw [eF, eM]; exact (by decide : ¬ (1 : Int) = 0)))
            · have eT65 : g22_65 = (g22_56 + 1) := by rw [r65, if_pos c68]
              rw [eT65]
              show WW K G 0 0 (CW A D (A 11) G.2.1 (au I 48 b48_56) (fu (fu F 20 g20_56) 22 (g22_56 + 1)) Q P) 71 [(0, .ref (A 47)), (1, .int (J opn))] []
              have eM : mst S (S 5) 41 (som S (S 5) (fac S (S 5) (5 - (opn + 1)).toNat) (F 22 + 1, 0, ql)) = ((som S (S 5) (fac S (S 5) (5 - (opn + 1)).toNat) (F 22 + 1, 0, ql)).1 + 1, 0, (som S (S 5) (fac S (S 5) (5 - (opn + 1)).toNat) (F 22 + 1, 0, ql)).2.2) := by unfold mst; rw [if_neg (by rw [← r56.1]; omega)]
              refine w_iconst (pc := 71) hC dX3_readFactor_71 ?_
              refine w_goto (pc := 72) hC dX3_readFactor_72 (tgt := 76) (by decide) ?_
              refine w_iret (pc := 76) hC hRT dX3_readFactor_76 rfl ?_
              refine ⟨b48_56, g20_56, (g22_56 + 1), retI (by exact (bI_t (by rw [eF, eM])).symm), rfl, ?_⟩
              · rw [eF, eM]
                exact And.intro (by show g22_56 + 1 = _; rw [r56.1]) (fun _ => r56.2 c59)
    · have eT8 : g22_8 = (F 22 + 1) := by rw [r8, if_pos c11]
      rw [eT8]
      show WW K G 0 0 (CW A D (A 11) G.2.1 I (fu F 22 (F 22 + 1)) Q P) 14 [(0, .ref (A 47)), (1, .int (J opn))] []
      have hlt := hr_at c11 (by decide)
      have eF : fac S (S 5) (5 - opn).toNat (F 22, 0, ql) = emt (-1) (fac S (S 5) (5 - (opn + 1)).toNat (F 22 + 1, 0, ql)) := by rw [show (5 - opn).toNat = (5 - (opn + 1)).toNat + 1 by omega]; exact fac_not _ (by decide : ¬ (0 : Int) = 1) c11
      have gl := gr_l (fac_gr (S := S) (5 - (opn + 1)).toNat _ (pb_0 (e := S 5) (l := ql) (show 0 ≤ F 22 + 1 ∧ F 22 + 1 ≤ S 5 by omega)))
      refine w_aload_n (pc := 14) hC dX3_readFactor_14 0 rfl rfl ?_
      refine w_iload_n (pc := 15) hC dX3_readFactor_15 1 rfl rfl ?_
      refine w_iconst (pc := 16) hC dX3_readFactor_16 ?_
      refine w_iadd (pc := 17) hC dX3_readFactor_17 ?_
      refine w_callV (pc := 18) (As := [.int (J (opn + 1))]) (rest := []) hC dX3_readFactor_18 cv_X3_98 ((IH (m - 1) (by omega)).1 A D I (fu F 22 (F 22 + 1)) Q P S ql (opn + 1) (show RI S from by first | assumption | omega) (show LRn G.2.1 S I (fu F 22 (F 22 + 1)) Q P from by exact (LRb_fu (by decide) hL)) (show (F 21) = S 5 from by first | assumption | omega) (show 0 ≤ (F 22 + 1) ∧ (F 22 + 1) ≤ S 5 from by first | assumption | omega) (show (F 20) = (ql.length : Int) ∧ (ql.length : Int) ≤ (F 22 + 1) from by first | assumption | omega) (show CD (I 48) ql from by first | assumption | omega) (show 0 ≤ (opn + 1) ∧ (opn + 1) ≤ 5 from by first | assumption | omega) (show 3 * (5 - (opn + 1)) + 0 ≤ (((m - 1) : Nat) : Int) from by first | assumption | omega)) (by omega) ⟨Nat.le_of_ble_eq_true rfl, Nat.le_of_ble_eq_true rfl⟩ (q0 := 47) CW_47 rfl rfl rfl (Nat.le_of_ble_eq_true rfl) rfl (fun vo wo hv => ?_)
      obtain ⟨b48_18, g20_18, g22_18, hv1, hw1, r18⟩ := hv
      rw [hv1, hw1]
      refine w_weq (CW_cong rfl (fu_th (fu_th rfl (fu_cm (by decide) rfl)) fu_rp) rfl) ?_
      show WW K G 0 0 (CW A D (A 11) G.2.1 (au I 48 b48_18) (fu (fu F 20 g20_18) 22 g22_18) Q P) 21 [(0, .ref (A 47)), (1, .int (J opn))] [.int (J (bI (((fac S (S 5) (5 - ((opn + 1) : Int)).toNat) ((F 22 + 1), 0, ql)).2.1 = 0)))]
      have r18 : g22_18 = ((fac S (S 5) (5 - ((opn + 1) : Int)).toNat) ((F 22 + 1), 0, ql)).1 ∧ (((fac S (S 5) (5 - ((opn + 1) : Int)).toNat) ((F 22 + 1), 0, ql)).2.1 = 0 → g20_18 = (((fac S (S 5) (5 - ((opn + 1) : Int)).toNat) ((F 22 + 1), 0, ql)).2.2.length : Int) ∧ CD b48_18 ((fac S (S 5) (5 - ((opn + 1) : Int)).toNat) ((F 22 + 1), 0, ql)).2.2) := r18
      refine w_if_eq_b (pc := 21) (tgt := 36) hC dX3_readFactor_21 (by decide) (fun c21 => ?_) (fun c21 => ?_)
      · have hb : (fac S (S 5) (5 - (opn + 1)).toNat (F 22 + 1, 0, ql)).2.1 = 1 := by omega
        refine w_iconst (pc := 36) hC dX3_readFactor_36 ?_
        refine w_iret (pc := 37) hC hRT dX3_readFactor_37 rfl ?_
        refine ⟨b48_18, g20_18, g22_18, retI (by exact (bI_f (by rw [eF, emt_w hb]; exact c21)).symm), rfl, ?_⟩
        · exact And.intro (by rw [eF, emt_w hb]; exact r18.1) (fun z => absurd z (by rw [eF, emt_w hb]; exact c21))
      · refine w_aload_n (pc := 24) hC dX3_readFactor_24 0 rfl rfl ?_
        refine w_iconst (pc := 25) hC dX3_readFactor_25 ?_
        refine w_callV (pc := 26) (As := [.int (J (-1))]) (rest := []) hC dX3_readFactor_26 cv_X3_84 (c_X3_put (kl K) G A D (au I 48 b48_18) (fu (fu F 20 g20_18) 22 g22_18) Q P S (-1) (show RI S from by first | assumption | omega) (show LRn G.2.1 S (au I 48 b48_18) (fu (fu F 20 g20_18) 22 g22_18) Q P from by exact (LRb_fu (by decide) (LRb_fu (by decide) (LRb_au (by decide) hL)))) (show (F 21) = S 5 from by first | assumption | omega) (show 0 ≤ g22_18 ∧ g22_18 ≤ S 5 from by first | assumption | omega) (show 0 ≤ g20_18 ∧ g20_18 < 120 from by have u := r18.1; have u2 := (r18.2 c21).1; omega)) (by omega) ⟨Nat.le_of_ble_eq_true rfl, Nat.le_of_ble_eq_true rfl⟩ (q0 := 47) CW_47 rfl rfl rfl (Nat.le_of_ble_eq_true rfl) rfl (fun vo wo hv => ?_)
        obtain ⟨b48_26, g20_26, hv1, hw1, r26⟩ := hv
        rw [hv1, hw1]
        refine w_weq (CW_cong (au_th rfl au_rp) (fu_th rfl (fu_cm (by decide) fu_rp)) rfl) ?_
        show WW K G 0 0 (CW A D (A 11) G.2.1 (au I 48 b48_26) (fu (fu F 20 g20_26) 22 g22_18) Q P) 29 [(0, .ref (A 47)), (1, .int (J opn))] [.int (J 1)]
        have r26 : b48_26 = gu b48_18 g20_18 (-1) ∧ g20_26 = g20_18 + 1 := r26
        refine w_if_eq (pc := 29) (tgt := 36) hC dX3_readFactor_29 (by decide) (by omega) (fun c29 => ?_) (fun c29 => ?_)
        · exact absurd c29 (by decide)
        · refine w_iconst (pc := 32) hC dX3_readFactor_32 ?_
          refine w_goto (pc := 33) hC dX3_readFactor_33 (tgt := 37) (by decide) ?_
          refine w_iret (pc := 37) hC hRT dX3_readFactor_37 rfl ?_
          refine ⟨b48_26, g20_26, g22_18, retI (by exact (bI_t (by rw [eF, emt_ok c21])).symm), rfl, ?_⟩
          · rw [eF, emt_ok c21]
            obtain ⟨u2, u3⟩ := r18.2 c21
            exact And.intro r18.1 (fun _ => And.intro (by show _ = (((fac S (S 5) (5 - (opn + 1)).toNat (F 22 + 1, 0, ql)).2.2 ++ [-1]).length : Int); have w1 := r26.2; have w2 := u2; rw [List.length_append, List.length_singleton]; omega) (CD_put u3 u2 r26.1 rfl))
set_option maxRecDepth 100000 in
set_option maxHeartbeats 4000000 in
theorem r_X3_readBoth (l : Launch) (G : GT) (m : Nat) (IH : ∀ m2 : Nat, m2 < m → PG_rdr l G m2) (A D : Nat → Nat) (I : Nat → Int → Int) (F : Nat → Int) (Q : Nat → Nat → Option Nat) (P : va_W) (S : Int → Int) (ql : List Int) (opn : Int) (hR : RI S) (hL : LRn G.2.1 S I F Q P) (hsz : (F 21) = S 5) (hat : 0 ≤ (F 22) ∧ (F 22) ≤ S 5) (hq : (F 20) = (ql.length : Int) ∧ (ql.length : Int) ≤ (F 22)) (hcd : CD (I 48) ql) (ho : 0 ≤ opn ∧ opn ≤ 5) (hm : 3 * (5 - opn) + 1 ≤ ((m : Nat) : Int)) : CT l yX3_readBoth cX3_readBoth 3 (some .boolean) (6 + m) 0 0 G [.ref (A 47), .int (J opn)] (CW A D (A 11) G.2.1 I F Q P) (fun vo wo => ∃ (b48 : Int → Int) (g20 : Int) (g22 : Int), vo = some (.int (J (bI (((evr S (S 5) (fac S (S 5) (5 - (opn : Int)).toNat)) ((F 22), 0, ql)).2.1 = 0)))) ∧ wo = CW A D (A 11) G.2.1 (au I 48 b48) (fu (fu F 20 g20) 22 g22) Q P ∧ (g22 = ((evr S (S 5) (fac S (S 5) (5 - (opn : Int)).toNat)) ((F 22), 0, ql)).1 ∧ (((evr S (S 5) (fac S (S 5) (5 - (opn : Int)).toNat)) ((F 22), 0, ql)).2.1 = 0 → g20 = (((evr S (S 5) (fac S (S 5) (5 - (opn : Int)).toNat)) ((F 22), 0, ql)).2.2.length : Int) ∧ CD b48 ((evr S (S 5) (fac S (S 5) (5 - (opn : Int)).toNat)) ((F 22), 0, ql)).2.2))) := by
  refine CT_of (own := RX3) rfl rfl (Nat.le_of_ble_eq_true rfl) (fun K hl hnL hC hRT hin => ?_)
  subst hl
  show WW K G 0 0 (CW A D (A 11) G.2.1 I F Q P) 0 [(0, .ref (A 47)), (1, .int (J opn))] []
  have hn := hR.n
  have hbd := hR.bd
  have htp := hR.tp
  have gl0 := gr_l (fac_gr (S := S) (5 - opn).toNat _ (pb_0 (e := S 5) (l := ql) hat))
  refine w_aload_n (pc := 0) hC dX3_readBoth_0 0 rfl rfl ?_
  refine w_iload_n (pc := 1) hC dX3_readBoth_1 1 rfl rfl ?_
  refine w_callV (pc := 2) (As := [.int (J opn)]) (rest := []) hC dX3_readBoth_2 cv_X3_98 ((IH (m - 1) (by omega)).1 A D I F Q P S ql opn (show RI S from by first | assumption | omega) (show LRn G.2.1 S I F Q P from by exact hL) (show (F 21) = S 5 from by first | assumption | omega) (show 0 ≤ (F 22) ∧ (F 22) ≤ S 5 from by first | assumption | omega) (show (F 20) = (ql.length : Int) ∧ (ql.length : Int) ≤ (F 22) from by first | assumption | omega) (show CD (I 48) ql from by first | assumption | omega) (show 0 ≤ opn ∧ opn ≤ 5 from by first | assumption | omega) (show 3 * (5 - opn) + 0 ≤ (((m - 1) : Nat) : Int) from by first | assumption | omega)) (by omega) ⟨Nat.le_of_ble_eq_true rfl, Nat.le_of_ble_eq_true rfl⟩ (q0 := 47) CW_47 rfl rfl rfl (Nat.le_of_ble_eq_true rfl) rfl (fun vo wo hv => ?_)
  obtain ⟨b48_2, g20_2, g22_2, hv1, hw1, r2⟩ := hv
  rw [hv1, hw1]
  show WW K G 0 0 (CW A D (A 11) G.2.1 (au I 48 b48_2) (fu (fu F 20 g20_2) 22 g22_2) Q P) 5 [(0, .ref (A 47)), (1, .int (J opn))] [.int (J (bI (((fac S (S 5) (5 - (opn : Int)).toNat) ((F 22), 0, ql)).2.1 = 0)))]
  have r2 : g22_2 = ((fac S (S 5) (5 - (opn : Int)).toNat) ((F 22), 0, ql)).1 ∧ (((fac S (S 5) (5 - (opn : Int)).toNat) ((F 22), 0, ql)).2.1 = 0 → g20_2 = (((fac S (S 5) (5 - (opn : Int)).toNat) ((F 22), 0, ql)).2.2.length : Int) ∧ CD b48_2 ((fac S (S 5) (5 - (opn : Int)).toNat) ((F 22), 0, ql)).2.2) := r2
  refine w_if_ne_b (pc := 5) (tgt := 10) hC dX3_readBoth_5 (by decide) (fun c5 => ?_) (fun c5 => ?_)
  · refine w_iconst (pc := 10) hC dX3_readBoth_10 ?_
    refine w_istore_n (pc := 11) hC dX3_readBoth_11 rfl (lv2 := [(2, .int (J 0)), (0, .ref (A 47)), (1, .int (J opn))]) (by rw [hnL]; decide) rfl ?_
    have loop12 : ∀ (nF : Nat) (i : Int) (a48_12 : Int → Int) (f20_12 : Int) (f22_12 : Int), (0 ≤ i ∧ i ≤ 120) → (i ≤ f22_12 ∧ f22_12 ≤ S 5) → (∃ lk : List Int, f20_12 = (lk.length : Int) ∧ (lk.length : Int) ≤ f22_12 ∧ CD a48_12 lk ∧ (evr S (S 5) (fac S (S 5) (5 - (opn : Int)).toNat)) (F 22, 0, ql) = lp S (S 5) (fac S (S 5) (5 - (opn : Int)).toNat) 38 (-2) (130 - i).toNat (f22_12, 0, lk)) → (120 - i) < (nF : Int) → WW K G 0 0 (CW A D (A 11) G.2.1 (au I 48 a48_12) (fu (fu F 20 f20_12) 22 f22_12) Q P) 12 [(0, .ref (A 47)), (1, .int (J opn)), (2, .int (J i))] [] := by
      intro nF
      induction nF with
      | zero => intro i a48_12 f20_12 f22_12 i1 i2 i3 hm12; exact absurd hm12 (by omega)
      | succ nF ih12 =>
        intro i a48_12 f20_12 f22_12 i1 i2 i3 hm12
        obtain ⟨lk, k1, k2, k3, i3e⟩ := i3
        refine w_iload_n (pc := 12) hC dX3_readBoth_12 2 rfl rfl ?_
        refine w_bipush (pc := 13) hC dX3_readBoth_13 (z := 120) rfl ?_
        refine w_icmp_ge (pc := 15) (tgt := 52) hC dX3_readBoth_15 (by decide) (by omega) (fun c15 => ?_) (fun c15 => ?_)
        · have hns : ¬ hr S (S 5) f22_12 = 38 := by rw [hr_out (by omega)]; decide
          rw [lp_stop _ hns] at i3e
          refine w_iconst (pc := 52) hC dX3_readBoth_52 ?_
          refine w_iret (pc := 53) hC hRT dX3_readBoth_53 rfl ?_
          refine ⟨a48_12, f20_12, f22_12, retI (by exact (bI_t (by rw [i3e])).symm), rfl, ?_⟩
          · rw [i3e]; exact And.intro rfl (fun _ => And.intro k1 k3)
        · refine w_aload_n (pc := 18) hC dX3_readBoth_18 0 rfl rfl ?_
          refine w_bipush (pc := 19) hC dX3_readBoth_19 (z := 38) rfl ?_
          refine w_callV (pc := 21) (As := [.int (J 38)]) (rest := []) hC dX3_readBoth_21 cv_X3_48 (c_X3_take (kl K) G A D (au I 48 a48_12) (fu (fu F 20 f20_12) 22 f22_12) Q P S 38 (show RI S from by first | assumption | omega) (show LRn G.2.1 S (au I 48 a48_12) (fu (fu F 20 f20_12) 22 f22_12) Q P from by exact (LRb_fu (by decide) (LRb_fu (by decide) (LRb_au (by decide) hL)))) (show (F 21) = S 5 from by first | assumption | omega) (show 0 ≤ f22_12 ∧ f22_12 ≤ S 5 from by first | assumption | omega) (show 0 ≤ 38 ∧ 38 ≤ 127 from by decide)) (by omega) ⟨Nat.le_of_ble_eq_true rfl, Nat.le_of_ble_eq_true rfl⟩ (q0 := 47) CW_47 rfl rfl rfl (Nat.le_of_ble_eq_true rfl) rfl (fun vo wo hv => ?_)
          obtain ⟨g22_21, hv1, hw1, r21⟩ := hv
          rw [hv1, hw1]
          refine w_weq (CW_cong rfl (fu_th rfl fu_rp) rfl) ?_
          show WW K G 0 0 (CW A D (A 11) G.2.1 (au I 48 a48_12) (fu (fu F 20 f20_12) 22 g22_21) Q P) 24 [(0, .ref (A 47)), (1, .int (J opn)), (2, .int (J i))] [.int (J (bI ((hr S (S 5) f22_12) = 38)))]
          have r21 : g22_21 = if (hr S (S 5) f22_12) = 38 then f22_12 + 1 else f22_12 := r21
          refine w_if_eq_b (pc := 24) (tgt := 52) hC dX3_readBoth_24 (by decide) (fun c24 => ?_) (fun c24 => ?_)
          · have eT21 : g22_21 = f22_12 := by rw [r21, if_neg c24]
            rw [eT21]
            show WW K G 0 0 (CW A D (A 11) G.2.1 (au I 48 a48_12) (fu (fu F 20 f20_12) 22 f22_12) Q P) 52 [(0, .ref (A 47)), (1, .int (J opn)), (2, .int (J i))] []
            have hns : ¬ hr S (S 5) f22_12 = 38 := by exact c24
            rw [lp_stop _ hns] at i3e
            refine w_iconst (pc := 52) hC dX3_readBoth_52 ?_
            refine w_iret (pc := 53) hC hRT dX3_readBoth_53 rfl ?_
            refine ⟨a48_12, f20_12, f22_12, retI (by exact (bI_t (by rw [i3e])).symm), rfl, ?_⟩
            · rw [i3e]; exact And.intro rfl (fun _ => And.intro k1 k3)
          · have eT21 : g22_21 = (f22_12 + 1) := by rw [r21, if_pos c24]
            rw [eT21]
            show WW K G 0 0 (CW A D (A 11) G.2.1 (au I 48 a48_12) (fu (fu F 20 f20_12) 22 (f22_12 + 1)) Q P) 27 [(0, .ref (A 47)), (1, .int (J opn)), (2, .int (J i))] []
            have hlt := hr_at c24 (by decide)
            have gl := gr_l (fac_gr (S := S) (5 - opn).toNat _ (pb_0 (e := S 5) (l := lk) (show 0 ≤ f22_12 + 1 ∧ f22_12 + 1 ≤ S 5 by omega)))
            refine w_aload_n (pc := 27) hC dX3_readBoth_27 0 rfl rfl ?_
            refine w_iload_n (pc := 28) hC dX3_readBoth_28 1 rfl rfl ?_
            refine w_callV (pc := 29) (As := [.int (J opn)]) (rest := []) hC dX3_readBoth_29 cv_X3_98 ((IH (m - 1) (by omega)).1 A D (au I 48 a48_12) (fu (fu F 20 f20_12) 22 (f22_12 + 1)) Q P S lk opn (show RI S from by first | assumption | omega) (show LRn G.2.1 S (au I 48 a48_12) (fu (fu F 20 f20_12) 22 (f22_12 + 1)) Q P from by exact (LRb_fu (by decide) (LRb_fu (by decide) (LRb_au (by decide) hL)))) (show (F 21) = S 5 from by first | assumption | omega) (show 0 ≤ (f22_12 + 1) ∧ (f22_12 + 1) ≤ S 5 from by first | assumption | omega) (show f20_12 = (lk.length : Int) ∧ (lk.length : Int) ≤ (f22_12 + 1) from by first | assumption | omega) (show CD a48_12 lk from by first | assumption | omega) (show 0 ≤ opn ∧ opn ≤ 5 from by first | assumption | omega) (show 3 * (5 - opn) + 0 ≤ (((m - 1) : Nat) : Int) from by first | assumption | omega)) (by omega) ⟨Nat.le_of_ble_eq_true rfl, Nat.le_of_ble_eq_true rfl⟩ (q0 := 47) CW_47 rfl rfl rfl (Nat.le_of_ble_eq_true rfl) rfl (fun vo wo hv => ?_)
            obtain ⟨b48_29, g20_29, g22_29, hv1, hw1, r29⟩ := hv
            rw [hv1, hw1]
            refine w_weq (CW_cong (au_th rfl au_rp) (fu_th (fu_th rfl (fu_cm (by decide) fu_rp)) fu_rp) rfl) ?_
            show WW K G 0 0 (CW A D (A 11) G.2.1 (au I 48 b48_29) (fu (fu F 20 g20_29) 22 g22_29) Q P) 32 [(0, .ref (A 47)), (1, .int (J opn)), (2, .int (J i))] [.int (J (bI (((fac S (S 5) (5 - (opn : Int)).toNat) ((f22_12 + 1), 0, lk)).2.1 = 0)))]
            have r29 : g22_29 = ((fac S (S 5) (5 - (opn : Int)).toNat) ((f22_12 + 1), 0, lk)).1 ∧ (((fac S (S 5) (5 - (opn : Int)).toNat) ((f22_12 + 1), 0, lk)).2.1 = 0 → g20_29 = (((fac S (S 5) (5 - (opn : Int)).toNat) ((f22_12 + 1), 0, lk)).2.2.length : Int) ∧ CD b48_29 ((fac S (S 5) (5 - (opn : Int)).toNat) ((f22_12 + 1), 0, lk)).2.2) := r29
            refine w_if_eq_b (pc := 32) (tgt := 44) hC dX3_readBoth_32 (by decide) (fun c32 => ?_) (fun c32 => ?_)
            · have hb : ((fac S (S 5) (5 - (opn : Int)).toNat) (f22_12 + 1, 0, lk)).2.1 = 1 := by omega
              have hz : ¬ ((evr S (S 5) (fac S (S 5) (5 - (opn : Int)).toNat)) (F 22, 0, ql)).2.1 = 0 := by rw [i3e, show 130 - i = 130 - (i + 1) + 1 by omega, lp_go (k := 130 - (i + 1)) (by omega) c24, emt_w hb, lp_w _ hb]; exact c32
              have hp : g22_29 = ((evr S (S 5) (fac S (S 5) (5 - (opn : Int)).toNat)) (F 22, 0, ql)).1 := by rw [i3e, show 130 - i = 130 - (i + 1) + 1 by omega, lp_go (k := 130 - (i + 1)) (by omega) c24, emt_w hb, lp_w _ hb]; exact r29.1
              refine w_iconst (pc := 44) hC dX3_readBoth_44 ?_
              refine w_iret (pc := 45) hC hRT dX3_readBoth_45 rfl ?_
              refine ⟨b48_29, g20_29, g22_29, retI (by exact (bI_f hz).symm), rfl, ?_⟩
              · exact And.intro hp (fun z => absurd z hz)
            · refine w_aload_n (pc := 35) hC dX3_readBoth_35 0 rfl rfl ?_
              refine w_bipush (pc := 36) hC dX3_readBoth_36 (z := (-2)) rfl ?_
              refine w_callV (pc := 38) (As := [.int (J (-2))]) (rest := []) hC dX3_readBoth_38 cv_X3_84 (c_X3_put (kl K) G A D (au I 48 b48_29) (fu (fu F 20 g20_29) 22 g22_29) Q P S (-2) (show RI S from by first | assumption | omega) (show LRn G.2.1 S (au I 48 b48_29) (fu (fu F 20 g20_29) 22 g22_29) Q P from by exact (LRb_fu (by decide) (LRb_fu (by decide) (LRb_au (by decide) hL)))) (show (F 21) = S 5 from by first | assumption | omega) (show 0 ≤ g22_29 ∧ g22_29 ≤ S 5 from by first | assumption | omega) (show 0 ≤ g20_29 ∧ g20_29 < 120 from by have u := r29.1; have u2 := (r29.2 c32).1; omega)) (by omega) ⟨Nat.le_of_ble_eq_true rfl, Nat.le_of_ble_eq_true rfl⟩ (q0 := 47) CW_47 rfl rfl rfl (Nat.le_of_ble_eq_true rfl) rfl (fun vo wo hv => ?_)
              obtain ⟨b48_38, g20_38, hv1, hw1, r38⟩ := hv
              rw [hv1, hw1]
              refine w_weq (CW_cong (au_th rfl au_rp) (fu_th rfl (fu_cm (by decide) fu_rp)) rfl) ?_
              show WW K G 0 0 (CW A D (A 11) G.2.1 (au I 48 b48_38) (fu (fu F 20 g20_38) 22 g22_29) Q P) 41 [(0, .ref (A 47)), (1, .int (J opn)), (2, .int (J i))] [.int (J 1)]
              have r38 : b48_38 = gu b48_29 g20_29 (-2) ∧ g20_38 = g20_29 + 1 := r38
              refine w_if_ne (pc := 41) (tgt := 46) hC dX3_readBoth_41 (by decide) (by omega) (fun c41 => ?_) (fun c41 => ?_)
              · refine w_iinc (pc := 46) hC dX3_readBoth_46 (lv2 := [(2, .int (J (i + 1))), (0, .ref (A 47)), (1, .int (J opn))]) 2 rfl (by rw [hnL]; decide) rfl ?_
                refine w_goto (pc := 49) hC dX3_readBoth_49 (tgt := 12) (by decide) ?_
                refine w_sub [1, 2, 0] (lv2 := [(0, .ref (A 47)), (1, .int (J opn)), (2, .int (J (i + 1)))]) rfl ?_
                refine ih12 (i + 1) b48_38 g20_38 g22_29 ?_ ?_ ?_ ?_
                · first | assumption | omega
                · have u := r29.1; exact And.intro (by omega) (by omega)
                · exact ⟨((fac S (S 5) (5 - (opn : Int)).toNat) (f22_12 + 1, 0, lk)).2.2 ++ [-2], by have w1 := r38.2; have w2 := (r29.2 c32).1; rw [List.length_append, List.length_singleton]; omega, by have w3 := r29.1; have w1 := r38.2; have w2 := (r29.2 c32).1; rw [List.length_append, List.length_singleton]; omega, CD_put (r29.2 c32).2 (r29.2 c32).1 r38.1 rfl, by rw [i3e, show 130 - i = 130 - (i + 1) + 1 by omega, lp_go (k := 130 - (i + 1)) (by omega) c24, emt_ok c32, r29.1]⟩
                · omega
              · exact absurd c41 (by decide)
    refine w_sub [1, 2, 0] (lv2 := [(0, .ref (A 47)), (1, .int (J opn)), (2, .int (J 0))]) rfl ?_
    refine loop12 ((120 - 0) + 1 : Int).toNat 0 b48_2 g20_2 g22_2 ?_ ?_ ?_ ?_
    · first | assumption | omega
    · have u := r2.1; exact And.intro (by omega) (by omega)
    · exact ⟨((fac S (S 5) (5 - (opn : Int)).toNat) (F 22, 0, ql)).2.2, (r2.2 c5).1, by have u := r2.1; omega, (r2.2 c5).2, by rw [r2.1, ← pq_eta c5]; rfl⟩
    · omega
  · have hb : ((fac S (S 5) (5 - (opn : Int)).toNat) (F 22, 0, ql)).2.1 = 1 := by omega
    have hz : ¬ ((evr S (S 5) (fac S (S 5) (5 - (opn : Int)).toNat)) (F 22, 0, ql)).2.1 = 0 := by show ¬ (lp S (S 5) (fac S (S 5) (5 - (opn : Int)).toNat) 38 (-2) 130 ((fac S (S 5) (5 - (opn : Int)).toNat) (F 22, 0, ql))).2.1 = 0; rw [lp_w _ hb]; exact c5
    have hp : g22_2 = ((evr S (S 5) (fac S (S 5) (5 - (opn : Int)).toNat)) (F 22, 0, ql)).1 := by show _ = (lp S (S 5) (fac S (S 5) (5 - (opn : Int)).toNat) 38 (-2) 130 ((fac S (S 5) (5 - (opn : Int)).toNat) (F 22, 0, ql))).1; rw [lp_w _ hb]; exact r2.1
    refine w_iconst (pc := 8) hC dX3_readBoth_8 ?_
    refine w_iret (pc := 9) hC hRT dX3_readBoth_9 rfl ?_
    refine ⟨b48_2, g20_2, g22_2, retI (by exact (bI_f hz).symm), rfl, ?_⟩
    · exact And.intro hp (fun z => absurd z hz)
set_option maxRecDepth 100000 in
set_option maxHeartbeats 4000000 in
theorem r_X3_readEither (l : Launch) (G : GT) (m : Nat) (IH : ∀ m2 : Nat, m2 < m → PG_rdr l G m2) (A D : Nat → Nat) (I : Nat → Int → Int) (F : Nat → Int) (Q : Nat → Nat → Option Nat) (P : va_W) (S : Int → Int) (ql : List Int) (opn : Int) (hR : RI S) (hL : LRn G.2.1 S I F Q P) (hsz : (F 21) = S 5) (hat : 0 ≤ (F 22) ∧ (F 22) ≤ S 5) (hq : (F 20) = (ql.length : Int) ∧ (ql.length : Int) ≤ (F 22)) (hcd : CD (I 48) ql) (ho : 0 ≤ opn ∧ opn ≤ 5) (hm : 3 * (5 - opn) + 2 ≤ ((m : Nat) : Int)) : CT l yX3_readEither cX3_readEither 3 (some .boolean) (6 + m) 0 0 G [.ref (A 47), .int (J opn)] (CW A D (A 11) G.2.1 I F Q P) (fun vo wo => ∃ (b48 : Int → Int) (g20 : Int) (g22 : Int), vo = some (.int (J (bI (((som S (S 5) (fac S (S 5) (5 - (opn : Int)).toNat)) ((F 22), 0, ql)).2.1 = 0)))) ∧ wo = CW A D (A 11) G.2.1 (au I 48 b48) (fu (fu F 20 g20) 22 g22) Q P ∧ (g22 = ((som S (S 5) (fac S (S 5) (5 - (opn : Int)).toNat)) ((F 22), 0, ql)).1 ∧ (((som S (S 5) (fac S (S 5) (5 - (opn : Int)).toNat)) ((F 22), 0, ql)).2.1 = 0 → g20 = (((som S (S 5) (fac S (S 5) (5 - (opn : Int)).toNat)) ((F 22), 0, ql)).2.2.length : Int) ∧ CD b48 ((som S (S 5) (fac S (S 5) (5 - (opn : Int)).toNat)) ((F 22), 0, ql)).2.2))) := by
  refine CT_of (own := RX3) rfl rfl (Nat.le_of_ble_eq_true rfl) (fun K hl hnL hC hRT hin => ?_)
  subst hl
  show WW K G 0 0 (CW A D (A 11) G.2.1 I F Q P) 0 [(0, .ref (A 47)), (1, .int (J opn))] []
  have hn := hR.n
  have hbd := hR.bd
  have htp := hR.tp
  have gl0 := gr_l (evr_gr (S := S) (f := fac S (S 5) (5 - opn).toNat) (fac_gr (S := S) (5 - opn).toNat) (pb_0 (e := S 5) (l := ql) hat))
  refine w_aload_n (pc := 0) hC dX3_readEither_0 0 rfl rfl ?_
  refine w_iload_n (pc := 1) hC dX3_readEither_1 1 rfl rfl ?_
  refine w_callV (pc := 2) (As := [.int (J opn)]) (rest := []) hC dX3_readEither_2 cv_X3_95 ((IH (m - 1) (by omega)).2.1 A D I F Q P S ql opn (show RI S from by first | assumption | omega) (show LRn G.2.1 S I F Q P from by exact hL) (show (F 21) = S 5 from by first | assumption | omega) (show 0 ≤ (F 22) ∧ (F 22) ≤ S 5 from by first | assumption | omega) (show (F 20) = (ql.length : Int) ∧ (ql.length : Int) ≤ (F 22) from by first | assumption | omega) (show CD (I 48) ql from by first | assumption | omega) (show 0 ≤ opn ∧ opn ≤ 5 from by first | assumption | omega) (show 3 * (5 - opn) + 1 ≤ (((m - 1) : Nat) : Int) from by first | assumption | omega)) (by omega) ⟨Nat.le_of_ble_eq_true rfl, Nat.le_of_ble_eq_true rfl⟩ (q0 := 47) CW_47 rfl rfl rfl (Nat.le_of_ble_eq_true rfl) rfl (fun vo wo hv => ?_)
  obtain ⟨b48_2, g20_2, g22_2, hv1, hw1, r2⟩ := hv
  rw [hv1, hw1]
  show WW K G 0 0 (CW A D (A 11) G.2.1 (au I 48 b48_2) (fu (fu F 20 g20_2) 22 g22_2) Q P) 5 [(0, .ref (A 47)), (1, .int (J opn))] [.int (J (bI (((evr S (S 5) (fac S (S 5) (5 - (opn : Int)).toNat)) ((F 22), 0, ql)).2.1 = 0)))]
  have r2 : g22_2 = ((evr S (S 5) (fac S (S 5) (5 - (opn : Int)).toNat)) ((F 22), 0, ql)).1 ∧ (((evr S (S 5) (fac S (S 5) (5 - (opn : Int)).toNat)) ((F 22), 0, ql)).2.1 = 0 → g20_2 = (((evr S (S 5) (fac S (S 5) (5 - (opn : Int)).toNat)) ((F 22), 0, ql)).2.2.length : Int) ∧ CD b48_2 ((evr S (S 5) (fac S (S 5) (5 - (opn : Int)).toNat)) ((F 22), 0, ql)).2.2) := r2
  refine w_if_ne_b (pc := 5) (tgt := 10) hC dX3_readEither_5 (by decide) (fun c5 => ?_) (fun c5 => ?_)
  · refine w_iconst (pc := 10) hC dX3_readEither_10 ?_
    refine w_istore_n (pc := 11) hC dX3_readEither_11 rfl (lv2 := [(2, .int (J 0)), (0, .ref (A 47)), (1, .int (J opn))]) (by rw [hnL]; decide) rfl ?_
    have loop12 : ∀ (nF : Nat) (i : Int) (a48_12 : Int → Int) (f20_12 : Int) (f22_12 : Int), (0 ≤ i ∧ i ≤ 120) → (i ≤ f22_12 ∧ f22_12 ≤ S 5) → (∃ lk : List Int, f20_12 = (lk.length : Int) ∧ (lk.length : Int) ≤ f22_12 ∧ CD a48_12 lk ∧ (som S (S 5) (fac S (S 5) (5 - (opn : Int)).toNat)) (F 22, 0, ql) = lp S (S 5) (evr S (S 5) (fac S (S 5) (5 - (opn : Int)).toNat)) 124 (-3) (130 - i).toNat (f22_12, 0, lk)) → (120 - i) < (nF : Int) → WW K G 0 0 (CW A D (A 11) G.2.1 (au I 48 a48_12) (fu (fu F 20 f20_12) 22 f22_12) Q P) 12 [(0, .ref (A 47)), (1, .int (J opn)), (2, .int (J i))] [] := by
      intro nF
      induction nF with
      | zero => intro i a48_12 f20_12 f22_12 i1 i2 i3 hm12; exact absurd hm12 (by omega)
      | succ nF ih12 =>
        intro i a48_12 f20_12 f22_12 i1 i2 i3 hm12
        obtain ⟨lk, k1, k2, k3, i3e⟩ := i3
        refine w_iload_n (pc := 12) hC dX3_readEither_12 2 rfl rfl ?_
        refine w_bipush (pc := 13) hC dX3_readEither_13 (z := 120) rfl ?_
        refine w_icmp_ge (pc := 15) (tgt := 52) hC dX3_readEither_15 (by decide) (by omega) (fun c15 => ?_) (fun c15 => ?_)
        · have hns : ¬ hr S (S 5) f22_12 = 124 := by rw [hr_out (by omega)]; decide
          rw [lp_stop _ hns] at i3e
          refine w_iconst (pc := 52) hC dX3_readEither_52 ?_
          refine w_iret (pc := 53) hC hRT dX3_readEither_53 rfl ?_
          refine ⟨a48_12, f20_12, f22_12, retI (by exact (bI_t (by rw [i3e])).symm), rfl, ?_⟩
          · rw [i3e]; exact And.intro rfl (fun _ => And.intro k1 k3)
        · refine w_aload_n (pc := 18) hC dX3_readEither_18 0 rfl rfl ?_
          refine w_bipush (pc := 19) hC dX3_readEither_19 (z := 124) rfl ?_
          refine w_callV (pc := 21) (As := [.int (J 124)]) (rest := []) hC dX3_readEither_21 cv_X3_48 (c_X3_take (kl K) G A D (au I 48 a48_12) (fu (fu F 20 f20_12) 22 f22_12) Q P S 124 (show RI S from by first | assumption | omega) (show LRn G.2.1 S (au I 48 a48_12) (fu (fu F 20 f20_12) 22 f22_12) Q P from by exact (LRb_fu (by decide) (LRb_fu (by decide) (LRb_au (by decide) hL)))) (show (F 21) = S 5 from by first | assumption | omega) (show 0 ≤ f22_12 ∧ f22_12 ≤ S 5 from by first | assumption | omega) (show 0 ≤ 124 ∧ 124 ≤ 127 from by decide)) (by omega) ⟨Nat.le_of_ble_eq_true rfl, Nat.le_of_ble_eq_true rfl⟩ (q0 := 47) CW_47 rfl rfl rfl (Nat.le_of_ble_eq_true rfl) rfl (fun vo wo hv => ?_)
          obtain ⟨g22_21, hv1, hw1, r21⟩ := hv
          rw [hv1, hw1]
          refine w_weq (CW_cong rfl (fu_th rfl fu_rp) rfl) ?_
          show WW K G 0 0 (CW A D (A 11) G.2.1 (au I 48 a48_12) (fu (fu F 20 f20_12) 22 g22_21) Q P) 24 [(0, .ref (A 47)), (1, .int (J opn)), (2, .int (J i))] [.int (J (bI ((hr S (S 5) f22_12) = 124)))]
          have r21 : g22_21 = if (hr S (S 5) f22_12) = 124 then f22_12 + 1 else f22_12 := r21
          refine w_if_eq_b (pc := 24) (tgt := 52) hC dX3_readEither_24 (by decide) (fun c24 => ?_) (fun c24 => ?_)
          · have eT21 : g22_21 = f22_12 := by rw [r21, if_neg c24]
            rw [eT21]
            show WW K G 0 0 (CW A D (A 11) G.2.1 (au I 48 a48_12) (fu (fu F 20 f20_12) 22 f22_12) Q P) 52 [(0, .ref (A 47)), (1, .int (J opn)), (2, .int (J i))] []
            have hns : ¬ hr S (S 5) f22_12 = 124 := by exact c24
            rw [lp_stop _ hns] at i3e
            refine w_iconst (pc := 52) hC dX3_readEither_52 ?_
            refine w_iret (pc := 53) hC hRT dX3_readEither_53 rfl ?_
            refine ⟨a48_12, f20_12, f22_12, retI (by exact (bI_t (by rw [i3e])).symm), rfl, ?_⟩
            · rw [i3e]; exact And.intro rfl (fun _ => And.intro k1 k3)
          · have eT21 : g22_21 = (f22_12 + 1) := by rw [r21, if_pos c24]
            rw [eT21]
            show WW K G 0 0 (CW A D (A 11) G.2.1 (au I 48 a48_12) (fu (fu F 20 f20_12) 22 (f22_12 + 1)) Q P) 27 [(0, .ref (A 47)), (1, .int (J opn)), (2, .int (J i))] []
            have hlt := hr_at c24 (by decide)
            have gl := gr_l (evr_gr (S := S) (f := fac S (S 5) (5 - opn).toNat) (fac_gr (S := S) (5 - opn).toNat) (pb_0 (e := S 5) (l := lk) (show 0 ≤ f22_12 + 1 ∧ f22_12 + 1 ≤ S 5 by omega)))
            refine w_aload_n (pc := 27) hC dX3_readEither_27 0 rfl rfl ?_
            refine w_iload_n (pc := 28) hC dX3_readEither_28 1 rfl rfl ?_
            refine w_callV (pc := 29) (As := [.int (J opn)]) (rest := []) hC dX3_readEither_29 cv_X3_95 ((IH (m - 1) (by omega)).2.1 A D (au I 48 a48_12) (fu (fu F 20 f20_12) 22 (f22_12 + 1)) Q P S lk opn (show RI S from by first | assumption | omega) (show LRn G.2.1 S (au I 48 a48_12) (fu (fu F 20 f20_12) 22 (f22_12 + 1)) Q P from by exact (LRb_fu (by decide) (LRb_fu (by decide) (LRb_au (by decide) hL)))) (show (F 21) = S 5 from by first | assumption | omega) (show 0 ≤ (f22_12 + 1) ∧ (f22_12 + 1) ≤ S 5 from by first | assumption | omega) (show f20_12 = (lk.length : Int) ∧ (lk.length : Int) ≤ (f22_12 + 1) from by first | assumption | omega) (show CD a48_12 lk from by first | assumption | omega) (show 0 ≤ opn ∧ opn ≤ 5 from by first | assumption | omega) (show 3 * (5 - opn) + 1 ≤ (((m - 1) : Nat) : Int) from by first | assumption | omega)) (by omega) ⟨Nat.le_of_ble_eq_true rfl, Nat.le_of_ble_eq_true rfl⟩ (q0 := 47) CW_47 rfl rfl rfl (Nat.le_of_ble_eq_true rfl) rfl (fun vo wo hv => ?_)
            obtain ⟨b48_29, g20_29, g22_29, hv1, hw1, r29⟩ := hv
            rw [hv1, hw1]
            refine w_weq (CW_cong (au_th rfl au_rp) (fu_th (fu_th rfl (fu_cm (by decide) fu_rp)) fu_rp) rfl) ?_
            show WW K G 0 0 (CW A D (A 11) G.2.1 (au I 48 b48_29) (fu (fu F 20 g20_29) 22 g22_29) Q P) 32 [(0, .ref (A 47)), (1, .int (J opn)), (2, .int (J i))] [.int (J (bI (((evr S (S 5) (fac S (S 5) (5 - (opn : Int)).toNat)) ((f22_12 + 1), 0, lk)).2.1 = 0)))]
            have r29 : g22_29 = ((evr S (S 5) (fac S (S 5) (5 - (opn : Int)).toNat)) ((f22_12 + 1), 0, lk)).1 ∧ (((evr S (S 5) (fac S (S 5) (5 - (opn : Int)).toNat)) ((f22_12 + 1), 0, lk)).2.1 = 0 → g20_29 = (((evr S (S 5) (fac S (S 5) (5 - (opn : Int)).toNat)) ((f22_12 + 1), 0, lk)).2.2.length : Int) ∧ CD b48_29 ((evr S (S 5) (fac S (S 5) (5 - (opn : Int)).toNat)) ((f22_12 + 1), 0, lk)).2.2) := r29
            refine w_if_eq_b (pc := 32) (tgt := 44) hC dX3_readEither_32 (by decide) (fun c32 => ?_) (fun c32 => ?_)
            · have hb : ((evr S (S 5) (fac S (S 5) (5 - (opn : Int)).toNat)) (f22_12 + 1, 0, lk)).2.1 = 1 := by omega
              have hz : ¬ ((som S (S 5) (fac S (S 5) (5 - (opn : Int)).toNat)) (F 22, 0, ql)).2.1 = 0 := by rw [i3e, show 130 - i = 130 - (i + 1) + 1 by omega, lp_go (k := 130 - (i + 1)) (by omega) c24, emt_w hb, lp_w _ hb]; exact c32
              have hp : g22_29 = ((som S (S 5) (fac S (S 5) (5 - (opn : Int)).toNat)) (F 22, 0, ql)).1 := by rw [i3e, show 130 - i = 130 - (i + 1) + 1 by omega, lp_go (k := 130 - (i + 1)) (by omega) c24, emt_w hb, lp_w _ hb]; exact r29.1
              refine w_iconst (pc := 44) hC dX3_readEither_44 ?_
              refine w_iret (pc := 45) hC hRT dX3_readEither_45 rfl ?_
              refine ⟨b48_29, g20_29, g22_29, retI (by exact (bI_f hz).symm), rfl, ?_⟩
              · exact And.intro hp (fun z => absurd z hz)
            · refine w_aload_n (pc := 35) hC dX3_readEither_35 0 rfl rfl ?_
              refine w_bipush (pc := 36) hC dX3_readEither_36 (z := (-3)) rfl ?_
              refine w_callV (pc := 38) (As := [.int (J (-3))]) (rest := []) hC dX3_readEither_38 cv_X3_84 (c_X3_put (kl K) G A D (au I 48 b48_29) (fu (fu F 20 g20_29) 22 g22_29) Q P S (-3) (show RI S from by first | assumption | omega) (show LRn G.2.1 S (au I 48 b48_29) (fu (fu F 20 g20_29) 22 g22_29) Q P from by exact (LRb_fu (by decide) (LRb_fu (by decide) (LRb_au (by decide) hL)))) (show (F 21) = S 5 from by first | assumption | omega) (show 0 ≤ g22_29 ∧ g22_29 ≤ S 5 from by first | assumption | omega) (show 0 ≤ g20_29 ∧ g20_29 < 120 from by have u := r29.1; have u2 := (r29.2 c32).1; omega)) (by omega) ⟨Nat.le_of_ble_eq_true rfl, Nat.le_of_ble_eq_true rfl⟩ (q0 := 47) CW_47 rfl rfl rfl (Nat.le_of_ble_eq_true rfl) rfl (fun vo wo hv => ?_)
              obtain ⟨b48_38, g20_38, hv1, hw1, r38⟩ := hv
              rw [hv1, hw1]
              refine w_weq (CW_cong (au_th rfl au_rp) (fu_th rfl (fu_cm (by decide) fu_rp)) rfl) ?_
              show WW K G 0 0 (CW A D (A 11) G.2.1 (au I 48 b48_38) (fu (fu F 20 g20_38) 22 g22_29) Q P) 41 [(0, .ref (A 47)), (1, .int (J opn)), (2, .int (J i))] [.int (J 1)]
              have r38 : b48_38 = gu b48_29 g20_29 (-3) ∧ g20_38 = g20_29 + 1 := r38
              refine w_if_ne (pc := 41) (tgt := 46) hC dX3_readEither_41 (by decide) (by omega) (fun c41 => ?_) (fun c41 => ?_)
              · refine w_iinc (pc := 46) hC dX3_readEither_46 (lv2 := [(2, .int (J (i + 1))), (0, .ref (A 47)), (1, .int (J opn))]) 2 rfl (by rw [hnL]; decide) rfl ?_
                refine w_goto (pc := 49) hC dX3_readEither_49 (tgt := 12) (by decide) ?_
                refine w_sub [1, 2, 0] (lv2 := [(0, .ref (A 47)), (1, .int (J opn)), (2, .int (J (i + 1)))]) rfl ?_
                refine ih12 (i + 1) b48_38 g20_38 g22_29 ?_ ?_ ?_ ?_
                · first | assumption | omega
                · have u := r29.1; exact And.intro (by omega) (by omega)
                · exact ⟨((evr S (S 5) (fac S (S 5) (5 - (opn : Int)).toNat)) (f22_12 + 1, 0, lk)).2.2 ++ [-3], by have w1 := r38.2; have w2 := (r29.2 c32).1; rw [List.length_append, List.length_singleton]; omega, by have w3 := r29.1; have w1 := r38.2; have w2 := (r29.2 c32).1; rw [List.length_append, List.length_singleton]; omega, CD_put (r29.2 c32).2 (r29.2 c32).1 r38.1 rfl, by rw [i3e, show 130 - i = 130 - (i + 1) + 1 by omega, lp_go (k := 130 - (i + 1)) (by omega) c24, emt_ok c32, r29.1]⟩
                · omega
              · exact absurd c41 (by decide)
    refine w_sub [1, 2, 0] (lv2 := [(0, .ref (A 47)), (1, .int (J opn)), (2, .int (J 0))]) rfl ?_
    refine loop12 ((120 - 0) + 1 : Int).toNat 0 b48_2 g20_2 g22_2 ?_ ?_ ?_ ?_
    · first | assumption | omega
    · have u := r2.1; exact And.intro (by omega) (by omega)
    · exact ⟨((evr S (S 5) (fac S (S 5) (5 - (opn : Int)).toNat)) (F 22, 0, ql)).2.2, (r2.2 c5).1, by have u := r2.1; omega, (r2.2 c5).2, by rw [r2.1, ← pq_eta c5]; rfl⟩
    · omega
  · have hb : ((evr S (S 5) (fac S (S 5) (5 - (opn : Int)).toNat)) (F 22, 0, ql)).2.1 = 1 := by omega
    have hz : ¬ ((som S (S 5) (fac S (S 5) (5 - (opn : Int)).toNat)) (F 22, 0, ql)).2.1 = 0 := by show ¬ (lp S (S 5) (evr S (S 5) (fac S (S 5) (5 - (opn : Int)).toNat)) 124 (-3) 130 ((evr S (S 5) (fac S (S 5) (5 - (opn : Int)).toNat)) (F 22, 0, ql))).2.1 = 0; rw [lp_w _ hb]; exact c5
    have hp : g22_2 = ((som S (S 5) (fac S (S 5) (5 - (opn : Int)).toNat)) (F 22, 0, ql)).1 := by show _ = (lp S (S 5) (evr S (S 5) (fac S (S 5) (5 - (opn : Int)).toNat)) 124 (-3) 130 ((evr S (S 5) (fac S (S 5) (5 - (opn : Int)).toNat)) (F 22, 0, ql))).1; rw [lp_w _ hb]; exact r2.1
    refine w_iconst (pc := 8) hC dX3_readEither_8 ?_
    refine w_iret (pc := 9) hC hRT dX3_readEither_9 rfl ?_
    refine ⟨b48_2, g20_2, g22_2, retI (by exact (bI_f hz).symm), rfl, ?_⟩
    · exact And.intro hp (fun z => absurd z hz)
theorem PG_rdr_all (l : Launch) (G : GT) (m : Nat) : PG_rdr l G m := Nat.strongRecOn m (fun m ih => ⟨r_X3_readFactor l G m ih, r_X3_readBoth l G m ih, r_X3_readEither l G m ih⟩)
theorem c_X3_readFactor (l : Launch) (G : GT) (m : Nat) : ∀ (A D : Nat → Nat) (I : Nat → Int → Int) (F : Nat → Int) (Q : Nat → Nat → Option Nat) (P : va_W) (S : Int → Int) (ql : List Int) (opn : Int) (hR : RI S) (hL : LRn G.2.1 S I F Q P) (hsz : (F 21) = S 5) (hat : 0 ≤ (F 22) ∧ (F 22) ≤ S 5) (hq : (F 20) = (ql.length : Int) ∧ (ql.length : Int) ≤ (F 22)) (hcd : CD (I 48) ql) (ho : 0 ≤ opn ∧ opn ≤ 5) (hm : 3 * (5 - opn) + 0 ≤ ((m : Nat) : Int)), CT l yX3_readFactor cX3_readFactor 5 (some .boolean) (6 + m) 0 0 G [.ref (A 47), .int (J opn)] (CW A D (A 11) G.2.1 I F Q P) (fun vo wo => ∃ (b48 : Int → Int) (g20 : Int) (g22 : Int), vo = some (.int (J (bI (((fac S (S 5) (5 - (opn : Int)).toNat) ((F 22), 0, ql)).2.1 = 0)))) ∧ wo = CW A D (A 11) G.2.1 (au I 48 b48) (fu (fu F 20 g20) 22 g22) Q P ∧ (g22 = ((fac S (S 5) (5 - (opn : Int)).toNat) ((F 22), 0, ql)).1 ∧ (((fac S (S 5) (5 - (opn : Int)).toNat) ((F 22), 0, ql)).2.1 = 0 → g20 = (((fac S (S 5) (5 - (opn : Int)).toNat) ((F 22), 0, ql)).2.2.length : Int) ∧ CD b48 ((fac S (S 5) (5 - (opn : Int)).toNat) ((F 22), 0, ql)).2.2))) := (PG_rdr_all l G m).1
theorem c_X3_readBoth (l : Launch) (G : GT) (m : Nat) : ∀ (A D : Nat → Nat) (I : Nat → Int → Int) (F : Nat → Int) (Q : Nat → Nat → Option Nat) (P : va_W) (S : Int → Int) (ql : List Int) (opn : Int) (hR : RI S) (hL : LRn G.2.1 S I F Q P) (hsz : (F 21) = S 5) (hat : 0 ≤ (F 22) ∧ (F 22) ≤ S 5) (hq : (F 20) = (ql.length : Int) ∧ (ql.length : Int) ≤ (F 22)) (hcd : CD (I 48) ql) (ho : 0 ≤ opn ∧ opn ≤ 5) (hm : 3 * (5 - opn) + 1 ≤ ((m : Nat) : Int)), CT l yX3_readBoth cX3_readBoth 3 (some .boolean) (6 + m) 0 0 G [.ref (A 47), .int (J opn)] (CW A D (A 11) G.2.1 I F Q P) (fun vo wo => ∃ (b48 : Int → Int) (g20 : Int) (g22 : Int), vo = some (.int (J (bI (((evr S (S 5) (fac S (S 5) (5 - (opn : Int)).toNat)) ((F 22), 0, ql)).2.1 = 0)))) ∧ wo = CW A D (A 11) G.2.1 (au I 48 b48) (fu (fu F 20 g20) 22 g22) Q P ∧ (g22 = ((evr S (S 5) (fac S (S 5) (5 - (opn : Int)).toNat)) ((F 22), 0, ql)).1 ∧ (((evr S (S 5) (fac S (S 5) (5 - (opn : Int)).toNat)) ((F 22), 0, ql)).2.1 = 0 → g20 = (((evr S (S 5) (fac S (S 5) (5 - (opn : Int)).toNat)) ((F 22), 0, ql)).2.2.length : Int) ∧ CD b48 ((evr S (S 5) (fac S (S 5) (5 - (opn : Int)).toNat)) ((F 22), 0, ql)).2.2))) := (PG_rdr_all l G m).2.1
theorem c_X3_readEither (l : Launch) (G : GT) (m : Nat) : ∀ (A D : Nat → Nat) (I : Nat → Int → Int) (F : Nat → Int) (Q : Nat → Nat → Option Nat) (P : va_W) (S : Int → Int) (ql : List Int) (opn : Int) (hR : RI S) (hL : LRn G.2.1 S I F Q P) (hsz : (F 21) = S 5) (hat : 0 ≤ (F 22) ∧ (F 22) ≤ S 5) (hq : (F 20) = (ql.length : Int) ∧ (ql.length : Int) ≤ (F 22)) (hcd : CD (I 48) ql) (ho : 0 ≤ opn ∧ opn ≤ 5) (hm : 3 * (5 - opn) + 2 ≤ ((m : Nat) : Int)), CT l yX3_readEither cX3_readEither 3 (some .boolean) (6 + m) 0 0 G [.ref (A 47), .int (J opn)] (CW A D (A 11) G.2.1 I F Q P) (fun vo wo => ∃ (b48 : Int → Int) (g20 : Int) (g22 : Int), vo = some (.int (J (bI (((som S (S 5) (fac S (S 5) (5 - (opn : Int)).toNat)) ((F 22), 0, ql)).2.1 = 0)))) ∧ wo = CW A D (A 11) G.2.1 (au I 48 b48) (fu (fu F 20 g20) 22 g22) Q P ∧ (g22 = ((som S (S 5) (fac S (S 5) (5 - (opn : Int)).toNat)) ((F 22), 0, ql)).1 ∧ (((som S (S 5) (fac S (S 5) (5 - (opn : Int)).toNat)) ((F 22), 0, ql)).2.1 = 0 → g20 = (((som S (S 5) (fac S (S 5) (5 - (opn : Int)).toNat)) ((F 22), 0, ql)).2.2.length : Int) ∧ CD b48 ((som S (S 5) (fac S (S 5) (5 - (opn : Int)).toNat)) ((F 22), 0, ql)).2.2))) := (PG_rdr_all l G m).2.2
