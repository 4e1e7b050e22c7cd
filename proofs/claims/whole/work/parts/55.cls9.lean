
theorem LR_cong {b f : Nat} {cy : Nat → ClassId} {S : Int → Int} {I I2 : Nat → Int → Int} {F F2 : Nat → Int} {Q Q2 : Nat → Nat → Option Nat} {P : va_W} (eI : I = I2) (eF : F = F2) (eQ : Q = Q2) (h : LRb b f cy S I F Q P) : LRb b f cy S I2 F2 Q2 P := by
  subst eI
  subst eF
  subst eQ
  exact h
theorem LR_cg {b f : Nat} {cy : Nat → ClassId} {S : Int → Int} {I I2 : Nat → Int → Int} {F F2 : Nat → Int} {Q Q2 : Nat → Nat → Option Nat} {P : va_W} (h : LRb b f cy S I F Q P) (eI : I = I2) (eF : F = F2) (eQ : Q = Q2) : LRb b f cy S I2 F2 Q2 P := LR_cong eI eF eQ h
theorem CLB_cong {P : va_W} {cy : Nat → ClassId} {S S2 : Int → Int} {c : Int} {q : Nat} (e : ∀ j : Int, 178 ≤ j → j < 893 → S2 j = S j) (hc : 0 ≤ c ∧ c < 5) (hs : S (188 + c) ≤ 140) (h : CLB P cy S c q) : CLB P cy S2 c q := by
  obtain ⟨i, j, qc, g, h1, h2, h3⟩ := h
  refine ⟨i, j, qc, g, ?_, ?_, fun k k0 k1 => ?_⟩
  · rw [e _ (by omega) (by omega), e _ (by omega) (by omega)]; exact h1
  · rw [e _ (by omega) (by omega)]; exact h2
  · rw [e (188 + c) (by omega) (by omega)] at k1
    rw [e _ (by omega) (by omega)]
    exact h3 k k0 k1
theorem LRn_mk {cy : Nat → ClassId} {S S2 : Int → Int} {I I2 : Nat → Int → Int} {F F2 : Nat → Int} {Q : Nat → Nat → Option Nat} {P : va_W} (h : LRn cy S I F Q P) (hR : RI S) (e0 : S2 0 = S 0) (e1 : S2 1 = S 1) (eh : ∀ j : Int, 130 ≤ j → j < 893 → S2 j = S j) (ep : ∀ j : Int, 929 ≤ j → S2 j = S j)
    (f1 : F2 1 = S2 0) (f2 : F2 2 = S2 2) (f3 : F2 3 = S2 5) (f4 : F2 4 = S2 1) (f5 : F2 5 = S2 4) (f6 : F2 6 = S2 3)
    (i2 : ∀ r : Int, 0 ≤ r → r < S2 0 → I2 2 r = dg (S2 6) r) (ich : ∀ k : Nat, 4 ≤ k → k < 10 → I2 k = I k) (i11 : ∀ i : Int, 0 ≤ i → i < S2 5 → I2 11 i = sby (S2 (10 + i))) (i13 : ∀ i : Int, 0 ≤ i → i < S2 4 → I2 13 i = S2 (923 + i)) (i14 : ∀ k : Int, 0 ≤ k → k < S2 3 → I2 14 k = S2 (893 + 2 * k) ∧ I2 15 k = S2 (893 + 2 * k + 1)) (ipa : ∀ k : Nat, 17 ≤ k → k < 23 → I2 k = I k) : LRn cy S2 I2 F2 Q P := by
  obtain ⟨h1, h2, h3, h4, h5, h6, h7, h8, h9⟩ := h
  have hn := hR.n
  have hcl := hR.cl
  refine ⟨⟨f1, f2, f3, f4, f5, f6⟩, i2, ?_, i11, i13, i14, ?_, ?_, ?_⟩
  · intro a c a0 a1 c0 c1
    show I2 (4 + a.toNat) c = _
    rw [ich _ (by omega) (by omega), e0, eh _ (by omega) (by omega)]
    exact h3 a c a0 a1 c0 c1
  · intro a c a0 a1 c0 c1
    show I2 (17 + a.toNat) c = _
    rw [ipa _ (by omega) (by omega), ep _ (by omega)]
    exact h7 a c a0 a1 c0 c1
  · intro a a0 a1
    rw [e0, eh _ (by omega) (by omega), eh _ (by omega) (by omega)]
    exact h8 a a0 a1
  · intro c c0 c1
    rw [e1] at c1
    obtain ⟨q, g1, g2⟩ := h9 c c0 c1
    exact ⟨q, g1, CLB_cong (fun j j0 j1 => eh j (by omega) j1) (by omega) (hR.sm (188 + c) (by omega) (by omega)).2 g2⟩
theorem LRn_6 {cy : Nat → ClassId} {S : Int → Int} {I : Nat → Int → Int} {F : Nat → Int} {Q : Nat → Nat → Option Nat} {P : va_W} {v : Int} {s : Int → Int} (h : LRn cy S I F Q P) (hR : RI S) (hs : ∀ r : Int, 0 ≤ r → r < S 0 → s r = dg v r) : LRn cy (gu S 6 v) (au I 2 s) F Q P :=
  LRn_mk h hR rfl rfl (fun j a b => gu_ne (by omega)) (fun j a => gu_ne (by omega)) (show F 1 = S 0 from l_n h) (show F 2 = S 2 from l_td h) (show F 3 = S 5 from l_tp h) (show F 4 = S 1 from l_cl h) (show F 5 = S 4 from l_rw h) (show F 6 = S 3 from l_rd h) hs (fun k a b => au_ne (by omega)) (fun i a b => by rw [gu_ne (by omega)]; exact l_tape h a b) (fun i a b => by rw [gu_ne (by omega)]; exact l_row h a b) (fun k a b => by rw [gu_ne (by omega), gu_ne (by omega)]; exact ⟨l_up h a b, l_lo h a b⟩) (fun k a b => au_ne (by omega))
theorem LRn_2 {cy : Nat → ClassId} {S : Int → Int} {I : Nat → Int → Int} {F : Nat → Int} {Q : Nat → Nat → Option Nat} {P : va_W} {v : Int} (h : LRn cy S I F Q P) (hR : RI S) : LRn cy (gu S 2 v) I (fu F 2 v) Q P :=
  LRn_mk h hR rfl rfl (fun j a b => gu_ne (by omega)) (fun j a => gu_ne (by omega)) (show F 1 = S 0 from l_n h) rfl (show F 3 = S 5 from l_tp h) (show F 4 = S 1 from l_cl h) (show F 5 = S 4 from l_rw h) (show F 6 = S 3 from l_rd h) (fun r a b => l_bd h a b) (fun k a b => rfl) (fun i a b => by rw [gu_ne (by omega)]; exact l_tape h a b) (fun i a b => by rw [gu_ne (by omega)]; exact l_row h a b) (fun k a b => by rw [gu_ne (by omega), gu_ne (by omega)]; exact ⟨l_up h a b, l_lo h a b⟩) (fun k a b => rfl)
theorem LRn_4 {cy : Nat → ClassId} {S : Int → Int} {I : Nat → Int → Int} {F : Nat → Int} {Q : Nat → Nat → Option Nat} {P : va_W} {a : Int} {s : Int → Int} (h : LRn cy S I F Q P) (hR : RI S) (hx : S 4 < 6) (hs : gu (I 13) (S 4) a = s) : LRn cy (gu (gu S (923 + S 4) a) 4 (S 4 + 1)) (au I 13 s) (fu F 5 (S 4 + 1)) Q P := by
  have hw := hR.rw
  have e : ∀ j : Int, j ≠ 4 → j ≠ 923 + S 4 → gu (gu S (923 + S 4) a) 4 (S 4 + 1) j = S j := fun j a b => by rw [gu_ne a, gu_ne b]
  refine LRn_mk h hR (e _ (by omega) (by omega)) (e _ (by omega) (by omega)) (fun j a b => e j (by omega) (by omega)) ?_ ?_ ?_ ?_ ?_ ?_ ?_ ?_ (fun k a b => au_ne (by omega)) ?_ ?_ ?_ (fun k a b => au_ne (by omega))
  · intro j j0
    exact e j (by omega) (by omega)
  · rw [e _ (by omega) (by omega)]; exact (show F 1 = S 0 from l_n h)
  · rw [e _ (by omega) (by omega)]; exact (show F 2 = S 2 from l_td h)
  · rw [e _ (by omega) (by omega)]; exact (show F 3 = S 5 from l_tp h)
  · rw [e _ (by omega) (by omega)]; exact (show F 4 = S 1 from l_cl h)
  · rfl
  · rw [e _ (by omega) (by omega)]; exact (show F 6 = S 3 from l_rd h)
  · rw [e _ (by omega) (by omega), e _ (by omega) (by omega)]; exact fun r a b => l_bd h a b
  · intro i a b
    rw [e _ (by omega) (by omega)] at b
    have := hR.tp
    rw [e _ (by omega) (by omega)]; exact l_tape h a b
  · intro i a0 b
    show (au I 13 s) 13 i = _
    rw [au_eq, ← hs]
    have b2 : i < S 4 + 1 := b
    by_cases c : i = S 4
    · rw [c, gu_eq, gu_ne (by omega), gu_eq]
    · rw [gu_ne c, gu_ne (by omega), gu_ne (by omega)]
      exact l_row h a0 (by omega)
  · intro k a b
    rw [e _ (by omega) (by omega)] at b
    have := hR.rd
    rw [e _ (by omega) (by omega), e _ (by omega) (by omega)]; exact ⟨l_up h a b, l_lo h a b⟩
theorem LRn_4z {cy : Nat → ClassId} {S : Int → Int} {I : Nat → Int → Int} {F : Nat → Int} {Q : Nat → Nat → Option Nat} {P : va_W} (h : LRn cy S I F Q P) (hR : RI S) : LRn cy (gu S 4 0) I (fu F 5 0) Q P :=
  LRn_mk h hR rfl rfl (fun j a b => gu_ne (by omega)) (fun j a => gu_ne (by omega)) (show F 1 = S 0 from l_n h) (show F 2 = S 2 from l_td h) (show F 3 = S 5 from l_tp h) (show F 4 = S 1 from l_cl h) rfl (show F 6 = S 3 from l_rd h) (fun r a b => l_bd h a b) (fun k a b => rfl) (fun i a b => by rw [gu_ne (by omega)]; exact l_tape h a b) (fun i a b => by rw [show gu S 4 0 4 = 0 from rfl] at b; omega) (fun k a b => by rw [gu_ne (by omega), gu_ne (by omega)]; exact ⟨l_up h a b, l_lo h a b⟩) (fun k a b => rfl)
theorem LRn_3z {cy : Nat → ClassId} {S : Int → Int} {I : Nat → Int → Int} {F : Nat → Int} {Q : Nat → Nat → Option Nat} {P : va_W} (h : LRn cy S I F Q P) (hR : RI S) : LRn cy (gu S 3 0) I (fu F 6 0) Q P :=
  LRn_mk h hR rfl rfl (fun j a b => gu_ne (by omega)) (fun j a => gu_ne (by omega)) (show F 1 = S 0 from l_n h) (show F 2 = S 2 from l_td h) (show F 3 = S 5 from l_tp h) (show F 4 = S 1 from l_cl h) (show F 5 = S 4 from l_rw h) rfl (fun r a b => l_bd h a b) (fun k a b => rfl) (fun i a b => by rw [gu_ne (by omega)]; exact l_tape h a b) (fun i a b => by rw [gu_ne (by omega)]; exact l_row h a b) (fun k a b => by rw [show gu S 3 0 3 = 0 from rfl] at b; omega) (fun k a b => rfl)
theorem LRn_3 {cy : Nat → ClassId} {S : Int → Int} {I : Nat → Int → Int} {F : Nat → Int} {Q : Nat → Nat → Option Nat} {P : va_W} {x y : Int} {s u : Int → Int} (h : LRn cy S I F Q P) (hR : RI S) (hx : S 3 < 15) (hs : gu (I 14) (S 3) x = s) (hu : gu (I 15) (S 3) y = u) : LRn cy (gu (gu (gu S (893 + 2 * S 3) x) (893 + 2 * S 3 + 1) y) 3 (S 3 + 1)) (au (au I 14 s) 15 u) (fu F 6 (S 3 + 1)) Q P := by
  have hw := hR.rd
  have e : ∀ j : Int, j ≠ 3 → (j < 893 ∨ 923 ≤ j) → gu (gu (gu S (893 + 2 * S 3) x) (893 + 2 * S 3 + 1) y) 3 (S 3 + 1) j = S j := fun j a b => by rw [gu_ne a, gu_ne (by omega), gu_ne (by omega)]
  refine LRn_mk h hR (e _ (by omega) (by omega)) (e _ (by omega) (by omega)) (fun j a b => e j (by omega) (by omega)) (fun j a => e j (by omega) (by omega)) ?_ ?_ ?_ ?_ ?_ ?_ ?_ (fun k a b => by rw [au_ne (by omega), au_ne (by omega)]) ?_ ?_ ?_ (fun k a b => by rw [au_ne (by omega), au_ne (by omega)])
  · rw [e _ (by omega) (by omega)]; exact (show F 1 = S 0 from l_n h)
  · rw [e _ (by omega) (by omega)]; exact (show F 2 = S 2 from l_td h)
  · rw [e _ (by omega) (by omega)]; exact (show F 3 = S 5 from l_tp h)
  · rw [e _ (by omega) (by omega)]; exact (show F 4 = S 1 from l_cl h)
  · rw [e _ (by omega) (by omega)]; exact (show F 5 = S 4 from l_rw h)
  · rfl
  · rw [e _ (by omega) (by omega), e _ (by omega) (by omega)]; exact fun r a b => l_bd h a b
  · intro i a b
    rw [e _ (by omega) (by omega)] at b
    have := hR.tp
    rw [e _ (by omega) (by omega)]; exact l_tape h a b
  · intro i a b
    rw [e _ (by omega) (by omega)] at b
    rw [e _ (by omega) (by omega)]; exact l_row h a b
  · intro k a b
    have b2 : k < S 3 + 1 := b
    show s k = _ ∧ u k = _
    rw [← hs, ← hu]
    by_cases c : k = S 3
    · rw [c, gu_eq, gu_eq, gu_ne (by omega), gu_ne (by omega), gu_eq, gu_ne (by omega), gu_eq]
      exact ⟨rfl, rfl⟩
    · rw [gu_ne c, gu_ne c, gu_ne (by omega), gu_ne (by omega), gu_ne (by omega), gu_ne (by omega), gu_ne (by omega), gu_ne (by omega)]
      exact ⟨l_up h a (by omega), l_lo h a (by omega)⟩

set_option maxRecDepth 100000 in
set_option maxHeartbeats 4000000 in
theorem c_X11_pass (l : Launch) (G : GT) (A D : Nat → Nat) (T : Nat) (I : Nat → Int → Int) (F : Nat → Int) (Q : Nat → Nat → Option Nat) (P : va_W) (S : Int → Int) (n : Int) (hR : RI S) (hL : LRn G.2.1 S I F Q P) (h0 : -2147483648 ≤ n ∧ n < 2147483648) : CT l yX11_pass cX11_pass 2 (some .int) 0 0 0 G [.ref (A 0), .int (J n)] (CW A D T G.2.1 I F Q P) (fun vo wo => ∃ (g2 : Int), vo = some (.int (J (v_pass S n))) ∧ wo = CW A D T G.2.1 I (fu F 2 g2) Q P ∧ (LRn G.2.1 (n_pass S n) I (fu F 2 g2) Q P)) := by
  refine CT_of (own := RX11) rfl rfl (Nat.le_of_ble_eq_true rfl) (fun K hl hnL hC hRT hin => ?_)
  subst hl
  show WW K G 0 0 (CW A D T G.2.1 I F Q P) 0 [(0, .ref (A 0)), (1, .int (J n))] []
  have hn := hR.n
  have hbd := hR.bd
  have htd := hR.td
  refine w_iload_n (pc := 0) hC dX11_pass_0 1 rfl rfl ?_
  refine w_iconst (pc := 1) hC dX11_pass_1 ?_
  refine w_icmp_lt (pc := 2) (tgt := 26) hC dX11_pass_2 (by decide) (by omega) (fun c2 => ?_) (fun c2 => ?_)
  · refine w_bipush (pc := 26) hC dX11_pass_26 (z := (-2)) rfl ?_
    refine w_iret (pc := 28) hC hRT dX11_pass_28 rfl ?_
    refine ⟨(F 2), retI (by unfold v_pass; first | rw [if_neg (by omega)] | rw [if_pos (by omega)]), CW_cong rfl (fu_ms (k := 2) (v := F 2) rfl rfl rfl) rfl, ?_⟩
    · unfold n_pass
      rw [if_neg (by omega)]
      exact LR_cg (show LRn G.2.1 S I F Q P from hL) rfl (fu_ms (k := 2) (v := F 2) rfl rfl rfl) rfl
  · refine w_iload_n (pc := 5) hC dX11_pass_5 1 rfl rfl ?_
    refine w_bipush (pc := 6) hC dX11_pass_6 (z := 99) rfl ?_
    refine w_icmp_gt (pc := 8) (tgt := 26) hC dX11_pass_8 (by decide) (by omega) (fun c8 => ?_) (fun c8 => ?_)
    · refine w_bipush (pc := 26) hC dX11_pass_26 (z := (-2)) rfl ?_
      refine w_iret (pc := 28) hC hRT dX11_pass_28 rfl ?_
      refine ⟨(F 2), retI (by unfold v_pass; first | rw [if_neg (by omega)] | rw [if_pos (by omega)]), CW_cong rfl (fu_ms (k := 2) (v := F 2) rfl rfl rfl) rfl, ?_⟩
      · unfold n_pass
        rw [if_neg (by omega)]
        exact LR_cg (show LRn G.2.1 S I F Q P from hL) rfl (fu_ms (k := 2) (v := F 2) rfl rfl rfl) rfl
    · refine w_aload_n (pc := 11) hC dX11_pass_11 0 rfl rfl ?_
      refine w_getf (pc := 12) (v := .ref (A 1)) hC dX11_pass_12 fi_X11_12 0 CW_0 rfl ?_
      refine w_getfN (pc := 15) (v := .int (J (S 2))) hC dX11_pass_15 fn_X11_143 1 CW_1 (congrArg (fun z : Int => some (Value.int (J z))) (l_td hL)) ?_
      refine w_iload_n (pc := 18) hC dX11_pass_18 1 rfl rfl ?_
      refine w_iadd (pc := 19) hC dX11_pass_19 ?_
      refine w_sipush (pc := 20) hC dX11_pass_20 (z := 999) rfl ?_
      refine w_icmp_le (pc := 23) (tgt := 29) hC dX11_pass_23 (by decide) (by omega) (fun c23 => ?_) (fun c23 => ?_)
      · refine w_aload_n (pc := 29) hC dX11_pass_29 0 rfl rfl ?_
        refine w_getf (pc := 30) (v := .ref (A 1)) hC dX11_pass_30 fi_X11_12 0 CW_0 rfl ?_
        refine w_dup (pc := 33) hC dX11_pass_33 rfl ?_
        refine w_getfN (pc := 34) (v := .int (J (S 2))) hC dX11_pass_34 fn_X11_143 1 CW_1 (congrArg (fun z : Int => some (Value.int (J z))) (l_td hL)) ?_
        refine w_iload_n (pc := 37) hC dX11_pass_37 1 rfl rfl ?_
        refine w_iadd (pc := 38) hC dX11_pass_38 ?_
        refine w_putfN (pc := 39) (w2 := CW A D T G.2.1 I (fu F 2 ((S 2) + n)) Q P) hC dX11_pass_39 fn_X11_143 fp_X6_3 rfl 1 CW_1 (rfl) (rfl) (Nat.le_of_ble_eq_true rfl) (CWf_2 rfl) ?_
        refine w_aload_n (pc := 42) hC dX11_pass_42 0 rfl rfl ?_
        refine w_getf (pc := 43) (v := .ref (A 1)) hC dX11_pass_43 fi_X11_12 0 CW_0 rfl ?_
        refine w_getfN (pc := 46) (v := .int (J ((S 2) + n))) hC dX11_pass_46 fn_X11_143 1 CW_1 rfl ?_
        refine w_iret (pc := 49) hC hRT dX11_pass_49 rfl ?_
        refine ⟨(S 2) + n, retI (by unfold v_pass; first | rw [if_neg (by omega)] | rw [if_pos (by omega)]), rfl, ?_⟩
        · unfold n_pass
          rw [if_pos (by omega)]
          exact LRn_2 hL hR
      · refine w_bipush (pc := 26) hC dX11_pass_26 (z := (-2)) rfl ?_
        refine w_iret (pc := 28) hC hRT dX11_pass_28 rfl ?_
        refine ⟨(F 2), retI (by unfold v_pass; first | rw [if_neg (by omega)] | rw [if_pos (by omega)]), CW_cong rfl (fu_ms (k := 2) (v := F 2) rfl rfl rfl) rfl, ?_⟩
        · unfold n_pass
          rw [if_neg (by omega)]
          exact LR_cg (show LRn G.2.1 S I F Q P from hL) rfl (fu_ms (k := 2) (v := F 2) rfl rfl rfl) rfl
set_option maxRecDepth 100000 in
set_option maxHeartbeats 4000000 in
theorem c_X11_row (l : Launch) (G : GT) (A D : Nat → Nat) (T : Nat) (I : Nat → Int → Int) (F : Nat → Int) (Q : Nat → Nat → Option Nat) (P : va_W) (S : Int → Int) (a : Int) (hR : RI S) (hL : LRn G.2.1 S I F Q P) (h0 : -2147483648 ≤ a ∧ a < 2147483648) : CT l yX11_row cX11_row 2 (some .int) 0 0 0 G [.ref (A 0), .int (J a)] (CW A D T G.2.1 I F Q P) (fun vo wo => ∃ (b13 : Int → Int) (g5 : Int), vo = some (.int (J (v_row S a))) ∧ wo = CW A D T G.2.1 (au I 13 b13) (fu F 5 g5) Q P ∧ (LRn G.2.1 (n_row S a) (au I 13 b13) (fu F 5 g5) Q P)) := by
  refine CT_of (own := RX11) rfl rfl (Nat.le_of_ble_eq_true rfl) (fun K hl hnL hC hRT hin => ?_)
  subst hl
  show WW K G 0 0 (CW A D T G.2.1 I F Q P) 0 [(0, .ref (A 0)), (1, .int (J a))] []
  have hn := hR.n
  have hbd := hR.bd
  have hrw := hR.rw
  refine w_iload_n (pc := 0) hC dX11_row_0 1 rfl rfl ?_
  refine w_bipush (pc := 1) hC dX11_row_1 (z := (-2)) rfl ?_
  refine w_icmp_ne (pc := 3) (tgt := 16) hC dX11_row_3 (by decide) (by omega) (fun c3 => ?_) (fun c3 => ?_)
  · refine w_iload_n (pc := 16) hC dX11_row_16 1 rfl rfl ?_
    refine w_iconst (pc := 17) hC dX11_row_17 ?_
    refine w_icmp_lt (pc := 18) (tgt := 27) hC dX11_row_18 (by decide) (by omega) (fun c18 => ?_) (fun c18 => ?_)
    · refine w_bipush (pc := 27) hC dX11_row_27 (z := (-2)) rfl ?_
      refine w_iret (pc := 29) hC hRT dX11_row_29 rfl ?_
      refine ⟨(I 13), (F 5), retI (by unfold v_row; rw [if_neg (by omega), if_pos (by omega)]), CW_cong (au_ms (k := 13) (v := I 13) rfl rfl rfl) (fu_ms (k := 5) (v := F 5) rfl rfl rfl) rfl, ?_⟩
      · unfold n_row
        rw [if_neg (by omega), if_pos (by omega)]
        exact LR_cg (show LRn G.2.1 S I F Q P from hL) (au_ms (k := 13) (v := I 13) rfl rfl rfl) (fu_ms (k := 5) (v := F 5) rfl rfl rfl) rfl
    · refine w_iload_n (pc := 21) hC dX11_row_21 1 rfl rfl ?_
      refine w_bipush (pc := 22) hC dX11_row_22 (z := 6) rfl ?_
      refine w_icmp_lt (pc := 24) (tgt := 30) hC dX11_row_24 (by decide) (by omega) (fun c24 => ?_) (fun c24 => ?_)
      · refine w_aload_n (pc := 30) hC dX11_row_30 0 rfl rfl ?_
        refine w_getf (pc := 31) (v := .ref (A 1)) hC dX11_row_31 fi_X11_12 0 CW_0 rfl ?_
        refine w_getfN (pc := 34) (v := .int (J (S 4))) hC dX11_row_34 fn_X11_201 1 CW_1 (congrArg (fun z : Int => some (Value.int (J z))) (l_rw hL)) ?_
        refine w_bipush (pc := 37) hC dX11_row_37 (z := 6) rfl ?_
        refine w_icmp_lt (pc := 39) (tgt := 45) hC dX11_row_39 (by decide) (by omega) (fun c39 => ?_) (fun c39 => ?_)
        · refine w_aload_n (pc := 45) hC dX11_row_45 0 rfl rfl ?_
          refine w_getf (pc := 46) (v := .ref (A 1)) hC dX11_row_46 fi_X11_12 0 CW_0 rfl ?_
          refine w_getfN (pc := 49) (v := .ref (A 13)) hC dX11_row_49 fn_X11_204 1 CW_1 rfl ?_
          refine w_aload_n (pc := 52) hC dX11_row_52 0 rfl rfl ?_
          refine w_getf (pc := 53) (v := .ref (A 1)) hC dX11_row_53 fi_X11_12 0 CW_0 rfl ?_
          refine w_getfN (pc := 56) (v := .int (J (S 4))) hC dX11_row_56 fn_X11_201 1 CW_1 (congrArg (fun z : Int => some (Value.int (J z))) (l_rw hL)) ?_
          refine w_iload_n (pc := 59) hC dX11_row_59 1 rfl rfl ?_
          refine w_iast (pc := 60) (g := (I 13)) (w2 := CW A D T G.2.1 (au I 13 (gu (I 13) (S 4) a)) F Q P) hC dX11_row_60 13 CW_13 (by omega) (Nat.le_of_ble_eq_true rfl) (CWa_13 rfl) ?_
          generalize h60 : gu (I 13) (S 4) a = s60
          refine w_aload_n (pc := 61) hC dX11_row_61 0 rfl rfl ?_
          refine w_getf (pc := 62) (v := .ref (A 1)) hC dX11_row_62 fi_X11_12 0 CW_0 rfl ?_
          refine w_dup (pc := 65) hC dX11_row_65 rfl ?_
          refine w_getfN (pc := 66) (v := .int (J (S 4))) hC dX11_row_66 fn_X11_201 1 CW_1 (congrArg (fun z : Int => some (Value.int (J z))) (l_rw hL)) ?_
          refine w_iconst (pc := 69) hC dX11_row_69 ?_
          refine w_iadd (pc := 70) hC dX11_row_70 ?_
          refine w_putfN (pc := 71) (w2 := CW A D T G.2.1 (au I 13 s60) (fu F 5 ((S 4) + 1)) Q P) hC dX11_row_71 fn_X11_201 fp_X6_10 rfl 1 CW_1 (rfl) (rfl) (Nat.le_of_ble_eq_true rfl) (CWf_5 rfl) ?_
          refine w_aload_n (pc := 74) hC dX11_row_74 0 rfl rfl ?_
          refine w_getf (pc := 75) (v := .ref (A 1)) hC dX11_row_75 fi_X11_12 0 CW_0 rfl ?_
          refine w_getfN (pc := 78) (v := .int (J ((S 4) + 1))) hC dX11_row_78 fn_X11_201 1 CW_1 rfl ?_
          refine w_iret (pc := 81) hC hRT dX11_row_81 rfl ?_
          refine ⟨s60, (S 4) + 1, retI (by unfold v_row; rw [if_neg (by omega), if_neg (by omega), if_neg (by omega)]), rfl, ?_⟩
          · unfold n_row
            rw [if_neg (by omega), if_neg (by omega), if_neg (by omega)]
            exact LRn_4 hL hR (by omega) h60
        · refine w_bipush (pc := 42) hC dX11_row_42 (z := (-4)) rfl ?_
          refine w_iret (pc := 44) hC hRT dX11_row_44 rfl ?_
          refine ⟨(I 13), (F 5), retI (by unfold v_row; rw [if_neg (by omega), if_neg (by omega), if_pos (by omega)]), CW_cong (au_ms (k := 13) (v := I 13) rfl rfl rfl) (fu_ms (k := 5) (v := F 5) rfl rfl rfl) rfl, ?_⟩
          · unfold n_row
            rw [if_neg (by omega), if_neg (by omega), if_pos (by omega)]
            exact LR_cg (show LRn G.2.1 S I F Q P from hL) (au_ms (k := 13) (v := I 13) rfl rfl rfl) (fu_ms (k := 5) (v := F 5) rfl rfl rfl) rfl
      · refine w_bipush (pc := 27) hC dX11_row_27 (z := (-2)) rfl ?_
        refine w_iret (pc := 29) hC hRT dX11_row_29 rfl ?_
        refine ⟨(I 13), (F 5), retI (by unfold v_row; rw [if_neg (by omega), if_pos (by omega)]), CW_cong (au_ms (k := 13) (v := I 13) rfl rfl rfl) (fu_ms (k := 5) (v := F 5) rfl rfl rfl) rfl, ?_⟩
        · unfold n_row
          rw [if_neg (by omega), if_pos (by omega)]
          exact LR_cg (show LRn G.2.1 S I F Q P from hL) (au_ms (k := 13) (v := I 13) rfl rfl rfl) (fu_ms (k := 5) (v := F 5) rfl rfl rfl) rfl
  · refine w_aload_n (pc := 6) hC dX11_row_6 0 rfl rfl ?_
    refine w_getf (pc := 7) (v := .ref (A 1)) hC dX11_row_7 fi_X11_12 0 CW_0 rfl ?_
    refine w_iconst (pc := 10) hC dX11_row_10 ?_
    refine w_putfN (pc := 11) (w2 := CW A D T G.2.1 I (fu F 5 0) Q P) hC dX11_row_11 fn_X11_201 fp_X6_10 rfl 1 CW_1 (rfl) (rfl) (Nat.le_of_ble_eq_true rfl) (CWf_5 rfl) ?_
    refine w_iconst (pc := 14) hC dX11_row_14 ?_
    refine w_iret (pc := 15) hC hRT dX11_row_15 rfl ?_
    refine ⟨(I 13), 0, retI (by unfold v_row; rw [if_pos (by omega)]), CW_cong (au_ms (k := 13) (v := I 13) rfl rfl rfl) rfl rfl, ?_⟩
    · unfold n_row
      rw [if_pos (by omega)]
      exact LR_cong (au_ms (k := 13) (v := I 13) rfl rfl rfl) rfl rfl (LRn_4z hL hR)
set_option maxRecDepth 100000 in
set_option maxHeartbeats 4000000 in
theorem c_X11_round (l : Launch) (G : GT) (A D : Nat → Nat) (T : Nat) (I : Nat → Int → Int) (F : Nat → Int) (Q : Nat → Nat → Option Nat) (P : va_W) (S : Int → Int) (i : Int) (j : Int) (hR : RI S) (hL : LRn G.2.1 S I F Q P) (h0 : -2147483648 ≤ i ∧ i < 2147483648) (h1 : -2147483648 ≤ j ∧ j < 2147483648) : CT l yX11_round cX11_round 3 (some .int) 0 0 0 G [.ref (A 0), .int (J i), .int (J j)] (CW A D T G.2.1 I F Q P) (fun vo wo => ∃ (b14 : Int → Int) (b15 : Int → Int) (g6 : Int), vo = some (.int (J (v_round S i j))) ∧ wo = CW A D T G.2.1 (au (au I 14 b14) 15 b15) (fu F 6 g6) Q P ∧ (LRn G.2.1 (n_round S i j) (au (au I 14 b14) 15 b15) (fu F 6 g6) Q P)) := by
  refine CT_of (own := RX11) rfl rfl (Nat.le_of_ble_eq_true rfl) (fun K hl hnL hC hRT hin => ?_)
  subst hl
  show WW K G 0 0 (CW A D T G.2.1 I F Q P) 0 [(0, .ref (A 0)), (1, .int (J i)), (2, .int (J j))] []
  have hn := hR.n
  have hbd := hR.bd
  have hrd := hR.rd
  refine w_iload_n (pc := 0) hC dX11_round_0 1 rfl rfl ?_
  refine w_iconst (pc := 1) hC dX11_round_1 ?_
  refine w_icmp_ne (pc := 2) (tgt := 15) hC dX11_round_2 (by decide) (by omega) (fun c2 => ?_) (fun c2 => ?_)
  · refine w_iload_n (pc := 15) hC dX11_round_15 1 rfl rfl ?_
    refine w_if_lt (pc := 16) (tgt := 30) hC dX11_round_16 (by decide) (by omega) (fun c16 => ?_) (fun c16 => ?_)
    · refine w_bipush (pc := 30) hC dX11_round_30 (z := (-2)) rfl ?_
      refine w_iret (pc := 32) hC hRT dX11_round_32 rfl ?_
      refine ⟨(I 14), (I 15), (F 6), retI (by unfold v_round; rw [if_neg (by omega), if_pos (by omega)]), CW_cong (au_ms (k := 14) (v := I 14) rfl rfl (au_ms (k := 15) (v := I 15) rfl rfl rfl)) (fu_ms (k := 6) (v := F 6) rfl rfl rfl) rfl, ?_⟩
      · unfold n_round
        rw [if_neg (by omega), if_pos (by omega)]
        exact LR_cg (show LRn G.2.1 S I F Q P from hL) (au_ms (k := 14) (v := I 14) rfl rfl (au_ms (k := 15) (v := I 15) rfl rfl rfl)) (fu_ms (k := 6) (v := F 6) rfl rfl rfl) rfl
    · refine w_iload_n (pc := 19) hC dX11_round_19 2 rfl rfl ?_
      refine w_bipush (pc := 20) hC dX11_round_20 (z := 6) rfl ?_
      refine w_icmp_ge (pc := 22) (tgt := 30) hC dX11_round_22 (by decide) (by omega) (fun c22 => ?_) (fun c22 => ?_)
      · refine w_bipush (pc := 30) hC dX11_round_30 (z := (-2)) rfl ?_
        refine w_iret (pc := 32) hC hRT dX11_round_32 rfl ?_
        refine ⟨(I 14), (I 15), (F 6), retI (by unfold v_round; rw [if_neg (by omega), if_pos (by omega)]), CW_cong (au_ms (k := 14) (v := I 14) rfl rfl (au_ms (k := 15) (v := I 15) rfl rfl rfl)) (fu_ms (k := 6) (v := F 6) rfl rfl rfl) rfl, ?_⟩
        · unfold n_round
          rw [if_neg (by omega), if_pos (by omega)]
          exact LR_cg (show LRn G.2.1 S I F Q P from hL) (au_ms (k := 14) (v := I 14) rfl rfl (au_ms (k := 15) (v := I 15) rfl rfl rfl)) (fu_ms (k := 6) (v := F 6) rfl rfl rfl) rfl
      · refine w_iload_n (pc := 25) hC dX11_round_25 1 rfl rfl ?_
        refine w_iload_n (pc := 26) hC dX11_round_26 2 rfl rfl ?_
        refine w_icmp_lt (pc := 27) (tgt := 33) hC dX11_round_27 (by decide) (by omega) (fun c27 => ?_) (fun c27 => ?_)
        · refine w_aload_n (pc := 33) hC dX11_round_33 0 rfl rfl ?_
          refine w_getf (pc := 34) (v := .ref (A 1)) hC dX11_round_34 fi_X11_12 0 CW_0 rfl ?_
          refine w_getfN (pc := 37) (v := .int (J (S 3))) hC dX11_round_37 fn_X11_213 1 CW_1 (congrArg (fun z : Int => some (Value.int (J z))) (l_rd hL)) ?_
          refine w_bipush (pc := 40) hC dX11_round_40 (z := 15) rfl ?_
          refine w_icmp_lt (pc := 42) (tgt := 48) hC dX11_round_42 (by decide) (by omega) (fun c42 => ?_) (fun c42 => ?_)
          · refine w_aload_n (pc := 48) hC dX11_round_48 0 rfl rfl ?_
            refine w_getf (pc := 49) (v := .ref (A 1)) hC dX11_round_49 fi_X11_12 0 CW_0 rfl ?_
            refine w_getfN (pc := 52) (v := .ref (A 14)) hC dX11_round_52 fn_X11_216 1 CW_1 rfl ?_
            refine w_aload_n (pc := 55) hC dX11_round_55 0 rfl rfl ?_
            refine w_getf (pc := 56) (v := .ref (A 1)) hC dX11_round_56 fi_X11_12 0 CW_0 rfl ?_
            refine w_getfN (pc := 59) (v := .int (J (S 3))) hC dX11_round_59 fn_X11_213 1 CW_1 (congrArg (fun z : Int => some (Value.int (J z))) (l_rd hL)) ?_
            refine w_iload_n (pc := 62) hC dX11_round_62 1 rfl rfl ?_
            refine w_iast (pc := 63) (g := (I 14)) (w2 := CW A D T G.2.1 (au I 14 (gu (I 14) (S 3) i)) F Q P) hC dX11_round_63 14 CW_14 (by omega) (Nat.le_of_ble_eq_true rfl) (CWa_14 rfl) ?_
            generalize h63 : gu (I 14) (S 3) i = s63
            refine w_aload_n (pc := 64) hC dX11_round_64 0 rfl rfl ?_
            refine w_getf (pc := 65) (v := .ref (A 1)) hC dX11_round_65 fi_X11_12 0 CW_0 rfl ?_
            refine w_getfN (pc := 68) (v := .ref (A 15)) hC dX11_round_68 fn_X11_219 1 CW_1 rfl ?_
            refine w_aload_n (pc := 71) hC dX11_round_71 0 rfl rfl ?_
            refine w_getf (pc := 72) (v := .ref (A 1)) hC dX11_round_72 fi_X11_12 0 CW_0 rfl ?_
            refine w_getfN (pc := 75) (v := .int (J (S 3))) hC dX11_round_75 fn_X11_213 1 CW_1 (congrArg (fun z : Int => some (Value.int (J z))) (l_rd hL)) ?_
            refine w_iload_n (pc := 78) hC dX11_round_78 2 rfl rfl ?_
            refine w_iast (pc := 79) (g := (I 15)) (w2 := CW A D T G.2.1 (au (au I 14 s63) 15 (gu (I 15) (S 3) j)) F Q P) hC dX11_round_79 15 CW_15 (by omega) (Nat.le_of_ble_eq_true rfl) (CWa_15 rfl) ?_
            generalize h79 : gu (I 15) (S 3) j = s79
            refine w_aload_n (pc := 80) hC dX11_round_80 0 rfl rfl ?_
            refine w_getf (pc := 81) (v := .ref (A 1)) hC dX11_round_81 fi_X11_12 0 CW_0 rfl ?_
            refine w_dup (pc := 84) hC dX11_round_84 rfl ?_
            refine w_getfN (pc := 85) (v := .int (J (S 3))) hC dX11_round_85 fn_X11_213 1 CW_1 (congrArg (fun z : Int => some (Value.int (J z))) (l_rd hL)) ?_
            refine w_iconst (pc := 88) hC dX11_round_88 ?_
            refine w_iadd (pc := 89) hC dX11_round_89 ?_
            refine w_putfN (pc := 90) (w2 := CW A D T G.2.1 (au (au I 14 s63) 15 s79) (fu F 6 ((S 3) + 1)) Q P) hC dX11_round_90 fn_X11_213 fp_X6_13 rfl 1 CW_1 (rfl) (rfl) (Nat.le_of_ble_eq_true rfl) (CWf_6 rfl) ?_
            refine w_aload_n (pc := 93) hC dX11_round_93 0 rfl rfl ?_
            refine w_getf (pc := 94) (v := .ref (A 1)) hC dX11_round_94 fi_X11_12 0 CW_0 rfl ?_
            refine w_getfN (pc := 97) (v := .int (J ((S 3) + 1))) hC dX11_round_97 fn_X11_213 1 CW_1 rfl ?_
            refine w_iret (pc := 100) hC hRT dX11_round_100 rfl ?_
            refine ⟨s63, s79, (S 3) + 1, retI (by unfold v_round; rw [if_neg (by omega), if_neg (by omega), if_neg (by omega)]), rfl, ?_⟩
            · unfold n_round
              rw [if_neg (by omega), if_neg (by omega), if_neg (by omega)]
              exact LRn_3 hL hR (by omega) h63 h79
          · refine w_bipush (pc := 45) hC dX11_round_45 (z := (-4)) rfl ?_
            refine w_iret (pc := 47) hC hRT dX11_round_47 rfl ?_
            refine ⟨(I 14), (I 15), (F 6), retI (by unfold v_round; rw [if_neg (by omega), if_neg (by omega), if_pos (by omega)]), CW_cong (au_ms (k := 14) (v := I 14) rfl rfl (au_ms (k := 15) (v := I 15) rfl rfl rfl)) (fu_ms (k := 6) (v := F 6) rfl rfl rfl) rfl, ?_⟩
            · unfold n_round
              rw [if_neg (by omega), if_neg (by omega), if_pos (by omega)]
              exact LR_cg (show LRn G.2.1 S I F Q P from hL) (au_ms (k := 14) (v := I 14) rfl rfl (au_ms (k := 15) (v := I 15) rfl rfl rfl)) (fu_ms (k := 6) (v := F 6) rfl rfl rfl) rfl
        · refine w_bipush (pc := 30) hC dX11_round_30 (z := (-2)) rfl ?_
          refine w_iret (pc := 32) hC hRT dX11_round_32 rfl ?_
          refine ⟨(I 14), (I 15), (F 6), retI (by unfold v_round; rw [if_neg (by omega), if_pos (by omega)]), CW_cong (au_ms (k := 14) (v := I 14) rfl rfl (au_ms (k := 15) (v := I 15) rfl rfl rfl)) (fu_ms (k := 6) (v := F 6) rfl rfl rfl) rfl, ?_⟩
          · unfold n_round
            rw [if_neg (by omega), if_pos (by omega)]
            exact LR_cg (show LRn G.2.1 S I F Q P from hL) (au_ms (k := 14) (v := I 14) rfl rfl (au_ms (k := 15) (v := I 15) rfl rfl rfl)) (fu_ms (k := 6) (v := F 6) rfl rfl rfl) rfl
  · refine w_aload_n (pc := 5) hC dX11_round_5 0 rfl rfl ?_
    refine w_getf (pc := 6) (v := .ref (A 1)) hC dX11_round_6 fi_X11_12 0 CW_0 rfl ?_
    refine w_iconst (pc := 9) hC dX11_round_9 ?_
    refine w_putfN (pc := 10) (w2 := CW A D T G.2.1 I (fu F 6 0) Q P) hC dX11_round_10 fn_X11_213 fp_X6_13 rfl 1 CW_1 (rfl) (rfl) (Nat.le_of_ble_eq_true rfl) (CWf_6 rfl) ?_
    refine w_iconst (pc := 13) hC dX11_round_13 ?_
    refine w_iret (pc := 14) hC hRT dX11_round_14 rfl ?_
    refine ⟨(I 14), (I 15), 0, retI (by unfold v_round; rw [if_pos (by omega)]), CW_cong (au_ms (k := 14) (v := I 14) rfl rfl (au_ms (k := 15) (v := I 15) rfl rfl rfl)) rfl rfl, ?_⟩
    · unfold n_round
      rw [if_pos (by omega)]
      exact LR_cong (au_ms (k := 14) (v := I 14) rfl rfl (au_ms (k := 15) (v := I 15) rfl rfl rfl)) rfl rfl (LRn_3z hL hR)
set_option maxRecDepth 100000 in
set_option maxHeartbeats 4000000 in
theorem c_X11_count (l : Launch) (G : GT) (A D : Nat → Nat) (T : Nat) (I : Nat → Int → Int) (F : Nat → Int) (Q : Nat → Nat → Option Nat) (P : va_W) (S : Int → Int) (ran : Int) (w : Int) (hR : RI S) (hL : LRn G.2.1 S I F Q P) (h0 : -2147483648 ≤ w ∧ w < 2147483648) (hran : (I 55) 0 = ran) : CT l yX11_count cX11_count 2 (some .int) 0 0 0 G [.ref (A 0), .int (J w)] (CW A D T G.2.1 I F Q P) (fun vo wo => vo = some (.int (J (v_count S ran w))) ∧ wo = CW A D T G.2.1 I F Q P) := by
  refine CT_of (own := RX11) rfl rfl (Nat.le_of_ble_eq_true rfl) (fun K hl hnL hC hRT hin => ?_)
  subst hl
  show WW K G 0 0 (CW A D T G.2.1 I F Q P) 0 [(0, .ref (A 0)), (1, .int (J w))] []
  have hn := hR.n
  have hbd := hR.bd
  refine w_iload_n (pc := 0) hC dX11_count_0 1 rfl rfl ?_
  rcases (show w = 0 ∨ w = 1 ∨ w = 2 ∨ w = 3 ∨ w = 4 ∨ w = 5 ∨ w = 6 ∨ (w < 0 ∨ 6 < w) by omega) with c1 | c1 | c1 | c1 | c1 | c1 | c1 | c1
  · refine w_tableIn (pc := 1) (v := 0) (tgt := 44) hC dX11_count_1 c1 (by decide) rfl (by decide) ?_
    refine w_aload_n (pc := 44) hC dX11_count_44 0 rfl rfl ?_
    refine w_getf (pc := 45) (v := .ref (A 1)) hC dX11_count_45 fi_X11_12 0 CW_0 rfl ?_
    refine w_getfN (pc := 48) (v := .int (J (S 0))) hC dX11_count_48 fn_X11_57 1 CW_1 (congrArg (fun z : Int => some (Value.int (J z))) (l_n hL)) ?_
    refine w_iret (pc := 51) hC hRT dX11_count_51 rfl ?_
    refine ⟨retI (by unfold v_count; simp only [c1]; first | rfl | simp), rfl⟩
  · refine w_tableIn (pc := 1) (v := 1) (tgt := 52) hC dX11_count_1 c1 (by decide) rfl (by decide) ?_
    refine w_aload_n (pc := 52) hC dX11_count_52 0 rfl rfl ?_
    refine w_getf (pc := 53) (v := .ref (A 1)) hC dX11_count_53 fi_X11_12 0 CW_0 rfl ?_
    refine w_getfN (pc := 56) (v := .int (J (S 1))) hC dX11_count_56 fn_X11_97 1 CW_1 (congrArg (fun z : Int => some (Value.int (J z))) (l_cl hL)) ?_
    refine w_iret (pc := 59) hC hRT dX11_count_59 rfl ?_
    refine ⟨retI (by unfold v_count; simp only [c1]; first | rfl | simp), rfl⟩
  · refine w_tableIn (pc := 1) (v := 2) (tgt := 60) hC dX11_count_1 c1 (by decide) rfl (by decide) ?_
    refine w_aload_n (pc := 60) hC dX11_count_60 0 rfl rfl ?_
    refine w_getf (pc := 61) (v := .ref (A 1)) hC dX11_count_61 fi_X11_12 0 CW_0 rfl ?_
    refine w_getfN (pc := 64) (v := .int (J (S 2))) hC dX11_count_64 fn_X11_143 1 CW_1 (congrArg (fun z : Int => some (Value.int (J z))) (l_td hL)) ?_
    refine w_iret (pc := 67) hC hRT dX11_count_67 rfl ?_
    refine ⟨retI (by unfold v_count; simp only [c1]; first | rfl | simp), rfl⟩
  · refine w_tableIn (pc := 1) (v := 3) (tgt := 68) hC dX11_count_1 c1 (by decide) rfl (by decide) ?_
    refine w_aload_n (pc := 68) hC dX11_count_68 0 rfl rfl ?_
    refine w_getf (pc := 69) (v := .ref (A 1)) hC dX11_count_69 fi_X11_12 0 CW_0 rfl ?_
    refine w_getfN (pc := 72) (v := .int (J (S 3))) hC dX11_count_72 fn_X11_213 1 CW_1 (congrArg (fun z : Int => some (Value.int (J z))) (l_rd hL)) ?_
    refine w_iret (pc := 75) hC hRT dX11_count_75 rfl ?_
    refine ⟨retI (by unfold v_count; simp only [c1]; first | rfl | simp), rfl⟩
  · refine w_tableIn (pc := 1) (v := 4) (tgt := 76) hC dX11_count_1 c1 (by decide) rfl (by decide) ?_
    refine w_aload_n (pc := 76) hC dX11_count_76 0 rfl rfl ?_
    refine w_getf (pc := 77) (v := .ref (A 1)) hC dX11_count_77 fi_X11_12 0 CW_0 rfl ?_
    refine w_getfN (pc := 80) (v := .int (J (S 4))) hC dX11_count_80 fn_X11_201 1 CW_1 (congrArg (fun z : Int => some (Value.int (J z))) (l_rw hL)) ?_
    refine w_iret (pc := 83) hC hRT dX11_count_83 rfl ?_
    refine ⟨retI (by unfold v_count; simp only [c1]; first | rfl | simp), rfl⟩
  · refine w_tableIn (pc := 1) (v := 5) (tgt := 84) hC dX11_count_1 c1 (by decide) rfl (by decide) ?_
    refine w_aload_n (pc := 84) hC dX11_count_84 0 rfl rfl ?_
    refine w_getf (pc := 85) (v := .ref (A 1)) hC dX11_count_85 fi_X11_12 0 CW_0 rfl ?_
    refine w_getfN (pc := 88) (v := .int (J (S 5))) hC dX11_count_88 fn_X11_90 1 CW_1 (congrArg (fun z : Int => some (Value.int (J z))) (l_tp hL)) ?_
    refine w_iret (pc := 91) hC hRT dX11_count_91 rfl ?_
    refine ⟨retI (by unfold v_count; simp only [c1]; first | rfl | simp), rfl⟩
  · refine w_tableIn (pc := 1) (v := 6) (tgt := 92) hC dX11_count_1 c1 (by decide) rfl (by decide) ?_
    refine w_aload_n (pc := 92) hC dX11_count_92 0 rfl rfl ?_
    refine w_getf (pc := 93) (v := .ref (A 55)) hC dX11_count_93 fi_X11_25 0 CW_0 rfl ?_
    refine w_iconst (pc := 96) hC dX11_count_96 ?_
    refine w_ialdV (pc := 97) (g := (I 55)) (v := ran) hC dX11_count_97 55 CW_55 (by omega) (Nat.le_of_ble_eq_true rfl) ((congrArg (I 55) (show 0 = 0 by omega)).trans hran) ?_
    refine w_iret (pc := 98) hC hRT dX11_count_98 rfl ?_
    refine ⟨retI (by unfold v_count; simp only [c1]; first | rfl | simp), rfl⟩
  · refine w_tableOut (pc := 1) (tgt := 99) hC dX11_count_1 (by omega) c1 (by decide) ?_
    refine w_iconst (pc := 99) hC dX11_count_99 ?_
    refine w_iret (pc := 100) hC hRT dX11_count_100 rfl ?_
    refine ⟨retI (by unfold v_count; rw [if_neg (by omega), if_neg (by omega), if_neg (by omega), if_neg (by omega), if_neg (by omega), if_neg (by omega), if_neg (by omega)]), rfl⟩
set_option maxRecDepth 100000 in
set_option maxHeartbeats 4000000 in
theorem c_X11_trace (l : Launch) (G : GT) (A D : Nat → Nat) (T : Nat) (I : Nat → Int → Int) (F : Nat → Int) (Q : Nat → Nat → Option Nat) (P : va_W) (S : Int → Int) (ran : Int) (bd : Int → Int) (i : Int) (hR : RI S) (hL : LRn G.2.1 S I F Q P) (h0 : -2147483648 ≤ i ∧ i < 2147483648) (hran : (I 55) 0 = ran ∧ 0 ≤ ran ∧ ran < 2147483648) (hbo : ∀ z : Int, 0 ≤ z → z < ran → z < 20 → (I 55) (1 + z) = bd z) : CT l yX11_trace cX11_trace 2 (some .int) 0 0 0 G [.ref (A 0), .int (J i)] (CW A D T G.2.1 I F Q P) (fun vo wo => vo = some (.int (J (v_trace bd ran i))) ∧ wo = CW A D T G.2.1 I F Q P) := by
  refine CT_of (own := RX11) rfl rfl (Nat.le_of_ble_eq_true rfl) (fun K hl hnL hC hRT hin => ?_)
  subst hl
  show WW K G 0 0 (CW A D T G.2.1 I F Q P) 0 [(0, .ref (A 0)), (1, .int (J i))] []
  have hn := hR.n
  have hbd := hR.bd
  refine w_iload_n (pc := 0) hC dX11_trace_0 1 rfl rfl ?_
  refine w_if_lt (pc := 1) (tgt := 31) hC dX11_trace_1 (by decide) (by omega) (fun c1 => ?_) (fun c1 => ?_)
  · refine w_iconst (pc := 31) hC dX11_trace_31 ?_
    refine w_iret (pc := 32) hC hRT dX11_trace_32 rfl ?_
    refine ⟨retI (by have e9 := hran.1; unfold v_trace; first | rw [if_neg (by omega)] | (rw [if_pos (by omega)]; exact hbo i (by omega) (by omega) (by omega))), rfl⟩
  · refine w_iload_n (pc := 4) hC dX11_trace_4 1 rfl rfl ?_
    refine w_aload_n (pc := 5) hC dX11_trace_5 0 rfl rfl ?_
    refine w_getf (pc := 6) (v := .ref (A 55)) hC dX11_trace_6 fi_X11_25 0 CW_0 rfl ?_
    refine w_iconst (pc := 9) hC dX11_trace_9 ?_
    refine w_ialdV (pc := 10) (g := (I 55)) (v := (I 55) 0) hC dX11_trace_10 55 CW_55 (by omega) (Nat.le_of_ble_eq_true rfl) rfl ?_
    refine w_icmp_ge (pc := 11) (tgt := 31) hC dX11_trace_11 (by decide) (by have e9 := hran.1; omega) (fun c11 => ?_) (fun c11 => ?_)
    · refine w_iconst (pc := 31) hC dX11_trace_31 ?_
      refine w_iret (pc := 32) hC hRT dX11_trace_32 rfl ?_
      refine ⟨retI (by have e9 := hran.1; unfold v_trace; first | rw [if_neg (by omega)] | (rw [if_pos (by omega)]; exact hbo i (by omega) (by omega) (by omega))), rfl⟩
    · refine w_iload_n (pc := 14) hC dX11_trace_14 1 rfl rfl ?_
      refine w_bipush (pc := 15) hC dX11_trace_15 (z := 20) rfl ?_
      refine w_icmp_ge (pc := 17) (tgt := 31) hC dX11_trace_17 (by decide) (by omega) (fun c17 => ?_) (fun c17 => ?_)
      · refine w_iconst (pc := 31) hC dX11_trace_31 ?_
        refine w_iret (pc := 32) hC hRT dX11_trace_32 rfl ?_
        refine ⟨retI (by have e9 := hran.1; unfold v_trace; first | rw [if_neg (by omega)] | (rw [if_pos (by omega)]; exact hbo i (by omega) (by omega) (by omega))), rfl⟩
      · refine w_aload_n (pc := 20) hC dX11_trace_20 0 rfl rfl ?_
        refine w_getf (pc := 21) (v := .ref (A 55)) hC dX11_trace_21 fi_X11_25 0 CW_0 rfl ?_
        refine w_iconst (pc := 24) hC dX11_trace_24 ?_
        refine w_iload_n (pc := 25) hC dX11_trace_25 1 rfl rfl ?_
        refine w_iadd (pc := 26) hC dX11_trace_26 ?_
        refine w_ialdV (pc := 27) (g := (I 55)) (v := (I 55) (1 + i)) hC dX11_trace_27 55 CW_55 (by omega) (Nat.le_of_ble_eq_true rfl) rfl ?_
        refine w_goto (pc := 28) hC dX11_trace_28 (tgt := 32) (by decide) ?_
        refine w_iret (pc := 32) hC hRT dX11_trace_32 rfl ?_
        refine ⟨retI (by have e9 := hran.1; unfold v_trace; first | rw [if_neg (by omega)] | (rw [if_pos (by omega)]; exact hbo i (by omega) (by omega) (by omega))), rfl⟩
