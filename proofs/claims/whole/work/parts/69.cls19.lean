
theorem CLB_ext {P : va_W} {cy : Nat → ClassId} {S S2 : Int → Int} {c : Int} {q : Nat} (e1 : S2 (178 + c) = S (178 + c)) (e2 : S2 (183 + c) = S (183 + c)) (e3 : S2 (188 + c) = S (188 + c)) (e4 : ∀ k : Int, 0 ≤ k → k < S (188 + c) → S2 (193 + 140 * c + k) = S (193 + 140 * c + k)) (h : CLB P cy S c q) : CLB P cy S2 c q := by
  obtain ⟨i, j, qc, g, h1, h2, h3⟩ := h
  exact ⟨i, j, qc, g, by rw [e1, e2]; exact h1, by rw [e3]; exact h2, fun k k0 k1 => by rw [e3] at k1; rw [e4 k k0 k1]; exact h3 k k0 k1⟩
theorem CLS_low {S : Int → Int} {a c j : Int} {l : List Int} {u w : Int} (hc : 0 ≤ c ∧ c < a) (ha : a < 5) (hl : (l.length : Int) ≤ 120) (hj : j = 178 + c ∨ j = 183 + c ∨ j = 188 + c ∨ (193 ≤ j ∧ j < 193 + 140 * a)) : CLS S a l u w j = S j := by
  unfold CLS
  rw [if_neg (by omega), if_neg (by omega), if_neg (by omega), if_neg (by omega), if_neg (by omega)]
theorem CLS_5 {S : Int → Int} {a : Int} {l : List Int} {u w : Int} : CLS S a l u w 5 = 0 := if_pos rfl
theorem CLS_code {S : Int → Int} {a k : Int} {l : List Int} {u w : Int} (ha : 0 ≤ a ∧ a < 5) (hk : 0 ≤ k ∧ k < (l.length : Int)) : CLS S a l u w (193 + 140 * a + k) = l.getD k.toNat 0 := by
  unfold CLS
  rw [if_neg (by omega), if_neg (by omega), if_neg (by omega), if_neg (by omega), if_pos (by omega), show (193 + 140 * a + k - 193 - 140 * a).toNat = k.toNat by omega]
section LRCL
variable {cy : Nat → ClassId} {S : Int → Int} {I : Nat → Int → Int} {F : Nat → Int} {Q : Nat → Nat → Option Nat} {P : va_W}
theorem LR_club0 {l : List Int} {u w : Int} (h : LRn cy S I F Q P) (hR : RI S) (h5 : S 1 < 5) (hl : (l.length : Int) ≤ 120) : LRn cy (CLS S (S 1) l u w) I (fu F 3 0) Q P := by
  have hn := hR.n
  have hcl := hR.cl
  have hrd := hR.rd
  have htp := hR.tp
  have hrw := hR.rw
  have out : ∀ j : Int, j ≠ 5 → (j < 178 ∨ 893 ≤ j) → CLS S (S 1) l u w j = S j := fun j c d => CLS_out (And.intro hcl.1 h5) hl c d
  obtain ⟨h1, h2, h3, h4, h5x, h6, h7, h8, h9⟩ := h
  refine ⟨⟨?_, ?_, ?_, ?_, ?_, ?_⟩, ?_, ?_, ?_, ?_, ?_, ?_, ?_, ?_⟩
  · rw [out 0 (by omega) (by omega)]; exact h1.1
  · rw [out 2 (by omega) (by omega)]; exact h1.2.1
  · rw [CLS_5]; rfl
  · rw [out 1 (by omega) (by omega)]; exact h1.2.2.2.1
  · rw [out 4 (by omega) (by omega)]; exact h1.2.2.2.2.1
  · rw [out 3 (by omega) (by omega)]; exact h1.2.2.2.2.2
  · intro r r0 r1
    rw [out 0 (by omega) (by omega)] at r1
    rw [out 6 (by omega) (by omega)]
    exact h2 r r0 r1
  · intro x c x0 x1 c0 c1
    rw [out 0 (by omega) (by omega), out _ (by omega) (by omega)]
    exact h3 x c x0 x1 c0 c1
  · intro i i0 i1
    rw [CLS_5] at i1
    omega
  · intro i i0 i1
    rw [out 4 (by omega) (by omega)] at i1
    rw [out _ (by omega) (by omega)]; exact h5x i i0 i1
  · intro i i0 i1
    rw [out 3 (by omega) (by omega)] at i1
    rw [out _ (by omega) (by omega), out _ (by omega) (by omega)]; exact h6 i i0 i1
  · intro x c x0 x1 c0 c1
    rw [out _ (by omega) (by omega)]
    exact h7 x c x0 x1 c0 c1
  · intro a a0 a1
    obtain ⟨q2, g1, g2⟩ := h8 a a0 a1
    rw [out 0 (by omega) (by omega), out _ (by omega) (by omega), out _ (by omega) (by omega)]
    exact ⟨q2, g1, g2⟩
  · intro c c0 c1
    rw [out 1 (by omega) (by omega)] at c1
    obtain ⟨q2, g1, g2⟩ := h9 c c0 c1
    have hsm := (hR.sm (188 + c) (by omega) (by omega)).2
    exact ⟨q2, g1, CLB_ext (CLS_low (And.intro c0 c1) h5 hl (Or.inl rfl)) (CLS_low (And.intro c0 c1) h5 hl (Or.inr (Or.inl rfl))) (CLS_low (And.intro c0 c1) h5 hl (Or.inr (Or.inr (Or.inl rfl)))) (fun k k0 k1 => CLS_low (And.intro c0 c1) h5 hl (Or.inr (Or.inr (Or.inr (by omega))))) g2⟩
theorem LR_club1 {l : List Int} {u w : Int} {q0 q1 : Nat} {b : Int → Int} (h : LRn cy S I F Q P) (hR : RI S) (h5 : S 1 < 5) (hl : (l.length : Int) ≤ 120) (hb : CD b l) : LRn cy (gu (CLS S (S 1) l u w) 1 (S 1 + 1)) I (fu (fu F 3 0) 4 (S 1 + 1)) (qu Q 12 (va_up (Q 12) (S 1).toNat (some q0))) (P ++ [(q0, .inr (2, [.int (J u), .int (J w), .ref q1]))] ++ [(q1, .inl (cy 0, l.length, .inl (jf b)))]) := by
  have h0 : LRn cy (CLS S (S 1) l u w) I (fu F 3 0) Q (P ++ [(q0, .inr (2, [.int (J u), .int (J w), .ref q1]))] ++ [(q1, .inl (cy 0, l.length, .inl (jf b)))]) := LRb_app (LRb_app (LR_club0 h hR h5 hl))
  have hcl := hR.cl
  have o : ∀ j : Int, j ≠ 1 → gu (CLS S (S 1) l u w) 1 (S 1 + 1) j = CLS S (S 1) l u w j := fun j c => gu_ne c
  obtain ⟨h1, h2, h3, h4, h5x, h6, h7, h8, h9⟩ := h0
  refine ⟨⟨?_, ?_, ?_, ?_, ?_, ?_⟩, ?_, ?_, ?_, ?_, ?_, ?_, ?_, ?_⟩
  · rw [o 0 (by omega)]; exact h1.1
  · rw [o 2 (by omega)]; exact h1.2.1
  · rw [o 5 (by omega)]; exact h1.2.2.1
  · rw [gu_eq]; rfl
  · rw [o 4 (by omega)]; exact h1.2.2.2.2.1
  · rw [o 3 (by omega)]; exact h1.2.2.2.2.2
  · intro r r0 r1
    rw [o 0 (by omega)] at r1
    rw [o 6 (by omega)]
    exact h2 r r0 r1
  · intro x c x0 x1 c0 c1
    rw [o 0 (by omega), o _ (by omega)]
    exact h3 x c x0 x1 c0 c1
  · intro i i0 i1
    rw [o 5 (by omega)] at i1
    rw [o _ (by omega)]; exact h4 i i0 i1
  · intro i i0 i1
    rw [o 4 (by omega)] at i1
    rw [o _ (by omega)]; exact h5x i i0 i1
  · intro i i0 i1
    rw [o 3 (by omega)] at i1
    rw [o _ (by omega), o _ (by omega)]; exact h6 i i0 i1
  · intro x c x0 x1 c0 c1
    rw [o _ (by omega)]
    exact h7 x c x0 x1 c0 c1
  · intro a a0 a1
    obtain ⟨q2, g1, g2⟩ := h8 a a0 a1
    rw [o 0 (by omega), o _ (by omega), o _ (by omega)]
    exact ⟨q2, (show qu Q 12 _ 10 a.toNat = _ by rw [qu_ne (by omega)]; exact g1), g2⟩
  · intro c c0 c1
    rw [gu_eq] at c1
    show ∃ q2 : Nat, (qu Q 12 (va_up (Q 12) (S 1).toNat (some q0))) 12 c.toNat = some q2 ∧ _
    rw [show (qu Q 12 (va_up (Q 12) (S 1).toNat (some q0))) 12 = va_up (Q 12) (S 1).toNat (some q0) from if_pos rfl]
    by_cases z : c = S 1
    · subst z
      have e := CLS_gu (S := S) (a := S 1) (l := l) (u := u) (w := w) (And.intro hcl.1 h5)
      have e8 := CLS_188 (S := S) (l := l) (u := u) (w := w) hcl.1
      refine ⟨q0, va_up_self _ _ _, P.length, P.length + 1, q1, b, ?_, ?_, fun k k0 k1 => ?_⟩
      · rw [o _ (by omega), o _ (by omega), e.1, e.2]; exact P2_at
      · rw [o _ (by omega), e8]
        rw [List.getElem?_append_right (by rw [List.length_append, List.length_singleton]; exact Nat.le_refl _), List.length_append, List.length_singleton, Nat.sub_self]
        rfl
      · rw [o _ (by omega), e8] at k1
        rw [o _ (by omega), CLS_code (And.intro hcl.1 h5) (And.intro k0 k1)]
        have hk := hb k.toNat (by omega)
        rw [Int.toNat_of_nonneg k0] at hk
        exact hk
    · have c2 : c < CLS S (S 1) l u w 1 := by rw [CLS_1 hcl.1]; omega
      obtain ⟨q2, g1, g2⟩ := h9 c c0 c2
      refine ⟨q2, (va_up_ne _ _ (by omega)).trans g1, CLB_ext (o _ (by omega)) (o _ (by omega)) (o _ (by omega)) (fun k k0 k1 => o _ (by omega)) g2⟩
end LRCL
theorem v_club_5 {S : Int → Int} (h : ¬ S 1 < 5) (hcl : 0 ≤ S 1 ∧ S 1 ≤ 5) : v_club S = -4 ∧ n_club S = S := by
  unfold v_club n_club
  rw [if_pos (by omega), if_pos (by omega)]
  exact And.intro rfl rfl
theorem v_club_b {S : Int → Int} (h : S 1 < 5) (hB : (RES S).1.2.1 = 1 ∨ ¬ (RES S).1.1 = S 5) : v_club S = -10 - (RES S).1.1 ∧ n_club S = CLS S (S 1) (RES S).1.2.2 (RES S).2.1 (RES S).2.2 := by
  unfold v_club n_club
  rw [if_neg (by omega), if_pos hB, if_neg (by omega), if_pos hB]
  exact And.intro rfl rfl
theorem v_club_g {S : Int → Int} (h : S 1 < 5) (hG : ¬ ((RES S).1.2.1 = 1 ∨ ¬ (RES S).1.1 = S 5)) : v_club S = S 1 ∧ n_club S = gu (CLS S (S 1) (RES S).1.2.2 (RES S).2.1 (RES S).2.2) 1 (S 1 + 1) := by
  unfold v_club n_club
  rw [if_neg (by omega), if_neg hG, if_neg (by omega), if_neg hG]
  exact And.intro rfl rfl

set_option maxRecDepth 100000 in
set_option maxHeartbeats 4000000 in
theorem c_X11_club (l : Launch) (G : GT) (A D : Nat → Nat) (T : Nat) (I : Nat → Int → Int) (F : Nat → Int) (Q : Nat → Nat → Option Nat) (P : va_W) (S : Int → Int)  (hR : RI S) (hL : LRn G.2.1 S I F Q P) (hz : ∀ c : Nat, c < 5 → S 1 ≤ (c : Int) → Q 12 c = none) : CT l yX11_club cX11_club 2 (some .int) 26 2 123 G [.ref (A 0)] (CW A D T G.2.1 I F Q P) (fun vo wo => ∃ (b48 : Int → Int) (g3 : Int) (g4 : Int) (g20 : Int) (g21 : Int) (g22 : Int) (g23 : Int) (g24 : Int) (T : Nat) (q12 : Nat → Option Nat) (P1 : va_W), vo = some (.int (J (v_club S))) ∧ wo = CW A D T G.2.1 (au I 48 b48) (fu (fu (fu (fu (fu (fu (fu F 3 g3) 4 g4) 20 g20) 21 g21) 22 g22) 23 g23) 24 g24) (qu Q 12 q12) P1 ∧ (LRn G.2.1 (n_club S) (au I 48 b48) (fu (fu (fu (fu (fu (fu (fu F 3 g3) 4 g4) 20 g20) 21 g21) 22 g22) 23 g23) 24 g24) (qu Q 12 q12) P1 ∧ (∀ c : Nat, c < 5 → n_club S 1 ≤ (c : Int) → (qu Q 12 q12) 12 c = none) ∧ ∃ R : va_W, P1 = P ++ R)) := by
  refine CT_of (own := RX11) rfl rfl (Nat.le_of_ble_eq_true rfl) (fun K hl hnL hC hRT hin => ?_)
  subst hl
  show WW K G 0 0 (CW A D T G.2.1 I F Q P) 0 [(0, .ref (A 0))] []
  have hn := hR.n
  have hbd := hR.bd
  have hcl := hR.cl
  refine w_aload_n (pc := 0) hC dX11_club_0 0 rfl rfl ?_
  refine w_getf (pc := 1) (v := .ref (A 1)) hC dX11_club_1 fi_X11_12 0 CW_0 rfl ?_
  refine w_getfN (pc := 4) (v := .int (J (S 1))) hC dX11_club_4 fn_X11_97 1 CW_1 (congrArg (fun z : Int => some (Value.int (J z))) (show F 4 = S 1 from l_cl hL)) ?_
  refine w_iconst (pc := 7) hC dX11_club_7 ?_
  refine w_icmp_lt (pc := 8) (tgt := 14) hC dX11_club_8 (by decide) (by omega) (fun c8 => ?_) (fun c8 => ?_)
  · refine w_aload_n (pc := 14) hC dX11_club_14 0 rfl rfl ?_
    refine w_getf (pc := 15) (v := .ref (A 47)) hC dX11_club_15 fi_X11_32 0 CW_0 rfl ?_
    refine w_aload_n (pc := 18) hC dX11_club_18 0 rfl rfl ?_
    refine w_getf (pc := 19) (v := .ref (A 1)) hC dX11_club_19 fi_X11_12 0 CW_0 rfl ?_
    refine w_getfN (pc := 22) (v := .ref (A 11)) hC dX11_club_22 fn_X11_93 1 CW_1 rfl ?_
    refine w_aload_n (pc := 25) hC dX11_club_25 0 rfl rfl ?_
    refine w_getf (pc := 26) (v := .ref (A 1)) hC dX11_club_26 fi_X11_12 0 CW_0 rfl ?_
    refine w_getfN (pc := 29) (v := .int (J (S 5))) hC dX11_club_29 fn_X11_90 1 CW_1 (congrArg (fun z : Int => some (Value.int (J z))) (l_tp hL)) ?_
    refine w_callV (pc := 32) (As := [.ref (A 11), .int (J (S 5))]) (rest := []) hC dX11_club_32 cv_X11_100 (c_X3_read (kl K) G A D T I F Q P S P hR hL rfl) (by decide) ⟨Nat.le_of_ble_eq_true rfl, Nat.le_of_ble_eq_true rfl⟩ (q0 := 47) CW_47 rfl rfl rfl (Nat.le_of_ble_eq_true rfl) rfl (fun vo wo hv => ?_)
    obtain ⟨o, b48, g20, g22, g23, g24, PN, hv1, hw1, he22, hrd⟩ := hv
    rcases hrd with ⟨ho, hP, hB⟩ | ⟨q0, q1, b, ho, hP, hcd, hG⟩
    · rw [ho] at hv1
      rw [hP] at hw1
      rw [hv1, hw1]
      show WW K G 2 123 (CW A D (A 11) G.2.1 (au I 48 b48) (fu (fu (fu (fu (fu F 20 g20) 21 (S 5)) 22 g22) 23 g23) 24 g24) Q P) 35 [(0, .ref (A 0))] [.null]
      refine w_astore_nN (pc := 35) hC dX11_club_35 rfl (lv2 := [(1, .null), (0, .ref (A 0))]) (by rw [hnL]; decide) rfl ?_
      refine w_aload_n (pc := 36) hC dX11_club_36 1 rfl rfl ?_
      refine w_getf (pc := 37) (v := .ref (A 1)) hC dX11_club_37 fi_X11_12 0 CW_0 rfl ?_
      refine w_iconst (pc := 40) hC dX11_club_40 ?_
      refine w_putfN (pc := 41) (w2 := CW A D (A 11) G.2.1 (au I 48 b48) (fu (fu (fu (fu (fu (fu F 3 0) 20 g20) 21 (S 5)) 22 g22) 23 g23) 24 g24) Q P) hC dX11_club_41 fn_X11_90 fp_X6_6 rfl 1 CW_1 (rfl) (rfl) (Nat.le_of_ble_eq_true rfl) (CWf_3 (fu_cm (by decide) (fu_cm (by decide) (fu_cm (by decide) (fu_cm (by decide) (fu_cm (by decide) rfl)))))) ?_
      refine w_aload_nN (pc := 44) hC dX11_club_44 0 rfl rfl ?_
      refine w_ifnonnullN (pc := 45) hC dX11_club_45 ?_
      have hvn := v_club_b c8 hB
      have hlen : ((RES S).1.2.2.length : Int) ≤ 120 := by have hg := RES_gr hR; have h1 := hg.1.1; have h2 := hg.2; have htp := hR.tp; omega
      refine w_bipush (pc := 48) hC dX11_club_48 (z := (-10)) rfl ?_
      refine w_aload_n (pc := 50) hC dX11_club_50 1 rfl rfl ?_
      refine w_getf (pc := 51) (v := .ref (A 47)) hC dX11_club_51 fi_X11_32 0 CW_0 rfl ?_
      refine w_callV (pc := 54) (As := []) (rest := [.int (J (-10))]) hC dX11_club_54 cv_X11_104 (c_X3_place (kl K) G A D (au I 48 b48) (fu (fu (fu (fu (fu (fu F 3 0) 20 g20) 21 (S 5)) 22 g22) 23 g23) 24 g24) Q P) (by decide) ⟨Nat.le_of_ble_eq_true rfl, Nat.le_of_ble_eq_true rfl⟩ (q0 := 47) CW_47 rfl rfl rfl (Nat.le_of_ble_eq_true rfl) rfl (fun vo wo hv => ?_)
      obtain ⟨hv1, hw1⟩ := hv
      rw [hv1, hw1]
      show WW K G 2 123 (CW A D (A 11) G.2.1 (au I 48 b48) (fu (fu (fu (fu (fu (fu F 3 0) 20 g20) 21 (S 5)) 22 g22) 23 g23) 24 g24) Q P) 57 [(1, .null), (0, .ref (A 0))] [.int (J g22), .int (J (-10))]
      refine w_isub (pc := 57) hC dX11_club_57 ?_
      refine w_iret (pc := 58) hC hRT dX11_club_58 rfl ?_
      refine ⟨b48, 0, (F 4), g20, (S 5), g22, g23, g24, A 11, Q 12, P, retI (by rw [hvn.1, he22]), CW_cong rfl (fu_ms (k := 4) (v := F 4) rfl (fu_cm (by decide) (fu_cm (by decide) (fu_cm (by decide) (fu_cm (by decide) (fu_cm (by decide) rfl))))) rfl) (qu_ms (k := 12) (v := Q 12) rfl rfl rfl), ?_⟩
      · rw [hvn.2]
        exact ⟨LR_cg (show LRn G.2.1 (CLS S (S 1) (RES S).1.2.2 (RES S).2.1 (RES S).2.2) (au I 48 b48) (fu (fu (fu (fu (fu (fu F 3 0) 20 g20) 21 (S 5)) 22 g22) 23 g23) 24 g24) Q P from (LRb_fu (by decide) (LRb_fu (by decide) (LRb_fu (by decide) (LRb_fu (by decide) (LRb_fu (by decide) (LRb_au (by decide) (LR_club0 hL hR c8 hlen)))))))) rfl (fu_ms (k := 4) (v := F 4) rfl (fu_cm (by decide) (fu_cm (by decide) (fu_cm (by decide) (fu_cm (by decide) (fu_cm (by decide) rfl))))) rfl) (qu_ms (k := 12) (v := Q 12) rfl rfl rfl), by rw [CLS_1 hcl.1]; exact hz, [], (List.append_nil _).symm⟩
    · rw [ho] at hv1
      rw [hP] at hw1
      rw [hv1, hw1]
      show WW K G 2 123 (CW A D (A 11) G.2.1 (au I 48 b48) (fu (fu (fu (fu (fu F 20 g20) 21 (S 5)) 22 g22) 23 g23) 24 g24) Q (P ++ [(q0, .inr (2, [.int (J (RES S).2.1), .int (J (RES S).2.2), .ref q1]))] ++ [(q1, .inl (G.2.1 0, (RES S).1.2.2.length, .inl (jf b)))])) 35 [(0, .ref (A 0))] [.ref q0]
      refine w_astore_n (pc := 35) hC dX11_club_35 rfl (lv2 := [(1, .ref q0), (0, .ref (A 0))]) (by rw [hnL]; decide) rfl ?_
      refine w_aload_n (pc := 36) hC dX11_club_36 1 rfl rfl ?_
      refine w_getf (pc := 37) (v := .ref (A 1)) hC dX11_club_37 fi_X11_12 0 CW_0 rfl ?_
      refine w_iconst (pc := 40) hC dX11_club_40 ?_
      refine w_putfN (pc := 41) (w2 := CW A D (A 11) G.2.1 (au I 48 b48) (fu (fu (fu (fu (fu (fu F 3 0) 20 g20) 21 (S 5)) 22 g22) 23 g23) 24 g24) Q (P ++ [(q0, .inr (2, [.int (J (RES S).2.1), .int (J (RES S).2.2), .ref q1]))] ++ [(q1, .inl (G.2.1 0, (RES S).1.2.2.length, .inl (jf b)))])) hC dX11_club_41 fn_X11_90 fp_X6_6 rfl 1 CW_1 (rfl) (rfl) (Nat.le_of_ble_eq_true rfl) (CWf_3 (fu_cm (by decide) (fu_cm (by decide) (fu_cm (by decide) (fu_cm (by decide) (fu_cm (by decide) rfl)))))) ?_
      refine w_aload_n (pc := 44) hC dX11_club_44 0 rfl rfl ?_
      refine w_ifnonnullR (pc := 45) (tgt := 59) hC dX11_club_45 (by decide) ?_
      have hvn := v_club_g c8 hG
      have hlen : ((RES S).1.2.2.length : Int) ≤ 120 := by have hg := RES_gr hR; have h1 := hg.1.1; have h2 := hg.2; have htp := hR.tp; omega
      refine w_aload_n (pc := 59) hC dX11_club_59 1 rfl rfl ?_
      refine w_getf (pc := 60) (v := .ref (A 1)) hC dX11_club_60 fi_X11_12 0 CW_0 rfl ?_
      refine w_getfN (pc := 63) (v := .ref (A 12)) hC dX11_club_63 fn_X11_108 1 CW_1 rfl ?_
      refine w_aload_n (pc := 66) hC dX11_club_66 1 rfl rfl ?_
      refine w_getf (pc := 67) (v := .ref (A 1)) hC dX11_club_67 fi_X11_12 0 CW_0 rfl ?_
      refine w_getfN (pc := 70) (v := .int (J (S 1))) hC dX11_club_70 fn_X11_97 1 CW_1 (congrArg (fun z : Int => some (Value.int (J z))) (show F 4 = S 1 from l_cl hL)) ?_
      refine w_aload_n (pc := 73) hC dX11_club_73 0 rfl rfl ?_
      refine w_aastO (pc := 74) (t0 := 5) (f := Q 12) (o := some q0) (w2 := CW A D (A 11) G.2.1 (au I 48 b48) (fu (fu (fu (fu (fu (fu F 3 0) 20 g20) 21 (S 5)) 22 g22) 23 g23) 24 g24) (qu Q 12 (va_up (Q 12) (S 1 : Int).toNat (some q0))) (P ++ [(q0, .inr (2, [.int (J (RES S).2.1), .int (J (RES S).2.2), .ref q1]))] ++ [(q1, .inl (G.2.1 0, (RES S).1.2.2.length, .inl (jf b)))])) hC dX11_club_74 12 CW_12 rfl (fun v9 hv9 => by cases hv9; exact ⟨60 + P.length, 2, _, _, CW_last2, rfl, Or.inl rfl⟩) (by omega) (Nat.le_of_ble_eq_true rfl) (CWq_12 rfl) ?_
      refine w_aload_n (pc := 75) hC dX11_club_75 1 rfl rfl ?_
      refine w_getf (pc := 76) (v := .ref (A 1)) hC dX11_club_76 fi_X11_12 0 CW_0 rfl ?_
      refine w_dup (pc := 79) hC dX11_club_79 rfl ?_
      refine w_getfN (pc := 80) (v := .int (J (S 1))) hC dX11_club_80 fn_X11_97 1 CW_1 (congrArg (fun z : Int => some (Value.int (J z))) (show F 4 = S 1 from l_cl hL)) ?_
      refine w_iconst (pc := 83) hC dX11_club_83 ?_
      refine w_iadd (pc := 84) hC dX11_club_84 ?_
      refine w_putfN (pc := 85) (w2 := CW A D (A 11) G.2.1 (au I 48 b48) (fu (fu (fu (fu (fu (fu (fu F 3 0) 4 ((S 1) + 1)) 20 g20) 21 (S 5)) 22 g22) 23 g23) 24 g24) (qu Q 12 (va_up (Q 12) (S 1 : Int).toNat (some q0))) (P ++ [(q0, .inr (2, [.int (J (RES S).2.1), .int (J (RES S).2.2), .ref q1]))] ++ [(q1, .inl (G.2.1 0, (RES S).1.2.2.length, .inl (jf b)))])) hC dX11_club_85 fn_X11_97 fp_X6_8 rfl 1 CW_1 (rfl) (rfl) (Nat.le_of_ble_eq_true rfl) (CWf_4 (fu_cm (by decide) (fu_cm (by decide) (fu_cm (by decide) (fu_cm (by decide) (fu_cm (by decide) rfl)))))) ?_
      refine w_aload_n (pc := 88) hC dX11_club_88 1 rfl rfl ?_
      refine w_getf (pc := 89) (v := .ref (A 1)) hC dX11_club_89 fi_X11_12 0 CW_0 rfl ?_
      refine w_getfN (pc := 92) (v := .int (J ((S 1) + 1))) hC dX11_club_92 fn_X11_97 1 CW_1 rfl ?_
      refine w_iconst (pc := 95) hC dX11_club_95 ?_
      refine w_isub (pc := 96) hC dX11_club_96 ?_
      refine w_iret (pc := 97) hC hRT dX11_club_97 rfl ?_
      refine ⟨b48, 0, (S 1) + 1, g20, (S 5), g22, g23, g24, A 11, va_up (Q 12) (S 1 : Int).toNat (some q0), (P ++ [(q0, .inr (2, [.int (J (RES S).2.1), .int (J (RES S).2.2), .ref q1]))] ++ [(q1, .inl (G.2.1 0, (RES S).1.2.2.length, .inl (jf b)))]), retI (by rw [hvn.1]; omega), rfl, ?_⟩
      · rw [hvn.2]
        exact ⟨LR_cg (show LRn G.2.1 (gu (CLS S (S 1) (RES S).1.2.2 (RES S).2.1 (RES S).2.2) 1 (S 1 + 1)) (au I 48 b48) (fu (fu (fu (fu (fu (fu (fu F 3 0) 4 ((S 1) + 1)) 20 g20) 21 (S 5)) 22 g22) 23 g23) 24 g24) (qu Q 12 (va_up (Q 12) (S 1 : Int).toNat (some q0))) (P ++ [(q0, .inr (2, [.int (J (RES S).2.1), .int (J (RES S).2.2), .ref q1]))] ++ [(q1, .inl (G.2.1 0, (RES S).1.2.2.length, .inl (jf b)))]) from (LRb_fu (by decide) (LRb_fu (by decide) (LRb_fu (by decide) (LRb_fu (by decide) (LRb_fu (by decide) (LRb_au (by decide) (LR_club1 hL hR c8 hlen hcd)))))))) rfl rfl rfl, fun c c5 hc => by rw [gu_eq] at hc; exact (va_up_ne _ _ (by omega)).trans (hz c c5 (by omega)), _, List.append_assoc _ _ _⟩
  · have hvn := v_club_5 (S := S) (by omega) hcl
    refine w_bipush (pc := 11) hC dX11_club_11 (z := (-4)) rfl ?_
    refine w_up (cs2 := 2) (ss2 := 123) (Nat.le_of_ble_eq_true rfl) (Nat.le_of_ble_eq_true rfl) ?_
    refine w_iret (pc := 13) hC hRT dX11_club_13 rfl ?_
    refine ⟨(I 48), (F 3), (F 4), (F 20), (F 21), (F 22), (F 23), (F 24), T, Q 12, P, retI (by exact hvn.1.symm), CW_cong (au_ms (k := 48) (v := I 48) rfl rfl rfl) (fu_ms (k := 3) (v := F 3) rfl rfl (fu_ms (k := 4) (v := F 4) rfl rfl (fu_ms (k := 20) (v := F 20) rfl rfl (fu_ms (k := 21) (v := F 21) rfl rfl (fu_ms (k := 22) (v := F 22) rfl rfl (fu_ms (k := 23) (v := F 23) rfl rfl (fu_ms (k := 24) (v := F 24) rfl rfl rfl))))))) (qu_ms (k := 12) (v := Q 12) rfl rfl rfl), ?_⟩
    · rw [hvn.2]
      exact ⟨LR_cg (show LRn G.2.1 S I F Q P from hL) (au_ms (k := 48) (v := I 48) rfl rfl rfl) (fu_ms (k := 3) (v := F 3) rfl rfl (fu_ms (k := 4) (v := F 4) rfl rfl (fu_ms (k := 20) (v := F 20) rfl rfl (fu_ms (k := 21) (v := F 21) rfl rfl (fu_ms (k := 22) (v := F 22) rfl rfl (fu_ms (k := 23) (v := F 23) rfl rfl (fu_ms (k := 24) (v := F 24) rfl rfl rfl))))))) (qu_ms (k := 12) (v := Q 12) rfl rfl rfl), hz, [], (List.append_nil _).symm⟩
