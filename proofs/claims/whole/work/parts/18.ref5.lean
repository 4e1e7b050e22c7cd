
def v_may (S : Int → Int) (c a d : Int) : Int := if ¬ (0 ≤ c ∧ c < S 1) ∨ ¬ (0 ≤ a ∧ a < S 0) then -1 else if 0 ≤ d ∧ d ≤ 999 then MSK S c (-1) (S 6) a d else -2
def v_asks (S : Int → Int) (c a d : Int) : Int := if ¬ (0 ≤ c ∧ c < S 1) ∨ ¬ (0 ≤ a ∧ a < S 0) then -1 else if 0 ≤ d ∧ d ≤ 999 then ASK S c (-1) (S 6) a d else -2
def v_match (S : Int → Int) (c a b w : Int) : Int := if ¬ (0 ≤ c ∧ c < S 1) ∨ ¬ (0 ≤ a ∧ a < S 0) ∨ ¬ (0 ≤ b ∧ b < S 0) then -1 else if a = b then -2 else if ¬ MSK S c (-1) (S 6) a (S 2) / 2 ^ b.toNat % 2 = 1 then -3 else if w = 0 then rk (S 0) (S 6) a else rk (S 0) (WON S c (S 6) a b) a
def n_match (S : Int → Int) (c a b w : Int) : Int → Int := if (0 ≤ c ∧ c < S 1) ∧ (0 ≤ a ∧ a < S 0) ∧ (0 ≤ b ∧ b < S 0) ∧ ¬ a = b ∧ MSK S c (-1) (S 6) a (S 2) / 2 ^ b.toNat % 2 = 1 ∧ ¬ w = 0 then gu S 6 (WON S c (S 6) a b) else S
theorem gu_same {S : Int → Int} (k : Int) : gu S k (S k) = S := by
  funext j
  unfold gu
  split
  · rename_i h; rw [h]
  · rfl
/-- who may be asked stands higher -/
theorem MSK_up {S : Int → Int} {c rf b a day x : Int} (h : VB (S 0) b) (ha : 0 ≤ a ∧ a < S 0) (hx : 0 ≤ x ∧ x < S 0) (hb : MSK S c rf b a day / 2 ^ x.toNat % 2 = 1) : rk (S 0) b x < rk (S 0) b a := by
  have hk := rk_spec h ha.1 ha.2
  have hn := h.1
  have hf : ∀ u : Int, 1 ≤ u → u ≤ (((imin (S (178 + c)) (rk (S 0) b a)).toNat : Nat) : Int) → 0 ≤ dg b (rk (S 0) b a - u) ∧ dg b (rk (S 0) b a - u) < 6 := fun u h1 h2 => by
    have h3 : u ≤ rk (S 0) b a := by unfold imin at h2; split at h2 <;> omega
    have := VB_dg h (r := rk (S 0) b a - u) (by omega) (by omega)
    omega
  unfold MSK at hb
  rw [bt_mskN _ _ hx.1 _ hf] at hb
  obtain ⟨v, hv, -, q2⟩ := hb
  have h3 : v ≤ rk (S 0) b a := by have := hv.2; unfold imin at this; split at this <;> omega
  rw [← q2, rk_dg h (by omega) (by omega)]
  omega

set_option maxRecDepth 100000 in
set_option maxHeartbeats 4000000 in
theorem c_X12_isLet (l : Launch) (G : GT) (A : Nat → Nat) (I : Nat → Int → Int) (F : Nat → Int)  (c : Int) (hR : RI (I 1)) (hc : 0 ≤ c ∧ c < (I 1) 1) (hb : ∀ j : Int, 0 ≤ j → j < 6 → 0 ≤ (I 4) j ∧ (I 4) j ≤ 100) : CT l yX12_isLet cX12_isLet 10 (some .boolean) 0 0 0 G [.ref (A 0), .int (J c)] (MW A G.2.1 I F) (fun vo wo => ∃ (b3 : Int → Int), vo = some (.int (J (bI (LET (I 1) c (I 4))))) ∧ wo = MW A G.2.1 (au I 3 b3) F) := by
  refine CT_of (own := RX12) rfl rfl (Nat.le_of_ble_eq_true rfl) (fun K hl hnL hC hRT hin => ?_)
  subst hl
  show WW K G 0 0 (MW A G.2.1 I F) 0 [(0, .ref (A 0)), (1, .int (J c))] []
  have hcl := hR.cl
  have hsm := hR.sm (188 + c) (by omega) (by omega)
  have hS := hR.i
  refine w_iconst (pc := 0) hC dX12_isLet_0 ?_
  refine w_istore_n (pc := 1) hC dX12_isLet_1 rfl (lv2 := [(2, .int (J 0)), (0, .ref (A 0)), (1, .int (J c))]) (by rw [hnL]; decide) rfl ?_
  refine w_iconst (pc := 2) hC dX12_isLet_2 ?_
  refine w_istore_n (pc := 3) hC dX12_isLet_3 rfl (lv2 := [(3, .int (J 0)), (2, .int (J 0)), (0, .ref (A 0)), (1, .int (J c))]) (by rw [hnL]; decide) rfl ?_
  refine w_iconst (pc := 4) hC dX12_isLet_4 ?_
  refine w_istore (pc := 5) hC dX12_isLet_5 (lv2 := [(4, .int (J 0)), (3, .int (J 0)), (2, .int (J 0)), (0, .ref (A 0)), (1, .int (J c))]) (by rw [hnL]; decide) rfl ?_
  refine w_sipush (pc := 7) hC dX12_isLet_7 (z := 193) rfl ?_
  refine w_sipush (pc := 10) hC dX12_isLet_10 (z := 140) rfl ?_
  refine w_iload_n (pc := 13) hC dX12_isLet_13 4 rfl rfl ?_
  refine w_imul (pc := 14) hC dX12_isLet_14 ?_
  refine w_iadd (pc := 15) hC dX12_isLet_15 ?_
  refine w_istore (pc := 16) hC dX12_isLet_16 (lv2 := [(5, .int (J (193 + (140 * c)))), (4, .int (J 0)), (3, .int (J 0)), (2, .int (J 0)), (0, .ref (A 0)), (1, .int (J c))]) (by rw [hnL]; decide) rfl ?_
  have loop18 : ∀ (nF : Nat) (shy : Int) (bold : Int) (top : Int) (q : Int) (a3_18 : Int → Int), (0 ≤ q - (193 + 140 * c) ∧ q - (193 + 140 * c) ≤ (I 1) (188 + c)) → (top = dpt (steps (I 1) c) (q - (193 + 140 * c)).toNat) → (∀ j : Int, 0 ≤ j → j < top → a3_18 j = (ev (I 4) (steps (I 1) c) (q - (193 + 140 * c)).toNat).1 j) → (shy = (ev (I 4) (steps (I 1) c) (q - (193 + 140 * c)).toNat).2.1) → (bold = (ev (I 4) (steps (I 1) c) (q - (193 + 140 * c)).toNat).2.2) → (193 + 140 * c + (I 1) (188 + c) - q) < (nF : Int) → WW K G 0 0 (MW A G.2.1 (au I 3 a3_18) F) 18 [(0, .ref (A 0)), (1, .int (J c)), (2, .int (J shy)), (3, .int (J bold)), (4, .int (J top)), (5, .int (J q))] [] := by
    intro nF
    induction nF with
    | zero => intro shy bold top q a3_18 i1 i2 i3 i4 i5 hm18; exact absurd hm18 (by omega)
    | succ nF ih18 =>
      intro shy bold top q a3_18 i1 i2 i3 i4 i5 hm18
      refine w_iload (pc := 18) hC dX12_isLet_18 5 rfl ?_
      refine w_sipush (pc := 20) hC dX12_isLet_20 (z := 193) rfl ?_
      refine w_sipush (pc := 23) hC dX12_isLet_23 (z := 140) rfl ?_
      refine w_iload_n (pc := 26) hC dX12_isLet_26 1 rfl rfl ?_
      refine w_imul (pc := 27) hC dX12_isLet_27 ?_
      refine w_iadd (pc := 28) hC dX12_isLet_28 ?_
      refine w_aload_n (pc := 29) hC dX12_isLet_29 0 rfl rfl ?_
      refine w_getf (pc := 30) (v := .ref (A 1)) hC dX12_isLet_30 fi_X12_9 0 rfl rfl ?_
      refine w_sipush (pc := 33) hC dX12_isLet_33 (z := 188) rfl ?_
      refine w_iload_n (pc := 36) hC dX12_isLet_36 1 rfl rfl ?_
      refine w_iadd (pc := 37) hC dX12_isLet_37 ?_
      refine w_iald (pc := 38) (g := (I 1)) hC dX12_isLet_38 1 rfl (by omega) (Nat.le_of_ble_eq_true rfl) ?_
      refine w_iadd (pc := 39) hC dX12_isLet_39 ?_
      have he := ev_01 (I 4) (steps (I 1) c) (q - (193 + 140 * c)).toNat
      rw [← i4, ← i5] at he
      refine w_icmp_ge (pc := 40) (tgt := 340) hC dX12_isLet_40 (by decide) (by omega) (fun c40 => ?_) (fun c40 => ?_)
      · refine w_iload_n (pc := 340) hC dX12_isLet_340 2 rfl rfl ?_
        refine w_if_eq (pc := 341) (tgt := 348) hC dX12_isLet_341 (by decide) (by omega) (fun c341 => ?_) (fun c341 => ?_)
        · refine w_iconst (pc := 348) hC dX12_isLet_348 ?_
          refine w_goto (pc := 349) hC dX12_isLet_349 (tgt := 353) (by decide) ?_
          refine w_iret (pc := 353) hC hRT dX12_isLet_353 rfl ?_
          refine ⟨a3_18, retI (by first | exact (bI_t (by show _ ∨ _; rw [show (I 1 (188 + c)).toNat = (q - (193 + 140 * c)).toNat by omega, ← i4, ← i5]; omega)).symm | exact (bI_f (by show ¬ (_ ∨ _); rw [show (I 1 (188 + c)).toNat = (q - (193 + 140 * c)).toNat by omega, ← i4, ← i5]; omega)).symm), rfl⟩
        · refine w_iload_n (pc := 344) hC dX12_isLet_344 3 rfl rfl ?_
          refine w_if_eq (pc := 345) (tgt := 352) hC dX12_isLet_345 (by decide) (by omega) (fun c345 => ?_) (fun c345 => ?_)
          · refine w_iconst (pc := 352) hC dX12_isLet_352 ?_
            refine w_iret (pc := 353) hC hRT dX12_isLet_353 rfl ?_
            refine ⟨a3_18, retI (by first | exact (bI_t (by show _ ∨ _; rw [show (I 1 (188 + c)).toNat = (q - (193 + 140 * c)).toNat by omega, ← i4, ← i5]; omega)).symm | exact (bI_f (by show ¬ (_ ∨ _); rw [show (I 1 (188 + c)).toNat = (q - (193 + 140 * c)).toNat by omega, ← i4, ← i5]; omega)).symm), rfl⟩
          · refine w_iconst (pc := 348) hC dX12_isLet_348 ?_
            refine w_goto (pc := 349) hC dX12_isLet_349 (tgt := 353) (by decide) ?_
            refine w_iret (pc := 353) hC hRT dX12_isLet_353 rfl ?_
            refine ⟨a3_18, retI (by first | exact (bI_t (by show _ ∨ _; rw [show (I 1 (188 + c)).toNat = (q - (193 + 140 * c)).toNat by omega, ← i4, ← i5]; omega)).symm | exact (bI_f (by show ¬ (_ ∨ _); rw [show (I 1 (188 + c)).toNat = (q - (193 + 140 * c)).toNat by omega, ← i4, ← i5]; omega)).symm), rfl⟩
      · refine w_aload_n (pc := 43) hC dX12_isLet_43 0 rfl rfl ?_
        refine w_getf (pc := 44) (v := .ref (A 1)) hC dX12_isLet_44 fi_X12_9 0 rfl rfl ?_
        refine w_iload (pc := 47) hC dX12_isLet_47 5 rfl ?_
        refine w_iald (pc := 49) (g := (I 1)) hC dX12_isLet_49 1 rfl (by omega) (Nat.le_of_ble_eq_true rfl) ?_
        refine w_istore (pc := 50) hC dX12_isLet_50 (lv2 := [(6, .int (J ((I 1) q))), (0, .ref (A 0)), (1, .int (J c)), (2, .int (J shy)), (3, .int (J bold)), (4, .int (J top)), (5, .int (J q))]) (by rw [hnL]; decide) rfl ?_
        have hst : (I 1) q = steps (I 1) c (q - (193 + 140 * c)) := by unfold steps; congr 1; omega
        have hw := WFs_i (hR.wf c hc.1 hc.2) i1.1 (show q - (193 + 140 * c) < I 1 (188 + c) by omega)
        have hd := dpt_bd (hR.wf c hc.1 hc.2) (q - (193 + 140 * c)).toNat (by omega)
        rw [← hst, ← i2] at hw
        rw [← i2] at hd
        have hq1 : (q + 1 - (193 + 140 * c)).toNat = (q - (193 + 140 * c) + 1).toNat := by omega
        have hS1 := hS q
        refine w_iload (pc := 52) hC dX12_isLet_52 0 rfl ?_
        refine w_if_lt (pc := 54) (tgt := 151) hC dX12_isLet_54 (by decide) (by omega) (fun c54 => ?_) (fun c54 => ?_)
        · refine w_iload (pc := 151) hC dX12_isLet_151 0 rfl ?_
          refine w_iconst (pc := 153) hC dX12_isLet_153 ?_
          refine w_icmp_ne (pc := 154) (tgt := 186) hC dX12_isLet_154 (by decide) (by omega) (fun c154 => ?_) (fun c154 => ?_)
          · refine w_iload (pc := 186) hC dX12_isLet_186 0 rfl ?_
            refine w_bipush (pc := 188) hC dX12_isLet_188 (z := (-4)) rfl ?_
            refine w_icmp_eq (pc := 190) (tgt := 200) hC dX12_isLet_190 (by decide) (by omega) (fun c190 => ?_) (fun c190 => ?_)
            · have z0 := i3 0 (by omega) (by omega)
              refine w_iconst (pc := 200) hC dX12_isLet_200 ?_
              refine w_istore (pc := 201) hC dX12_isLet_201 (lv2 := [(4, .int (J 0)), (6, .int (J ((I 1) q))), (0, .ref (A 0)), (1, .int (J c)), (2, .int (J shy)), (3, .int (J bold)), (5, .int (J q))]) (by rw [hnL]; decide) rfl ?_
              refine w_iload_n (pc := 203) hC dX12_isLet_203 4 rfl rfl ?_
              refine w_if_ne (pc := 204) (tgt := 223) hC dX12_isLet_204 (by decide) (by omega) (fun c204 => ?_) (fun c204 => ?_)
              · refine w_iconst (pc := 223) hC dX12_isLet_223 ?_
                refine w_goto (pc := 224) hC dX12_isLet_224 (tgt := 228) (by decide) ?_
                refine w_istore_n (pc := 228) hC dX12_isLet_228 rfl (lv2 := [(2, .int (J 1)), (4, .int (J 0)), (6, .int (J ((I 1) q))), (0, .ref (A 0)), (1, .int (J c)), (3, .int (J bold)), (5, .int (J q))]) (by rw [hnL]; decide) rfl ?_
                refine w_iload_n (pc := 229) hC dX12_isLet_229 5 rfl rfl ?_
                refine w_if_ne (pc := 230) (tgt := 249) hC dX12_isLet_230 (by decide) (by omega) (fun c230 => ?_) (fun c230 => ?_)
                · refine w_iconst (pc := 249) hC dX12_isLet_249 ?_
                  refine w_goto (pc := 250) hC dX12_isLet_250 (tgt := 254) (by decide) ?_
                  refine w_istore_n (pc := 254) hC dX12_isLet_254 rfl (lv2 := [(3, .int (J 1)), (2, .int (J 1)), (4, .int (J 0)), (6, .int (J ((I 1) q))), (0, .ref (A 0)), (1, .int (J c)), (5, .int (J q))]) (by rw [hnL]; decide) rfl ?_
                  refine w_goto (pc := 255) hC dX12_isLet_255 (tgt := 334) (by decide) ?_
                  refine w_iinc (pc := 334) hC dX12_isLet_334 (lv2 := [(5, .int (J (q + 1))), (3, .int (J 1)), (2, .int (J 1)), (4, .int (J 0)), (6, .int (J ((I 1) q))), (0, .ref (A 0)), (1, .int (J c))]) 6 rfl (by rw [hnL]; decide) rfl ?_
                  refine w_goto (pc := 337) hC dX12_isLet_337 (tgt := 18) (by decide) ?_
                  refine w_sub [5, 6, 2, 1, 3, 0] (lv2 := [(0, .ref (A 0)), (1, .int (J c)), (2, .int (J 1)), (3, .int (J 1)), (4, .int (J 0)), (5, .int (J (q + 1)))]) rfl ?_
                  refine ih18 1 1 0 (q + 1) a3_18 ?_ ?_ ?_ ?_ ?_ ?_
                  · first | assumption | omega
                  · rw [hq1, dpt_s _ i1.1, ← hst]; (repeat' split) <;> omega
                  · intro j g1 g2
                    rw [hq1, ev_s _ _ i1.1, ← hst, ← i2]
                    (first | subst h144 | subst h182 | subst h333 | skip)
                    (repeat' split) <;> first | (exfalso; omega) | exact i3 j g1 (by omega) | (dsimp only; unfold gu; (repeat' split) <;> first | (exfalso; omega) | exact i3 j g1 (by omega) | (unfold tst bI; (repeat' split) <;> omega) | (rw [← i3 _ (by omega) (by omega)] at *; omega) | omega)
                  · rw [hq1, ev_s _ _ i1.1, ← hst, ← i2]
                    (repeat' split) <;> first | (exfalso; omega) | exact i4 | exact i5 | (dsimp only; omega) | dsimp only
                  · rw [hq1, ev_s _ _ i1.1, ← hst, ← i2]
                    (repeat' split) <;> first | (exfalso; omega) | exact i4 | exact i5 | (dsimp only; omega) | dsimp only
                  · omega
                · refine w_iload (pc := 233) hC dX12_isLet_233 2 rfl ?_
                  refine w_bipush (pc := 235) hC dX12_isLet_235 (z := (-5)) rfl ?_
                  refine w_icmp_ne (pc := 237) (tgt := 253) hC dX12_isLet_237 (by decide) (by omega) (fun c237 => ?_) (fun c237 => ?_)
                  · refine w_iconst (pc := 253) hC dX12_isLet_253 ?_
                    refine w_istore_n (pc := 254) hC dX12_isLet_254 rfl (lv2 := [(3, .int (J 0)), (2, .int (J 1)), (4, .int (J 0)), (6, .int (J ((I 1) q))), (0, .ref (A 0)), (1, .int (J c)), (5, .int (J q))]) (by rw [hnL]; decide) rfl ?_
                    refine w_goto (pc := 255) hC dX12_isLet_255 (tgt := 334) (by decide) ?_
                    refine w_iinc (pc := 334) hC dX12_isLet_334 (lv2 := [(5, .int (J (q + 1))), (3, .int (J 0)), (2, .int (J 1)), (4, .int (J 0)), (6, .int (J ((I 1) q))), (0, .ref (A 0)), (1, .int (J c))]) 6 rfl (by rw [hnL]; decide) rfl ?_
                    refine w_goto (pc := 337) hC dX12_isLet_337 (tgt := 18) (by decide) ?_
                    refine w_sub [5, 6, 2, 1, 3, 0] (lv2 := [(0, .ref (A 0)), (1, .int (J c)), (2, .int (J 1)), (3, .int (J 0)), (4, .int (J 0)), (5, .int (J (q + 1)))]) rfl ?_
                    refine ih18 1 0 0 (q + 1) a3_18 ?_ ?_ ?_ ?_ ?_ ?_
                    · first | assumption | omega
                    · rw [hq1, dpt_s _ i1.1, ← hst]; (repeat' split) <;> omega
                    · intro j g1 g2
                      rw [hq1, ev_s _ _ i1.1, ← hst, ← i2]
                      (first | subst h144 | subst h182 | subst h333 | skip)
                      (repeat' split) <;> first | (exfalso; omega) | exact i3 j g1 (by omega) | (dsimp only; unfold gu; (repeat' split) <;> first | (exfalso; omega) | exact i3 j g1 (by omega) | (unfold tst bI; (repeat' split) <;> omega) | (rw [← i3 _ (by omega) (by omega)] at *; omega) | omega)
                    · rw [hq1, ev_s _ _ i1.1, ← hst, ← i2]
                      (repeat' split) <;> first | (exfalso; omega) | exact i4 | exact i5 | (dsimp only; omega) | dsimp only
                    · rw [hq1, ev_s _ _ i1.1, ← hst, ← i2]
                      (repeat' split) <;> first | (exfalso; omega) | exact i4 | exact i5 | (dsimp only; omega) | dsimp only
                    · omega
                  · refine w_aload_n (pc := 240) hC dX12_isLet_240 3 rfl rfl ?_
                    refine w_getf (pc := 241) (v := .ref (A 3)) hC dX12_isLet_241 fi_X12_18 0 rfl rfl ?_
                    refine w_iconst (pc := 244) hC dX12_isLet_244 ?_
                    have ht0 := he.1 0
                    rw [← z0] at ht0
                    refine w_zald (pc := 245) (g := a3_18) hC dX12_isLet_245 3 rfl (by omega) (Nat.le_of_ble_eq_true rfl) ?_
                    refine w_if_eq (pc := 246) (tgt := 253) hC dX12_isLet_246 (by decide) (by omega) (fun c246 => ?_) (fun c246 => ?_)
                    · refine w_iconst (pc := 253) hC dX12_isLet_253 ?_
                      refine w_istore_n (pc := 254) hC dX12_isLet_254 rfl (lv2 := [(3, .int (J 0)), (2, .int (J 1)), (4, .int (J 0)), (6, .int (J ((I 1) q))), (0, .ref (A 0)), (1, .int (J c)), (5, .int (J q))]) (by rw [hnL]; decide) rfl ?_
                      refine w_goto (pc := 255) hC dX12_isLet_255 (tgt := 334) (by decide) ?_
                      refine w_iinc (pc := 334) hC dX12_isLet_334 (lv2 := [(5, .int (J (q + 1))), (3, .int (J 0)), (2, .int (J 1)), (4, .int (J 0)), (6, .int (J ((I 1) q))), (0, .ref (A 0)), (1, .int (J c))]) 6 rfl (by rw [hnL]; decide) rfl ?_
                      refine w_goto (pc := 337) hC dX12_isLet_337 (tgt := 18) (by decide) ?_
                      refine w_sub [5, 6, 2, 1, 3, 0] (lv2 := [(0, .ref (A 0)), (1, .int (J c)), (2, .int (J 1)), (3, .int (J 0)), (4, .int (J 0)), (5, .int (J (q + 1)))]) rfl ?_
                      refine ih18 1 0 0 (q + 1) a3_18 ?_ ?_ ?_ ?_ ?_ ?_
                      · first | assumption | omega
                      · rw [hq1, dpt_s _ i1.1, ← hst]; (repeat' split) <;> omega
                      · intro j g1 g2
                        rw [hq1, ev_s _ _ i1.1, ← hst, ← i2]
                        (first | subst h144 | subst h182 | subst h333 | skip)
                        (repeat' split) <;> first | (exfalso; omega) | exact i3 j g1 (by omega) | (dsimp only; unfold gu; (repeat' split) <;> first | (exfalso; omega) | exact i3 j g1 (by omega) | (unfold tst bI; (repeat' split) <;> omega) | (rw [← i3 _ (by omega) (by omega)] at *; omega) | omega)
                      · rw [hq1, ev_s _ _ i1.1, ← hst, ← i2]
                        (repeat' split) <;> first | (exfalso; omega) | exact i4 | exact i5 | (dsimp only; omega) | dsimp only
                      · rw [hq1, ev_s _ _ i1.1, ← hst, ← i2]
                        (repeat' split) <;> first | (exfalso; omega) | exact i4 | exact i5 | (dsimp only; omega) | dsimp only
                      · omega
                    · refine w_iconst (pc := 249) hC dX12_isLet_249 ?_
                      refine w_goto (pc := 250) hC dX12_isLet_250 (tgt := 254) (by decide) ?_
                      refine w_istore_n (pc := 254) hC dX12_isLet_254 rfl (lv2 := [(3, .int (J 1)), (2, .int (J 1)), (4, .int (J 0)), (6, .int (J ((I 1) q))), (0, .ref (A 0)), (1, .int (J c)), (5, .int (J q))]) (by rw [hnL]; decide) rfl ?_
                      refine w_goto (pc := 255) hC dX12_isLet_255 (tgt := 334) (by decide) ?_
                      refine w_iinc (pc := 334) hC dX12_isLet_334 (lv2 := [(5, .int (J (q + 1))), (3, .int (J 1)), (2, .int (J 1)), (4, .int (J 0)), (6, .int (J ((I 1) q))), (0, .ref (A 0)), (1, .int (J c))]) 6 rfl (by rw [hnL]; decide) rfl ?_
                      refine w_goto (pc := 337) hC dX12_isLet_337 (tgt := 18) (by decide) ?_
                      refine w_sub [5, 6, 2, 1, 3, 0] (lv2 := [(0, .ref (A 0)), (1, .int (J c)), (2, .int (J 1)), (3, .int (J 1)), (4, .int (J 0)), (5, .int (J (q + 1)))]) rfl ?_
                      refine ih18 1 1 0 (q + 1) a3_18 ?_ ?_ ?_ ?_ ?_ ?_
                      · first | assumption | omega
                      · rw [hq1, dpt_s _ i1.1, ← hst]; (repeat' split) <;> omega
                      · intro j g1 g2
                        rw [hq1, ev_s _ _ i1.1, ← hst, ← i2]
                        (first | subst h144 | subst h182 | subst h333 | skip)
                        (repeat' split) <;> first | (exfalso; omega) | exact i3 j g1 (by omega) | (dsimp only; unfold gu; (repeat' split) <;> first | (exfalso; omega) | exact i3 j g1 (by omega) | (unfold tst bI; (repeat' split) <;> omega) | (rw [← i3 _ (by omega) (by omega)] at *; omega) | omega)
                      · rw [hq1, ev_s _ _ i1.1, ← hst, ← i2]
                        (repeat' split) <;> first | (exfalso; omega) | exact i4 | exact i5 | (dsimp only; omega) | dsimp only
                      · rw [hq1, ev_s _ _ i1.1, ← hst, ← i2]
                        (repeat' split) <;> first | (exfalso; omega) | exact i4 | exact i5 | (dsimp only; omega) | dsimp only
                      · omega
              · refine w_iload (pc := 207) hC dX12_isLet_207 1 rfl ?_
                refine w_bipush (pc := 209) hC dX12_isLet_209 (z := (-4)) rfl ?_
                refine w_icmp_ne (pc := 211) (tgt := 227) hC dX12_isLet_211 (by decide) (by omega) (fun c211 => ?_) (fun c211 => ?_)
                · refine w_iconst (pc := 227) hC dX12_isLet_227 ?_
                  refine w_istore_n (pc := 228) hC dX12_isLet_228 rfl (lv2 := [(2, .int (J 0)), (4, .int (J 0)), (6, .int (J ((I 1) q))), (0, .ref (A 0)), (1, .int (J c)), (3, .int (J bold)), (5, .int (J q))]) (by rw [hnL]; decide) rfl ?_
                  refine w_iload_n (pc := 229) hC dX12_isLet_229 5 rfl rfl ?_
                  refine w_if_ne (pc := 230) (tgt := 249) hC dX12_isLet_230 (by decide) (by omega) (fun c230 => ?_) (fun c230 => ?_)
                  · refine w_iconst (pc := 249) hC dX12_isLet_249 ?_
                    refine w_goto (pc := 250) hC dX12_isLet_250 (tgt := 254) (by decide) ?_
                    refine w_istore_n (pc := 254) hC dX12_isLet_254 rfl (lv2 := [(3, .int (J 1)), (2, .int (J 0)), (4, .int (J 0)), (6, .int (J ((I 1) q))), (0, .ref (A 0)), (1, .int (J c)), (5, .int (J q))]) (by rw [hnL]; decide) rfl ?_
                    refine w_goto (pc := 255) hC dX12_isLet_255 (tgt := 334) (by decide) ?_
                    refine w_iinc (pc := 334) hC dX12_isLet_334 (lv2 := [(5, .int (J (q + 1))), (3, .int (J 1)), (2, .int (J 0)), (4, .int (J 0)), (6, .int (J ((I 1) q))), (0, .ref (A 0)), (1, .int (J c))]) 6 rfl (by rw [hnL]; decide) rfl ?_
                    refine w_goto (pc := 337) hC dX12_isLet_337 (tgt := 18) (by decide) ?_
                    refine w_sub [5, 6, 2, 1, 3, 0] (lv2 := [(0, .ref (A 0)), (1, .int (J c)), (2, .int (J 0)), (3, .int (J 1)), (4, .int (J 0)), (5, .int (J (q + 1)))]) rfl ?_
                    refine ih18 0 1 0 (q + 1) a3_18 ?_ ?_ ?_ ?_ ?_ ?_
                    · first | assumption | omega
                    · rw [hq1, dpt_s _ i1.1, ← hst]; (repeat' split) <;> omega
                    · intro j g1 g2
                      rw [hq1, ev_s _ _ i1.1, ← hst, ← i2]
                      (first | subst h144 | subst h182 | subst h333 | skip)
                      (repeat' split) <;> first | (exfalso; omega) | exact i3 j g1 (by omega) | (dsimp only; unfold gu; (repeat' split) <;> first | (exfalso; omega) | exact i3 j g1 (by omega) | (unfold tst bI; (repeat' split) <;> omega) | (rw [← i3 _ (by omega) (by omega)] at *; omega) | omega)
                    · rw [hq1, ev_s _ _ i1.1, ← hst, ← i2]
                      (repeat' split) <;> first | (exfalso; omega) | exact i4 | exact i5 | (dsimp only; omega) | dsimp only
                    · rw [hq1, ev_s _ _ i1.1, ← hst, ← i2]
                      (repeat' split) <;> first | (exfalso; omega) | exact i4 | exact i5 | (dsimp only; omega) | dsimp only
                    · omega
                  · refine w_iload (pc := 233) hC dX12_isLet_233 2 rfl ?_
                    refine w_bipush (pc := 235) hC dX12_isLet_235 (z := (-5)) rfl ?_
                    refine w_icmp_ne (pc := 237) (tgt := 253) hC dX12_isLet_237 (by decide) (by omega) (fun c237 => ?_) (fun c237 => ?_)
                    · refine w_iconst (pc := 253) hC dX12_isLet_253 ?_
                      refine w_istore_n (pc := 254) hC dX12_isLet_254 rfl (lv2 := [(3, .int (J 0)), (2, .int (J 0)), (4, .int (J 0)), (6, .int (J ((I 1) q))), (0, .ref (A 0)), (1, .int (J c)), (5, .int (J q))]) (by rw [hnL]; decide) rfl ?_
                      refine w_goto (pc := 255) hC dX12_isLet_255 (tgt := 334) (by decide) ?_
                      refine w_iinc (pc := 334) hC dX12_isLet_334 (lv2 := [(5, .int (J (q + 1))), (3, .int (J 0)), (2, .int (J 0)), (4, .int (J 0)), (6, .int (J ((I 1) q))), (0, .ref (A 0)), (1, .int (J c))]) 6 rfl (by rw [hnL]; decide) rfl ?_
                      refine w_goto (pc := 337) hC dX12_isLet_337 (tgt := 18) (by decide) ?_
                      refine w_sub [5, 6, 2, 1, 3, 0] (lv2 := [(0, .ref (A 0)), (1, .int (J c)), (2, .int (J 0)), (3, .int (J 0)), (4, .int (J 0)), (5, .int (J (q + 1)))]) rfl ?_
                      refine ih18 0 0 0 (q + 1) a3_18 ?_ ?_ ?_ ?_ ?_ ?_
                      · first | assumption | omega
                      · rw [hq1, dpt_s _ i1.1, ← hst]; (repeat' split) <;> omega
                      · intro j g1 g2
                        rw [hq1, ev_s _ _ i1.1, ← hst, ← i2]
                        (first | subst h144 | subst h182 | subst h333 | skip)
                        (repeat' split) <;> first | (exfalso; omega) | exact i3 j g1 (by omega) | (dsimp only; unfold gu; (repeat' split) <;> first | (exfalso; omega) | exact i3 j g1 (by omega) | (unfold tst bI; (repeat' split) <;> omega) | (rw [← i3 _ (by omega) (by omega)] at *; omega) | omega)
                      · rw [hq1, ev_s _ _ i1.1, ← hst, ← i2]
                        (repeat' split) <;> first | (exfalso; omega) | exact i4 | exact i5 | (dsimp only; omega) | dsimp only
                      · rw [hq1, ev_s _ _ i1.1, ← hst, ← i2]
                        (repeat' split) <;> first | (exfalso; omega) | exact i4 | exact i5 | (dsimp only; omega) | dsimp only
                      · omega
                    · refine w_aload_n (pc := 240) hC dX12_isLet_240 3 rfl rfl ?_
                      refine w_getf (pc := 241) (v := .ref (A 3)) hC dX12_isLet_241 fi_X12_18 0 rfl rfl ?_
                      refine w_iconst (pc := 244) hC dX12_isLet_244 ?_
                      have ht0 := he.1 0
                      rw [← z0] at ht0
                      refine w_zald (pc := 245) (g := a3_18) hC dX12_isLet_245 3 rfl (by omega) (Nat.le_of_ble_eq_true rfl) ?_
                      refine w_if_eq (pc := 246) (tgt := 253) hC dX12_isLet_246 (by decide) (by omega) (fun c246 => ?_) (fun c246 => ?_)
                      · refine w_iconst (pc := 253) hC dX12_isLet_253 ?_
                        refine w_istore_n (pc := 254) hC dX12_isLet_254 rfl (lv2 := [(3, .int (J 0)), (2, .int (J 0)), (4, .int (J 0)), (6, .int (J ((I 1) q))), (0, .ref (A 0)), (1, .int (J c)), (5, .int (J q))]) (by rw [hnL]; decide) rfl ?_
                        refine w_goto (pc := 255) hC dX12_isLet_255 (tgt := 334) (by decide) ?_
                        refine w_iinc (pc := 334) hC dX12_isLet_334 (lv2 := [(5, .int (J (q + 1))), (3, .int (J 0)), (2, .int (J 0)), (4, .int (J 0)), (6, .int (J ((I 1) q))), (0, .ref (A 0)), (1, .int (J c))]) 6 rfl (by rw [hnL]; decide) rfl ?_
                        refine w_goto (pc := 337) hC dX12_isLet_337 (tgt := 18) (by decide) ?_
                        refine w_sub [5, 6, 2, 1, 3, 0] (lv2 := [(0, .ref (A 0)), (1, .int (J c)), (2, .int (J 0)), (3, .int (J 0)), (4, .int (J 0)), (5, .int (J (q + 1)))]) rfl ?_
                        refine ih18 0 0 0 (q + 1) a3_18 ?_ ?_ ?_ ?_ ?_ ?_
                        · first | assumption | omega
                        · rw [hq1, dpt_s _ i1.1, ← hst]; (repeat' split) <;> omega
                        · intro j g1 g2
                          rw [hq1, ev_s _ _ i1.1, ← hst, ← i2]
                          (first | subst h144 | subst h182 | subst h333 | skip)
                          (repeat' split) <;> first | (exfalso; omega) | exact i3 j g1 (by omega) | (dsimp only; unfold gu; (repeat' split) <;> first | (exfalso; omega) | exact i3 j g1 (by omega) | (unfold tst bI; (repeat' split) <;> omega) | (rw [← i3 _ (by omega) (by omega)] at *; omega) | omega)
                        · rw [hq1, ev_s _ _ i1.1, ← hst, ← i2]
                          (repeat' split) <;> first | (exfalso; omega) | exact i4 | exact i5 | (dsimp only; omega) | dsimp only
                        · rw [hq1, ev_s _ _ i1.1, ← hst, ← i2]
                          (repeat' split) <;> first | (exfalso; omega) | exact i4 | exact i5 | (dsimp only; omega) | dsimp only
                        · omega
                      · refine w_iconst (pc := 249) hC dX12_isLet_249 ?_
                        refine w_goto (pc := 250) hC dX12_isLet_250 (tgt := 254) (by decide) ?_
                        refine w_istore_n (pc := 254) hC dX12_isLet_254 rfl (lv2 := [(3, .int (J 1)), (2, .int (J 0)), (4, .int (J 0)), (6, .int (J ((I 1) q))), (0, .ref (A 0)), (1, .int (J c)), (5, .int (J q))]) (by rw [hnL]; decide) rfl ?_
                        refine w_goto (pc := 255) hC dX12_isLet_255 (tgt := 334) (by decide) ?_
                        refine w_iinc (pc := 334) hC dX12_isLet_334 (lv2 := [(5, .int (J (q + 1))), (3, .int (J 1)), (2, .int (J 0)), (4, .int (J 0)), (6, .int (J ((I 1) q))), (0, .ref (A 0)), (1, .int (J c))]) 6 rfl (by rw [hnL]; decide) rfl ?_
                        refine w_goto (pc := 337) hC dX12_isLet_337 (tgt := 18) (by decide) ?_
                        refine w_sub [5, 6, 2, 1, 3, 0] (lv2 := [(0, .ref (A 0)), (1, .int (J c)), (2, .int (J 0)), (3, .int (J 1)), (4, .int (J 0)), (5, .int (J (q + 1)))]) rfl ?_
                        refine ih18 0 1 0 (q + 1) a3_18 ?_ ?_ ?_ ?_ ?_ ?_
                        · first | assumption | omega
                        · rw [hq1, dpt_s _ i1.1, ← hst]; (repeat' split) <;> omega
                        · intro j g1 g2
                          rw [hq1, ev_s _ _ i1.1, ← hst, ← i2]
                          (first | subst h144 | subst h182 | subst h333 | skip)
                          (repeat' split) <;> first | (exfalso; omega) | exact i3 j g1 (by omega) | (dsimp only; unfold gu; (repeat' split) <;> first | (exfalso; omega) | exact i3 j g1 (by omega) | (unfold tst bI; (repeat' split) <;> omega) | (rw [← i3 _ (by omega) (by omega)] at *; omega) | omega)
                        · rw [hq1, ev_s _ _ i1.1, ← hst, ← i2]
                          (repeat' split) <;> first | (exfalso; omega) | exact i4 | exact i5 | (dsimp only; omega) | dsimp only
                        · rw [hq1, ev_s _ _ i1.1, ← hst, ← i2]
                          (repeat' split) <;> first | (exfalso; omega) | exact i4 | exact i5 | (dsimp only; omega) | dsimp only
                        · omega
                · refine w_aload_n (pc := 214) hC dX12_isLet_214 2 rfl rfl ?_
                  refine w_getf (pc := 215) (v := .ref (A 3)) hC dX12_isLet_215 fi_X12_18 0 rfl rfl ?_
                  refine w_iconst (pc := 218) hC dX12_isLet_218 ?_
                  have ht0 := he.1 0
                  rw [← z0] at ht0
                  refine w_zald (pc := 219) (g := a3_18) hC dX12_isLet_219 3 rfl (by omega) (Nat.le_of_ble_eq_true rfl) ?_
                  refine w_if_eq (pc := 220) (tgt := 227) hC dX12_isLet_220 (by decide) (by omega) (fun c220 => ?_) (fun c220 => ?_)
                  · refine w_iconst (pc := 227) hC dX12_isLet_227 ?_
                    refine w_istore_n (pc := 228) hC dX12_isLet_228 rfl (lv2 := [(2, .int (J 0)), (4, .int (J 0)), (6, .int (J ((I 1) q))), (0, .ref (A 0)), (1, .int (J c)), (3, .int (J bold)), (5, .int (J q))]) (by rw [hnL]; decide) rfl ?_
                    refine w_iload_n (pc := 229) hC dX12_isLet_229 5 rfl rfl ?_
                    refine w_if_ne (pc := 230) (tgt := 249) hC dX12_isLet_230 (by decide) (by omega) (fun c230 => ?_) (fun c230 => ?_)
                    · refine w_iconst (pc := 249) hC dX12_isLet_249 ?_
                      refine w_goto (pc := 250) hC dX12_isLet_250 (tgt := 254) (by decide) ?_
                      refine w_istore_n (pc := 254) hC dX12_isLet_254 rfl (lv2 := [(3, .int (J 1)), (2, .int (J 0)), (4, .int (J 0)), (6, .int (J ((I 1) q))), (0, .ref (A 0)), (1, .int (J c)), (5, .int (J q))]) (by rw [hnL]; decide) rfl ?_
                      refine w_goto (pc := 255) hC dX12_isLet_255 (tgt := 334) (by decide) ?_
                      refine w_iinc (pc := 334) hC dX12_isLet_334 (lv2 := [(5, .int (J (q + 1))), (3, .int (J 1)), (2, .int (J 0)), (4, .int (J 0)), (6, .int (J ((I 1) q))), (0, .ref (A 0)), (1, .int (J c))]) 6 rfl (by rw [hnL]; decide) rfl ?_
                      refine w_goto (pc := 337) hC dX12_isLet_337 (tgt := 18) (by decide) ?_
                      refine w_sub [5, 6, 2, 1, 3, 0] (lv2 := [(0, .ref (A 0)), (1, .int (J c)), (2, .int (J 0)), (3, .int (J 1)), (4, .int (J 0)), (5, .int (J (q + 1)))]) rfl ?_
                      refine ih18 0 1 0 (q + 1) a3_18 ?_ ?_ ?_ ?_ ?_ ?_
                      · first | assumption | omega
                      · rw [hq1, dpt_s _ i1.1, ← hst]; (repeat' split) <;> omega
                      · intro j g1 g2
                        rw [hq1, ev_s _ _ i1.1, ← hst, ← i2]
                        (first | subst h144 | subst h182 | subst h333 | skip)
                        (repeat' split) <;> first | (exfalso; omega) | exact i3 j g1 (by omega) | (dsimp only; unfold gu; (repeat' split) <;> first | (exfalso; omega) | exact i3 j g1 (by omega) | (unfold tst bI; (repeat' split) <;> omega) | (rw [← i3 _ (by omega) (by omega)] at *; omega) | omega)
                      · rw [hq1, ev_s _ _ i1.1, ← hst, ← i2]
                        (repeat' split) <;> first | (exfalso; omega) | exact i4 | exact i5 | (dsimp only; omega) | dsimp only
                      · rw [hq1, ev_s _ _ i1.1, ← hst, ← i2]
                        (repeat' split) <;> first | (exfalso; omega) | exact i4 | exact i5 | (dsimp only; omega) | dsimp only
                      · omega
                    · refine w_iload (pc := 233) hC dX12_isLet_233 2 rfl ?_
                      refine w_bipush (pc := 235) hC dX12_isLet_235 (z := (-5)) rfl ?_
                      refine w_icmp_ne (pc := 237) (tgt := 253) hC dX12_isLet_237 (by decide) (by omega) (fun c237 => ?_) (fun c237 => ?_)
                      · refine w_iconst (pc := 253) hC dX12_isLet_253 ?_
                        refine w_istore_n (pc := 254) hC dX12_isLet_254 rfl (lv2 := [(3, .int (J 0)), (2, .int (J 0)), (4, .int (J 0)), (6, .int (J ((I 1) q))), (0, .ref (A 0)), (1, .int (J c)), (5, .int (J q))]) (by rw [hnL]; decide) rfl ?_
                        refine w_goto (pc := 255) hC dX12_isLet_255 (tgt := 334) (by decide) ?_
                        refine w_iinc (pc := 334) hC dX12_isLet_334 (lv2 := [(5, .int (J (q + 1))), (3, .int (J 0)), (2, .int (J 0)), (4, .int (J 0)), (6, .int (J ((I 1) q))), (0, .ref (A 0)), (1, .int (J c))]) 6 rfl (by rw [hnL]; decide) rfl ?_
                        refine w_goto (pc := 337) hC dX12_isLet_337 (tgt := 18) (by decide) ?_
                        refine w_sub [5, 6, 2, 1, 3, 0] (lv2 := [(0, .ref (A 0)), (1, .int (J c)), (2, .int (J 0)), (3, .int (J 0)), (4, .int (J 0)), (5, .int (J (q + 1)))]) rfl ?_
                        refine ih18 0 0 0 (q + 1) a3_18 ?_ ?_ ?_ ?_ ?_ ?_
                        · first | assumption | omega
                        · rw [hq1, dpt_s _ i1.1, ← hst]; (repeat' split) <;> omega
                        · intro j g1 g2
                          rw [hq1, ev_s _ _ i1.1, ← hst, ← i2]
                          (first | subst h144 | subst h182 | subst h333 | skip)
                          (repeat' split) <;> first | (exfalso; omega) | exact i3 j g1 (by omega) | (dsimp only; unfold gu; (repeat' split) <;> first | (exfalso; omega) | exact i3 j g1 (by omega) | (unfold tst bI; (repeat' split) <;> omega) | (rw [← i3 _ (by omega) (by omega)] at *; omega) | omega)
                        · rw [hq1, ev_s _ _ i1.1, ← hst, ← i2]
                          (repeat' split) <;> first | (exfalso; omega) | exact i4 | exact i5 | (dsimp only; omega) | dsimp only
                        · rw [hq1, ev_s _ _ i1.1, ← hst, ← i2]
                          (repeat' split) <;> first | (exfalso; omega) | exact i4 | exact i5 | (dsimp only; omega) | dsimp only
                        · omega
                      · refine w_aload_n (pc := 240) hC dX12_isLet_240 3 rfl rfl ?_
                        refine w_getf (pc := 241) (v := .ref (A 3)) hC dX12_isLet_241 fi_X12_18 0 rfl rfl ?_
                        refine w_iconst (pc := 244) hC dX12_isLet_244 ?_
                        have ht0 := he.1 0
                        rw [← z0] at ht0
                        refine w_zald (pc := 245) (g := a3_18) hC dX12_isLet_245 3 rfl (by omega) (Nat.le_of_ble_eq_true rfl) ?_
                        refine w_if_eq (pc := 246) (tgt := 253) hC dX12_isLet_246 (by decide) (by omega) (fun c246 => ?_) (fun c246 => ?_)
                        · refine w_iconst (pc := 253) hC dX12_isLet_253 ?_
                          refine w_istore_n (pc := 254) hC dX12_isLet_254 rfl (lv2 := [(3, .int (J 0)), (2, .int (J 0)), (4, .int (J 0)), (6, .int (J ((I 1) q))), (0, .ref (A 0)), (1, .int (J c)), (5, .int (J q))]) (by rw [hnL]; decide) rfl ?_
                          refine w_goto (pc := 255) hC dX12_isLet_255 (tgt := 334) (by decide) ?_
                          refine w_iinc (pc := 334) hC dX12_isLet_334 (lv2 := [(5, .int (J (q + 1))), (3, .int (J 0)), (2, .int (J 0)), (4, .int (J 0)), (6, .int (J ((I 1) q))), (0, .ref (A 0)), (1, .int (J c))]) 6 rfl (by rw [hnL]; decide) rfl ?_
                          refine w_goto (pc := 337) hC dX12_isLet_337 (tgt := 18) (by decide) ?_
                          refine w_sub [5, 6, 2, 1, 3, 0] (lv2 := [(0, .ref (A 0)), (1, .int (J c)), (2, .int (J 0)), (3, .int (J 0)), (4, .int (J 0)), (5, .int (J (q + 1)))]) rfl ?_
                          refine ih18 0 0 0 (q + 1) a3_18 ?_ ?_ ?_ ?_ ?_ ?_
                          · first | assumption | omega
                          · rw [hq1, dpt_s _ i1.1, ← hst]; (repeat' split) <;> omega
                          · intro j g1 g2
                            rw [hq1, ev_s _ _ i1.1, ← hst, ← i2]
                            (first | subst h144 | subst h182 | subst h333 | skip)
                            (repeat' split) <;> first | (exfalso; omega) | exact i3 j g1 (by omega) | (dsimp only; unfold gu; (repeat' split) <;> first | (exfalso; omega) | exact i3 j g1 (by omega) | (unfold tst bI; (repeat' split) <;> omega) | (rw [← i3 _ (by omega) (by omega)] at *; omega) | omega)
                          · rw [hq1, ev_s _ _ i1.1, ← hst, ← i2]
                            (repeat' split) <;> first | (exfalso; omega) | exact i4 | exact i5 | (dsimp only; omega) | dsimp only
                          · rw [hq1, ev_s _ _ i1.1, ← hst, ← i2]
                            (repeat' split) <;> first | (exfalso; omega) | exact i4 | exact i5 | (dsimp only; omega) | dsimp only
                          · omega
                        · refine w_iconst (pc := 249) hC dX12_isLet_249 ?_
                          refine w_goto (pc := 250) hC dX12_isLet_250 (tgt := 254) (by decide) ?_
                          refine w_istore_n (pc := 254) hC dX12_isLet_254 rfl (lv2 := [(3, .int (J 1)), (2, .int (J 0)), (4, .int (J 0)), (6, .int (J ((I 1) q))), (0, .ref (A 0)), (1, .int (J c)), (5, .int (J q))]) (by rw [hnL]; decide) rfl ?_
                          refine w_goto (pc := 255) hC dX12_isLet_255 (tgt := 334) (by decide) ?_
                          refine w_iinc (pc := 334) hC dX12_isLet_334 (lv2 := [(5, .int (J (q + 1))), (3, .int (J 1)), (2, .int (J 0)), (4, .int (J 0)), (6, .int (J ((I 1) q))), (0, .ref (A 0)), (1, .int (J c))]) 6 rfl (by rw [hnL]; decide) rfl ?_
                          refine w_goto (pc := 337) hC dX12_isLet_337 (tgt := 18) (by decide) ?_
                          refine w_sub [5, 6, 2, 1, 3, 0] (lv2 := [(0, .ref (A 0)), (1, .int (J c)), (2, .int (J 0)), (3, .int (J 1)), (4, .int (J 0)), (5, .int (J (q + 1)))]) rfl ?_
                          refine ih18 0 1 0 (q + 1) a3_18 ?_ ?_ ?_ ?_ ?_ ?_
                          · first | assumption | omega
                          · rw [hq1, dpt_s _ i1.1, ← hst]; (repeat' split) <;> omega
                          · intro j g1 g2
                            rw [hq1, ev_s _ _ i1.1, ← hst, ← i2]
                            (first | subst h144 | subst h182 | subst h333 | skip)
                            (repeat' split) <;> first | (exfalso; omega) | exact i3 j g1 (by omega) | (dsimp only; unfold gu; (repeat' split) <;> first | (exfalso; omega) | exact i3 j g1 (by omega) | (unfold tst bI; (repeat' split) <;> omega) | (rw [← i3 _ (by omega) (by omega)] at *; omega) | omega)
                          · rw [hq1, ev_s _ _ i1.1, ← hst, ← i2]
                            (repeat' split) <;> first | (exfalso; omega) | exact i4 | exact i5 | (dsimp only; omega) | dsimp only
                          · rw [hq1, ev_s _ _ i1.1, ← hst, ← i2]
                            (repeat' split) <;> first | (exfalso; omega) | exact i4 | exact i5 | (dsimp only; omega) | dsimp only
                          · omega
                  · refine w_iconst (pc := 223) hC dX12_isLet_223 ?_
                    refine w_goto (pc := 224) hC dX12_isLet_224 (tgt := 228) (by decide) ?_
                    refine w_istore_n (pc := 228) hC dX12_isLet_228 rfl (lv2 := [(2, .int (J 1)), (4, .int (J 0)), (6, .int (J ((I 1) q))), (0, .ref (A 0)), (1, .int (J c)), (3, .int (J bold)), (5, .int (J q))]) (by rw [hnL]; decide) rfl ?_
                    refine w_iload_n (pc := 229) hC dX12_isLet_229 5 rfl rfl ?_
                    refine w_if_ne (pc := 230) (tgt := 249) hC dX12_isLet_230 (by decide) (by omega) (fun c230 => ?_) (fun c230 => ?_)
                    · refine w_iconst (pc := 249) hC dX12_isLet_249 ?_
                      refine w_goto (pc := 250) hC dX12_isLet_250 (tgt := 254) (by decide) ?_
                      refine w_istore_n (pc := 254) hC dX12_isLet_254 rfl (lv2 := [(3, .int (J 1)), (2, .int (J 1)), (4, .int (J 0)), (6, .int (J ((I 1) q))), (0, .ref (A 0)), (1, .int (J c)), (5, .int (J q))]) (by rw [hnL]; decide) rfl ?_
                      refine w_goto (pc := 255) hC dX12_isLet_255 (tgt := 334) (by decide) ?_
                      refine w_iinc (pc := 334) hC dX12_isLet_334 (lv2 := [(5, .int (J (q + 1))), (3, .int (J 1)), (2, .int (J 1)), (4, .int (J 0)), (6, .int (J ((I 1) q))), (0, .ref (A 0)), (1, .int (J c))]) 6 rfl (by rw [hnL]; decide) rfl ?_
                      refine w_goto (pc := 337) hC dX12_isLet_337 (tgt := 18) (by decide) ?_
                      refine w_sub [5, 6, 2, 1, 3, 0] (lv2 := [(0, .ref (A 0)), (1, .int (J c)), (2, .int (J 1)), (3, .int (J 1)), (4, .int (J 0)), (5, .int (J (q + 1)))]) rfl ?_
                      refine ih18 1 1 0 (q + 1) a3_18 ?_ ?_ ?_ ?_ ?_ ?_
                      · first | assumption | omega
                      · rw [hq1, dpt_s _ i1.1, ← hst]; (repeat' split) <;> omega
                      · intro j g1 g2
                        rw [hq1, ev_s _ _ i1.1, ← hst, ← i2]
                        (first | subst h144 | subst h182 | subst h333 | skip)
                        (repeat' split) <;> first | (exfalso; omega) | exact i3 j g1 (by omega) | (dsimp only; unfold gu; (repeat' split) <;> first | (exfalso; omega) | exact i3 j g1 (by omega) | (unfold tst bI; (repeat' split) <;> omega) | (rw [← i3 _ (by omega) (by omega)] at *; omega) | omega)
                      · rw [hq1, ev_s _ _ i1.1, ← hst, ← i2]
                        (repeat' split) <;> first | (exfalso; omega) | exact i4 | exact i5 | (dsimp only; omega) | dsimp only
                      · rw [hq1, ev_s _ _ i1.1, ← hst, ← i2]
                        (repeat' split) <;> first | (exfalso; omega) | exact i4 | exact i5 | (dsimp only; omega) | dsimp only
                      · omega
                    · refine w_iload (pc := 233) hC dX12_isLet_233 2 rfl ?_
                      refine w_bipush (pc := 235) hC dX12_isLet_235 (z := (-5)) rfl ?_
                      refine w_icmp_ne (pc := 237) (tgt := 253) hC dX12_isLet_237 (by decide) (by omega) (fun c237 => ?_) (fun c237 => ?_)
                      · refine w_iconst (pc := 253) hC dX12_isLet_253 ?_
                        refine w_istore_n (pc := 254) hC dX12_isLet_254 rfl (lv2 := [(3, .int (J 0)), (2, .int (J 1)), (4, .int (J 0)), (6, .int (J ((I 1) q))), (0, .ref (A 0)), (1, .int (J c)), (5, .int (J q))]) (by rw [hnL]; decide) rfl ?_
                        refine w_goto (pc := 255) hC dX12_isLet_255 (tgt := 334) (by decide) ?_
                        refine w_iinc (pc := 334) hC dX12_isLet_334 (lv2 := [(5, .int (J (q + 1))), (3, .int (J 0)), (2, .int (J 1)), (4, .int (J 0)), (6, .int (J ((I 1) q))), (0, .ref (A 0)), (1, .int (J c))]) 6 rfl (by rw [hnL]; decide) rfl ?_
                        refine w_goto (pc := 337) hC dX12_isLet_337 (tgt := 18) (by decide) ?_
                        refine w_sub [5, 6, 2, 1, 3, 0] (lv2 := [(0, .ref (A 0)), (1, .int (J c)), (2, .int (J 1)), (3, .int (J 0)), (4, .int (J 0)), (5, .int (J (q + 1)))]) rfl ?_
                        refine ih18 1 0 0 (q + 1) a3_18 ?_ ?_ ?_ ?_ ?_ ?_
                        · first | assumption | omega
                        · rw [hq1, dpt_s _ i1.1, ← hst]; (repeat' split) <;> omega
                        · intro j g1 g2
                          rw [hq1, ev_s _ _ i1.1, ← hst, ← i2]
                          (first | subst h144 | subst h182 | subst h333 | skip)
                          (repeat' split) <;> first | (exfalso; omega) | exact i3 j g1 (by omega) | (dsimp only; unfold gu; (repeat' split) <;> first | (exfalso; omega) | exact i3 j g1 (by omega) | (unfold tst bI; (repeat' split) <;> omega) | (rw [← i3 _ (by omega) (by omega)] at *; omega) | omega)
                        · rw [hq1, ev_s _ _ i1.1, ← hst, ← i2]
                          (repeat' split) <;> first | (exfalso; omega) | exact i4 | exact i5 | (dsimp only; omega) | dsimp only
                        · rw [hq1, ev_s _ _ i1.1, ← hst, ← i2]
                          (repeat' split) <;> first | (exfalso; omega) | exact i4 | exact i5 | (dsimp only; omega) | dsimp only
                        · omega
                      · refine w_aload_n (pc := 240) hC dX12_isLet_240 3 rfl rfl ?_
                        refine w_getf (pc := 241) (v := .ref (A 3)) hC dX12_isLet_241 fi_X12_18 0 rfl rfl ?_
                        refine w_iconst (pc := 244) hC dX12_isLet_244 ?_
                        have ht0 := he.1 0
                        rw [← z0] at ht0
                        refine w_zald (pc := 245) (g := a3_18) hC dX12_isLet_245 3 rfl (by omega) (Nat.le_of_ble_eq_true rfl) ?_
                        refine w_if_eq (pc := 246) (tgt := 253) hC dX12_isLet_246 (by decide) (by omega) (fun c246 => ?_) (fun c246 => ?_)
                        · refine w_iconst (pc := 253) hC dX12_isLet_253 ?_
                          refine w_istore_n (pc := 254) hC dX12_isLet_254 rfl (lv2 := [(3, .int (J 0)), (2, .int (J 1)), (4, .int (J 0)), (6, .int (J ((I 1) q))), (0, .ref (A 0)), (1, .int (J c)), (5, .int (J q))]) (by rw [hnL]; decide) rfl ?_
                          refine w_goto (pc := 255) hC dX12_isLet_255 (tgt := 334) (by decide) ?_
                          refine w_iinc (pc := 334) hC dX12_isLet_334 (lv2 := [(5, .int (J (q + 1))), (3, .int (J 0)), (2, .int (J 1)), (4, .int (J 0)), (6, .int (J ((I 1) q))), (0, .ref (A 0)), (1, .int (J c))]) 6 rfl (by rw [hnL]; decide) rfl ?_
                          refine w_goto (pc := 337) hC dX12_isLet_337 (tgt := 18) (by decide) ?_
                          refine w_sub [5, 6, 2, 1, 3, 0] (lv2 := [(0, .ref (A 0)), (1, .int (J c)), (2, .int (J 1)), (3, .int (J 0)), (4, .int (J 0)), (5, .int (J (q + 1)))]) rfl ?_
                          refine ih18 1 0 0 (q + 1) a3_18 ?_ ?_ ?_ ?_ ?_ ?_
                          · first | assumption | omega
                          · rw [hq1, dpt_s _ i1.1, ← hst]; (repeat' split) <;> omega
                          · intro j g1 g2
                            rw [hq1, ev_s _ _ i1.1, ← hst, ← i2]
                            (first | subst h144 | subst h182 | subst h333 | skip)
                            (repeat' split) <;> first | (exfalso; omega) | exact i3 j g1 (by omega) | (dsimp only; unfold gu; (repeat' split) <;> first | (exfalso; omega) | exact i3 j g1 (by omega) | (unfold tst bI; (repeat' split) <;> omega) | (rw [← i3 _ (by omega) (by omega)] at *; omega) | omega)
                          · rw [hq1, ev_s _ _ i1.1, ← hst, ← i2]
                            (repeat' split) <;> first | (exfalso; omega) | exact i4 | exact i5 | (dsimp only; omega) | dsimp only
                          · rw [hq1, ev_s _ _ i1.1, ← hst, ← i2]
                            (repeat' split) <;> first | (exfalso; omega) | exact i4 | exact i5 | (dsimp only; omega) | dsimp only
                          · omega
                        · refine w_iconst (pc := 249) hC dX12_isLet_249 ?_
                          refine w_goto (pc := 250) hC dX12_isLet_250 (tgt := 254) (by decide) ?_
                          refine w_istore_n (pc := 254) hC dX12_isLet_254 rfl (lv2 := [(3, .int (J 1)), (2, .int (J 1)), (4, .int (J 0)), (6, .int (J ((I 1) q))), (0, .ref (A 0)), (1, .int (J c)), (5, .int (J q))]) (by rw [hnL]; decide) rfl ?_
                          refine w_goto (pc := 255) hC dX12_isLet_255 (tgt := 334) (by decide) ?_
                          refine w_iinc (pc := 334) hC dX12_isLet_334 (lv2 := [(5, .int (J (q + 1))), (3, .int (J 1)), (2, .int (J 1)), (4, .int (J 0)), (6, .int (J ((I 1) q))), (0, .ref (A 0)), (1, .int (J c))]) 6 rfl (by rw [hnL]; decide) rfl ?_
                          refine w_goto (pc := 337) hC dX12_isLet_337 (tgt := 18) (by decide) ?_
                          refine w_sub [5, 6, 2, 1, 3, 0] (lv2 := [(0, .ref (A 0)), (1, .int (J c)), (2, .int (J 1)), (3, .int (J 1)), (4, .int (J 0)), (5, .int (J (q + 1)))]) rfl ?_
                          refine ih18 1 1 0 (q + 1) a3_18 ?_ ?_ ?_ ?_ ?_ ?_
                          · first | assumption | omega
                          · rw [hq1, dpt_s _ i1.1, ← hst]; (repeat' split) <;> omega
                          · intro j g1 g2
                            rw [hq1, ev_s _ _ i1.1, ← hst, ← i2]
                            (first | subst h144 | subst h182 | subst h333 | skip)
                            (repeat' split) <;> first | (exfalso; omega) | exact i3 j g1 (by omega) | (dsimp only; unfold gu; (repeat' split) <;> first | (exfalso; omega) | exact i3 j g1 (by omega) | (unfold tst bI; (repeat' split) <;> omega) | (rw [← i3 _ (by omega) (by omega)] at *; omega) | omega)
                          · rw [hq1, ev_s _ _ i1.1, ← hst, ← i2]
                            (repeat' split) <;> first | (exfalso; omega) | exact i4 | exact i5 | (dsimp only; omega) | dsimp only
                          · rw [hq1, ev_s _ _ i1.1, ← hst, ← i2]
                            (repeat' split) <;> first | (exfalso; omega) | exact i4 | exact i5 | (dsimp only; omega) | dsimp only
                          · omega
            · refine w_iload (pc := 193) hC dX12_isLet_193 0 rfl ?_
              refine w_bipush (pc := 195) hC dX12_isLet_195 (z := (-5)) rfl ?_
              refine w_icmp_ne (pc := 197) (tgt := 258) hC dX12_isLet_197 (by decide) (by omega) (fun c197 => ?_) (fun c197 => ?_)
              · refine w_iinc (pc := 258) hC dX12_isLet_258 (lv2 := [(4, .int (J (top + (-1)))), (6, .int (J ((I 1) q))), (0, .ref (A 0)), (1, .int (J c)), (2, .int (J shy)), (3, .int (J bold)), (5, .int (J q))]) 5 rfl (by rw [hnL]; decide) rfl ?_
                refine w_aload_n (pc := 261) hC dX12_isLet_261 2 rfl rfl ?_
                refine w_getf (pc := 262) (v := .ref (A 3)) hC dX12_isLet_262 fi_X12_18 0 rfl rfl ?_
                refine w_iload (pc := 265) hC dX12_isLet_265 0 rfl ?_
                refine w_iconst (pc := 267) hC dX12_isLet_267 ?_
                refine w_isub (pc := 268) hC dX12_isLet_268 ?_
                refine w_iload (pc := 269) hC dX12_isLet_269 1 rfl ?_
                refine w_bipush (pc := 271) hC dX12_isLet_271 (z := (-2)) rfl ?_
                refine w_icmp_ne (pc := 273) (tgt := 306) hC dX12_isLet_273 (by decide) (by omega) (fun c273 => ?_) (fun c273 => ?_)
                · refine w_aload_n (pc := 306) hC dX12_isLet_306 2 rfl rfl ?_
                  refine w_getf (pc := 307) (v := .ref (A 3)) hC dX12_isLet_307 fi_X12_18 0 rfl rfl ?_
                  refine w_iload (pc := 310) hC dX12_isLet_310 0 rfl ?_
                  refine w_iconst (pc := 312) hC dX12_isLet_312 ?_
                  refine w_isub (pc := 313) hC dX12_isLet_313 ?_
                  have z2 := i3 (top - 2) (by omega) (by omega)
                  have z1 := i3 (top - 1) (by omega) (by omega)
                  have ht1 := he.1 (top - 2)
                  have ht2 := he.1 (top - 1)
                  rw [← z2] at ht1
                  rw [← z1] at ht2
                  refine w_zald (pc := 314) (g := a3_18) hC dX12_isLet_314 3 rfl (by omega) (Nat.le_of_ble_eq_true rfl) ?_
                  refine w_top (e2 := a3_18 (top - 2)) (by first | (congr 1; omega) | congr 1) ?_
                  refine w_if_ne (pc := 315) (tgt := 328) hC dX12_isLet_315 (by decide) (by omega) (fun c315 => ?_) (fun c315 => ?_)
                  · refine w_iconst (pc := 328) hC dX12_isLet_328 ?_
                    refine w_goto (pc := 329) hC dX12_isLet_329 (tgt := 333) (by decide) ?_
                    refine w_zast (pc := 333) (g := a3_18) (w2 := MW A G.2.1 (au I 3 (gu a3_18 ((top + (-1)) - 1) 1)) F) hC dX12_isLet_333 3 rfl (by omega) (Nat.le_of_ble_eq_true rfl) (rfl) rfl ?_
                    generalize h333 : gu a3_18 ((top + (-1)) - 1) 1 = s333
                    refine w_iinc (pc := 334) hC dX12_isLet_334 (lv2 := [(5, .int (J (q + 1))), (4, .int (J (top + (-1)))), (6, .int (J ((I 1) q))), (0, .ref (A 0)), (1, .int (J c)), (2, .int (J shy)), (3, .int (J bold))]) 6 rfl (by rw [hnL]; decide) rfl ?_
                    refine w_goto (pc := 337) hC dX12_isLet_337 (tgt := 18) (by decide) ?_
                    refine w_sub [3, 4, 5, 6, 1, 0] (lv2 := [(0, .ref (A 0)), (1, .int (J c)), (2, .int (J shy)), (3, .int (J bold)), (4, .int (J (top + (-1)))), (5, .int (J (q + 1)))]) rfl ?_
                    refine ih18 shy bold (top + (-1)) (q + 1) s333 ?_ ?_ ?_ ?_ ?_ ?_
                    · first | assumption | omega
                    · rw [hq1, dpt_s _ i1.1, ← hst]; (repeat' split) <;> omega
                    · intro j g1 g2
                      rw [hq1, ev_s _ _ i1.1, ← hst, ← i2]
                      (first | subst h144 | subst h182 | subst h333 | skip)
                      (repeat' split) <;> first | (exfalso; omega) | exact i3 j g1 (by omega) | (dsimp only; unfold gu; (repeat' split) <;> first | (exfalso; omega) | exact i3 j g1 (by omega) | (unfold tst bI; (repeat' split) <;> omega) | (rw [← i3 _ (by omega) (by omega)] at *; omega) | omega)
                    · rw [hq1, ev_s _ _ i1.1, ← hst, ← i2]
                      (repeat' split) <;> first | (exfalso; omega) | exact i4 | exact i5 | (dsimp only; omega) | dsimp only
                    · rw [hq1, ev_s _ _ i1.1, ← hst, ← i2]
                      (repeat' split) <;> first | (exfalso; omega) | exact i4 | exact i5 | (dsimp only; omega) | dsimp only
                    · omega
                  · refine w_aload_n (pc := 318) hC dX12_isLet_318 2 rfl rfl ?_
                    refine w_getf (pc := 319) (v := .ref (A 3)) hC dX12_isLet_319 fi_X12_18 0 rfl rfl ?_
                    refine w_iload (pc := 322) hC dX12_isLet_322 0 rfl ?_
                    refine w_zald (pc := 324) (g := a3_18) hC dX12_isLet_324 3 rfl (by omega) (Nat.le_of_ble_eq_true rfl) ?_
                    refine w_top (e2 := a3_18 (top - 1)) (by first | (congr 1; omega) | congr 1) ?_
                    refine w_if_eq (pc := 325) (tgt := 332) hC dX12_isLet_325 (by decide) (by omega) (fun c325 => ?_) (fun c325 => ?_)
                    · refine w_iconst (pc := 332) hC dX12_isLet_332 ?_
                      refine w_zast (pc := 333) (g := a3_18) (w2 := MW A G.2.1 (au I 3 (gu a3_18 ((top + (-1)) - 1) 0)) F) hC dX12_isLet_333 3 rfl (by omega) (Nat.le_of_ble_eq_true rfl) (rfl) rfl ?_
                      generalize h333 : gu a3_18 ((top + (-1)) - 1) 0 = s333
                      refine w_iinc (pc := 334) hC dX12_isLet_334 (lv2 := [(5, .int (J (q + 1))), (4, .int (J (top + (-1)))), (6, .int (J ((I 1) q))), (0, .ref (A 0)), (1, .int (J c)), (2, .int (J shy)), (3, .int (J bold))]) 6 rfl (by rw [hnL]; decide) rfl ?_
                      refine w_goto (pc := 337) hC dX12_isLet_337 (tgt := 18) (by decide) ?_
                      refine w_sub [3, 4, 5, 6, 1, 0] (lv2 := [(0, .ref (A 0)), (1, .int (J c)), (2, .int (J shy)), (3, .int (J bold)), (4, .int (J (top + (-1)))), (5, .int (J (q + 1)))]) rfl ?_
                      refine ih18 shy bold (top + (-1)) (q + 1) s333 ?_ ?_ ?_ ?_ ?_ ?_
                      · first | assumption | omega
                      · rw [hq1, dpt_s _ i1.1, ← hst]; (repeat' split) <;> omega
                      · intro j g1 g2
                        rw [hq1, ev_s _ _ i1.1, ← hst, ← i2]
                        (first | subst h144 | subst h182 | subst h333 | skip)
                        (repeat' split) <;> first | (exfalso; omega) | exact i3 j g1 (by omega) | (dsimp only; unfold gu; (repeat' split) <;> first | (exfalso; omega) | exact i3 j g1 (by omega) | (unfold tst bI; (repeat' split) <;> omega) | (rw [← i3 _ (by omega) (by omega)] at *; omega) | omega)
                      · rw [hq1, ev_s _ _ i1.1, ← hst, ← i2]
                        (repeat' split) <;> first | (exfalso; omega) | exact i4 | exact i5 | (dsimp only; omega) | dsimp only
                      · rw [hq1, ev_s _ _ i1.1, ← hst, ← i2]
                        (repeat' split) <;> first | (exfalso; omega) | exact i4 | exact i5 | (dsimp only; omega) | dsimp only
                      · omega
                    · refine w_iconst (pc := 328) hC dX12_isLet_328 ?_
                      refine w_goto (pc := 329) hC dX12_isLet_329 (tgt := 333) (by decide) ?_
                      refine w_zast (pc := 333) (g := a3_18) (w2 := MW A G.2.1 (au I 3 (gu a3_18 ((top + (-1)) - 1) 1)) F) hC dX12_isLet_333 3 rfl (by omega) (Nat.le_of_ble_eq_true rfl) (rfl) rfl ?_
                      generalize h333 : gu a3_18 ((top + (-1)) - 1) 1 = s333
                      refine w_iinc (pc := 334) hC dX12_isLet_334 (lv2 := [(5, .int (J (q + 1))), (4, .int (J (top + (-1)))), (6, .int (J ((I 1) q))), (0, .ref (A 0)), (1, .int (J c)), (2, .int (J shy)), (3, .int (J bold))]) 6 rfl (by rw [hnL]; decide) rfl ?_
                      refine w_goto (pc := 337) hC dX12_isLet_337 (tgt := 18) (by decide) ?_
                      refine w_sub [3, 4, 5, 6, 1, 0] (lv2 := [(0, .ref (A 0)), (1, .int (J c)), (2, .int (J shy)), (3, .int (J bold)), (4, .int (J (top + (-1)))), (5, .int (J (q + 1)))]) rfl ?_
                      refine ih18 shy bold (top + (-1)) (q + 1) s333 ?_ ?_ ?_ ?_ ?_ ?_
                      · first | assumption | omega
                      · rw [hq1, dpt_s _ i1.1, ← hst]; (repeat' split) <;> omega
                      · intro j g1 g2
                        rw [hq1, ev_s _ _ i1.1, ← hst, ← i2]
                        (first | subst h144 | subst h182 | subst h333 | skip)
                        (repeat' split) <;> first | (exfalso; omega) | exact i3 j g1 (by omega) | (dsimp only; unfold gu; (repeat' split) <;> first | (exfalso; omega) | exact i3 j g1 (by omega) | (unfold tst bI; (repeat' split) <;> omega) | (rw [← i3 _ (by omega) (by omega)] at *; omega) | omega)
                      · rw [hq1, ev_s _ _ i1.1, ← hst, ← i2]
                        (repeat' split) <;> first | (exfalso; omega) | exact i4 | exact i5 | (dsimp only; omega) | dsimp only
                      · rw [hq1, ev_s _ _ i1.1, ← hst, ← i2]
                        (repeat' split) <;> first | (exfalso; omega) | exact i4 | exact i5 | (dsimp only; omega) | dsimp only
                      · omega
                · refine w_aload_n (pc := 276) hC dX12_isLet_276 2 rfl rfl ?_
                  refine w_getf (pc := 277) (v := .ref (A 3)) hC dX12_isLet_277 fi_X12_18 0 rfl rfl ?_
                  refine w_iload (pc := 280) hC dX12_isLet_280 0 rfl ?_
                  refine w_iconst (pc := 282) hC dX12_isLet_282 ?_
                  refine w_isub (pc := 283) hC dX12_isLet_283 ?_
                  have z2 := i3 (top - 2) (by omega) (by omega)
                  have z1 := i3 (top - 1) (by omega) (by omega)
                  have ht1 := he.1 (top - 2)
                  have ht2 := he.1 (top - 1)
                  rw [← z2] at ht1
                  rw [← z1] at ht2
                  refine w_zald (pc := 284) (g := a3_18) hC dX12_isLet_284 3 rfl (by omega) (Nat.le_of_ble_eq_true rfl) ?_
                  refine w_top (e2 := a3_18 (top - 2)) (by first | (congr 1; omega) | congr 1) ?_
                  refine w_if_eq (pc := 285) (tgt := 302) hC dX12_isLet_285 (by decide) (by omega) (fun c285 => ?_) (fun c285 => ?_)
                  · refine w_iconst (pc := 302) hC dX12_isLet_302 ?_
                    refine w_goto (pc := 303) hC dX12_isLet_303 (tgt := 333) (by decide) ?_
                    refine w_zast (pc := 333) (g := a3_18) (w2 := MW A G.2.1 (au I 3 (gu a3_18 ((top + (-1)) - 1) 0)) F) hC dX12_isLet_333 3 rfl (by omega) (Nat.le_of_ble_eq_true rfl) (rfl) rfl ?_
                    generalize h333 : gu a3_18 ((top + (-1)) - 1) 0 = s333
                    refine w_iinc (pc := 334) hC dX12_isLet_334 (lv2 := [(5, .int (J (q + 1))), (4, .int (J (top + (-1)))), (6, .int (J ((I 1) q))), (0, .ref (A 0)), (1, .int (J c)), (2, .int (J shy)), (3, .int (J bold))]) 6 rfl (by rw [hnL]; decide) rfl ?_
                    refine w_goto (pc := 337) hC dX12_isLet_337 (tgt := 18) (by decide) ?_
                    refine w_sub [3, 4, 5, 6, 1, 0] (lv2 := [(0, .ref (A 0)), (1, .int (J c)), (2, .int (J shy)), (3, .int (J bold)), (4, .int (J (top + (-1)))), (5, .int (J (q + 1)))]) rfl ?_
                    refine ih18 shy bold (top + (-1)) (q + 1) s333 ?_ ?_ ?_ ?_ ?_ ?_
                    · first | assumption | omega
                    · rw [hq1, dpt_s _ i1.1, ← hst]; (repeat' split) <;> omega
                    · intro j g1 g2
                      rw [hq1, ev_s _ _ i1.1, ← hst, ← i2]
                      (first | subst h144 | subst h182 | subst h333 | skip)
                      (repeat' split) <;> first | (exfalso; omega) | exact i3 j g1 (by omega) | (dsimp only; unfold gu; (repeat' split) <;> first | (exfalso; omega) | exact i3 j g1 (by omega) | (unfold tst bI; (repeat' split) <;> omega) | (rw [← i3 _ (by omega) (by omega)] at *; omega) | omega)
                    · rw [hq1, ev_s _ _ i1.1, ← hst, ← i2]
                      (repeat' split) <;> first | (exfalso; omega) | exact i4 | exact i5 | (dsimp only; omega) | dsimp only
                    · rw [hq1, ev_s _ _ i1.1, ← hst, ← i2]
                      (repeat' split) <;> first | (exfalso; omega) | exact i4 | exact i5 | (dsimp only; omega) | dsimp only
                    · omega
                  · refine w_aload_n (pc := 288) hC dX12_isLet_288 2 rfl rfl ?_
                    refine w_getf (pc := 289) (v := .ref (A 3)) hC dX12_isLet_289 fi_X12_18 0 rfl rfl ?_
                    refine w_iload (pc := 292) hC dX12_isLet_292 0 rfl ?_
                    refine w_zald (pc := 294) (g := a3_18) hC dX12_isLet_294 3 rfl (by omega) (Nat.le_of_ble_eq_true rfl) ?_
                    refine w_top (e2 := a3_18 (top - 1)) (by first | (congr 1; omega) | congr 1) ?_
                    refine w_if_eq (pc := 295) (tgt := 302) hC dX12_isLet_295 (by decide) (by omega) (fun c295 => ?_) (fun c295 => ?_)
                    · refine w_iconst (pc := 302) hC dX12_isLet_302 ?_
                      refine w_goto (pc := 303) hC dX12_isLet_303 (tgt := 333) (by decide) ?_
                      refine w_zast (pc := 333) (g := a3_18) (w2 := MW A G.2.1 (au I 3 (gu a3_18 ((top + (-1)) - 1) 0)) F) hC dX12_isLet_333 3 rfl (by omega) (Nat.le_of_ble_eq_true rfl) (rfl) rfl ?_
                      generalize h333 : gu a3_18 ((top + (-1)) - 1) 0 = s333
                      refine w_iinc (pc := 334) hC dX12_isLet_334 (lv2 := [(5, .int (J (q + 1))), (4, .int (J (top + (-1)))), (6, .int (J ((I 1) q))), (0, .ref (A 0)), (1, .int (J c)), (2, .int (J shy)), (3, .int (J bold))]) 6 rfl (by rw [hnL]; decide) rfl ?_
                      refine w_goto (pc := 337) hC dX12_isLet_337 (tgt := 18) (by decide) ?_
                      refine w_sub [3, 4, 5, 6, 1, 0] (lv2 := [(0, .ref (A 0)), (1, .int (J c)), (2, .int (J shy)), (3, .int (J bold)), (4, .int (J (top + (-1)))), (5, .int (J (q + 1)))]) rfl ?_
                      refine ih18 shy bold (top + (-1)) (q + 1) s333 ?_ ?_ ?_ ?_ ?_ ?_
                      · first | assumption | omega
                      · rw [hq1, dpt_s _ i1.1, ← hst]; (repeat' split) <;> omega
                      · intro j g1 g2
                        rw [hq1, ev_s _ _ i1.1, ← hst, ← i2]
                        (first | subst h144 | subst h182 | subst h333 | skip)
                        (repeat' split) <;> first | (exfalso; omega) | exact i3 j g1 (by omega) | (dsimp only; unfold gu; (repeat' split) <;> first | (exfalso; omega) | exact i3 j g1 (by omega) | (unfold tst bI; (repeat' split) <;> omega) | (rw [← i3 _ (by omega) (by omega)] at *; omega) | omega)
                      · rw [hq1, ev_s _ _ i1.1, ← hst, ← i2]
                        (repeat' split) <;> first | (exfalso; omega) | exact i4 | exact i5 | (dsimp only; omega) | dsimp only
                      · rw [hq1, ev_s _ _ i1.1, ← hst, ← i2]
                        (repeat' split) <;> first | (exfalso; omega) | exact i4 | exact i5 | (dsimp only; omega) | dsimp only
                      · omega
                    · refine w_iconst (pc := 298) hC dX12_isLet_298 ?_
                      refine w_goto (pc := 299) hC dX12_isLet_299 (tgt := 333) (by decide) ?_
                      refine w_zast (pc := 333) (g := a3_18) (w2 := MW A G.2.1 (au I 3 (gu a3_18 ((top + (-1)) - 1) 1)) F) hC dX12_isLet_333 3 rfl (by omega) (Nat.le_of_ble_eq_true rfl) (rfl) rfl ?_
                      generalize h333 : gu a3_18 ((top + (-1)) - 1) 1 = s333
                      refine w_iinc (pc := 334) hC dX12_isLet_334 (lv2 := [(5, .int (J (q + 1))), (4, .int (J (top + (-1)))), (6, .int (J ((I 1) q))), (0, .ref (A 0)), (1, .int (J c)), (2, .int (J shy)), (3, .int (J bold))]) 6 rfl (by rw [hnL]; decide) rfl ?_
                      refine w_goto (pc := 337) hC dX12_isLet_337 (tgt := 18) (by decide) ?_
                      refine w_sub [3, 4, 5, 6, 1, 0] (lv2 := [(0, .ref (A 0)), (1, .int (J c)), (2, .int (J shy)), (3, .int (J bold)), (4, .int (J (top + (-1)))), (5, .int (J (q + 1)))]) rfl ?_
                      refine ih18 shy bold (top + (-1)) (q + 1) s333 ?_ ?_ ?_ ?_ ?_ ?_
                      · first | assumption | omega
                      · rw [hq1, dpt_s _ i1.1, ← hst]; (repeat' split) <;> omega
                      · intro j g1 g2
                        rw [hq1, ev_s _ _ i1.1, ← hst, ← i2]
                        (first | subst h144 | subst h182 | subst h333 | skip)
                        (repeat' split) <;> first | (exfalso; omega) | exact i3 j g1 (by omega) | (dsimp only; unfold gu; (repeat' split) <;> first | (exfalso; omega) | exact i3 j g1 (by omega) | (unfold tst bI; (repeat' split) <;> omega) | (rw [← i3 _ (by omega) (by omega)] at *; omega) | omega)
                      · rw [hq1, ev_s _ _ i1.1, ← hst, ← i2]
                        (repeat' split) <;> first | (exfalso; omega) | exact i4 | exact i5 | (dsimp only; omega) | dsimp only
                      · rw [hq1, ev_s _ _ i1.1, ← hst, ← i2]
                        (repeat' split) <;> first | (exfalso; omega) | exact i4 | exact i5 | (dsimp only; omega) | dsimp only
                      · omega
              · have z0 := i3 0 (by omega) (by omega)
                refine w_iconst (pc := 200) hC dX12_isLet_200 ?_
                refine w_istore (pc := 201) hC dX12_isLet_201 (lv2 := [(4, .int (J 0)), (6, .int (J ((I 1) q))), (0, .ref (A 0)), (1, .int (J c)), (2, .int (J shy)), (3, .int (J bold)), (5, .int (J q))]) (by rw [hnL]; decide) rfl ?_
                refine w_iload_n (pc := 203) hC dX12_isLet_203 4 rfl rfl ?_
                refine w_if_ne (pc := 204) (tgt := 223) hC dX12_isLet_204 (by decide) (by omega) (fun c204 => ?_) (fun c204 => ?_)
                · refine w_iconst (pc := 223) hC dX12_isLet_223 ?_
                  refine w_goto (pc := 224) hC dX12_isLet_224 (tgt := 228) (by decide) ?_
                  refine w_istore_n (pc := 228) hC dX12_isLet_228 rfl (lv2 := [(2, .int (J 1)), (4, .int (J 0)), (6, .int (J ((I 1) q))), (0, .ref (A 0)), (1, .int (J c)), (3, .int (J bold)), (5, .int (J q))]) (by rw [hnL]; decide) rfl ?_
                  refine w_iload_n (pc := 229) hC dX12_isLet_229 5 rfl rfl ?_
                  refine w_if_ne (pc := 230) (tgt := 249) hC dX12_isLet_230 (by decide) (by omega) (fun c230 => ?_) (fun c230 => ?_)
                  · refine w_iconst (pc := 249) hC dX12_isLet_249 ?_
                    refine w_goto (pc := 250) hC dX12_isLet_250 (tgt := 254) (by decide) ?_
                    refine w_istore_n (pc := 254) hC dX12_isLet_254 rfl (lv2 := [(3, .int (J 1)), (2, .int (J 1)), (4, .int (J 0)), (6, .int (J ((I 1) q))), (0, .ref (A 0)), (1, .int (J c)), (5, .int (J q))]) (by rw [hnL]; decide) rfl ?_
                    refine w_goto (pc := 255) hC dX12_isLet_255 (tgt := 334) (by decide) ?_
                    refine w_iinc (pc := 334) hC dX12_isLet_334 (lv2 := [(5, .int (J (q + 1))), (3, .int (J 1)), (2, .int (J 1)), (4, .int (J 0)), (6, .int (J ((I 1) q))), (0, .ref (A 0)), (1, .int (J c))]) 6 rfl (by rw [hnL]; decide) rfl ?_
                    refine w_goto (pc := 337) hC dX12_isLet_337 (tgt := 18) (by decide) ?_
                    refine w_sub [5, 6, 2, 1, 3, 0] (lv2 := [(0, .ref (A 0)), (1, .int (J c)), (2, .int (J 1)), (3, .int (J 1)), (4, .int (J 0)), (5, .int (J (q + 1)))]) rfl ?_
                    refine ih18 1 1 0 (q + 1) a3_18 ?_ ?_ ?_ ?_ ?_ ?_
                    · first | assumption | omega
                    · rw [hq1, dpt_s _ i1.1, ← hst]; (repeat' split) <;> omega
                    · intro j g1 g2
                      rw [hq1, ev_s _ _ i1.1, ← hst, ← i2]
                      (first | subst h144 | subst h182 | subst h333 | skip)
                      (repeat' split) <;> first | (exfalso; omega) | exact i3 j g1 (by omega) | (dsimp only; unfold gu; (repeat' split) <;> first | (exfalso; omega) | exact i3 j g1 (by omega) | (unfold tst bI; (repeat' split) <;> omega) | (rw [← i3 _ (by omega) (by omega)] at *; omega) | omega)
                    · rw [hq1, ev_s _ _ i1.1, ← hst, ← i2]
                      (repeat' split) <;> first | (exfalso; omega) | exact i4 | exact i5 | (dsimp only; omega) | dsimp only
                    · rw [hq1, ev_s _ _ i1.1, ← hst, ← i2]
                      (repeat' split) <;> first | (exfalso; omega) | exact i4 | exact i5 | (dsimp only; omega) | dsimp only
                    · omega
                  · refine w_iload (pc := 233) hC dX12_isLet_233 2 rfl ?_
                    refine w_bipush (pc := 235) hC dX12_isLet_235 (z := (-5)) rfl ?_
                    refine w_icmp_ne (pc := 237) (tgt := 253) hC dX12_isLet_237 (by decide) (by omega) (fun c237 => ?_) (fun c237 => ?_)
                    · refine w_iconst (pc := 253) hC dX12_isLet_253 ?_
                      refine w_istore_n (pc := 254) hC dX12_isLet_254 rfl (lv2 := [(3, .int (J 0)), (2, .int (J 1)), (4, .int (J 0)), (6, .int (J ((I 1) q))), (0, .ref (A 0)), (1, .int (J c)), (5, .int (J q))]) (by rw [hnL]; decide) rfl ?_
                      refine w_goto (pc := 255) hC dX12_isLet_255 (tgt := 334) (by decide) ?_
                      refine w_iinc (pc := 334) hC dX12_isLet_334 (lv2 := [(5, .int (J (q + 1))), (3, .int (J 0)), (2, .int (J 1)), (4, .int (J 0)), (6, .int (J ((I 1) q))), (0, .ref (A 0)), (1, .int (J c))]) 6 rfl (by rw [hnL]; decide) rfl ?_
                      refine w_goto (pc := 337) hC dX12_isLet_337 (tgt := 18) (by decide) ?_
                      refine w_sub [5, 6, 2, 1, 3, 0] (lv2 := [(0, .ref (A 0)), (1, .int (J c)), (2, .int (J 1)), (3, .int (J 0)), (4, .int (J 0)), (5, .int (J (q + 1)))]) rfl ?_
                      refine ih18 1 0 0 (q + 1) a3_18 ?_ ?_ ?_ ?_ ?_ ?_
                      · first | assumption | omega
                      · rw [hq1, dpt_s _ i1.1, ← hst]; (repeat' split) <;> omega
                      · intro j g1 g2
                        rw [hq1, ev_s _ _ i1.1, ← hst, ← i2]
                        (first | subst h144 | subst h182 | subst h333 | skip)
                        (repeat' split) <;> first | (exfalso; omega) | exact i3 j g1 (by omega) | (dsimp only; unfold gu; (repeat' split) <;> first | (exfalso; omega) | exact i3 j g1 (by omega) | (unfold tst bI; (repeat' split) <;> omega) | (rw [← i3 _ (by omega) (by omega)] at *; omega) | omega)
                      · rw [hq1, ev_s _ _ i1.1, ← hst, ← i2]
                        (repeat' split) <;> first | (exfalso; omega) | exact i4 | exact i5 | (dsimp only; omega) | dsimp only
                      · rw [hq1, ev_s _ _ i1.1, ← hst, ← i2]
                        (repeat' split) <;> first | (exfalso; omega) | exact i4 | exact i5 | (dsimp only; omega) | dsimp only
                      · omega
                    · refine w_aload_n (pc := 240) hC dX12_isLet_240 3 rfl rfl ?_
                      refine w_getf (pc := 241) (v := .ref (A 3)) hC dX12_isLet_241 fi_X12_18 0 rfl rfl ?_
                      refine w_iconst (pc := 244) hC dX12_isLet_244 ?_
                      have ht0 := he.1 0
                      rw [← z0] at ht0
                      refine w_zald (pc := 245) (g := a3_18) hC dX12_isLet_245 3 rfl (by omega) (Nat.le_of_ble_eq_true rfl) ?_
                      refine w_if_eq (pc := 246) (tgt := 253) hC dX12_isLet_246 (by decide) (by omega) (fun c246 => ?_) (fun c246 => ?_)
                      · refine w_iconst (pc := 253) hC dX12_isLet_253 ?_
                        refine w_istore_n (pc := 254) hC dX12_isLet_254 rfl (lv2 := [(3, .int (J 0)), (2, .int (J 1)), (4, .int (J 0)), (6, .int (J ((I 1) q))), (0, .ref (A 0)), (1, .int (J c)), (5, .int (J q))]) (by rw [hnL]; decide) rfl ?_
                        refine w_goto (pc := 255) hC dX12_isLet_255 (tgt := 334) (by decide) ?_
                        refine w_iinc (pc := 334) hC dX12_isLet_334 (lv2 := [(5, .int (J (q + 1))), (3, .int (J 0)), (2, .int (J 1)), (4, .int (J 0)), (6, .int (J ((I 1) q))), (0, .ref (A 0)), (1, .int (J c))]) 6 rfl (by rw [hnL]; decide) rfl ?_
                        refine w_goto (pc := 337) hC dX12_isLet_337 (tgt := 18) (by decide) ?_
                        refine w_sub [5, 6, 2, 1, 3, 0] (lv2 := [(0, .ref (A 0)), (1, .int (J c)), (2, .int (J 1)), (3, .int (J 0)), (4, .int (J 0)), (5, .int (J (q + 1)))]) rfl ?_
                        refine ih18 1 0 0 (q + 1) a3_18 ?_ ?_ ?_ ?_ ?_ ?_
                        · first | assumption | omega
                        · rw [hq1, dpt_s _ i1.1, ← hst]; (repeat' split) <;> omega
                        · intro j g1 g2
                          rw [hq1, ev_s _ _ i1.1, ← hst, ← i2]
                          (first | subst h144 | subst h182 | subst h333 | skip)
                          (repeat' split) <;> first | (exfalso; omega) | exact i3 j g1 (by omega) | (dsimp only; unfold gu; (repeat' split) <;> first | (exfalso; omega) | exact i3 j g1 (by omega) | (unfold tst bI; (repeat' split) <;> omega) | (rw [← i3 _ (by omega) (by omega)] at *; omega) | omega)
                        · rw [hq1, ev_s _ _ i1.1, ← hst, ← i2]
                          (repeat' split) <;> first | (exfalso; omega) | exact i4 | exact i5 | (dsimp only; omega) | dsimp only
                        · rw [hq1, ev_s _ _ i1.1, ← hst, ← i2]
                          (repeat' split) <;> first | (exfalso; omega) | exact i4 | exact i5 | (dsimp only; omega) | dsimp only
                        · omega
                      · refine w_iconst (pc := 249) hC dX12_isLet_249 ?_
                        refine w_goto (pc := 250) hC dX12_isLet_250 (tgt := 254) (by decide) ?_
                        refine w_istore_n (pc := 254) hC dX12_isLet_254 rfl (lv2 := [(3, .int (J 1)), (2, .int (J 1)), (4, .int (J 0)), (6, .int (J ((I 1) q))), (0, .ref (A 0)), (1, .int (J c)), (5, .int (J q))]) (by rw [hnL]; decide) rfl ?_
                        refine w_goto (pc := 255) hC dX12_isLet_255 (tgt := 334) (by decide) ?_
                        refine w_iinc (pc := 334) hC dX12_isLet_334 (lv2 := [(5, .int (J (q + 1))), (3, .int (J 1)), (2, .int (J 1)), (4, .int (J 0)), (6, .int (J ((I 1) q))), (0, .ref (A 0)), (1, .int (J c))]) 6 rfl (by rw [hnL]; decide) rfl ?_
                        refine w_goto (pc := 337) hC dX12_isLet_337 (tgt := 18) (by decide) ?_
                        refine w_sub [5, 6, 2, 1, 3, 0] (lv2 := [(0, .ref (A 0)), (1, .int (J c)), (2, .int (J 1)), (3, .int (J 1)), (4, .int (J 0)), (5, .int (J (q + 1)))]) rfl ?_
                        refine ih18 1 1 0 (q + 1) a3_18 ?_ ?_ ?_ ?_ ?_ ?_
                        · first | assumption | omega
                        · rw [hq1, dpt_s _ i1.1, ← hst]; (repeat' split) <;> omega
                        · intro j g1 g2
                          rw [hq1, ev_s _ _ i1.1, ← hst, ← i2]
                          (first | subst h144 | subst h182 | subst h333 | skip)
                          (repeat' split) <;> first | (exfalso; omega) | exact i3 j g1 (by omega) | (dsimp only; unfold gu; (repeat' split) <;> first | (exfalso; omega) | exact i3 j g1 (by omega) | (unfold tst bI; (repeat' split) <;> omega) | (rw [← i3 _ (by omega) (by omega)] at *; omega) | omega)
                        · rw [hq1, ev_s _ _ i1.1, ← hst, ← i2]
                          (repeat' split) <;> first | (exfalso; omega) | exact i4 | exact i5 | (dsimp only; omega) | dsimp only
                        · rw [hq1, ev_s _ _ i1.1, ← hst, ← i2]
                          (repeat' split) <;> first | (exfalso; omega) | exact i4 | exact i5 | (dsimp only; omega) | dsimp only
                        · omega
                · refine w_iload (pc := 207) hC dX12_isLet_207 1 rfl ?_
                  refine w_bipush (pc := 209) hC dX12_isLet_209 (z := (-4)) rfl ?_
                  refine w_icmp_ne (pc := 211) (tgt := 227) hC dX12_isLet_211 (by decide) (by omega) (fun c211 => ?_) (fun c211 => ?_)
                  · refine w_iconst (pc := 227) hC dX12_isLet_227 ?_
                    refine w_istore_n (pc := 228) hC dX12_isLet_228 rfl (lv2 := [(2, .int (J 0)), (4, .int (J 0)), (6, .int (J ((I 1) q))), (0, .ref (A 0)), (1, .int (J c)), (3, .int (J bold)), (5, .int (J q))]) (by rw [hnL]; decide) rfl ?_
                    refine w_iload_n (pc := 229) hC dX12_isLet_229 5 rfl rfl ?_
                    refine w_if_ne (pc := 230) (tgt := 249) hC dX12_isLet_230 (by decide) (by omega) (fun c230 => ?_) (fun c230 => ?_)
                    · refine w_iconst (pc := 249) hC dX12_isLet_249 ?_
                      refine w_goto (pc := 250) hC dX12_isLet_250 (tgt := 254) (by decide) ?_
                      refine w_istore_n (pc := 254) hC dX12_isLet_254 rfl (lv2 := [(3, .int (J 1)), (2, .int (J 0)), (4, .int (J 0)), (6, .int (J ((I 1) q))), (0, .ref (A 0)), (1, .int (J c)), (5, .int (J q))]) (by rw [hnL]; decide) rfl ?_
                      refine w_goto (pc := 255) hC dX12_isLet_255 (tgt := 334) (by decide) ?_
                      refine w_iinc (pc := 334) hC dX12_isLet_334 (lv2 := [(5, .int (J (q + 1))), (3, .int (J 1)), (2, .int (J 0)), (4, .int (J 0)), (6, .int (J ((I 1) q))), (0, .ref (A 0)), (1, .int (J c))]) 6 rfl (by rw [hnL]; decide) rfl ?_
                      refine w_goto (pc := 337) hC dX12_isLet_337 (tgt := 18) (by decide) ?_
                      refine w_sub [5, 6, 2, 1, 3, 0] (lv2 := [(0, .ref (A 0)), (1, .int (J c)), (2, .int (J 0)), (3, .int (J 1)), (4, .int (J 0)), (5, .int (J (q + 1)))]) rfl ?_
                      refine ih18 0 1 0 (q + 1) a3_18 ?_ ?_ ?_ ?_ ?_ ?_
                      · first | assumption | omega
                      · rw [hq1, dpt_s _ i1.1, ← hst]; (repeat' split) <;> omega
                      · intro j g1 g2
                        rw [hq1, ev_s _ _ i1.1, ← hst, ← i2]
                        (first | subst h144 | subst h182 | subst h333 | skip)
                        (repeat' split) <;> first | (exfalso; omega) | exact i3 j g1 (by omega) | (dsimp only; unfold gu; (repeat' split) <;> first | (exfalso; omega) | exact i3 j g1 (by omega) | (unfold tst bI; (repeat' split) <;> omega) | (rw [← i3 _ (by omega) (by omega)] at *; omega) | omega)
                      · rw [hq1, ev_s _ _ i1.1, ← hst, ← i2]
                        (repeat' split) <;> first | (exfalso; omega) | exact i4 | exact i5 | (dsimp only; omega) | dsimp only
                      · rw [hq1, ev_s _ _ i1.1, ← hst, ← i2]
                        (repeat' split) <;> first | (exfalso; omega) | exact i4 | exact i5 | (dsimp only; omega) | dsimp only
                      · omega
                    · refine w_iload (pc := 233) hC dX12_isLet_233 2 rfl ?_
                      refine w_bipush (pc := 235) hC dX12_isLet_235 (z := (-5)) rfl ?_
                      refine w_icmp_ne (pc := 237) (tgt := 253) hC dX12_isLet_237 (by decide) (by omega) (fun c237 => ?_) (fun c237 => ?_)
                      · refine w_iconst (pc := 253) hC dX12_isLet_253 ?_
                        refine w_istore_n (pc := 254) hC dX12_isLet_254 rfl (lv2 := [(3, .int (J 0)), (2, .int (J 0)), (4, .int (J 0)), (6, .int (J ((I 1) q))), (0, .ref (A 0)), (1, .int (J c)), (5, .int (J q))]) (by rw [hnL]; decide) rfl ?_
                        refine w_goto (pc := 255) hC dX12_isLet_255 (tgt := 334) (by decide) ?_
                        refine w_iinc (pc := 334) hC dX12_isLet_334 (lv2 := [(5, .int (J (q + 1))), (3, .int (J 0)), (2, .int (J 0)), (4, .int (J 0)), (6, .int (J ((I 1) q))), (0, .ref (A 0)), (1, .int (J c))]) 6 rfl (by rw [hnL]; decide) rfl ?_
                        refine w_goto (pc := 337) hC dX12_isLet_337 (tgt := 18) (by decide) ?_
                        refine w_sub [5, 6, 2, 1, 3, 0] (lv2 := [(0, .ref (A 0)), (1, .int (J c)), (2, .int (J 0)), (3, .int (J 0)), (4, .int (J 0)), (5, .int (J (q + 1)))]) rfl ?_
                        refine ih18 0 0 0 (q + 1) a3_18 ?_ ?_ ?_ ?_ ?_ ?_
                        · first | assumption | omega
                        · rw [hq1, dpt_s _ i1.1, ← hst]; (repeat' split) <;> omega
                        · intro j g1 g2
                          rw [hq1, ev_s _ _ i1.1, ← hst, ← i2]
                          (first | subst h144 | subst h182 | subst h333 | skip)
                          (repeat' split) <;> first | (exfalso; omega) | exact i3 j g1 (by omega) | (dsimp only; unfold gu; (repeat' split) <;> first | (exfalso; omega) | exact i3 j g1 (by omega) | (unfold tst bI; (repeat' split) <;> omega) | (rw [← i3 _ (by omega) (by omega)] at *; omega) | omega)
                        · rw [hq1, ev_s _ _ i1.1, ← hst, ← i2]
                          (repeat' split) <;> first | (exfalso; omega) | exact i4 | exact i5 | (dsimp only; omega) | dsimp only
                        · rw [hq1, ev_s _ _ i1.1, ← hst, ← i2]
                          (repeat' split) <;> first | (exfalso; omega) | exact i4 | exact i5 | (dsimp only; omega) | dsimp only
                        · omega
                      · refine w_aload_n (pc := 240) hC dX12_isLet_240 3 rfl rfl ?_
                        refine w_getf (pc := 241) (v := .ref (A 3)) hC dX12_isLet_241 fi_X12_18 0 rfl rfl ?_
                        refine w_iconst (pc := 244) hC dX12_isLet_244 ?_
                        have ht0 := he.1 0
                        rw [← z0] at ht0
                        refine w_zald (pc := 245) (g := a3_18) hC dX12_isLet_245 3 rfl (by omega) (Nat.le_of_ble_eq_true rfl) ?_
                        refine w_if_eq (pc := 246) (tgt := 253) hC dX12_isLet_246 (by decide) (by omega) (fun c246 => ?_) (fun c246 => ?_)
                        · refine w_iconst (pc := 253) hC dX12_isLet_253 ?_
                          refine w_istore_n (pc := 254) hC dX12_isLet_254 rfl (lv2 := [(3, .int (J 0)), (2, .int (J 0)), (4, .int (J 0)), (6, .int (J ((I 1) q))), (0, .ref (A 0)), (1, .int (J c)), (5, .int (J q))]) (by rw [hnL]; decide) rfl ?_
                          refine w_goto (pc := 255) hC dX12_isLet_255 (tgt := 334) (by decide) ?_
                          refine w_iinc (pc := 334) hC dX12_isLet_334 (lv2 := [(5, .int (J (q + 1))), (3, .int (J 0)), (2, .int (J 0)), (4, .int (J 0)), (6, .int (J ((I 1) q))), (0, .ref (A 0)), (1, .int (J c))]) 6 rfl (by rw [hnL]; decide) rfl ?_
                          refine w_goto (pc := 337) hC dX12_isLet_337 (tgt := 18) (by decide) ?_
                          refine w_sub [5, 6, 2, 1, 3, 0] (lv2 := [(0, .ref (A 0)), (1, .int (J c)), (2, .int (J 0)), (3, .int (J 0)), (4, .int (J 0)), (5, .int (J (q + 1)))]) rfl ?_
                          refine ih18 0 0 0 (q + 1) a3_18 ?_ ?_ ?_ ?_ ?_ ?_
                          · first | assumption | omega
                          · rw [hq1, dpt_s _ i1.1, ← hst]; (repeat' split) <;> omega
                          · intro j g1 g2
                            rw [hq1, ev_s _ _ i1.1, ← hst, ← i2]
                            (first | subst h144 | subst h182 | subst h333 | skip)
                            (repeat' split) <;> first | (exfalso; omega) | exact i3 j g1 (by omega) | (dsimp only; unfold gu; (repeat' split) <;> first | (exfalso; omega) | exact i3 j g1 (by omega) | (unfold tst bI; (repeat' split) <;> omega) | (rw [← i3 _ (by omega) (by omega)] at *; omega) | omega)
                          · rw [hq1, ev_s _ _ i1.1, ← hst, ← i2]
                            (repeat' split) <;> first | (exfalso; omega) | exact i4 | exact i5 | (dsimp only; omega) | dsimp only
                          · rw [hq1, ev_s _ _ i1.1, ← hst, ← i2]
                            (repeat' split) <;> first | (exfalso; omega) | exact i4 | exact i5 | (dsimp only; omega) | dsimp only
                          · omega
                        · refine w_iconst (pc := 249) hC dX12_isLet_249 ?_
                          refine w_goto (pc := 250) hC dX12_isLet_250 (tgt := 254) (by decide) ?_
                          refine w_istore_n (pc := 254) hC dX12_isLet_254 rfl (lv2 := [(3, .int (J 1)), (2, .int (J 0)), (4, .int (J 0)), (6, .int (J ((I 1) q))), (0, .ref (A 0)), (1, .int (J c)), (5, .int (J q))]) (by rw [hnL]; decide) rfl ?_
                          refine w_goto (pc := 255) hC dX12_isLet_255 (tgt := 334) (by decide) ?_
                          refine w_iinc (pc := 334) hC dX12_isLet_334 (lv2 := [(5, .int (J (q + 1))), (3, .int (J 1)), (2, .int (J 0)), (4, .int (J 0)), (6, .int (J ((I 1) q))), (0, .ref (A 0)), (1, .int (J c))]) 6 rfl (by rw [hnL]; decide) rfl ?_
                          refine w_goto (pc := 337) hC dX12_isLet_337 (tgt := 18) (by decide) ?_
                          refine w_sub [5, 6, 2, 1, 3, 0] (lv2 := [(0, .ref (A 0)), (1, .int (J c)), (2, .int (J 0)), (3, .int (J 1)), (4, .int (J 0)), (5, .int (J (q + 1)))]) rfl ?_
                          refine ih18 0 1 0 (q + 1) a3_18 ?_ ?_ ?_ ?_ ?_ ?_
                          · first | assumption | omega
                          · rw [hq1, dpt_s _ i1.1, ← hst]; (repeat' split) <;> omega
                          · intro j g1 g2
                            rw [hq1, ev_s _ _ i1.1, ← hst, ← i2]
                            (first | subst h144 | subst h182 | subst h333 | skip)
                            (repeat' split) <;> first | (exfalso; omega) | exact i3 j g1 (by omega) | (dsimp only; unfold gu; (repeat' split) <;> first | (exfalso; omega) | exact i3 j g1 (by omega) | (unfold tst bI; (repeat' split) <;> omega) | (rw [← i3 _ (by omega) (by omega)] at *; omega) | omega)
                          · rw [hq1, ev_s _ _ i1.1, ← hst, ← i2]
                            (repeat' split) <;> first | (exfalso; omega) | exact i4 | exact i5 | (dsimp only; omega) | dsimp only
                          · rw [hq1, ev_s _ _ i1.1, ← hst, ← i2]
                            (repeat' split) <;> first | (exfalso; omega) | exact i4 | exact i5 | (dsimp only; omega) | dsimp only
                          · omega
                  · refine w_aload_n (pc := 214) hC dX12_isLet_214 2 rfl rfl ?_
                    refine w_getf (pc := 215) (v := .ref (A 3)) hC dX12_isLet_215 fi_X12_18 0 rfl rfl ?_
                    refine w_iconst (pc := 218) hC dX12_isLet_218 ?_
                    have ht0 := he.1 0
                    rw [← z0] at ht0
                    refine w_zald (pc := 219) (g := a3_18) hC dX12_isLet_219 3 rfl (by omega) (Nat.le_of_ble_eq_true rfl) ?_
                    refine w_if_eq (pc := 220) (tgt := 227) hC dX12_isLet_220 (by decide) (by omega) (fun c220 => ?_) (fun c220 => ?_)
                    · refine w_iconst (pc := 227) hC dX12_isLet_227 ?_
                      refine w_istore_n (pc := 228) hC dX12_isLet_228 rfl (lv2 := [(2, .int (J 0)), (4, .int (J 0)), (6, .int (J ((I 1) q))), (0, .ref (A 0)), (1, .int (J c)), (3, .int (J bold)), (5, .int (J q))]) (by rw [hnL]; decide) rfl ?_
                      refine w_iload_n (pc := 229) hC dX12_isLet_229 5 rfl rfl ?_
                      refine w_if_ne (pc := 230) (tgt := 249) hC dX12_isLet_230 (by decide) (by omega) (fun c230 => ?_) (fun c230 => ?_)
                      · refine w_iconst (pc := 249) hC dX12_isLet_249 ?_
                        refine w_goto (pc := 250) hC dX12_isLet_250 (tgt := 254) (by decide) ?_
                        refine w_istore_n (pc := 254) hC dX12_isLet_254 rfl (lv2 := [(3, .int (J 1)), (2, .int (J 0)), (4, .int (J 0)), (6, .int (J ((I 1) q))), (0, .ref (A 0)), (1, .int (J c)), (5, .int (J q))]) (by rw [hnL]; decide) rfl ?_
                        refine w_goto (pc := 255) hC dX12_isLet_255 (tgt := 334) (by decide) ?_
                        refine w_iinc (pc := 334) hC dX12_isLet_334 (lv2 := [(5, .int (J (q + 1))), (3, .int (J 1)), (2, .int (J 0)), (4, .int (J 0)), (6, .int (J ((I 1) q))), (0, .ref (A 0)), (1, .int (J c))]) 6 rfl (by rw [hnL]; decide) rfl ?_
                        refine w_goto (pc := 337) hC dX12_isLet_337 (tgt := 18) (by decide) ?_
                        refine w_sub [5, 6, 2, 1, 3, 0] (lv2 := [(0, .ref (A 0)), (1, .int (J c)), (2, .int (J 0)), (3, .int (J 1)), (4, .int (J 0)), (5, .int (J (q + 1)))]) rfl ?_
                        refine ih18 0 1 0 (q + 1) a3_18 ?_ ?_ ?_ ?_ ?_ ?_
                        · first | assumption | omega
                        · rw [hq1, dpt_s _ i1.1, ← hst]; (repeat' split) <;> omega
                        · intro j g1 g2
                          rw [hq1, ev_s _ _ i1.1, ← hst, ← i2]
                          (first | subst h144 | subst h182 | subst h333 | skip)
                          (repeat' split) <;> first | (exfalso; omega) | exact i3 j g1 (by omega) | (dsimp only; unfold gu; (repeat' split) <;> first | (exfalso; omega) | exact i3 j g1 (by omega) | (unfold tst bI; (repeat' split) <;> omega) | (rw [← i3 _ (by omega) (by omega)] at *; omega) | omega)
                        · rw [hq1, ev_s _ _ i1.1, ← hst, ← i2]
                          (repeat' split) <;> first | (exfalso; omega) | exact i4 | exact i5 | (dsimp only; omega) | dsimp only
                        · rw [hq1, ev_s _ _ i1.1, ← hst, ← i2]
                          (repeat' split) <;> first | (exfalso; omega) | exact i4 | exact i5 | (dsimp only; omega) | dsimp only
                        · omega
                      · refine w_iload (pc := 233) hC dX12_isLet_233 2 rfl ?_
                        refine w_bipush (pc := 235) hC dX12_isLet_235 (z := (-5)) rfl ?_
                        refine w_icmp_ne (pc := 237) (tgt := 253) hC dX12_isLet_237 (by decide) (by omega) (fun c237 => ?_) (fun c237 => ?_)
                        · refine w_iconst (pc := 253) hC dX12_isLet_253 ?_
                          refine w_istore_n (pc := 254) hC dX12_isLet_254 rfl (lv2 := [(3, .int (J 0)), (2, .int (J 0)), (4, .int (J 0)), (6, .int (J ((I 1) q))), (0, .ref (A 0)), (1, .int (J c)), (5, .int (J q))]) (by rw [hnL]; decide) rfl ?_
                          refine w_goto (pc := 255) hC dX12_isLet_255 (tgt := 334) (by decide) ?_
                          refine w_iinc (pc := 334) hC dX12_isLet_334 (lv2 := [(5, .int (J (q + 1))), (3, .int (J 0)), (2, .int (J 0)), (4, .int (J 0)), (6, .int (J ((I 1) q))), (0, .ref (A 0)), (1, .int (J c))]) 6 rfl (by rw [hnL]; decide) rfl ?_
                          refine w_goto (pc := 337) hC dX12_isLet_337 (tgt := 18) (by decide) ?_
                          refine w_sub [5, 6, 2, 1, 3, 0] (lv2 := [(0, .ref (A 0)), (1, .int (J c)), (2, .int (J 0)), (3, .int (J 0)), (4, .int (J 0)), (5, .int (J (q + 1)))]) rfl ?_
                          refine ih18 0 0 0 (q + 1) a3_18 ?_ ?_ ?_ ?_ ?_ ?_
                          · first | assumption | omega
                          · rw [hq1, dpt_s _ i1.1, ← hst]; (repeat' split) <;> omega
                          · intro j g1 g2
                            rw [hq1, ev_s _ _ i1.1, ← hst, ← i2]
                            (first | subst h144 | subst h182 | subst h333 | skip)
                            (repeat' split) <;> first | (exfalso; omega) | exact i3 j g1 (by omega) | (dsimp only; unfold gu; (repeat' split) <;> first | (exfalso; omega) | exact i3 j g1 (by omega) | (unfold tst bI; (repeat' split) <;> omega) | (rw [← i3 _ (by omega) (by omega)] at *; omega) | omega)
                          · rw [hq1, ev_s _ _ i1.1, ← hst, ← i2]
                            (repeat' split) <;> first | (exfalso; omega) | exact i4 | exact i5 | (dsimp only; omega) | dsimp only
                          · rw [hq1, ev_s _ _ i1.1, ← hst, ← i2]
                            (repeat' split) <;> first | (exfalso; omega) | exact i4 | exact i5 | (dsimp only; omega) | dsimp only
                          · omega
                        · refine w_aload_n (pc := 240) hC dX12_isLet_240 3 rfl rfl ?_
                          refine w_getf (pc := 241) (v := .ref (A 3)) hC dX12_isLet_241 fi_X12_18 0 rfl rfl ?_
                          refine w_iconst (pc := 244) hC dX12_isLet_244 ?_
                          have ht0 := he.1 0
                          rw [← z0] at ht0
                          refine w_zald (pc := 245) (g := a3_18) hC dX12_isLet_245 3 rfl (by omega) (Nat.le_of_ble_eq_true rfl) ?_
                          refine w_if_eq (pc := 246) (tgt := 253) hC dX12_isLet_246 (by decide) (by omega) (fun c246 => ?_) (fun c246 => ?_)
                          · refine w_iconst (pc := 253) hC dX12_isLet_253 ?_
                            refine w_istore_n (pc := 254) hC dX12_isLet_254 rfl (lv2 := [(3, .int (J 0)), (2, .int (J 0)), (4, .int (J 0)), (6, .int (J ((I 1) q))), (0, .ref (A 0)), (1, .int (J c)), (5, .int (J q))]) (by rw [hnL]; decide) rfl ?_
                            refine w_goto (pc := 255) hC dX12_isLet_255 (tgt := 334) (by decide) ?_
                            refine w_iinc (pc := 334) hC dX12_isLet_334 (lv2 := [(5, .int (J (q + 1))), (3, .int (J 0)), (2, .int (J 0)), (4, .int (J 0)), (6, .int (J ((I 1) q))), (0, .ref (A 0)), (1, .int (J c))]) 6 rfl (by rw [hnL]; decide) rfl ?_
                            refine w_goto (pc := 337) hC dX12_isLet_337 (tgt := 18) (by decide) ?_
                            refine w_sub [5, 6, 2, 1, 3, 0] (lv2 := [(0, .ref (A 0)), (1, .int (J c)), (2, .int (J 0)), (3, .int (J 0)), (4, .int (J 0)), (5, .int (J (q + 1)))]) rfl ?_
                            refine ih18 0 0 0 (q + 1) a3_18 ?_ ?_ ?_ ?_ ?_ ?_
                            · first | assumption | omega
                            · rw [hq1, dpt_s _ i1.1, ← hst]; (repeat' split) <;> omega
                            · intro j g1 g2
                              rw [hq1, ev_s _ _ i1.1, ← hst, ← i2]
                              (first | subst h144 | subst h182 | subst h333 | skip)
                              (repeat' split) <;> first | (exfalso; omega) | exact i3 j g1 (by omega) | (dsimp only; unfold gu; (repeat' split) <;> first | (exfalso; omega) | exact i3 j g1 (by omega) | (unfold tst bI; (repeat' split) <;> omega) | (rw [← i3 _ (by omega) (by omega)] at *; omega) | omega)
                            · rw [hq1, ev_s _ _ i1.1, ← hst, ← i2]
                              (repeat' split) <;> first | (exfalso; omega) | exact i4 | exact i5 | (dsimp only; omega) | dsimp only
                            · rw [hq1, ev_s _ _ i1.1, ← hst, ← i2]
                              (repeat' split) <;> first | (exfalso; omega) | exact i4 | exact i5 | (dsimp only; omega) | dsimp only
                            · omega
                          · refine w_iconst (pc := 249) hC dX12_isLet_249 ?_
                            refine w_goto (pc := 250) hC dX12_isLet_250 (tgt := 254) (by decide) ?_
                            refine w_istore_n (pc := 254) hC dX12_isLet_254 rfl (lv2 := [(3, .int (J 1)), (2, .int (J 0)), (4, .int (J 0)), (6, .int (J ((I 1) q))), (0, .ref (A 0)), (1, .int (J c)), (5, .int (J q))]) (by rw [hnL]; decide) rfl ?_
                            refine w_goto (pc := 255) hC dX12_isLet_255 (tgt := 334) (by decide) ?_
                            refine w_iinc (pc := 334) hC dX12_isLet_334 (lv2 := [(5, .int (J (q + 1))), (3, .int (J 1)), (2, .int (J 0)), (4, .int (J 0)), (6, .int (J ((I 1) q))), (0, .ref (A 0)), (1, .int (J c))]) 6 rfl (by rw [hnL]; decide) rfl ?_
                            refine w_goto (pc := 337) hC dX12_isLet_337 (tgt := 18) (by decide) ?_
                            refine w_sub [5, 6, 2, 1, 3, 0] (lv2 := [(0, .ref (A 0)), (1, .int (J c)), (2, .int (J 0)), (3, .int (J 1)), (4, .int (J 0)), (5, .int (J (q + 1)))]) rfl ?_
                            refine ih18 0 1 0 (q + 1) a3_18 ?_ ?_ ?_ ?_ ?_ ?_
                            · first | assumption | omega
                            · rw [hq1, dpt_s _ i1.1, ← hst]; (repeat' split) <;> omega
                            · intro j g1 g2
                              rw [hq1, ev_s _ _ i1.1, ← hst, ← i2]
                              (first | subst h144 | subst h182 | subst h333 | skip)
                              (repeat' split) <;> first | (exfalso; omega) | exact i3 j g1 (by omega) | (dsimp only; unfold gu; (repeat' split) <;> first | (exfalso; omega) | exact i3 j g1 (by omega) | (unfold tst bI; (repeat' split) <;> omega) | (rw [← i3 _ (by omega) (by omega)] at *; omega) | omega)
                            · rw [hq1, ev_s _ _ i1.1, ← hst, ← i2]
                              (repeat' split) <;> first | (exfalso; omega) | exact i4 | exact i5 | (dsimp only; omega) | dsimp only
                            · rw [hq1, ev_s _ _ i1.1, ← hst, ← i2]
                              (repeat' split) <;> first | (exfalso; omega) | exact i4 | exact i5 | (dsimp only; omega) | dsimp only
                            · omega
                    · refine w_iconst (pc := 223) hC dX12_isLet_223 ?_
                      refine w_goto (pc := 224) hC dX12_isLet_224 (tgt := 228) (by decide) ?_
                      refine w_istore_n (pc := 228) hC dX12_isLet_228 rfl (lv2 := [(2, .int (J 1)), (4, .int (J 0)), (6, .int (J ((I 1) q))), (0, .ref (A 0)), (1, .int (J c)), (3, .int (J bold)), (5, .int (J q))]) (by rw [hnL]; decide) rfl ?_
                      refine w_iload_n (pc := 229) hC dX12_isLet_229 5 rfl rfl ?_
                      refine w_if_ne (pc := 230) (tgt := 249) hC dX12_isLet_230 (by decide) (by omega) (fun c230 => ?_) (fun c230 => ?_)
                      · refine w_iconst (pc := 249) hC dX12_isLet_249 ?_
                        refine w_goto (pc := 250) hC dX12_isLet_250 (tgt := 254) (by decide) ?_
                        refine w_istore_n (pc := 254) hC dX12_isLet_254 rfl (lv2 := [(3, .int (J 1)), (2, .int (J 1)), (4, .int (J 0)), (6, .int (J ((I 1) q))), (0, .ref (A 0)), (1, .int (J c)), (5, .int (J q))]) (by rw [hnL]; decide) rfl ?_
                        refine w_goto (pc := 255) hC dX12_isLet_255 (tgt := 334) (by decide) ?_
                        refine w_iinc (pc := 334) hC dX12_isLet_334 (lv2 := [(5, .int (J (q + 1))), (3, .int (J 1)), (2, .int (J 1)), (4, .int (J 0)), (6, .int (J ((I 1) q))), (0, .ref (A 0)), (1, .int (J c))]) 6 rfl (by rw [hnL]; decide) rfl ?_
                        refine w_goto (pc := 337) hC dX12_isLet_337 (tgt := 18) (by decide) ?_
                        refine w_sub [5, 6, 2, 1, 3, 0] (lv2 := [(0, .ref (A 0)), (1, .int (J c)), (2, .int (J 1)), (3, .int (J 1)), (4, .int (J 0)), (5, .int (J (q + 1)))]) rfl ?_
                        refine ih18 1 1 0 (q + 1) a3_18 ?_ ?_ ?_ ?_ ?_ ?_
                        · first | assumption | omega
                        · rw [hq1, dpt_s _ i1.1, ← hst]; (repeat' split) <;> omega
                        · intro j g1 g2
                          rw [hq1, ev_s _ _ i1.1, ← hst, ← i2]
                          (first | subst h144 | subst h182 | subst h333 | skip)
                          (repeat' split) <;> first | (exfalso; omega) | exact i3 j g1 (by omega) | (dsimp only; unfold gu; (repeat' split) <;> first | (exfalso; omega) | exact i3 j g1 (by omega) | (unfold tst bI; (repeat' split) <;> omega) | (rw [← i3 _ (by omega) (by omega)] at *; omega) | omega)
                        · rw [hq1, ev_s _ _ i1.1, ← hst, ← i2]
                          (repeat' split) <;> first | (exfalso; omega) | exact i4 | exact i5 | (dsimp only; omega) | dsimp only
                        · rw [hq1, ev_s _ _ i1.1, ← hst, ← i2]
                          (repeat' split) <;> first | (exfalso; omega) | exact i4 | exact i5 | (dsimp only; omega) | dsimp only
                        · omega
                      · refine w_iload (pc := 233) hC dX12_isLet_233 2 rfl ?_
                        refine w_bipush (pc := 235) hC dX12_isLet_235 (z := (-5)) rfl ?_
                        refine w_icmp_ne (pc := 237) (tgt := 253) hC dX12_isLet_237 (by decide) (by omega) (fun c237 => ?_) (fun c237 => ?_)
                        · refine w_iconst (pc := 253) hC dX12_isLet_253 ?_
                          refine w_istore_n (pc := 254) hC dX12_isLet_254 rfl (lv2 := [(3, .int (J 0)), (2, .int (J 1)), (4, .int (J 0)), (6, .int (J ((I 1) q))), (0, .ref (A 0)), (1, .int (J c)), (5, .int (J q))]) (by rw [hnL]; decide) rfl ?_
                          refine w_goto (pc := 255) hC dX12_isLet_255 (tgt := 334) (by decide) ?_
                          refine w_iinc (pc := 334) hC dX12_isLet_334 (lv2 := [(5, .int (J (q + 1))), (3, .int (J 0)), (2, .int (J 1)), (4, .int (J 0)), (6, .int (J ((I 1) q))), (0, .ref (A 0)), (1, .int (J c))]) 6 rfl (by rw [hnL]; decide) rfl ?_
                          refine w_goto (pc := 337) hC dX12_isLet_337 (tgt := 18) (by decide) ?_
                          refine w_sub [5, 6, 2, 1, 3, 0] (lv2 := [(0, .ref (A 0)), (1, .int (J c)), (2, .int (J 1)), (3, .int (J 0)), (4, .int (J 0)), (5, .int (J (q + 1)))]) rfl ?_
                          refine ih18 1 0 0 (q + 1) a3_18 ?_ ?_ ?_ ?_ ?_ ?_
                          · first | assumption | omega
                          · rw [hq1, dpt_s _ i1.1, ← hst]; (repeat' split) <;> omega
                          · intro j g1 g2
                            rw [hq1, ev_s _ _ i1.1, ← hst, ← i2]
                            (first | subst h144 | subst h182 | subst h333 | skip)
                            (repeat' split) <;> first | (exfalso; omega) | exact i3 j g1 (by omega) | (dsimp only; unfold gu; (repeat' split) <;> first | (exfalso; omega) | exact i3 j g1 (by omega) | (unfold tst bI; (repeat' split) <;> omega) | (rw [← i3 _ (by omega) (by omega)] at *; omega) | omega)
                          · rw [hq1, ev_s _ _ i1.1, ← hst, ← i2]
                            (repeat' split) <;> first | (exfalso; omega) | exact i4 | exact i5 | (dsimp only; omega) | dsimp only
                          · rw [hq1, ev_s _ _ i1.1, ← hst, ← i2]
                            (repeat' split) <;> first | (exfalso; omega) | exact i4 | exact i5 | (dsimp only; omega) | dsimp only
                          · omega
                        · refine w_aload_n (pc := 240) hC dX12_isLet_240 3 rfl rfl ?_
                          refine w_getf (pc := 241) (v := .ref (A 3)) hC dX12_isLet_241 fi_X12_18 0 rfl rfl ?_
                          refine w_iconst (pc := 244) hC dX12_isLet_244 ?_
                          have ht0 := he.1 0
                          rw [← z0] at ht0
                          refine w_zald (pc := 245) (g := a3_18) hC dX12_isLet_245 3 rfl (by omega) (Nat.le_of_ble_eq_true rfl) ?_
                          refine w_if_eq (pc := 246) (tgt := 253) hC dX12_isLet_246 (by decide) (by omega) (fun c246 => ?_) (fun c246 => ?_)
                          · refine w_iconst (pc := 253) hC dX12_isLet_253 ?_
                            refine w_istore_n (pc := 254) hC dX12_isLet_254 rfl (lv2 := [(3, .int (J 0)), (2, .int (J 1)), (4, .int (J 0)), (6, .int (J ((I 1) q))), (0, .ref (A 0)), (1, .int (J c)), (5, .int (J q))]) (by rw [hnL]; decide) rfl ?_
                            refine w_goto (pc := 255) hC dX12_isLet_255 (tgt := 334) (by decide) ?_
                            refine w_iinc (pc := 334) hC dX12_isLet_334 (lv2 := [(5, .int (J (q + 1))), (3, .int (J 0)), (2, .int (J 1)), (4, .int (J 0)), (6, .int (J ((I 1) q))), (0, .ref (A 0)), (1, .int (J c))]) 6 rfl (by rw [hnL]; decide) rfl ?_
                            refine w_goto (pc := 337) hC dX12_isLet_337 (tgt := 18) (by decide) ?_
                            refine w_sub [5, 6, 2, 1, 3, 0] (lv2 := [(0, .ref (A 0)), (1, .int (J c)), (2, .int (J 1)), (3, .int (J 0)), (4, .int (J 0)), (5, .int (J (q + 1)))]) rfl ?_
                            refine ih18 1 0 0 (q + 1) a3_18 ?_ ?_ ?_ ?_ ?_ ?_
                            · first | assumption | omega
                            · rw [hq1, dpt_s _ i1.1, ← hst]; (repeat' split) <;> omega
                            · intro j g1 g2
                              rw [hq1, ev_s _ _ i1.1, ← hst, ← i2]
                              (first | subst h144 | subst h182 | subst h333 | skip)
                              (repeat' split) <;> first | (exfalso; omega) | exact i3 j g1 (by omega) | (dsimp only; unfold gu; (repeat' split) <;> first | (exfalso; omega) | exact i3 j g1 (by omega) | (unfold tst bI; (repeat' split) <;> omega) | (rw [← i3 _ (by omega) (by omega)] at *; omega) | omega)
                            · rw [hq1, ev_s _ _ i1.1, ← hst, ← i2]
                              (repeat' split) <;> first | (exfalso; omega) | exact i4 | exact i5 | (dsimp only; omega) | dsimp only
                            · rw [hq1, ev_s _ _ i1.1, ← hst, ← i2]
                              (repeat' split) <;> first | (exfalso; omega) | exact i4 | exact i5 | (dsimp only; omega) | dsimp only
                            · omega
                          · refine w_iconst (pc := 249) hC dX12_isLet_249 ?_
                            refine w_goto (pc := 250) hC dX12_isLet_250 (tgt := 254) (by decide) ?_
                            refine w_istore_n (pc := 254) hC dX12_isLet_254 rfl (lv2 := [(3, .int (J 1)), (2, .int (J 1)), (4, .int (J 0)), (6, .int (J ((I 1) q))), (0, .ref (A 0)), (1, .int (J c)), (5, .int (J q))]) (by rw [hnL]; decide) rfl ?_
                            refine w_goto (pc := 255) hC dX12_isLet_255 (tgt := 334) (by decide) ?_
                            refine w_iinc (pc := 334) hC dX12_isLet_334 (lv2 := [(5, .int (J (q + 1))), (3, .int (J 1)), (2, .int (J 1)), (4, .int (J 0)), (6, .int (J ((I 1) q))), (0, .ref (A 0)), (1, .int (J c))]) 6 rfl (by rw [hnL]; decide) rfl ?_
                            refine w_goto (pc := 337) hC dX12_isLet_337 (tgt := 18) (by decide) ?_
                            refine w_sub [5, 6, 2, 1, 3, 0] (lv2 := [(0, .ref (A 0)), (1, .int (J c)), (2, .int (J 1)), (3, .int (J 1)), (4, .int (J 0)), (5, .int (J (q + 1)))]) rfl ?_
                            refine ih18 1 1 0 (q + 1) a3_18 ?_ ?_ ?_ ?_ ?_ ?_
                            · first | assumption | omega
                            · rw [hq1, dpt_s _ i1.1, ← hst]; (repeat' split) <;> omega
                            · intro j g1 g2
                              rw [hq1, ev_s _ _ i1.1, ← hst, ← i2]
                              (first | subst h144 | subst h182 | subst h333 | skip)
                              (repeat' split) <;> first | (exfalso; omega) | exact i3 j g1 (by omega) | (dsimp only; unfold gu; (repeat' split) <;> first | (exfalso; omega) | exact i3 j g1 (by omega) | (unfold tst bI; (repeat' split) <;> omega) | (rw [← i3 _ (by omega) (by omega)] at *; omega) | omega)
                            · rw [hq1, ev_s _ _ i1.1, ← hst, ← i2]
                              (repeat' split) <;> first | (exfalso; omega) | exact i4 | exact i5 | (dsimp only; omega) | dsimp only
                            · rw [hq1, ev_s _ _ i1.1, ← hst, ← i2]
                              (repeat' split) <;> first | (exfalso; omega) | exact i4 | exact i5 | (dsimp only; omega) | dsimp only
                            · omega
          · refine w_aload_n (pc := 157) hC dX12_isLet_157 1 rfl rfl ?_
            refine w_getf (pc := 158) (v := .ref (A 3)) hC dX12_isLet_158 fi_X12_18 0 rfl rfl ?_
            refine w_iload (pc := 161) hC dX12_isLet_161 5 rfl ?_
            refine w_iconst (pc := 163) hC dX12_isLet_163 ?_
            refine w_isub (pc := 164) hC dX12_isLet_164 ?_
            refine w_aload_n (pc := 165) hC dX12_isLet_165 1 rfl rfl ?_
            refine w_getf (pc := 166) (v := .ref (A 3)) hC dX12_isLet_166 fi_X12_18 0 rfl rfl ?_
            refine w_iload (pc := 169) hC dX12_isLet_169 5 rfl ?_
            refine w_iconst (pc := 171) hC dX12_isLet_171 ?_
            refine w_isub (pc := 172) hC dX12_isLet_172 ?_
            have z1 := i3 (top - 1) (by omega) (by omega)
            have ht1 := he.1 (top - 1)
            rw [← z1] at ht1
            refine w_zald (pc := 173) (g := a3_18) hC dX12_isLet_173 3 rfl (by omega) (Nat.le_of_ble_eq_true rfl) ?_
            refine w_if_ne (pc := 174) (tgt := 181) hC dX12_isLet_174 (by decide) (by omega) (fun c174 => ?_) (fun c174 => ?_)
            · refine w_iconst (pc := 181) hC dX12_isLet_181 ?_
              refine w_zast (pc := 182) (g := a3_18) (w2 := MW A G.2.1 (au I 3 (gu a3_18 (top - 1) 0)) F) hC dX12_isLet_182 3 rfl (by omega) (Nat.le_of_ble_eq_true rfl) (rfl) rfl ?_
              generalize h182 : gu a3_18 (top - 1) 0 = s182
              refine w_goto (pc := 183) hC dX12_isLet_183 (tgt := 334) (by decide) ?_
              refine w_iinc (pc := 334) hC dX12_isLet_334 (lv2 := [(5, .int (J (q + 1))), (6, .int (J ((I 1) q))), (0, .ref (A 0)), (1, .int (J c)), (2, .int (J shy)), (3, .int (J bold)), (4, .int (J top))]) 6 rfl (by rw [hnL]; decide) rfl ?_
              refine w_goto (pc := 337) hC dX12_isLet_337 (tgt := 18) (by decide) ?_
              refine w_sub [2, 3, 4, 5, 6, 0] (lv2 := [(0, .ref (A 0)), (1, .int (J c)), (2, .int (J shy)), (3, .int (J bold)), (4, .int (J top)), (5, .int (J (q + 1)))]) rfl ?_
              refine ih18 shy bold top (q + 1) s182 ?_ ?_ ?_ ?_ ?_ ?_
              · first | assumption | omega
              · rw [hq1, dpt_s _ i1.1, ← hst]; (repeat' split) <;> omega
              · intro j g1 g2
                rw [hq1, ev_s _ _ i1.1, ← hst, ← i2]
                (first | subst h144 | subst h182 | subst h333 | skip)
                (repeat' split) <;> first | (exfalso; omega) | exact i3 j g1 (by omega) | (dsimp only; unfold gu; (repeat' split) <;> first | (exfalso; omega) | exact i3 j g1 (by omega) | (unfold tst bI; (repeat' split) <;> omega) | (rw [← i3 _ (by omega) (by omega)] at *; omega) | omega)
              · rw [hq1, ev_s _ _ i1.1, ← hst, ← i2]
                (repeat' split) <;> first | (exfalso; omega) | exact i4 | exact i5 | (dsimp only; omega) | dsimp only
              · rw [hq1, ev_s _ _ i1.1, ← hst, ← i2]
                (repeat' split) <;> first | (exfalso; omega) | exact i4 | exact i5 | (dsimp only; omega) | dsimp only
              · omega
            · refine w_iconst (pc := 177) hC dX12_isLet_177 ?_
              refine w_goto (pc := 178) hC dX12_isLet_178 (tgt := 182) (by decide) ?_
              refine w_zast (pc := 182) (g := a3_18) (w2 := MW A G.2.1 (au I 3 (gu a3_18 (top - 1) 1)) F) hC dX12_isLet_182 3 rfl (by omega) (Nat.le_of_ble_eq_true rfl) (rfl) rfl ?_
              generalize h182 : gu a3_18 (top - 1) 1 = s182
              refine w_goto (pc := 183) hC dX12_isLet_183 (tgt := 334) (by decide) ?_
              refine w_iinc (pc := 334) hC dX12_isLet_334 (lv2 := [(5, .int (J (q + 1))), (6, .int (J ((I 1) q))), (0, .ref (A 0)), (1, .int (J c)), (2, .int (J shy)), (3, .int (J bold)), (4, .int (J top))]) 6 rfl (by rw [hnL]; decide) rfl ?_
              refine w_goto (pc := 337) hC dX12_isLet_337 (tgt := 18) (by decide) ?_
              refine w_sub [2, 3, 4, 5, 6, 0] (lv2 := [(0, .ref (A 0)), (1, .int (J c)), (2, .int (J shy)), (3, .int (J bold)), (4, .int (J top)), (5, .int (J (q + 1)))]) rfl ?_
              refine ih18 shy bold top (q + 1) s182 ?_ ?_ ?_ ?_ ?_ ?_
              · first | assumption | omega
              · rw [hq1, dpt_s _ i1.1, ← hst]; (repeat' split) <;> omega
              · intro j g1 g2
                rw [hq1, ev_s _ _ i1.1, ← hst, ← i2]
                (first | subst h144 | subst h182 | subst h333 | skip)
                (repeat' split) <;> first | (exfalso; omega) | exact i3 j g1 (by omega) | (dsimp only; unfold gu; (repeat' split) <;> first | (exfalso; omega) | exact i3 j g1 (by omega) | (unfold tst bI; (repeat' split) <;> omega) | (rw [← i3 _ (by omega) (by omega)] at *; omega) | omega)
              · rw [hq1, ev_s _ _ i1.1, ← hst, ← i2]
                (repeat' split) <;> first | (exfalso; omega) | exact i4 | exact i5 | (dsimp only; omega) | dsimp only
              · rw [hq1, ev_s _ _ i1.1, ← hst, ← i2]
                (repeat' split) <;> first | (exfalso; omega) | exact i4 | exact i5 | (dsimp only; omega) | dsimp only
              · omega
        · refine w_aload_n (pc := 57) hC dX12_isLet_57 1 rfl rfl ?_
          refine w_getf (pc := 58) (v := .ref (A 4)) hC dX12_isLet_58 fi_X12_22 0 rfl rfl ?_
          refine w_iload (pc := 61) hC dX12_isLet_61 0 rfl ?_
          refine w_bipush (pc := 63) hC dX12_isLet_63 (z := 8) rfl ?_
          refine w_irem (pc := 65) hC dX12_isLet_65 (by omega) ?_
          refine w_iald (pc := 66) (g := (I 4)) hC dX12_isLet_66 4 rfl (by omega) (Nat.le_of_ble_eq_true rfl) ?_
          have hbx := hb ((I 1) q % 8) (by omega) (by omega)
          refine w_istore (pc := 67) hC dX12_isLet_67 (lv2 := [(7, .int (J ((I 4) (((I 1) q) % 8)))), (6, .int (J ((I 1) q))), (0, .ref (A 0)), (1, .int (J c)), (2, .int (J shy)), (3, .int (J bold)), (4, .int (J top)), (5, .int (J q))]) (by rw [hnL]; decide) rfl ?_
          refine w_iload (pc := 69) hC dX12_isLet_69 1 rfl ?_
          refine w_bipush (pc := 71) hC dX12_isLet_71 (z := 8) rfl ?_
          refine w_idiv (pc := 73) hC dX12_isLet_73 (by omega) ?_
          refine w_iconst (pc := 74) hC dX12_isLet_74 ?_
          refine w_irem (pc := 75) hC dX12_isLet_75 (by omega) ?_
          refine w_istore (pc := 76) hC dX12_isLet_76 (lv2 := [(8, .int (J ((((I 1) q) / 8) % 4))), (7, .int (J ((I 4) (((I 1) q) % 8)))), (6, .int (J ((I 1) q))), (0, .ref (A 0)), (1, .int (J c)), (2, .int (J shy)), (3, .int (J bold)), (4, .int (J top)), (5, .int (J q))]) (by rw [hnL]; decide) rfl ?_
          refine w_iload (pc := 78) hC dX12_isLet_78 2 rfl ?_
          refine w_bipush (pc := 80) hC dX12_isLet_80 (z := 32) rfl ?_
          refine w_idiv (pc := 82) hC dX12_isLet_82 (by omega) ?_
          refine w_istore (pc := 83) hC dX12_isLet_83 (lv2 := [(9, .int (J (((I 1) q) / 32))), (8, .int (J ((((I 1) q) / 8) % 4))), (7, .int (J ((I 4) (((I 1) q) % 8)))), (6, .int (J ((I 1) q))), (0, .ref (A 0)), (1, .int (J c)), (2, .int (J shy)), (3, .int (J bold)), (4, .int (J top)), (5, .int (J q))]) (by rw [hnL]; decide) rfl ?_
          refine w_aload_n (pc := 85) hC dX12_isLet_85 4 rfl rfl ?_
          refine w_getf (pc := 86) (v := .ref (A 3)) hC dX12_isLet_86 fi_X12_18 0 rfl rfl ?_
          refine w_iload (pc := 89) hC dX12_isLet_89 8 rfl ?_
          refine w_iload (pc := 91) hC dX12_isLet_91 1 rfl ?_
          refine w_if_ne (pc := 93) (tgt := 111) hC dX12_isLet_93 (by decide) (by omega) (fun c93 => ?_) (fun c93 => ?_)
          · refine w_iload (pc := 111) hC dX12_isLet_111 1 rfl ?_
            refine w_iconst (pc := 113) hC dX12_isLet_113 ?_
            refine w_icmp_ne (pc := 114) (tgt := 132) hC dX12_isLet_114 (by decide) (by omega) (fun c114 => ?_) (fun c114 => ?_)
            · refine w_iload (pc := 132) hC dX12_isLet_132 2 rfl ?_
              refine w_iload (pc := 134) hC dX12_isLet_134 0 rfl ?_
              refine w_icmp_le (pc := 136) (tgt := 143) hC dX12_isLet_136 (by decide) (by omega) (fun c136 => ?_) (fun c136 => ?_)
              · refine w_iconst (pc := 143) hC dX12_isLet_143 ?_
                refine w_zast (pc := 144) (g := a3_18) (w2 := MW A G.2.1 (au I 3 (gu a3_18 top 0)) F) hC dX12_isLet_144 3 rfl (by omega) (Nat.le_of_ble_eq_true rfl) (rfl) rfl ?_
                generalize h144 : gu a3_18 top 0 = s144
                refine w_iinc (pc := 145) hC dX12_isLet_145 (lv2 := [(4, .int (J (top + 1))), (9, .int (J (((I 1) q) / 32))), (8, .int (J ((((I 1) q) / 8) % 4))), (7, .int (J ((I 4) (((I 1) q) % 8)))), (6, .int (J ((I 1) q))), (0, .ref (A 0)), (1, .int (J c)), (2, .int (J shy)), (3, .int (J bold)), (5, .int (J q))]) 8 rfl (by rw [hnL]; decide) rfl ?_
                refine w_goto (pc := 148) hC dX12_isLet_148 (tgt := 334) (by decide) ?_
                refine w_iinc (pc := 334) hC dX12_isLet_334 (lv2 := [(5, .int (J (q + 1))), (4, .int (J (top + 1))), (9, .int (J (((I 1) q) / 32))), (8, .int (J ((((I 1) q) / 8) % 4))), (7, .int (J ((I 4) (((I 1) q) % 8)))), (6, .int (J ((I 1) q))), (0, .ref (A 0)), (1, .int (J c)), (2, .int (J shy)), (3, .int (J bold))]) 9 rfl (by rw [hnL]; decide) rfl ?_
                refine w_goto (pc := 337) hC dX12_isLet_337 (tgt := 18) (by decide) ?_
                refine w_sub [6, 7, 8, 9, 1, 0] (lv2 := [(0, .ref (A 0)), (1, .int (J c)), (2, .int (J shy)), (3, .int (J bold)), (4, .int (J (top + 1))), (5, .int (J (q + 1)))]) rfl ?_
                refine ih18 shy bold (top + 1) (q + 1) s144 ?_ ?_ ?_ ?_ ?_ ?_
                · first | assumption | omega
                · rw [hq1, dpt_s _ i1.1, ← hst]; (repeat' split) <;> omega
                · intro j g1 g2
                  rw [hq1, ev_s _ _ i1.1, ← hst, ← i2]
                  (first | subst h144 | subst h182 | subst h333 | skip)
                  (repeat' split) <;> first | (exfalso; omega) | exact i3 j g1 (by omega) | (dsimp only; unfold gu; (repeat' split) <;> first | (exfalso; omega) | exact i3 j g1 (by omega) | (unfold tst bI; (repeat' split) <;> omega) | (rw [← i3 _ (by omega) (by omega)] at *; omega) | omega)
                · rw [hq1, ev_s _ _ i1.1, ← hst, ← i2]
                  (repeat' split) <;> first | (exfalso; omega) | exact i4 | exact i5 | (dsimp only; omega) | dsimp only
                · rw [hq1, ev_s _ _ i1.1, ← hst, ← i2]
                  (repeat' split) <;> first | (exfalso; omega) | exact i4 | exact i5 | (dsimp only; omega) | dsimp only
                · omega
              · refine w_iconst (pc := 139) hC dX12_isLet_139 ?_
                refine w_goto (pc := 140) hC dX12_isLet_140 (tgt := 144) (by decide) ?_
                refine w_zast (pc := 144) (g := a3_18) (w2 := MW A G.2.1 (au I 3 (gu a3_18 top 1)) F) hC dX12_isLet_144 3 rfl (by omega) (Nat.le_of_ble_eq_true rfl) (rfl) rfl ?_
                generalize h144 : gu a3_18 top 1 = s144
                refine w_iinc (pc := 145) hC dX12_isLet_145 (lv2 := [(4, .int (J (top + 1))), (9, .int (J (((I 1) q) / 32))), (8, .int (J ((((I 1) q) / 8) % 4))), (7, .int (J ((I 4) (((I 1) q) % 8)))), (6, .int (J ((I 1) q))), (0, .ref (A 0)), (1, .int (J c)), (2, .int (J shy)), (3, .int (J bold)), (5, .int (J q))]) 8 rfl (by rw [hnL]; decide) rfl ?_
                refine w_goto (pc := 148) hC dX12_isLet_148 (tgt := 334) (by decide) ?_
                refine w_iinc (pc := 334) hC dX12_isLet_334 (lv2 := [(5, .int (J (q + 1))), (4, .int (J (top + 1))), (9, .int (J (((I 1) q) / 32))), (8, .int (J ((((I 1) q) / 8) % 4))), (7, .int (J ((I 4) (((I 1) q) % 8)))), (6, .int (J ((I 1) q))), (0, .ref (A 0)), (1, .int (J c)), (2, .int (J shy)), (3, .int (J bold))]) 9 rfl (by rw [hnL]; decide) rfl ?_
                refine w_goto (pc := 337) hC dX12_isLet_337 (tgt := 18) (by decide) ?_
                refine w_sub [6, 7, 8, 9, 1, 0] (lv2 := [(0, .ref (A 0)), (1, .int (J c)), (2, .int (J shy)), (3, .int (J bold)), (4, .int (J (top + 1))), (5, .int (J (q + 1)))]) rfl ?_
                refine ih18 shy bold (top + 1) (q + 1) s144 ?_ ?_ ?_ ?_ ?_ ?_
                · first | assumption | omega
                · rw [hq1, dpt_s _ i1.1, ← hst]; (repeat' split) <;> omega
                · intro j g1 g2
                  rw [hq1, ev_s _ _ i1.1, ← hst, ← i2]
                  (first | subst h144 | subst h182 | subst h333 | skip)
                  (repeat' split) <;> first | (exfalso; omega) | exact i3 j g1 (by omega) | (dsimp only; unfold gu; (repeat' split) <;> first | (exfalso; omega) | exact i3 j g1 (by omega) | (unfold tst bI; (repeat' split) <;> omega) | (rw [← i3 _ (by omega) (by omega)] at *; omega) | omega)
                · rw [hq1, ev_s _ _ i1.1, ← hst, ← i2]
                  (repeat' split) <;> first | (exfalso; omega) | exact i4 | exact i5 | (dsimp only; omega) | dsimp only
                · rw [hq1, ev_s _ _ i1.1, ← hst, ← i2]
                  (repeat' split) <;> first | (exfalso; omega) | exact i4 | exact i5 | (dsimp only; omega) | dsimp only
                · omega
            · refine w_iload (pc := 117) hC dX12_isLet_117 2 rfl ?_
              refine w_iload (pc := 119) hC dX12_isLet_119 0 rfl ?_
              refine w_icmp_ne (pc := 121) (tgt := 128) hC dX12_isLet_121 (by decide) (by omega) (fun c121 => ?_) (fun c121 => ?_)
              · refine w_iconst (pc := 128) hC dX12_isLet_128 ?_
                refine w_goto (pc := 129) hC dX12_isLet_129 (tgt := 144) (by decide) ?_
                refine w_zast (pc := 144) (g := a3_18) (w2 := MW A G.2.1 (au I 3 (gu a3_18 top 0)) F) hC dX12_isLet_144 3 rfl (by omega) (Nat.le_of_ble_eq_true rfl) (rfl) rfl ?_
                generalize h144 : gu a3_18 top 0 = s144
                refine w_iinc (pc := 145) hC dX12_isLet_145 (lv2 := [(4, .int (J (top + 1))), (9, .int (J (((I 1) q) / 32))), (8, .int (J ((((I 1) q) / 8) % 4))), (7, .int (J ((I 4) (((I 1) q) % 8)))), (6, .int (J ((I 1) q))), (0, .ref (A 0)), (1, .int (J c)), (2, .int (J shy)), (3, .int (J bold)), (5, .int (J q))]) 8 rfl (by rw [hnL]; decide) rfl ?_
                refine w_goto (pc := 148) hC dX12_isLet_148 (tgt := 334) (by decide) ?_
                refine w_iinc (pc := 334) hC dX12_isLet_334 (lv2 := [(5, .int (J (q + 1))), (4, .int (J (top + 1))), (9, .int (J (((I 1) q) / 32))), (8, .int (J ((((I 1) q) / 8) % 4))), (7, .int (J ((I 4) (((I 1) q) % 8)))), (6, .int (J ((I 1) q))), (0, .ref (A 0)), (1, .int (J c)), (2, .int (J shy)), (3, .int (J bold))]) 9 rfl (by rw [hnL]; decide) rfl ?_
                refine w_goto (pc := 337) hC dX12_isLet_337 (tgt := 18) (by decide) ?_
                refine w_sub [6, 7, 8, 9, 1, 0] (lv2 := [(0, .ref (A 0)), (1, .int (J c)), (2, .int (J shy)), (3, .int (J bold)), (4, .int (J (top + 1))), (5, .int (J (q + 1)))]) rfl ?_
                refine ih18 shy bold (top + 1) (q + 1) s144 ?_ ?_ ?_ ?_ ?_ ?_
                · first | assumption | omega
                · rw [hq1, dpt_s _ i1.1, ← hst]; (repeat' split) <;> omega
                · intro j g1 g2
                  rw [hq1, ev_s _ _ i1.1, ← hst, ← i2]
                  (first | subst h144 | subst h182 | subst h333 | skip)
                  (repeat' split) <;> first | (exfalso; omega) | exact i3 j g1 (by omega) | (dsimp only; unfold gu; (repeat' split) <;> first | (exfalso; omega) | exact i3 j g1 (by omega) | (unfold tst bI; (repeat' split) <;> omega) | (rw [← i3 _ (by omega) (by omega)] at *; omega) | omega)
                · rw [hq1, ev_s _ _ i1.1, ← hst, ← i2]
                  (repeat' split) <;> first | (exfalso; omega) | exact i4 | exact i5 | (dsimp only; omega) | dsimp only
                · rw [hq1, ev_s _ _ i1.1, ← hst, ← i2]
                  (repeat' split) <;> first | (exfalso; omega) | exact i4 | exact i5 | (dsimp only; omega) | dsimp only
                · omega
              · refine w_iconst (pc := 124) hC dX12_isLet_124 ?_
                refine w_goto (pc := 125) hC dX12_isLet_125 (tgt := 144) (by decide) ?_
                refine w_zast (pc := 144) (g := a3_18) (w2 := MW A G.2.1 (au I 3 (gu a3_18 top 1)) F) hC dX12_isLet_144 3 rfl (by omega) (Nat.le_of_ble_eq_true rfl) (rfl) rfl ?_
                generalize h144 : gu a3_18 top 1 = s144
                refine w_iinc (pc := 145) hC dX12_isLet_145 (lv2 := [(4, .int (J (top + 1))), (9, .int (J (((I 1) q) / 32))), (8, .int (J ((((I 1) q) / 8) % 4))), (7, .int (J ((I 4) (((I 1) q) % 8)))), (6, .int (J ((I 1) q))), (0, .ref (A 0)), (1, .int (J c)), (2, .int (J shy)), (3, .int (J bold)), (5, .int (J q))]) 8 rfl (by rw [hnL]; decide) rfl ?_
                refine w_goto (pc := 148) hC dX12_isLet_148 (tgt := 334) (by decide) ?_
                refine w_iinc (pc := 334) hC dX12_isLet_334 (lv2 := [(5, .int (J (q + 1))), (4, .int (J (top + 1))), (9, .int (J (((I 1) q) / 32))), (8, .int (J ((((I 1) q) / 8) % 4))), (7, .int (J ((I 4) (((I 1) q) % 8)))), (6, .int (J ((I 1) q))), (0, .ref (A 0)), (1, .int (J c)), (2, .int (J shy)), (3, .int (J bold))]) 9 rfl (by rw [hnL]; decide) rfl ?_
                refine w_goto (pc := 337) hC dX12_isLet_337 (tgt := 18) (by decide) ?_
                refine w_sub [6, 7, 8, 9, 1, 0] (lv2 := [(0, .ref (A 0)), (1, .int (J c)), (2, .int (J shy)), (3, .int (J bold)), (4, .int (J (top + 1))), (5, .int (J (q + 1)))]) rfl ?_
                refine ih18 shy bold (top + 1) (q + 1) s144 ?_ ?_ ?_ ?_ ?_ ?_
                · first | assumption | omega
                · rw [hq1, dpt_s _ i1.1, ← hst]; (repeat' split) <;> omega
                · intro j g1 g2
                  rw [hq1, ev_s _ _ i1.1, ← hst, ← i2]
                  (first | subst h144 | subst h182 | subst h333 | skip)
                  (repeat' split) <;> first | (exfalso; omega) | exact i3 j g1 (by omega) | (dsimp only; unfold gu; (repeat' split) <;> first | (exfalso; omega) | exact i3 j g1 (by omega) | (unfold tst bI; (repeat' split) <;> omega) | (rw [← i3 _ (by omega) (by omega)] at *; omega) | omega)
                · rw [hq1, ev_s _ _ i1.1, ← hst, ← i2]
                  (repeat' split) <;> first | (exfalso; omega) | exact i4 | exact i5 | (dsimp only; omega) | dsimp only
                · rw [hq1, ev_s _ _ i1.1, ← hst, ← i2]
                  (repeat' split) <;> first | (exfalso; omega) | exact i4 | exact i5 | (dsimp only; omega) | dsimp only
                · omega
          · refine w_iload (pc := 96) hC dX12_isLet_96 2 rfl ?_
            refine w_iload (pc := 98) hC dX12_isLet_98 0 rfl ?_
            refine w_icmp_ge (pc := 100) (tgt := 107) hC dX12_isLet_100 (by decide) (by omega) (fun c100 => ?_) (fun c100 => ?_)
            · refine w_iconst (pc := 107) hC dX12_isLet_107 ?_
              refine w_goto (pc := 108) hC dX12_isLet_108 (tgt := 144) (by decide) ?_
              refine w_zast (pc := 144) (g := a3_18) (w2 := MW A G.2.1 (au I 3 (gu a3_18 top 0)) F) hC dX12_isLet_144 3 rfl (by omega) (Nat.le_of_ble_eq_true rfl) (rfl) rfl ?_
              generalize h144 : gu a3_18 top 0 = s144
              refine w_iinc (pc := 145) hC dX12_isLet_145 (lv2 := [(4, .int (J (top + 1))), (9, .int (J (((I 1) q) / 32))), (8, .int (J ((((I 1) q) / 8) % 4))), (7, .int (J ((I 4) (((I 1) q) % 8)))), (6, .int (J ((I 1) q))), (0, .ref (A 0)), (1, .int (J c)), (2, .int (J shy)), (3, .int (J bold)), (5, .int (J q))]) 8 rfl (by rw [hnL]; decide) rfl ?_
              refine w_goto (pc := 148) hC dX12_isLet_148 (tgt := 334) (by decide) ?_
              refine w_iinc (pc := 334) hC dX12_isLet_334 (lv2 := [(5, .int (J (q + 1))), (4, .int (J (top + 1))), (9, .int (J (((I 1) q) / 32))), (8, .int (J ((((I 1) q) / 8) % 4))), (7, .int (J ((I 4) (((I 1) q) % 8)))), (6, .int (J ((I 1) q))), (0, .ref (A 0)), (1, .int (J c)), (2, .int (J shy)), (3, .int (J bold))]) 9 rfl (by rw [hnL]; decide) rfl ?_
              refine w_goto (pc := 337) hC dX12_isLet_337 (tgt := 18) (by decide) ?_
              refine w_sub [6, 7, 8, 9, 1, 0] (lv2 := [(0, .ref (A 0)), (1, .int (J c)), (2, .int (J shy)), (3, .int (J bold)), (4, .int (J (top + 1))), (5, .int (J (q + 1)))]) rfl ?_
              refine ih18 shy bold (top + 1) (q + 1) s144 ?_ ?_ ?_ ?_ ?_ ?_
              · first | assumption | omega
              · rw [hq1, dpt_s _ i1.1, ← hst]; (repeat' split) <;> omega
              · intro j g1 g2
                rw [hq1, ev_s _ _ i1.1, ← hst, ← i2]
                (first | subst h144 | subst h182 | subst h333 | skip)
                (repeat' split) <;> first | (exfalso; omega) | exact i3 j g1 (by omega) | (dsimp only; unfold gu; (repeat' split) <;> first | (exfalso; omega) | exact i3 j g1 (by omega) | (unfold tst bI; (repeat' split) <;> omega) | (rw [← i3 _ (by omega) (by omega)] at *; omega) | omega)
              · rw [hq1, ev_s _ _ i1.1, ← hst, ← i2]
                (repeat' split) <;> first | (exfalso; omega) | exact i4 | exact i5 | (dsimp only; omega) | dsimp only
              · rw [hq1, ev_s _ _ i1.1, ← hst, ← i2]
                (repeat' split) <;> first | (exfalso; omega) | exact i4 | exact i5 | (dsimp only; omega) | dsimp only
              · omega
            · refine w_iconst (pc := 103) hC dX12_isLet_103 ?_
              refine w_goto (pc := 104) hC dX12_isLet_104 (tgt := 144) (by decide) ?_
              refine w_zast (pc := 144) (g := a3_18) (w2 := MW A G.2.1 (au I 3 (gu a3_18 top 1)) F) hC dX12_isLet_144 3 rfl (by omega) (Nat.le_of_ble_eq_true rfl) (rfl) rfl ?_
              generalize h144 : gu a3_18 top 1 = s144
              refine w_iinc (pc := 145) hC dX12_isLet_145 (lv2 := [(4, .int (J (top + 1))), (9, .int (J (((I 1) q) / 32))), (8, .int (J ((((I 1) q) / 8) % 4))), (7, .int (J ((I 4) (((I 1) q) % 8)))), (6, .int (J ((I 1) q))), (0, .ref (A 0)), (1, .int (J c)), (2, .int (J shy)), (3, .int (J bold)), (5, .int (J q))]) 8 rfl (by rw [hnL]; decide) rfl ?_
              refine w_goto (pc := 148) hC dX12_isLet_148 (tgt := 334) (by decide) ?_
              refine w_iinc (pc := 334) hC dX12_isLet_334 (lv2 := [(5, .int (J (q + 1))), (4, .int (J (top + 1))), (9, .int (J (((I 1) q) / 32))), (8, .int (J ((((I 1) q) / 8) % 4))), (7, .int (J ((I 4) (((I 1) q) % 8)))), (6, .int (J ((I 1) q))), (0, .ref (A 0)), (1, .int (J c)), (2, .int (J shy)), (3, .int (J bold))]) 9 rfl (by rw [hnL]; decide) rfl ?_
              refine w_goto (pc := 337) hC dX12_isLet_337 (tgt := 18) (by decide) ?_
              refine w_sub [6, 7, 8, 9, 1, 0] (lv2 := [(0, .ref (A 0)), (1, .int (J c)), (2, .int (J shy)), (3, .int (J bold)), (4, .int (J (top + 1))), (5, .int (J (q + 1)))]) rfl ?_
              refine ih18 shy bold (top + 1) (q + 1) s144 ?_ ?_ ?_ ?_ ?_ ?_
              · first | assumption | omega
              · rw [hq1, dpt_s _ i1.1, ← hst]; (repeat' split) <;> omega
              · intro j g1 g2
                rw [hq1, ev_s _ _ i1.1, ← hst, ← i2]
                (first | subst h144 | subst h182 | subst h333 | skip)
                (repeat' split) <;> first | (exfalso; omega) | exact i3 j g1 (by omega) | (dsimp only; unfold gu; (repeat' split) <;> first | (exfalso; omega) | exact i3 j g1 (by omega) | (unfold tst bI; (repeat' split) <;> omega) | (rw [← i3 _ (by omega) (by omega)] at *; omega) | omega)
              · rw [hq1, ev_s _ _ i1.1, ← hst, ← i2]
                (repeat' split) <;> first | (exfalso; omega) | exact i4 | exact i5 | (dsimp only; omega) | dsimp only
              · rw [hq1, ev_s _ _ i1.1, ← hst, ← i2]
                (repeat' split) <;> first | (exfalso; omega) | exact i4 | exact i5 | (dsimp only; omega) | dsimp only
              · omega
  refine w_sub [4, 5, 3, 2, 1, 0] (lv2 := [(0, .ref (A 0)), (1, .int (J c)), (2, .int (J 0)), (3, .int (J 0)), (4, .int (J 0)), (5, .int (J (193 + (140 * c))))]) rfl ?_
  refine loop18 ((193 + 140 * c + (I 1) (188 + c) - (193 + (140 * c))) + 1 : Int).toNat 0 0 0 (193 + (140 * c)) (I 3) ?_ ?_ ?_ ?_ ?_ ?_
  · first | assumption | omega
  · rw [show (193 + 140 * c - (193 + 140 * c)).toNat = 0 by omega]; rfl
  · intro j g1 g2; omega
  · rw [show (193 + 140 * c - (193 + 140 * c)).toNat = 0 by omega]; rfl
  · rw [show (193 + 140 * c - (193 + 140 * c)).toNat = 0 by omega]; rfl
  · omega
