
theorem lp_end {S : Int → Int} {e : Int} {f : PQ → PQ} {c s : Int} (k : Nat) {q : PQ} (h : ¬ (q.2.1 = 0 ∧ hr S e q.1 = c)) : lp S e f c s k q = q := by
  cases k with
  | zero => rfl
  | succ k => unfold lp; rw [if_neg h]
theorem lp_next {S : Int → Int} {e : Int} {f : PQ → PQ} {c s : Int} {k : Nat} {q : PQ} (hk : e - q.1 < (k : Int)) (h : q.2.1 = 0 ∧ hr S e q.1 = c) (hc : 0 ≤ c) : lp S e f c s k q = lp S e f c s (k - 1) (emt s (f (q.1 + 1, q.2.1, q.2.2))) := by
  have := hr_at h.2 hc
  obtain ⟨j, rfl⟩ : ∃ j : Nat, k = j + 1 := ⟨k - 1, by omega⟩
  show (if q.2.1 = 0 ∧ hr S e q.1 = c then _ else q) = _
  rw [if_pos h]
  rfl
theorem fac_atm {S : Int → Int} {e : Int} (m : Nat) {q : PQ} (h0 : ¬ q.2.1 = 1) (h1 : ¬ hr S e q.1 = 33) (h2 : ¬ hr S e q.1 = 40) : fac S e m q = atm S e q := by
  cases m with
  | zero =>
    show (if q.2.1 = 1 then q else if hr S e q.1 = 33 ∨ hr S e q.1 = 40 then (q.1, 1, q.2.2) else atm S e q) = _
    rw [if_neg h0, if_neg (fun h => h.elim h1 h2)]
  | succ m =>
    show (if q.2.1 = 1 then q else if hr S e q.1 = 33 then emt (-1) (fac S e m (q.1 + 1, 0, q.2.2)) else if hr S e q.1 = 40 then mst S e 41 (som S e (fac S e m) (q.1 + 1, 0, q.2.2)) else atm S e q) = _
    rw [if_neg h0, if_neg h1, if_neg h2]
theorem fac_out {S : Int → Int} {e : Int} {q : PQ} (h0 : ¬ q.2.1 = 1) (h1 : hr S e q.1 = 33 ∨ hr S e q.1 = 40) : fac S e 0 q = (q.1, 1, q.2.2) := by
  show (if q.2.1 = 1 then q else if hr S e q.1 = 33 ∨ hr S e q.1 = 40 then (q.1, 1, q.2.2) else atm S e q) = _
  rw [if_neg h0, if_pos h1]
theorem fac_not {S : Int → Int} {e : Int} (m : Nat) {q : PQ} (h0 : ¬ q.2.1 = 1) (h1 : hr S e q.1 = 33) : fac S e (m + 1) q = emt (-1) (fac S e m (q.1 + 1, 0, q.2.2)) := by
  show (if q.2.1 = 1 then q else if hr S e q.1 = 33 then emt (-1) (fac S e m (q.1 + 1, 0, q.2.2)) else if hr S e q.1 = 40 then mst S e 41 (som S e (fac S e m) (q.1 + 1, 0, q.2.2)) else atm S e q) = _
  rw [if_neg h0, if_pos h1]
theorem fac_par {S : Int → Int} {e : Int} (m : Nat) {q : PQ} (h0 : ¬ q.2.1 = 1) (h1 : hr S e q.1 = 40) : fac S e (m + 1) q = mst S e 41 (som S e (fac S e m) (q.1 + 1, 0, q.2.2)) := by
  show (if q.2.1 = 1 then q else if hr S e q.1 = 33 then emt (-1) (fac S e m (q.1 + 1, 0, q.2.2)) else if hr S e q.1 = 40 then mst S e 41 (som S e (fac S e m) (q.1 + 1, 0, q.2.2)) else atm S e q) = _
  rw [if_neg h0, if_neg (by omega), if_pos h1]
theorem emt_eta {s a b : Int} {l : List Int} : (a, b, (emt s (a, b, l)).2.2) = emt s (a, b, l) := by
  unfold emt
  split <;> rfl
theorem figQ_w {S : Int → Int} {e : Int} {q : PQ} (h : q.2.1 = 1) : figQ S e q = (0, q) := by
  obtain ⟨a, b, l⟩ := q
  dsimp only at h
  subst h
  unfold figQ
  rw [if_pos (Or.inl rfl)]

def PG_parse (l : Launch) (G : GT) (m : Nat) : Prop := (∀ (A : Nat → Nat) (I : Nat → Int → Int) (F : Nat → Int) (S0 : Int → Int) (ql : List Int) (u : Int) (wi : Int) (hS : (I 1) = CLS S0 (F 4) ql u wi) (hR : RI S0) (ha : 0 ≤ (F 4) ∧ (F 4) < 5) (he : (0 ≤ (F 5) ∧ (F 5) ≤ (F 6)) ∧ (F 6) ≤ 120) (hw : (F 7) = 0 ∨ (F 7) = 1) (hl : (ql.length : Int) ≤ (F 5)) (ho : (0 ≤ (F 8) ∧ (F 8) ≤ 6) ∧ ((F 8) = 6 → (F 7) = 1)) (hm : (3 * (6 - (F 8)) + 0).toNat ≤ m), CT l yX12_factor cX12_factor 5 none (5 + m) 0 0 G [.ref (A 0)] (MW A G.2.1 I F) (fun vo wo => ∃ (b1 : Int → Int) (g5 : Int) (g7 : Int) (g8 : Int), vo = none ∧ wo = MW A G.2.1 (au I 1 b1) (fu (fu (fu F 5 g5) 7 g7) 8 g8) ∧ ((∃ l2 : List Int, (g5, g7, l2) = (fac S0 (F 6) (5 - (F 8)).toNat) ((F 5), (F 7), ql) ∧ b1 = CLS S0 (F 4) l2 u wi) ∧ g8 = (F 8)))) ∧ (∀ (A : Nat → Nat) (I : Nat → Int → Int) (F : Nat → Int) (S0 : Int → Int) (ql : List Int) (u : Int) (wi : Int) (hS : (I 1) = CLS S0 (F 4) ql u wi) (hR : RI S0) (ha : 0 ≤ (F 4) ∧ (F 4) < 5) (he : (0 ≤ (F 5) ∧ (F 5) ≤ (F 6)) ∧ (F 6) ≤ 120) (hw : (F 7) = 0 ∨ (F 7) = 1) (hl : (ql.length : Int) ≤ (F 5)) (ho : (0 ≤ (F 8) ∧ (F 8) ≤ 6) ∧ ((F 8) = 6 → (F 7) = 1)) (hm : (3 * (6 - (F 8)) + 1).toNat ≤ m), CT l yX12_every cX12_every 1 none (5 + m) 0 0 G [.ref (A 0)] (MW A G.2.1 I F) (fun vo wo => ∃ (b1 : Int → Int) (g5 : Int) (g7 : Int) (g8 : Int), vo = none ∧ wo = MW A G.2.1 (au I 1 b1) (fu (fu (fu F 5 g5) 7 g7) 8 g8) ∧ ((∃ l2 : List Int, (g5, g7, l2) = (evr S0 (F 6) (fac S0 (F 6) (5 - (F 8)).toNat)) ((F 5), (F 7), ql) ∧ b1 = CLS S0 (F 4) l2 u wi) ∧ g8 = (F 8)))) ∧ (∀ (A : Nat → Nat) (I : Nat → Int → Int) (F : Nat → Int) (S0 : Int → Int) (ql : List Int) (u : Int) (wi : Int) (hS : (I 1) = CLS S0 (F 4) ql u wi) (hR : RI S0) (ha : 0 ≤ (F 4) ∧ (F 4) < 5) (he : (0 ≤ (F 5) ∧ (F 5) ≤ (F 6)) ∧ (F 6) ≤ 120) (hw : (F 7) = 0 ∨ (F 7) = 1) (hl : (ql.length : Int) ≤ (F 5)) (ho : (0 ≤ (F 8) ∧ (F 8) ≤ 6) ∧ ((F 8) = 6 → (F 7) = 1)) (hm : (3 * (6 - (F 8)) + 2).toNat ≤ m), CT l yX12_some cX12_some 1 none (5 + m) 0 0 G [.ref (A 0)] (MW A G.2.1 I F) (fun vo wo => ∃ (b1 : Int → Int) (g5 : Int) (g7 : Int) (g8 : Int), vo = none ∧ wo = MW A G.2.1 (au I 1 b1) (fu (fu (fu F 5 g5) 7 g7) 8 g8) ∧ ((∃ l2 : List Int, (g5, g7, l2) = (som S0 (F 6) (fac S0 (F 6) (5 - (F 8)).toNat)) ((F 5), (F 7), ql) ∧ b1 = CLS S0 (F 4) l2 u wi) ∧ g8 = (F 8))))
set_option maxRecDepth 100000 in
set_option maxHeartbeats 4000000 in
theorem r_X12_factor (l : Launch) (G : GT) (m : Nat) (IH : ∀ m2 : Nat, m2 < m → PG_parse l G m2) (A : Nat → Nat) (I : Nat → Int → Int) (F : Nat → Int) (S0 : Int → Int) (ql : List Int) (u : Int) (wi : Int) (hS : (I 1) = CLS S0 (F 4) ql u wi) (hR : RI S0) (ha : 0 ≤ (F 4) ∧ (F 4) < 5) (he : (0 ≤ (F 5) ∧ (F 5) ≤ (F 6)) ∧ (F 6) ≤ 120) (hw : (F 7) = 0 ∨ (F 7) = 1) (hl : (ql.length : Int) ≤ (F 5)) (ho : (0 ≤ (F 8) ∧ (F 8) ≤ 6) ∧ ((F 8) = 6 → (F 7) = 1)) (hm : (3 * (6 - (F 8)) + 0).toNat ≤ m) : CT l yX12_factor cX12_factor 5 none (5 + m) 0 0 G [.ref (A 0)] (MW A G.2.1 I F) (fun vo wo => ∃ (b1 : Int → Int) (g5 : Int) (g7 : Int) (g8 : Int), vo = none ∧ wo = MW A G.2.1 (au I 1 b1) (fu (fu (fu F 5 g5) 7 g7) 8 g8) ∧ ((∃ l2 : List Int, (g5, g7, l2) = (fac S0 (F 6) (5 - (F 8)).toNat) ((F 5), (F 7), ql) ∧ b1 = CLS S0 (F 4) l2 u wi) ∧ g8 = (F 8))) := by
  refine CT_of (own := RX12) rfl rfl (Nat.le_of_ble_eq_true rfl) (fun K hl hnL hC hRT hin => ?_)
  subst hl
  show WW K G 0 0 (MW A G.2.1 I F) 0 [(0, .ref (A 0))] []
  have hTP := CLS_tp (S := S0) (a := F 4) (l := ql) (u := u) (w := wi) ha.1
  rw [← hS] at hTP
  have hPB : PB (F 6) (F 5, F 7, ql) := ⟨he.1, hw⟩
  have h96 : stl 6 = 6 := rfl
  have h97 : stl 7 = 3 := rfl
  refine w_aload_n (pc := 0) hC dX12_factor_0 0 rfl rfl ?_
  refine w_getf (pc := 1) (v := .int (J (F 7))) hC dX12_factor_1 fi_X12_83 0 rfl rfl ?_
  refine w_if_eq (pc := 4) (tgt := 8) hC dX12_factor_4 (by decide) (by omega) (fun c4 => ?_) (fun c4 => ?_)
  · refine w_aload_n (pc := 8) hC dX12_factor_8 0 rfl rfl ?_
    refine w_callV (pc := 9) (As := []) (rest := []) hC dX12_factor_9 cv_X12_87 (c_X12_here (kl K) G A I F S0 (show TP (I 1) S0 from by first | assumption | omega) (show RI S0 from by first | assumption | omega) (show (0 ≤ (F 5) ∧ (F 5) ≤ (F 6)) ∧ (F 6) ≤ 120 from by first | assumption | omega)) (by omega) ⟨Nat.le_of_ble_eq_true rfl, Nat.le_of_ble_eq_true rfl⟩ (q0 := 0) rfl rfl rfl rfl (Nat.le_of_ble_eq_true rfl) rfl (fun vo wo hv => ?_)
    obtain ⟨hv1, hw1⟩ := hv
    rw [hv1, hw1]
    show WW K G 0 0 (MW A G.2.1 I F) 12 [(0, .ref (A 0))] [.int (J (hr S0 (F 6) (F 5)))]
    have q9_0 := hr_bd (e := (F 6)) (sp := (F 5)) (by assumption : RI S0) (by omega) (by omega)
    refine w_istore_n (pc := 12) hC dX12_factor_12 rfl (lv2 := [(1, .int (J (hr S0 (F 6) (F 5)))), (0, .ref (A 0))]) (by rw [hnL]; decide) rfl ?_
    refine w_iload_n (pc := 13) hC dX12_factor_13 0 rfl rfl ?_
    refine w_bipush (pc := 14) hC dX12_factor_14 (z := 33) rfl ?_
    refine w_icmp_eq (pc := 16) (tgt := 25) hC dX12_factor_16 (by decide) (by omega) (fun c16 => ?_) (fun c16 => ?_)
    · refine w_aload_n (pc := 25) hC dX12_factor_25 1 rfl rfl ?_
      refine w_aload_n (pc := 26) hC dX12_factor_26 1 rfl rfl ?_
      refine w_getf (pc := 27) (v := .int (J (F 8))) hC dX12_factor_27 fi_X12_106 0 rfl rfl ?_
      refine w_iconst (pc := 30) hC dX12_factor_30 ?_
      refine w_icmp_ne (pc := 31) (tgt := 38) hC dX12_factor_31 (by decide) (by omega) (fun c31 => ?_) (fun c31 => ?_)
      · refine w_iconst (pc := 38) hC dX12_factor_38 ?_
        refine w_putf (pc := 39) (w2 := MW A G.2.1 I (fu F 7 0)) hC dX12_factor_39 fi_X12_83 fp_X12_7 rfl 0 rfl (rfl) (rfl) (Nat.le_of_ble_eq_true rfl) rfl ?_
        refine w_aload_n (pc := 42) hC dX12_factor_42 1 rfl rfl ?_
        refine w_dup (pc := 43) hC dX12_factor_43 rfl ?_
        refine w_getf (pc := 44) (v := .int (J (F 8))) hC dX12_factor_44 fi_X12_106 0 rfl rfl ?_
        refine w_iconst (pc := 47) hC dX12_factor_47 ?_
        refine w_iadd (pc := 48) hC dX12_factor_48 ?_
        refine w_putf (pc := 49) (w2 := MW A G.2.1 I (fu (fu F 7 0) 8 ((F 8) + 1))) hC dX12_factor_49 fi_X12_106 fp_X12_8 rfl 0 rfl (rfl) (rfl) (Nat.le_of_ble_eq_true rfl) rfl ?_
        refine w_aload_n (pc := 52) hC dX12_factor_52 1 rfl rfl ?_
        refine w_dup (pc := 53) hC dX12_factor_53 rfl ?_
        refine w_getf (pc := 54) (v := .int (J (F 5))) hC dX12_factor_54 fi_X12_77 0 rfl rfl ?_
        refine w_aload_n (pc := 57) hC dX12_factor_57 1 rfl rfl ?_
        refine w_getf (pc := 58) (v := .int (J 0)) hC dX12_factor_58 fi_X12_83 0 rfl rfl ?_
        refine w_if_eq (pc := 61) (tgt := 68) hC dX12_factor_61 (by decide) (by omega) (fun c61 => ?_) (fun c61 => ?_)
        · refine w_iconst (pc := 68) hC dX12_factor_68 ?_
          refine w_iadd (pc := 69) hC dX12_factor_69 ?_
          refine w_putf (pc := 70) (w2 := MW A G.2.1 I (fu (fu (fu F 5 ((F 5) + 1)) 7 0) 8 ((F 8) + 1))) hC dX12_factor_70 fi_X12_77 fp_X12_5 rfl 0 rfl (rfl) (rfl) (Nat.le_of_ble_eq_true rfl) rfl ?_
          have hat := hr_at (S := S0) (e := F 6) (sp := F 5) rfl (by omega)
          have hb25 : PB (F 6) ((F 5) + 1, 0, ql) := ⟨⟨by dsimp only; omega, by dsimp only; omega⟩, Or.inl rfl⟩
          refine w_iload_n (pc := 73) hC dX12_factor_73 0 rfl rfl ?_
          refine w_bipush (pc := 74) hC dX12_factor_74 (z := 33) rfl ?_
          refine w_icmp_ne (pc := 76) (tgt := 91) hC dX12_factor_76 (by decide) (by omega) (fun c76 => ?_) (fun c76 => ?_)
          · exfalso; omega
          · refine w_aload_n (pc := 79) hC dX12_factor_79 1 rfl rfl ?_
            refine w_callV (pc := 80) (As := []) (rest := []) hC dX12_factor_80 cv_X12_109 ((IH (m - 1) (by omega)).1 A I (fu (fu (fu F 5 ((F 5) + 1)) 7 0) 8 ((F 8) + 1)) S0 ql u wi (show (I 1) = CLS S0 (F 4) ql u wi from by exact hS) (show RI S0 from by first | assumption | omega) (show 0 ≤ (F 4) ∧ (F 4) < 5 from by first | assumption | omega) (show (0 ≤ ((F 5) + 1) ∧ ((F 5) + 1) ≤ (F 6)) ∧ (F 6) ≤ 120 from by first | assumption | omega) (show 0 = 0 ∨ 0 = 1 from by first | assumption | omega) (show (ql.length : Int) ≤ ((F 5) + 1) from by first | assumption | omega) (show (0 ≤ ((F 8) + 1) ∧ ((F 8) + 1) ≤ 6) ∧ (((F 8) + 1) = 6 → 0 = 1) from by first | assumption | omega) (show (3 * (6 - ((F 8) + 1)) + 0).toNat ≤ (m - 1) from by omega)) (by omega) ⟨Nat.le_of_ble_eq_true rfl, Nat.le_of_ble_eq_true rfl⟩ (q0 := 0) rfl rfl rfl rfl (Nat.le_of_ble_eq_true rfl) rfl (fun vo wo hv => ?_)
            obtain ⟨b1_80, g5_80, g7_80, g8_80, hv1, hw1, r80⟩ := hv
            rw [hv1, hw1]
            show WW K G 0 0 (MW A G.2.1 (au I 1 b1_80) (fu (fu (fu F 5 g5_80) 7 g7_80) 8 g8_80)) 83 [(1, .int (J (hr S0 (F 6) (F 5)))), (0, .ref (A 0))] []
            have r80 : (∃ l2 : List Int, (g5_80, g7_80, l2) = (fac S0 (F 6) (5 - ((F 8) + 1)).toNat) (((F 5) + 1), 0, ql) ∧ b1_80 = CLS S0 (F 4) l2 u wi) ∧ g8_80 = ((F 8) + 1) := r80
            refine w_aload_n (pc := 83) hC dX12_factor_83 1 rfl rfl ?_
            obtain ⟨⟨l80, hq80, hS80⟩, ho80⟩ := r80
            have hg80 := fac_gr (S := S0) (e := F 6) (5 - (F 8 + 1)).toNat (F 5 + 1, 0, ql) hb25
            rw [← hq80] at hg80
            have hp80 := hg80.pb hb25
            have hx80 := hg80.2.2
            have hy80 := hg80.1
            dsimp only at hx80 hy80
            have hz80 := hp80.2
            have hv80 := hp80.1
            dsimp only at hz80 hv80
            have hT80 := CLS_tp (S := S0) (a := F 4) (l := l80) (u := u) (w := wi) ha.1
            rw [← hS80] at hT80
            have hlt := he.2
            refine w_iconst (pc := 84) hC dX12_factor_84 ?_
            refine w_callV (pc := 85) (As := [.int (J (-1))]) (rest := []) hC dX12_factor_85 cv_X12_112 (c_X12_emits (kl K) G A (au I 1 b1_80) (fu (fu (fu F 5 g5_80) 7 g7_80) 8 g8_80) S0 l80 u wi (-1) (show b1_80 = CLS S0 (F 4) l80 u wi from by exact hS80) (show 0 ≤ (F 4) ∧ (F 4) < 5 from by first | assumption | omega) (show g7_80 = 0 ∨ g7_80 = 1 from by first | assumption | omega) (show -2147483648 ≤ (-1) ∧ (-1) < 2147483648 from by first | assumption | omega) (show (l80.length : Int) < 140 from by first | assumption | omega)) (by omega) ⟨Nat.le_of_ble_eq_true rfl, Nat.le_of_ble_eq_true rfl⟩ (q0 := 0) rfl rfl rfl rfl (Nat.le_of_ble_eq_true rfl) rfl (fun vo wo hv => ?_)
            obtain ⟨b1_85, hv1, hw1, r85⟩ := hv
            rw [hv1, hw1]
            show WW K G 0 0 (MW A G.2.1 (au I 1 b1_85) (fu (fu (fu F 5 g5_80) 7 g7_80) 8 g8_80)) 88 [(1, .int (J (hr S0 (F 6) (F 5)))), (0, .ref (A 0))] []
            have r85 : b1_85 = CLS S0 (F 4) (emt (-1) (g5_80, g7_80, l80)).2.2 u wi := r85
            refine w_goto (pc := 88) hC dX12_factor_88 (tgt := 101) (by decide) ?_
            refine w_aload_n (pc := 101) hC dX12_factor_101 1 rfl rfl ?_
            refine w_dup (pc := 102) hC dX12_factor_102 rfl ?_
            refine w_getf (pc := 103) (v := .int (J g8_80)) hC dX12_factor_103 fi_X12_106 0 rfl rfl ?_
            refine w_iconst (pc := 106) hC dX12_factor_106 ?_
            refine w_isub (pc := 107) hC dX12_factor_107 ?_
            refine w_putf (pc := 108) (w2 := MW A G.2.1 (au I 1 b1_85) (fu (fu (fu F 5 g5_80) 7 g7_80) 8 (g8_80 - 1))) hC dX12_factor_108 fi_X12_106 fp_X12_8 rfl 0 rfl (rfl) (rfl) (Nat.le_of_ble_eq_true rfl) rfl ?_
            refine w_vret (pc := 111) hC hRT dX12_factor_111 ?_
            refine ⟨b1_85, g5_80, g7_80, g8_80 - 1, rfl, rfl, ?_⟩
            · refine ⟨⟨_, ?_, r85⟩, by omega⟩
              rw [emt_eta, hq80]
              rw [show (5 - F 8).toNat = (5 - (F 8 + 1)).toNat + 1 by omega, fac_not _ (show ¬ F 7 = 1 by omega) (show hr S0 (F 6) (F 5) = 33 by omega)]
        · exact absurd c61 (by decide)
      · refine w_iconst (pc := 34) hC dX12_factor_34 ?_
        refine w_goto (pc := 35) hC dX12_factor_35 (tgt := 39) (by decide) ?_
        refine w_putf (pc := 39) (w2 := MW A G.2.1 I (fu F 7 1)) hC dX12_factor_39 fi_X12_83 fp_X12_7 rfl 0 rfl (rfl) (rfl) (Nat.le_of_ble_eq_true rfl) rfl ?_
        refine w_aload_n (pc := 42) hC dX12_factor_42 1 rfl rfl ?_
        refine w_dup (pc := 43) hC dX12_factor_43 rfl ?_
        refine w_getf (pc := 44) (v := .int (J (F 8))) hC dX12_factor_44 fi_X12_106 0 rfl rfl ?_
        refine w_iconst (pc := 47) hC dX12_factor_47 ?_
        refine w_iadd (pc := 48) hC dX12_factor_48 ?_
        refine w_putf (pc := 49) (w2 := MW A G.2.1 I (fu (fu F 7 1) 8 ((F 8) + 1))) hC dX12_factor_49 fi_X12_106 fp_X12_8 rfl 0 rfl (rfl) (rfl) (Nat.le_of_ble_eq_true rfl) rfl ?_
        refine w_aload_n (pc := 52) hC dX12_factor_52 1 rfl rfl ?_
        refine w_dup (pc := 53) hC dX12_factor_53 rfl ?_
        refine w_getf (pc := 54) (v := .int (J (F 5))) hC dX12_factor_54 fi_X12_77 0 rfl rfl ?_
        refine w_aload_n (pc := 57) hC dX12_factor_57 1 rfl rfl ?_
        refine w_getf (pc := 58) (v := .int (J 1)) hC dX12_factor_58 fi_X12_83 0 rfl rfl ?_
        refine w_if_eq (pc := 61) (tgt := 68) hC dX12_factor_61 (by decide) (by omega) (fun c61 => ?_) (fun c61 => ?_)
        · exact absurd c61 (by decide)
        · refine w_iconst (pc := 64) hC dX12_factor_64 ?_
          refine w_goto (pc := 65) hC dX12_factor_65 (tgt := 69) (by decide) ?_
          refine w_iadd (pc := 69) hC dX12_factor_69 ?_
          refine w_putf (pc := 70) (w2 := MW A G.2.1 I (fu (fu (fu F 5 ((F 5) + 0)) 7 1) 8 ((F 8) + 1))) hC dX12_factor_70 fi_X12_77 fp_X12_5 rfl 0 rfl (rfl) (rfl) (Nat.le_of_ble_eq_true rfl) rfl ?_
          have hat := hr_at (S := S0) (e := F 6) (sp := F 5) rfl (by omega)
          have hb25 : PB (F 6) ((F 5) + 0, 1, ql) := ⟨⟨by dsimp only; omega, by dsimp only; omega⟩, Or.inr rfl⟩
          refine w_iload_n (pc := 73) hC dX12_factor_73 0 rfl rfl ?_
          refine w_bipush (pc := 74) hC dX12_factor_74 (z := 33) rfl ?_
          refine w_icmp_ne (pc := 76) (tgt := 91) hC dX12_factor_76 (by decide) (by omega) (fun c76 => ?_) (fun c76 => ?_)
          · exfalso; omega
          · refine w_aload_n (pc := 79) hC dX12_factor_79 1 rfl rfl ?_
            refine w_callV (pc := 80) (As := []) (rest := []) hC dX12_factor_80 cv_X12_109 ((IH (m - 1) (by omega)).1 A I (fu (fu (fu F 5 ((F 5) + 0)) 7 1) 8 ((F 8) + 1)) S0 ql u wi (show (I 1) = CLS S0 (F 4) ql u wi from by exact hS) (show RI S0 from by first | assumption | omega) (show 0 ≤ (F 4) ∧ (F 4) < 5 from by first | assumption | omega) (show (0 ≤ ((F 5) + 0) ∧ ((F 5) + 0) ≤ (F 6)) ∧ (F 6) ≤ 120 from by first | assumption | omega) (show 1 = 0 ∨ 1 = 1 from by first | assumption | omega) (show (ql.length : Int) ≤ ((F 5) + 0) from by first | assumption | omega) (show (0 ≤ ((F 8) + 1) ∧ ((F 8) + 1) ≤ 6) ∧ (((F 8) + 1) = 6 → 1 = 1) from by first | assumption | omega) (show (3 * (6 - ((F 8) + 1)) + 0).toNat ≤ (m - 1) from by omega)) (by omega) ⟨Nat.le_of_ble_eq_true rfl, Nat.le_of_ble_eq_true rfl⟩ (q0 := 0) rfl rfl rfl rfl (Nat.le_of_ble_eq_true rfl) rfl (fun vo wo hv => ?_)
            obtain ⟨b1_80, g5_80, g7_80, g8_80, hv1, hw1, r80⟩ := hv
            rw [hv1, hw1]
            show WW K G 0 0 (MW A G.2.1 (au I 1 b1_80) (fu (fu (fu F 5 g5_80) 7 g7_80) 8 g8_80)) 83 [(1, .int (J (hr S0 (F 6) (F 5)))), (0, .ref (A 0))] []
            have r80 : (∃ l2 : List Int, (g5_80, g7_80, l2) = (fac S0 (F 6) (5 - ((F 8) + 1)).toNat) (((F 5) + 0), 1, ql) ∧ b1_80 = CLS S0 (F 4) l2 u wi) ∧ g8_80 = ((F 8) + 1) := r80
            refine w_aload_n (pc := 83) hC dX12_factor_83 1 rfl rfl ?_
            obtain ⟨⟨l80, hq80, hS80⟩, ho80⟩ := r80
            have hg80 := fac_gr (S := S0) (e := F 6) (5 - (F 8 + 1)).toNat (F 5 + 0, 1, ql) hb25
            rw [← hq80] at hg80
            have hp80 := hg80.pb hb25
            have hx80 := hg80.2.2
            have hy80 := hg80.1
            dsimp only at hx80 hy80
            have hz80 := hp80.2
            have hv80 := hp80.1
            dsimp only at hz80 hv80
            have hT80 := CLS_tp (S := S0) (a := F 4) (l := l80) (u := u) (w := wi) ha.1
            rw [← hS80] at hT80
            have hlt := he.2
            refine w_iconst (pc := 84) hC dX12_factor_84 ?_
            refine w_callV (pc := 85) (As := [.int (J (-1))]) (rest := []) hC dX12_factor_85 cv_X12_112 (c_X12_emits (kl K) G A (au I 1 b1_80) (fu (fu (fu F 5 g5_80) 7 g7_80) 8 g8_80) S0 l80 u wi (-1) (show b1_80 = CLS S0 (F 4) l80 u wi from by exact hS80) (show 0 ≤ (F 4) ∧ (F 4) < 5 from by first | assumption | omega) (show g7_80 = 0 ∨ g7_80 = 1 from by first | assumption | omega) (show -2147483648 ≤ (-1) ∧ (-1) < 2147483648 from by first | assumption | omega) (show (l80.length : Int) < 140 from by first | assumption | omega)) (by omega) ⟨Nat.le_of_ble_eq_true rfl, Nat.le_of_ble_eq_true rfl⟩ (q0 := 0) rfl rfl rfl rfl (Nat.le_of_ble_eq_true rfl) rfl (fun vo wo hv => ?_)
            obtain ⟨b1_85, hv1, hw1, r85⟩ := hv
            rw [hv1, hw1]
            show WW K G 0 0 (MW A G.2.1 (au I 1 b1_85) (fu (fu (fu F 5 g5_80) 7 g7_80) 8 g8_80)) 88 [(1, .int (J (hr S0 (F 6) (F 5)))), (0, .ref (A 0))] []
            have r85 : b1_85 = CLS S0 (F 4) (emt (-1) (g5_80, g7_80, l80)).2.2 u wi := r85
            refine w_goto (pc := 88) hC dX12_factor_88 (tgt := 101) (by decide) ?_
            refine w_aload_n (pc := 101) hC dX12_factor_101 1 rfl rfl ?_
            refine w_dup (pc := 102) hC dX12_factor_102 rfl ?_
            refine w_getf (pc := 103) (v := .int (J g8_80)) hC dX12_factor_103 fi_X12_106 0 rfl rfl ?_
            refine w_iconst (pc := 106) hC dX12_factor_106 ?_
            refine w_isub (pc := 107) hC dX12_factor_107 ?_
            refine w_putf (pc := 108) (w2 := MW A G.2.1 (au I 1 b1_85) (fu (fu (fu F 5 g5_80) 7 g7_80) 8 (g8_80 - 1))) hC dX12_factor_108 fi_X12_106 fp_X12_8 rfl 0 rfl (rfl) (rfl) (Nat.le_of_ble_eq_true rfl) rfl ?_
            refine w_vret (pc := 111) hC hRT dX12_factor_111 ?_
            refine ⟨b1_85, g5_80, g7_80, g8_80 - 1, rfl, rfl, ?_⟩
            · refine ⟨⟨_, ?_, r85⟩, by omega⟩
              rw [emt_eta, hq80]
              rw [fac_w _ rfl, emt_w rfl, show (5 - F 8).toNat = 0 by omega, fac_out (show ¬ F 7 = 1 by omega) (show hr S0 (F 6) (F 5) = 33 ∨ hr S0 (F 6) (F 5) = 40 by omega), Int.add_zero]
    · refine w_iload_n (pc := 19) hC dX12_factor_19 0 rfl rfl ?_
      refine w_bipush (pc := 20) hC dX12_factor_20 (z := 40) rfl ?_
      refine w_icmp_ne (pc := 22) (tgt := 112) hC dX12_factor_22 (by decide) (by omega) (fun c22 => ?_) (fun c22 => ?_)
      · refine w_aload_n (pc := 112) hC dX12_factor_112 1 rfl rfl ?_
        refine w_ldcS (pc := 113) (index := 118) (i := 6) (tx := "abrucd") hC dX12_factor_113 (List.mem_of_getElem? (i := 13) rfl) ?_
        refine w_callV (pc := 115) (As := [.ref (G.2.2.1 6)]) (rest := []) hC dX12_factor_115 cv_X12_120 (c_X12_among (kl K) G A I F 6 S0 (show 6 < nST from by decide) (show TP (I 1) S0 from by first | assumption | omega) (show RI S0 from by first | assumption | omega) (show (0 ≤ (F 5) ∧ (F 5) ≤ (F 6)) ∧ (F 6) ≤ 120 from by first | assumption | omega)) (by omega) ⟨Nat.le_of_ble_eq_true rfl, Nat.le_of_ble_eq_true rfl⟩ (q0 := 0) rfl rfl rfl rfl (Nat.le_of_ble_eq_true rfl) rfl (fun vo wo hv => ?_)
        obtain ⟨g5_115, hv1, hw1, r115⟩ := hv
        rw [hv1, hw1]
        show WW K G 0 0 (MW A G.2.1 I (fu F 5 g5_115)) 118 [(1, .int (J (hr S0 (F 6) (F 5)))), (0, .ref (A 0))] [.int (J (SX 6 (hr S0 (F 6) (F 5))))]
        have r115 : g5_115 = (if SX 6 (hr S0 (F 6) (F 5)) = -1 then (F 5) else (F 5) + 1) ∧ ((F 5) ≤ g5_115 ∧ g5_115 ≤ (F 6)) := r115
        have q115_0 := SX_bd (hr S0 (F 6) (F 5)) (by first | assumption | decide : 6 < nST)
        refine w_istore_n (pc := 118) hC dX12_factor_118 rfl (lv2 := [(2, .int (J (SX 6 (hr S0 (F 6) (F 5))))), (1, .int (J (hr S0 (F 6) (F 5)))), (0, .ref (A 0))]) (by rw [hnL]; decide) rfl ?_
        refine w_aload_n (pc := 119) hC dX12_factor_119 2 rfl rfl ?_
        refine w_iload_n (pc := 120) hC dX12_factor_120 0 rfl rfl ?_
        refine w_iconst (pc := 121) hC dX12_factor_121 ?_
        refine w_icmp_ne (pc := 122) (tgt := 129) hC dX12_factor_122 (by decide) (by omega) (fun c122 => ?_) (fun c122 => ?_)
        · refine w_iconst (pc := 129) hC dX12_factor_129 ?_
          refine w_putf (pc := 130) (w2 := MW A G.2.1 I (fu (fu F 5 g5_115) 7 0)) hC dX12_factor_130 fi_X12_83 fp_X12_7 rfl 0 rfl (rfl) (rfl) (Nat.le_of_ble_eq_true rfl) rfl ?_
          have hs6 := q115_0
          obtain ⟨t1, t2⟩ := r115
          refine w_aload_n (pc := 133) hC dX12_factor_133 2 rfl rfl ?_
          refine w_getf (pc := 134) (v := .int (J 0)) hC dX12_factor_134 fi_X12_83 0 rfl rfl ?_
          refine w_if_eq (pc := 137) (tgt := 144) hC dX12_factor_137 (by decide) (by omega) (fun c137 => ?_) (fun c137 => ?_)
          · refine w_aload_n (pc := 144) hC dX12_factor_144 2 rfl rfl ?_
            refine w_ldcS (pc := 145) (index := 124) (i := 7) (tx := "<=>") hC dX12_factor_145 (List.mem_of_getElem? (i := 14) rfl) ?_
            refine w_callV (pc := 147) (As := [.ref (G.2.2.1 7)]) (rest := []) hC dX12_factor_147 cv_X12_120 (c_X12_among (kl K) G A I (fu (fu F 5 g5_115) 7 0) 7 S0 (show 7 < nST from by decide) (show TP (I 1) S0 from by first | assumption | omega) (show RI S0 from by first | assumption | omega) (show (0 ≤ g5_115 ∧ g5_115 ≤ (F 6)) ∧ (F 6) ≤ 120 from by first | assumption | omega)) (by omega) ⟨Nat.le_of_ble_eq_true rfl, Nat.le_of_ble_eq_true rfl⟩ (q0 := 0) rfl rfl rfl rfl (Nat.le_of_ble_eq_true rfl) rfl (fun vo wo hv => ?_)
            obtain ⟨g5_147, hv1, hw1, r147⟩ := hv
            rw [hv1, hw1]
            show WW K G 0 0 (MW A G.2.1 I (fu (fu F 5 g5_147) 7 0)) 150 [(2, .int (J (SX 6 (hr S0 (F 6) (F 5))))), (1, .int (J (hr S0 (F 6) (F 5)))), (0, .ref (A 0))] [.int (J (SX 7 (hr S0 (F 6) g5_115)))]
            have r147 : g5_147 = (if SX 7 (hr S0 (F 6) g5_115) = -1 then g5_115 else g5_115 + 1) ∧ (g5_115 ≤ g5_147 ∧ g5_147 ≤ (F 6)) := r147
            have q147_0 := SX_bd (hr S0 (F 6) g5_115) (by first | assumption | decide : 7 < nST)
            refine w_istore_n (pc := 150) hC dX12_factor_150 rfl (lv2 := [(3, .int (J (SX 7 (hr S0 (F 6) g5_115)))), (2, .int (J (SX 6 (hr S0 (F 6) (F 5))))), (1, .int (J (hr S0 (F 6) (F 5)))), (0, .ref (A 0))]) (by rw [hnL]; decide) rfl ?_
            have hs7 := q147_0
            obtain ⟨t3, t4⟩ := r147
            refine w_aload_n (pc := 151) hC dX12_factor_151 3 rfl rfl ?_
            refine w_aload_n (pc := 152) hC dX12_factor_152 3 rfl rfl ?_
            refine w_getf (pc := 153) (v := .int (J 0)) hC dX12_factor_153 fi_X12_83 0 rfl rfl ?_
            refine w_if_ne (pc := 156) (tgt := 164) hC dX12_factor_156 (by decide) (by omega) (fun c156 => ?_) (fun c156 => ?_)
            · exact absurd c156 (by decide)
            · refine w_iload_n (pc := 159) hC dX12_factor_159 0 rfl rfl ?_
              refine w_iconst (pc := 160) hC dX12_factor_160 ?_
              refine w_icmp_ne (pc := 161) (tgt := 168) hC dX12_factor_161 (by decide) (by omega) (fun c161 => ?_) (fun c161 => ?_)
              · refine w_iconst (pc := 168) hC dX12_factor_168 ?_
                refine w_putf (pc := 169) (w2 := MW A G.2.1 I (fu (fu F 5 g5_147) 7 0)) hC dX12_factor_169 fi_X12_83 fp_X12_7 rfl 0 rfl (rfl) (rfl) (Nat.le_of_ble_eq_true rfl) rfl ?_
                refine w_aload_n (pc := 172) hC dX12_factor_172 3 rfl rfl ?_
                refine w_callV (pc := 173) (As := []) (rest := []) hC dX12_factor_173 cv_X12_126 (c_X12_figures (kl K) G A I (fu (fu F 5 g5_147) 7 0) S0 ql (show TP (I 1) S0 from by first | assumption | omega) (show RI S0 from by first | assumption | omega) (show (0 ≤ g5_147 ∧ g5_147 ≤ (F 6)) ∧ (F 6) ≤ 120 from by first | assumption | omega) (show 0 = 0 ∨ 0 = 1 from by first | assumption | omega)) (by omega) ⟨Nat.le_of_ble_eq_true rfl, Nat.le_of_ble_eq_true rfl⟩ (q0 := 0) rfl rfl rfl rfl (Nat.le_of_ble_eq_true rfl) rfl (fun vo wo hv => ?_)
                obtain ⟨g5_173, g7_173, hv1, hw1, r173⟩ := hv
                rw [hv1, hw1]
                show WW K G 0 0 (MW A G.2.1 I (fu (fu F 5 g5_173) 7 g7_173)) 176 [(3, .int (J (SX 7 (hr S0 (F 6) g5_115)))), (2, .int (J (SX 6 (hr S0 (F 6) (F 5))))), (1, .int (J (hr S0 (F 6) (F 5)))), (0, .ref (A 0))] [.int (J ((figQ S0 (F 6) (g5_147, 0, ql)).1))]
                have r173 : (g5_173, g7_173, ql) = (figQ S0 (F 6) (g5_147, 0, ql)).2 ∧ ((0 ≤ g5_173 ∧ g5_173 ≤ (F 6)) ∧ (g7_173 = 0 ∨ g7_173 = 1)) := r173
                have q173_0 := figQ_v (S := S0) (e := (F 6)) (q := (g5_147, 0, ql))
                refine w_istore (pc := 176) hC dX12_factor_176 (lv2 := [(4, .int (J ((figQ S0 (F 6) (g5_147, 0, ql)).1))), (3, .int (J (SX 7 (hr S0 (F 6) g5_115)))), (2, .int (J (SX 6 (hr S0 (F 6) (F 5))))), (1, .int (J (hr S0 (F 6) (F 5)))), (0, .ref (A 0))]) (by rw [hnL]; decide) rfl ?_
                obtain ⟨t5, t6⟩ := r173
                refine w_aload_n (pc := 178) hC dX12_factor_178 4 rfl rfl ?_
                refine w_iload_n (pc := 179) hC dX12_factor_179 2 rfl rfl ?_
                refine w_bipush (pc := 180) hC dX12_factor_180 (z := 8) rfl ?_
                refine w_iload_n (pc := 182) hC dX12_factor_182 1 rfl rfl ?_
                refine w_imul (pc := 183) hC dX12_factor_183 ?_
                refine w_iadd (pc := 184) hC dX12_factor_184 ?_
                refine w_bipush (pc := 185) hC dX12_factor_185 (z := 32) rfl ?_
                refine w_iload (pc := 187) hC dX12_factor_187 0 rfl ?_
                refine w_imul (pc := 189) hC dX12_factor_189 ?_
                refine w_iadd (pc := 190) hC dX12_factor_190 ?_
                refine w_callV (pc := 191) (As := [.int (J (((SX 6 (hr S0 (F 6) (F 5))) + (8 * (SX 7 (hr S0 (F 6) g5_115)))) + (32 * ((figQ S0 (F 6) (g5_147, 0, ql)).1))))]) (rest := []) hC dX12_factor_191 cv_X12_112 (c_X12_emits (kl K) G A I (fu (fu F 5 g5_173) 7 g7_173) S0 ql u wi (((SX 6 (hr S0 (F 6) (F 5))) + (8 * (SX 7 (hr S0 (F 6) g5_115)))) + (32 * ((figQ S0 (F 6) (g5_147, 0, ql)).1))) (show (I 1) = CLS S0 (F 4) ql u wi from by exact hS) (show 0 ≤ (F 4) ∧ (F 4) < 5 from by first | assumption | omega) (show g7_173 = 0 ∨ g7_173 = 1 from by first | assumption | omega) (show -2147483648 ≤ (((SX 6 (hr S0 (F 6) (F 5))) + (8 * (SX 7 (hr S0 (F 6) g5_115)))) + (32 * ((figQ S0 (F 6) (g5_147, 0, ql)).1))) ∧ (((SX 6 (hr S0 (F 6) (F 5))) + (8 * (SX 7 (hr S0 (F 6) g5_115)))) + (32 * ((figQ S0 (F 6) (g5_147, 0, ql)).1))) < 2147483648 from by first | assumption | omega) (show (ql.length : Int) < 140 from by first | assumption | omega)) (by omega) ⟨Nat.le_of_ble_eq_true rfl, Nat.le_of_ble_eq_true rfl⟩ (q0 := 0) rfl rfl rfl rfl (Nat.le_of_ble_eq_true rfl) rfl (fun vo wo hv => ?_)
                obtain ⟨b1_191, hv1, hw1, r191⟩ := hv
                rw [hv1, hw1]
                show WW K G 0 0 (MW A G.2.1 (au I 1 b1_191) (fu (fu F 5 g5_173) 7 g7_173)) 194 [(4, .int (J ((figQ S0 (F 6) (g5_147, 0, ql)).1))), (3, .int (J (SX 7 (hr S0 (F 6) g5_115)))), (2, .int (J (SX 6 (hr S0 (F 6) (F 5))))), (1, .int (J (hr S0 (F 6) (F 5)))), (0, .ref (A 0))] []
                have r191 : b1_191 = CLS S0 (F 4) (emt (((SX 6 (hr S0 (F 6) (F 5))) + (8 * (SX 7 (hr S0 (F 6) g5_115)))) + (32 * ((figQ S0 (F 6) (g5_147, 0, ql)).1))) (g5_173, g7_173, ql)).2.2 u wi := r191
                refine w_vret (pc := 194) hC hRT dX12_factor_194 ?_
                refine ⟨b1_191, g5_173, g7_173, (F 8), rfl, rfl, ?_⟩
                · refine ⟨⟨_, ?_, r191⟩, rfl⟩
                  rw [emt_eta, t5, fac_atm _ (show ¬ F 7 = 1 by omega) (show ¬ hr S0 (F 6) (F 5) = 33 by omega) (show ¬ hr S0 (F 6) (F 5) = 40 by omega)]
                  unfold atm
                  dsimp only
                  rw [if_neg c122] at t1
                  subst t1
                  rw [if_neg c161] at t3
                  subst t3
                  rw [if_neg c122, if_neg c161]
              · refine w_iconst (pc := 164) hC dX12_factor_164 ?_
                refine w_goto (pc := 165) hC dX12_factor_165 (tgt := 169) (by decide) ?_
                refine w_putf (pc := 169) (w2 := MW A G.2.1 I (fu (fu F 5 g5_147) 7 1)) hC dX12_factor_169 fi_X12_83 fp_X12_7 rfl 0 rfl (rfl) (rfl) (Nat.le_of_ble_eq_true rfl) rfl ?_
                refine w_aload_n (pc := 172) hC dX12_factor_172 3 rfl rfl ?_
                refine w_callV (pc := 173) (As := []) (rest := []) hC dX12_factor_173 cv_X12_126 (c_X12_figures (kl K) G A I (fu (fu F 5 g5_147) 7 1) S0 ql (show TP (I 1) S0 from by first | assumption | omega) (show RI S0 from by first | assumption | omega) (show (0 ≤ g5_147 ∧ g5_147 ≤ (F 6)) ∧ (F 6) ≤ 120 from by first | assumption | omega) (show 1 = 0 ∨ 1 = 1 from by first | assumption | omega)) (by omega) ⟨Nat.le_of_ble_eq_true rfl, Nat.le_of_ble_eq_true rfl⟩ (q0 := 0) rfl rfl rfl rfl (Nat.le_of_ble_eq_true rfl) rfl (fun vo wo hv => ?_)
                obtain ⟨g5_173, g7_173, hv1, hw1, r173⟩ := hv
                rw [hv1, hw1]
                show WW K G 0 0 (MW A G.2.1 I (fu (fu F 5 g5_173) 7 g7_173)) 176 [(3, .int (J (SX 7 (hr S0 (F 6) g5_115)))), (2, .int (J (SX 6 (hr S0 (F 6) (F 5))))), (1, .int (J (hr S0 (F 6) (F 5)))), (0, .ref (A 0))] [.int (J ((figQ S0 (F 6) (g5_147, 1, ql)).1))]
                have r173 : (g5_173, g7_173, ql) = (figQ S0 (F 6) (g5_147, 1, ql)).2 ∧ ((0 ≤ g5_173 ∧ g5_173 ≤ (F 6)) ∧ (g7_173 = 0 ∨ g7_173 = 1)) := r173
                have q173_0 := figQ_v (S := S0) (e := (F 6)) (q := (g5_147, 1, ql))
                refine w_istore (pc := 176) hC dX12_factor_176 (lv2 := [(4, .int (J ((figQ S0 (F 6) (g5_147, 1, ql)).1))), (3, .int (J (SX 7 (hr S0 (F 6) g5_115)))), (2, .int (J (SX 6 (hr S0 (F 6) (F 5))))), (1, .int (J (hr S0 (F 6) (F 5)))), (0, .ref (A 0))]) (by rw [hnL]; decide) rfl ?_
                obtain ⟨t5, t6⟩ := r173
                refine w_aload_n (pc := 178) hC dX12_factor_178 4 rfl rfl ?_
                refine w_iload_n (pc := 179) hC dX12_factor_179 2 rfl rfl ?_
                refine w_bipush (pc := 180) hC dX12_factor_180 (z := 8) rfl ?_
                refine w_iload_n (pc := 182) hC dX12_factor_182 1 rfl rfl ?_
                refine w_imul (pc := 183) hC dX12_factor_183 ?_
                refine w_iadd (pc := 184) hC dX12_factor_184 ?_
                refine w_bipush (pc := 185) hC dX12_factor_185 (z := 32) rfl ?_
                refine w_iload (pc := 187) hC dX12_factor_187 0 rfl ?_
                refine w_imul (pc := 189) hC dX12_factor_189 ?_
                refine w_iadd (pc := 190) hC dX12_factor_190 ?_
                refine w_callV (pc := 191) (As := [.int (J (((SX 6 (hr S0 (F 6) (F 5))) + (8 * (SX 7 (hr S0 (F 6) g5_115)))) + (32 * ((figQ S0 (F 6) (g5_147, 1, ql)).1))))]) (rest := []) hC dX12_factor_191 cv_X12_112 (c_X12_emits (kl K) G A I (fu (fu F 5 g5_173) 7 g7_173) S0 ql u wi (((SX 6 (hr S0 (F 6) (F 5))) + (8 * (SX 7 (hr S0 (F 6) g5_115)))) + (32 * ((figQ S0 (F 6) (g5_147, 1, ql)).1))) (show (I 1) = CLS S0 (F 4) ql u wi from by exact hS) (show 0 ≤ (F 4) ∧ (F 4) < 5 from by first | assumption | omega) (show g7_173 = 0 ∨ g7_173 = 1 from by first | assumption | omega) (show -2147483648 ≤ (((SX 6 (hr S0 (F 6) (F 5))) + (8 * (SX 7 (hr S0 (F 6) g5_115)))) + (32 * ((figQ S0 (F 6) (g5_147, 1, ql)).1))) ∧ (((SX 6 (hr S0 (F 6) (F 5))) + (8 * (SX 7 (hr S0 (F 6) g5_115)))) + (32 * ((figQ S0 (F 6) (g5_147, 1, ql)).1))) < 2147483648 from by first | assumption | omega) (show (ql.length : Int) < 140 from by first | assumption | omega)) (by omega) ⟨Nat.le_of_ble_eq_true rfl, Nat.le_of_ble_eq_true rfl⟩ (q0 := 0) rfl rfl rfl rfl (Nat.le_of_ble_eq_true rfl) rfl (fun vo wo hv => ?_)
                obtain ⟨b1_191, hv1, hw1, r191⟩ := hv
                rw [hv1, hw1]
                show WW K G 0 0 (MW A G.2.1 (au I 1 b1_191) (fu (fu F 5 g5_173) 7 g7_173)) 194 [(4, .int (J ((figQ S0 (F 6) (g5_147, 1, ql)).1))), (3, .int (J (SX 7 (hr S0 (F 6) g5_115)))), (2, .int (J (SX 6 (hr S0 (F 6) (F 5))))), (1, .int (J (hr S0 (F 6) (F 5)))), (0, .ref (A 0))] []
                have r191 : b1_191 = CLS S0 (F 4) (emt (((SX 6 (hr S0 (F 6) (F 5))) + (8 * (SX 7 (hr S0 (F 6) g5_115)))) + (32 * ((figQ S0 (F 6) (g5_147, 1, ql)).1))) (g5_173, g7_173, ql)).2.2 u wi := r191
                refine w_vret (pc := 194) hC hRT dX12_factor_194 ?_
                refine ⟨b1_191, g5_173, g7_173, (F 8), rfl, rfl, ?_⟩
                · refine ⟨⟨_, ?_, r191⟩, rfl⟩
                  rw [emt_eta, t5, fac_atm _ (show ¬ F 7 = 1 by omega) (show ¬ hr S0 (F 6) (F 5) = 33 by omega) (show ¬ hr S0 (F 6) (F 5) = 40 by omega)]
                  unfold atm
                  dsimp only
                  rw [if_neg c122] at t1
                  subst t1
                  rw [if_pos c161] at t3
                  subst t3
                  rw [if_neg c122, if_pos c161, figQ_w rfl, emt_w rfl]
          · exact absurd c137 (by decide)
        · refine w_iconst (pc := 125) hC dX12_factor_125 ?_
          refine w_goto (pc := 126) hC dX12_factor_126 (tgt := 130) (by decide) ?_
          refine w_putf (pc := 130) (w2 := MW A G.2.1 I (fu (fu F 5 g5_115) 7 1)) hC dX12_factor_130 fi_X12_83 fp_X12_7 rfl 0 rfl (rfl) (rfl) (Nat.le_of_ble_eq_true rfl) rfl ?_
          have hs6 := q115_0
          obtain ⟨t1, t2⟩ := r115
          refine w_aload_n (pc := 133) hC dX12_factor_133 2 rfl rfl ?_
          refine w_getf (pc := 134) (v := .int (J 1)) hC dX12_factor_134 fi_X12_83 0 rfl rfl ?_
          refine w_if_eq (pc := 137) (tgt := 144) hC dX12_factor_137 (by decide) (by omega) (fun c137 => ?_) (fun c137 => ?_)
          · exact absurd c137 (by decide)
          · refine w_iconst (pc := 140) hC dX12_factor_140 ?_
            refine w_goto (pc := 141) hC dX12_factor_141 (tgt := 150) (by decide) ?_
            refine w_istore_n (pc := 150) hC dX12_factor_150 rfl (lv2 := [(3, .int (J 0)), (2, .int (J (SX 6 (hr S0 (F 6) (F 5))))), (1, .int (J (hr S0 (F 6) (F 5)))), (0, .ref (A 0))]) (by rw [hnL]; decide) rfl ?_
            refine w_aload_n (pc := 151) hC dX12_factor_151 3 rfl rfl ?_
            refine w_aload_n (pc := 152) hC dX12_factor_152 3 rfl rfl ?_
            refine w_getf (pc := 153) (v := .int (J 1)) hC dX12_factor_153 fi_X12_83 0 rfl rfl ?_
            refine w_if_ne (pc := 156) (tgt := 164) hC dX12_factor_156 (by decide) (by omega) (fun c156 => ?_) (fun c156 => ?_)
            · refine w_iconst (pc := 164) hC dX12_factor_164 ?_
              refine w_goto (pc := 165) hC dX12_factor_165 (tgt := 169) (by decide) ?_
              refine w_putf (pc := 169) (w2 := MW A G.2.1 I (fu (fu F 5 g5_115) 7 1)) hC dX12_factor_169 fi_X12_83 fp_X12_7 rfl 0 rfl (rfl) (rfl) (Nat.le_of_ble_eq_true rfl) rfl ?_
              refine w_aload_n (pc := 172) hC dX12_factor_172 3 rfl rfl ?_
              refine w_callV (pc := 173) (As := []) (rest := []) hC dX12_factor_173 cv_X12_126 (c_X12_figures (kl K) G A I (fu (fu F 5 g5_115) 7 1) S0 ql (show TP (I 1) S0 from by first | assumption | omega) (show RI S0 from by first | assumption | omega) (show (0 ≤ g5_115 ∧ g5_115 ≤ (F 6)) ∧ (F 6) ≤ 120 from by first | assumption | omega) (show 1 = 0 ∨ 1 = 1 from by first | assumption | omega)) (by omega) ⟨Nat.le_of_ble_eq_true rfl, Nat.le_of_ble_eq_true rfl⟩ (q0 := 0) rfl rfl rfl rfl (Nat.le_of_ble_eq_true rfl) rfl (fun vo wo hv => ?_)
              obtain ⟨g5_173, g7_173, hv1, hw1, r173⟩ := hv
              rw [hv1, hw1]
              show WW K G 0 0 (MW A G.2.1 I (fu (fu F 5 g5_173) 7 g7_173)) 176 [(3, .int (J 0)), (2, .int (J (SX 6 (hr S0 (F 6) (F 5))))), (1, .int (J (hr S0 (F 6) (F 5)))), (0, .ref (A 0))] [.int (J ((figQ S0 (F 6) (g5_115, 1, ql)).1))]
              have r173 : (g5_173, g7_173, ql) = (figQ S0 (F 6) (g5_115, 1, ql)).2 ∧ ((0 ≤ g5_173 ∧ g5_173 ≤ (F 6)) ∧ (g7_173 = 0 ∨ g7_173 = 1)) := r173
              have q173_0 := figQ_v (S := S0) (e := (F 6)) (q := (g5_115, 1, ql))
              refine w_istore (pc := 176) hC dX12_factor_176 (lv2 := [(4, .int (J ((figQ S0 (F 6) (g5_115, 1, ql)).1))), (3, .int (J 0)), (2, .int (J (SX 6 (hr S0 (F 6) (F 5))))), (1, .int (J (hr S0 (F 6) (F 5)))), (0, .ref (A 0))]) (by rw [hnL]; decide) rfl ?_
              obtain ⟨t5, t6⟩ := r173
              refine w_aload_n (pc := 178) hC dX12_factor_178 4 rfl rfl ?_
              refine w_iload_n (pc := 179) hC dX12_factor_179 2 rfl rfl ?_
              refine w_bipush (pc := 180) hC dX12_factor_180 (z := 8) rfl ?_
              refine w_iload_n (pc := 182) hC dX12_factor_182 1 rfl rfl ?_
              refine w_imul (pc := 183) hC dX12_factor_183 ?_
              refine w_iadd (pc := 184) hC dX12_factor_184 ?_
              refine w_bipush (pc := 185) hC dX12_factor_185 (z := 32) rfl ?_
              refine w_iload (pc := 187) hC dX12_factor_187 0 rfl ?_
              refine w_imul (pc := 189) hC dX12_factor_189 ?_
              refine w_iadd (pc := 190) hC dX12_factor_190 ?_
              refine w_callV (pc := 191) (As := [.int (J (((SX 6 (hr S0 (F 6) (F 5))) + (8 * 0)) + (32 * ((figQ S0 (F 6) (g5_115, 1, ql)).1))))]) (rest := []) hC dX12_factor_191 cv_X12_112 (c_X12_emits (kl K) G A I (fu (fu F 5 g5_173) 7 g7_173) S0 ql u wi (((SX 6 (hr S0 (F 6) (F 5))) + (8 * 0)) + (32 * ((figQ S0 (F 6) (g5_115, 1, ql)).1))) (show (I 1) = CLS S0 (F 4) ql u wi from by exact hS) (show 0 ≤ (F 4) ∧ (F 4) < 5 from by first | assumption | omega) (show g7_173 = 0 ∨ g7_173 = 1 from by first | assumption | omega) (show -2147483648 ≤ (((SX 6 (hr S0 (F 6) (F 5))) + (8 * 0)) + (32 * ((figQ S0 (F 6) (g5_115, 1, ql)).1))) ∧ (((SX 6 (hr S0 (F 6) (F 5))) + (8 * 0)) + (32 * ((figQ S0 (F 6) (g5_115, 1, ql)).1))) < 2147483648 from by first | assumption | omega) (show (ql.length : Int) < 140 from by first | assumption | omega)) (by omega) ⟨Nat.le_of_ble_eq_true rfl, Nat.le_of_ble_eq_true rfl⟩ (q0 := 0) rfl rfl rfl rfl (Nat.le_of_ble_eq_true rfl) rfl (fun vo wo hv => ?_)
              obtain ⟨b1_191, hv1, hw1, r191⟩ := hv
              rw [hv1, hw1]
              show WW K G 0 0 (MW A G.2.1 (au I 1 b1_191) (fu (fu F 5 g5_173) 7 g7_173)) 194 [(4, .int (J ((figQ S0 (F 6) (g5_115, 1, ql)).1))), (3, .int (J 0)), (2, .int (J (SX 6 (hr S0 (F 6) (F 5))))), (1, .int (J (hr S0 (F 6) (F 5)))), (0, .ref (A 0))] []
              have r191 : b1_191 = CLS S0 (F 4) (emt (((SX 6 (hr S0 (F 6) (F 5))) + (8 * 0)) + (32 * ((figQ S0 (F 6) (g5_115, 1, ql)).1))) (g5_173, g7_173, ql)).2.2 u wi := r191
              refine w_vret (pc := 194) hC hRT dX12_factor_194 ?_
              refine ⟨b1_191, g5_173, g7_173, (F 8), rfl, rfl, ?_⟩
              · refine ⟨⟨_, ?_, r191⟩, rfl⟩
                rw [emt_eta, t5, fac_atm _ (show ¬ F 7 = 1 by omega) (show ¬ hr S0 (F 6) (F 5) = 33 by omega) (show ¬ hr S0 (F 6) (F 5) = 40 by omega)]
                unfold atm
                dsimp only
                rw [if_pos c122] at t1
                rw [if_pos c122, t1, figQ_w rfl, emt_w rfl]
            · exact absurd c156 (by decide)
      · refine w_aload_n (pc := 25) hC dX12_factor_25 1 rfl rfl ?_
        refine w_aload_n (pc := 26) hC dX12_factor_26 1 rfl rfl ?_
        refine w_getf (pc := 27) (v := .int (J (F 8))) hC dX12_factor_27 fi_X12_106 0 rfl rfl ?_
        refine w_iconst (pc := 30) hC dX12_factor_30 ?_
        refine w_icmp_ne (pc := 31) (tgt := 38) hC dX12_factor_31 (by decide) (by omega) (fun c31 => ?_) (fun c31 => ?_)
        · refine w_iconst (pc := 38) hC dX12_factor_38 ?_
          refine w_putf (pc := 39) (w2 := MW A G.2.1 I (fu F 7 0)) hC dX12_factor_39 fi_X12_83 fp_X12_7 rfl 0 rfl (rfl) (rfl) (Nat.le_of_ble_eq_true rfl) rfl ?_
          refine w_aload_n (pc := 42) hC dX12_factor_42 1 rfl rfl ?_
          refine w_dup (pc := 43) hC dX12_factor_43 rfl ?_
          refine w_getf (pc := 44) (v := .int (J (F 8))) hC dX12_factor_44 fi_X12_106 0 rfl rfl ?_
          refine w_iconst (pc := 47) hC dX12_factor_47 ?_
          refine w_iadd (pc := 48) hC dX12_factor_48 ?_
          refine w_putf (pc := 49) (w2 := MW A G.2.1 I (fu (fu F 7 0) 8 ((F 8) + 1))) hC dX12_factor_49 fi_X12_106 fp_X12_8 rfl 0 rfl (rfl) (rfl) (Nat.le_of_ble_eq_true rfl) rfl ?_
          refine w_aload_n (pc := 52) hC dX12_factor_52 1 rfl rfl ?_
          refine w_dup (pc := 53) hC dX12_factor_53 rfl ?_
          refine w_getf (pc := 54) (v := .int (J (F 5))) hC dX12_factor_54 fi_X12_77 0 rfl rfl ?_
          refine w_aload_n (pc := 57) hC dX12_factor_57 1 rfl rfl ?_
          refine w_getf (pc := 58) (v := .int (J 0)) hC dX12_factor_58 fi_X12_83 0 rfl rfl ?_
          refine w_if_eq (pc := 61) (tgt := 68) hC dX12_factor_61 (by decide) (by omega) (fun c61 => ?_) (fun c61 => ?_)
          · refine w_iconst (pc := 68) hC dX12_factor_68 ?_
            refine w_iadd (pc := 69) hC dX12_factor_69 ?_
            refine w_putf (pc := 70) (w2 := MW A G.2.1 I (fu (fu (fu F 5 ((F 5) + 1)) 7 0) 8 ((F 8) + 1))) hC dX12_factor_70 fi_X12_77 fp_X12_5 rfl 0 rfl (rfl) (rfl) (Nat.le_of_ble_eq_true rfl) rfl ?_
            have hat := hr_at (S := S0) (e := F 6) (sp := F 5) rfl (by omega)
            have hb25 : PB (F 6) ((F 5) + 1, 0, ql) := ⟨⟨by dsimp only; omega, by dsimp only; omega⟩, Or.inl rfl⟩
            refine w_iload_n (pc := 73) hC dX12_factor_73 0 rfl rfl ?_
            refine w_bipush (pc := 74) hC dX12_factor_74 (z := 33) rfl ?_
            refine w_icmp_ne (pc := 76) (tgt := 91) hC dX12_factor_76 (by decide) (by omega) (fun c76 => ?_) (fun c76 => ?_)
            · refine w_aload_n (pc := 91) hC dX12_factor_91 1 rfl rfl ?_
              refine w_callV (pc := 92) (As := []) (rest := []) hC dX12_factor_92 cv_X12_115 ((IH (m - 1) (by omega)).2.2 A I (fu (fu (fu F 5 ((F 5) + 1)) 7 0) 8 ((F 8) + 1)) S0 ql u wi (show (I 1) = CLS S0 (F 4) ql u wi from by exact hS) (show RI S0 from by first | assumption | omega) (show 0 ≤ (F 4) ∧ (F 4) < 5 from by first | assumption | omega) (show (0 ≤ ((F 5) + 1) ∧ ((F 5) + 1) ≤ (F 6)) ∧ (F 6) ≤ 120 from by first | assumption | omega) (show 0 = 0 ∨ 0 = 1 from by first | assumption | omega) (show (ql.length : Int) ≤ ((F 5) + 1) from by first | assumption | omega) (show (0 ≤ ((F 8) + 1) ∧ ((F 8) + 1) ≤ 6) ∧ (((F 8) + 1) = 6 → 0 = 1) from by first | assumption | omega) (show (3 * (6 - ((F 8) + 1)) + 2).toNat ≤ (m - 1) from by first | assumption | omega)) (by omega) ⟨Nat.le_of_ble_eq_true rfl, Nat.le_of_ble_eq_true rfl⟩ (q0 := 0) rfl rfl rfl rfl (Nat.le_of_ble_eq_true rfl) rfl (fun vo wo hv => ?_)
              obtain ⟨b1_92, g5_92, g7_92, g8_92, hv1, hw1, r92⟩ := hv
              rw [hv1, hw1]
              show WW K G 0 0 (MW A G.2.1 (au I 1 b1_92) (fu (fu (fu F 5 g5_92) 7 g7_92) 8 g8_92)) 95 [(1, .int (J (hr S0 (F 6) (F 5)))), (0, .ref (A 0))] []
              have r92 : (∃ l2 : List Int, (g5_92, g7_92, l2) = (som S0 (F 6) (fac S0 (F 6) (5 - ((F 8) + 1)).toNat)) (((F 5) + 1), 0, ql) ∧ b1_92 = CLS S0 (F 4) l2 u wi) ∧ g8_92 = ((F 8) + 1) := r92
              obtain ⟨⟨l92, hq92, hS92⟩, ho92⟩ := r92
              have hg92 := som_gr (S := S0) (e := F 6) (f := fac S0 (F 6) (5 - (F 8 + 1)).toNat) (fac_gr (S := S0) (5 - (F 8 + 1)).toNat) (q := (F 5 + 1, 0, ql)) hb25
              rw [← hq92] at hg92
              have hp92 := hg92.pb hb25
              have hx92 := hg92.2.2
              have hy92 := hg92.1
              dsimp only at hx92 hy92
              have hz92 := hp92.2
              have hv92 := hp92.1
              dsimp only at hz92 hv92
              have hT92 := CLS_tp (S := S0) (a := F 4) (l := l92) (u := u) (w := wi) ha.1
              rw [← hS92] at hT92
              have hlt := he.2
              refine w_aload_n (pc := 95) hC dX12_factor_95 1 rfl rfl ?_
              refine w_bipush (pc := 96) hC dX12_factor_96 (z := 41) rfl ?_
              refine w_callV (pc := 98) (As := [.int (J 41)]) (rest := []) hC dX12_factor_98 cv_X12_99 (c_X12_must (kl K) G A (au I 1 b1_92) (fu (fu (fu F 5 g5_92) 7 g7_92) 8 g8_92) S0 l92 41 (show TP b1_92 S0 from by exact hT92) (show RI S0 from by first | assumption | omega) (show (0 ≤ g5_92 ∧ g5_92 ≤ (F 6)) ∧ (F 6) ≤ 120 from by first | assumption | omega) (show g7_92 = 0 ∨ g7_92 = 1 from by first | assumption | omega) (show 0 ≤ 41 ∧ 41 < 65536 from by decide)) (by omega) ⟨Nat.le_of_ble_eq_true rfl, Nat.le_of_ble_eq_true rfl⟩ (q0 := 0) rfl rfl rfl rfl (Nat.le_of_ble_eq_true rfl) rfl (fun vo wo hv => ?_)
              obtain ⟨g5_98, g7_98, hv1, hw1, r98⟩ := hv
              rw [hv1, hw1]
              show WW K G 0 0 (MW A G.2.1 (au I 1 b1_92) (fu (fu (fu F 5 g5_98) 7 g7_98) 8 g8_92)) 101 [(1, .int (J (hr S0 (F 6) (F 5)))), (0, .ref (A 0))] []
              have r98 : (g5_98, g7_98, l92) = mst S0 (F 6) 41 (g5_92, g7_92, l92) ∧ ((0 ≤ g5_98 ∧ g5_98 ≤ (F 6)) ∧ (g7_98 = 0 ∨ g7_98 = 1)) := r98
              refine w_aload_n (pc := 101) hC dX12_factor_101 1 rfl rfl ?_
              refine w_dup (pc := 102) hC dX12_factor_102 rfl ?_
              refine w_getf (pc := 103) (v := .int (J g8_92)) hC dX12_factor_103 fi_X12_106 0 rfl rfl ?_
              refine w_iconst (pc := 106) hC dX12_factor_106 ?_
              refine w_isub (pc := 107) hC dX12_factor_107 ?_
              refine w_putf (pc := 108) (w2 := MW A G.2.1 (au I 1 b1_92) (fu (fu (fu F 5 g5_98) 7 g7_98) 8 (g8_92 - 1))) hC dX12_factor_108 fi_X12_106 fp_X12_8 rfl 0 rfl (rfl) (rfl) (Nat.le_of_ble_eq_true rfl) rfl ?_
              refine w_vret (pc := 111) hC hRT dX12_factor_111 ?_
              refine ⟨b1_92, g5_98, g7_98, g8_92 - 1, rfl, rfl, ?_⟩
              · refine ⟨⟨_, ?_, hS92⟩, by omega⟩
                rw [r98.1, hq92]
                rw [show (5 - F 8).toNat = (5 - (F 8 + 1)).toNat + 1 by omega, fac_par _ (show ¬ F 7 = 1 by omega) (show hr S0 (F 6) (F 5) = 40 by omega)]
            · exfalso; omega
          · exact absurd c61 (by decide)
        · refine w_iconst (pc := 34) hC dX12_factor_34 ?_
          refine w_goto (pc := 35) hC dX12_factor_35 (tgt := 39) (by decide) ?_
          refine w_putf (pc := 39) (w2 := MW A G.2.1 I (fu F 7 1)) hC dX12_factor_39 fi_X12_83 fp_X12_7 rfl 0 rfl (rfl) (rfl) (Nat.le_of_ble_eq_true rfl) rfl ?_
          refine w_aload_n (pc := 42) hC dX12_factor_42 1 rfl rfl ?_
          refine w_dup (pc := 43) hC dX12_factor_43 rfl ?_
          refine w_getf (pc := 44) (v := .int (J (F 8))) hC dX12_factor_44 fi_X12_106 0 rfl rfl ?_
          refine w_iconst (pc := 47) hC dX12_factor_47 ?_
          refine w_iadd (pc := 48) hC dX12_factor_48 ?_
          refine w_putf (pc := 49) (w2 := MW A G.2.1 I (fu (fu F 7 1) 8 ((F 8) + 1))) hC dX12_factor_49 fi_X12_106 fp_X12_8 rfl 0 rfl (rfl) (rfl) (Nat.le_of_ble_eq_true rfl) rfl ?_
          refine w_aload_n (pc := 52) hC dX12_factor_52 1 rfl rfl ?_
          refine w_dup (pc := 53) hC dX12_factor_53 rfl ?_
          refine w_getf (pc := 54) (v := .int (J (F 5))) hC dX12_factor_54 fi_X12_77 0 rfl rfl ?_
          refine w_aload_n (pc := 57) hC dX12_factor_57 1 rfl rfl ?_
          refine w_getf (pc := 58) (v := .int (J 1)) hC dX12_factor_58 fi_X12_83 0 rfl rfl ?_
          refine w_if_eq (pc := 61) (tgt := 68) hC dX12_factor_61 (by decide) (by omega) (fun c61 => ?_) (fun c61 => ?_)
          · exact absurd c61 (by decide)
          · refine w_iconst (pc := 64) hC dX12_factor_64 ?_
            refine w_goto (pc := 65) hC dX12_factor_65 (tgt := 69) (by decide) ?_
            refine w_iadd (pc := 69) hC dX12_factor_69 ?_
            refine w_putf (pc := 70) (w2 := MW A G.2.1 I (fu (fu (fu F 5 ((F 5) + 0)) 7 1) 8 ((F 8) + 1))) hC dX12_factor_70 fi_X12_77 fp_X12_5 rfl 0 rfl (rfl) (rfl) (Nat.le_of_ble_eq_true rfl) rfl ?_
            have hat := hr_at (S := S0) (e := F 6) (sp := F 5) rfl (by omega)
            have hb25 : PB (F 6) ((F 5) + 0, 1, ql) := ⟨⟨by dsimp only; omega, by dsimp only; omega⟩, Or.inr rfl⟩
            refine w_iload_n (pc := 73) hC dX12_factor_73 0 rfl rfl ?_
            refine w_bipush (pc := 74) hC dX12_factor_74 (z := 33) rfl ?_
            refine w_icmp_ne (pc := 76) (tgt := 91) hC dX12_factor_76 (by decide) (by omega) (fun c76 => ?_) (fun c76 => ?_)
            · refine w_aload_n (pc := 91) hC dX12_factor_91 1 rfl rfl ?_
              refine w_callV (pc := 92) (As := []) (rest := []) hC dX12_factor_92 cv_X12_115 ((IH (m - 1) (by omega)).2.2 A I (fu (fu (fu F 5 ((F 5) + 0)) 7 1) 8 ((F 8) + 1)) S0 ql u wi (show (I 1) = CLS S0 (F 4) ql u wi from by exact hS) (show RI S0 from by first | assumption | omega) (show 0 ≤ (F 4) ∧ (F 4) < 5 from by first | assumption | omega) (show (0 ≤ ((F 5) + 0) ∧ ((F 5) + 0) ≤ (F 6)) ∧ (F 6) ≤ 120 from by first | assumption | omega) (show 1 = 0 ∨ 1 = 1 from by first | assumption | omega) (show (ql.length : Int) ≤ ((F 5) + 0) from by first | assumption | omega) (show (0 ≤ ((F 8) + 1) ∧ ((F 8) + 1) ≤ 6) ∧ (((F 8) + 1) = 6 → 1 = 1) from by first | assumption | omega) (show (3 * (6 - ((F 8) + 1)) + 2).toNat ≤ (m - 1) from by first | assumption | omega)) (by omega) ⟨Nat.le_of_ble_eq_true rfl, Nat.le_of_ble_eq_true rfl⟩ (q0 := 0) rfl rfl rfl rfl (Nat.le_of_ble_eq_true rfl) rfl (fun vo wo hv => ?_)
              obtain ⟨b1_92, g5_92, g7_92, g8_92, hv1, hw1, r92⟩ := hv
              rw [hv1, hw1]
              show WW K G 0 0 (MW A G.2.1 (au I 1 b1_92) (fu (fu (fu F 5 g5_92) 7 g7_92) 8 g8_92)) 95 [(1, .int (J (hr S0 (F 6) (F 5)))), (0, .ref (A 0))] []
              have r92 : (∃ l2 : List Int, (g5_92, g7_92, l2) = (som S0 (F 6) (fac S0 (F 6) (5 - ((F 8) + 1)).toNat)) (((F 5) + 0), 1, ql) ∧ b1_92 = CLS S0 (F 4) l2 u wi) ∧ g8_92 = ((F 8) + 1) := r92
              obtain ⟨⟨l92, hq92, hS92⟩, ho92⟩ := r92
              have hg92 := som_gr (S := S0) (e := F 6) (f := fac S0 (F 6) (5 - (F 8 + 1)).toNat) (fac_gr (S := S0) (5 - (F 8 + 1)).toNat) (q := (F 5 + 0, 1, ql)) hb25
              rw [← hq92] at hg92
              have hp92 := hg92.pb hb25
              have hx92 := hg92.2.2
              have hy92 := hg92.1
              dsimp only at hx92 hy92
              have hz92 := hp92.2
              have hv92 := hp92.1
              dsimp only at hz92 hv92
              have hT92 := CLS_tp (S := S0) (a := F 4) (l := l92) (u := u) (w := wi) ha.1
              rw [← hS92] at hT92
              have hlt := he.2
              refine w_aload_n (pc := 95) hC dX12_factor_95 1 rfl rfl ?_
              refine w_bipush (pc := 96) hC dX12_factor_96 (z := 41) rfl ?_
              refine w_callV (pc := 98) (As := [.int (J 41)]) (rest := []) hC dX12_factor_98 cv_X12_99 (c_X12_must (kl K) G A (au I 1 b1_92) (fu (fu (fu F 5 g5_92) 7 g7_92) 8 g8_92) S0 l92 41 (show TP b1_92 S0 from by exact hT92) (show RI S0 from by first | assumption | omega) (show (0 ≤ g5_92 ∧ g5_92 ≤ (F 6)) ∧ (F 6) ≤ 120 from by first | assumption | omega) (show g7_92 = 0 ∨ g7_92 = 1 from by first | assumption | omega) (show 0 ≤ 41 ∧ 41 < 65536 from by decide)) (by omega) ⟨Nat.le_of_ble_eq_true rfl, Nat.le_of_ble_eq_true rfl⟩ (q0 := 0) rfl rfl rfl rfl (Nat.le_of_ble_eq_true rfl) rfl (fun vo wo hv => ?_)
              obtain ⟨g5_98, g7_98, hv1, hw1, r98⟩ := hv
              rw [hv1, hw1]
              show WW K G 0 0 (MW A G.2.1 (au I 1 b1_92) (fu (fu (fu F 5 g5_98) 7 g7_98) 8 g8_92)) 101 [(1, .int (J (hr S0 (F 6) (F 5)))), (0, .ref (A 0))] []
              have r98 : (g5_98, g7_98, l92) = mst S0 (F 6) 41 (g5_92, g7_92, l92) ∧ ((0 ≤ g5_98 ∧ g5_98 ≤ (F 6)) ∧ (g7_98 = 0 ∨ g7_98 = 1)) := r98
              refine w_aload_n (pc := 101) hC dX12_factor_101 1 rfl rfl ?_
              refine w_dup (pc := 102) hC dX12_factor_102 rfl ?_
              refine w_getf (pc := 103) (v := .int (J g8_92)) hC dX12_factor_103 fi_X12_106 0 rfl rfl ?_
              refine w_iconst (pc := 106) hC dX12_factor_106 ?_
              refine w_isub (pc := 107) hC dX12_factor_107 ?_
              refine w_putf (pc := 108) (w2 := MW A G.2.1 (au I 1 b1_92) (fu (fu (fu F 5 g5_98) 7 g7_98) 8 (g8_92 - 1))) hC dX12_factor_108 fi_X12_106 fp_X12_8 rfl 0 rfl (rfl) (rfl) (Nat.le_of_ble_eq_true rfl) rfl ?_
              refine w_vret (pc := 111) hC hRT dX12_factor_111 ?_
              refine ⟨b1_92, g5_98, g7_98, g8_92 - 1, rfl, rfl, ?_⟩
              · refine ⟨⟨_, ?_, hS92⟩, by omega⟩
                rw [r98.1, hq92]
                rw [som_w (fun q h => fac_w _ h) rfl, mst_w rfl, show (5 - F 8).toNat = 0 by omega, fac_out (show ¬ F 7 = 1 by omega) (show hr S0 (F 6) (F 5) = 33 ∨ hr S0 (F 6) (F 5) = 40 by omega), Int.add_zero]
            · exfalso; omega
  · refine w_vret (pc := 7) hC hRT dX12_factor_7 ?_
    refine ⟨(I 1), (F 5), (F 7), (F 8), rfl, rfl, ?_⟩
    · exact ⟨⟨ql, (fac_w _ (show F 7 = 1 by omega)).symm, hS⟩, rfl⟩
set_option maxRecDepth 100000 in
set_option maxHeartbeats 4000000 in
theorem r_X12_every (l : Launch) (G : GT) (m : Nat) (IH : ∀ m2 : Nat, m2 < m → PG_parse l G m2) (A : Nat → Nat) (I : Nat → Int → Int) (F : Nat → Int) (S0 : Int → Int) (ql : List Int) (u : Int) (wi : Int) (hS : (I 1) = CLS S0 (F 4) ql u wi) (hR : RI S0) (ha : 0 ≤ (F 4) ∧ (F 4) < 5) (he : (0 ≤ (F 5) ∧ (F 5) ≤ (F 6)) ∧ (F 6) ≤ 120) (hw : (F 7) = 0 ∨ (F 7) = 1) (hl : (ql.length : Int) ≤ (F 5)) (ho : (0 ≤ (F 8) ∧ (F 8) ≤ 6) ∧ ((F 8) = 6 → (F 7) = 1)) (hm : (3 * (6 - (F 8)) + 1).toNat ≤ m) : CT l yX12_every cX12_every 1 none (5 + m) 0 0 G [.ref (A 0)] (MW A G.2.1 I F) (fun vo wo => ∃ (b1 : Int → Int) (g5 : Int) (g7 : Int) (g8 : Int), vo = none ∧ wo = MW A G.2.1 (au I 1 b1) (fu (fu (fu F 5 g5) 7 g7) 8 g8) ∧ ((∃ l2 : List Int, (g5, g7, l2) = (evr S0 (F 6) (fac S0 (F 6) (5 - (F 8)).toNat)) ((F 5), (F 7), ql) ∧ b1 = CLS S0 (F 4) l2 u wi) ∧ g8 = (F 8))) := by
  refine CT_of (own := RX12) rfl rfl (Nat.le_of_ble_eq_true rfl) (fun K hl hnL hC hRT hin => ?_)
  subst hl
  show WW K G 0 0 (MW A G.2.1 I F) 0 [(0, .ref (A 0))] []
  have hTP := CLS_tp (S := S0) (a := F 4) (l := ql) (u := u) (w := wi) ha.1
  rw [← hS] at hTP
  have hPB : PB (F 6) (F 5, F 7, ql) := ⟨he.1, hw⟩
  have h96 : stl 6 = 6 := rfl
  have h97 : stl 7 = 3 := rfl
  refine w_aload_n (pc := 0) hC dX12_every_0 0 rfl rfl ?_
  refine w_callV (pc := 1) (As := []) (rest := []) hC dX12_every_1 cv_X12_109 ((IH (m - 1) (by omega)).1 A I F S0 ql u wi (show (I 1) = CLS S0 (F 4) ql u wi from by exact hS) (show RI S0 from by first | assumption | omega) (show 0 ≤ (F 4) ∧ (F 4) < 5 from by first | assumption | omega) (show (0 ≤ (F 5) ∧ (F 5) ≤ (F 6)) ∧ (F 6) ≤ 120 from by first | assumption | omega) (show (F 7) = 0 ∨ (F 7) = 1 from by first | assumption | omega) (show (ql.length : Int) ≤ (F 5) from by first | assumption | omega) (show (0 ≤ (F 8) ∧ (F 8) ≤ 6) ∧ ((F 8) = 6 → (F 7) = 1) from by first | assumption | omega) (show (3 * (6 - (F 8)) + 0).toNat ≤ (m - 1) from by omega)) (by omega) ⟨Nat.le_of_ble_eq_true rfl, Nat.le_of_ble_eq_true rfl⟩ (q0 := 0) rfl rfl rfl rfl (Nat.le_of_ble_eq_true rfl) rfl (fun vo wo hv => ?_)
  obtain ⟨b1_1, g5_1, g7_1, g8_1, hv1, hw1, r1⟩ := hv
  rw [hv1, hw1]
  show WW K G 0 0 (MW A G.2.1 (au I 1 b1_1) (fu (fu (fu F 5 g5_1) 7 g7_1) 8 g8_1)) 4 [(0, .ref (A 0))] []
  have r1 : (∃ l2 : List Int, (g5_1, g7_1, l2) = (fac S0 (F 6) (5 - (F 8)).toNat) ((F 5), (F 7), ql) ∧ b1_1 = CLS S0 (F 4) l2 u wi) ∧ g8_1 = (F 8) := r1
  obtain ⟨⟨l1, hq1, hS1⟩, ho1⟩ := r1
  have hg1 := fac_gr (S := S0) (e := F 6) (5 - (F 8)).toNat (F 5, F 7, ql) hPB
  rw [← hq1] at hg1
  have hp1 := hg1.pb hPB
  have hx1 := hg1.2.2
  have hy1 := hg1.1
  dsimp only at hx1 hy1
  have hz1 := hp1.2
  have hv1 := hp1.1
  dsimp only at hz1 hv1
  have hT1 := CLS_tp (S := S0) (a := F 4) (l := l1) (u := u) (w := wi) ha.1
  rw [← hS1] at hT1
  have loop4 : ∀ (nF : Nat) (a1_4 : Int → Int) (f5_4 : Int) (f7_4 : Int) (f8_4 : Int), ((0 ≤ f5_4 ∧ f5_4 ≤ (F 6)) ∧ (f7_4 = 0 ∨ f7_4 = 1)) → (∃ (l4 : List Int) (kk : Nat), a1_4 = CLS S0 (F 4) l4 u wi ∧ GR (F 6) ((F 5), (F 7), ql) (f5_4, f7_4, l4) ∧ (F 6) - f5_4 < (kk : Int) ∧ lp S0 (F 6) (fac S0 (F 6) (5 - (F 8)).toNat) 38 (-2) kk (f5_4, f7_4, l4) = (evr S0 (F 6) (fac S0 (F 6) (5 - (F 8)).toNat)) ((F 5), (F 7), ql)) → (f8_4 = (F 8)) → ((F 8) = 6 → f7_4 = 1) → ((F 6) - f5_4) < (nF : Int) → WW K G 0 0 (MW A G.2.1 (au I 1 a1_4) (fu (fu (fu F 5 f5_4) 7 f7_4) 8 f8_4)) 4 [(0, .ref (A 0))] [] := by
    intro nF
    induction nF with
    | zero => intro a1_4 f5_4 f7_4 f8_4 i1 i2 i3 i4 hm4; exact absurd hm4 (by omega)
    | succ nF ih4 =>
      intro a1_4 f5_4 f7_4 f8_4 i1 i2 i3 i4 hm4
      obtain ⟨l4, kk, j1, j2, j3, j4⟩ := i2
      have jx := j2.2.2
      dsimp only at jx
      have hT4 := CLS_tp (S := S0) (a := F 4) (l := l4) (u := u) (w := wi) ha.1
      rw [← j1] at hT4
      refine w_aload_n (pc := 4) hC dX12_every_4 0 rfl rfl ?_
      refine w_getf (pc := 5) (v := .int (J f7_4)) hC dX12_every_5 fi_X12_83 0 rfl rfl ?_
      refine w_if_ne (pc := 8) (tgt := 43) hC dX12_every_8 (by decide) (by omega) (fun c8 => ?_) (fun c8 => ?_)
      · refine w_vret (pc := 43) hC hRT dX12_every_43 ?_
        refine ⟨a1_4, f5_4, f7_4, f8_4, rfl, rfl, ?_⟩
        · refine ⟨⟨l4, ?_, j1⟩, i3⟩
          rw [← j4, lp_end _ (show ¬ (f7_4 = 0 ∧ hr S0 (F 6) f5_4 = 38) by omega)]
      · refine w_aload_n (pc := 11) hC dX12_every_11 0 rfl rfl ?_
        refine w_callV (pc := 12) (As := []) (rest := []) hC dX12_every_12 cv_X12_87 (c_X12_here (kl K) G A (au I 1 a1_4) (fu (fu (fu F 5 f5_4) 7 f7_4) 8 f8_4) S0 (show TP a1_4 S0 from by exact hT4) (show RI S0 from by first | assumption | omega) (show (0 ≤ f5_4 ∧ f5_4 ≤ (F 6)) ∧ (F 6) ≤ 120 from by first | assumption | omega)) (by omega) ⟨Nat.le_of_ble_eq_true rfl, Nat.le_of_ble_eq_true rfl⟩ (q0 := 0) rfl rfl rfl rfl (Nat.le_of_ble_eq_true rfl) rfl (fun vo wo hv => ?_)
        obtain ⟨hv1, hw1⟩ := hv
        rw [hv1, hw1]
        show WW K G 0 0 (MW A G.2.1 (au I 1 a1_4) (fu (fu (fu F 5 f5_4) 7 f7_4) 8 f8_4)) 15 [(0, .ref (A 0))] [.int (J (hr S0 (F 6) f5_4))]
        have q12_0 := hr_bd (e := (F 6)) (sp := f5_4) (by assumption : RI S0) (by omega) (by omega)
        refine w_bipush (pc := 15) hC dX12_every_15 (z := 38) rfl ?_
        refine w_icmp_ne (pc := 17) (tgt := 43) hC dX12_every_17 (by decide) (by omega) (fun c17 => ?_) (fun c17 => ?_)
        · refine w_vret (pc := 43) hC hRT dX12_every_43 ?_
          refine ⟨a1_4, f5_4, f7_4, f8_4, rfl, rfl, ?_⟩
          · refine ⟨⟨l4, ?_, j1⟩, i3⟩
            rw [← j4, lp_end _ (show ¬ (f7_4 = 0 ∧ hr S0 (F 6) f5_4 = 38) by omega)]
        · have hat := hr_at (S := S0) (e := F 6) (sp := f5_4) rfl (by omega)
          have hb4 : PB (F 6) (f5_4 + 1, f7_4, l4) := ⟨⟨by dsimp only; omega, by dsimp only; omega⟩, i1.2⟩
          refine w_aload_n (pc := 20) hC dX12_every_20 0 rfl rfl ?_
          refine w_dup (pc := 21) hC dX12_every_21 rfl ?_
          refine w_getf (pc := 22) (v := .int (J f5_4)) hC dX12_every_22 fi_X12_77 0 rfl rfl ?_
          refine w_iconst (pc := 25) hC dX12_every_25 ?_
          refine w_iadd (pc := 26) hC dX12_every_26 ?_
          refine w_putf (pc := 27) (w2 := MW A G.2.1 (au I 1 a1_4) (fu (fu (fu F 5 (f5_4 + 1)) 7 f7_4) 8 f8_4)) hC dX12_every_27 fi_X12_77 fp_X12_5 rfl 0 rfl (rfl) (rfl) (Nat.le_of_ble_eq_true rfl) rfl ?_
          refine w_aload_n (pc := 30) hC dX12_every_30 0 rfl rfl ?_
          refine w_callV (pc := 31) (As := []) (rest := []) hC dX12_every_31 cv_X12_109 ((IH (m - 1) (by omega)).1 A (au I 1 a1_4) (fu (fu (fu F 5 (f5_4 + 1)) 7 f7_4) 8 f8_4) S0 l4 u wi (show a1_4 = CLS S0 (F 4) l4 u wi from by exact j1) (show RI S0 from by first | assumption | omega) (show 0 ≤ (F 4) ∧ (F 4) < 5 from by first | assumption | omega) (show (0 ≤ (f5_4 + 1) ∧ (f5_4 + 1) ≤ (F 6)) ∧ (F 6) ≤ 120 from by first | assumption | omega) (show f7_4 = 0 ∨ f7_4 = 1 from by first | assumption | omega) (show (l4.length : Int) ≤ (f5_4 + 1) from by first | assumption | omega) (show (0 ≤ f8_4 ∧ f8_4 ≤ 6) ∧ (f8_4 = 6 → f7_4 = 1) from by first | assumption | omega) (show (3 * (6 - f8_4) + 0).toNat ≤ (m - 1) from by omega)) (by omega) ⟨Nat.le_of_ble_eq_true rfl, Nat.le_of_ble_eq_true rfl⟩ (q0 := 0) rfl rfl rfl rfl (Nat.le_of_ble_eq_true rfl) rfl (fun vo wo hv => ?_)
          obtain ⟨b1_31, g5_31, g7_31, g8_31, hv1, hw1, r31⟩ := hv
          rw [hv1, hw1]
          show WW K G 0 0 (MW A G.2.1 (au I 1 b1_31) (fu (fu (fu F 5 g5_31) 7 g7_31) 8 g8_31)) 34 [(0, .ref (A 0))] []
          have r31 : (∃ l2 : List Int, (g5_31, g7_31, l2) = (fac S0 (F 6) (5 - f8_4).toNat) ((f5_4 + 1), f7_4, l4) ∧ b1_31 = CLS S0 (F 4) l2 u wi) ∧ g8_31 = f8_4 := r31
          obtain ⟨⟨l31, hq31, hS31⟩, ho31⟩ := r31
          have hg31 := fac_gr (S := S0) (e := F 6) (5 - f8_4).toNat (f5_4 + 1, f7_4, l4) hb4
          rw [← hq31] at hg31
          have hp31 := hg31.pb hb4
          have hx31 := hg31.2.2
          have hy31 := hg31.1
          dsimp only at hx31 hy31
          have hz31 := hp31.2
          have hv31 := hp31.1
          dsimp only at hz31 hv31
          have hT31 := CLS_tp (S := S0) (a := F 4) (l := l31) (u := u) (w := wi) ha.1
          rw [← hS31] at hT31
          refine w_aload_n (pc := 34) hC dX12_every_34 0 rfl rfl ?_
          refine w_bipush (pc := 35) hC dX12_every_35 (z := (-2)) rfl ?_
          refine w_callV (pc := 37) (As := [.int (J (-2))]) (rest := []) hC dX12_every_37 cv_X12_112 (c_X12_emits (kl K) G A (au I 1 b1_31) (fu (fu (fu F 5 g5_31) 7 g7_31) 8 g8_31) S0 l31 u wi (-2) (show b1_31 = CLS S0 (F 4) l31 u wi from by exact hS31) (show 0 ≤ (F 4) ∧ (F 4) < 5 from by first | assumption | omega) (show g7_31 = 0 ∨ g7_31 = 1 from by first | assumption | omega) (show -2147483648 ≤ (-2) ∧ (-2) < 2147483648 from by first | assumption | omega) (show (l31.length : Int) < 140 from by first | assumption | omega)) (by omega) ⟨Nat.le_of_ble_eq_true rfl, Nat.le_of_ble_eq_true rfl⟩ (q0 := 0) rfl rfl rfl rfl (Nat.le_of_ble_eq_true rfl) rfl (fun vo wo hv => ?_)
          obtain ⟨b1_37, hv1, hw1, r37⟩ := hv
          rw [hv1, hw1]
          show WW K G 0 0 (MW A G.2.1 (au I 1 b1_37) (fu (fu (fu F 5 g5_31) 7 g7_31) 8 g8_31)) 40 [(0, .ref (A 0))] []
          have r37 : b1_37 = CLS S0 (F 4) (emt (-2) (g5_31, g7_31, l31)).2.2 u wi := r37
          refine w_goto (pc := 40) hC dX12_every_40 (tgt := 4) (by decide) ?_
          refine ih4 b1_37 g5_31 g7_31 g8_31 ?_ ?_ ?_ ?_ ?_
          · first | assumption | omega
          · refine ⟨_, kk - 1, r37, ?_, by omega, ?_⟩
            · rw [emt_eta]; exact j2.trans (emt_gr hg31)
            · have hn := lp_next (S := S0) (e := F 6) (f := (fac S0 (F 6) (5 - (F 8)).toNat)) (c := 38) (s := -2) (q := (f5_4, f7_4, l4)) j3 ⟨by show f7_4 = 0; omega, c17⟩ (by decide); rw [emt_eta, ← j4, hn, hq31, i3]
          · first | assumption | omega
          · intro h; omega
          · omega
  refine loop4 (((F 6) - g5_1) + 1 : Int).toNat b1_1 g5_1 g7_1 g8_1 ?_ ?_ ?_ ?_ ?_
  · first | assumption | omega
  · exact ⟨l1, 130, hS1, hg1, by omega, by rw [hq1]; rfl⟩
  · first | assumption | omega
  · intro h; have hw1 := ho.2 h; have h8 := congrArg (fun q : PQ => q.2.1) hq1; rw [fac_w _ (show ((F 5, F 7, ql) : PQ).2.1 = 1 from hw1)] at h8; exact h8.trans hw1
  · omega
set_option maxRecDepth 100000 in
set_option maxHeartbeats 4000000 in
theorem r_X12_some (l : Launch) (G : GT) (m : Nat) (IH : ∀ m2 : Nat, m2 < m → PG_parse l G m2) (A : Nat → Nat) (I : Nat → Int → Int) (F : Nat → Int) (S0 : Int → Int) (ql : List Int) (u : Int) (wi : Int) (hS : (I 1) = CLS S0 (F 4) ql u wi) (hR : RI S0) (ha : 0 ≤ (F 4) ∧ (F 4) < 5) (he : (0 ≤ (F 5) ∧ (F 5) ≤ (F 6)) ∧ (F 6) ≤ 120) (hw : (F 7) = 0 ∨ (F 7) = 1) (hl : (ql.length : Int) ≤ (F 5)) (ho : (0 ≤ (F 8) ∧ (F 8) ≤ 6) ∧ ((F 8) = 6 → (F 7) = 1)) (hm : (3 * (6 - (F 8)) + 2).toNat ≤ m) : CT l yX12_some cX12_some 1 none (5 + m) 0 0 G [.ref (A 0)] (MW A G.2.1 I F) (fun vo wo => ∃ (b1 : Int → Int) (g5 : Int) (g7 : Int) (g8 : Int), vo = none ∧ wo = MW A G.2.1 (au I 1 b1) (fu (fu (fu F 5 g5) 7 g7) 8 g8) ∧ ((∃ l2 : List Int, (g5, g7, l2) = (som S0 (F 6) (fac S0 (F 6) (5 - (F 8)).toNat)) ((F 5), (F 7), ql) ∧ b1 = CLS S0 (F 4) l2 u wi) ∧ g8 = (F 8))) := by
  refine CT_of (own := RX12) rfl rfl (Nat.le_of_ble_eq_true rfl) (fun K hl hnL hC hRT hin => ?_)
  subst hl
  show WW K G 0 0 (MW A G.2.1 I F) 0 [(0, .ref (A 0))] []
  have hTP := CLS_tp (S := S0) (a := F 4) (l := ql) (u := u) (w := wi) ha.1
  rw [← hS] at hTP
  have hPB : PB (F 6) (F 5, F 7, ql) := ⟨he.1, hw⟩
  have h96 : stl 6 = 6 := rfl
  have h97 : stl 7 = 3 := rfl
  refine w_aload_n (pc := 0) hC dX12_some_0 0 rfl rfl ?_
  refine w_callV (pc := 1) (As := []) (rest := []) hC dX12_some_1 cv_X12_129 ((IH (m - 1) (by omega)).2.1 A I F S0 ql u wi (show (I 1) = CLS S0 (F 4) ql u wi from by exact hS) (show RI S0 from by first | assumption | omega) (show 0 ≤ (F 4) ∧ (F 4) < 5 from by first | assumption | omega) (show (0 ≤ (F 5) ∧ (F 5) ≤ (F 6)) ∧ (F 6) ≤ 120 from by first | assumption | omega) (show (F 7) = 0 ∨ (F 7) = 1 from by first | assumption | omega) (show (ql.length : Int) ≤ (F 5) from by first | assumption | omega) (show (0 ≤ (F 8) ∧ (F 8) ≤ 6) ∧ ((F 8) = 6 → (F 7) = 1) from by first | assumption | omega) (show (3 * (6 - (F 8)) + 1).toNat ≤ (m - 1) from by omega)) (by omega) ⟨Nat.le_of_ble_eq_true rfl, Nat.le_of_ble_eq_true rfl⟩ (q0 := 0) rfl rfl rfl rfl (Nat.le_of_ble_eq_true rfl) rfl (fun vo wo hv => ?_)
  obtain ⟨b1_1, g5_1, g7_1, g8_1, hv1, hw1, r1⟩ := hv
  rw [hv1, hw1]
  show WW K G 0 0 (MW A G.2.1 (au I 1 b1_1) (fu (fu (fu F 5 g5_1) 7 g7_1) 8 g8_1)) 4 [(0, .ref (A 0))] []
  have r1 : (∃ l2 : List Int, (g5_1, g7_1, l2) = (evr S0 (F 6) (fac S0 (F 6) (5 - (F 8)).toNat)) ((F 5), (F 7), ql) ∧ b1_1 = CLS S0 (F 4) l2 u wi) ∧ g8_1 = (F 8) := r1
  obtain ⟨⟨l1, hq1, hS1⟩, ho1⟩ := r1
  have hg1 := evr_gr (S := S0) (e := F 6) (f := fac S0 (F 6) (5 - (F 8)).toNat) (fac_gr (S := S0) (5 - (F 8)).toNat) (q := (F 5, F 7, ql)) hPB
  rw [← hq1] at hg1
  have hp1 := hg1.pb hPB
  have hx1 := hg1.2.2
  have hy1 := hg1.1
  dsimp only at hx1 hy1
  have hz1 := hp1.2
  have hv1 := hp1.1
  dsimp only at hz1 hv1
  have hT1 := CLS_tp (S := S0) (a := F 4) (l := l1) (u := u) (w := wi) ha.1
  rw [← hS1] at hT1
  have loop4 : ∀ (nF : Nat) (a1_4 : Int → Int) (f5_4 : Int) (f7_4 : Int) (f8_4 : Int), ((0 ≤ f5_4 ∧ f5_4 ≤ (F 6)) ∧ (f7_4 = 0 ∨ f7_4 = 1)) → (∃ (l4 : List Int) (kk : Nat), a1_4 = CLS S0 (F 4) l4 u wi ∧ GR (F 6) ((F 5), (F 7), ql) (f5_4, f7_4, l4) ∧ (F 6) - f5_4 < (kk : Int) ∧ lp S0 (F 6) (evr S0 (F 6) (fac S0 (F 6) (5 - (F 8)).toNat)) 124 (-3) kk (f5_4, f7_4, l4) = (som S0 (F 6) (fac S0 (F 6) (5 - (F 8)).toNat)) ((F 5), (F 7), ql)) → (f8_4 = (F 8)) → ((F 8) = 6 → f7_4 = 1) → ((F 6) - f5_4) < (nF : Int) → WW K G 0 0 (MW A G.2.1 (au I 1 a1_4) (fu (fu (fu F 5 f5_4) 7 f7_4) 8 f8_4)) 4 [(0, .ref (A 0))] [] := by
    intro nF
    induction nF with
    | zero => intro a1_4 f5_4 f7_4 f8_4 i1 i2 i3 i4 hm4; exact absurd hm4 (by omega)
    | succ nF ih4 =>
      intro a1_4 f5_4 f7_4 f8_4 i1 i2 i3 i4 hm4
      obtain ⟨l4, kk, j1, j2, j3, j4⟩ := i2
      have jx := j2.2.2
      dsimp only at jx
      have hT4 := CLS_tp (S := S0) (a := F 4) (l := l4) (u := u) (w := wi) ha.1
      rw [← j1] at hT4
      refine w_aload_n (pc := 4) hC dX12_some_4 0 rfl rfl ?_
      refine w_getf (pc := 5) (v := .int (J f7_4)) hC dX12_some_5 fi_X12_83 0 rfl rfl ?_
      refine w_if_ne (pc := 8) (tgt := 43) hC dX12_some_8 (by decide) (by omega) (fun c8 => ?_) (fun c8 => ?_)
      · refine w_vret (pc := 43) hC hRT dX12_some_43 ?_
        refine ⟨a1_4, f5_4, f7_4, f8_4, rfl, rfl, ?_⟩
        · refine ⟨⟨l4, ?_, j1⟩, i3⟩
          rw [← j4, lp_end _ (show ¬ (f7_4 = 0 ∧ hr S0 (F 6) f5_4 = 124) by omega)]
      · refine w_aload_n (pc := 11) hC dX12_some_11 0 rfl rfl ?_
        refine w_callV (pc := 12) (As := []) (rest := []) hC dX12_some_12 cv_X12_87 (c_X12_here (kl K) G A (au I 1 a1_4) (fu (fu (fu F 5 f5_4) 7 f7_4) 8 f8_4) S0 (show TP a1_4 S0 from by exact hT4) (show RI S0 from by first | assumption | omega) (show (0 ≤ f5_4 ∧ f5_4 ≤ (F 6)) ∧ (F 6) ≤ 120 from by first | assumption | omega)) (by omega) ⟨Nat.le_of_ble_eq_true rfl, Nat.le_of_ble_eq_true rfl⟩ (q0 := 0) rfl rfl rfl rfl (Nat.le_of_ble_eq_true rfl) rfl (fun vo wo hv => ?_)
        obtain ⟨hv1, hw1⟩ := hv
        rw [hv1, hw1]
        show WW K G 0 0 (MW A G.2.1 (au I 1 a1_4) (fu (fu (fu F 5 f5_4) 7 f7_4) 8 f8_4)) 15 [(0, .ref (A 0))] [.int (J (hr S0 (F 6) f5_4))]
        have q12_0 := hr_bd (e := (F 6)) (sp := f5_4) (by assumption : RI S0) (by omega) (by omega)
        refine w_bipush (pc := 15) hC dX12_some_15 (z := 124) rfl ?_
        refine w_icmp_ne (pc := 17) (tgt := 43) hC dX12_some_17 (by decide) (by omega) (fun c17 => ?_) (fun c17 => ?_)
        · refine w_vret (pc := 43) hC hRT dX12_some_43 ?_
          refine ⟨a1_4, f5_4, f7_4, f8_4, rfl, rfl, ?_⟩
          · refine ⟨⟨l4, ?_, j1⟩, i3⟩
            rw [← j4, lp_end _ (show ¬ (f7_4 = 0 ∧ hr S0 (F 6) f5_4 = 124) by omega)]
        · have hat := hr_at (S := S0) (e := F 6) (sp := f5_4) rfl (by omega)
          have hb4 : PB (F 6) (f5_4 + 1, f7_4, l4) := ⟨⟨by dsimp only; omega, by dsimp only; omega⟩, i1.2⟩
          refine w_aload_n (pc := 20) hC dX12_some_20 0 rfl rfl ?_
          refine w_dup (pc := 21) hC dX12_some_21 rfl ?_
          refine w_getf (pc := 22) (v := .int (J f5_4)) hC dX12_some_22 fi_X12_77 0 rfl rfl ?_
          refine w_iconst (pc := 25) hC dX12_some_25 ?_
          refine w_iadd (pc := 26) hC dX12_some_26 ?_
          refine w_putf (pc := 27) (w2 := MW A G.2.1 (au I 1 a1_4) (fu (fu (fu F 5 (f5_4 + 1)) 7 f7_4) 8 f8_4)) hC dX12_some_27 fi_X12_77 fp_X12_5 rfl 0 rfl (rfl) (rfl) (Nat.le_of_ble_eq_true rfl) rfl ?_
          refine w_aload_n (pc := 30) hC dX12_some_30 0 rfl rfl ?_
          refine w_callV (pc := 31) (As := []) (rest := []) hC dX12_some_31 cv_X12_129 ((IH (m - 1) (by omega)).2.1 A (au I 1 a1_4) (fu (fu (fu F 5 (f5_4 + 1)) 7 f7_4) 8 f8_4) S0 l4 u wi (show a1_4 = CLS S0 (F 4) l4 u wi from by exact j1) (show RI S0 from by first | assumption | omega) (show 0 ≤ (F 4) ∧ (F 4) < 5 from by first | assumption | omega) (show (0 ≤ (f5_4 + 1) ∧ (f5_4 + 1) ≤ (F 6)) ∧ (F 6) ≤ 120 from by first | assumption | omega) (show f7_4 = 0 ∨ f7_4 = 1 from by first | assumption | omega) (show (l4.length : Int) ≤ (f5_4 + 1) from by first | assumption | omega) (show (0 ≤ f8_4 ∧ f8_4 ≤ 6) ∧ (f8_4 = 6 → f7_4 = 1) from by first | assumption | omega) (show (3 * (6 - f8_4) + 1).toNat ≤ (m - 1) from by omega)) (by omega) ⟨Nat.le_of_ble_eq_true rfl, Nat.le_of_ble_eq_true rfl⟩ (q0 := 0) rfl rfl rfl rfl (Nat.le_of_ble_eq_true rfl) rfl (fun vo wo hv => ?_)
          obtain ⟨b1_31, g5_31, g7_31, g8_31, hv1, hw1, r31⟩ := hv
          rw [hv1, hw1]
          show WW K G 0 0 (MW A G.2.1 (au I 1 b1_31) (fu (fu (fu F 5 g5_31) 7 g7_31) 8 g8_31)) 34 [(0, .ref (A 0))] []
          have r31 : (∃ l2 : List Int, (g5_31, g7_31, l2) = (evr S0 (F 6) (fac S0 (F 6) (5 - f8_4).toNat)) ((f5_4 + 1), f7_4, l4) ∧ b1_31 = CLS S0 (F 4) l2 u wi) ∧ g8_31 = f8_4 := r31
          obtain ⟨⟨l31, hq31, hS31⟩, ho31⟩ := r31
          have hg31 := evr_gr (S := S0) (e := F 6) (f := fac S0 (F 6) (5 - f8_4).toNat) (fac_gr (S := S0) (5 - f8_4).toNat) (q := (f5_4 + 1, f7_4, l4)) hb4
          rw [← hq31] at hg31
          have hp31 := hg31.pb hb4
          have hx31 := hg31.2.2
          have hy31 := hg31.1
          dsimp only at hx31 hy31
          have hz31 := hp31.2
          have hv31 := hp31.1
          dsimp only at hz31 hv31
          have hT31 := CLS_tp (S := S0) (a := F 4) (l := l31) (u := u) (w := wi) ha.1
          rw [← hS31] at hT31
          refine w_aload_n (pc := 34) hC dX12_some_34 0 rfl rfl ?_
          refine w_bipush (pc := 35) hC dX12_some_35 (z := (-3)) rfl ?_
          refine w_callV (pc := 37) (As := [.int (J (-3))]) (rest := []) hC dX12_some_37 cv_X12_112 (c_X12_emits (kl K) G A (au I 1 b1_31) (fu (fu (fu F 5 g5_31) 7 g7_31) 8 g8_31) S0 l31 u wi (-3) (show b1_31 = CLS S0 (F 4) l31 u wi from by exact hS31) (show 0 ≤ (F 4) ∧ (F 4) < 5 from by first | assumption | omega) (show g7_31 = 0 ∨ g7_31 = 1 from by first | assumption | omega) (show -2147483648 ≤ (-3) ∧ (-3) < 2147483648 from by first | assumption | omega) (show (l31.length : Int) < 140 from by first | assumption | omega)) (by omega) ⟨Nat.le_of_ble_eq_true rfl, Nat.le_of_ble_eq_true rfl⟩ (q0 := 0) rfl rfl rfl rfl (Nat.le_of_ble_eq_true rfl) rfl (fun vo wo hv => ?_)
          obtain ⟨b1_37, hv1, hw1, r37⟩ := hv
          rw [hv1, hw1]
          show WW K G 0 0 (MW A G.2.1 (au I 1 b1_37) (fu (fu (fu F 5 g5_31) 7 g7_31) 8 g8_31)) 40 [(0, .ref (A 0))] []
          have r37 : b1_37 = CLS S0 (F 4) (emt (-3) (g5_31, g7_31, l31)).2.2 u wi := r37
          refine w_goto (pc := 40) hC dX12_some_40 (tgt := 4) (by decide) ?_
          refine ih4 b1_37 g5_31 g7_31 g8_31 ?_ ?_ ?_ ?_ ?_
          · first | assumption | omega
          · refine ⟨_, kk - 1, r37, ?_, by omega, ?_⟩
            · rw [emt_eta]; exact j2.trans (emt_gr hg31)
            · have hn := lp_next (S := S0) (e := F 6) (f := (evr S0 (F 6) (fac S0 (F 6) (5 - (F 8)).toNat))) (c := 124) (s := -3) (q := (f5_4, f7_4, l4)) j3 ⟨by show f7_4 = 0; omega, c17⟩ (by decide); rw [emt_eta, ← j4, hn, hq31, i3]
          · first | assumption | omega
          · intro h; omega
          · omega
  refine loop4 (((F 6) - g5_1) + 1 : Int).toNat b1_1 g5_1 g7_1 g8_1 ?_ ?_ ?_ ?_ ?_
  · first | assumption | omega
  · exact ⟨l1, 130, hS1, hg1, by omega, by rw [hq1]; rfl⟩
  · first | assumption | omega
  · intro h; have hw1 := ho.2 h; have h8 := congrArg (fun q : PQ => q.2.1) hq1; rw [evr_w (fun q h => fac_w _ h) (show ((F 5, F 7, ql) : PQ).2.1 = 1 from hw1)] at h8; exact h8.trans hw1
  · omega
theorem PG_parse_all (l : Launch) (G : GT) (m : Nat) : PG_parse l G m := Nat.strongRecOn m (fun m ih => ⟨r_X12_factor l G m ih, r_X12_every l G m ih, r_X12_some l G m ih⟩)
theorem c_X12_factor (l : Launch) (G : GT) (m : Nat) : ∀ (A : Nat → Nat) (I : Nat → Int → Int) (F : Nat → Int) (S0 : Int → Int) (ql : List Int) (u : Int) (wi : Int) (hS : (I 1) = CLS S0 (F 4) ql u wi) (hR : RI S0) (ha : 0 ≤ (F 4) ∧ (F 4) < 5) (he : (0 ≤ (F 5) ∧ (F 5) ≤ (F 6)) ∧ (F 6) ≤ 120) (hw : (F 7) = 0 ∨ (F 7) = 1) (hl : (ql.length : Int) ≤ (F 5)) (ho : (0 ≤ (F 8) ∧ (F 8) ≤ 6) ∧ ((F 8) = 6 → (F 7) = 1)) (hm : (3 * (6 - (F 8)) + 0).toNat ≤ m), CT l yX12_factor cX12_factor 5 none (5 + m) 0 0 G [.ref (A 0)] (MW A G.2.1 I F) (fun vo wo => ∃ (b1 : Int → Int) (g5 : Int) (g7 : Int) (g8 : Int), vo = none ∧ wo = MW A G.2.1 (au I 1 b1) (fu (fu (fu F 5 g5) 7 g7) 8 g8) ∧ ((∃ l2 : List Int, (g5, g7, l2) = (fac S0 (F 6) (5 - (F 8)).toNat) ((F 5), (F 7), ql) ∧ b1 = CLS S0 (F 4) l2 u wi) ∧ g8 = (F 8))) := (PG_parse_all l G m).1
theorem c_X12_every (l : Launch) (G : GT) (m : Nat) : ∀ (A : Nat → Nat) (I : Nat → Int → Int) (F : Nat → Int) (S0 : Int → Int) (ql : List Int) (u : Int) (wi : Int) (hS : (I 1) = CLS S0 (F 4) ql u wi) (hR : RI S0) (ha : 0 ≤ (F 4) ∧ (F 4) < 5) (he : (0 ≤ (F 5) ∧ (F 5) ≤ (F 6)) ∧ (F 6) ≤ 120) (hw : (F 7) = 0 ∨ (F 7) = 1) (hl : (ql.length : Int) ≤ (F 5)) (ho : (0 ≤ (F 8) ∧ (F 8) ≤ 6) ∧ ((F 8) = 6 → (F 7) = 1)) (hm : (3 * (6 - (F 8)) + 1).toNat ≤ m), CT l yX12_every cX12_every 1 none (5 + m) 0 0 G [.ref (A 0)] (MW A G.2.1 I F) (fun vo wo => ∃ (b1 : Int → Int) (g5 : Int) (g7 : Int) (g8 : Int), vo = none ∧ wo = MW A G.2.1 (au I 1 b1) (fu (fu (fu F 5 g5) 7 g7) 8 g8) ∧ ((∃ l2 : List Int, (g5, g7, l2) = (evr S0 (F 6) (fac S0 (F 6) (5 - (F 8)).toNat)) ((F 5), (F 7), ql) ∧ b1 = CLS S0 (F 4) l2 u wi) ∧ g8 = (F 8))) := (PG_parse_all l G m).2.1
theorem c_X12_some (l : Launch) (G : GT) (m : Nat) : ∀ (A : Nat → Nat) (I : Nat → Int → Int) (F : Nat → Int) (S0 : Int → Int) (ql : List Int) (u : Int) (wi : Int) (hS : (I 1) = CLS S0 (F 4) ql u wi) (hR : RI S0) (ha : 0 ≤ (F 4) ∧ (F 4) < 5) (he : (0 ≤ (F 5) ∧ (F 5) ≤ (F 6)) ∧ (F 6) ≤ 120) (hw : (F 7) = 0 ∨ (F 7) = 1) (hl : (ql.length : Int) ≤ (F 5)) (ho : (0 ≤ (F 8) ∧ (F 8) ≤ 6) ∧ ((F 8) = 6 → (F 7) = 1)) (hm : (3 * (6 - (F 8)) + 2).toNat ≤ m), CT l yX12_some cX12_some 1 none (5 + m) 0 0 G [.ref (A 0)] (MW A G.2.1 I F) (fun vo wo => ∃ (b1 : Int → Int) (g5 : Int) (g7 : Int) (g8 : Int), vo = none ∧ wo = MW A G.2.1 (au I 1 b1) (fu (fu (fu F 5 g5) 7 g7) 8 g8) ∧ ((∃ l2 : List Int, (g5, g7, l2) = (som S0 (F 6) (fac S0 (F 6) (5 - (F 8)).toNat)) ((F 5), (F 7), ql) ∧ b1 = CLS S0 (F 4) l2 u wi) ∧ g8 = (F 8))) := (PG_parse_all l G m).2.2
