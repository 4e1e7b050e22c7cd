
theorem or_step1 {z a b x : Int} {O Q : Int → Prop} (hz : 0 ≤ z) (ha : 0 ≤ a) (hx : 0 ≤ x) (hb : 0 ≤ b) (hq : Q b) (h : z / 2 ^ x.toNat % 2 = 1 ↔ O x ∨ (x = a ∧ ∃ y : Int, (0 ≤ y ∧ y < b) ∧ Q y)) : ior z (2 ^ a.toNat) / 2 ^ x.toNat % 2 = 1 ↔ O x ∨ (x = a ∧ ∃ y : Int, (0 ≤ y ∧ y < b + 1) ∧ Q y) := by
  rw [bt_or hz (Int.le_of_lt (Int.pow_pos (by decide))), h, bt_pow hx ha]
  constructor
  · rintro ((g | ⟨e, y, hy, g⟩) | e)
    · exact Or.inl g
    · exact Or.inr ⟨e, y, by omega, g⟩
    · exact Or.inr ⟨e.symm, b, by omega, hq⟩
  · rintro (g | ⟨e, y, hy, g⟩)
    · exact Or.inl (Or.inl g)
    · exact Or.inr e.symm
theorem or_step0 {z a b x : Int} {O Q : Int → Prop} (hz : 0 ≤ z) (hb : 0 ≤ b) (hq : ¬ Q b) (h : z / 2 ^ x.toNat % 2 = 1 ↔ O x ∨ (x = a ∧ ∃ y : Int, (0 ≤ y ∧ y < b) ∧ Q y)) : ior z 0 / 2 ^ x.toNat % 2 = 1 ↔ O x ∨ (x = a ∧ ∃ y : Int, (0 ≤ y ∧ y < b + 1) ∧ Q y) := by
  rw [ior_0 hz, h]
  constructor
  · rintro (g | ⟨e, y, hy, g⟩)
    · exact Or.inl g
    · exact Or.inr ⟨e, y, by omega, g⟩
  · rintro (g | ⟨e, y, hy, g⟩)
    · exact Or.inl g
    · refine Or.inr ⟨e, y, ?_, g⟩
      by_cases c : y = b
      · exact absurd (c ▸ g) hq
      · omega
theorem oh_step1 {z b x : Int} {O Q : Int → Prop} (hz : 0 ≤ z) (hx : 0 ≤ x) (hb : 0 ≤ b) (hq : Q b) (h : z / 2 ^ x.toNat % 2 = 1 ↔ O x ∨ ((0 ≤ x ∧ x < b) ∧ Q x)) : ior z (2 ^ b.toNat) / 2 ^ x.toNat % 2 = 1 ↔ O x ∨ ((0 ≤ x ∧ x < b + 1) ∧ Q x) := by
  rw [bt_or hz (Int.le_of_lt (Int.pow_pos (by decide))), h, bt_pow hx hb]
  constructor
  · rintro ((g | ⟨e, g⟩) | e)
    · exact Or.inl g
    · exact Or.inr ⟨by omega, g⟩
    · exact Or.inr ⟨by omega, e ▸ hq⟩
  · rintro (g | ⟨e, g⟩)
    · exact Or.inl (Or.inl g)
    · by_cases c : b = x
      · exact Or.inr c
      · exact Or.inl (Or.inr ⟨by omega, g⟩)
theorem oh_step0 {z b x : Int} {O Q : Int → Prop} (hz : 0 ≤ z) (hq : ¬ Q b) (h : z / 2 ^ x.toNat % 2 = 1 ↔ O x ∨ ((0 ≤ x ∧ x < b) ∧ Q x)) : ior z 0 / 2 ^ x.toNat % 2 = 1 ↔ O x ∨ ((0 ≤ x ∧ x < b + 1) ∧ Q x) := by
  rw [ior_0 hz, h]
  constructor
  · rintro (g | ⟨e, g⟩)
    · exact Or.inl g
    · exact Or.inr ⟨by omega, g⟩
  · rintro (g | ⟨e, g⟩)
    · exact Or.inl g
    · refine Or.inr ⟨?_, g⟩
      by_cases c : x = b
      · exact absurd (c ▸ g) hq
      · omega

set_option maxRecDepth 100000 in
set_option maxHeartbeats 4000000 in
theorem c_X12_askedAny (l : Launch) (G : GT) (A : Nat → Nat) (I : Nat → Int → Int) (F : Nat → Int)  (c : Int) (a : Int) (hR : RI (I 1)) (hc : 0 ≤ c ∧ c < (I 1) 1) (ha : 0 ≤ a ∧ a < (I 1) 0) (hf : -1 ≤ (F 11) ∧ (F 11) ≤ 5) : CT l yX12_askedAny cX12_askedAny 6 (some .int) 4 0 0 G [.ref (A 0), .int (J c), .int (J a)] (MW A G.2.1 I F) (fun vo wo => ∃ (b3 : Int → Int) (b4 : Int → Int), vo = some (.int (J (aaN (I 1) c (F 11) a 7))) ∧ wo = MW A G.2.1 (au (au I 3 b3) 4 b4) F) := by
  refine CT_of (own := RX12) rfl rfl (Nat.le_of_ble_eq_true rfl) (fun K hl hnL hC hRT hin => ?_)
  subst hl
  show WW K G 0 0 (MW A G.2.1 I F) 0 [(0, .ref (A 0)), (1, .int (J c)), (2, .int (J a))] []
  have hn0 := hR.n
  have hV := hR.bd
  have hB := VB_rng hV
  have hcl := hR.cl
  refine w_iconst (pc := 0) hC dX12_askedAny_0 ?_
  refine w_istore_n (pc := 1) hC dX12_askedAny_1 rfl (lv2 := [(3, .int (J 0)), (0, .ref (A 0)), (1, .int (J c)), (2, .int (J a))]) (by rw [hnL]; decide) rfl ?_
  refine w_iconst (pc := 2) hC dX12_askedAny_2 ?_
  refine w_istore (pc := 3) hC dX12_askedAny_3 (lv2 := [(4, .int (J 0)), (3, .int (J 0)), (0, .ref (A 0)), (1, .int (J c)), (2, .int (J a))]) (by rw [hnL]; decide) rfl ?_
  have loop5 : ∀ (nF : Nat) (set : Int) (d : Int) (a3_5 : Int → Int) (a4_5 : Int → Int), (0 ≤ d ∧ d ≤ 7) → (set = aaN (I 1) c (F 11) a d.toNat) → (7 - d) < (nF : Int) → WW K G 0 0 (MW A G.2.1 (au (au I 3 a3_5) 4 a4_5) F) 5 [(0, .ref (A 0)), (1, .int (J c)), (2, .int (J a)), (3, .int (J set)), (4, .int (J d))] [] := by
    intro nF
    induction nF with
    | zero => intro set d a3_5 a4_5 i1 i2 hm5; exact absurd hm5 (by omega)
    | succ nF ih5 =>
      intro set d a3_5 a4_5 i1 i2 hm5
      refine w_iload (pc := 5) hC dX12_askedAny_5 4 rfl ?_
      refine w_bipush (pc := 7) hC dX12_askedAny_7 (z := 7) rfl ?_
      refine w_icmp_ge (pc := 9) (tgt := 53) hC dX12_askedAny_9 (by decide) (by omega) (fun c9 => ?_) (fun c9 => ?_)
      · refine w_iload_n (pc := 53) hC dX12_askedAny_53 3 rfl rfl ?_
        refine w_iret (pc := 54) hC hRT dX12_askedAny_54 rfl ?_
        refine ⟨a3_5, a4_5, retI (by rw [i2, show d = 7 by omega]; rfl), rfl⟩
      · refine w_aload_n (pc := 12) hC dX12_askedAny_12 0 rfl rfl ?_
        refine w_iload_n (pc := 13) hC dX12_askedAny_13 1 rfl rfl ?_
        refine w_aload_n (pc := 14) hC dX12_askedAny_14 0 rfl rfl ?_
        refine w_getf (pc := 15) (v := .ref (A 1)) hC dX12_askedAny_15 fi_X12_9 0 rfl rfl ?_
        refine w_bipush (pc := 18) hC dX12_askedAny_18 (z := 6) rfl ?_
        refine w_iald (pc := 20) (g := (I 1)) hC dX12_askedAny_20 1 rfl (by omega) (Nat.le_of_ble_eq_true rfl) ?_
        refine w_iload_n (pc := 21) hC dX12_askedAny_21 2 rfl rfl ?_
        refine w_iload (pc := 22) hC dX12_askedAny_22 4 rfl ?_
        refine w_callV (pc := 24) (As := [.int (J c), .int (J ((I 1) 6)), .int (J a), .int (J d)]) (rest := []) hC dX12_askedAny_24 cv_X12_169 (c_X12_asked (kl K) G A (au (au I 3 a3_5) 4 a4_5) F c ((I 1) 6) a d (show RI (I 1) from by first | assumption | omega) (show 0 ≤ c ∧ c < (I 1) 1 from by first | assumption | omega) (show VB ((I 1) 0) ((I 1) 6) from by first | assumption | omega) (show 0 ≤ a ∧ a < (I 1) 0 from by first | assumption | omega) (show 0 ≤ d ∧ d ≤ 2000 from by first | assumption | omega) (show -1 ≤ (F 11) ∧ (F 11) ≤ 5 from by first | assumption | omega)) (by decide) ⟨Nat.le_of_ble_eq_true rfl, Nat.le_of_ble_eq_true rfl⟩ (q0 := 0) rfl rfl rfl rfl (Nat.le_of_ble_eq_true rfl) rfl (fun vo wo hv => ?_)
        obtain ⟨b3_24, b4_24, hv1, hw1⟩ := hv
        rw [hv1, hw1]
        show WW K G 0 0 (MW A G.2.1 (au (au I 3 b3_24) 4 b4_24) F) 27 [(0, .ref (A 0)), (1, .int (J c)), (2, .int (J a)), (3, .int (J set)), (4, .int (J d))] [.int (J (ASK (I 1) c (F 11) ((I 1) 6) a d))]
        have q24_0 := @ASK_in (I 1) c (F 11) ((I 1) 6) a d (by assumption) (by omega)
        refine w_istore (pc := 27) hC dX12_askedAny_27 (lv2 := [(5, .int (J (ASK (I 1) c (F 11) ((I 1) 6) a d))), (0, .ref (A 0)), (1, .int (J c)), (2, .int (J a)), (3, .int (J set)), (4, .int (J d))]) (by rw [hnL]; decide) rfl ?_
        have hset := (aaN_bt (c := c) (rf := F 11) (x := 0) hR ha (by decide) d.toNat).1
        rw [← i2] at hset
        refine w_iload_n (pc := 29) hC dX12_askedAny_29 4 rfl rfl ?_
        refine w_iload (pc := 30) hC dX12_askedAny_30 0 rfl ?_
        refine w_bipush (pc := 32) hC dX12_askedAny_32 (z := (-5)) rfl ?_
        refine w_icmp_ne (pc := 34) (tgt := 41) hC dX12_askedAny_34 (by decide) (by omega) (fun c34 => ?_) (fun c34 => ?_)
        · refine w_iconst (pc := 41) hC dX12_askedAny_41 ?_
          refine w_iload (pc := 42) hC dX12_askedAny_42 0 rfl ?_
          have hp2 := p2_6 (x := ASK (I 1) c (F 11) (I 1 6) a d) (by omega) (by omega)
          refine w_ishl (pc := 44) hC dX12_askedAny_44 (by omega) ?_
          refine w_top (e2 := 2 ^ (ASK (I 1) c (F 11) ((I 1) 6) a d).toNat) (by exact Int.one_mul _) ?_
          refine w_ior (pc := 45) hC dX12_askedAny_45 (v := ior set (2 ^ (ASK (I 1) c (F 11) ((I 1) 6) a d).toNat)) (J_or (by omega)) ?_
          refine w_istore_n (pc := 46) hC dX12_askedAny_46 rfl (lv2 := [(3, .int (J (ior set (2 ^ (ASK (I 1) c (F 11) ((I 1) 6) a d).toNat)))), (5, .int (J (ASK (I 1) c (F 11) ((I 1) 6) a d))), (0, .ref (A 0)), (1, .int (J c)), (2, .int (J a)), (4, .int (J d))]) (by rw [hnL]; decide) rfl ?_
          refine w_iinc (pc := 47) hC dX12_askedAny_47 (lv2 := [(4, .int (J (d + 1))), (3, .int (J (ior set (2 ^ (ASK (I 1) c (F 11) ((I 1) 6) a d).toNat)))), (5, .int (J (ASK (I 1) c (F 11) ((I 1) 6) a d))), (0, .ref (A 0)), (1, .int (J c)), (2, .int (J a))]) 5 rfl (by rw [hnL]; decide) rfl ?_
          refine w_goto (pc := 50) hC dX12_askedAny_50 (tgt := 5) (by decide) ?_
          refine w_sub [3, 4, 5, 1, 0] (lv2 := [(0, .ref (A 0)), (1, .int (J c)), (2, .int (J a)), (3, .int (J (ior set (2 ^ (ASK (I 1) c (F 11) ((I 1) 6) a d).toNat)))), (4, .int (J (d + 1)))]) rfl ?_
          refine ih5 (ior set (2 ^ (ASK (I 1) c (F 11) ((I 1) 6) a d).toNat)) (d + 1) b3_24 b4_24 ?_ ?_ ?_
          · first | assumption | omega
          · rw [aaN_s _ _ _ _ i1.1, ← i2]; first | rw [if_pos c34] | rw [if_neg c34]
          · omega
        · refine w_iconst (pc := 37) hC dX12_askedAny_37 ?_
          refine w_goto (pc := 38) hC dX12_askedAny_38 (tgt := 45) (by decide) ?_
          refine w_ior (pc := 45) hC dX12_askedAny_45 (v := ior set 0) (J_or (by omega)) ?_
          refine w_istore_n (pc := 46) hC dX12_askedAny_46 rfl (lv2 := [(3, .int (J (ior set 0))), (5, .int (J (ASK (I 1) c (F 11) ((I 1) 6) a d))), (0, .ref (A 0)), (1, .int (J c)), (2, .int (J a)), (4, .int (J d))]) (by rw [hnL]; decide) rfl ?_
          refine w_iinc (pc := 47) hC dX12_askedAny_47 (lv2 := [(4, .int (J (d + 1))), (3, .int (J (ior set 0))), (5, .int (J (ASK (I 1) c (F 11) ((I 1) 6) a d))), (0, .ref (A 0)), (1, .int (J c)), (2, .int (J a))]) 5 rfl (by rw [hnL]; decide) rfl ?_
          refine w_goto (pc := 50) hC dX12_askedAny_50 (tgt := 5) (by decide) ?_
          refine w_sub [3, 4, 5, 1, 0] (lv2 := [(0, .ref (A 0)), (1, .int (J c)), (2, .int (J a)), (3, .int (J (ior set 0))), (4, .int (J (d + 1)))]) rfl ?_
          refine ih5 (ior set 0) (d + 1) b3_24 b4_24 ?_ ?_ ?_
          · first | assumption | omega
          · rw [aaN_s _ _ _ _ i1.1, ← i2]; first | rw [if_pos c34] | rw [if_neg c34]
          · omega
  refine w_sub [2, 3, 4, 1, 0] (lv2 := [(0, .ref (A 0)), (1, .int (J c)), (2, .int (J a)), (3, .int (J 0)), (4, .int (J 0))]) rfl ?_
  refine loop5 ((7 - 0) + 1 : Int).toNat 0 0 (I 3) (I 4) ?_ ?_ ?_
  · first | assumption | omega
  · rfl
  · omega
set_option maxRecDepth 100000 in
set_option maxHeartbeats 4000000 in
theorem c_X12_judged (l : Launch) (G : GT) (A : Nat → Nat) (I : Nat → Int → Int) (F : Nat → Int)  (c : Int) (day : Int) (hR : RI (I 1)) (h1 : -2147483648 ≤ c ∧ c < 2147483648) (h2 : -2147483648 ≤ day ∧ day < 2147483648) (hrf : (F 11) = -1) : CT l yX12_judged cX12_judged 5 (some .int) 4 0 0 G [.ref (A 0), .int (J c), .int (J day)] (MW A G.2.1 I F) (fun vo wo => ∃ (z : Int) (b3 : Int → Int) (b4 : Int → Int), vo = some (.int (J z)) ∧ wo = MW A G.2.1 (au (au I 3 b3) 4 b4) F ∧ (VJUD (I 1) c day z)) := by
  refine CT_of (own := RX12) rfl rfl (Nat.le_of_ble_eq_true rfl) (fun K hl hnL hC hRT hin => ?_)
  subst hl
  show WW K G 0 0 (MW A G.2.1 I F) 0 [(0, .ref (A 0)), (1, .int (J c)), (2, .int (J day))] []
  have hn0 := hR.n
  have hV := hR.bd
  have hB := VB_rng hV
  have hcl := hR.cl
  have hrw := hR.rw
  refine w_aload_n (pc := 0) hC dX12_judged_0 0 rfl rfl ?_
  refine w_iload_n (pc := 1) hC dX12_judged_1 1 rfl rfl ?_
  refine w_callV (pc := 2) (As := [.int (J c)]) (rest := []) hC dX12_judged_2 cv_X12_156 (c_X12_isClub (kl K) G A I F c (show RI (I 1) from by first | assumption | omega) (show -2147483648 ≤ c ∧ c < 2147483648 from by first | assumption | omega)) (by decide) ⟨Nat.le_of_ble_eq_true rfl, Nat.le_of_ble_eq_true rfl⟩ (q0 := 0) rfl rfl rfl rfl (Nat.le_of_ble_eq_true rfl) rfl (fun vo wo hv => ?_)
  obtain ⟨hv1, hw1⟩ := hv
  rw [hv1, hw1]
  show WW K G 0 0 (MW A G.2.1 I F) 5 [(0, .ref (A 0)), (1, .int (J c)), (2, .int (J day))] [.int (J (bI (0 ≤ c ∧ c < (I 1) 1)))]
  refine w_if_ne_b (pc := 5) (tgt := 10) hC dX12_judged_5 (by decide) (fun c5 => ?_) (fun c5 => ?_)
  · refine w_iload_n (pc := 10) hC dX12_judged_10 2 rfl rfl ?_
    refine w_callS (pc := 11) (As := [.int (J day)]) (rest := []) hC dX12_judged_11 cs_X12_159 (c_X12_isDay (kl K) G (MW A G.2.1 I F) day (show -2147483648 ≤ day ∧ day < 2147483648 from by first | assumption | omega)) (by decide) ⟨Nat.le_of_ble_eq_true rfl, Nat.le_of_ble_eq_true rfl⟩ rfl (Nat.le_of_ble_eq_true rfl) rfl (fun vo wo hv => ?_)
    obtain ⟨hv1, hw1⟩ := hv
    rw [hv1, hw1]
    show WW K G 0 0 (MW A G.2.1 I F) 14 [(0, .ref (A 0)), (1, .int (J c)), (2, .int (J day))] [.int (J (bI (0 ≤ day ∧ day ≤ 999)))]
    refine w_if_ne_b (pc := 14) (tgt := 20) hC dX12_judged_14 (by decide) (fun c14 => ?_) (fun c14 => ?_)
    · refine w_aload_n (pc := 20) hC dX12_judged_20 0 rfl rfl ?_
      refine w_getf (pc := 21) (v := .ref (A 1)) hC dX12_judged_21 fi_X12_9 0 rfl rfl ?_
      refine w_iconst (pc := 24) hC dX12_judged_24 ?_
      refine w_iald (pc := 25) (g := (I 1)) hC dX12_judged_25 1 rfl (by omega) (Nat.le_of_ble_eq_true rfl) ?_
      refine w_aload_n (pc := 26) hC dX12_judged_26 0 rfl rfl ?_
      refine w_getf (pc := 27) (v := .ref (A 1)) hC dX12_judged_27 fi_X12_9 0 rfl rfl ?_
      refine w_iconst (pc := 30) hC dX12_judged_30 ?_
      refine w_iald (pc := 31) (g := (I 1)) hC dX12_judged_31 1 rfl (by omega) (Nat.le_of_ble_eq_true rfl) ?_
      refine w_icmp_eq (pc := 32) (tgt := 38) hC dX12_judged_32 (by decide) (by omega) (fun c32 => ?_) (fun c32 => ?_)
      · refine w_iconst (pc := 38) hC dX12_judged_38 ?_
        refine w_istore_n (pc := 39) hC dX12_judged_39 rfl (lv2 := [(3, .int (J 0)), (0, .ref (A 0)), (1, .int (J c)), (2, .int (J day))]) (by rw [hnL]; decide) rfl ?_
        have loop40 : ∀ (nF : Nat) (a : Int) (a3_40 : Int → Int) (a4_40 : Int → Int), (0 ≤ a ∧ a ≤ (I 1) 0) → (∀ x : Int, 0 ≤ x → x < a → JDG (I 1) c day x = (I 1) (923 + x)) → ((I 1) 0 - a) < (nF : Int) → WW K G 0 0 (MW A G.2.1 (au (au I 3 a3_40) 4 a4_40) F) 40 [(0, .ref (A 0)), (1, .int (J c)), (2, .int (J day)), (3, .int (J a))] [] := by
          intro nF
          induction nF with
          | zero => intro a a3_40 a4_40 i1 i2 hm40; exact absurd hm40 (by omega)
          | succ nF ih40 =>
            intro a a3_40 a4_40 i1 i2 hm40
            refine w_iload_n (pc := 40) hC dX12_judged_40 3 rfl rfl ?_
            refine w_aload_n (pc := 41) hC dX12_judged_41 0 rfl rfl ?_
            refine w_getf (pc := 42) (v := .ref (A 1)) hC dX12_judged_42 fi_X12_9 0 rfl rfl ?_
            refine w_iconst (pc := 45) hC dX12_judged_45 ?_
            refine w_iald (pc := 46) (g := (I 1)) hC dX12_judged_46 1 rfl (by omega) (Nat.le_of_ble_eq_true rfl) ?_
            refine w_icmp_ge (pc := 47) (tgt := 100) hC dX12_judged_47 (by decide) (by omega) (fun c47 => ?_) (fun c47 => ?_)
            · refine w_bipush (pc := 100) hC dX12_judged_100 (z := (-5)) rfl ?_
              refine w_iret (pc := 102) hC hRT dX12_judged_102 rfl ?_
              refine ⟨(-5), a3_40, a4_40, rfl, rfl, ?_⟩
              · unfold VJUD; rw [if_neg (by omega), if_neg (by omega), if_neg (by omega)]
                exact Or.inl ⟨rfl, fun x g1 g2 => i2 x g1 (by omega)⟩
            · refine w_aload_n (pc := 50) hC dX12_judged_50 0 rfl rfl ?_
              refine w_iload_n (pc := 51) hC dX12_judged_51 1 rfl rfl ?_
              refine w_aload_n (pc := 52) hC dX12_judged_52 0 rfl rfl ?_
              refine w_getf (pc := 53) (v := .ref (A 1)) hC dX12_judged_53 fi_X12_9 0 rfl rfl ?_
              refine w_bipush (pc := 56) hC dX12_judged_56 (z := 6) rfl ?_
              refine w_iald (pc := 58) (g := (I 1)) hC dX12_judged_58 1 rfl (by omega) (Nat.le_of_ble_eq_true rfl) ?_
              refine w_iload_n (pc := 59) hC dX12_judged_59 3 rfl rfl ?_
              refine w_iload_n (pc := 60) hC dX12_judged_60 2 rfl rfl ?_
              refine w_callV (pc := 61) (As := [.int (J c), .int (J ((I 1) 6)), .int (J a), .int (J day)]) (rest := []) hC dX12_judged_61 cv_X12_169 (c_X12_asked (kl K) G A (au (au I 3 a3_40) 4 a4_40) F c ((I 1) 6) a day (show RI (I 1) from by first | assumption | omega) (show 0 ≤ c ∧ c < (I 1) 1 from by first | assumption | omega) (show VB ((I 1) 0) ((I 1) 6) from by first | assumption | omega) (show 0 ≤ a ∧ a < (I 1) 0 from by first | assumption | omega) (show 0 ≤ day ∧ day ≤ 2000 from by first | assumption | omega) (show -1 ≤ (F 11) ∧ (F 11) ≤ 5 from by first | assumption | omega)) (by decide) ⟨Nat.le_of_ble_eq_true rfl, Nat.le_of_ble_eq_true rfl⟩ (q0 := 0) rfl rfl rfl rfl (Nat.le_of_ble_eq_true rfl) rfl (fun vo wo hv => ?_)
              obtain ⟨b3_61, b4_61, hv1, hw1⟩ := hv
              rw [hv1, hw1]
              show WW K G 0 0 (MW A G.2.1 (au (au I 3 b3_61) 4 b4_61) F) 64 [(0, .ref (A 0)), (1, .int (J c)), (2, .int (J day)), (3, .int (J a))] [.int (J (ASK (I 1) c (F 11) ((I 1) 6) a day))]
              have q61_0 := @ASK_in (I 1) c (F 11) ((I 1) 6) a day (by assumption) (by omega)
              refine w_istore (pc := 64) hC dX12_judged_64 (lv2 := [(4, .int (J (ASK (I 1) c (F 11) ((I 1) 6) a day))), (0, .ref (A 0)), (1, .int (J c)), (2, .int (J day)), (3, .int (J a))]) (by rw [hnL]; decide) rfl ?_
              refine w_iload (pc := 66) hC dX12_judged_66 0 rfl ?_
              refine w_bipush (pc := 68) hC dX12_judged_68 (z := (-5)) rfl ?_
              refine w_icmp_ne (pc := 70) (tgt := 77) hC dX12_judged_70 (by decide) (by omega) (fun c70 => ?_) (fun c70 => ?_)
              · refine w_iload (pc := 77) hC dX12_judged_77 0 rfl ?_
                refine w_aload_n (pc := 79) hC dX12_judged_79 1 rfl rfl ?_
                refine w_getf (pc := 80) (v := .ref (A 1)) hC dX12_judged_80 fi_X12_9 0 rfl rfl ?_
                refine w_sipush (pc := 83) hC dX12_judged_83 (z := 923) rfl ?_
                refine w_iload_n (pc := 86) hC dX12_judged_86 4 rfl rfl ?_
                refine w_iadd (pc := 87) hC dX12_judged_87 ?_
                have hrr := hR.rr (923 + a) (by omega) (by omega)
                refine w_iald (pc := 88) (g := (I 1)) hC dX12_judged_88 1 rfl (by omega) (Nat.le_of_ble_eq_true rfl) ?_
                refine w_icmp_eq (pc := 89) (tgt := 94) hC dX12_judged_89 (by decide) (by omega) (fun c89 => ?_) (fun c89 => ?_)
                · refine w_iinc (pc := 94) hC dX12_judged_94 (lv2 := [(3, .int (J (a + 1))), (4, .int (J (ASK (I 1) c (F 11) ((I 1) 6) a day))), (0, .ref (A 0)), (1, .int (J c)), (2, .int (J day))]) 4 rfl (by rw [hnL]; decide) rfl ?_
                  refine w_goto (pc := 97) hC dX12_judged_97 (tgt := 40) (by decide) ?_
                  refine w_sub [2, 3, 4, 0] (lv2 := [(0, .ref (A 0)), (1, .int (J c)), (2, .int (J day)), (3, .int (J (a + 1)))]) rfl ?_
                  refine ih40 (a + 1) b3_61 b4_61 ?_ ?_ ?_
                  · first | assumption | omega
                  · intro x g1 g2; by_cases e : x = a
                    · rw [e]; unfold JDG; rw [hrf] at c70; (try rw [hrf] at c89); first | (rw [if_pos c70]; exact c89) | (rw [if_neg c70]; exact c89)
                    · exact i2 x g1 (by omega)
                  · omega
                · refine w_iload_n (pc := 92) hC dX12_judged_92 4 rfl rfl ?_
                  refine w_iret (pc := 93) hC hRT dX12_judged_93 rfl ?_
                  refine ⟨a, b3_61, b4_61, rfl, rfl, ?_⟩
                  · unfold VJUD; rw [if_neg (by omega), if_neg (by omega), if_neg (by omega)]
                    refine Or.inr ⟨⟨i1.1, by omega⟩, ?_, i2⟩
                    unfold JDG; rw [hrf] at c70; (try rw [hrf] at c89); first | (rw [if_pos c70]; exact c89) | (rw [if_neg c70]; exact c89)
              · refine w_iconst (pc := 73) hC dX12_judged_73 ?_
                refine w_goto (pc := 74) hC dX12_judged_74 (tgt := 79) (by decide) ?_
                refine w_aload_n (pc := 79) hC dX12_judged_79 1 rfl rfl ?_
                refine w_getf (pc := 80) (v := .ref (A 1)) hC dX12_judged_80 fi_X12_9 0 rfl rfl ?_
                refine w_sipush (pc := 83) hC dX12_judged_83 (z := 923) rfl ?_
                refine w_iload_n (pc := 86) hC dX12_judged_86 4 rfl rfl ?_
                refine w_iadd (pc := 87) hC dX12_judged_87 ?_
                have hrr := hR.rr (923 + a) (by omega) (by omega)
                refine w_iald (pc := 88) (g := (I 1)) hC dX12_judged_88 1 rfl (by omega) (Nat.le_of_ble_eq_true rfl) ?_
                refine w_icmp_eq (pc := 89) (tgt := 94) hC dX12_judged_89 (by decide) (by omega) (fun c89 => ?_) (fun c89 => ?_)
                · refine w_iinc (pc := 94) hC dX12_judged_94 (lv2 := [(3, .int (J (a + 1))), (4, .int (J (ASK (I 1) c (F 11) ((I 1) 6) a day))), (0, .ref (A 0)), (1, .int (J c)), (2, .int (J day))]) 4 rfl (by rw [hnL]; decide) rfl ?_
                  refine w_goto (pc := 97) hC dX12_judged_97 (tgt := 40) (by decide) ?_
                  refine w_sub [2, 3, 4, 0] (lv2 := [(0, .ref (A 0)), (1, .int (J c)), (2, .int (J day)), (3, .int (J (a + 1)))]) rfl ?_
                  refine ih40 (a + 1) b3_61 b4_61 ?_ ?_ ?_
                  · first | assumption | omega
                  · intro x g1 g2; by_cases e : x = a
                    · rw [e]; unfold JDG; rw [hrf] at c70; (try rw [hrf] at c89); first | (rw [if_pos c70]; exact c89) | (rw [if_neg c70]; exact c89)
                    · exact i2 x g1 (by omega)
                  · omega
                · refine w_iload_n (pc := 92) hC dX12_judged_92 4 rfl rfl ?_
                  refine w_iret (pc := 93) hC hRT dX12_judged_93 rfl ?_
                  refine ⟨a, b3_61, b4_61, rfl, rfl, ?_⟩
                  · unfold VJUD; rw [if_neg (by omega), if_neg (by omega), if_neg (by omega)]
                    refine Or.inr ⟨⟨i1.1, by omega⟩, ?_, i2⟩
                    unfold JDG; rw [hrf] at c70; (try rw [hrf] at c89); first | (rw [if_pos c70]; exact c89) | (rw [if_neg c70]; exact c89)
        refine w_sub [1, 2, 3, 0] (lv2 := [(0, .ref (A 0)), (1, .int (J c)), (2, .int (J day)), (3, .int (J 0))]) rfl ?_
        refine loop40 (((I 1) 0 - 0) + 1 : Int).toNat 0 (I 3) (I 4) ?_ ?_ ?_
        · first | assumption | omega
        · intro x g1 g2; omega
        · omega
      · refine w_bipush (pc := 35) hC dX12_judged_35 (z := (-3)) rfl ?_
        refine w_iret (pc := 37) hC hRT dX12_judged_37 rfl ?_
        refine ⟨(-3), (I 3), (I 4), rfl, rfl, ?_⟩
        · unfold VJUD; rw [if_neg (by omega), if_neg (by omega), if_pos (by omega)]
    · refine w_bipush (pc := 17) hC dX12_judged_17 (z := (-2)) rfl ?_
      refine w_iret (pc := 19) hC hRT dX12_judged_19 rfl ?_
      refine ⟨(-2), (I 3), (I 4), rfl, rfl, ?_⟩
      · unfold VJUD; rw [if_neg (by omega), if_pos (by omega)]
  · refine w_iconst (pc := 8) hC dX12_judged_8 ?_
    refine w_iret (pc := 9) hC hRT dX12_judged_9 rfl ?_
    refine ⟨(-1), (I 3), (I 4), rfl, rfl, ?_⟩
    · unfold VJUD; rw [if_pos (by omega)]
set_option maxRecDepth 100000 in
set_option maxHeartbeats 4000000 in
theorem c_X12_refuse (l : Launch) (G : GT) (A : Nat → Nat) (I : Nat → Int → Int) (F : Nat → Int)  (c : Int) (n : Int) (a : Int) (part : Int) (hR : RI (I 1)) (h1 : -2147483648 ≤ c ∧ c < 2147483648) (h2 : -2147483648 ≤ n ∧ n < 2147483648) (h3 : -2147483648 ≤ a ∧ a < 2147483648) (h5 : -2147483648 ≤ part ∧ part < 2147483648) (hrf : (F 11) = -1) : CT l yX12_refuse cX12_refuse 7 (some .long) 6 0 0 G [.ref (A 0), .int (J c), .int (J n), .int (J a), .int (J part)] (MW A G.2.1 I F) (fun vo wo => ∃ (b3 : Int → Int) (b4 : Int → Int) (b5 : Int → Int) (b6 : Int → Int) (b7 : Int → Int) (b8 : Int → Int) (g16 : Int) (g17 : Int) (g18 : Int) (g11 : Int), vo = some (.long (JL (v_refuse (I 1) c n a part))) ∧ wo = MW A G.2.1 (au (au (au (au (au (au I 3 b3) 4 b4) 5 b5) 6 b6) 7 b7) 8 b8) (fu (fu (fu (fu F 11 g11) 16 g16) 17 g17) 18 g18) ∧ (g11 = -1)) := by
  refine CT_of (own := RX12) rfl rfl (Nat.le_of_ble_eq_true rfl) (fun K hl hnL hC hRT hin => ?_)
  subst hl
  show WW K G 0 0 (MW A G.2.1 I F) 0 [(0, .ref (A 0)), (1, .int (J c)), (2, .int (J n)), (3, .int (J a)), (4, .int (J part))] []
  have hn0 := hR.n
  have hV := hR.bd
  have hB := VB_rng hV
  refine w_aload_n (pc := 0) hC dX12_refuse_0 0 rfl rfl ?_
  refine w_iload_n (pc := 1) hC dX12_refuse_1 1 rfl rfl ?_
  refine w_callV (pc := 2) (As := [.int (J c)]) (rest := []) hC dX12_refuse_2 cv_X12_156 (c_X12_isClub (kl K) G A I F c (show RI (I 1) from by first | assumption | omega) (show -2147483648 ≤ c ∧ c < 2147483648 from by first | assumption | omega)) (by decide) ⟨Nat.le_of_ble_eq_true rfl, Nat.le_of_ble_eq_true rfl⟩ (q0 := 0) rfl rfl rfl rfl (Nat.le_of_ble_eq_true rfl) rfl (fun vo wo hv => ?_)
  obtain ⟨hv1, hw1⟩ := hv
  rw [hv1, hw1]
  show WW K G 0 0 (MW A G.2.1 I F) 5 [(0, .ref (A 0)), (1, .int (J c)), (2, .int (J n)), (3, .int (J a)), (4, .int (J part))] [.int (J (bI (0 ≤ c ∧ c < (I 1) 1)))]
  refine w_if_eq_b (pc := 5) (tgt := 36) hC dX12_refuse_5 (by decide) (fun c5 => ?_) (fun c5 => ?_)
  · refine w_ldc2 (pc := 36) hC dX12_refuse_36 (z := (-9223372036854775808)) tw_6_49 (by decide) ?_
    refine w_lret (pc := 39) hC hRT dX12_refuse_39 ?_
    refine ⟨(I 3), (I 4), (I 5), (I 6), (I 7), (I 8), (F 16), (F 17), (F 18), (F 11), retL (by unfold v_refuse NOL; rw [if_pos (by omega)]), rfl, ?_⟩
    · exact hrf
  · refine w_iload_n (pc := 8) hC dX12_refuse_8 2 rfl rfl ?_
    refine w_iconst (pc := 9) hC dX12_refuse_9 ?_
    refine w_bipush (pc := 10) hC dX12_refuse_10 (z := 6) rfl ?_
    refine w_callS (pc := 12) (As := [.int (J n), .int (J 0), .int (J 6)]) (rest := []) hC dX12_refuse_12 cs_X12_48 (c_X12_in (kl K) G (MW A G.2.1 I F) n 0 6 (show (-2147483648 ≤ n ∧ n < 2147483648) ∧ (-2147483648 ≤ 0 ∧ 0 < 2147483648) ∧ -2147483648 ≤ 6 ∧ 6 < 2147483648 from by first | assumption | omega)) (by decide) ⟨Nat.le_of_ble_eq_true rfl, Nat.le_of_ble_eq_true rfl⟩ rfl (Nat.le_of_ble_eq_true rfl) rfl (fun vo wo hv => ?_)
    obtain ⟨hv1, hw1⟩ := hv
    rw [hv1, hw1]
    show WW K G 0 0 (MW A G.2.1 I F) 15 [(0, .ref (A 0)), (1, .int (J c)), (2, .int (J n)), (3, .int (J a)), (4, .int (J part))] [.int (J (bI (0 ≤ n ∧ n ≤ 6)))]
    refine w_if_eq_b (pc := 15) (tgt := 36) hC dX12_refuse_15 (by decide) (fun c15 => ?_) (fun c15 => ?_)
    · refine w_ldc2 (pc := 36) hC dX12_refuse_36 (z := (-9223372036854775808)) tw_6_49 (by decide) ?_
      refine w_lret (pc := 39) hC hRT dX12_refuse_39 ?_
      refine ⟨(I 3), (I 4), (I 5), (I 6), (I 7), (I 8), (F 16), (F 17), (F 18), (F 11), retL (by unfold v_refuse NOL; rw [if_pos (by omega)]), rfl, ?_⟩
      · exact hrf
    · refine w_aload_n (pc := 18) hC dX12_refuse_18 0 rfl rfl ?_
      refine w_iload_n (pc := 19) hC dX12_refuse_19 3 rfl rfl ?_
      refine w_callV (pc := 20) (As := [.int (J a)]) (rest := []) hC dX12_refuse_20 cv_X12_60 (c_X12_isName (kl K) G A I F a (show RI (I 1) from by first | assumption | omega) (show -2147483648 ≤ a ∧ a < 2147483648 from by first | assumption | omega)) (by decide) ⟨Nat.le_of_ble_eq_true rfl, Nat.le_of_ble_eq_true rfl⟩ (q0 := 0) rfl rfl rfl rfl (Nat.le_of_ble_eq_true rfl) rfl (fun vo wo hv => ?_)
      obtain ⟨hv1, hw1⟩ := hv
      rw [hv1, hw1]
      show WW K G 0 0 (MW A G.2.1 I F) 23 [(0, .ref (A 0)), (1, .int (J c)), (2, .int (J n)), (3, .int (J a)), (4, .int (J part))] [.int (J (bI (0 ≤ a ∧ a < (I 1) 0)))]
      refine w_if_eq_b (pc := 23) (tgt := 36) hC dX12_refuse_23 (by decide) (fun c23 => ?_) (fun c23 => ?_)
      · refine w_ldc2 (pc := 36) hC dX12_refuse_36 (z := (-9223372036854775808)) tw_6_49 (by decide) ?_
        refine w_lret (pc := 39) hC hRT dX12_refuse_39 ?_
        refine ⟨(I 3), (I 4), (I 5), (I 6), (I 7), (I 8), (F 16), (F 17), (F 18), (F 11), retL (by unfold v_refuse NOL; rw [if_pos (by omega)]), rfl, ?_⟩
        · exact hrf
      · refine w_iload (pc := 26) hC dX12_refuse_26 4 rfl ?_
        refine w_iconst (pc := 28) hC dX12_refuse_28 ?_
        refine w_iconst (pc := 29) hC dX12_refuse_29 ?_
        refine w_callS (pc := 30) (As := [.int (J part), .int (J 0), .int (J 1)]) (rest := []) hC dX12_refuse_30 cs_X12_48 (c_X12_in (kl K) G (MW A G.2.1 I F) part 0 1 (show (-2147483648 ≤ part ∧ part < 2147483648) ∧ (-2147483648 ≤ 0 ∧ 0 < 2147483648) ∧ -2147483648 ≤ 1 ∧ 1 < 2147483648 from by first | assumption | omega)) (by decide) ⟨Nat.le_of_ble_eq_true rfl, Nat.le_of_ble_eq_true rfl⟩ rfl (Nat.le_of_ble_eq_true rfl) rfl (fun vo wo hv => ?_)
        obtain ⟨hv1, hw1⟩ := hv
        rw [hv1, hw1]
        show WW K G 0 0 (MW A G.2.1 I F) 33 [(0, .ref (A 0)), (1, .int (J c)), (2, .int (J n)), (3, .int (J a)), (4, .int (J part))] [.int (J (bI (0 ≤ part ∧ part ≤ 1)))]
        refine w_if_ne_b (pc := 33) (tgt := 40) hC dX12_refuse_33 (by decide) (fun c33 => ?_) (fun c33 => ?_)
        · refine w_aload_n (pc := 40) hC dX12_refuse_40 0 rfl rfl ?_
          refine w_iload_n (pc := 41) hC dX12_refuse_41 1 rfl rfl ?_
          refine w_aload_n (pc := 42) hC dX12_refuse_42 0 rfl rfl ?_
          refine w_getf (pc := 43) (v := .ref (A 1)) hC dX12_refuse_43 fi_X12_9 0 rfl rfl ?_
          refine w_bipush (pc := 46) hC dX12_refuse_46 (z := 6) rfl ?_
          refine w_iald (pc := 48) (g := (I 1)) hC dX12_refuse_48 1 rfl (by omega) (Nat.le_of_ble_eq_true rfl) ?_
          refine w_iload_n (pc := 49) hC dX12_refuse_49 2 rfl rfl ?_
          refine w_bipush (pc := 50) hC dX12_refuse_50 (z := (-7)) rfl ?_
          refine w_callV (pc := 52) (As := [.int (J c), .int (J ((I 1) 6)), .int (J n), .int (J (-7))]) (rest := []) hC dX12_refuse_52 cv_X12_201 (c_X12_days (kl K) G A I F c ((I 1) 6) n (-7) (show RI (I 1) from by first | assumption | omega) (show 0 ≤ c ∧ c < (I 1) 1 from by first | assumption | omega) (show 0 < (I 1) 0 from by first | assumption | omega) (show VB ((I 1) 0) ((I 1) 6) from by first | assumption | omega) (show 0 ≤ n ∧ n ≤ 6 from by first | assumption | omega) (show -1 ≤ (F 11) ∧ (F 11) ≤ 5 from by first | assumption | omega) (show FST (I 1) ((I 1) 6) ((I 1) 2) (-7) from by exact Or.inl rfl) (show (-7) = -7 ∨ (-7) = -5 ∨ (0 ≤ (-7) ∧ (-7) < (I 1) 0) from by exact Or.inl rfl)) (by decide) ⟨Nat.le_of_ble_eq_true rfl, Nat.le_of_ble_eq_true rfl⟩ (q0 := 0) rfl rfl rfl rfl (Nat.le_of_ble_eq_true rfl) rfl (fun vo wo hv => ?_)
          obtain ⟨b3_52, b4_52, b5_52, b6_52, b7_52, b8_52, g16_52, g17_52, g18_52, hv1, hw1, r52⟩ := hv
          rw [hv1, hw1]
          show WW K G 0 0 (MW A G.2.1 (au (au (au (au (au (au I 3 b3_52) 4 b4_52) 5 b5_52) 6 b6_52) 7 b7_52) 8 b8_52) (fu (fu (fu F 16 g16_52) 17 g17_52) 18 g18_52)) 55 [(0, .ref (A 0)), (1, .int (J c)), (2, .int (J n)), (3, .int (J a)), (4, .int (J part))] []
          have r52 : (∀ f : Int → Int, isum f b5_52 b7_52 (g16_52).toNat = EXP (I 1) c (F 11) (-7) n.toNat f ((I 1) 6)) ∧ LK b5_52 b7_52 g16_52 ∧ (∀ k : Int, 0 ≤ k → k < g16_52 → VB ((I 1) 0) (b5_52 k)) ∧ isum one1 b5_52 b7_52 (g16_52).toNat = g18_52 ∧ g18_52 = 100 ^ n.toNat := r52
          have hlk := r52.2.1
          have hvb := r52.2.2.1
          have htot := r52.2.2.2.1
          have hli := r52.2.2.2.2
          have hex := r52.1
          have hp := p100 (n := n) (by omega) (by omega)
          rw [← hli] at hp
          rw [hrf] at hex
          have hmm := hlk.1
          refine w_aload_n (pc := 55) hC dX12_refuse_55 0 rfl rfl ?_
          refine w_iload_n (pc := 56) hC dX12_refuse_56 3 rfl rfl ?_
          refine w_callV (pc := 57) (As := [.int (J a)]) (rest := []) hC dX12_refuse_57 cv_X12_216 (c_X12_rungs (kl K) G A (au (au (au (au (au (au I 3 b3_52) 4 b4_52) 5 b5_52) 6 b6_52) 7 b7_52) 8 b8_52) (fu (fu (fu F 16 g16_52) 17 g17_52) 18 g18_52) a (show RI (I 1) from by first | assumption | omega) (show 0 ≤ a ∧ a < (I 1) 0 from by first | assumption | omega) (show LK b5_52 b7_52 g16_52 from by first | assumption | omega) (show ∀ k : Int, 0 ≤ k → k < g16_52 → VB ((I 1) 0) (b5_52 k) from by first | assumption | omega)) (by decide) ⟨Nat.le_of_ble_eq_true rfl, Nat.le_of_ble_eq_true rfl⟩ (q0 := 0) rfl rfl rfl rfl (Nat.le_of_ble_eq_true rfl) rfl (fun vo wo hv => ?_)
          obtain ⟨hv1, hw1⟩ := hv
          rw [hv1, hw1]
          show WW K G 0 0 (MW A G.2.1 (au (au (au (au (au (au I 3 b3_52) 4 b4_52) 5 b5_52) 6 b6_52) 7 b7_52) 8 b8_52) (fu (fu (fu F 16 g16_52) 17 g17_52) 18 g18_52)) 60 [(0, .ref (A 0)), (1, .int (J c)), (2, .int (J n)), (3, .int (J a)), (4, .int (J part))] [.long (JL (isum (fun b => rk ((I 1) 0) b a) b5_52 b7_52 g16_52.toNat))]
          have hsr := isum_rng (f := fun b => rk (I 1 0) b a) hlk (c := 5) (fun j g1 g2 => by have := (rk_spec (hvb j g1 g2) (a := a) (by omega) (by omega)).1; omega)
          refine w_lstore (pc := 60) hC dX12_refuse_60 (lv2 := [(5, .long (JL (isum (fun b => rk ((I 1) 0) b a) b5_52 b7_52 g16_52.toNat))), (0, .ref (A 0)), (1, .int (J c)), (2, .int (J n)), (3, .int (J a)), (4, .int (J part))]) (by rw [hnL]; decide) rfl ?_
          refine w_aload_n (pc := 62) hC dX12_refuse_62 1 rfl rfl ?_
          refine w_iload_n (pc := 63) hC dX12_refuse_63 4 rfl rfl ?_
          refine w_putf (pc := 64) (w2 := MW A G.2.1 (au (au (au (au (au (au I 3 b3_52) 4 b4_52) 5 b5_52) 6 b6_52) 7 b7_52) 8 b8_52) (fu (fu (fu (fu F 11 a) 16 g16_52) 17 g17_52) 18 g18_52)) hC dX12_refuse_64 fi_X12_25 fp_X12_11 rfl 0 rfl (rfl) (rfl) (Nat.le_of_ble_eq_true rfl) rfl ?_
          refine w_aload_n (pc := 67) hC dX12_refuse_67 1 rfl rfl ?_
          refine w_iload_n (pc := 68) hC dX12_refuse_68 2 rfl rfl ?_
          refine w_aload_n (pc := 69) hC dX12_refuse_69 1 rfl rfl ?_
          refine w_getf (pc := 70) (v := .ref (A 1)) hC dX12_refuse_70 fi_X12_9 0 rfl rfl ?_
          refine w_bipush (pc := 73) hC dX12_refuse_73 (z := 6) rfl ?_
          refine w_iald (pc := 75) (g := (I 1)) hC dX12_refuse_75 1 rfl (by omega) (Nat.le_of_ble_eq_true rfl) ?_
          refine w_iload_n (pc := 76) hC dX12_refuse_76 3 rfl rfl ?_
          refine w_bipush (pc := 77) hC dX12_refuse_77 (z := (-7)) rfl ?_
          refine w_callV (pc := 79) (As := [.int (J c), .int (J ((I 1) 6)), .int (J n), .int (J (-7))]) (rest := []) hC dX12_refuse_79 cv_X12_201 (c_X12_days (kl K) G A (au (au (au (au (au (au I 3 b3_52) 4 b4_52) 5 b5_52) 6 b6_52) 7 b7_52) 8 b8_52) (fu (fu (fu (fu F 11 a) 16 g16_52) 17 g17_52) 18 g18_52) c ((I 1) 6) n (-7) (show RI (I 1) from by first | assumption | omega) (show 0 ≤ c ∧ c < (I 1) 1 from by first | assumption | omega) (show 0 < (I 1) 0 from by first | assumption | omega) (show VB ((I 1) 0) ((I 1) 6) from by first | assumption | omega) (show 0 ≤ n ∧ n ≤ 6 from by first | assumption | omega) (show -1 ≤ a ∧ a ≤ 5 from by first | assumption | omega) (show FST (I 1) ((I 1) 6) ((I 1) 2) (-7) from by exact Or.inl rfl) (show (-7) = -7 ∨ (-7) = -5 ∨ (0 ≤ (-7) ∧ (-7) < (I 1) 0) from by exact Or.inl rfl)) (by decide) ⟨Nat.le_of_ble_eq_true rfl, Nat.le_of_ble_eq_true rfl⟩ (q0 := 0) rfl rfl rfl rfl (Nat.le_of_ble_eq_true rfl) rfl (fun vo wo hv => ?_)
          obtain ⟨b3_79, b4_79, b5_79, b6_79, b7_79, b8_79, g16_79, g17_79, g18_79, hv1, hw1, r79⟩ := hv
          rw [hv1, hw1]
          show WW K G 0 0 (MW A G.2.1 (au (au (au (au (au (au I 3 b3_79) 4 b4_79) 5 b5_79) 6 b6_79) 7 b7_79) 8 b8_79) (fu (fu (fu (fu F 11 a) 16 g16_79) 17 g17_79) 18 g18_79)) 82 [(5, .long (JL (isum (fun b => rk ((I 1) 0) b a) b5_52 b7_52 g16_52.toNat))), (0, .ref (A 0)), (1, .int (J c)), (2, .int (J n)), (3, .int (J a)), (4, .int (J part))] []
          have r79 : (∀ f : Int → Int, isum f b5_79 b7_79 (g16_79).toNat = EXP (I 1) c a (-7) n.toNat f ((I 1) 6)) ∧ LK b5_79 b7_79 g16_79 ∧ (∀ k : Int, 0 ≤ k → k < g16_79 → VB ((I 1) 0) (b5_79 k)) ∧ isum one1 b5_79 b7_79 (g16_79).toNat = g18_79 ∧ g18_79 = 100 ^ n.toNat := r79
          have hlk := r79.2.1
          have hvb := r79.2.2.1
          have htot := r79.2.2.2.1
          have hli := r79.2.2.2.2
          have hex2 := r79.1
          have hp2 := p100 (n := n) (by omega) (by omega)
          rw [← hli] at hp2
          refine w_aload_n (pc := 82) hC dX12_refuse_82 1 rfl rfl ?_
          refine w_iconst (pc := 83) hC dX12_refuse_83 ?_
          refine w_putf (pc := 84) (w2 := MW A G.2.1 (au (au (au (au (au (au I 3 b3_79) 4 b4_79) 5 b5_79) 6 b6_79) 7 b7_79) 8 b8_79) (fu (fu (fu (fu F 11 (-1)) 16 g16_79) 17 g17_79) 18 g18_79)) hC dX12_refuse_84 fi_X12_25 fp_X12_11 rfl 0 rfl (rfl) (rfl) (Nat.le_of_ble_eq_true rfl) rfl ?_
          refine w_lload (pc := 87) hC dX12_refuse_87 0 rfl ?_
          refine w_aload_n (pc := 89) hC dX12_refuse_89 1 rfl rfl ?_
          refine w_iload_n (pc := 90) hC dX12_refuse_90 4 rfl rfl ?_
          refine w_callV (pc := 91) (As := [.int (J a)]) (rest := [.long (JL (isum (fun b => rk ((I 1) 0) b a) b5_52 b7_52 g16_52.toNat))]) hC dX12_refuse_91 cv_X12_216 (c_X12_rungs (kl K) G A (au (au (au (au (au (au I 3 b3_79) 4 b4_79) 5 b5_79) 6 b6_79) 7 b7_79) 8 b8_79) (fu (fu (fu (fu F 11 (-1)) 16 g16_79) 17 g17_79) 18 g18_79) a (show RI (I 1) from by first | assumption | omega) (show 0 ≤ a ∧ a < (I 1) 0 from by first | assumption | omega) (show LK b5_79 b7_79 g16_79 from by first | assumption | omega) (show ∀ k : Int, 0 ≤ k → k < g16_79 → VB ((I 1) 0) (b5_79 k) from by first | assumption | omega)) (by decide) ⟨Nat.le_of_ble_eq_true rfl, Nat.le_of_ble_eq_true rfl⟩ (q0 := 0) rfl rfl rfl rfl (Nat.le_of_ble_eq_true rfl) rfl (fun vo wo hv => ?_)
          obtain ⟨hv1, hw1⟩ := hv
          rw [hv1, hw1]
          show WW K G 0 0 (MW A G.2.1 (au (au (au (au (au (au I 3 b3_79) 4 b4_79) 5 b5_79) 6 b6_79) 7 b7_79) 8 b8_79) (fu (fu (fu (fu F 11 (-1)) 16 g16_79) 17 g17_79) 18 g18_79)) 94 [(5, .long (JL (isum (fun b => rk ((I 1) 0) b a) b5_52 b7_52 g16_52.toNat))), (0, .ref (A 0)), (1, .int (J c)), (2, .int (J n)), (3, .int (J a)), (4, .int (J part))] [.long (JL (isum (fun b => rk ((I 1) 0) b a) b5_79 b7_79 g16_79.toNat)), .long (JL (isum (fun b => rk ((I 1) 0) b a) b5_52 b7_52 g16_52.toNat))]
          have hsr2 := isum_rng (f := fun b => rk (I 1 0) b a) hlk (c := 5) (fun j g1 g2 => by have := (rk_spec (hvb j g1 g2) (a := a) (by omega) (by omega)).1; omega)
          refine w_lsub (pc := 94) hC dX12_refuse_94 ?_
          refine w_aload_n (pc := 95) hC dX12_refuse_95 1 rfl rfl ?_
          refine w_getf (pc := 96) (v := .long (JL g18_79)) hC dX12_refuse_96 fi_X12_185 0 rfl rfl ?_
          refine w_iload (pc := 99) hC dX12_refuse_99 5 rfl ?_
          refine w_callS (pc := 101) (As := [.long (JL ((isum (fun b => rk ((I 1) 0) b a) b5_52 b7_52 g16_52.toNat) - (isum (fun b => rk ((I 1) 0) b a) b5_79 b7_79 g16_79.toNat))), .long (JL g18_79), .int (J part)]) (rest := []) hC dX12_refuse_101 cs_X12_205 (c_X12_lowest (kl K) G (MW A G.2.1 (au (au (au (au (au (au I 3 b3_79) 4 b4_79) 5 b5_79) 6 b6_79) 7 b7_79) 8 b8_79) (fu (fu (fu (fu F 11 (-1)) 16 g16_79) 17 g17_79) 18 g18_79)) ((isum (fun b => rk ((I 1) 0) b a) b5_52 b7_52 g16_52.toNat) - (isum (fun b => rk ((I 1) 0) b a) b5_79 b7_79 g16_79.toNat)) g18_79 part (show -1000000000000000 ≤ ((isum (fun b => rk ((I 1) 0) b a) b5_52 b7_52 g16_52.toNat) - (isum (fun b => rk ((I 1) 0) b a) b5_79 b7_79 g16_79.toNat)) ∧ ((isum (fun b => rk ((I 1) 0) b a) b5_52 b7_52 g16_52.toNat) - (isum (fun b => rk ((I 1) 0) b a) b5_79 b7_79 g16_79.toNat)) ≤ 1000000000000000 from by first | assumption | omega) (show 1 ≤ g18_79 ∧ g18_79 ≤ 1000000000000000 from by first | assumption | omega) (show -2147483648 ≤ part ∧ part < 2147483648 from by first | assumption | omega)) (by decide) ⟨Nat.le_of_ble_eq_true rfl, Nat.le_of_ble_eq_true rfl⟩ rfl (Nat.le_of_ble_eq_true rfl) rfl (fun vo wo hv => ?_)
          obtain ⟨hv1, hw1⟩ := hv
          rw [hv1, hw1]
          show WW K G 0 0 (MW A G.2.1 (au (au (au (au (au (au I 3 b3_79) 4 b4_79) 5 b5_79) 6 b6_79) 7 b7_79) 8 b8_79) (fu (fu (fu (fu F 11 (-1)) 16 g16_79) 17 g17_79) 18 g18_79)) 104 [(5, .long (JL (isum (fun b => rk ((I 1) 0) b a) b5_52 b7_52 g16_52.toNat))), (0, .ref (A 0)), (1, .int (J c)), (2, .int (J n)), (3, .int (J a)), (4, .int (J part))] [.long (JL (LOW ((isum (fun b => rk ((I 1) 0) b a) b5_52 b7_52 g16_52.toNat) - (isum (fun b => rk ((I 1) 0) b a) b5_79 b7_79 g16_79.toNat)) g18_79 part))]
          refine w_lret (pc := 104) hC hRT dX12_refuse_104 ?_
          refine ⟨b3_79, b4_79, b5_79, b6_79, b7_79, b8_79, g16_79, g17_79, g18_79, (-1), retL (by unfold v_refuse; rw [if_neg (by omega), ← hli, ← hex, ← hex2]), rfl, ?_⟩
          · rfl
        · refine w_ldc2 (pc := 36) hC dX12_refuse_36 (z := (-9223372036854775808)) tw_6_49 (by decide) ?_
          refine w_lret (pc := 39) hC hRT dX12_refuse_39 ?_
          refine ⟨(I 3), (I 4), (I 5), (I 6), (I 7), (I 8), (F 16), (F 17), (F 18), (F 11), retL (by unfold v_refuse NOL; rw [if_pos (by omega)]), rfl, ?_⟩
          · exact hrf
set_option maxRecDepth 100000 in
set_option maxHeartbeats 4000000 in
theorem c_X12_begin (l : Launch) (G : GT) (A : Nat → Nat) (I : Nat → Int → Int) (F : Nat → Int)  (c : Int) (n : Int) (name : Int) (hR : RI (I 1)) (h1 : -2147483648 ≤ c ∧ c < 2147483648) (h2 : -2147483648 ≤ n ∧ n < 2147483648) (h3 : -2147483648 ≤ name ∧ name < 2147483648) (hrf : (F 11) = -1) : CT l yX12_begin cX12_begin 10 (some .int) 6 0 0 G [.ref (A 0), .int (J c), .int (J n), .int (J name)] (MW A G.2.1 I F) (fun vo wo => ∃ (b3 : Int → Int) (b4 : Int → Int) (b5 : Int → Int) (b6 : Int → Int) (b7 : Int → Int) (b8 : Int → Int) (g16 : Int) (g17 : Int) (g18 : Int), vo = some (.int (J (v_begin (I 1) c n name))) ∧ wo = MW A G.2.1 (au (au (au (au (au (au I 3 b3) 4 b4) 5 b5) 6 b6) 7 b7) 8 b8) (fu (fu (fu F 16 g16) 17 g17) 18 g18)) := by
  refine CT_of (own := RX12) rfl rfl (Nat.le_of_ble_eq_true rfl) (fun K hl hnL hC hRT hin => ?_)
  subst hl
  show WW K G 0 0 (MW A G.2.1 I F) 0 [(0, .ref (A 0)), (1, .int (J c)), (2, .int (J n)), (3, .int (J name))] []
  have hn0 := hR.n
  have hV := hR.bd
  have hB := VB_rng hV
  refine w_aload_n (pc := 0) hC dX12_begin_0 0 rfl rfl ?_
  refine w_iload_n (pc := 1) hC dX12_begin_1 1 rfl rfl ?_
  refine w_callV (pc := 2) (As := [.int (J c)]) (rest := []) hC dX12_begin_2 cv_X12_156 (c_X12_isClub (kl K) G A I F c (show RI (I 1) from by first | assumption | omega) (show -2147483648 ≤ c ∧ c < 2147483648 from by first | assumption | omega)) (by decide) ⟨Nat.le_of_ble_eq_true rfl, Nat.le_of_ble_eq_true rfl⟩ (q0 := 0) rfl rfl rfl rfl (Nat.le_of_ble_eq_true rfl) rfl (fun vo wo hv => ?_)
  obtain ⟨hv1, hw1⟩ := hv
  rw [hv1, hw1]
  show WW K G 0 0 (MW A G.2.1 I F) 5 [(0, .ref (A 0)), (1, .int (J c)), (2, .int (J n)), (3, .int (J name))] [.int (J (bI (0 ≤ c ∧ c < (I 1) 1)))]
  refine w_if_eq_b (pc := 5) (tgt := 16) hC dX12_begin_5 (by decide) (fun c5 => ?_) (fun c5 => ?_)
  · refine w_iconst (pc := 16) hC dX12_begin_16 ?_
    refine w_iret (pc := 17) hC hRT dX12_begin_17 rfl ?_
    refine ⟨(I 3), (I 4), (I 5), (I 6), (I 7), (I 8), (F 16), (F 17), (F 18), retI (by first | rfl | (simp only [v_begin]; repeat' split) <;> first | rfl | omega), rfl⟩
  · refine w_aload_n (pc := 8) hC dX12_begin_8 0 rfl rfl ?_
    refine w_iload_n (pc := 9) hC dX12_begin_9 3 rfl rfl ?_
    refine w_callV (pc := 10) (As := [.int (J name)]) (rest := []) hC dX12_begin_10 cv_X12_60 (c_X12_isName (kl K) G A I F name (show RI (I 1) from by first | assumption | omega) (show -2147483648 ≤ name ∧ name < 2147483648 from by first | assumption | omega)) (by decide) ⟨Nat.le_of_ble_eq_true rfl, Nat.le_of_ble_eq_true rfl⟩ (q0 := 0) rfl rfl rfl rfl (Nat.le_of_ble_eq_true rfl) rfl (fun vo wo hv => ?_)
    obtain ⟨hv1, hw1⟩ := hv
    rw [hv1, hw1]
    show WW K G 0 0 (MW A G.2.1 I F) 13 [(0, .ref (A 0)), (1, .int (J c)), (2, .int (J n)), (3, .int (J name))] [.int (J (bI (0 ≤ name ∧ name < (I 1) 0)))]
    refine w_if_ne_b (pc := 13) (tgt := 18) hC dX12_begin_13 (by decide) (fun c13 => ?_) (fun c13 => ?_)
    · refine w_iload_n (pc := 18) hC dX12_begin_18 2 rfl rfl ?_
      refine w_iconst (pc := 19) hC dX12_begin_19 ?_
      refine w_bipush (pc := 20) hC dX12_begin_20 (z := 6) rfl ?_
      refine w_callS (pc := 22) (As := [.int (J n), .int (J 0), .int (J 6)]) (rest := []) hC dX12_begin_22 cs_X12_48 (c_X12_in (kl K) G (MW A G.2.1 I F) n 0 6 (show (-2147483648 ≤ n ∧ n < 2147483648) ∧ (-2147483648 ≤ 0 ∧ 0 < 2147483648) ∧ -2147483648 ≤ 6 ∧ 6 < 2147483648 from by first | assumption | omega)) (by decide) ⟨Nat.le_of_ble_eq_true rfl, Nat.le_of_ble_eq_true rfl⟩ rfl (Nat.le_of_ble_eq_true rfl) rfl (fun vo wo hv => ?_)
      obtain ⟨hv1, hw1⟩ := hv
      rw [hv1, hw1]
      show WW K G 0 0 (MW A G.2.1 I F) 25 [(0, .ref (A 0)), (1, .int (J c)), (2, .int (J n)), (3, .int (J name))] [.int (J (bI (0 ≤ n ∧ n ≤ 6)))]
      refine w_if_ne_b (pc := 25) (tgt := 31) hC dX12_begin_25 (by decide) (fun c25 => ?_) (fun c25 => ?_)
      · refine w_iconst (pc := 31) hC dX12_begin_31 ?_
        refine w_istore (pc := 32) hC dX12_begin_32 (lv2 := [(4, .int (J 0)), (0, .ref (A 0)), (1, .int (J c)), (2, .int (J n)), (3, .int (J name))]) (by rw [hnL]; decide) rfl ?_
        refine w_ldc2 (pc := 34) hC dX12_begin_34 (z := (-1)) tw_6_121 (by decide) ?_
        refine w_lstore (pc := 37) hC dX12_begin_37 (lv2 := [(5, .long (JL (-1))), (4, .int (J 0)), (0, .ref (A 0)), (1, .int (J c)), (2, .int (J n)), (3, .int (J name))]) (by rw [hnL]; decide) rfl ?_
        refine w_iconst (pc := 39) hC dX12_begin_39 ?_
        refine w_istore (pc := 40) hC dX12_begin_40 (lv2 := [(7, .int (J 0)), (5, .long (JL (-1))), (4, .int (J 0)), (0, .ref (A 0)), (1, .int (J c)), (2, .int (J n)), (3, .int (J name))]) (by rw [hnL]; decide) rfl ?_
        have loop42 : ∀ (nF : Nat) (bs : Int) (mo : Int) (r : Int) (a3_42 : Int → Int) (a4_42 : Int → Int) (a5_42 : Int → Int) (a6_42 : Int → Int) (a7_42 : Int → Int) (a8_42 : Int → Int) (f16_42 : Int) (f17_42 : Int) (f18_42 : Int), (0 ≤ r ∧ r ≤ (I 1) 0) → (bs = (amx (fun r => EXP (I 1) c (-1) (-7) n.toNat (fun b => bI (b = TB (I 1))) (mvd ((I 1) 0) ((I 1) 6) name r)) r.toNat).1) → (mo = (amx (fun r => EXP (I 1) c (-1) (-7) n.toNat (fun b => bI (b = TB (I 1))) (mvd ((I 1) 0) ((I 1) 6) name r)) r.toNat).2) → (-1 ≤ mo ∧ mo ≤ 1000000000000) → ((I 1) 0 - r) < (nF : Int) → WW K G 0 0 (MW A G.2.1 (au (au (au (au (au (au I 3 a3_42) 4 a4_42) 5 a5_42) 6 a6_42) 7 a7_42) 8 a8_42) (fu (fu (fu F 16 f16_42) 17 f17_42) 18 f18_42)) 42 [(0, .ref (A 0)), (1, .int (J c)), (2, .int (J n)), (3, .int (J name)), (4, .int (J bs)), (5, .long (JL mo)), (7, .int (J r))] [] := by
          intro nF
          induction nF with
          | zero => intro bs mo r a3_42 a4_42 a5_42 a6_42 a7_42 a8_42 f16_42 f17_42 f18_42 i1 i2 i3 i4 hm42; exact absurd hm42 (by omega)
          | succ nF ih42 =>
            intro bs mo r a3_42 a4_42 a5_42 a6_42 a7_42 a8_42 f16_42 f17_42 f18_42 i1 i2 i3 i4 hm42
            refine w_iload (pc := 42) hC dX12_begin_42 6 rfl ?_
            refine w_aload_n (pc := 44) hC dX12_begin_44 0 rfl rfl ?_
            refine w_getf (pc := 45) (v := .ref (A 1)) hC dX12_begin_45 fi_X12_9 0 rfl rfl ?_
            refine w_iconst (pc := 48) hC dX12_begin_48 ?_
            refine w_iald (pc := 49) (g := (I 1)) hC dX12_begin_49 1 rfl (by omega) (Nat.le_of_ble_eq_true rfl) ?_
            refine w_icmp_ge (pc := 50) (tgt := 121) hC dX12_begin_50 (by decide) (by omega) (fun c50 => ?_) (fun c50 => ?_)
            · refine w_iload (pc := 121) hC dX12_begin_121 4 rfl ?_
              refine w_iret (pc := 123) hC hRT dX12_begin_123 rfl ?_
              refine ⟨a3_42, a4_42, a5_42, a6_42, a7_42, a8_42, f16_42, f17_42, f18_42, retI (by unfold v_begin; rw [if_neg (by omega), if_neg (by omega), i2, show r = I 1 0 by omega]), rfl⟩
            · refine w_aload_n (pc := 53) hC dX12_begin_53 0 rfl rfl ?_
              refine w_iload_n (pc := 54) hC dX12_begin_54 1 rfl rfl ?_
              refine w_aload_n (pc := 55) hC dX12_begin_55 0 rfl rfl ?_
              refine w_aload_n (pc := 56) hC dX12_begin_56 0 rfl rfl ?_
              refine w_getf (pc := 57) (v := .ref (A 1)) hC dX12_begin_57 fi_X12_9 0 rfl rfl ?_
              refine w_bipush (pc := 60) hC dX12_begin_60 (z := 6) rfl ?_
              refine w_iald (pc := 62) (g := (I 1)) hC dX12_begin_62 1 rfl (by omega) (Nat.le_of_ble_eq_true rfl) ?_
              refine w_iload_n (pc := 63) hC dX12_begin_63 3 rfl rfl ?_
              refine w_iload (pc := 64) hC dX12_begin_64 6 rfl ?_
              refine w_callV (pc := 66) (As := [.int (J ((I 1) 6)), .int (J name), .int (J r)]) (rest := [.int (J c), .ref (A 0)]) hC dX12_begin_66 cv_X12_71 (c_X12_moved (kl K) G A (au (au (au (au (au (au I 3 a3_42) 4 a4_42) 5 a5_42) 6 a6_42) 7 a7_42) 8 a8_42) (fu (fu (fu F 16 f16_42) 17 f17_42) 18 f18_42) ((I 1) 6) name r (show RI (I 1) from by first | assumption | omega) (show VB ((I 1) 0) ((I 1) 6) from by first | assumption | omega) (show 0 ≤ name ∧ name < (I 1) 0 from by first | assumption | omega) (show 0 ≤ r ∧ r < (I 1) 0 from by first | assumption | omega)) (by decide) ⟨Nat.le_of_ble_eq_true rfl, Nat.le_of_ble_eq_true rfl⟩ (q0 := 0) rfl rfl rfl rfl (Nat.le_of_ble_eq_true rfl) rfl (fun vo wo hv => ?_)
              obtain ⟨hv1, hw1⟩ := hv
              rw [hv1, hw1]
              show WW K G 0 0 (MW A G.2.1 (au (au (au (au (au (au I 3 a3_42) 4 a4_42) 5 a5_42) 6 a6_42) 7 a7_42) 8 a8_42) (fu (fu (fu F 16 f16_42) 17 f17_42) 18 f18_42)) 69 [(0, .ref (A 0)), (1, .int (J c)), (2, .int (J n)), (3, .int (J name)), (4, .int (J bs)), (5, .long (JL mo)), (7, .int (J r))] [.int (J (mvd ((I 1) 0) ((I 1) 6) name r)), .int (J c), .ref (A 0)]
              have q66_0 := @VB_mvd ((I 1) 0) ((I 1) 6) name r (by assumption) (by omega) (by omega)
              refine w_iload_n (pc := 69) hC dX12_begin_69 2 rfl rfl ?_
              refine w_bipush (pc := 70) hC dX12_begin_70 (z := (-7)) rfl ?_
              refine w_callV (pc := 72) (As := [.int (J c), .int (J (mvd ((I 1) 0) ((I 1) 6) name r)), .int (J n), .int (J (-7))]) (rest := []) hC dX12_begin_72 cv_X12_201 (c_X12_days (kl K) G A (au (au (au (au (au (au I 3 a3_42) 4 a4_42) 5 a5_42) 6 a6_42) 7 a7_42) 8 a8_42) (fu (fu (fu F 16 f16_42) 17 f17_42) 18 f18_42) c (mvd ((I 1) 0) ((I 1) 6) name r) n (-7) (show RI (I 1) from by first | assumption | omega) (show 0 ≤ c ∧ c < (I 1) 1 from by first | assumption | omega) (show 0 < (I 1) 0 from by first | assumption | omega) (show VB ((I 1) 0) (mvd ((I 1) 0) ((I 1) 6) name r) from by first | assumption | omega) (show 0 ≤ n ∧ n ≤ 6 from by first | assumption | omega) (show -1 ≤ (F 11) ∧ (F 11) ≤ 5 from by first | assumption | omega) (show FST (I 1) (mvd ((I 1) 0) ((I 1) 6) name r) ((I 1) 2) (-7) from by exact Or.inl rfl) (show (-7) = -7 ∨ (-7) = -5 ∨ (0 ≤ (-7) ∧ (-7) < (I 1) 0) from by exact Or.inl rfl)) (by decide) ⟨Nat.le_of_ble_eq_true rfl, Nat.le_of_ble_eq_true rfl⟩ (q0 := 0) rfl rfl rfl rfl (Nat.le_of_ble_eq_true rfl) rfl (fun vo wo hv => ?_)
              obtain ⟨b3_72, b4_72, b5_72, b6_72, b7_72, b8_72, g16_72, g17_72, g18_72, hv1, hw1, r72⟩ := hv
              rw [hv1, hw1]
              show WW K G 0 0 (MW A G.2.1 (au (au (au (au (au (au I 3 b3_72) 4 b4_72) 5 b5_72) 6 b6_72) 7 b7_72) 8 b8_72) (fu (fu (fu F 16 g16_72) 17 g17_72) 18 g18_72)) 75 [(0, .ref (A 0)), (1, .int (J c)), (2, .int (J n)), (3, .int (J name)), (4, .int (J bs)), (5, .long (JL mo)), (7, .int (J r))] []
              have r72 : (∀ f : Int → Int, isum f b5_72 b7_72 (g16_72).toNat = EXP (I 1) c (F 11) (-7) n.toNat f (mvd ((I 1) 0) ((I 1) 6) name r)) ∧ LK b5_72 b7_72 g16_72 ∧ (∀ k : Int, 0 ≤ k → k < g16_72 → VB ((I 1) 0) (b5_72 k)) ∧ isum one1 b5_72 b7_72 (g16_72).toNat = g18_72 ∧ g18_72 = 100 ^ n.toNat := r72
              have hlk := r72.2.1
              have hvb := r72.2.2.1
              have htot := r72.2.2.2.1
              have hli := r72.2.2.2.2
              have hex := r72.1
              have hp := p100 (n := n) (by omega) (by omega)
              rw [← hli] at hp
              rw [hrf] at hex
              have hmm := hlk.1
              refine w_aload_n (pc := 75) hC dX12_begin_75 0 rfl rfl ?_
              refine w_callV (pc := 76) (As := []) (rest := []) hC dX12_begin_76 cv_X12_209 (c_X12_trulyNow (kl K) G A (au (au (au (au (au (au I 3 b3_72) 4 b4_72) 5 b5_72) 6 b6_72) 7 b7_72) 8 b8_72) (fu (fu (fu F 16 g16_72) 17 g17_72) 18 g18_72) (show RI (I 1) from by first | assumption | omega) (show LK b5_72 b7_72 g16_72 from by first | assumption | omega) (show ∀ k : Int, 0 ≤ k → k < g16_72 → VB ((I 1) 0) (b5_72 k) from by first | assumption | omega)) (by decide) ⟨Nat.le_of_ble_eq_true rfl, Nat.le_of_ble_eq_true rfl⟩ (q0 := 0) rfl rfl rfl rfl (Nat.le_of_ble_eq_true rfl) rfl (fun vo wo hv => ?_)
              obtain ⟨hv1, hw1⟩ := hv
              rw [hv1, hw1]
              show WW K G 0 0 (MW A G.2.1 (au (au (au (au (au (au I 3 b3_72) 4 b4_72) 5 b5_72) 6 b6_72) 7 b7_72) 8 b8_72) (fu (fu (fu F 16 g16_72) 17 g17_72) 18 g18_72)) 79 [(0, .ref (A 0)), (1, .int (J c)), (2, .int (J n)), (3, .int (J name)), (4, .int (J bs)), (5, .long (JL mo)), (7, .int (J r))] [.long (JL (isum (fun b => bI (b = TB (I 1))) b5_72 b7_72 g16_72.toNat))]
              refine w_topL (e2 := EXP (I 1) c (-1) (-7) n.toNat (fun b => bI (b = TB (I 1))) (mvd ((I 1) 0) ((I 1) 6) name r)) (by exact hex _) ?_
              refine w_lstore (pc := 79) hC dX12_begin_79 (lv2 := [(8, .long (JL (EXP (I 1) c (-1) (-7) n.toNat (fun b => bI (b = TB (I 1))) (mvd ((I 1) 0) ((I 1) 6) name r)))), (0, .ref (A 0)), (1, .int (J c)), (2, .int (J n)), (3, .int (J name)), (4, .int (J bs)), (5, .long (JL mo)), (7, .int (J r))]) (by rw [hnL]; decide) rfl ?_
              have hsr := isum_rng (f := fun b => bI (b = TB (I 1))) hlk (c := 1) (fun j _ _ => bI_01 _)
              rw [hex] at hsr
              refine w_lload (pc := 81) hC dX12_begin_81 0 rfl ?_
              refine w_lload (pc := 83) hC dX12_begin_83 6 rfl ?_
              refine w_lcmp (pc := 85) hC dX12_begin_85 (by omega) ?_
              refine w_if_le_c (pc := 86) (tgt := 94) hC dX12_begin_86 (by decide) (fun c86 => ?_) (fun c86 => ?_)
              · refine w_iload (pc := 94) hC dX12_begin_94 5 rfl ?_
                refine w_istore (pc := 96) hC dX12_begin_96 (lv2 := [(4, .int (J bs)), (8, .long (JL (EXP (I 1) c (-1) (-7) n.toNat (fun b => bI (b = TB (I 1))) (mvd ((I 1) 0) ((I 1) 6) name r)))), (0, .ref (A 0)), (1, .int (J c)), (2, .int (J n)), (3, .int (J name)), (5, .long (JL mo)), (7, .int (J r))]) (by rw [hnL]; decide) rfl ?_
                refine w_lload (pc := 98) hC dX12_begin_98 1 rfl ?_
                refine w_lload (pc := 100) hC dX12_begin_100 6 rfl ?_
                refine w_lcmp (pc := 102) hC dX12_begin_102 (by omega) ?_
                refine w_if_le_c (pc := 103) (tgt := 111) hC dX12_begin_103 (by decide) (fun c103 => ?_) (fun c103 => ?_)
                · refine w_lload (pc := 111) hC dX12_begin_111 6 rfl ?_
                  refine w_lstore (pc := 113) hC dX12_begin_113 (lv2 := [(5, .long (JL mo)), (4, .int (J bs)), (8, .long (JL (EXP (I 1) c (-1) (-7) n.toNat (fun b => bI (b = TB (I 1))) (mvd ((I 1) 0) ((I 1) 6) name r)))), (0, .ref (A 0)), (1, .int (J c)), (2, .int (J n)), (3, .int (J name)), (7, .int (J r))]) (by rw [hnL]; decide) rfl ?_
                  refine w_iinc (pc := 115) hC dX12_begin_115 (lv2 := [(7, .int (J (r + 1))), (5, .long (JL mo)), (4, .int (J bs)), (8, .long (JL (EXP (I 1) c (-1) (-7) n.toNat (fun b => bI (b = TB (I 1))) (mvd ((I 1) 0) ((I 1) 6) name r)))), (0, .ref (A 0)), (1, .int (J c)), (2, .int (J n)), (3, .int (J name))]) 7 rfl (by rw [hnL]; decide) rfl ?_
                  refine w_goto (pc := 118) hC dX12_begin_118 (tgt := 42) (by decide) ?_
                  refine w_sub [4, 5, 6, 7, 2, 1, 0] (lv2 := [(0, .ref (A 0)), (1, .int (J c)), (2, .int (J n)), (3, .int (J name)), (4, .int (J bs)), (5, .long (JL mo)), (7, .int (J (r + 1)))]) rfl ?_
                  refine ih42 bs mo (r + 1) b3_72 b4_72 b5_72 b6_72 b7_72 b8_72 g16_72 g17_72 g18_72 ?_ ?_ ?_ ?_ ?_
                  · first | assumption | omega
                  · first | (exfalso; omega) | (rw [amx_s _ i1.1, ← i3]; first | rw [if_pos c86] | rw [if_neg (Int.not_lt.mpr c86)]; first | rfl | exact i2 | exact i3)
                  · first | (exfalso; omega) | (rw [amx_s _ i1.1, ← i3]; first | rw [if_pos c86] | rw [if_neg (Int.not_lt.mpr c86)]; first | rfl | exact i2 | exact i3)
                  · omega
                  · omega
                · refine w_lload (pc := 106) hC dX12_begin_106 1 rfl ?_
                  refine w_goto (pc := 108) hC dX12_begin_108 (tgt := 113) (by decide) ?_
                  refine w_lstore (pc := 113) hC dX12_begin_113 (lv2 := [(5, .long (JL (EXP (I 1) c (-1) (-7) n.toNat (fun b => bI (b = TB (I 1))) (mvd ((I 1) 0) ((I 1) 6) name r)))), (4, .int (J bs)), (8, .long (JL (EXP (I 1) c (-1) (-7) n.toNat (fun b => bI (b = TB (I 1))) (mvd ((I 1) 0) ((I 1) 6) name r)))), (0, .ref (A 0)), (1, .int (J c)), (2, .int (J n)), (3, .int (J name)), (7, .int (J r))]) (by rw [hnL]; decide) rfl ?_
                  refine w_iinc (pc := 115) hC dX12_begin_115 (lv2 := [(7, .int (J (r + 1))), (5, .long (JL (EXP (I 1) c (-1) (-7) n.toNat (fun b => bI (b = TB (I 1))) (mvd ((I 1) 0) ((I 1) 6) name r)))), (4, .int (J bs)), (8, .long (JL (EXP (I 1) c (-1) (-7) n.toNat (fun b => bI (b = TB (I 1))) (mvd ((I 1) 0) ((I 1) 6) name r)))), (0, .ref (A 0)), (1, .int (J c)), (2, .int (J n)), (3, .int (J name))]) 7 rfl (by rw [hnL]; decide) rfl ?_
                  refine w_goto (pc := 118) hC dX12_begin_118 (tgt := 42) (by decide) ?_
                  refine w_sub [4, 5, 6, 7, 2, 1, 0] (lv2 := [(0, .ref (A 0)), (1, .int (J c)), (2, .int (J n)), (3, .int (J name)), (4, .int (J bs)), (5, .long (JL (EXP (I 1) c (-1) (-7) n.toNat (fun b => bI (b = TB (I 1))) (mvd ((I 1) 0) ((I 1) 6) name r)))), (7, .int (J (r + 1)))]) rfl ?_
                  refine ih42 bs (EXP (I 1) c (-1) (-7) n.toNat (fun b => bI (b = TB (I 1))) (mvd ((I 1) 0) ((I 1) 6) name r)) (r + 1) b3_72 b4_72 b5_72 b6_72 b7_72 b8_72 g16_72 g17_72 g18_72 ?_ ?_ ?_ ?_ ?_
                  · first | assumption | omega
                  · first | (exfalso; omega) | (rw [amx_s _ i1.1, ← i3]; first | rw [if_pos c86] | rw [if_neg (Int.not_lt.mpr c86)]; first | rfl | exact i2 | exact i3)
                  · first | (exfalso; omega) | (rw [amx_s _ i1.1, ← i3]; first | rw [if_pos c86] | rw [if_neg (Int.not_lt.mpr c86)]; first | rfl | exact i2 | exact i3)
                  · omega
                  · omega
              · refine w_iload (pc := 89) hC dX12_begin_89 7 rfl ?_
                refine w_goto (pc := 91) hC dX12_begin_91 (tgt := 96) (by decide) ?_
                refine w_istore (pc := 96) hC dX12_begin_96 (lv2 := [(4, .int (J r)), (8, .long (JL (EXP (I 1) c (-1) (-7) n.toNat (fun b => bI (b = TB (I 1))) (mvd ((I 1) 0) ((I 1) 6) name r)))), (0, .ref (A 0)), (1, .int (J c)), (2, .int (J n)), (3, .int (J name)), (5, .long (JL mo)), (7, .int (J r))]) (by rw [hnL]; decide) rfl ?_
                refine w_lload (pc := 98) hC dX12_begin_98 1 rfl ?_
                refine w_lload (pc := 100) hC dX12_begin_100 6 rfl ?_
                refine w_lcmp (pc := 102) hC dX12_begin_102 (by omega) ?_
                refine w_if_le_c (pc := 103) (tgt := 111) hC dX12_begin_103 (by decide) (fun c103 => ?_) (fun c103 => ?_)
                · refine w_lload (pc := 111) hC dX12_begin_111 6 rfl ?_
                  refine w_lstore (pc := 113) hC dX12_begin_113 (lv2 := [(5, .long (JL mo)), (4, .int (J r)), (8, .long (JL (EXP (I 1) c (-1) (-7) n.toNat (fun b => bI (b = TB (I 1))) (mvd ((I 1) 0) ((I 1) 6) name r)))), (0, .ref (A 0)), (1, .int (J c)), (2, .int (J n)), (3, .int (J name)), (7, .int (J r))]) (by rw [hnL]; decide) rfl ?_
                  refine w_iinc (pc := 115) hC dX12_begin_115 (lv2 := [(7, .int (J (r + 1))), (5, .long (JL mo)), (4, .int (J r)), (8, .long (JL (EXP (I 1) c (-1) (-7) n.toNat (fun b => bI (b = TB (I 1))) (mvd ((I 1) 0) ((I 1) 6) name r)))), (0, .ref (A 0)), (1, .int (J c)), (2, .int (J n)), (3, .int (J name))]) 7 rfl (by rw [hnL]; decide) rfl ?_
                  refine w_goto (pc := 118) hC dX12_begin_118 (tgt := 42) (by decide) ?_
                  refine w_sub [4, 5, 6, 7, 2, 1, 0] (lv2 := [(0, .ref (A 0)), (1, .int (J c)), (2, .int (J n)), (3, .int (J name)), (4, .int (J r)), (5, .long (JL mo)), (7, .int (J (r + 1)))]) rfl ?_
                  refine ih42 r mo (r + 1) b3_72 b4_72 b5_72 b6_72 b7_72 b8_72 g16_72 g17_72 g18_72 ?_ ?_ ?_ ?_ ?_
                  · first | assumption | omega
                  · first | (exfalso; omega) | (rw [amx_s _ i1.1, ← i3]; first | rw [if_pos c86] | rw [if_neg (Int.not_lt.mpr c86)]; first | rfl | exact i2 | exact i3)
                  · first | (exfalso; omega) | (rw [amx_s _ i1.1, ← i3]; first | rw [if_pos c86] | rw [if_neg (Int.not_lt.mpr c86)]; first | rfl | exact i2 | exact i3)
                  · omega
                  · omega
                · refine w_lload (pc := 106) hC dX12_begin_106 1 rfl ?_
                  refine w_goto (pc := 108) hC dX12_begin_108 (tgt := 113) (by decide) ?_
                  refine w_lstore (pc := 113) hC dX12_begin_113 (lv2 := [(5, .long (JL (EXP (I 1) c (-1) (-7) n.toNat (fun b => bI (b = TB (I 1))) (mvd ((I 1) 0) ((I 1) 6) name r)))), (4, .int (J r)), (8, .long (JL (EXP (I 1) c (-1) (-7) n.toNat (fun b => bI (b = TB (I 1))) (mvd ((I 1) 0) ((I 1) 6) name r)))), (0, .ref (A 0)), (1, .int (J c)), (2, .int (J n)), (3, .int (J name)), (7, .int (J r))]) (by rw [hnL]; decide) rfl ?_
                  refine w_iinc (pc := 115) hC dX12_begin_115 (lv2 := [(7, .int (J (r + 1))), (5, .long (JL (EXP (I 1) c (-1) (-7) n.toNat (fun b => bI (b = TB (I 1))) (mvd ((I 1) 0) ((I 1) 6) name r)))), (4, .int (J r)), (8, .long (JL (EXP (I 1) c (-1) (-7) n.toNat (fun b => bI (b = TB (I 1))) (mvd ((I 1) 0) ((I 1) 6) name r)))), (0, .ref (A 0)), (1, .int (J c)), (2, .int (J n)), (3, .int (J name))]) 7 rfl (by rw [hnL]; decide) rfl ?_
                  refine w_goto (pc := 118) hC dX12_begin_118 (tgt := 42) (by decide) ?_
                  refine w_sub [4, 5, 6, 7, 2, 1, 0] (lv2 := [(0, .ref (A 0)), (1, .int (J c)), (2, .int (J n)), (3, .int (J name)), (4, .int (J r)), (5, .long (JL (EXP (I 1) c (-1) (-7) n.toNat (fun b => bI (b = TB (I 1))) (mvd ((I 1) 0) ((I 1) 6) name r)))), (7, .int (J (r + 1)))]) rfl ?_
                  refine ih42 r (EXP (I 1) c (-1) (-7) n.toNat (fun b => bI (b = TB (I 1))) (mvd ((I 1) 0) ((I 1) 6) name r)) (r + 1) b3_72 b4_72 b5_72 b6_72 b7_72 b8_72 g16_72 g17_72 g18_72 ?_ ?_ ?_ ?_ ?_
                  · first | assumption | omega
                  · first | (exfalso; omega) | (rw [amx_s _ i1.1, ← i3]; first | rw [if_pos c86] | rw [if_neg (Int.not_lt.mpr c86)]; first | rfl | exact i2 | exact i3)
                  · first | (exfalso; omega) | (rw [amx_s _ i1.1, ← i3]; first | rw [if_pos c86] | rw [if_neg (Int.not_lt.mpr c86)]; first | rfl | exact i2 | exact i3)
                  · omega
                  · omega
        refine w_sub [3, 4, 5, 6, 2, 1, 0] (lv2 := [(0, .ref (A 0)), (1, .int (J c)), (2, .int (J n)), (3, .int (J name)), (4, .int (J 0)), (5, .long (JL (-1))), (7, .int (J 0))]) rfl ?_
        refine loop42 (((I 1) 0 - 0) + 1 : Int).toNat 0 (-1) 0 (I 3) (I 4) (I 5) (I 6) (I 7) (I 8) (F 16) (F 17) (F 18) ?_ ?_ ?_ ?_ ?_
        · first | assumption | omega
        · rfl
        · rfl
        · decide
        · omega
      · refine w_bipush (pc := 28) hC dX12_begin_28 (z := (-2)) rfl ?_
        refine w_iret (pc := 30) hC hRT dX12_begin_30 rfl ?_
        refine ⟨(I 3), (I 4), (I 5), (I 6), (I 7), (I 8), (F 16), (F 17), (F 18), retI (by first | rfl | (simp only [v_begin]; repeat' split) <;> first | rfl | omega), rfl⟩
    · refine w_iconst (pc := 16) hC dX12_begin_16 ?_
      refine w_iret (pc := 17) hC hRT dX12_begin_17 rfl ?_
      refine ⟨(I 3), (I 4), (I 5), (I 6), (I 7), (I 8), (F 16), (F 17), (F 18), retI (by first | rfl | (simp only [v_begin]; repeat' split) <;> first | rfl | omega), rfl⟩
set_option maxRecDepth 100000 in
set_option maxHeartbeats 4000000 in
theorem c_X12_best (l : Launch) (G : GT) (A : Nat → Nat) (I : Nat → Int → Int) (F : Nat → Int)  (n : Int) (hR : RI (I 1)) (h2 : -2147483648 ≤ n ∧ n < 2147483648) (hrf : (F 11) = -1) : CT l yX12_best cX12_best 8 (some .int) 6 0 0 G [.ref (A 0), .int (J n)] (MW A G.2.1 I F) (fun vo wo => ∃ (b3 : Int → Int) (b4 : Int → Int) (b5 : Int → Int) (b6 : Int → Int) (b7 : Int → Int) (b8 : Int → Int) (g16 : Int) (g17 : Int) (g18 : Int), vo = some (.int (J (v_best (I 1) n))) ∧ wo = MW A G.2.1 (au (au (au (au (au (au I 3 b3) 4 b4) 5 b5) 6 b6) 7 b7) 8 b8) (fu (fu (fu F 16 g16) 17 g17) 18 g18)) := by
  refine CT_of (own := RX12) rfl rfl (Nat.le_of_ble_eq_true rfl) (fun K hl hnL hC hRT hin => ?_)
  subst hl
  show WW K G 0 0 (MW A G.2.1 I F) 0 [(0, .ref (A 0)), (1, .int (J n))] []
  have hn0 := hR.n
  have hV := hR.bd
  have hB := VB_rng hV
  have hcl := hR.cl
  refine w_iload_n (pc := 0) hC dX12_best_0 1 rfl rfl ?_
  refine w_iconst (pc := 1) hC dX12_best_1 ?_
  refine w_bipush (pc := 2) hC dX12_best_2 (z := 6) rfl ?_
  refine w_callS (pc := 4) (As := [.int (J n), .int (J 0), .int (J 6)]) (rest := []) hC dX12_best_4 cs_X12_48 (c_X12_in (kl K) G (MW A G.2.1 I F) n 0 6 (show (-2147483648 ≤ n ∧ n < 2147483648) ∧ (-2147483648 ≤ 0 ∧ 0 < 2147483648) ∧ -2147483648 ≤ 6 ∧ 6 < 2147483648 from by first | assumption | omega)) (by decide) ⟨Nat.le_of_ble_eq_true rfl, Nat.le_of_ble_eq_true rfl⟩ rfl (Nat.le_of_ble_eq_true rfl) rfl (fun vo wo hv => ?_)
  obtain ⟨hv1, hw1⟩ := hv
  rw [hv1, hw1]
  show WW K G 0 0 (MW A G.2.1 I F) 7 [(0, .ref (A 0)), (1, .int (J n))] [.int (J (bI (0 ≤ n ∧ n ≤ 6)))]
  refine w_if_ne_b (pc := 7) (tgt := 13) hC dX12_best_7 (by decide) (fun c7 => ?_) (fun c7 => ?_)
  · refine w_aload_n (pc := 13) hC dX12_best_13 0 rfl rfl ?_
    refine w_getf (pc := 14) (v := .ref (A 1)) hC dX12_best_14 fi_X12_9 0 rfl rfl ?_
    refine w_iconst (pc := 17) hC dX12_best_17 ?_
    refine w_iald (pc := 18) (g := (I 1)) hC dX12_best_18 1 rfl (by omega) (Nat.le_of_ble_eq_true rfl) ?_
    refine w_if_eq (pc := 19) (tgt := 31) hC dX12_best_19 (by decide) (by omega) (fun c19 => ?_) (fun c19 => ?_)
    · refine w_bipush (pc := 31) hC dX12_best_31 (z := (-5)) rfl ?_
      refine w_iret (pc := 33) hC hRT dX12_best_33 rfl ?_
      refine ⟨(I 3), (I 4), (I 5), (I 6), (I 7), (I 8), (F 16), (F 17), (F 18), retI (by first | rfl | (simp only [v_best]; repeat' split) <;> first | rfl | omega), rfl⟩
    · refine w_aload_n (pc := 22) hC dX12_best_22 0 rfl rfl ?_
      refine w_getf (pc := 23) (v := .ref (A 1)) hC dX12_best_23 fi_X12_9 0 rfl rfl ?_
      refine w_iconst (pc := 26) hC dX12_best_26 ?_
      refine w_iald (pc := 27) (g := (I 1)) hC dX12_best_27 1 rfl (by omega) (Nat.le_of_ble_eq_true rfl) ?_
      refine w_if_ne (pc := 28) (tgt := 34) hC dX12_best_28 (by decide) (by omega) (fun c28 => ?_) (fun c28 => ?_)
      · refine w_iconst (pc := 34) hC dX12_best_34 ?_
        refine w_istore_n (pc := 35) hC dX12_best_35 rfl (lv2 := [(2, .int (J 0)), (0, .ref (A 0)), (1, .int (J n))]) (by rw [hnL]; decide) rfl ?_
        refine w_ldc2 (pc := 36) hC dX12_best_36 (z := (-1)) tw_6_121 (by decide) ?_
        refine w_lstore_n (pc := 39) hC dX12_best_39 rfl (lv2 := [(3, .long (JL (-1))), (2, .int (J 0)), (0, .ref (A 0)), (1, .int (J n))]) (by rw [hnL]; decide) rfl ?_
        refine w_iconst (pc := 40) hC dX12_best_40 ?_
        refine w_istore (pc := 41) hC dX12_best_41 (lv2 := [(5, .int (J 0)), (3, .long (JL (-1))), (2, .int (J 0)), (0, .ref (A 0)), (1, .int (J n))]) (by rw [hnL]; decide) rfl ?_
        have loop43 : ∀ (nF : Nat) (bs : Int) (mo : Int) (q : Int) (a3_43 : Int → Int) (a4_43 : Int → Int) (a5_43 : Int → Int) (a6_43 : Int → Int) (a7_43 : Int → Int) (a8_43 : Int → Int) (f16_43 : Int) (f17_43 : Int) (f18_43 : Int), (0 ≤ q ∧ q ≤ (I 1) 1) → (bs = (amx (fun c => EXP (I 1) c (-1) (-7) n.toNat (fun b => bI (b = TB (I 1))) ((I 1) 6)) q.toNat).1) → (mo = (amx (fun c => EXP (I 1) c (-1) (-7) n.toNat (fun b => bI (b = TB (I 1))) ((I 1) 6)) q.toNat).2) → (-1 ≤ mo ∧ mo ≤ 1000000000000) → ((I 1) 1 - q) < (nF : Int) → WW K G 0 0 (MW A G.2.1 (au (au (au (au (au (au I 3 a3_43) 4 a4_43) 5 a5_43) 6 a6_43) 7 a7_43) 8 a8_43) (fu (fu (fu F 16 f16_43) 17 f17_43) 18 f18_43)) 43 [(0, .ref (A 0)), (1, .int (J n)), (2, .int (J bs)), (3, .long (JL mo)), (5, .int (J q))] [] := by
          intro nF
          induction nF with
          | zero => intro bs mo q a3_43 a4_43 a5_43 a6_43 a7_43 a8_43 f16_43 f17_43 f18_43 i1 i2 i3 i4 hm43; exact absurd hm43 (by omega)
          | succ nF ih43 =>
            intro bs mo q a3_43 a4_43 a5_43 a6_43 a7_43 a8_43 f16_43 f17_43 f18_43 i1 i2 i3 i4 hm43
            refine w_iload (pc := 43) hC dX12_best_43 4 rfl ?_
            refine w_aload_n (pc := 45) hC dX12_best_45 0 rfl rfl ?_
            refine w_getf (pc := 46) (v := .ref (A 1)) hC dX12_best_46 fi_X12_9 0 rfl rfl ?_
            refine w_iconst (pc := 49) hC dX12_best_49 ?_
            refine w_iald (pc := 50) (g := (I 1)) hC dX12_best_50 1 rfl (by omega) (Nat.le_of_ble_eq_true rfl) ?_
            refine w_icmp_ge (pc := 51) (tgt := 110) hC dX12_best_51 (by decide) (by omega) (fun c51 => ?_) (fun c51 => ?_)
            · refine w_iload_n (pc := 110) hC dX12_best_110 2 rfl rfl ?_
              refine w_iret (pc := 111) hC hRT dX12_best_111 rfl ?_
              refine ⟨a3_43, a4_43, a5_43, a6_43, a7_43, a8_43, f16_43, f17_43, f18_43, retI (by unfold v_best; rw [if_neg (by omega), if_neg (by omega), i2, show q = I 1 1 by omega]), rfl⟩
            · refine w_aload_n (pc := 54) hC dX12_best_54 0 rfl rfl ?_
              refine w_iload (pc := 55) hC dX12_best_55 4 rfl ?_
              refine w_aload_n (pc := 57) hC dX12_best_57 0 rfl rfl ?_
              refine w_getf (pc := 58) (v := .ref (A 1)) hC dX12_best_58 fi_X12_9 0 rfl rfl ?_
              refine w_bipush (pc := 61) hC dX12_best_61 (z := 6) rfl ?_
              refine w_iald (pc := 63) (g := (I 1)) hC dX12_best_63 1 rfl (by omega) (Nat.le_of_ble_eq_true rfl) ?_
              refine w_iload_n (pc := 64) hC dX12_best_64 1 rfl rfl ?_
              refine w_bipush (pc := 65) hC dX12_best_65 (z := (-7)) rfl ?_
              refine w_callV (pc := 67) (As := [.int (J q), .int (J ((I 1) 6)), .int (J n), .int (J (-7))]) (rest := []) hC dX12_best_67 cv_X12_201 (c_X12_days (kl K) G A (au (au (au (au (au (au I 3 a3_43) 4 a4_43) 5 a5_43) 6 a6_43) 7 a7_43) 8 a8_43) (fu (fu (fu F 16 f16_43) 17 f17_43) 18 f18_43) q ((I 1) 6) n (-7) (show RI (I 1) from by first | assumption | omega) (show 0 ≤ q ∧ q < (I 1) 1 from by first | assumption | omega) (show 0 < (I 1) 0 from by first | assumption | omega) (show VB ((I 1) 0) ((I 1) 6) from by first | assumption | omega) (show 0 ≤ n ∧ n ≤ 6 from by first | assumption | omega) (show -1 ≤ (F 11) ∧ (F 11) ≤ 5 from by first | assumption | omega) (show FST (I 1) ((I 1) 6) ((I 1) 2) (-7) from by exact Or.inl rfl) (show (-7) = -7 ∨ (-7) = -5 ∨ (0 ≤ (-7) ∧ (-7) < (I 1) 0) from by exact Or.inl rfl)) (by decide) ⟨Nat.le_of_ble_eq_true rfl, Nat.le_of_ble_eq_true rfl⟩ (q0 := 0) rfl rfl rfl rfl (Nat.le_of_ble_eq_true rfl) rfl (fun vo wo hv => ?_)
              obtain ⟨b3_67, b4_67, b5_67, b6_67, b7_67, b8_67, g16_67, g17_67, g18_67, hv1, hw1, r67⟩ := hv
              rw [hv1, hw1]
              show WW K G 0 0 (MW A G.2.1 (au (au (au (au (au (au I 3 b3_67) 4 b4_67) 5 b5_67) 6 b6_67) 7 b7_67) 8 b8_67) (fu (fu (fu F 16 g16_67) 17 g17_67) 18 g18_67)) 70 [(0, .ref (A 0)), (1, .int (J n)), (2, .int (J bs)), (3, .long (JL mo)), (5, .int (J q))] []
              have r67 : (∀ f : Int → Int, isum f b5_67 b7_67 (g16_67).toNat = EXP (I 1) q (F 11) (-7) n.toNat f ((I 1) 6)) ∧ LK b5_67 b7_67 g16_67 ∧ (∀ k : Int, 0 ≤ k → k < g16_67 → VB ((I 1) 0) (b5_67 k)) ∧ isum one1 b5_67 b7_67 (g16_67).toNat = g18_67 ∧ g18_67 = 100 ^ n.toNat := r67
              have hlk := r67.2.1
              have hvb := r67.2.2.1
              have htot := r67.2.2.2.1
              have hli := r67.2.2.2.2
              have hex := r67.1
              have hp := p100 (n := n) (by omega) (by omega)
              rw [← hli] at hp
              rw [hrf] at hex
              have hmm := hlk.1
              refine w_aload_n (pc := 70) hC dX12_best_70 0 rfl rfl ?_
              refine w_callV (pc := 71) (As := []) (rest := []) hC dX12_best_71 cv_X12_209 (c_X12_trulyNow (kl K) G A (au (au (au (au (au (au I 3 b3_67) 4 b4_67) 5 b5_67) 6 b6_67) 7 b7_67) 8 b8_67) (fu (fu (fu F 16 g16_67) 17 g17_67) 18 g18_67) (show RI (I 1) from by first | assumption | omega) (show LK b5_67 b7_67 g16_67 from by first | assumption | omega) (show ∀ k : Int, 0 ≤ k → k < g16_67 → VB ((I 1) 0) (b5_67 k) from by first | assumption | omega)) (by decide) ⟨Nat.le_of_ble_eq_true rfl, Nat.le_of_ble_eq_true rfl⟩ (q0 := 0) rfl rfl rfl rfl (Nat.le_of_ble_eq_true rfl) rfl (fun vo wo hv => ?_)
              obtain ⟨hv1, hw1⟩ := hv
              rw [hv1, hw1]
              show WW K G 0 0 (MW A G.2.1 (au (au (au (au (au (au I 3 b3_67) 4 b4_67) 5 b5_67) 6 b6_67) 7 b7_67) 8 b8_67) (fu (fu (fu F 16 g16_67) 17 g17_67) 18 g18_67)) 74 [(0, .ref (A 0)), (1, .int (J n)), (2, .int (J bs)), (3, .long (JL mo)), (5, .int (J q))] [.long (JL (isum (fun b => bI (b = TB (I 1))) b5_67 b7_67 g16_67.toNat))]
              refine w_topL (e2 := EXP (I 1) q (-1) (-7) n.toNat (fun b => bI (b = TB (I 1))) ((I 1) 6)) (by exact hex _) ?_
              refine w_lstore (pc := 74) hC dX12_best_74 (lv2 := [(6, .long (JL (EXP (I 1) q (-1) (-7) n.toNat (fun b => bI (b = TB (I 1))) ((I 1) 6)))), (0, .ref (A 0)), (1, .int (J n)), (2, .int (J bs)), (3, .long (JL mo)), (5, .int (J q))]) (by rw [hnL]; decide) rfl ?_
              have hsr := isum_rng (f := fun b => bI (b = TB (I 1))) hlk (c := 1) (fun j _ _ => bI_01 _)
              rw [hex] at hsr
              refine w_lload (pc := 76) hC dX12_best_76 0 rfl ?_
              refine w_lload_n (pc := 78) hC dX12_best_78 4 rfl rfl ?_
              refine w_lcmp (pc := 79) hC dX12_best_79 (by omega) ?_
              refine w_if_le_c (pc := 80) (tgt := 88) hC dX12_best_80 (by decide) (fun c80 => ?_) (fun c80 => ?_)
              · refine w_iload_n (pc := 88) hC dX12_best_88 3 rfl rfl ?_
                refine w_istore_n (pc := 89) hC dX12_best_89 rfl (lv2 := [(2, .int (J bs)), (6, .long (JL (EXP (I 1) q (-1) (-7) n.toNat (fun b => bI (b = TB (I 1))) ((I 1) 6)))), (0, .ref (A 0)), (1, .int (J n)), (3, .long (JL mo)), (5, .int (J q))]) (by rw [hnL]; decide) rfl ?_
                refine w_lload (pc := 90) hC dX12_best_90 1 rfl ?_
                refine w_lload_n (pc := 92) hC dX12_best_92 4 rfl rfl ?_
                refine w_lcmp (pc := 93) hC dX12_best_93 (by omega) ?_
                refine w_if_le_c (pc := 94) (tgt := 102) hC dX12_best_94 (by decide) (fun c94 => ?_) (fun c94 => ?_)
                · refine w_lload_n (pc := 102) hC dX12_best_102 4 rfl rfl ?_
                  refine w_lstore_n (pc := 103) hC dX12_best_103 rfl (lv2 := [(3, .long (JL mo)), (2, .int (J bs)), (6, .long (JL (EXP (I 1) q (-1) (-7) n.toNat (fun b => bI (b = TB (I 1))) ((I 1) 6)))), (0, .ref (A 0)), (1, .int (J n)), (5, .int (J q))]) (by rw [hnL]; decide) rfl ?_
                  refine w_iinc (pc := 104) hC dX12_best_104 (lv2 := [(5, .int (J (q + 1))), (3, .long (JL mo)), (2, .int (J bs)), (6, .long (JL (EXP (I 1) q (-1) (-7) n.toNat (fun b => bI (b = TB (I 1))) ((I 1) 6)))), (0, .ref (A 0)), (1, .int (J n))]) 5 rfl (by rw [hnL]; decide) rfl ?_
                  refine w_goto (pc := 107) hC dX12_best_107 (tgt := 43) (by decide) ?_
                  refine w_sub [4, 5, 2, 1, 0] (lv2 := [(0, .ref (A 0)), (1, .int (J n)), (2, .int (J bs)), (3, .long (JL mo)), (5, .int (J (q + 1)))]) rfl ?_
                  refine ih43 bs mo (q + 1) b3_67 b4_67 b5_67 b6_67 b7_67 b8_67 g16_67 g17_67 g18_67 ?_ ?_ ?_ ?_ ?_
                  · first | assumption | omega
                  · first | (exfalso; omega) | (rw [amx_s _ i1.1, ← i3]; first | rw [if_pos c80] | rw [if_neg (Int.not_lt.mpr c80)]; first | rfl | exact i2 | exact i3)
                  · first | (exfalso; omega) | (rw [amx_s _ i1.1, ← i3]; first | rw [if_pos c80] | rw [if_neg (Int.not_lt.mpr c80)]; first | rfl | exact i2 | exact i3)
                  · omega
                  · omega
                · refine w_lload (pc := 97) hC dX12_best_97 1 rfl ?_
                  refine w_goto (pc := 99) hC dX12_best_99 (tgt := 103) (by decide) ?_
                  refine w_lstore_n (pc := 103) hC dX12_best_103 rfl (lv2 := [(3, .long (JL (EXP (I 1) q (-1) (-7) n.toNat (fun b => bI (b = TB (I 1))) ((I 1) 6)))), (2, .int (J bs)), (6, .long (JL (EXP (I 1) q (-1) (-7) n.toNat (fun b => bI (b = TB (I 1))) ((I 1) 6)))), (0, .ref (A 0)), (1, .int (J n)), (5, .int (J q))]) (by rw [hnL]; decide) rfl ?_
                  refine w_iinc (pc := 104) hC dX12_best_104 (lv2 := [(5, .int (J (q + 1))), (3, .long (JL (EXP (I 1) q (-1) (-7) n.toNat (fun b => bI (b = TB (I 1))) ((I 1) 6)))), (2, .int (J bs)), (6, .long (JL (EXP (I 1) q (-1) (-7) n.toNat (fun b => bI (b = TB (I 1))) ((I 1) 6)))), (0, .ref (A 0)), (1, .int (J n))]) 5 rfl (by rw [hnL]; decide) rfl ?_
                  refine w_goto (pc := 107) hC dX12_best_107 (tgt := 43) (by decide) ?_
                  refine w_sub [4, 5, 2, 1, 0] (lv2 := [(0, .ref (A 0)), (1, .int (J n)), (2, .int (J bs)), (3, .long (JL (EXP (I 1) q (-1) (-7) n.toNat (fun b => bI (b = TB (I 1))) ((I 1) 6)))), (5, .int (J (q + 1)))]) rfl ?_
                  refine ih43 bs (EXP (I 1) q (-1) (-7) n.toNat (fun b => bI (b = TB (I 1))) ((I 1) 6)) (q + 1) b3_67 b4_67 b5_67 b6_67 b7_67 b8_67 g16_67 g17_67 g18_67 ?_ ?_ ?_ ?_ ?_
                  · first | assumption | omega
                  · first | (exfalso; omega) | (rw [amx_s _ i1.1, ← i3]; first | rw [if_pos c80] | rw [if_neg (Int.not_lt.mpr c80)]; first | rfl | exact i2 | exact i3)
                  · first | (exfalso; omega) | (rw [amx_s _ i1.1, ← i3]; first | rw [if_pos c80] | rw [if_neg (Int.not_lt.mpr c80)]; first | rfl | exact i2 | exact i3)
                  · omega
                  · omega
              · refine w_iload (pc := 83) hC dX12_best_83 5 rfl ?_
                refine w_goto (pc := 85) hC dX12_best_85 (tgt := 89) (by decide) ?_
                refine w_istore_n (pc := 89) hC dX12_best_89 rfl (lv2 := [(2, .int (J q)), (6, .long (JL (EXP (I 1) q (-1) (-7) n.toNat (fun b => bI (b = TB (I 1))) ((I 1) 6)))), (0, .ref (A 0)), (1, .int (J n)), (3, .long (JL mo)), (5, .int (J q))]) (by rw [hnL]; decide) rfl ?_
                refine w_lload (pc := 90) hC dX12_best_90 1 rfl ?_
                refine w_lload_n (pc := 92) hC dX12_best_92 4 rfl rfl ?_
                refine w_lcmp (pc := 93) hC dX12_best_93 (by omega) ?_
                refine w_if_le_c (pc := 94) (tgt := 102) hC dX12_best_94 (by decide) (fun c94 => ?_) (fun c94 => ?_)
                · refine w_lload_n (pc := 102) hC dX12_best_102 4 rfl rfl ?_
                  refine w_lstore_n (pc := 103) hC dX12_best_103 rfl (lv2 := [(3, .long (JL mo)), (2, .int (J q)), (6, .long (JL (EXP (I 1) q (-1) (-7) n.toNat (fun b => bI (b = TB (I 1))) ((I 1) 6)))), (0, .ref (A 0)), (1, .int (J n)), (5, .int (J q))]) (by rw [hnL]; decide) rfl ?_
                  refine w_iinc (pc := 104) hC dX12_best_104 (lv2 := [(5, .int (J (q + 1))), (3, .long (JL mo)), (2, .int (J q)), (6, .long (JL (EXP (I 1) q (-1) (-7) n.toNat (fun b => bI (b = TB (I 1))) ((I 1) 6)))), (0, .ref (A 0)), (1, .int (J n))]) 5 rfl (by rw [hnL]; decide) rfl ?_
                  refine w_goto (pc := 107) hC dX12_best_107 (tgt := 43) (by decide) ?_
                  refine w_sub [4, 5, 2, 1, 0] (lv2 := [(0, .ref (A 0)), (1, .int (J n)), (2, .int (J q)), (3, .long (JL mo)), (5, .int (J (q + 1)))]) rfl ?_
                  refine ih43 q mo (q + 1) b3_67 b4_67 b5_67 b6_67 b7_67 b8_67 g16_67 g17_67 g18_67 ?_ ?_ ?_ ?_ ?_
                  · first | assumption | omega
                  · first | (exfalso; omega) | (rw [amx_s _ i1.1, ← i3]; first | rw [if_pos c80] | rw [if_neg (Int.not_lt.mpr c80)]; first | rfl | exact i2 | exact i3)
                  · first | (exfalso; omega) | (rw [amx_s _ i1.1, ← i3]; first | rw [if_pos c80] | rw [if_neg (Int.not_lt.mpr c80)]; first | rfl | exact i2 | exact i3)
                  · omega
                  · omega
                · refine w_lload (pc := 97) hC dX12_best_97 1 rfl ?_
                  refine w_goto (pc := 99) hC dX12_best_99 (tgt := 103) (by decide) ?_
                  refine w_lstore_n (pc := 103) hC dX12_best_103 rfl (lv2 := [(3, .long (JL (EXP (I 1) q (-1) (-7) n.toNat (fun b => bI (b = TB (I 1))) ((I 1) 6)))), (2, .int (J q)), (6, .long (JL (EXP (I 1) q (-1) (-7) n.toNat (fun b => bI (b = TB (I 1))) ((I 1) 6)))), (0, .ref (A 0)), (1, .int (J n)), (5, .int (J q))]) (by rw [hnL]; decide) rfl ?_
                  refine w_iinc (pc := 104) hC dX12_best_104 (lv2 := [(5, .int (J (q + 1))), (3, .long (JL (EXP (I 1) q (-1) (-7) n.toNat (fun b => bI (b = TB (I 1))) ((I 1) 6)))), (2, .int (J q)), (6, .long (JL (EXP (I 1) q (-1) (-7) n.toNat (fun b => bI (b = TB (I 1))) ((I 1) 6)))), (0, .ref (A 0)), (1, .int (J n))]) 5 rfl (by rw [hnL]; decide) rfl ?_
                  refine w_goto (pc := 107) hC dX12_best_107 (tgt := 43) (by decide) ?_
                  refine w_sub [4, 5, 2, 1, 0] (lv2 := [(0, .ref (A 0)), (1, .int (J n)), (2, .int (J q)), (3, .long (JL (EXP (I 1) q (-1) (-7) n.toNat (fun b => bI (b = TB (I 1))) ((I 1) 6)))), (5, .int (J (q + 1)))]) rfl ?_
                  refine ih43 q (EXP (I 1) q (-1) (-7) n.toNat (fun b => bI (b = TB (I 1))) ((I 1) 6)) (q + 1) b3_67 b4_67 b5_67 b6_67 b7_67 b8_67 g16_67 g17_67 g18_67 ?_ ?_ ?_ ?_ ?_
                  · first | assumption | omega
                  · first | (exfalso; omega) | (rw [amx_s _ i1.1, ← i3]; first | rw [if_pos c80] | rw [if_neg (Int.not_lt.mpr c80)]; first | rfl | exact i2 | exact i3)
                  · first | (exfalso; omega) | (rw [amx_s _ i1.1, ← i3]; first | rw [if_pos c80] | rw [if_neg (Int.not_lt.mpr c80)]; first | rfl | exact i2 | exact i3)
                  · omega
                  · omega
        refine w_sub [3, 4, 2, 1, 0] (lv2 := [(0, .ref (A 0)), (1, .int (J n)), (2, .int (J 0)), (3, .long (JL (-1))), (5, .int (J 0))]) rfl ?_
        refine loop43 (((I 1) 1 - 0) + 1 : Int).toNat 0 (-1) 0 (I 3) (I 4) (I 5) (I 6) (I 7) (I 8) (F 16) (F 17) (F 18) ?_ ?_ ?_ ?_ ?_
        · first | assumption | omega
        · rfl
        · rfl
        · decide
        · omega
      · refine w_bipush (pc := 31) hC dX12_best_31 (z := (-5)) rfl ?_
        refine w_iret (pc := 33) hC hRT dX12_best_33 rfl ?_
        refine ⟨(I 3), (I 4), (I 5), (I 6), (I 7), (I 8), (F 16), (F 17), (F 18), retI (by first | rfl | (simp only [v_best]; repeat' split) <;> first | rfl | omega), rfl⟩
  · refine w_bipush (pc := 10) hC dX12_best_10 (z := (-2)) rfl ?_
    refine w_iret (pc := 12) hC hRT dX12_best_12 rfl ?_
    refine ⟨(I 3), (I 4), (I 5), (I 6), (I 7), (I 8), (F 16), (F 17), (F 18), retI (by first | rfl | (simp only [v_best]; repeat' split) <;> first | rfl | omega), rfl⟩
set_option maxRecDepth 100000 in
set_option maxHeartbeats 4000000 in
theorem c_X12_ought (l : Launch) (G : GT) (A : Nat → Nat) (I : Nat → Int → Int) (F : Nat → Int)  (c : Int) (n : Int) (name : Int) (hR : RI (I 1)) (h1 : -2147483648 ≤ c ∧ c < 2147483648) (h2 : -2147483648 ≤ n ∧ n < 2147483648) (h3 : -2147483648 ≤ name ∧ name < 2147483648) (hrf : (F 11) = -1) : CT l yX12_ought cX12_ought 11 (some .int) 6 0 0 G [.ref (A 0), .int (J c), .int (J n), .int (J name)] (MW A G.2.1 I F) (fun vo wo => ∃ (b3 : Int → Int) (b4 : Int → Int) (b5 : Int → Int) (b6 : Int → Int) (b7 : Int → Int) (b8 : Int → Int) (g16 : Int) (g17 : Int) (g18 : Int), vo = some (.int (J (v_ought (I 1) c n name))) ∧ wo = MW A G.2.1 (au (au (au (au (au (au I 3 b3) 4 b4) 5 b5) 6 b6) 7 b7) 8 b8) (fu (fu (fu F 16 g16) 17 g17) 18 g18)) := by
  refine CT_of (own := RX12) rfl rfl (Nat.le_of_ble_eq_true rfl) (fun K hl hnL hC hRT hin => ?_)
  subst hl
  show WW K G 0 0 (MW A G.2.1 I F) 0 [(0, .ref (A 0)), (1, .int (J c)), (2, .int (J n)), (3, .int (J name))] []
  have hn0 := hR.n
  have hV := hR.bd
  have hB := VB_rng hV
  have htd := hR.td
  refine w_aload_n (pc := 0) hC dX12_ought_0 0 rfl rfl ?_
  refine w_iload_n (pc := 1) hC dX12_ought_1 1 rfl rfl ?_
  refine w_callV (pc := 2) (As := [.int (J c)]) (rest := []) hC dX12_ought_2 cv_X12_156 (c_X12_isClub (kl K) G A I F c (show RI (I 1) from by first | assumption | omega) (show -2147483648 ≤ c ∧ c < 2147483648 from by first | assumption | omega)) (by decide) ⟨Nat.le_of_ble_eq_true rfl, Nat.le_of_ble_eq_true rfl⟩ (q0 := 0) rfl rfl rfl rfl (Nat.le_of_ble_eq_true rfl) rfl (fun vo wo hv => ?_)
  obtain ⟨hv1, hw1⟩ := hv
  rw [hv1, hw1]
  show WW K G 0 0 (MW A G.2.1 I F) 5 [(0, .ref (A 0)), (1, .int (J c)), (2, .int (J n)), (3, .int (J name))] [.int (J (bI (0 ≤ c ∧ c < (I 1) 1)))]
  refine w_if_eq_b (pc := 5) (tgt := 16) hC dX12_ought_5 (by decide) (fun c5 => ?_) (fun c5 => ?_)
  · refine w_iconst (pc := 16) hC dX12_ought_16 ?_
    refine w_iret (pc := 17) hC hRT dX12_ought_17 rfl ?_
    refine ⟨(I 3), (I 4), (I 5), (I 6), (I 7), (I 8), (F 16), (F 17), (F 18), retI (by first | rfl | (simp only [v_ought]; repeat' split) <;> first | rfl | omega), rfl⟩
  · refine w_aload_n (pc := 8) hC dX12_ought_8 0 rfl rfl ?_
    refine w_iload_n (pc := 9) hC dX12_ought_9 3 rfl rfl ?_
    refine w_callV (pc := 10) (As := [.int (J name)]) (rest := []) hC dX12_ought_10 cv_X12_60 (c_X12_isName (kl K) G A I F name (show RI (I 1) from by first | assumption | omega) (show -2147483648 ≤ name ∧ name < 2147483648 from by first | assumption | omega)) (by decide) ⟨Nat.le_of_ble_eq_true rfl, Nat.le_of_ble_eq_true rfl⟩ (q0 := 0) rfl rfl rfl rfl (Nat.le_of_ble_eq_true rfl) rfl (fun vo wo hv => ?_)
    obtain ⟨hv1, hw1⟩ := hv
    rw [hv1, hw1]
    show WW K G 0 0 (MW A G.2.1 I F) 13 [(0, .ref (A 0)), (1, .int (J c)), (2, .int (J n)), (3, .int (J name))] [.int (J (bI (0 ≤ name ∧ name < (I 1) 0)))]
    refine w_if_ne_b (pc := 13) (tgt := 18) hC dX12_ought_13 (by decide) (fun c13 => ?_) (fun c13 => ?_)
    · refine w_iload_n (pc := 18) hC dX12_ought_18 2 rfl rfl ?_
      refine w_iconst (pc := 19) hC dX12_ought_19 ?_
      refine w_bipush (pc := 20) hC dX12_ought_20 (z := 6) rfl ?_
      refine w_callS (pc := 22) (As := [.int (J n), .int (J 1), .int (J 6)]) (rest := []) hC dX12_ought_22 cs_X12_48 (c_X12_in (kl K) G (MW A G.2.1 I F) n 1 6 (show (-2147483648 ≤ n ∧ n < 2147483648) ∧ (-2147483648 ≤ 1 ∧ 1 < 2147483648) ∧ -2147483648 ≤ 6 ∧ 6 < 2147483648 from by first | assumption | omega)) (by decide) ⟨Nat.le_of_ble_eq_true rfl, Nat.le_of_ble_eq_true rfl⟩ rfl (Nat.le_of_ble_eq_true rfl) rfl (fun vo wo hv => ?_)
      obtain ⟨hv1, hw1⟩ := hv
      rw [hv1, hw1]
      show WW K G 0 0 (MW A G.2.1 I F) 25 [(0, .ref (A 0)), (1, .int (J c)), (2, .int (J n)), (3, .int (J name))] [.int (J (bI (1 ≤ n ∧ n ≤ 6)))]
      refine w_if_ne_b (pc := 25) (tgt := 31) hC dX12_ought_25 (by decide) (fun c25 => ?_) (fun c25 => ?_)
      · have e1 := Int.emod_nonneg ((I 1) 2) (show (I 1) 0 ≠ 0 by omega)
        have e2 := Int.emod_lt_of_pos ((I 1) 2) (show 0 < (I 1) 0 by omega)
        have htr := TRN_in (day := (I 1) 2) hV (by omega) htd.1
        refine w_aload_n (pc := 31) hC dX12_ought_31 0 rfl rfl ?_
        refine w_getf (pc := 32) (v := .ref (A 1)) hC dX12_ought_32 fi_X12_9 0 rfl rfl ?_
        refine w_bipush (pc := 35) hC dX12_ought_35 (z := 6) rfl ?_
        refine w_iald (pc := 37) (g := (I 1)) hC dX12_ought_37 1 rfl (by omega) (Nat.le_of_ble_eq_true rfl) ?_
        refine w_aload_n (pc := 38) hC dX12_ought_38 0 rfl rfl ?_
        refine w_getf (pc := 39) (v := .ref (A 1)) hC dX12_ought_39 fi_X12_9 0 rfl rfl ?_
        refine w_iconst (pc := 42) hC dX12_ought_42 ?_
        refine w_iald (pc := 43) (g := (I 1)) hC dX12_ought_43 1 rfl (by omega) (Nat.le_of_ble_eq_true rfl) ?_
        refine w_iconst (pc := 44) hC dX12_ought_44 ?_
        refine w_isub (pc := 45) hC dX12_ought_45 ?_
        refine w_aload_n (pc := 46) hC dX12_ought_46 0 rfl rfl ?_
        refine w_getf (pc := 47) (v := .ref (A 1)) hC dX12_ought_47 fi_X12_9 0 rfl rfl ?_
        refine w_iconst (pc := 50) hC dX12_ought_50 ?_
        refine w_iald (pc := 51) (g := (I 1)) hC dX12_ought_51 1 rfl (by omega) (Nat.le_of_ble_eq_true rfl) ?_
        refine w_aload_n (pc := 52) hC dX12_ought_52 0 rfl rfl ?_
        refine w_getf (pc := 53) (v := .ref (A 1)) hC dX12_ought_53 fi_X12_9 0 rfl rfl ?_
        refine w_iconst (pc := 56) hC dX12_ought_56 ?_
        refine w_iald (pc := 57) (g := (I 1)) hC dX12_ought_57 1 rfl (by omega) (Nat.le_of_ble_eq_true rfl) ?_
        refine w_irem (pc := 58) hC dX12_ought_58 (by omega) ?_
        refine w_isub (pc := 59) hC dX12_ought_59 ?_
        refine w_callS (pc := 60) (As := [.int (J ((I 1) 6)), .int (J ((((I 1) 0) - 1) - (((I 1) 2) % ((I 1) 0))))]) (rest := []) hC dX12_ought_60 cs_X12_52 (c_X12_nameOn (kl K) G (MW A G.2.1 I F) ((I 1) 6) ((((I 1) 0) - 1) - (((I 1) 2) % ((I 1) 0))) (show -2147483648 ≤ ((I 1) 6) ∧ ((I 1) 6) < 2147483648 from by first | assumption | omega) (show 0 ≤ ((((I 1) 0) - 1) - (((I 1) 2) % ((I 1) 0))) ∧ ((((I 1) 0) - 1) - (((I 1) 2) % ((I 1) 0))) ≤ 10 from by first | assumption | omega)) (by decide) ⟨Nat.le_of_ble_eq_true rfl, Nat.le_of_ble_eq_true rfl⟩ rfl (Nat.le_of_ble_eq_true rfl) rfl (fun vo wo hv => ?_)
        obtain ⟨hv1, hw1⟩ := hv
        rw [hv1, hw1]
        show WW K G 0 0 (MW A G.2.1 I F) 63 [(0, .ref (A 0)), (1, .int (J c)), (2, .int (J n)), (3, .int (J name))] [.int (J (dg ((I 1) 6) ((((I 1) 0) - 1) - (((I 1) 2) % ((I 1) 0)))))]
        have q60_0 := dg_bd ((I 1) 6) ((((I 1) 0) - 1) - (((I 1) 2) % ((I 1) 0)))
        refine w_top (e2 := TRN (I 1) ((I 1) 6) ((I 1) 2)) (by rfl) ?_
        refine w_iload_n (pc := 63) hC dX12_ought_63 3 rfl rfl ?_
        refine w_icmp_eq (pc := 64) (tgt := 70) hC dX12_ought_64 (by decide) (by omega) (fun c64 => ?_) (fun c64 => ?_)
        · refine w_aload_n (pc := 70) hC dX12_ought_70 0 rfl rfl ?_
          refine w_iload_n (pc := 71) hC dX12_ought_71 1 rfl rfl ?_
          refine w_aload_n (pc := 72) hC dX12_ought_72 0 rfl rfl ?_
          refine w_getf (pc := 73) (v := .ref (A 1)) hC dX12_ought_73 fi_X12_9 0 rfl rfl ?_
          refine w_bipush (pc := 76) hC dX12_ought_76 (z := 6) rfl ?_
          refine w_iald (pc := 78) (g := (I 1)) hC dX12_ought_78 1 rfl (by omega) (Nat.le_of_ble_eq_true rfl) ?_
          refine w_iload_n (pc := 79) hC dX12_ought_79 3 rfl rfl ?_
          refine w_aload_n (pc := 80) hC dX12_ought_80 0 rfl rfl ?_
          refine w_getf (pc := 81) (v := .ref (A 1)) hC dX12_ought_81 fi_X12_9 0 rfl rfl ?_
          refine w_iconst (pc := 84) hC dX12_ought_84 ?_
          refine w_iald (pc := 85) (g := (I 1)) hC dX12_ought_85 1 rfl (by omega) (Nat.le_of_ble_eq_true rfl) ?_
          refine w_callV (pc := 86) (As := [.int (J c), .int (J ((I 1) 6)), .int (J name), .int (J ((I 1) 2))]) (rest := []) hC dX12_ought_86 cv_X12_162 (c_X12_mayAll (kl K) G A I F c ((I 1) 6) name ((I 1) 2) (show RI (I 1) from by first | assumption | omega) (show 0 ≤ c ∧ c < (I 1) 1 from by first | assumption | omega) (show VB ((I 1) 0) ((I 1) 6) from by first | assumption | omega) (show 0 ≤ name ∧ name < (I 1) 0 from by first | assumption | omega) (show 0 ≤ ((I 1) 2) ∧ ((I 1) 2) ≤ 2000 from by first | assumption | omega) (show -1 ≤ (F 11) ∧ (F 11) ≤ 5 from by first | assumption | omega)) (by decide) ⟨Nat.le_of_ble_eq_true rfl, Nat.le_of_ble_eq_true rfl⟩ (q0 := 0) rfl rfl rfl rfl (Nat.le_of_ble_eq_true rfl) rfl (fun vo wo hv => ?_)
          obtain ⟨b3_86, b4_86, hv1, hw1⟩ := hv
          rw [hv1, hw1]
          show WW K G 0 0 (MW A G.2.1 (au (au I 3 b3_86) 4 b4_86) F) 89 [(0, .ref (A 0)), (1, .int (J c)), (2, .int (J n)), (3, .int (J name))] [.int (J (MSK (I 1) c (F 11) ((I 1) 6) name ((I 1) 2)))]
          have q86_0 := @MSK_bd (I 1) c (F 11) ((I 1) 6) name ((I 1) 2) (by assumption) (by omega)
          refine w_istore (pc := 89) hC dX12_ought_89 (lv2 := [(4, .int (J (MSK (I 1) c (F 11) ((I 1) 6) name ((I 1) 2)))), (0, .ref (A 0)), (1, .int (J c)), (2, .int (J n)), (3, .int (J name))]) (by rw [hnL]; decide) rfl ?_
          refine w_aload_n (pc := 91) hC dX12_ought_91 1 rfl rfl ?_
          refine w_iload_n (pc := 92) hC dX12_ought_92 2 rfl rfl ?_
          refine w_aload_n (pc := 93) hC dX12_ought_93 1 rfl rfl ?_
          refine w_getf (pc := 94) (v := .ref (A 1)) hC dX12_ought_94 fi_X12_9 0 rfl rfl ?_
          refine w_bipush (pc := 97) hC dX12_ought_97 (z := 6) rfl ?_
          refine w_iald (pc := 99) (g := (I 1)) hC dX12_ought_99 1 rfl (by omega) (Nat.le_of_ble_eq_true rfl) ?_
          refine w_iload_n (pc := 100) hC dX12_ought_100 3 rfl rfl ?_
          refine w_bipush (pc := 101) hC dX12_ought_101 (z := (-5)) rfl ?_
          refine w_callV (pc := 103) (As := [.int (J c), .int (J ((I 1) 6)), .int (J n), .int (J (-5))]) (rest := []) hC dX12_ought_103 cv_X12_201 (c_X12_days (kl K) G A (au (au I 3 b3_86) 4 b4_86) F c ((I 1) 6) n (-5) (show RI (I 1) from by first | assumption | omega) (show 0 ≤ c ∧ c < (I 1) 1 from by first | assumption | omega) (show 0 < (I 1) 0 from by first | assumption | omega) (show VB ((I 1) 0) ((I 1) 6) from by first | assumption | omega) (show 0 ≤ n ∧ n ≤ 6 from by first | assumption | omega) (show -1 ≤ (F 11) ∧ (F 11) ≤ 5 from by first | assumption | omega) (show FST (I 1) ((I 1) 6) ((I 1) 2) (-5) from by exact Or.inr (Or.inl rfl)) (show (-5) = -7 ∨ (-5) = -5 ∨ (0 ≤ (-5) ∧ (-5) < (I 1) 0) from by exact Or.inr (Or.inl rfl))) (by decide) ⟨Nat.le_of_ble_eq_true rfl, Nat.le_of_ble_eq_true rfl⟩ (q0 := 0) rfl rfl rfl rfl (Nat.le_of_ble_eq_true rfl) rfl (fun vo wo hv => ?_)
          obtain ⟨b3_103, b4_103, b5_103, b6_103, b7_103, b8_103, g16_103, g17_103, g18_103, hv1, hw1, r103⟩ := hv
          rw [hv1, hw1]
          show WW K G 0 0 (MW A G.2.1 (au (au (au (au (au (au I 3 b3_103) 4 b4_103) 5 b5_103) 6 b6_103) 7 b7_103) 8 b8_103) (fu (fu (fu F 16 g16_103) 17 g17_103) 18 g18_103)) 106 [(4, .int (J (MSK (I 1) c (F 11) ((I 1) 6) name ((I 1) 2)))), (0, .ref (A 0)), (1, .int (J c)), (2, .int (J n)), (3, .int (J name))] []
          have r103 : (∀ f : Int → Int, isum f b5_103 b7_103 (g16_103).toNat = EXP (I 1) c (F 11) (-5) n.toNat f ((I 1) 6)) ∧ LK b5_103 b7_103 g16_103 ∧ (∀ k : Int, 0 ≤ k → k < g16_103 → VB ((I 1) 0) (b5_103 k)) ∧ isum one1 b5_103 b7_103 (g16_103).toNat = g18_103 ∧ g18_103 = 100 ^ n.toNat := r103
          have hlk := r103.2.1
          have hvb := r103.2.2.1
          have htot := r103.2.2.2.1
          have hli := r103.2.2.2.2
          have hex := r103.1
          have hp := p100 (n := n) (by omega) (by omega)
          rw [← hli] at hp
          rw [hrf] at hex
          have hmm := hlk.1
          refine w_bipush (pc := 106) hC dX12_ought_106 (z := (-5)) rfl ?_
          refine w_istore (pc := 108) hC dX12_ought_108 (lv2 := [(5, .int (J (-5))), (4, .int (J (MSK (I 1) c (F 11) ((I 1) 6) name ((I 1) 2)))), (0, .ref (A 0)), (1, .int (J c)), (2, .int (J n)), (3, .int (J name))]) (by rw [hnL]; decide) rfl ?_
          have hsr := isum_rng (f := fun b => rk (I 1 0) b name) hlk (c := 5) (fun j g1 g2 => by have := (rk_spec (hvb j g1 g2) (a := name) (by omega) (by omega)).1; omega)
          rw [hex] at hsr
          refine w_aload_n (pc := 110) hC dX12_ought_110 2 rfl rfl ?_
          refine w_iload_n (pc := 111) hC dX12_ought_111 5 rfl rfl ?_
          refine w_callV (pc := 112) (As := [.int (J name)]) (rest := []) hC dX12_ought_112 cv_X12_216 (c_X12_rungs (kl K) G A (au (au (au (au (au (au I 3 b3_103) 4 b4_103) 5 b5_103) 6 b6_103) 7 b7_103) 8 b8_103) (fu (fu (fu F 16 g16_103) 17 g17_103) 18 g18_103) name (show RI (I 1) from by first | assumption | omega) (show 0 ≤ name ∧ name < (I 1) 0 from by first | assumption | omega) (show LK b5_103 b7_103 g16_103 from by first | assumption | omega) (show ∀ k : Int, 0 ≤ k → k < g16_103 → VB ((I 1) 0) (b5_103 k) from by first | assumption | omega)) (by decide) ⟨Nat.le_of_ble_eq_true rfl, Nat.le_of_ble_eq_true rfl⟩ (q0 := 0) rfl rfl rfl rfl (Nat.le_of_ble_eq_true rfl) rfl (fun vo wo hv => ?_)
          obtain ⟨hv1, hw1⟩ := hv
          rw [hv1, hw1]
          show WW K G 0 0 (MW A G.2.1 (au (au (au (au (au (au I 3 b3_103) 4 b4_103) 5 b5_103) 6 b6_103) 7 b7_103) 8 b8_103) (fu (fu (fu F 16 g16_103) 17 g17_103) 18 g18_103)) 115 [(5, .int (J (-5))), (4, .int (J (MSK (I 1) c (F 11) ((I 1) 6) name ((I 1) 2)))), (0, .ref (A 0)), (1, .int (J c)), (2, .int (J n)), (3, .int (J name))] [.long (JL (isum (fun b => rk ((I 1) 0) b name) b5_103 b7_103 g16_103.toNat))]
          refine w_topL (e2 := EXP (I 1) c (-1) (-5) n.toNat (fun b => rk ((I 1) 0) b name) ((I 1) 6)) (by exact hex _) ?_
          refine w_lstore (pc := 115) hC dX12_ought_115 (lv2 := [(6, .long (JL (EXP (I 1) c (-1) (-5) n.toNat (fun b => rk ((I 1) 0) b name) ((I 1) 6)))), (5, .int (J (-5))), (4, .int (J (MSK (I 1) c (F 11) ((I 1) 6) name ((I 1) 2)))), (0, .ref (A 0)), (1, .int (J c)), (2, .int (J n)), (3, .int (J name))]) (by rw [hnL]; decide) rfl ?_
          refine w_iconst (pc := 117) hC dX12_ought_117 ?_
          refine w_istore (pc := 118) hC dX12_ought_118 (lv2 := [(8, .int (J 0)), (6, .long (JL (EXP (I 1) c (-1) (-5) n.toNat (fun b => rk ((I 1) 0) b name) ((I 1) 6)))), (5, .int (J (-5))), (4, .int (J (MSK (I 1) c (F 11) ((I 1) 6) name ((I 1) 2)))), (0, .ref (A 0)), (1, .int (J c)), (2, .int (J n)), (3, .int (J name))]) (by rw [hnL]; decide) rfl ?_
          have loop120 : ∀ (nF : Nat) (bs : Int) (le : Int) (b : Int) (a3_120 : Int → Int) (a4_120 : Int → Int) (a5_120 : Int → Int) (a6_120 : Int → Int) (a7_120 : Int → Int) (a8_120 : Int → Int) (f16_120 : Int) (f17_120 : Int) (f18_120 : Int), (0 ≤ b ∧ b ≤ (I 1) 0) → (bs = (ouF (I 1) c n name b.toNat).1) → (le = (ouF (I 1) c n name b.toNat).2) → (0 ≤ le ∧ le ≤ 10000000000000) → ((I 1) 0 - b) < (nF : Int) → WW K G 0 0 (MW A G.2.1 (au (au (au (au (au (au I 3 a3_120) 4 a4_120) 5 a5_120) 6 a6_120) 7 a7_120) 8 a8_120) (fu (fu (fu F 16 f16_120) 17 f17_120) 18 f18_120)) 120 [(0, .ref (A 0)), (1, .int (J c)), (2, .int (J n)), (3, .int (J name)), (4, .int (J (MSK (I 1) c (F 11) ((I 1) 6) name ((I 1) 2)))), (5, .int (J bs)), (6, .long (JL le)), (8, .int (J b))] [] := by
            intro nF
            induction nF with
            | zero => intro bs le b a3_120 a4_120 a5_120 a6_120 a7_120 a8_120 f16_120 f17_120 f18_120 i1 i2 i3 i4 hm120; exact absurd hm120 (by omega)
            | succ nF ih120 =>
              intro bs le b a3_120 a4_120 a5_120 a6_120 a7_120 a8_120 f16_120 f17_120 f18_120 i1 i2 i3 i4 hm120
              refine w_iload (pc := 120) hC dX12_ought_120 7 rfl ?_
              refine w_aload_n (pc := 122) hC dX12_ought_122 0 rfl rfl ?_
              refine w_getf (pc := 123) (v := .ref (A 1)) hC dX12_ought_123 fi_X12_9 0 rfl rfl ?_
              refine w_iconst (pc := 126) hC dX12_ought_126 ?_
              refine w_iald (pc := 127) (g := (I 1)) hC dX12_ought_127 1 rfl (by omega) (Nat.le_of_ble_eq_true rfl) ?_
              refine w_icmp_ge (pc := 128) (tgt := 204) hC dX12_ought_128 (by decide) (by omega) (fun c128 => ?_) (fun c128 => ?_)
              · refine w_iload (pc := 204) hC dX12_ought_204 5 rfl ?_
                refine w_iret (pc := 206) hC hRT dX12_ought_206 rfl ?_
                refine ⟨a3_120, a4_120, a5_120, a6_120, a7_120, a8_120, f16_120, f17_120, f18_120, retI (by unfold v_ought; rw [if_neg (by omega), if_neg (by omega), if_neg (by omega), i2, show b = I 1 0 by omega]), rfl⟩
              · have hrfM : (MSK (I 1) c (-1) (I 1 6) name (I 1 2)) = (MSK (I 1) c (F 11) (I 1 6) name (I 1 2)) := by rw [hrf]
                refine w_iload (pc := 131) hC dX12_ought_131 4 rfl ?_
                refine w_iload (pc := 133) hC dX12_ought_133 7 rfl ?_
                refine w_ishr (pc := 135) hC dX12_ought_135 (by omega) ?_
                refine w_iconst (pc := 136) hC dX12_ought_136 ?_
                refine w_iand (pc := 137) hC dX12_ought_137 (v := ((MSK (I 1) c (F 11) ((I 1) 6) name ((I 1) 2)) / 2 ^ b.toNat) % 2) (J_and1 _) ?_
                refine w_iconst (pc := 138) hC dX12_ought_138 ?_
                refine w_icmp_ne (pc := 139) (tgt := 198) hC dX12_ought_139 (by decide) (by omega) (fun c139 => ?_) (fun c139 => ?_)
                · refine w_iinc (pc := 198) hC dX12_ought_198 (lv2 := [(8, .int (J (b + 1))), (0, .ref (A 0)), (1, .int (J c)), (2, .int (J n)), (3, .int (J name)), (4, .int (J (MSK (I 1) c (F 11) ((I 1) 6) name ((I 1) 2)))), (5, .int (J bs)), (6, .long (JL le))]) 7 rfl (by rw [hnL]; decide) rfl ?_
                  refine w_goto (pc := 201) hC dX12_ought_201 (tgt := 120) (by decide) ?_
                  refine w_sub [1, 2, 3, 4, 5, 6, 7, 0] (lv2 := [(0, .ref (A 0)), (1, .int (J c)), (2, .int (J n)), (3, .int (J name)), (4, .int (J (MSK (I 1) c (F 11) ((I 1) 6) name ((I 1) 2)))), (5, .int (J bs)), (6, .long (JL le)), (8, .int (J (b + 1)))]) rfl ?_
                  refine ih120 bs le (b + 1) a3_120 a4_120 a5_120 a6_120 a7_120 a8_120 f16_120 f17_120 f18_120 ?_ ?_ ?_ ?_ ?_
                  · first | assumption | omega
                  · first | (exfalso; omega) | (rw [ouF_s _ _ _ _ i1.1, hrfM, ← i3]; (first | rw [if_neg (fun h => c139 h.1)] | rw [if_pos (And.intro c139 c169)] | rw [if_neg (fun h => absurd h.2 (Int.not_lt.mpr c169))]); first | done | rfl | exact i2 | exact i3)
                  · first | (exfalso; omega) | (rw [ouF_s _ _ _ _ i1.1, hrfM, ← i3]; (first | rw [if_neg (fun h => c139 h.1)] | rw [if_pos (And.intro c139 c169)] | rw [if_neg (fun h => absurd h.2 (Int.not_lt.mpr c169))]); first | done | rfl | exact i2 | exact i3)
                  · omega
                  · omega
                · have hup := MSK_up hV (by omega) (show 0 ≤ b ∧ b < I 1 0 by omega) c139
                  have hfst : FST (I 1) (I 1 6) (I 1 2) b := Or.inr (Or.inr ⟨by omega, by rw [← htr.2, c64]; exact hup⟩)
                  refine w_aload_n (pc := 142) hC dX12_ought_142 0 rfl rfl ?_
                  refine w_iload_n (pc := 143) hC dX12_ought_143 1 rfl rfl ?_
                  refine w_aload_n (pc := 144) hC dX12_ought_144 0 rfl rfl ?_
                  refine w_getf (pc := 145) (v := .ref (A 1)) hC dX12_ought_145 fi_X12_9 0 rfl rfl ?_
                  refine w_bipush (pc := 148) hC dX12_ought_148 (z := 6) rfl ?_
                  refine w_iald (pc := 150) (g := (I 1)) hC dX12_ought_150 1 rfl (by omega) (Nat.le_of_ble_eq_true rfl) ?_
                  refine w_iload_n (pc := 151) hC dX12_ought_151 2 rfl rfl ?_
                  refine w_iload (pc := 152) hC dX12_ought_152 7 rfl ?_
                  refine w_callV (pc := 154) (As := [.int (J c), .int (J ((I 1) 6)), .int (J n), .int (J b)]) (rest := []) hC dX12_ought_154 cv_X12_201 (c_X12_days (kl K) G A (au (au (au (au (au (au I 3 a3_120) 4 a4_120) 5 a5_120) 6 a6_120) 7 a7_120) 8 a8_120) (fu (fu (fu F 16 f16_120) 17 f17_120) 18 f18_120) c ((I 1) 6) n b (show RI (I 1) from by first | assumption | omega) (show 0 ≤ c ∧ c < (I 1) 1 from by first | assumption | omega) (show 0 < (I 1) 0 from by first | assumption | omega) (show VB ((I 1) 0) ((I 1) 6) from by first | assumption | omega) (show 0 ≤ n ∧ n ≤ 6 from by first | assumption | omega) (show -1 ≤ (F 11) ∧ (F 11) ≤ 5 from by first | assumption | omega) (show FST (I 1) ((I 1) 6) ((I 1) 2) b from by exact hfst) (show b = -7 ∨ b = -5 ∨ (0 ≤ b ∧ b < (I 1) 0) from by omega)) (by decide) ⟨Nat.le_of_ble_eq_true rfl, Nat.le_of_ble_eq_true rfl⟩ (q0 := 0) rfl rfl rfl rfl (Nat.le_of_ble_eq_true rfl) rfl (fun vo wo hv => ?_)
                  obtain ⟨b3_154, b4_154, b5_154, b6_154, b7_154, b8_154, g16_154, g17_154, g18_154, hv1, hw1, r154⟩ := hv
                  rw [hv1, hw1]
                  show WW K G 0 0 (MW A G.2.1 (au (au (au (au (au (au I 3 b3_154) 4 b4_154) 5 b5_154) 6 b6_154) 7 b7_154) 8 b8_154) (fu (fu (fu F 16 g16_154) 17 g17_154) 18 g18_154)) 157 [(0, .ref (A 0)), (1, .int (J c)), (2, .int (J n)), (3, .int (J name)), (4, .int (J (MSK (I 1) c (F 11) ((I 1) 6) name ((I 1) 2)))), (5, .int (J bs)), (6, .long (JL le)), (8, .int (J b))] []
                  have r154 : (∀ f : Int → Int, isum f b5_154 b7_154 (g16_154).toNat = EXP (I 1) c (F 11) b n.toNat f ((I 1) 6)) ∧ LK b5_154 b7_154 g16_154 ∧ (∀ k : Int, 0 ≤ k → k < g16_154 → VB ((I 1) 0) (b5_154 k)) ∧ isum one1 b5_154 b7_154 (g16_154).toNat = g18_154 ∧ g18_154 = 100 ^ n.toNat := r154
                  have hlk2 := r154.2.1
                  have hvb2 := r154.2.2.1
                  have htot2 := r154.2.2.2.1
                  have hli2 := r154.2.2.2.2
                  have hex2 := r154.1
                  have hp2 := p100 (n := n) (by omega) (by omega)
                  rw [← hli2] at hp2
                  rw [hrf] at hex2
                  have hmm2 := hlk2.1
                  refine w_aload_n (pc := 157) hC dX12_ought_157 0 rfl rfl ?_
                  refine w_iload_n (pc := 158) hC dX12_ought_158 3 rfl rfl ?_
                  refine w_callV (pc := 159) (As := [.int (J name)]) (rest := []) hC dX12_ought_159 cv_X12_216 (c_X12_rungs (kl K) G A (au (au (au (au (au (au I 3 b3_154) 4 b4_154) 5 b5_154) 6 b6_154) 7 b7_154) 8 b8_154) (fu (fu (fu F 16 g16_154) 17 g17_154) 18 g18_154) name (show RI (I 1) from by first | assumption | omega) (show 0 ≤ name ∧ name < (I 1) 0 from by first | assumption | omega) (show LK b5_154 b7_154 g16_154 from by first | assumption | omega) (show ∀ k : Int, 0 ≤ k → k < g16_154 → VB ((I 1) 0) (b5_154 k) from by first | assumption | omega)) (by decide) ⟨Nat.le_of_ble_eq_true rfl, Nat.le_of_ble_eq_true rfl⟩ (q0 := 0) rfl rfl rfl rfl (Nat.le_of_ble_eq_true rfl) rfl (fun vo wo hv => ?_)
                  obtain ⟨hv1, hw1⟩ := hv
                  rw [hv1, hw1]
                  show WW K G 0 0 (MW A G.2.1 (au (au (au (au (au (au I 3 b3_154) 4 b4_154) 5 b5_154) 6 b6_154) 7 b7_154) 8 b8_154) (fu (fu (fu F 16 g16_154) 17 g17_154) 18 g18_154)) 162 [(0, .ref (A 0)), (1, .int (J c)), (2, .int (J n)), (3, .int (J name)), (4, .int (J (MSK (I 1) c (F 11) ((I 1) 6) name ((I 1) 2)))), (5, .int (J bs)), (6, .long (JL le)), (8, .int (J b))] [.long (JL (isum (fun b => rk ((I 1) 0) b name) b5_154 b7_154 g16_154.toNat))]
                  refine w_topL (e2 := EXP (I 1) c (-1) b n.toNat (fun b => rk ((I 1) 0) b name) ((I 1) 6)) (by exact hex2 _) ?_
                  have hsr2 := isum_rng (f := fun b => rk (I 1 0) b name) hlk2 (c := 5) (fun j g1 g2 => by have := (rk_spec (hvb2 j g1 g2) (a := name) (by omega) (by omega)).1; omega)
                  rw [hex2] at hsr2
                  refine w_lstore (pc := 162) hC dX12_ought_162 (lv2 := [(9, .long (JL (EXP (I 1) c (-1) b n.toNat (fun b => rk ((I 1) 0) b name) ((I 1) 6)))), (0, .ref (A 0)), (1, .int (J c)), (2, .int (J n)), (3, .int (J name)), (4, .int (J (MSK (I 1) c (F 11) ((I 1) 6) name ((I 1) 2)))), (5, .int (J bs)), (6, .long (JL le)), (8, .int (J b))]) (by rw [hnL]; decide) rfl ?_
                  refine w_lload (pc := 164) hC dX12_ought_164 0 rfl ?_
                  refine w_lload (pc := 166) hC dX12_ought_166 7 rfl ?_
                  refine w_lcmp (pc := 168) hC dX12_ought_168 (by omega) ?_
                  refine w_if_ge_c (pc := 169) (tgt := 177) hC dX12_ought_169 (by decide) (fun c169 => ?_) (fun c169 => ?_)
                  · refine w_iload (pc := 177) hC dX12_ought_177 6 rfl ?_
                    refine w_istore (pc := 179) hC dX12_ought_179 (lv2 := [(5, .int (J bs)), (9, .long (JL (EXP (I 1) c (-1) b n.toNat (fun b => rk ((I 1) 0) b name) ((I 1) 6)))), (0, .ref (A 0)), (1, .int (J c)), (2, .int (J n)), (3, .int (J name)), (4, .int (J (MSK (I 1) c (F 11) ((I 1) 6) name ((I 1) 2)))), (6, .long (JL le)), (8, .int (J b))]) (by rw [hnL]; decide) rfl ?_
                    refine w_lload (pc := 181) hC dX12_ought_181 1 rfl ?_
                    refine w_lload (pc := 183) hC dX12_ought_183 7 rfl ?_
                    refine w_lcmp (pc := 185) hC dX12_ought_185 (by omega) ?_
                    refine w_if_ge_c (pc := 186) (tgt := 194) hC dX12_ought_186 (by decide) (fun c186 => ?_) (fun c186 => ?_)
                    · refine w_lload (pc := 194) hC dX12_ought_194 7 rfl ?_
                      refine w_lstore (pc := 196) hC dX12_ought_196 (lv2 := [(6, .long (JL le)), (5, .int (J bs)), (9, .long (JL (EXP (I 1) c (-1) b n.toNat (fun b => rk ((I 1) 0) b name) ((I 1) 6)))), (0, .ref (A 0)), (1, .int (J c)), (2, .int (J n)), (3, .int (J name)), (4, .int (J (MSK (I 1) c (F 11) ((I 1) 6) name ((I 1) 2)))), (8, .int (J b))]) (by rw [hnL]; decide) rfl ?_
                      refine w_iinc (pc := 198) hC dX12_ought_198 (lv2 := [(8, .int (J (b + 1))), (6, .long (JL le)), (5, .int (J bs)), (9, .long (JL (EXP (I 1) c (-1) b n.toNat (fun b => rk ((I 1) 0) b name) ((I 1) 6)))), (0, .ref (A 0)), (1, .int (J c)), (2, .int (J n)), (3, .int (J name)), (4, .int (J (MSK (I 1) c (F 11) ((I 1) 6) name ((I 1) 2))))]) 8 rfl (by rw [hnL]; decide) rfl ?_
                      refine w_goto (pc := 201) hC dX12_ought_201 (tgt := 120) (by decide) ?_
                      refine w_sub [4, 5, 6, 7, 8, 2, 1, 0] (lv2 := [(0, .ref (A 0)), (1, .int (J c)), (2, .int (J n)), (3, .int (J name)), (4, .int (J (MSK (I 1) c (F 11) ((I 1) 6) name ((I 1) 2)))), (5, .int (J bs)), (6, .long (JL le)), (8, .int (J (b + 1)))]) rfl ?_
                      refine ih120 bs le (b + 1) b3_154 b4_154 b5_154 b6_154 b7_154 b8_154 g16_154 g17_154 g18_154 ?_ ?_ ?_ ?_ ?_
                      · first | assumption | omega
                      · first | (exfalso; omega) | (rw [ouF_s _ _ _ _ i1.1, hrfM, ← i3]; (first | rw [if_neg (fun h => c139 h.1)] | rw [if_pos (And.intro c139 c169)] | rw [if_neg (fun h => absurd h.2 (Int.not_lt.mpr c169))]); first | done | rfl | exact i2 | exact i3)
                      · first | (exfalso; omega) | (rw [ouF_s _ _ _ _ i1.1, hrfM, ← i3]; (first | rw [if_neg (fun h => c139 h.1)] | rw [if_pos (And.intro c139 c169)] | rw [if_neg (fun h => absurd h.2 (Int.not_lt.mpr c169))]); first | done | rfl | exact i2 | exact i3)
                      · omega
                      · omega
                    · refine w_lload (pc := 189) hC dX12_ought_189 1 rfl ?_
                      refine w_goto (pc := 191) hC dX12_ought_191 (tgt := 196) (by decide) ?_
                      refine w_lstore (pc := 196) hC dX12_ought_196 (lv2 := [(6, .long (JL (EXP (I 1) c (-1) b n.toNat (fun b => rk ((I 1) 0) b name) ((I 1) 6)))), (5, .int (J bs)), (9, .long (JL (EXP (I 1) c (-1) b n.toNat (fun b => rk ((I 1) 0) b name) ((I 1) 6)))), (0, .ref (A 0)), (1, .int (J c)), (2, .int (J n)), (3, .int (J name)), (4, .int (J (MSK (I 1) c (F 11) ((I 1) 6) name ((I 1) 2)))), (8, .int (J b))]) (by rw [hnL]; decide) rfl ?_
                      refine w_iinc (pc := 198) hC dX12_ought_198 (lv2 := [(8, .int (J (b + 1))), (6, .long (JL (EXP (I 1) c (-1) b n.toNat (fun b => rk ((I 1) 0) b name) ((I 1) 6)))), (5, .int (J bs)), (9, .long (JL (EXP (I 1) c (-1) b n.toNat (fun b => rk ((I 1) 0) b name) ((I 1) 6)))), (0, .ref (A 0)), (1, .int (J c)), (2, .int (J n)), (3, .int (J name)), (4, .int (J (MSK (I 1) c (F 11) ((I 1) 6) name ((I 1) 2))))]) 8 rfl (by rw [hnL]; decide) rfl ?_
                      refine w_goto (pc := 201) hC dX12_ought_201 (tgt := 120) (by decide) ?_
                      refine w_sub [4, 5, 6, 7, 8, 2, 1, 0] (lv2 := [(0, .ref (A 0)), (1, .int (J c)), (2, .int (J n)), (3, .int (J name)), (4, .int (J (MSK (I 1) c (F 11) ((I 1) 6) name ((I 1) 2)))), (5, .int (J bs)), (6, .long (JL (EXP (I 1) c (-1) b n.toNat (fun b => rk ((I 1) 0) b name) ((I 1) 6)))), (8, .int (J (b + 1)))]) rfl ?_
                      refine ih120 bs (EXP (I 1) c (-1) b n.toNat (fun b => rk ((I 1) 0) b name) ((I 1) 6)) (b + 1) b3_154 b4_154 b5_154 b6_154 b7_154 b8_154 g16_154 g17_154 g18_154 ?_ ?_ ?_ ?_ ?_
                      · first | assumption | omega
                      · first | (exfalso; omega) | (rw [ouF_s _ _ _ _ i1.1, hrfM, ← i3]; (first | rw [if_neg (fun h => c139 h.1)] | rw [if_pos (And.intro c139 c169)] | rw [if_neg (fun h => absurd h.2 (Int.not_lt.mpr c169))]); first | done | rfl | exact i2 | exact i3)
                      · first | (exfalso; omega) | (rw [ouF_s _ _ _ _ i1.1, hrfM, ← i3]; (first | rw [if_neg (fun h => c139 h.1)] | rw [if_pos (And.intro c139 c169)] | rw [if_neg (fun h => absurd h.2 (Int.not_lt.mpr c169))]); first | done | rfl | exact i2 | exact i3)
                      · omega
                      · omega
                  · refine w_iload (pc := 172) hC dX12_ought_172 8 rfl ?_
                    refine w_goto (pc := 174) hC dX12_ought_174 (tgt := 179) (by decide) ?_
                    refine w_istore (pc := 179) hC dX12_ought_179 (lv2 := [(5, .int (J b)), (9, .long (JL (EXP (I 1) c (-1) b n.toNat (fun b => rk ((I 1) 0) b name) ((I 1) 6)))), (0, .ref (A 0)), (1, .int (J c)), (2, .int (J n)), (3, .int (J name)), (4, .int (J (MSK (I 1) c (F 11) ((I 1) 6) name ((I 1) 2)))), (6, .long (JL le)), (8, .int (J b))]) (by rw [hnL]; decide) rfl ?_
                    refine w_lload (pc := 181) hC dX12_ought_181 1 rfl ?_
                    refine w_lload (pc := 183) hC dX12_ought_183 7 rfl ?_
                    refine w_lcmp (pc := 185) hC dX12_ought_185 (by omega) ?_
                    refine w_if_ge_c (pc := 186) (tgt := 194) hC dX12_ought_186 (by decide) (fun c186 => ?_) (fun c186 => ?_)
                    · refine w_lload (pc := 194) hC dX12_ought_194 7 rfl ?_
                      refine w_lstore (pc := 196) hC dX12_ought_196 (lv2 := [(6, .long (JL le)), (5, .int (J b)), (9, .long (JL (EXP (I 1) c (-1) b n.toNat (fun b => rk ((I 1) 0) b name) ((I 1) 6)))), (0, .ref (A 0)), (1, .int (J c)), (2, .int (J n)), (3, .int (J name)), (4, .int (J (MSK (I 1) c (F 11) ((I 1) 6) name ((I 1) 2)))), (8, .int (J b))]) (by rw [hnL]; decide) rfl ?_
                      refine w_iinc (pc := 198) hC dX12_ought_198 (lv2 := [(8, .int (J (b + 1))), (6, .long (JL le)), (5, .int (J b)), (9, .long (JL (EXP (I 1) c (-1) b n.toNat (fun b => rk ((I 1) 0) b name) ((I 1) 6)))), (0, .ref (A 0)), (1, .int (J c)), (2, .int (J n)), (3, .int (J name)), (4, .int (J (MSK (I 1) c (F 11) ((I 1) 6) name ((I 1) 2))))]) 8 rfl (by rw [hnL]; decide) rfl ?_
                      refine w_goto (pc := 201) hC dX12_ought_201 (tgt := 120) (by decide) ?_
                      refine w_sub [4, 5, 6, 7, 8, 2, 1, 0] (lv2 := [(0, .ref (A 0)), (1, .int (J c)), (2, .int (J n)), (3, .int (J name)), (4, .int (J (MSK (I 1) c (F 11) ((I 1) 6) name ((I 1) 2)))), (5, .int (J b)), (6, .long (JL le)), (8, .int (J (b + 1)))]) rfl ?_
                      refine ih120 b le (b + 1) b3_154 b4_154 b5_154 b6_154 b7_154 b8_154 g16_154 g17_154 g18_154 ?_ ?_ ?_ ?_ ?_
                      · first | assumption | omega
                      · first | (exfalso; omega) | (rw [ouF_s _ _ _ _ i1.1, hrfM, ← i3]; (first | rw [if_neg (fun h => c139 h.1)] | rw [if_pos (And.intro c139 c169)] | rw [if_neg (fun h => absurd h.2 (Int.not_lt.mpr c169))]); first | done | rfl | exact i2 | exact i3)
                      · first | (exfalso; omega) | (rw [ouF_s _ _ _ _ i1.1, hrfM, ← i3]; (first | rw [if_neg (fun h => c139 h.1)] | rw [if_pos (And.intro c139 c169)] | rw [if_neg (fun h => absurd h.2 (Int.not_lt.mpr c169))]); first | done | rfl | exact i2 | exact i3)
                      · omega
                      · omega
                    · refine w_lload (pc := 189) hC dX12_ought_189 1 rfl ?_
                      refine w_goto (pc := 191) hC dX12_ought_191 (tgt := 196) (by decide) ?_
                      refine w_lstore (pc := 196) hC dX12_ought_196 (lv2 := [(6, .long (JL (EXP (I 1) c (-1) b n.toNat (fun b => rk ((I 1) 0) b name) ((I 1) 6)))), (5, .int (J b)), (9, .long (JL (EXP (I 1) c (-1) b n.toNat (fun b => rk ((I 1) 0) b name) ((I 1) 6)))), (0, .ref (A 0)), (1, .int (J c)), (2, .int (J n)), (3, .int (J name)), (4, .int (J (MSK (I 1) c (F 11) ((I 1) 6) name ((I 1) 2)))), (8, .int (J b))]) (by rw [hnL]; decide) rfl ?_
                      refine w_iinc (pc := 198) hC dX12_ought_198 (lv2 := [(8, .int (J (b + 1))), (6, .long (JL (EXP (I 1) c (-1) b n.toNat (fun b => rk ((I 1) 0) b name) ((I 1) 6)))), (5, .int (J b)), (9, .long (JL (EXP (I 1) c (-1) b n.toNat (fun b => rk ((I 1) 0) b name) ((I 1) 6)))), (0, .ref (A 0)), (1, .int (J c)), (2, .int (J n)), (3, .int (J name)), (4, .int (J (MSK (I 1) c (F 11) ((I 1) 6) name ((I 1) 2))))]) 8 rfl (by rw [hnL]; decide) rfl ?_
                      refine w_goto (pc := 201) hC dX12_ought_201 (tgt := 120) (by decide) ?_
                      refine w_sub [4, 5, 6, 7, 8, 2, 1, 0] (lv2 := [(0, .ref (A 0)), (1, .int (J c)), (2, .int (J n)), (3, .int (J name)), (4, .int (J (MSK (I 1) c (F 11) ((I 1) 6) name ((I 1) 2)))), (5, .int (J b)), (6, .long (JL (EXP (I 1) c (-1) b n.toNat (fun b => rk ((I 1) 0) b name) ((I 1) 6)))), (8, .int (J (b + 1)))]) rfl ?_
                      refine ih120 b (EXP (I 1) c (-1) b n.toNat (fun b => rk ((I 1) 0) b name) ((I 1) 6)) (b + 1) b3_154 b4_154 b5_154 b6_154 b7_154 b8_154 g16_154 g17_154 g18_154 ?_ ?_ ?_ ?_ ?_
                      · first | assumption | omega
                      · first | (exfalso; omega) | (rw [ouF_s _ _ _ _ i1.1, hrfM, ← i3]; (first | rw [if_neg (fun h => c139 h.1)] | rw [if_pos (And.intro c139 c169)] | rw [if_neg (fun h => absurd h.2 (Int.not_lt.mpr c169))]); first | done | rfl | exact i2 | exact i3)
                      · first | (exfalso; omega) | (rw [ouF_s _ _ _ _ i1.1, hrfM, ← i3]; (first | rw [if_neg (fun h => c139 h.1)] | rw [if_pos (And.intro c139 c169)] | rw [if_neg (fun h => absurd h.2 (Int.not_lt.mpr c169))]); first | done | rfl | exact i2 | exact i3)
                      · omega
                      · omega
          refine w_sub [4, 5, 6, 7, 3, 2, 1, 0] (lv2 := [(0, .ref (A 0)), (1, .int (J c)), (2, .int (J n)), (3, .int (J name)), (4, .int (J (MSK (I 1) c (F 11) ((I 1) 6) name ((I 1) 2)))), (5, .int (J (-5))), (6, .long (JL (EXP (I 1) c (-1) (-5) n.toNat (fun b => rk ((I 1) 0) b name) ((I 1) 6)))), (8, .int (J 0))]) rfl ?_
          refine loop120 (((I 1) 0 - 0) + 1 : Int).toNat (-5) (EXP (I 1) c (-1) (-5) n.toNat (fun b => rk ((I 1) 0) b name) ((I 1) 6)) 0 b3_103 b4_103 b5_103 b6_103 b7_103 b8_103 g16_103 g17_103 g18_103 ?_ ?_ ?_ ?_ ?_
          · first | assumption | omega
          · rfl
          · rfl
          · omega
          · omega
        · refine w_bipush (pc := 67) hC dX12_ought_67 (z := (-3)) rfl ?_
          refine w_iret (pc := 69) hC hRT dX12_ought_69 rfl ?_
          refine ⟨(I 3), (I 4), (I 5), (I 6), (I 7), (I 8), (F 16), (F 17), (F 18), retI (by first | rfl | (simp only [v_ought]; repeat' split) <;> first | rfl | omega), rfl⟩
      · refine w_bipush (pc := 28) hC dX12_ought_28 (z := (-2)) rfl ?_
        refine w_iret (pc := 30) hC hRT dX12_ought_30 rfl ?_
        refine ⟨(I 3), (I 4), (I 5), (I 6), (I 7), (I 8), (F 16), (F 17), (F 18), retI (by first | rfl | (simp only [v_ought]; repeat' split) <;> first | rfl | omega), rfl⟩
    · refine w_iconst (pc := 16) hC dX12_ought_16 ?_
      refine w_iret (pc := 17) hC hRT dX12_ought_17 rfl ?_
      refine ⟨(I 3), (I 4), (I 5), (I 6), (I 7), (I 8), (F 16), (F 17), (F 18), retI (by first | rfl | (simp only [v_ought]; repeat' split) <;> first | rfl | omega), rfl⟩
set_option maxRecDepth 100000 in
set_option maxHeartbeats 4000000 in
theorem c_X12_stuck (l : Launch) (G : GT) (A : Nat → Nat) (I : Nat → Int → Int) (F : Nat → Int)  (c : Int) (what : Int) (hR : RI (I 1)) (h1 : -2147483648 ≤ c ∧ c < 2147483648) (h2 : -2147483648 ≤ what ∧ what < 2147483648) (hrf : (F 11) = -1) : CT l yX12_stuck cX12_stuck 10 (some .int) 5 0 0 G [.ref (A 0), .int (J c), .int (J what)] (MW A G.2.1 I F) (fun vo wo => ∃ (z : Int) (b3 : Int → Int) (b4 : Int → Int), vo = some (.int (J z)) ∧ wo = MW A G.2.1 (au (au I 3 b3) 4 b4) F ∧ (VSTK (I 1) c what z)) := by
  refine CT_of (own := RX12) rfl rfl (Nat.le_of_ble_eq_true rfl) (fun K hl hnL hC hRT hin => ?_)
  subst hl
  show WW K G 0 0 (MW A G.2.1 I F) 0 [(0, .ref (A 0)), (1, .int (J c)), (2, .int (J what))] []
  have hn0 := hR.n
  have hV := hR.bd
  have hB := VB_rng hV
  have hcl := hR.cl
  refine w_aload_n (pc := 0) hC dX12_stuck_0 0 rfl rfl ?_
  refine w_iload_n (pc := 1) hC dX12_stuck_1 1 rfl rfl ?_
  refine w_callV (pc := 2) (As := [.int (J c)]) (rest := []) hC dX12_stuck_2 cv_X12_156 (c_X12_isClub (kl K) G A I F c (show RI (I 1) from by first | assumption | omega) (show -2147483648 ≤ c ∧ c < 2147483648 from by first | assumption | omega)) (by decide) ⟨Nat.le_of_ble_eq_true rfl, Nat.le_of_ble_eq_true rfl⟩ (q0 := 0) rfl rfl rfl rfl (Nat.le_of_ble_eq_true rfl) rfl (fun vo wo hv => ?_)
  obtain ⟨hv1, hw1⟩ := hv
  rw [hv1, hw1]
  show WW K G 0 0 (MW A G.2.1 I F) 5 [(0, .ref (A 0)), (1, .int (J c)), (2, .int (J what))] [.int (J (bI (0 ≤ c ∧ c < (I 1) 1)))]
  refine w_if_eq_b (pc := 5) (tgt := 17) hC dX12_stuck_5 (by decide) (fun c5 => ?_) (fun c5 => ?_)
  · refine w_iconst (pc := 17) hC dX12_stuck_17 ?_
    refine w_iret (pc := 18) hC hRT dX12_stuck_18 rfl ?_
    refine ⟨(-1), (I 3), (I 4), rfl, rfl, ?_⟩
    · unfold VSTK; rw [if_pos (by omega)]
  · refine w_iload_n (pc := 8) hC dX12_stuck_8 2 rfl rfl ?_
    refine w_iconst (pc := 9) hC dX12_stuck_9 ?_
    refine w_iconst (pc := 10) hC dX12_stuck_10 ?_
    refine w_callS (pc := 11) (As := [.int (J what), .int (J 0), .int (J 1)]) (rest := []) hC dX12_stuck_11 cs_X12_48 (c_X12_in (kl K) G (MW A G.2.1 I F) what 0 1 (show (-2147483648 ≤ what ∧ what < 2147483648) ∧ (-2147483648 ≤ 0 ∧ 0 < 2147483648) ∧ -2147483648 ≤ 1 ∧ 1 < 2147483648 from by first | assumption | omega)) (by decide) ⟨Nat.le_of_ble_eq_true rfl, Nat.le_of_ble_eq_true rfl⟩ rfl (Nat.le_of_ble_eq_true rfl) rfl (fun vo wo hv => ?_)
    obtain ⟨hv1, hw1⟩ := hv
    rw [hv1, hw1]
    show WW K G 0 0 (MW A G.2.1 I F) 14 [(0, .ref (A 0)), (1, .int (J c)), (2, .int (J what))] [.int (J (bI (0 ≤ what ∧ what ≤ 1)))]
    refine w_if_ne_b (pc := 14) (tgt := 19) hC dX12_stuck_14 (by decide) (fun c14 => ?_) (fun c14 => ?_)
    · refine w_iconst (pc := 19) hC dX12_stuck_19 ?_
      refine w_istore_n (pc := 20) hC dX12_stuck_20 rfl (lv2 := [(3, .int (J 0)), (0, .ref (A 0)), (1, .int (J c)), (2, .int (J what))]) (by rw [hnL]; decide) rfl ?_
      refine w_iconst (pc := 21) hC dX12_stuck_21 ?_
      refine w_istore (pc := 22) hC dX12_stuck_22 (lv2 := [(4, .int (J 0)), (3, .int (J 0)), (0, .ref (A 0)), (1, .int (J c)), (2, .int (J what))]) (by rw [hnL]; decide) rfl ?_
      refine w_iconst (pc := 24) hC dX12_stuck_24 ?_
      refine w_istore (pc := 25) hC dX12_stuck_25 (lv2 := [(5, .int (J 0)), (4, .int (J 0)), (3, .int (J 0)), (0, .ref (A 0)), (1, .int (J c)), (2, .int (J what))]) (by rw [hnL]; decide) rfl ?_
      refine w_iconst (pc := 27) hC dX12_stuck_27 ?_
      refine w_istore (pc := 28) hC dX12_stuck_28 (lv2 := [(6, .int (J 0)), (5, .int (J 0)), (4, .int (J 0)), (3, .int (J 0)), (0, .ref (A 0)), (1, .int (J c)), (2, .int (J what))]) (by rw [hnL]; decide) rfl ?_
      have loop30 : ∀ (nF : Nat) (ak : Int) (sk : Int) (hg : Int) (a : Int) (a3_30 : Int → Int) (a4_30 : Int → Int), (0 ≤ a ∧ a ≤ (I 1) 0) → ((0 ≤ ak ∧ ak < 64) ∧ ∀ y : Int, 0 ≤ y → (ak / 2 ^ y.toNat % 2 = 1 ↔ ∃ x : Int, (0 ≤ x ∧ x < a) ∧ ASKS7 (I 1) c x y)) → ((0 ≤ sk ∧ sk < 64) ∧ ∀ x : Int, 0 ≤ x → (sk / 2 ^ x.toNat % 2 = 1 ↔ (0 ≤ x ∧ x < a) ∧ ∃ y : Int, (0 ≤ y ∧ y < (I 1) 0) ∧ BLW (I 1) x y ∧ ¬ ASKS7 (I 1) c x y)) → ((0 ≤ hg ∧ hg < 64) ∧ ∀ y : Int, 0 ≤ y → (hg / 2 ^ y.toNat % 2 = 1 ↔ ∃ x : Int, (0 ≤ x ∧ x < a) ∧ (0 ≤ y ∧ y < (I 1) 0) ∧ BLW (I 1) x y)) → ((I 1) 0 - a) < (nF : Int) → WW K G 0 0 (MW A G.2.1 (au (au I 3 a3_30) 4 a4_30) F) 30 [(0, .ref (A 0)), (1, .int (J c)), (2, .int (J what)), (3, .int (J ak)), (4, .int (J sk)), (5, .int (J hg)), (6, .int (J a))] [] := by
        intro nF
        induction nF with
        | zero => intro ak sk hg a a3_30 a4_30 i1 i2 i3 i4 hm30; exact absurd hm30 (by omega)
        | succ nF ih30 =>
          intro ak sk hg a a3_30 a4_30 i1 i2 i3 i4 hm30
          refine w_iload (pc := 30) hC dX12_stuck_30 6 rfl ?_
          refine w_aload_n (pc := 32) hC dX12_stuck_32 0 rfl rfl ?_
          refine w_getf (pc := 33) (v := .ref (A 1)) hC dX12_stuck_33 fi_X12_9 0 rfl rfl ?_
          refine w_iconst (pc := 36) hC dX12_stuck_36 ?_
          refine w_iald (pc := 37) (g := (I 1)) hC dX12_stuck_37 1 rfl (by omega) (Nat.le_of_ble_eq_true rfl) ?_
          refine w_icmp_ge (pc := 38) (tgt := 181) hC dX12_stuck_38 (by decide) (by omega) (fun c38 => ?_) (fun c38 => ?_)
          · refine w_iload_n (pc := 181) hC dX12_stuck_181 2 rfl rfl ?_
            refine w_if_ne (pc := 182) (tgt := 190) hC dX12_stuck_182 (by decide) (by omega) (fun c182 => ?_) (fun c182 => ?_)
            · refine w_iload (pc := 190) hC dX12_stuck_190 5 rfl ?_
              refine w_iload_n (pc := 192) hC dX12_stuck_192 3 rfl rfl ?_
              refine w_iconst (pc := 193) hC dX12_stuck_193 ?_
              refine w_ixor (pc := 194) hC dX12_stuck_194 (v := -1 - ak) (J_not _) ?_
              refine w_iand (pc := 195) hC dX12_stuck_195 (v := andn hg ak) (J_andn i4.1.1 (by omega) i2.1.1 (by omega)) ?_
              refine w_iret (pc := 196) hC hRT dX12_stuck_196 rfl ?_
              refine ⟨andn hg ak, a3_30, a4_30, rfl, rfl, ?_⟩
              · unfold VSTK; rw [if_neg (by omega)]
                have ha : a = I 1 0 := by omega
                subst ha
                first
                | (rw [if_pos (by omega)]; exact ⟨i3.1.1, i3.2⟩)
                | (rw [if_neg (by omega)]
                   refine ⟨(andn_bd i4.1.1).1, fun y gy => ?_⟩
                   rw [bt_andn (by omega) (by omega) gy, i4.2 y gy, i2.2 y gy]
                   constructor
                   · rintro ⟨⟨x, hx, hy, g⟩, g2⟩
                     exact ⟨hy, ⟨x, hx, g⟩, g2⟩
                   · rintro ⟨hy, ⟨x, hx, g⟩, g2⟩
                     exact ⟨⟨x, hx, hy, g⟩, g2⟩)
            · refine w_iload (pc := 185) hC dX12_stuck_185 4 rfl ?_
              refine w_goto (pc := 187) hC dX12_stuck_187 (tgt := 196) (by decide) ?_
              refine w_iret (pc := 196) hC hRT dX12_stuck_196 rfl ?_
              refine ⟨sk, a3_30, a4_30, rfl, rfl, ?_⟩
              · unfold VSTK; rw [if_neg (by omega)]
                have ha : a = I 1 0 := by omega
                subst ha
                first
                | (rw [if_pos (by omega)]; exact ⟨i3.1.1, i3.2⟩)
                | (rw [if_neg (by omega)]
                   refine ⟨(andn_bd i4.1.1).1, fun y gy => ?_⟩
                   rw [bt_andn (by omega) (by omega) gy, i4.2 y gy, i2.2 y gy]
                   constructor
                   · rintro ⟨⟨x, hx, hy, g⟩, g2⟩
                     exact ⟨hy, ⟨x, hx, g⟩, g2⟩
                   · rintro ⟨hy, ⟨x, hx, g⟩, g2⟩
                     exact ⟨⟨x, hx, hy, g⟩, g2⟩)
          · refine w_aload_n (pc := 41) hC dX12_stuck_41 0 rfl rfl ?_
            refine w_iload_n (pc := 42) hC dX12_stuck_42 1 rfl rfl ?_
            refine w_iload (pc := 43) hC dX12_stuck_43 6 rfl ?_
            refine w_callV (pc := 45) (As := [.int (J c), .int (J a)]) (rest := []) hC dX12_stuck_45 cv_X12_220 (c_X12_askedAny (kl K) G A (au (au I 3 a3_30) 4 a4_30) F c a (show RI (I 1) from by first | assumption | omega) (show 0 ≤ c ∧ c < (I 1) 1 from by first | assumption | omega) (show 0 ≤ a ∧ a < (I 1) 0 from by first | assumption | omega) (show -1 ≤ (F 11) ∧ (F 11) ≤ 5 from by first | assumption | omega)) (by decide) ⟨Nat.le_of_ble_eq_true rfl, Nat.le_of_ble_eq_true rfl⟩ (q0 := 0) rfl rfl rfl rfl (Nat.le_of_ble_eq_true rfl) rfl (fun vo wo hv => ?_)
            obtain ⟨b3_45, b4_45, hv1, hw1⟩ := hv
            rw [hv1, hw1]
            show WW K G 0 0 (MW A G.2.1 (au (au I 3 b3_45) 4 b4_45) F) 48 [(0, .ref (A 0)), (1, .int (J c)), (2, .int (J what)), (3, .int (J ak)), (4, .int (J sk)), (5, .int (J hg)), (6, .int (J a))] [.int (J (aaN (I 1) c (F 11) a 7))]
            have q45_0 := fun (x : Int) (gx : 0 ≤ x) => @aaN_bt (I 1) c (F 11) a x (by assumption) (by omega) gx 7
            have hown : ∀ y : Int, 0 ≤ y → (aaN (I 1) c (F 11) a 7 / 2 ^ y.toNat % 2 = 1 ↔ ASKS7 (I 1) c a y) := fun y gy => (q45_0 y gy).2.trans (by rw [hrf]; exact Iff.rfl)
            have hownr := (q45_0 0 (by decide)).1
            refine w_istore (pc := 48) hC dX12_stuck_48 (lv2 := [(7, .int (J (aaN (I 1) c (F 11) a 7))), (0, .ref (A 0)), (1, .int (J c)), (2, .int (J what)), (3, .int (J ak)), (4, .int (J sk)), (5, .int (J hg)), (6, .int (J a))]) (by rw [hnL]; decide) rfl ?_
            refine w_iload_n (pc := 50) hC dX12_stuck_50 4 rfl rfl ?_
            refine w_iload (pc := 51) hC dX12_stuck_51 0 rfl ?_
            refine w_ior (pc := 53) hC dX12_stuck_53 (v := ior ak (aaN (I 1) c (F 11) a 7)) (J_or (by omega)) ?_
            refine w_istore_n (pc := 54) hC dX12_stuck_54 rfl (lv2 := [(3, .int (J (ior ak (aaN (I 1) c (F 11) a 7)))), (7, .int (J (aaN (I 1) c (F 11) a 7))), (0, .ref (A 0)), (1, .int (J c)), (2, .int (J what)), (4, .int (J sk)), (5, .int (J hg)), (6, .int (J a))]) (by rw [hnL]; decide) rfl ?_
            refine w_iconst (pc := 55) hC dX12_stuck_55 ?_
            refine w_istore (pc := 56) hC dX12_stuck_56 (lv2 := [(8, .int (J 0)), (3, .int (J (ior ak (aaN (I 1) c (F 11) a 7)))), (7, .int (J (aaN (I 1) c (F 11) a 7))), (0, .ref (A 0)), (1, .int (J c)), (2, .int (J what)), (4, .int (J sk)), (5, .int (J hg)), (6, .int (J a))]) (by rw [hnL]; decide) rfl ?_
            have loop58 : ∀ (nF : Nat) (sk2 : Int) (hg2 : Int) (b : Int), (0 ≤ b ∧ b ≤ (I 1) 0) → ((0 ≤ sk2 ∧ sk2 < 64) ∧ ∀ x : Int, 0 ≤ x → (sk2 / 2 ^ x.toNat % 2 = 1 ↔ ((0 ≤ x ∧ x < a) ∧ ∃ y : Int, (0 ≤ y ∧ y < (I 1) 0) ∧ BLW (I 1) x y ∧ ¬ ASKS7 (I 1) c x y) ∨ (x = a ∧ ∃ y : Int, (0 ≤ y ∧ y < b) ∧ BLW (I 1) a y ∧ ¬ ASKS7 (I 1) c a y))) → ((0 ≤ hg2 ∧ hg2 < 64) ∧ ∀ y : Int, 0 ≤ y → (hg2 / 2 ^ y.toNat % 2 = 1 ↔ (∃ x : Int, (0 ≤ x ∧ x < a) ∧ (0 ≤ y ∧ y < (I 1) 0) ∧ BLW (I 1) x y) ∨ ((0 ≤ y ∧ y < b) ∧ BLW (I 1) a y))) → ((I 1) 0 - b) < (nF : Int) → WW K G 0 0 (MW A G.2.1 (au (au I 3 b3_45) 4 b4_45) F) 58 [(0, .ref (A 0)), (1, .int (J c)), (2, .int (J what)), (3, .int (J (ior ak (aaN (I 1) c (F 11) a 7)))), (4, .int (J sk2)), (5, .int (J hg2)), (6, .int (J a)), (7, .int (J (aaN (I 1) c (F 11) a 7))), (8, .int (J b))] [] := by
              intro nF
              induction nF with
              | zero => intro sk2 hg2 b j1 j2 j3 hm58; exact absurd hm58 (by omega)
              | succ nF ih58 =>
                intro sk2 hg2 b j1 j2 j3 hm58
                refine w_iload (pc := 58) hC dX12_stuck_58 8 rfl ?_
                refine w_aload_n (pc := 60) hC dX12_stuck_60 0 rfl rfl ?_
                refine w_getf (pc := 61) (v := .ref (A 1)) hC dX12_stuck_61 fi_X12_9 0 rfl rfl ?_
                refine w_iconst (pc := 64) hC dX12_stuck_64 ?_
                refine w_iald (pc := 65) (g := (I 1)) hC dX12_stuck_65 1 rfl (by omega) (Nat.le_of_ble_eq_true rfl) ?_
                refine w_icmp_ge (pc := 66) (tgt := 175) hC dX12_stuck_66 (by decide) (by omega) (fun c66 => ?_) (fun c66 => ?_)
                · refine w_iinc (pc := 175) hC dX12_stuck_175 (lv2 := [(6, .int (J (a + 1))), (0, .ref (A 0)), (1, .int (J c)), (2, .int (J what)), (3, .int (J (ior ak (aaN (I 1) c (F 11) a 7)))), (4, .int (J sk2)), (5, .int (J hg2)), (7, .int (J (aaN (I 1) c (F 11) a 7))), (8, .int (J b))]) 6 rfl (by rw [hnL]; decide) rfl ?_
                  refine w_goto (pc := 178) hC dX12_stuck_178 (tgt := 30) (by decide) ?_
                  refine w_sub [1, 2, 3, 4, 5, 6, 0] (lv2 := [(0, .ref (A 0)), (1, .int (J c)), (2, .int (J what)), (3, .int (J (ior ak (aaN (I 1) c (F 11) a 7)))), (4, .int (J sk2)), (5, .int (J hg2)), (6, .int (J (a + 1)))]) rfl ?_
                  refine ih30 (ior ak (aaN (I 1) c (F 11) a 7)) sk2 hg2 (a + 1) b3_45 b4_45 ?_ ?_ ?_ ?_ ?_
                  · first | assumption | omega
                  · refine ⟨⟨ior_nn _ _, ior_lt 6 i2.1.1 hownr.1 i2.1.2 hownr.2⟩, fun y gy => ?_⟩
                    rw [bt_or i2.1.1 hownr.1, i2.2 y gy, hown y gy]
                    constructor
                    · rintro (⟨x, hx, g⟩ | g)
                      · exact ⟨x, by omega, g⟩
                      · exact ⟨a, by omega, g⟩
                    · rintro ⟨x, hx, g⟩
                      by_cases e : x = a
                      · exact Or.inr (e ▸ g)
                      · exact Or.inl ⟨x, by omega, g⟩
                  · refine ⟨j2.1, fun x gx => (j2.2 x gx).trans ?_⟩
                    constructor
                    · rintro (⟨hx, g⟩ | ⟨e, y, hy, g⟩)
                      · exact ⟨by omega, g⟩
                      · rw [e]; exact ⟨by omega, y, by omega, g⟩
                    · rintro ⟨hx, y, hy, g⟩
                      by_cases e : x = a
                      · exact Or.inr ⟨e, y, by omega, e ▸ g⟩
                      · exact Or.inl ⟨by omega, y, hy, g⟩
                  · refine ⟨j3.1, fun y gy => (j3.2 y gy).trans ?_⟩
                    constructor
                    · rintro (⟨x, hx, g⟩ | ⟨hy, g⟩)
                      · exact ⟨x, by omega, g⟩
                      · exact ⟨a, by omega, by omega, g⟩
                    · rintro ⟨x, hx, hy, g⟩
                      by_cases e : x = a
                      · exact Or.inr ⟨by omega, e ▸ g⟩
                      · exact Or.inl ⟨x, by omega, hy, g⟩
                  · omega
                · have hp2a := p2_6 (x := a) i1.1 (by omega)
                  have hp2b := p2_6 (x := b) j1.1 (by omega)
                  refine w_iload (pc := 69) hC dX12_stuck_69 6 rfl ?_
                  refine w_iload (pc := 71) hC dX12_stuck_71 8 rfl ?_
                  refine w_icmp_eq (pc := 73) (tgt := 120) hC dX12_stuck_73 (by decide) (by omega) (fun c73 => ?_) (fun c73 => ?_)
                  · refine w_iconst (pc := 120) hC dX12_stuck_120 ?_
                    have hnblw : ¬ BLW (I 1) a b := fun h => by first | exact h.1 c73 | exact absurd h.2.1 (Int.not_lt.mpr c102) | exact c113 h.2.2
                    refine w_istore (pc := 121) hC dX12_stuck_121 (lv2 := [(9, .int (J 0)), (0, .ref (A 0)), (1, .int (J c)), (2, .int (J what)), (3, .int (J (ior ak (aaN (I 1) c (F 11) a 7)))), (4, .int (J sk2)), (5, .int (J hg2)), (6, .int (J a)), (7, .int (J (aaN (I 1) c (F 11) a 7))), (8, .int (J b))]) (by rw [hnL]; decide) rfl ?_
                    refine w_iload (pc := 123) hC dX12_stuck_123 5 rfl ?_
                    refine w_iload (pc := 125) hC dX12_stuck_125 0 rfl ?_
                    refine w_if_eq (pc := 127) (tgt := 147) hC dX12_stuck_127 (by decide) (by omega) (fun c127 => ?_) (fun c127 => ?_)
                    · refine w_iconst (pc := 147) hC dX12_stuck_147 ?_
                      refine w_ior (pc := 148) hC dX12_stuck_148 (v := ior sk2 0) (J_or (by omega)) ?_
                      refine w_istore (pc := 149) hC dX12_stuck_149 (lv2 := [(4, .int (J (ior sk2 0))), (9, .int (J 0)), (0, .ref (A 0)), (1, .int (J c)), (2, .int (J what)), (3, .int (J (ior ak (aaN (I 1) c (F 11) a 7)))), (5, .int (J hg2)), (6, .int (J a)), (7, .int (J (aaN (I 1) c (F 11) a 7))), (8, .int (J b))]) (by rw [hnL]; decide) rfl ?_
                      refine w_iload (pc := 151) hC dX12_stuck_151 6 rfl ?_
                      refine w_iload (pc := 153) hC dX12_stuck_153 1 rfl ?_
                      refine w_if_eq (pc := 155) (tgt := 165) hC dX12_stuck_155 (by decide) (by omega) (fun c155 => ?_) (fun c155 => ?_)
                      · refine w_iconst (pc := 165) hC dX12_stuck_165 ?_
                        refine w_ior (pc := 166) hC dX12_stuck_166 (v := ior hg2 0) (J_or (by omega)) ?_
                        refine w_istore (pc := 167) hC dX12_stuck_167 (lv2 := [(5, .int (J (ior hg2 0))), (4, .int (J (ior sk2 0))), (9, .int (J 0)), (0, .ref (A 0)), (1, .int (J c)), (2, .int (J what)), (3, .int (J (ior ak (aaN (I 1) c (F 11) a 7)))), (6, .int (J a)), (7, .int (J (aaN (I 1) c (F 11) a 7))), (8, .int (J b))]) (by rw [hnL]; decide) rfl ?_
                        refine w_iinc (pc := 169) hC dX12_stuck_169 (lv2 := [(8, .int (J (b + 1))), (5, .int (J (ior hg2 0))), (4, .int (J (ior sk2 0))), (9, .int (J 0)), (0, .ref (A 0)), (1, .int (J c)), (2, .int (J what)), (3, .int (J (ior ak (aaN (I 1) c (F 11) a 7)))), (6, .int (J a)), (7, .int (J (aaN (I 1) c (F 11) a 7)))]) 9 rfl (by rw [hnL]; decide) rfl ?_
                        refine w_goto (pc := 172) hC dX12_stuck_172 (tgt := 58) (by decide) ?_
                        refine w_sub [4, 5, 6, 7, 2, 1, 8, 9, 0] (lv2 := [(0, .ref (A 0)), (1, .int (J c)), (2, .int (J what)), (3, .int (J (ior ak (aaN (I 1) c (F 11) a 7)))), (4, .int (J (ior sk2 0))), (5, .int (J (ior hg2 0))), (6, .int (J a)), (7, .int (J (aaN (I 1) c (F 11) a 7))), (8, .int (J (b + 1)))]) rfl ?_
                        refine ih58 (ior sk2 0) (ior hg2 0) (b + 1) ?_ ?_ ?_ ?_
                        · first | assumption | omega
                        · refine ⟨by rw [ior_0 j2.1.1]; exact j2.1, fun x gx => or_step0 (O := (fun x => (0 ≤ x ∧ x < a) ∧ ∃ y : Int, (0 ≤ y ∧ y < I 1 0) ∧ BLW (I 1) x y ∧ ¬ ASKS7 (I 1) c x y)) (Q := (fun y => BLW (I 1) a y ∧ ¬ ASKS7 (I 1) c a y)) j2.1.1 j1.1 (fun h => hnblw h.1) (j2.2 x gx)⟩
                        · refine ⟨by rw [ior_0 j3.1.1]; exact j3.1, fun x gx => oh_step0 (O := (fun y => ∃ x : Int, (0 ≤ x ∧ x < a) ∧ (0 ≤ y ∧ y < I 1 0) ∧ BLW (I 1) x y)) (Q := fun y => BLW (I 1) a y) j3.1.1 hnblw (j3.2 x gx)⟩
                        · omega
                      · exact absurd c155 (by decide)
                    · exact absurd c127 (by decide)
                  · refine w_aload_n (pc := 76) hC dX12_stuck_76 0 rfl rfl ?_
                    refine w_aload_n (pc := 77) hC dX12_stuck_77 0 rfl rfl ?_
                    refine w_getf (pc := 78) (v := .ref (A 1)) hC dX12_stuck_78 fi_X12_9 0 rfl rfl ?_
                    refine w_bipush (pc := 81) hC dX12_stuck_81 (z := 6) rfl ?_
                    refine w_iald (pc := 83) (g := (I 1)) hC dX12_stuck_83 1 rfl (by omega) (Nat.le_of_ble_eq_true rfl) ?_
                    refine w_iload (pc := 84) hC dX12_stuck_84 6 rfl ?_
                    refine w_callV (pc := 86) (As := [.int (J ((I 1) 6)), .int (J a)]) (rest := []) hC dX12_stuck_86 cv_X12_68 (c_X12_rungOf (kl K) G A (au (au I 3 b3_45) 4 b4_45) F ((I 1) 0) ((I 1) 6) a (show VB ((I 1) 0) ((I 1) 6) from by first | assumption | omega) (show 0 ≤ a ∧ a < ((I 1) 0) from by first | assumption | omega)) (by decide) ⟨Nat.le_of_ble_eq_true rfl, Nat.le_of_ble_eq_true rfl⟩ (q0 := 0) rfl rfl rfl rfl (Nat.le_of_ble_eq_true rfl) rfl (fun vo wo hv => ?_)
                    obtain ⟨hv1, hw1⟩ := hv
                    rw [hv1, hw1]
                    show WW K G 0 0 (MW A G.2.1 (au (au I 3 b3_45) 4 b4_45) F) 89 [(0, .ref (A 0)), (1, .int (J c)), (2, .int (J what)), (3, .int (J (ior ak (aaN (I 1) c (F 11) a 7)))), (4, .int (J sk2)), (5, .int (J hg2)), (6, .int (J a)), (7, .int (J (aaN (I 1) c (F 11) a 7))), (8, .int (J b))] [.int (J (rk ((I 1) 0) ((I 1) 6) a))]
                    have q86_0 := (@rk_spec ((I 1) 0) ((I 1) 6) a (by assumption) (by omega) (by omega)).1
                    refine w_aload_n (pc := 89) hC dX12_stuck_89 0 rfl rfl ?_
                    refine w_aload_n (pc := 90) hC dX12_stuck_90 0 rfl rfl ?_
                    refine w_getf (pc := 91) (v := .ref (A 1)) hC dX12_stuck_91 fi_X12_9 0 rfl rfl ?_
                    refine w_bipush (pc := 94) hC dX12_stuck_94 (z := 6) rfl ?_
                    refine w_iald (pc := 96) (g := (I 1)) hC dX12_stuck_96 1 rfl (by omega) (Nat.le_of_ble_eq_true rfl) ?_
                    refine w_iload (pc := 97) hC dX12_stuck_97 8 rfl ?_
                    refine w_callV (pc := 99) (As := [.int (J ((I 1) 6)), .int (J b)]) (rest := [.int (J (rk ((I 1) 0) ((I 1) 6) a))]) hC dX12_stuck_99 cv_X12_68 (c_X12_rungOf (kl K) G A (au (au I 3 b3_45) 4 b4_45) F ((I 1) 0) ((I 1) 6) b (show VB ((I 1) 0) ((I 1) 6) from by first | assumption | omega) (show 0 ≤ b ∧ b < ((I 1) 0) from by first | assumption | omega)) (by decide) ⟨Nat.le_of_ble_eq_true rfl, Nat.le_of_ble_eq_true rfl⟩ (q0 := 0) rfl rfl rfl rfl (Nat.le_of_ble_eq_true rfl) rfl (fun vo wo hv => ?_)
                    obtain ⟨hv1, hw1⟩ := hv
                    rw [hv1, hw1]
                    show WW K G 0 0 (MW A G.2.1 (au (au I 3 b3_45) 4 b4_45) F) 102 [(0, .ref (A 0)), (1, .int (J c)), (2, .int (J what)), (3, .int (J (ior ak (aaN (I 1) c (F 11) a 7)))), (4, .int (J sk2)), (5, .int (J hg2)), (6, .int (J a)), (7, .int (J (aaN (I 1) c (F 11) a 7))), (8, .int (J b))] [.int (J (rk ((I 1) 0) ((I 1) 6) b)), .int (J (rk ((I 1) 0) ((I 1) 6) a))]
                    have q99_0 := (@rk_spec ((I 1) 0) ((I 1) 6) b (by assumption) (by omega) (by omega)).1
                    refine w_icmp_le (pc := 102) (tgt := 120) hC dX12_stuck_102 (by decide) (by omega) (fun c102 => ?_) (fun c102 => ?_)
                    · refine w_iconst (pc := 120) hC dX12_stuck_120 ?_
                      have hnblw : ¬ BLW (I 1) a b := fun h => by first | exact h.1 c73 | exact absurd h.2.1 (Int.not_lt.mpr c102) | exact c113 h.2.2
                      refine w_istore (pc := 121) hC dX12_stuck_121 (lv2 := [(9, .int (J 0)), (0, .ref (A 0)), (1, .int (J c)), (2, .int (J what)), (3, .int (J (ior ak (aaN (I 1) c (F 11) a 7)))), (4, .int (J sk2)), (5, .int (J hg2)), (6, .int (J a)), (7, .int (J (aaN (I 1) c (F 11) a 7))), (8, .int (J b))]) (by rw [hnL]; decide) rfl ?_
                      refine w_iload (pc := 123) hC dX12_stuck_123 5 rfl ?_
                      refine w_iload (pc := 125) hC dX12_stuck_125 0 rfl ?_
                      refine w_if_eq (pc := 127) (tgt := 147) hC dX12_stuck_127 (by decide) (by omega) (fun c127 => ?_) (fun c127 => ?_)
                      · refine w_iconst (pc := 147) hC dX12_stuck_147 ?_
                        refine w_ior (pc := 148) hC dX12_stuck_148 (v := ior sk2 0) (J_or (by omega)) ?_
                        refine w_istore (pc := 149) hC dX12_stuck_149 (lv2 := [(4, .int (J (ior sk2 0))), (9, .int (J 0)), (0, .ref (A 0)), (1, .int (J c)), (2, .int (J what)), (3, .int (J (ior ak (aaN (I 1) c (F 11) a 7)))), (5, .int (J hg2)), (6, .int (J a)), (7, .int (J (aaN (I 1) c (F 11) a 7))), (8, .int (J b))]) (by rw [hnL]; decide) rfl ?_
                        refine w_iload (pc := 151) hC dX12_stuck_151 6 rfl ?_
                        refine w_iload (pc := 153) hC dX12_stuck_153 1 rfl ?_
                        refine w_if_eq (pc := 155) (tgt := 165) hC dX12_stuck_155 (by decide) (by omega) (fun c155 => ?_) (fun c155 => ?_)
                        · refine w_iconst (pc := 165) hC dX12_stuck_165 ?_
                          refine w_ior (pc := 166) hC dX12_stuck_166 (v := ior hg2 0) (J_or (by omega)) ?_
                          refine w_istore (pc := 167) hC dX12_stuck_167 (lv2 := [(5, .int (J (ior hg2 0))), (4, .int (J (ior sk2 0))), (9, .int (J 0)), (0, .ref (A 0)), (1, .int (J c)), (2, .int (J what)), (3, .int (J (ior ak (aaN (I 1) c (F 11) a 7)))), (6, .int (J a)), (7, .int (J (aaN (I 1) c (F 11) a 7))), (8, .int (J b))]) (by rw [hnL]; decide) rfl ?_
                          refine w_iinc (pc := 169) hC dX12_stuck_169 (lv2 := [(8, .int (J (b + 1))), (5, .int (J (ior hg2 0))), (4, .int (J (ior sk2 0))), (9, .int (J 0)), (0, .ref (A 0)), (1, .int (J c)), (2, .int (J what)), (3, .int (J (ior ak (aaN (I 1) c (F 11) a 7)))), (6, .int (J a)), (7, .int (J (aaN (I 1) c (F 11) a 7)))]) 9 rfl (by rw [hnL]; decide) rfl ?_
                          refine w_goto (pc := 172) hC dX12_stuck_172 (tgt := 58) (by decide) ?_
                          refine w_sub [4, 5, 6, 7, 2, 1, 8, 9, 0] (lv2 := [(0, .ref (A 0)), (1, .int (J c)), (2, .int (J what)), (3, .int (J (ior ak (aaN (I 1) c (F 11) a 7)))), (4, .int (J (ior sk2 0))), (5, .int (J (ior hg2 0))), (6, .int (J a)), (7, .int (J (aaN (I 1) c (F 11) a 7))), (8, .int (J (b + 1)))]) rfl ?_
                          refine ih58 (ior sk2 0) (ior hg2 0) (b + 1) ?_ ?_ ?_ ?_
                          · first | assumption | omega
                          · refine ⟨by rw [ior_0 j2.1.1]; exact j2.1, fun x gx => or_step0 (O := (fun x => (0 ≤ x ∧ x < a) ∧ ∃ y : Int, (0 ≤ y ∧ y < I 1 0) ∧ BLW (I 1) x y ∧ ¬ ASKS7 (I 1) c x y)) (Q := (fun y => BLW (I 1) a y ∧ ¬ ASKS7 (I 1) c a y)) j2.1.1 j1.1 (fun h => hnblw h.1) (j2.2 x gx)⟩
                          · refine ⟨by rw [ior_0 j3.1.1]; exact j3.1, fun x gx => oh_step0 (O := (fun y => ∃ x : Int, (0 ≤ x ∧ x < a) ∧ (0 ≤ y ∧ y < I 1 0) ∧ BLW (I 1) x y)) (Q := fun y => BLW (I 1) a y) j3.1.1 hnblw (j3.2 x gx)⟩
                          · omega
                        · exact absurd c155 (by decide)
                      · exact absurd c127 (by decide)
                    · refine w_aload_n (pc := 105) hC dX12_stuck_105 0 rfl rfl ?_
                      refine w_iload (pc := 106) hC dX12_stuck_106 6 rfl ?_
                      refine w_iload (pc := 108) hC dX12_stuck_108 8 rfl ?_
                      refine w_callV (pc := 110) (As := [.int (J a), .int (J b)]) (rest := []) hC dX12_stuck_110 cv_X12_56 (c_X12_isStronger (kl K) G A (au (au I 3 b3_45) 4 b4_45) F a b (show RI (I 1) from by first | assumption | omega) (show 0 ≤ a ∧ a < 6 from by first | assumption | omega) (show 0 ≤ b ∧ b < 6 from by first | assumption | omega)) (by decide) ⟨Nat.le_of_ble_eq_true rfl, Nat.le_of_ble_eq_true rfl⟩ (q0 := 0) rfl rfl rfl rfl (Nat.le_of_ble_eq_true rfl) rfl (fun vo wo hv => ?_)
                      obtain ⟨hv1, hw1⟩ := hv
                      rw [hv1, hw1]
                      show WW K G 0 0 (MW A G.2.1 (au (au I 3 b3_45) 4 b4_45) F) 113 [(0, .ref (A 0)), (1, .int (J c)), (2, .int (J what)), (3, .int (J (ior ak (aaN (I 1) c (F 11) a 7)))), (4, .int (J sk2)), (5, .int (J hg2)), (6, .int (J a)), (7, .int (J (aaN (I 1) c (F 11) a 7))), (8, .int (J b))] [.int (J (bI (50 < (I 1) (130 + 6 * a + b))))]
                      refine w_if_eq_b (pc := 113) (tgt := 120) hC dX12_stuck_113 (by decide) (fun c113 => ?_) (fun c113 => ?_)
                      · refine w_iconst (pc := 120) hC dX12_stuck_120 ?_
                        have hnblw : ¬ BLW (I 1) a b := fun h => by first | exact h.1 c73 | exact absurd h.2.1 (Int.not_lt.mpr c102) | exact c113 h.2.2
                        refine w_istore (pc := 121) hC dX12_stuck_121 (lv2 := [(9, .int (J 0)), (0, .ref (A 0)), (1, .int (J c)), (2, .int (J what)), (3, .int (J (ior ak (aaN (I 1) c (F 11) a 7)))), (4, .int (J sk2)), (5, .int (J hg2)), (6, .int (J a)), (7, .int (J (aaN (I 1) c (F 11) a 7))), (8, .int (J b))]) (by rw [hnL]; decide) rfl ?_
                        refine w_iload (pc := 123) hC dX12_stuck_123 5 rfl ?_
                        refine w_iload (pc := 125) hC dX12_stuck_125 0 rfl ?_
                        refine w_if_eq (pc := 127) (tgt := 147) hC dX12_stuck_127 (by decide) (by omega) (fun c127 => ?_) (fun c127 => ?_)
                        · refine w_iconst (pc := 147) hC dX12_stuck_147 ?_
                          refine w_ior (pc := 148) hC dX12_stuck_148 (v := ior sk2 0) (J_or (by omega)) ?_
                          refine w_istore (pc := 149) hC dX12_stuck_149 (lv2 := [(4, .int (J (ior sk2 0))), (9, .int (J 0)), (0, .ref (A 0)), (1, .int (J c)), (2, .int (J what)), (3, .int (J (ior ak (aaN (I 1) c (F 11) a 7)))), (5, .int (J hg2)), (6, .int (J a)), (7, .int (J (aaN (I 1) c (F 11) a 7))), (8, .int (J b))]) (by rw [hnL]; decide) rfl ?_
                          refine w_iload (pc := 151) hC dX12_stuck_151 6 rfl ?_
                          refine w_iload (pc := 153) hC dX12_stuck_153 1 rfl ?_
                          refine w_if_eq (pc := 155) (tgt := 165) hC dX12_stuck_155 (by decide) (by omega) (fun c155 => ?_) (fun c155 => ?_)
                          · refine w_iconst (pc := 165) hC dX12_stuck_165 ?_
                            refine w_ior (pc := 166) hC dX12_stuck_166 (v := ior hg2 0) (J_or (by omega)) ?_
                            refine w_istore (pc := 167) hC dX12_stuck_167 (lv2 := [(5, .int (J (ior hg2 0))), (4, .int (J (ior sk2 0))), (9, .int (J 0)), (0, .ref (A 0)), (1, .int (J c)), (2, .int (J what)), (3, .int (J (ior ak (aaN (I 1) c (F 11) a 7)))), (6, .int (J a)), (7, .int (J (aaN (I 1) c (F 11) a 7))), (8, .int (J b))]) (by rw [hnL]; decide) rfl ?_
                            refine w_iinc (pc := 169) hC dX12_stuck_169 (lv2 := [(8, .int (J (b + 1))), (5, .int (J (ior hg2 0))), (4, .int (J (ior sk2 0))), (9, .int (J 0)), (0, .ref (A 0)), (1, .int (J c)), (2, .int (J what)), (3, .int (J (ior ak (aaN (I 1) c (F 11) a 7)))), (6, .int (J a)), (7, .int (J (aaN (I 1) c (F 11) a 7)))]) 9 rfl (by rw [hnL]; decide) rfl ?_
                            refine w_goto (pc := 172) hC dX12_stuck_172 (tgt := 58) (by decide) ?_
                            refine w_sub [4, 5, 6, 7, 2, 1, 8, 9, 0] (lv2 := [(0, .ref (A 0)), (1, .int (J c)), (2, .int (J what)), (3, .int (J (ior ak (aaN (I 1) c (F 11) a 7)))), (4, .int (J (ior sk2 0))), (5, .int (J (ior hg2 0))), (6, .int (J a)), (7, .int (J (aaN (I 1) c (F 11) a 7))), (8, .int (J (b + 1)))]) rfl ?_
                            refine ih58 (ior sk2 0) (ior hg2 0) (b + 1) ?_ ?_ ?_ ?_
                            · first | assumption | omega
                            · refine ⟨by rw [ior_0 j2.1.1]; exact j2.1, fun x gx => or_step0 (O := (fun x => (0 ≤ x ∧ x < a) ∧ ∃ y : Int, (0 ≤ y ∧ y < I 1 0) ∧ BLW (I 1) x y ∧ ¬ ASKS7 (I 1) c x y)) (Q := (fun y => BLW (I 1) a y ∧ ¬ ASKS7 (I 1) c a y)) j2.1.1 j1.1 (fun h => hnblw h.1) (j2.2 x gx)⟩
                            · refine ⟨by rw [ior_0 j3.1.1]; exact j3.1, fun x gx => oh_step0 (O := (fun y => ∃ x : Int, (0 ≤ x ∧ x < a) ∧ (0 ≤ y ∧ y < I 1 0) ∧ BLW (I 1) x y)) (Q := fun y => BLW (I 1) a y) j3.1.1 hnblw (j3.2 x gx)⟩
                            · omega
                          · exact absurd c155 (by decide)
                        · exact absurd c127 (by decide)
                      · refine w_iconst (pc := 116) hC dX12_stuck_116 ?_
                        refine w_goto (pc := 117) hC dX12_stuck_117 (tgt := 121) (by decide) ?_
                        have hblw : BLW (I 1) a b := ⟨c73, c102, c113⟩
                        refine w_istore (pc := 121) hC dX12_stuck_121 (lv2 := [(9, .int (J 1)), (0, .ref (A 0)), (1, .int (J c)), (2, .int (J what)), (3, .int (J (ior ak (aaN (I 1) c (F 11) a 7)))), (4, .int (J sk2)), (5, .int (J hg2)), (6, .int (J a)), (7, .int (J (aaN (I 1) c (F 11) a 7))), (8, .int (J b))]) (by rw [hnL]; decide) rfl ?_
                        refine w_iload (pc := 123) hC dX12_stuck_123 5 rfl ?_
                        refine w_iload (pc := 125) hC dX12_stuck_125 0 rfl ?_
                        refine w_if_eq (pc := 127) (tgt := 147) hC dX12_stuck_127 (by decide) (by omega) (fun c127 => ?_) (fun c127 => ?_)
                        · exact absurd c127 (by decide)
                        · refine w_iload (pc := 130) hC dX12_stuck_130 8 rfl ?_
                          refine w_iload (pc := 132) hC dX12_stuck_132 9 rfl ?_
                          refine w_ishr (pc := 134) hC dX12_stuck_134 (by omega) ?_
                          refine w_iconst (pc := 135) hC dX12_stuck_135 ?_
                          refine w_iand (pc := 136) hC dX12_stuck_136 (v := ((aaN (I 1) c (F 11) a 7) / 2 ^ b.toNat) % 2) (J_and1 _) ?_
                          refine w_if_ne (pc := 137) (tgt := 147) hC dX12_stuck_137 (by decide) (by omega) (fun c137 => ?_) (fun c137 => ?_)
                          · have hask : ASKS7 (I 1) c a b := (hown b j1.1).mp (by omega)
                            refine w_iconst (pc := 147) hC dX12_stuck_147 ?_
                            refine w_ior (pc := 148) hC dX12_stuck_148 (v := ior sk2 0) (J_or (by omega)) ?_
                            refine w_istore (pc := 149) hC dX12_stuck_149 (lv2 := [(4, .int (J (ior sk2 0))), (9, .int (J 1)), (0, .ref (A 0)), (1, .int (J c)), (2, .int (J what)), (3, .int (J (ior ak (aaN (I 1) c (F 11) a 7)))), (5, .int (J hg2)), (6, .int (J a)), (7, .int (J (aaN (I 1) c (F 11) a 7))), (8, .int (J b))]) (by rw [hnL]; decide) rfl ?_
                            refine w_iload (pc := 151) hC dX12_stuck_151 6 rfl ?_
                            refine w_iload (pc := 153) hC dX12_stuck_153 1 rfl ?_
                            refine w_if_eq (pc := 155) (tgt := 165) hC dX12_stuck_155 (by decide) (by omega) (fun c155 => ?_) (fun c155 => ?_)
                            · exact absurd c155 (by decide)
                            · refine w_iconst (pc := 158) hC dX12_stuck_158 ?_
                              refine w_iload (pc := 159) hC dX12_stuck_159 9 rfl ?_
                              refine w_ishl (pc := 161) hC dX12_stuck_161 (by omega) ?_
                              refine w_top (e2 := 2 ^ b.toNat) (by exact Int.one_mul _) ?_
                              refine w_goto (pc := 162) hC dX12_stuck_162 (tgt := 166) (by decide) ?_
                              refine w_ior (pc := 166) hC dX12_stuck_166 (v := ior hg2 (2 ^ b.toNat)) (J_or (by omega)) ?_
                              refine w_istore (pc := 167) hC dX12_stuck_167 (lv2 := [(5, .int (J (ior hg2 (2 ^ b.toNat)))), (4, .int (J (ior sk2 0))), (9, .int (J 1)), (0, .ref (A 0)), (1, .int (J c)), (2, .int (J what)), (3, .int (J (ior ak (aaN (I 1) c (F 11) a 7)))), (6, .int (J a)), (7, .int (J (aaN (I 1) c (F 11) a 7))), (8, .int (J b))]) (by rw [hnL]; decide) rfl ?_
                              refine w_iinc (pc := 169) hC dX12_stuck_169 (lv2 := [(8, .int (J (b + 1))), (5, .int (J (ior hg2 (2 ^ b.toNat)))), (4, .int (J (ior sk2 0))), (9, .int (J 1)), (0, .ref (A 0)), (1, .int (J c)), (2, .int (J what)), (3, .int (J (ior ak (aaN (I 1) c (F 11) a 7)))), (6, .int (J a)), (7, .int (J (aaN (I 1) c (F 11) a 7)))]) 9 rfl (by rw [hnL]; decide) rfl ?_
                              refine w_goto (pc := 172) hC dX12_stuck_172 (tgt := 58) (by decide) ?_
                              refine w_sub [4, 5, 6, 7, 2, 1, 8, 9, 0] (lv2 := [(0, .ref (A 0)), (1, .int (J c)), (2, .int (J what)), (3, .int (J (ior ak (aaN (I 1) c (F 11) a 7)))), (4, .int (J (ior sk2 0))), (5, .int (J (ior hg2 (2 ^ b.toNat)))), (6, .int (J a)), (7, .int (J (aaN (I 1) c (F 11) a 7))), (8, .int (J (b + 1)))]) rfl ?_
                              refine ih58 (ior sk2 0) (ior hg2 (2 ^ b.toNat)) (b + 1) ?_ ?_ ?_ ?_
                              · first | assumption | omega
                              · refine ⟨by rw [ior_0 j2.1.1]; exact j2.1, fun x gx => or_step0 (O := (fun x => (0 ≤ x ∧ x < a) ∧ ∃ y : Int, (0 ≤ y ∧ y < I 1 0) ∧ BLW (I 1) x y ∧ ¬ ASKS7 (I 1) c x y)) (Q := (fun y => BLW (I 1) a y ∧ ¬ ASKS7 (I 1) c a y)) j2.1.1 j1.1 (fun h => h.2 hask) (j2.2 x gx)⟩
                              · refine ⟨⟨ior_nn _ _, ior_lt 6 j3.1.1 (by omega) j3.1.2 hp2b.2⟩, fun x gx => oh_step1 (O := (fun y => ∃ x : Int, (0 ≤ x ∧ x < a) ∧ (0 ≤ y ∧ y < I 1 0) ∧ BLW (I 1) x y)) (Q := fun y => BLW (I 1) a y) j3.1.1 gx j1.1 hblw (j3.2 x gx)⟩
                              · omega
                          · have hnask : ¬ ASKS7 (I 1) c a b := fun h => by have := (hown b j1.1).mpr h; omega
                            refine w_iconst (pc := 140) hC dX12_stuck_140 ?_
                            refine w_iload (pc := 141) hC dX12_stuck_141 7 rfl ?_
                            refine w_ishl (pc := 143) hC dX12_stuck_143 (by omega) ?_
                            refine w_top (e2 := 2 ^ a.toNat) (by exact Int.one_mul _) ?_
                            refine w_goto (pc := 144) hC dX12_stuck_144 (tgt := 148) (by decide) ?_
                            refine w_ior (pc := 148) hC dX12_stuck_148 (v := ior sk2 (2 ^ a.toNat)) (J_or (by omega)) ?_
                            refine w_istore (pc := 149) hC dX12_stuck_149 (lv2 := [(4, .int (J (ior sk2 (2 ^ a.toNat)))), (9, .int (J 1)), (0, .ref (A 0)), (1, .int (J c)), (2, .int (J what)), (3, .int (J (ior ak (aaN (I 1) c (F 11) a 7)))), (5, .int (J hg2)), (6, .int (J a)), (7, .int (J (aaN (I 1) c (F 11) a 7))), (8, .int (J b))]) (by rw [hnL]; decide) rfl ?_
                            refine w_iload (pc := 151) hC dX12_stuck_151 6 rfl ?_
                            refine w_iload (pc := 153) hC dX12_stuck_153 1 rfl ?_
                            refine w_if_eq (pc := 155) (tgt := 165) hC dX12_stuck_155 (by decide) (by omega) (fun c155 => ?_) (fun c155 => ?_)
                            · exact absurd c155 (by decide)
                            · refine w_iconst (pc := 158) hC dX12_stuck_158 ?_
                              refine w_iload (pc := 159) hC dX12_stuck_159 9 rfl ?_
                              refine w_ishl (pc := 161) hC dX12_stuck_161 (by omega) ?_
                              refine w_top (e2 := 2 ^ b.toNat) (by exact Int.one_mul _) ?_
                              refine w_goto (pc := 162) hC dX12_stuck_162 (tgt := 166) (by decide) ?_
                              refine w_ior (pc := 166) hC dX12_stuck_166 (v := ior hg2 (2 ^ b.toNat)) (J_or (by omega)) ?_
                              refine w_istore (pc := 167) hC dX12_stuck_167 (lv2 := [(5, .int (J (ior hg2 (2 ^ b.toNat)))), (4, .int (J (ior sk2 (2 ^ a.toNat)))), (9, .int (J 1)), (0, .ref (A 0)), (1, .int (J c)), (2, .int (J what)), (3, .int (J (ior ak (aaN (I 1) c (F 11) a 7)))), (6, .int (J a)), (7, .int (J (aaN (I 1) c (F 11) a 7))), (8, .int (J b))]) (by rw [hnL]; decide) rfl ?_
                              refine w_iinc (pc := 169) hC dX12_stuck_169 (lv2 := [(8, .int (J (b + 1))), (5, .int (J (ior hg2 (2 ^ b.toNat)))), (4, .int (J (ior sk2 (2 ^ a.toNat)))), (9, .int (J 1)), (0, .ref (A 0)), (1, .int (J c)), (2, .int (J what)), (3, .int (J (ior ak (aaN (I 1) c (F 11) a 7)))), (6, .int (J a)), (7, .int (J (aaN (I 1) c (F 11) a 7)))]) 9 rfl (by rw [hnL]; decide) rfl ?_
                              refine w_goto (pc := 172) hC dX12_stuck_172 (tgt := 58) (by decide) ?_
                              refine w_sub [4, 5, 6, 7, 2, 1, 8, 9, 0] (lv2 := [(0, .ref (A 0)), (1, .int (J c)), (2, .int (J what)), (3, .int (J (ior ak (aaN (I 1) c (F 11) a 7)))), (4, .int (J (ior sk2 (2 ^ a.toNat)))), (5, .int (J (ior hg2 (2 ^ b.toNat)))), (6, .int (J a)), (7, .int (J (aaN (I 1) c (F 11) a 7))), (8, .int (J (b + 1)))]) rfl ?_
                              refine ih58 (ior sk2 (2 ^ a.toNat)) (ior hg2 (2 ^ b.toNat)) (b + 1) ?_ ?_ ?_ ?_
                              · first | assumption | omega
                              · refine ⟨⟨ior_nn _ _, ior_lt 6 j2.1.1 (by omega) j2.1.2 hp2a.2⟩, fun x gx => or_step1 (O := (fun x => (0 ≤ x ∧ x < a) ∧ ∃ y : Int, (0 ≤ y ∧ y < I 1 0) ∧ BLW (I 1) x y ∧ ¬ ASKS7 (I 1) c x y)) (Q := (fun y => BLW (I 1) a y ∧ ¬ ASKS7 (I 1) c a y)) j2.1.1 i1.1 gx j1.1 ⟨hblw, hnask⟩ (j2.2 x gx)⟩
                              · refine ⟨⟨ior_nn _ _, ior_lt 6 j3.1.1 (by omega) j3.1.2 hp2b.2⟩, fun x gx => oh_step1 (O := (fun y => ∃ x : Int, (0 ≤ x ∧ x < a) ∧ (0 ≤ y ∧ y < I 1 0) ∧ BLW (I 1) x y)) (Q := fun y => BLW (I 1) a y) j3.1.1 gx j1.1 hblw (j3.2 x gx)⟩
                              · omega
            refine w_sub [3, 4, 5, 1, 6, 7, 8, 2, 0] (lv2 := [(0, .ref (A 0)), (1, .int (J c)), (2, .int (J what)), (3, .int (J (ior ak (aaN (I 1) c (F 11) a 7)))), (4, .int (J sk)), (5, .int (J hg)), (6, .int (J a)), (7, .int (J (aaN (I 1) c (F 11) a 7))), (8, .int (J 0))]) rfl ?_
            refine loop58 (((I 1) 0 - 0) + 1 : Int).toNat sk hg 0 ?_ ?_ ?_ ?_
            · first | assumption | omega
            · refine ⟨i3.1, fun x gx => (i3.2 x gx).trans ⟨Or.inl, ?_⟩⟩
              rintro (g | ⟨_, y, hy, _⟩)
              · exact g
              · omega
            · refine ⟨i4.1, fun y gy => (i4.2 y gy).trans ⟨Or.inl, ?_⟩⟩
              rintro (g | ⟨hy, _⟩)
              · exact g
              · omega
            · omega
      refine w_sub [4, 5, 6, 3, 2, 1, 0] (lv2 := [(0, .ref (A 0)), (1, .int (J c)), (2, .int (J what)), (3, .int (J 0)), (4, .int (J 0)), (5, .int (J 0)), (6, .int (J 0))]) rfl ?_
      refine loop30 (((I 1) 0 - 0) + 1 : Int).toNat 0 0 0 0 (I 3) (I 4) ?_ ?_ ?_ ?_ ?_
      · first | assumption | omega
      · exact ⟨by decide, fun y gy => ⟨fun h => absurd h (bt_0 y), fun ⟨x, hx, _⟩ => by omega⟩⟩
      · exact ⟨by decide, fun y gy => ⟨fun h => absurd h (bt_0 y), fun ⟨hx, _⟩ => by omega⟩⟩
      · exact ⟨by decide, fun y gy => ⟨fun h => absurd h (bt_0 y), fun ⟨x, hx, _⟩ => by omega⟩⟩
      · omega
    · refine w_iconst (pc := 17) hC dX12_stuck_17 ?_
      refine w_iret (pc := 18) hC hRT dX12_stuck_18 rfl ?_
      refine ⟨(-1), (I 3), (I 4), rfl, rfl, ?_⟩
      · unfold VSTK; rw [if_pos (by omega)]
