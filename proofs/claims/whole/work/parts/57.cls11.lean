
/-- bits that are set where a rung and a higher one say so -/
def PBI (b : Int) (C : Int → Int → Prop) (N : Int → Int → Int) (z lo hi : Int) : Prop := (0 ≤ z ∧ z < 64) ∧ ∀ x : Int, 0 ≤ x → (z / 2 ^ x.toNat % 2 = 1 ↔ ∃ p q : Int, (0 ≤ q ∧ q < p) ∧ (p < lo ∨ (p = lo ∧ q < hi)) ∧ C p q ∧ N p q = x)
theorem PB_0 (b : Int) (C : Int → Int → Prop) (N : Int → Int → Int) : PBI b C N 0 1 0 := ⟨by decide, fun x hx => ⟨fun h => absurd h (bt_0 x), fun ⟨p, q, h1, h2, _⟩ => by omega⟩⟩
theorem PB_next {b : Int} {C : Int → Int → Prop} {N : Int → Int → Int} {z lo hi : Int} (h : PBI b C N z lo hi) (hh : lo ≤ hi) : PBI b C N z (lo + 1) 0 := ⟨h.1, fun x hx => by
  rw [h.2 x hx]
  constructor
  · rintro ⟨p, q, h1, h2, h3⟩
    exact ⟨p, q, h1, Or.inl (by omega), h3⟩
  · rintro ⟨p, q, h1, h2, h3⟩
    exact ⟨p, q, h1, by omega, h3⟩⟩
theorem PB_yes {b : Int} {C : Int → Int → Prop} {N : Int → Int → Int} {z lo hi : Int} (h : PBI b C N z lo hi) (h0 : 0 ≤ hi) (hh : hi < lo) (hc : C lo hi) (hN : 0 ≤ N lo hi ∧ N lo hi < 6) : PBI b C N (ior z (1 * 2 ^ (N lo hi).toNat)) lo (hi + 1) := by
  have hp := p2_6 hN.1 hN.2
  rw [Int.one_mul]
  refine ⟨⟨ior_nn _ _, ior_lt 6 h.1.1 (by omega) (by have := h.1.2; simpa using this) (by have := hp.2; simpa using this)⟩, fun x hx => ?_⟩
  rw [bt_or h.1.1 (by omega), h.2 x hx, bt_pow hx hN.1]
  constructor
  · rintro (⟨p, q, h1, h2, h3⟩ | e)
    · exact ⟨p, q, h1, by omega, h3⟩
    · exact ⟨lo, hi, ⟨h0, hh⟩, Or.inr ⟨rfl, by omega⟩, hc, e⟩
  · rintro ⟨p, q, h1, h2, h3, h4⟩
    by_cases c : p = lo ∧ q = hi
    · rw [c.1, c.2] at h4
      exact Or.inr h4
    · exact Or.inl ⟨p, q, h1, by omega, h3, h4⟩
theorem PB_no {b : Int} {C : Int → Int → Prop} {N : Int → Int → Int} {z lo hi : Int} (h : PBI b C N z lo hi) (hc : ¬ C lo hi) : PBI b C N z lo (hi + 1) := ⟨h.1, fun x hx => by
  rw [h.2 x hx]
  constructor
  · rintro ⟨p, q, h1, h2, h3⟩
    exact ⟨p, q, h1, by omega, h3⟩
  · rintro ⟨p, q, h1, h2, h3, h4⟩
    by_cases c : p = lo ∧ q = hi
    · rw [c.1, c.2] at h3
      exact absurd h3 hc
    · exact ⟨p, q, h1, by omega, h3, h4⟩⟩
abbrev SC (S : Int → Int) (c p q : Int) : Prop := 50 < S (130 + 6 * dg (S 6) p + dg (S 6) q) ∧ ¬ aaN S c (-1) (dg (S 6) p) (7 : Int).toNat / 2 ^ (dg (S 6) q).toNat % 2 = 1
abbrev HC (S : Int → Int) (asx p q : Int) : Prop := 50 < S (130 + 6 * dg (S 6) p + dg (S 6) q) ∧ ¬ asx / 2 ^ (dg (S 6) q).toNat % 2 = 1
theorem as7 {S : Int → Int} {c x y : Int} (hR : RI S) (hx : 0 ≤ x ∧ x < S 0) (hy : 0 ≤ y) : aaN S c (-1) x (7 : Int).toNat / 2 ^ y.toNat % 2 = 1 ↔ ASKS7 S c x y := by
  rw [(aaN_bt hR hx hy _).2]
  exact ⟨fun ⟨d, h⟩ => ⟨d, by omega⟩, fun ⟨d, h⟩ => ⟨d, by omega⟩⟩
theorem stk_0 {S : Int → Int} {c z lo hi : Int} (hR : RI S) (hl : lo = S 0 ∨ (lo = 1 ∧ S 0 = 0)) (hz : hi = 0) (h : PBI (S 6) (SC S c) (fun p _ => dg (S 6) p) z lo hi) : ∀ x : Int, 0 ≤ x → (z / 2 ^ x.toNat % 2 = 1 ↔ (0 ≤ x ∧ x < S 0) ∧ ∃ y : Int, (0 ≤ y ∧ y < S 0) ∧ BLW S x y ∧ ¬ ASKS7 S c x y) := by
  intro x hx
  rw [h.2 x hx]
  constructor
  · rintro ⟨p, q, h1, h2, ⟨h3, h4⟩, h5⟩
    have gp := VB_dg hR.bd (r := p) (by omega) (by omega)
    have gq := VB_dg hR.bd (r := q) (by omega) (by omega)
    have kp := rk_dg hR.bd (r := p) (by omega) (by omega)
    have kq := rk_dg hR.bd (r := q) (by omega) (by omega)
    have h5 : dg (S 6) p = x := h5
    subst h5
    refine ⟨gp, dg (S 6) q, gq, ⟨fun e => ?_, by rw [kp, kq]; exact h1.2, h3⟩, fun h9 => h4 ((as7 hR gp gq.1).mpr h9)⟩
    have := VB_inj hR.bd (r := p) (q := q) (by omega) (by omega) (by omega) (by omega) e
    omega
  · rintro ⟨hx2, y, hy, ⟨h1, h2, h3⟩, h4⟩
    have kx := rk_spec hR.bd hx2.1 hx2.2
    have ky := rk_spec hR.bd hy.1 hy.2
    refine ⟨rk (S 0) (S 6) x, rk (S 0) (S 6) y, ⟨ky.1.1, h2⟩, by omega, ⟨?_, ?_⟩, kx.2⟩
    · rw [kx.2, ky.2]; exact h3
    · rw [kx.2, ky.2]; exact fun h9 => h4 ((as7 hR hx2 hy.1).mp h9)
theorem stk_1 {S : Int → Int} {c asx z lo hi : Int} (hR : RI S) (hl : lo = S 0 ∨ (lo = 1 ∧ S 0 = 0)) (hz : hi = 0) (ha : ∀ y : Int, 0 ≤ y → (asx / 2 ^ y.toNat % 2 = 1 ↔ ∃ x : Int, (0 ≤ x ∧ x < S 0) ∧ ASKS7 S c x y)) (h : PBI (S 6) (HC S asx) (fun _ q => dg (S 6) q) z lo hi) : ∀ y : Int, 0 ≤ y → (z / 2 ^ y.toNat % 2 = 1 ↔ (0 ≤ y ∧ y < S 0) ∧ (∃ x : Int, (0 ≤ x ∧ x < S 0) ∧ BLW S x y) ∧ ¬ ∃ x : Int, (0 ≤ x ∧ x < S 0) ∧ ASKS7 S c x y) := by
  intro y hy0
  rw [h.2 y hy0]
  constructor
  · rintro ⟨p, q, h1, h2, ⟨h3, h4⟩, h5⟩
    have gp := VB_dg hR.bd (r := p) (by omega) (by omega)
    have gq := VB_dg hR.bd (r := q) (by omega) (by omega)
    have kp := rk_dg hR.bd (r := p) (by omega) (by omega)
    have kq := rk_dg hR.bd (r := q) (by omega) (by omega)
    have h5 : dg (S 6) q = y := h5
    subst h5
    refine ⟨gq, ⟨dg (S 6) p, gp, fun e => ?_, by rw [kp, kq]; exact h1.2, h3⟩, fun h9 => h4 ((ha _ gq.1).mpr h9)⟩
    have := VB_inj hR.bd (r := p) (q := q) (by omega) (by omega) (by omega) (by omega) e
    omega
  · rintro ⟨hy, ⟨x, hx, h1, h2, h3⟩, h4⟩
    have kx := rk_spec hR.bd hx.1 hx.2
    have ky := rk_spec hR.bd hy.1 hy.2
    refine ⟨rk (S 0) (S 6) x, rk (S 0) (S 6) y, ⟨ky.1.1, h2⟩, by omega, ⟨?_, ?_⟩, ky.2⟩
    · rw [kx.2, ky.2]; exact h3
    · rw [ky.2]; exact fun h9 => h4 ((ha _ hy.1).mp h9)

theorem aa7_bd {S : Int → Int} {c x : Int} (hR : RI S) (hx : 0 ≤ x ∧ x < S 0) (k : Nat) : 0 ≤ aaN S c (-1) x k ∧ aaN S c (-1) x k < 64 := (aaN_bt hR hx (Int.le_refl 0) k).1

theorem hang_or {S : Int → Int} {c x asx : Int} (hR : RI S) (h0 : 0 ≤ x) (h1 : x < S 0) (h : (0 ≤ asx ∧ asx < 64) ∧ ∀ y : Int, 0 ≤ y → (asx / 2 ^ y.toNat % 2 = 1 ↔ ∃ v : Int, (0 ≤ v ∧ v < x) ∧ ASKS7 S c v y)) : (0 ≤ ior asx (aaN S c (-1) x (7 : Int).toNat) ∧ ior asx (aaN S c (-1) x (7 : Int).toNat) < 64) ∧ ∀ y : Int, 0 ≤ y → (ior asx (aaN S c (-1) x (7 : Int).toNat) / 2 ^ y.toNat % 2 = 1 ↔ ∃ v : Int, (0 ≤ v ∧ v < x + 1) ∧ ASKS7 S c v y) := by
  have hb := aa7_bd (c := c) hR ⟨h0, h1⟩ (7 : Int).toNat
  refine ⟨⟨ior_nn _ _, ior_lt 6 h.1.1 hb.1 (by have := h.1.2; simpa using this) (by have := hb.2; simpa using this)⟩, fun y hy => ?_⟩
  rw [bt_or h.1.1 hb.1, h.2 y hy, as7 hR ⟨h0, h1⟩ hy]
  constructor
  · rintro (⟨v, h2, h3⟩ | h3)
    · exact ⟨v, by omega, h3⟩
    · exact ⟨x, by omega, h3⟩
  · rintro ⟨v, h2, h3⟩
    by_cases e : v = x
    · rw [e] at h3; exact Or.inr h3
    · exact Or.inl ⟨v, by omega, h3⟩

set_option maxRecDepth 100000 in
set_option maxHeartbeats 4000000 in
theorem c_X11_askedInWeek (l : Launch) (G : GT) (A D : Nat → Nat) (T : Nat) (I : Nat → Int → Int) (F : Nat → Int) (Q : Nat → Nat → Option Nat) (P : va_W) (S : Int → Int) (c : Int) (qb : Nat) (nm : Int) (hR : RI S) (hL : LRn G.2.1 S I F Q P) (hc : 0 ≤ c ∧ c < S 1) (hcl : CLB P G.2.1 S c qb) (hnm : 0 ≤ nm ∧ nm < S 0) : CT l yX11_askedInWeek cX11_askedInWeek 7 (some .int) 4 0 0 G [.ref (A 0), .ref qb, .int (J nm)] (CW A D T G.2.1 I F Q P) (fun vo wo => ∃ (b23 : Int → Int), vo = some (.int (J (aaN S c (-1) nm (7 : Int).toNat))) ∧ wo = CW A D T G.2.1 (au I 23 b23) F Q P) := by
  refine CT_of (own := RX11) rfl rfl (Nat.le_of_ble_eq_true rfl) (fun K hl hnL hC hRT hin => ?_)
  subst hl
  show WW K G 0 0 (CW A D T G.2.1 I F Q P) 0 [(0, .ref (A 0)), (1, .ref qb), (2, .int (J nm))] []
  have hn := hR.n
  have hbd := hR.bd
  have hk := rk_spec hR.bd hnm.1 hnm.2
  refine w_aload_n (pc := 0) hC dX11_askedInWeek_0 0 rfl rfl ?_
  refine w_getf (pc := 1) (v := .ref (A 1)) hC dX11_askedInWeek_1 fi_X11_12 0 CW_0 rfl ?_
  refine w_iload_n (pc := 4) hC dX11_askedInWeek_4 2 rfl rfl ?_
  refine w_callV (pc := 5) (As := [.int (J nm)]) (rest := []) hC dX11_askedInWeek_5 cv_X11_82 (c_X6_rungOf (kl K) G A D T I F Q P S nm (show RI S from by first | assumption | omega) (show LRn G.2.1 S I F Q P from by exact hL) (show 0 ≤ nm ∧ nm < S 0 from by first | assumption | omega)) (by decide) ⟨Nat.le_of_ble_eq_true rfl, Nat.le_of_ble_eq_true rfl⟩ (q0 := 1) CW_1 rfl rfl rfl (Nat.le_of_ble_eq_true rfl) rfl (fun vo wo hv => ?_)
  obtain ⟨hv1, hw1⟩ := hv
  rw [hv1, hw1]
  show WW K G 0 0 (CW A D T G.2.1 I F Q P) 8 [(0, .ref (A 0)), (1, .ref qb), (2, .int (J nm))] [.int (J (rk (S 0) (S 6) nm))]
  have q5_0 := (@rk_spec (S 0) (S 6) nm (by first | exact hR.bd | exact (by assumption : RI S).bd) (by omega) (by omega)).1
  refine w_istore_n (pc := 8) hC dX11_askedInWeek_8 rfl (lv2 := [(3, .int (J (rk (S 0) (S 6) nm))), (0, .ref (A 0)), (1, .ref qb), (2, .int (J nm))]) (by rw [hnL]; decide) rfl ?_
  refine w_iconst (pc := 9) hC dX11_askedInWeek_9 ?_
  refine w_istore (pc := 10) hC dX11_askedInWeek_10 (lv2 := [(4, .int (J 0)), (3, .int (J (rk (S 0) (S 6) nm))), (0, .ref (A 0)), (1, .ref qb), (2, .int (J nm))]) (by rw [hnL]; decide) rfl ?_
  refine w_iconst (pc := 12) hC dX11_askedInWeek_12 ?_
  refine w_istore (pc := 13) hC dX11_askedInWeek_13 (lv2 := [(5, .int (J 0)), (4, .int (J 0)), (3, .int (J (rk (S 0) (S 6) nm))), (0, .ref (A 0)), (1, .ref qb), (2, .int (J nm))]) (by rw [hnL]; decide) rfl ?_
  have loop15 : ∀ (nF : Nat) (x : Int) (d : Int) (a23_15 : Int → Int), (0 ≤ d) → (d ≤ 7) → (x = aaN S c (-1) nm d.toNat) → (7 - d) < (nF : Int) → WW K G 0 0 (CW A D T G.2.1 (au I 23 a23_15) F Q P) 15 [(0, .ref (A 0)), (1, .ref qb), (3, .int (J (rk (S 0) (S 6) nm))), (4, .int (J x)), (5, .int (J d))] [] := by
    intro nF
    induction nF with
    | zero => intro x d a23_15 i1 i2 i3 hm15; exact absurd hm15 (by omega)
    | succ nF ih15 =>
      intro x d a23_15 i1 i2 i3 hm15
      have bx := aa7_bd (c := c) hR hnm d.toNat
      rw [← i3] at bx
      refine w_iload (pc := 15) hC dX11_askedInWeek_15 4 rfl ?_
      refine w_bipush (pc := 17) hC dX11_askedInWeek_17 (z := 7) rfl ?_
      refine w_icmp_ge (pc := 19) (tgt := 65) hC dX11_askedInWeek_19 (by decide) (by omega) (fun c19 => ?_) (fun c19 => ?_)
      · refine w_iload (pc := 65) hC dX11_askedInWeek_65 3 rfl ?_
        refine w_iret (pc := 67) hC hRT dX11_askedInWeek_67 rfl ?_
        refine ⟨a23_15, retI (by rw [i3, show d = 7 by omega]), rfl⟩
      · refine w_aload_n (pc := 22) hC dX11_askedInWeek_22 0 rfl rfl ?_
        refine w_getf (pc := 23) (v := .ref (A 1)) hC dX11_askedInWeek_23 fi_X11_12 0 CW_0 rfl ?_
        refine w_aload_n (pc := 26) hC dX11_askedInWeek_26 1 rfl rfl ?_
        refine w_aload_n (pc := 27) hC dX11_askedInWeek_27 0 rfl rfl ?_
        refine w_getf (pc := 28) (v := .ref (A 1)) hC dX11_askedInWeek_28 fi_X11_12 0 CW_0 rfl ?_
        refine w_getfN (pc := 31) (v := .ref (A 2)) hC dX11_askedInWeek_31 fn_X11_61 1 CW_1 rfl ?_
        refine w_iload_n (pc := 34) hC dX11_askedInWeek_34 2 rfl rfl ?_
        refine w_iload (pc := 35) hC dX11_askedInWeek_35 4 rfl ?_
        refine w_iconst (pc := 37) hC dX11_askedInWeek_37 ?_
        refine w_callV (pc := 38) (As := [.ref qb, .ref (A 2), .int (J (rk (S 0) (S 6) nm)), .int (J d), .int (J 0)]) (rest := []) hC dX11_askedInWeek_38 cv_X11_284 (c_X6_whom_v2 (kl K) G A D T (au I 23 a23_15) F Q P S c (S 6) (-1) qb (rk (S 0) (S 6) nm) d 0 (show RI S from by first | assumption | omega) (show LRn G.2.1 S (au I 23 a23_15) F Q P from by exact (LRb_au (by decide) hL)) (show 0 ≤ c ∧ c < S 1 from by first | assumption | omega) (show CLB P G.2.1 S c qb from by first | assumption | omega) (show VB (S 0) (S 6) from by exact hR.bd) (show ∀ r : Int, 0 ≤ r → r < S 0 → (I 2) r = dg (S 6) r from by exact fun r r0 r1 => l_bd hL r0 r1) (show 0 ≤ (rk (S 0) (S 6) nm) ∧ (rk (S 0) (S 6) nm) < S 0 from by first | assumption | omega) (show 0 ≤ d ∧ d ≤ 5000 from by first | assumption | omega) (show (-1) = -1 ∨ (0 ≤ (-1) ∧ (-1) < 6) from by exact Or.inl rfl) (show 0 = if (-1) = -1 then 0 else 2 ^ ((-1) : Int).toNat from by rfl)) (by decide) ⟨Nat.le_of_ble_eq_true rfl, Nat.le_of_ble_eq_true rfl⟩ (q0 := 1) CW_1 rfl rfl rfl (Nat.le_of_ble_eq_true rfl) rfl (fun vo wo hv => ?_)
        obtain ⟨b23_38, hv1, hw1⟩ := hv
        rw [hv1, hw1]
        refine w_weq (CW_cong (au_th rfl au_rp) rfl rfl) ?_
        show WW K G 0 0 (CW A D T G.2.1 (au I 23 b23_38) F Q P) 41 [(0, .ref (A 0)), (1, .ref qb), (3, .int (J (rk (S 0) (S 6) nm))), (4, .int (J x)), (5, .int (J d))] [.int (J (ASK S c (-1) (S 6) (dg (S 6) (rk (S 0) (S 6) nm)) d))]
        have q38_0 := @ASK_in S c (-1) (S 6) (dg (S 6) (rk (S 0) (S 6) nm)) d (by assumption) (by first | exact VB_dg (by assumption) (by omega) (by omega) | omega)
        refine w_istore (pc := 41) hC dX11_askedInWeek_41 (lv2 := [(6, .int (J (ASK S c (-1) (S 6) (dg (S 6) (rk (S 0) (S 6) nm)) d))), (0, .ref (A 0)), (1, .ref qb), (3, .int (J (rk (S 0) (S 6) nm))), (4, .int (J x)), (5, .int (J d))]) (by rw [hnL]; decide) rfl ?_
        refine w_iload (pc := 43) hC dX11_askedInWeek_43 0 rfl ?_
        refine w_bipush (pc := 45) hC dX11_askedInWeek_45 (z := (-5)) rfl ?_
        refine w_icmp_eq (pc := 47) (tgt := 59) hC dX11_askedInWeek_47 (by decide) (by omega) (fun c47 => ?_) (fun c47 => ?_)
        · refine w_iinc (pc := 59) hC dX11_askedInWeek_59 (lv2 := [(5, .int (J (d + 1))), (6, .int (J (ASK S c (-1) (S 6) (dg (S 6) (rk (S 0) (S 6) nm)) d))), (0, .ref (A 0)), (1, .ref qb), (3, .int (J (rk (S 0) (S 6) nm))), (4, .int (J x))]) 5 rfl (by rw [hnL]; decide) rfl ?_
          refine w_goto (pc := 62) hC dX11_askedInWeek_62 (tgt := 15) (by decide) ?_
          refine w_sub [2, 3, 4, 5, 0] (lv2 := [(0, .ref (A 0)), (1, .ref qb), (3, .int (J (rk (S 0) (S 6) nm))), (4, .int (J x)), (5, .int (J (d + 1)))]) rfl ?_
          refine ih15 x (d + 1) b23_38 ?_ ?_ ?_ ?_
          · first | assumption | omega
          · first | assumption | omega
          · rw [aaN_s _ _ _ _ i1, ← i3]; rw [hk.2] at c47; first | rw [if_pos c47, ior_0 (by omega)] | rw [if_neg c47, Int.one_mul, hk.2]
          · omega
        · obtain ⟨hA1, hA2⟩ := q38_0.resolve_left c47
          have hp6 := p2_6 hA1.1 (by omega)
          refine w_iload (pc := 50) hC dX11_askedInWeek_50 4 rfl ?_
          refine w_iconst (pc := 52) hC dX11_askedInWeek_52 ?_
          refine w_iload (pc := 53) hC dX11_askedInWeek_53 0 rfl ?_
          refine w_ishl (pc := 55) hC dX11_askedInWeek_55 (by omega) ?_
          refine w_ior (pc := 56) hC dX11_askedInWeek_56 (v := ior x (1 * 2 ^ (ASK S c (-1) (S 6) (dg (S 6) (rk (S 0) (S 6) nm)) d).toNat)) (J_or (by omega)) ?_
          refine w_istore (pc := 57) hC dX11_askedInWeek_57 (lv2 := [(4, .int (J (ior x (1 * 2 ^ (ASK S c (-1) (S 6) (dg (S 6) (rk (S 0) (S 6) nm)) d).toNat)))), (6, .int (J (ASK S c (-1) (S 6) (dg (S 6) (rk (S 0) (S 6) nm)) d))), (0, .ref (A 0)), (1, .ref qb), (3, .int (J (rk (S 0) (S 6) nm))), (5, .int (J d))]) (by rw [hnL]; decide) rfl ?_
          refine w_iinc (pc := 59) hC dX11_askedInWeek_59 (lv2 := [(5, .int (J (d + 1))), (4, .int (J (ior x (1 * 2 ^ (ASK S c (-1) (S 6) (dg (S 6) (rk (S 0) (S 6) nm)) d).toNat)))), (6, .int (J (ASK S c (-1) (S 6) (dg (S 6) (rk (S 0) (S 6) nm)) d))), (0, .ref (A 0)), (1, .ref qb), (3, .int (J (rk (S 0) (S 6) nm)))]) 5 rfl (by rw [hnL]; decide) rfl ?_
          refine w_goto (pc := 62) hC dX11_askedInWeek_62 (tgt := 15) (by decide) ?_
          refine w_sub [3, 4, 5, 1, 0] (lv2 := [(0, .ref (A 0)), (1, .ref qb), (3, .int (J (rk (S 0) (S 6) nm))), (4, .int (J (ior x (1 * 2 ^ (ASK S c (-1) (S 6) (dg (S 6) (rk (S 0) (S 6) nm)) d).toNat)))), (5, .int (J (d + 1)))]) rfl ?_
          refine ih15 (ior x (1 * 2 ^ (ASK S c (-1) (S 6) (dg (S 6) (rk (S 0) (S 6) nm)) d).toNat)) (d + 1) b23_38 ?_ ?_ ?_ ?_
          · first | assumption | omega
          · first | assumption | omega
          · rw [aaN_s _ _ _ _ i1, ← i3]; rw [hk.2] at c47; first | rw [if_pos c47, ior_0 (by omega)] | rw [if_neg c47, Int.one_mul, hk.2]
          · omega
  refine w_weq (CW_cong (au_ms (k := 23) (v := I 23) rfl rfl rfl) rfl rfl) ?_
  refine w_sub [3, 4, 2, 1, 0] (lv2 := [(0, .ref (A 0)), (1, .ref qb), (3, .int (J (rk (S 0) (S 6) nm))), (4, .int (J 0)), (5, .int (J 0))]) rfl ?_
  refine loop15 ((7 - 0) + 1 : Int).toNat 0 0 (I 23) ?_ ?_ ?_ ?_
  · first | assumption | omega
  · first | assumption | omega
  · rfl
  · omega
set_option maxRecDepth 100000 in
set_option maxHeartbeats 4000000 in
theorem c_X11_stuckBits (l : Launch) (G : GT) (A D : Nat → Nat) (T : Nat) (I : Nat → Int → Int) (F : Nat → Int) (Q : Nat → Nat → Option Nat) (P : va_W) (S : Int → Int) (c : Int) (qb : Nat) (hR : RI S) (hL : LRn G.2.1 S I F Q P) (hc : 0 ≤ c ∧ c < S 1) (hcl : CLB P G.2.1 S c qb) : CT l yX11_stuckBits cX11_stuckBits 8 (some .int) 5 0 0 G [.ref (A 0), .ref qb] (CW A D T G.2.1 I F Q P) (fun vo wo => ∃ (z : Int) (b23 : Int → Int), vo = some (.int (J z)) ∧ wo = CW A D T G.2.1 (au I 23 b23) F Q P ∧ (PBI (S 6) (SC S c) (fun p _ => dg (S 6) p) z (if 1 ≤ S 0 then S 0 else 1) 0)) := by
  refine CT_of (own := RX11) rfl rfl (Nat.le_of_ble_eq_true rfl) (fun K hl hnL hC hRT hin => ?_)
  subst hl
  show WW K G 0 0 (CW A D T G.2.1 I F Q P) 0 [(0, .ref (A 0)), (1, .ref qb)] []
  have hn := hR.n
  have hbd := hR.bd
  refine w_iconst (pc := 0) hC dX11_stuckBits_0 ?_
  refine w_istore_n (pc := 1) hC dX11_stuckBits_1 rfl (lv2 := [(2, .int (J 0)), (0, .ref (A 0)), (1, .ref qb)]) (by rw [hnL]; decide) rfl ?_
  refine w_iconst (pc := 2) hC dX11_stuckBits_2 ?_
  refine w_istore_n (pc := 3) hC dX11_stuckBits_3 rfl (lv2 := [(3, .int (J 1)), (2, .int (J 0)), (0, .ref (A 0)), (1, .ref qb)]) (by rw [hnL]; decide) rfl ?_
  have loop4 : ∀ (nF : Nat) (z1 : Int) (lo : Int) (a23_4 : Int → Int), (1 ≤ lo) → (lo ≤ S 0 ∨ lo = 1) → (PBI (S 6) (SC S c) (fun p _ => dg (S 6) p) z1 lo 0) → (S 0 + 1 - lo) < (nF : Int) → WW K G 0 0 (CW A D T G.2.1 (au I 23 a23_4) F Q P) 4 [(0, .ref (A 0)), (1, .ref qb), (2, .int (J z1)), (3, .int (J lo))] [] := by
    intro nF
    induction nF with
    | zero => intro z1 lo a23_4 i1 i2 i3 hm4; exact absurd hm4 (by omega)
    | succ nF ih4 =>
      intro z1 lo a23_4 i1 i2 i3 hm4
      refine w_iload_n (pc := 4) hC dX11_stuckBits_4 3 rfl rfl ?_
      refine w_aload_n (pc := 5) hC dX11_stuckBits_5 0 rfl rfl ?_
      refine w_getf (pc := 6) (v := .ref (A 1)) hC dX11_stuckBits_6 fi_X11_12 0 CW_0 rfl ?_
      refine w_getfN (pc := 9) (v := .int (J (S 0))) hC dX11_stuckBits_9 fn_X11_57 1 CW_1 (congrArg (fun z : Int => some (Value.int (J z))) (l_n hL)) ?_
      refine w_icmp_ge (pc := 12) (tgt := 99) hC dX11_stuckBits_12 (by decide) (by omega) (fun c12 => ?_) (fun c12 => ?_)
      · refine w_iload_n (pc := 99) hC dX11_stuckBits_99 2 rfl rfl ?_
        refine w_iret (pc := 100) hC hRT dX11_stuckBits_100 rfl ?_
        refine ⟨z1, a23_4, rfl, rfl, ?_⟩
        · by_cases h9 : 1 ≤ S 0; rw [if_pos h9, ← show lo = S 0 by omega]; exact i3; rw [if_neg h9, ← show lo = 1 by omega]; exact i3
      · have g1 := VB_dg hR.bd (r := lo) (by omega) (by omega)
        refine w_aload_n (pc := 15) hC dX11_stuckBits_15 0 rfl rfl ?_
        refine w_getf (pc := 16) (v := .ref (A 1)) hC dX11_stuckBits_16 fi_X11_12 0 CW_0 rfl ?_
        refine w_getfN (pc := 19) (v := .ref (A 2)) hC dX11_stuckBits_19 fn_X11_61 1 CW_1 rfl ?_
        refine w_iload_n (pc := 22) hC dX11_stuckBits_22 3 rfl rfl ?_
        refine w_ialdV (pc := 23) (g := (I 2)) (v := dg (S 6) lo) hC dX11_stuckBits_23 2 CW_2 (by omega) (Nat.le_of_ble_eq_true rfl) (l_bd hL (by omega) (by omega)) ?_
        refine w_istore (pc := 24) hC dX11_stuckBits_24 (lv2 := [(4, .int (J (dg (S 6) lo))), (0, .ref (A 0)), (1, .ref qb), (2, .int (J z1)), (3, .int (J lo))]) (by rw [hnL]; decide) rfl ?_
        refine w_aload_n (pc := 26) hC dX11_stuckBits_26 1 rfl rfl ?_
        refine w_aload_n (pc := 27) hC dX11_stuckBits_27 2 rfl rfl ?_
        refine w_iload (pc := 28) hC dX11_stuckBits_28 0 rfl ?_
        refine w_callV (pc := 30) (As := [.ref qb, .int (J (dg (S 6) lo))]) (rest := []) hC dX11_stuckBits_30 cv_X11_288 (c_X11_askedInWeek (kl K) G A D T (au I 23 a23_4) F Q P S c qb (dg (S 6) lo) (show RI S from by first | assumption | omega) (show LRn G.2.1 S (au I 23 a23_4) F Q P from by exact (LRb_au (by decide) hL)) (show 0 ≤ c ∧ c < S 1 from by first | assumption | omega) (show CLB P G.2.1 S c qb from by first | assumption | omega) (show 0 ≤ (dg (S 6) lo) ∧ (dg (S 6) lo) < S 0 from by first | assumption | omega)) (by decide) ⟨Nat.le_of_ble_eq_true rfl, Nat.le_of_ble_eq_true rfl⟩ (q0 := 0) CW_0 rfl rfl rfl (Nat.le_of_ble_eq_true rfl) rfl (fun vo wo hv => ?_)
        obtain ⟨b23_30, hv1, hw1⟩ := hv
        rw [hv1, hw1]
        refine w_weq (CW_cong (au_th rfl au_rp) rfl rfl) ?_
        show WW K G 0 0 (CW A D T G.2.1 (au I 23 b23_30) F Q P) 33 [(4, .int (J (dg (S 6) lo))), (0, .ref (A 0)), (1, .ref qb), (2, .int (J z1)), (3, .int (J lo))] [.int (J (aaN S c (-1) (dg (S 6) lo) (7 : Int).toNat))]
        have q30_0 := @aa7_bd S c (dg (S 6) lo) (by assumption) (by omega) (7 : Int).toNat
        refine w_istore (pc := 33) hC dX11_stuckBits_33 (lv2 := [(5, .int (J (aaN S c (-1) (dg (S 6) lo) (7 : Int).toNat))), (4, .int (J (dg (S 6) lo))), (0, .ref (A 0)), (1, .ref qb), (2, .int (J z1)), (3, .int (J lo))]) (by rw [hnL]; decide) rfl ?_
        refine w_iconst (pc := 35) hC dX11_stuckBits_35 ?_
        refine w_istore (pc := 36) hC dX11_stuckBits_36 (lv2 := [(6, .int (J 0)), (5, .int (J (aaN S c (-1) (dg (S 6) lo) (7 : Int).toNat))), (4, .int (J (dg (S 6) lo))), (0, .ref (A 0)), (1, .ref qb), (2, .int (J z1)), (3, .int (J lo))]) (by rw [hnL]; decide) rfl ?_
        have loop38 : ∀ (nF : Nat) (z2 : Int) (hi : Int), (0 ≤ hi) → (hi ≤ lo) → (PBI (S 6) (SC S c) (fun p _ => dg (S 6) p) z2 lo hi) → (lo - hi) < (nF : Int) → WW K G 0 0 (CW A D T G.2.1 (au I 23 b23_30) F Q P) 38 [(0, .ref (A 0)), (1, .ref qb), (2, .int (J z2)), (3, .int (J lo)), (4, .int (J (dg (S 6) lo))), (5, .int (J (aaN S c (-1) (dg (S 6) lo) (7 : Int).toNat))), (6, .int (J hi))] [] := by
          intro nF
          induction nF with
          | zero => intro z2 hi j1 j2 j3 hm38; exact absurd hm38 (by omega)
          | succ nF ih38 =>
            intro z2 hi j1 j2 j3 hm38
            have bz := j3.1
            refine w_iload (pc := 38) hC dX11_stuckBits_38 6 rfl ?_
            refine w_iload_n (pc := 40) hC dX11_stuckBits_40 3 rfl rfl ?_
            refine w_icmp_ge (pc := 41) (tgt := 93) hC dX11_stuckBits_41 (by decide) (by omega) (fun c41 => ?_) (fun c41 => ?_)
            · refine w_iinc (pc := 93) hC dX11_stuckBits_93 (lv2 := [(3, .int (J (lo + 1))), (0, .ref (A 0)), (1, .ref qb), (2, .int (J z2)), (4, .int (J (dg (S 6) lo))), (5, .int (J (aaN S c (-1) (dg (S 6) lo) (7 : Int).toNat))), (6, .int (J hi))]) 3 rfl (by rw [hnL]; decide) rfl ?_
              refine w_goto (pc := 96) hC dX11_stuckBits_96 (tgt := 4) (by decide) ?_
              refine w_sub [1, 2, 3, 0] (lv2 := [(0, .ref (A 0)), (1, .ref qb), (2, .int (J z2)), (3, .int (J (lo + 1)))]) rfl ?_
              refine ih4 z2 (lo + 1) b23_30 ?_ ?_ ?_ ?_
              · first | assumption | omega
              · first | assumption | omega
              · exact PB_next j3 (by omega)
              · omega
            · have g2 := VB_dg hR.bd (r := hi) (by omega) (by omega)
              refine w_aload_n (pc := 44) hC dX11_stuckBits_44 0 rfl rfl ?_
              refine w_getf (pc := 45) (v := .ref (A 1)) hC dX11_stuckBits_45 fi_X11_12 0 CW_0 rfl ?_
              refine w_getfN (pc := 48) (v := .ref (A 2)) hC dX11_stuckBits_48 fn_X11_61 1 CW_1 rfl ?_
              refine w_iload (pc := 51) hC dX11_stuckBits_51 6 rfl ?_
              refine w_ialdV (pc := 53) (g := (I 2)) (v := dg (S 6) hi) hC dX11_stuckBits_53 2 CW_2 (by omega) (Nat.le_of_ble_eq_true rfl) (l_bd hL (by omega) (by omega)) ?_
              refine w_istore (pc := 54) hC dX11_stuckBits_54 (lv2 := [(7, .int (J (dg (S 6) hi))), (0, .ref (A 0)), (1, .ref qb), (2, .int (J z2)), (3, .int (J lo)), (4, .int (J (dg (S 6) lo))), (5, .int (J (aaN S c (-1) (dg (S 6) lo) (7 : Int).toNat))), (6, .int (J hi))]) (by rw [hnL]; decide) rfl ?_
              refine w_aload_n (pc := 56) hC dX11_stuckBits_56 1 rfl rfl ?_
              refine w_getf (pc := 57) (v := .ref (A 1)) hC dX11_stuckBits_57 fi_X11_12 0 CW_0 rfl ?_
              refine w_iload (pc := 60) hC dX11_stuckBits_60 5 rfl ?_
              refine w_iload (pc := 62) hC dX11_stuckBits_62 0 rfl ?_
              refine w_callV (pc := 64) (As := [.int (J (dg (S 6) lo)), .int (J (dg (S 6) hi))]) (rest := []) hC dX11_stuckBits_64 cv_X11_292 (c_X6_isStronger (kl K) G A D T (au I 23 b23_30) F Q P S (dg (S 6) lo) (dg (S 6) hi) (show RI S from by first | assumption | omega) (show LRn G.2.1 S (au I 23 b23_30) F Q P from by exact (LRb_au (by decide) hL)) (show 0 ≤ (dg (S 6) lo) ∧ (dg (S 6) lo) < S 0 from by first | assumption | omega) (show 0 ≤ (dg (S 6) hi) ∧ (dg (S 6) hi) < S 0 from by first | assumption | omega)) (by decide) ⟨Nat.le_of_ble_eq_true rfl, Nat.le_of_ble_eq_true rfl⟩ (q0 := 1) CW_1 rfl rfl rfl (Nat.le_of_ble_eq_true rfl) rfl (fun vo wo hv => ?_)
              obtain ⟨hv1, hw1⟩ := hv
              rw [hv1, hw1]
              show WW K G 0 0 (CW A D T G.2.1 (au I 23 b23_30) F Q P) 67 [(7, .int (J (dg (S 6) hi))), (0, .ref (A 0)), (1, .ref qb), (2, .int (J z2)), (3, .int (J lo)), (4, .int (J (dg (S 6) lo))), (5, .int (J (aaN S c (-1) (dg (S 6) lo) (7 : Int).toNat))), (6, .int (J hi))] [.int (J (bI (50 < S (130 + 6 * (dg (S 6) lo) + (dg (S 6) hi)))))]
              refine w_if_eq_b (pc := 67) (tgt := 87) hC dX11_stuckBits_67 (by decide) (fun c67 => ?_) (fun c67 => ?_)
              · refine w_iinc (pc := 87) hC dX11_stuckBits_87 (lv2 := [(6, .int (J (hi + 1))), (7, .int (J (dg (S 6) hi))), (0, .ref (A 0)), (1, .ref qb), (2, .int (J z2)), (3, .int (J lo)), (4, .int (J (dg (S 6) lo))), (5, .int (J (aaN S c (-1) (dg (S 6) lo) (7 : Int).toNat)))]) 7 rfl (by rw [hnL]; decide) rfl ?_
                refine w_goto (pc := 90) hC dX11_stuckBits_90 (tgt := 38) (by decide) ?_
                refine w_sub [2, 3, 4, 5, 6, 7, 0] (lv2 := [(0, .ref (A 0)), (1, .ref qb), (2, .int (J z2)), (3, .int (J lo)), (4, .int (J (dg (S 6) lo))), (5, .int (J (aaN S c (-1) (dg (S 6) lo) (7 : Int).toNat))), (6, .int (J (hi + 1)))]) rfl ?_
                refine ih38 z2 (hi + 1) ?_ ?_ ?_ ?_
                · first | assumption | omega
                · first | assumption | omega
                · first | exact PB_yes j3 j1 c41 ⟨c67, c77⟩ (by show 0 ≤ dg (S 6) lo ∧ dg (S 6) lo < 6; omega) | exact PB_no j3 (fun h9 => c67 h9.1) | exact PB_no j3 (fun h9 => h9.2 c77)
                · omega
              · refine w_iload (pc := 70) hC dX11_stuckBits_70 6 rfl ?_
                refine w_iload (pc := 72) hC dX11_stuckBits_72 0 rfl ?_
                refine w_callS (pc := 74) (As := [.int (J (aaN S c (-1) (dg (S 6) lo) (7 : Int).toNat)), .int (J (dg (S 6) hi))]) (rest := []) hC dX11_stuckBits_74 cs_X11_146 (c_X11_holds (kl K) G (CW A D T G.2.1 (au I 23 b23_30) F Q P) (aaN S c (-1) (dg (S 6) lo) (7 : Int).toNat) (dg (S 6) hi) (show 0 ≤ (aaN S c (-1) (dg (S 6) lo) (7 : Int).toNat) ∧ (aaN S c (-1) (dg (S 6) lo) (7 : Int).toNat) < 2147483648 from by omega) (show 0 ≤ (dg (S 6) hi) ∧ (dg (S 6) hi) < 32 from by omega)) (by decide) ⟨Nat.le_of_ble_eq_true rfl, Nat.le_of_ble_eq_true rfl⟩ rfl (Nat.le_of_ble_eq_true rfl) rfl (fun vo wo hv => ?_)
                obtain ⟨hv1, hw1⟩ := hv
                rw [hv1, hw1]
                show WW K G 0 0 (CW A D T G.2.1 (au I 23 b23_30) F Q P) 77 [(7, .int (J (dg (S 6) hi))), (0, .ref (A 0)), (1, .ref qb), (2, .int (J z2)), (3, .int (J lo)), (4, .int (J (dg (S 6) lo))), (5, .int (J (aaN S c (-1) (dg (S 6) lo) (7 : Int).toNat))), (6, .int (J hi))] [.int (J (bI ((aaN S c (-1) (dg (S 6) lo) (7 : Int).toNat) / 2 ^ (dg (S 6) hi).toNat % 2 = 1)))]
                refine w_if_ne_b (pc := 77) (tgt := 87) hC dX11_stuckBits_77 (by decide) (fun c77 => ?_) (fun c77 => ?_)
                · refine w_iinc (pc := 87) hC dX11_stuckBits_87 (lv2 := [(6, .int (J (hi + 1))), (7, .int (J (dg (S 6) hi))), (0, .ref (A 0)), (1, .ref qb), (2, .int (J z2)), (3, .int (J lo)), (4, .int (J (dg (S 6) lo))), (5, .int (J (aaN S c (-1) (dg (S 6) lo) (7 : Int).toNat)))]) 7 rfl (by rw [hnL]; decide) rfl ?_
                  refine w_goto (pc := 90) hC dX11_stuckBits_90 (tgt := 38) (by decide) ?_
                  refine w_sub [2, 3, 4, 5, 6, 7, 0] (lv2 := [(0, .ref (A 0)), (1, .ref qb), (2, .int (J z2)), (3, .int (J lo)), (4, .int (J (dg (S 6) lo))), (5, .int (J (aaN S c (-1) (dg (S 6) lo) (7 : Int).toNat))), (6, .int (J (hi + 1)))]) rfl ?_
                  refine ih38 z2 (hi + 1) ?_ ?_ ?_ ?_
                  · first | assumption | omega
                  · first | assumption | omega
                  · first | exact PB_yes j3 j1 c41 ⟨c67, c77⟩ (by show 0 ≤ dg (S 6) lo ∧ dg (S 6) lo < 6; omega) | exact PB_no j3 (fun h9 => c67 h9.1) | exact PB_no j3 (fun h9 => h9.2 c77)
                  · omega
                · have hp6 := p2_6 g1.1 (by omega)
                  refine w_iload_n (pc := 80) hC dX11_stuckBits_80 3 rfl rfl ?_
                  refine w_iconst (pc := 81) hC dX11_stuckBits_81 ?_
                  refine w_iload (pc := 82) hC dX11_stuckBits_82 5 rfl ?_
                  refine w_ishl (pc := 84) hC dX11_stuckBits_84 (by omega) ?_
                  refine w_ior (pc := 85) hC dX11_stuckBits_85 (v := ior z2 (1 * 2 ^ (dg (S 6) lo).toNat)) (J_or (by omega)) ?_
                  refine w_istore_n (pc := 86) hC dX11_stuckBits_86 rfl (lv2 := [(2, .int (J (ior z2 (1 * 2 ^ (dg (S 6) lo).toNat)))), (7, .int (J (dg (S 6) hi))), (0, .ref (A 0)), (1, .ref qb), (3, .int (J lo)), (4, .int (J (dg (S 6) lo))), (5, .int (J (aaN S c (-1) (dg (S 6) lo) (7 : Int).toNat))), (6, .int (J hi))]) (by rw [hnL]; decide) rfl ?_
                  refine w_iinc (pc := 87) hC dX11_stuckBits_87 (lv2 := [(6, .int (J (hi + 1))), (2, .int (J (ior z2 (1 * 2 ^ (dg (S 6) lo).toNat)))), (7, .int (J (dg (S 6) hi))), (0, .ref (A 0)), (1, .ref qb), (3, .int (J lo)), (4, .int (J (dg (S 6) lo))), (5, .int (J (aaN S c (-1) (dg (S 6) lo) (7 : Int).toNat)))]) 7 rfl (by rw [hnL]; decide) rfl ?_
                  refine w_goto (pc := 90) hC dX11_stuckBits_90 (tgt := 38) (by decide) ?_
                  refine w_sub [3, 4, 1, 5, 6, 7, 0] (lv2 := [(0, .ref (A 0)), (1, .ref qb), (2, .int (J (ior z2 (1 * 2 ^ (dg (S 6) lo).toNat)))), (3, .int (J lo)), (4, .int (J (dg (S 6) lo))), (5, .int (J (aaN S c (-1) (dg (S 6) lo) (7 : Int).toNat))), (6, .int (J (hi + 1)))]) rfl ?_
                  refine ih38 (ior z2 (1 * 2 ^ (dg (S 6) lo).toNat)) (hi + 1) ?_ ?_ ?_ ?_
                  · first | assumption | omega
                  · first | assumption | omega
                  · first | exact PB_yes j3 j1 c41 ⟨c67, c77⟩ (by show 0 ≤ dg (S 6) lo ∧ dg (S 6) lo < 6; omega) | exact PB_no j3 (fun h9 => c67 h9.1) | exact PB_no j3 (fun h9 => h9.2 c77)
                  · omega
        refine w_sub [3, 4, 5, 6, 2, 1, 0] (lv2 := [(0, .ref (A 0)), (1, .ref qb), (2, .int (J z1)), (3, .int (J lo)), (4, .int (J (dg (S 6) lo))), (5, .int (J (aaN S c (-1) (dg (S 6) lo) (7 : Int).toNat))), (6, .int (J 0))]) rfl ?_
        refine loop38 ((lo - 0) + 1 : Int).toNat z1 0 ?_ ?_ ?_ ?_
        · first | assumption | omega
        · first | assumption | omega
        · exact i3
        · omega
  refine w_weq (CW_cong (au_ms (k := 23) (v := I 23) rfl rfl rfl) rfl rfl) ?_
  refine w_sub [2, 3, 1, 0] (lv2 := [(0, .ref (A 0)), (1, .ref qb), (2, .int (J 0)), (3, .int (J 1))]) rfl ?_
  refine loop4 ((S 0 + 1 - 1) + 1 : Int).toNat 0 1 (I 23) ?_ ?_ ?_ ?_
  · first | assumption | omega
  · first | assumption | omega
  · exact PB_0 _ _ _
  · omega
set_option maxRecDepth 100000 in
set_option maxHeartbeats 4000000 in
theorem c_X11_hangingBits (l : Launch) (G : GT) (A D : Nat → Nat) (T : Nat) (I : Nat → Int → Int) (F : Nat → Int) (Q : Nat → Nat → Option Nat) (P : va_W) (S : Int → Int) (c : Int) (qb : Nat) (hR : RI S) (hL : LRn G.2.1 S I F Q P) (hc : 0 ≤ c ∧ c < S 1) (hcl : CLB P G.2.1 S c qb) : CT l yX11_hangingBits cX11_hangingBits 7 (some .int) 5 0 0 G [.ref (A 0), .ref qb] (CW A D T G.2.1 I F Q P) (fun vo wo => ∃ (z : Int) (b23 : Int → Int), vo = some (.int (J z)) ∧ wo = CW A D T G.2.1 (au I 23 b23) F Q P ∧ (∃ asx : Int, (∀ y : Int, 0 ≤ y → (asx / 2 ^ y.toNat % 2 = 1 ↔ ∃ x : Int, (0 ≤ x ∧ x < S 0) ∧ ASKS7 S c x y)) ∧ PBI (S 6) (HC S asx) (fun _ q => dg (S 6) q) z (if 1 ≤ S 0 then S 0 else 1) 0)) := by
  refine CT_of (own := RX11) rfl rfl (Nat.le_of_ble_eq_true rfl) (fun K hl hnL hC hRT hin => ?_)
  subst hl
  show WW K G 0 0 (CW A D T G.2.1 I F Q P) 0 [(0, .ref (A 0)), (1, .ref qb)] []
  have hn := hR.n
  have hbd := hR.bd
  refine w_iconst (pc := 0) hC dX11_hangingBits_0 ?_
  refine w_istore_n (pc := 1) hC dX11_hangingBits_1 rfl (lv2 := [(2, .int (J 0)), (0, .ref (A 0)), (1, .ref qb)]) (by rw [hnL]; decide) rfl ?_
  refine w_iconst (pc := 2) hC dX11_hangingBits_2 ?_
  refine w_istore_n (pc := 3) hC dX11_hangingBits_3 rfl (lv2 := [(3, .int (J 0)), (2, .int (J 0)), (0, .ref (A 0)), (1, .ref qb)]) (by rw [hnL]; decide) rfl ?_
  have loop4 : ∀ (nF : Nat) (asx : Int) (x : Int) (a23_4 : Int → Int), (0 ≤ x) → (x ≤ S 0) → ((0 ≤ asx ∧ asx < 64) ∧ ∀ y : Int, 0 ≤ y → (asx / 2 ^ y.toNat % 2 = 1 ↔ ∃ v : Int, (0 ≤ v ∧ v < x) ∧ ASKS7 S c v y)) → (S 0 - x) < (nF : Int) → WW K G 0 0 (CW A D T G.2.1 (au I 23 a23_4) F Q P) 4 [(0, .ref (A 0)), (1, .ref qb), (2, .int (J asx)), (3, .int (J x))] [] := by
    intro nF
    induction nF with
    | zero => intro asx x a23_4 i1 i2 i3 hm4; exact absurd hm4 (by omega)
    | succ nF ih4 =>
      intro asx x a23_4 i1 i2 i3 hm4
      have ba := i3.1
      refine w_iload_n (pc := 4) hC dX11_hangingBits_4 3 rfl rfl ?_
      refine w_aload_n (pc := 5) hC dX11_hangingBits_5 0 rfl rfl ?_
      refine w_getf (pc := 6) (v := .ref (A 1)) hC dX11_hangingBits_6 fi_X11_12 0 CW_0 rfl ?_
      refine w_getfN (pc := 9) (v := .int (J (S 0))) hC dX11_hangingBits_9 fn_X11_57 1 CW_1 (congrArg (fun z : Int => some (Value.int (J z))) (l_n hL)) ?_
      refine w_icmp_ge (pc := 12) (tgt := 30) hC dX11_hangingBits_12 (by decide) (by omega) (fun c12 => ?_) (fun c12 => ?_)
      · refine w_iconst (pc := 30) hC dX11_hangingBits_30 ?_
        refine w_istore_n (pc := 31) hC dX11_hangingBits_31 rfl (lv2 := [(3, .int (J 0)), (0, .ref (A 0)), (1, .ref qb), (2, .int (J asx))]) (by rw [hnL]; decide) rfl ?_
        refine w_iconst (pc := 32) hC dX11_hangingBits_32 ?_
        refine w_istore (pc := 33) hC dX11_hangingBits_33 (lv2 := [(4, .int (J 1)), (3, .int (J 0)), (0, .ref (A 0)), (1, .ref qb), (2, .int (J asx))]) (by rw [hnL]; decide) rfl ?_
        have loop35 : ∀ (nF : Nat) (z1 : Int) (lo : Int), (1 ≤ lo) → (lo ≤ S 0 ∨ lo = 1) → (PBI (S 6) (HC S asx) (fun _ q => dg (S 6) q) z1 lo 0) → (S 0 + 1 - lo) < (nF : Int) → WW K G 0 0 (CW A D T G.2.1 (au I 23 a23_4) F Q P) 35 [(0, .ref (A 0)), (2, .int (J asx)), (3, .int (J z1)), (4, .int (J lo))] [] := by
          intro nF
          induction nF with
          | zero => intro z1 lo k1 k2 k3 hm35; exact absurd hm35 (by omega)
          | succ nF ih35 =>
            intro z1 lo k1 k2 k3 hm35
            refine w_iload (pc := 35) hC dX11_hangingBits_35 3 rfl ?_
            refine w_aload_n (pc := 37) hC dX11_hangingBits_37 0 rfl rfl ?_
            refine w_getf (pc := 38) (v := .ref (A 1)) hC dX11_hangingBits_38 fi_X11_12 0 CW_0 rfl ?_
            refine w_getfN (pc := 41) (v := .int (J (S 0))) hC dX11_hangingBits_41 fn_X11_57 1 CW_1 (congrArg (fun z : Int => some (Value.int (J z))) (l_n hL)) ?_
            refine w_icmp_ge (pc := 44) (tgt := 119) hC dX11_hangingBits_44 (by decide) (by omega) (fun c44 => ?_) (fun c44 => ?_)
            · refine w_iload_n (pc := 119) hC dX11_hangingBits_119 2 rfl rfl ?_
              refine w_iret (pc := 120) hC hRT dX11_hangingBits_120 rfl ?_
              refine ⟨z1, a23_4, rfl, rfl, ?_⟩
              · refine ⟨asx, ?_, ?_⟩
                · rw [show x = S 0 by omega] at i3; exact i3.2
                · by_cases h9 : 1 ≤ S 0; rw [if_pos h9, ← show lo = S 0 by omega]; exact k3; rw [if_neg h9, ← show lo = 1 by omega]; exact k3
            · have g1 := VB_dg hR.bd (r := lo) (by omega) (by omega)
              refine w_iconst (pc := 47) hC dX11_hangingBits_47 ?_
              refine w_istore (pc := 48) hC dX11_hangingBits_48 (lv2 := [(5, .int (J 0)), (0, .ref (A 0)), (2, .int (J asx)), (3, .int (J z1)), (4, .int (J lo))]) (by rw [hnL]; decide) rfl ?_
              have loop50 : ∀ (nF : Nat) (z2 : Int) (hi : Int), (0 ≤ hi) → (hi ≤ lo) → (PBI (S 6) (HC S asx) (fun _ q => dg (S 6) q) z2 lo hi) → (lo - hi) < (nF : Int) → WW K G 0 0 (CW A D T G.2.1 (au I 23 a23_4) F Q P) 50 [(0, .ref (A 0)), (2, .int (J asx)), (3, .int (J z2)), (4, .int (J lo)), (5, .int (J hi))] [] := by
                intro nF
                induction nF with
                | zero => intro z2 hi j1 j2 j3 hm50; exact absurd hm50 (by omega)
                | succ nF ih50 =>
                  intro z2 hi j1 j2 j3 hm50
                  have bz := j3.1
                  refine w_iload (pc := 50) hC dX11_hangingBits_50 4 rfl ?_
                  refine w_iload (pc := 52) hC dX11_hangingBits_52 3 rfl ?_
                  refine w_icmp_ge (pc := 54) (tgt := 113) hC dX11_hangingBits_54 (by decide) (by omega) (fun c54 => ?_) (fun c54 => ?_)
                  · refine w_iinc (pc := 113) hC dX11_hangingBits_113 (lv2 := [(4, .int (J (lo + 1))), (0, .ref (A 0)), (2, .int (J asx)), (3, .int (J z2)), (5, .int (J hi))]) 3 rfl (by rw [hnL]; decide) rfl ?_
                    refine w_goto (pc := 116) hC dX11_hangingBits_116 (tgt := 35) (by decide) ?_
                    refine w_sub [1, 2, 3, 0] (lv2 := [(0, .ref (A 0)), (2, .int (J asx)), (3, .int (J z2)), (4, .int (J (lo + 1)))]) rfl ?_
                    refine ih35 z2 (lo + 1) ?_ ?_ ?_ ?_
                    · first | assumption | omega
                    · first | assumption | omega
                    · exact PB_next j3 (by omega)
                    · omega
                  · have g2 := VB_dg hR.bd (r := hi) (by omega) (by omega)
                    refine w_aload_n (pc := 57) hC dX11_hangingBits_57 0 rfl rfl ?_
                    refine w_getf (pc := 58) (v := .ref (A 1)) hC dX11_hangingBits_58 fi_X11_12 0 CW_0 rfl ?_
                    refine w_getfN (pc := 61) (v := .ref (A 2)) hC dX11_hangingBits_61 fn_X11_61 1 CW_1 rfl ?_
                    refine w_iload (pc := 64) hC dX11_hangingBits_64 4 rfl ?_
                    refine w_ialdV (pc := 66) (g := (I 2)) (v := dg (S 6) hi) hC dX11_hangingBits_66 2 CW_2 (by omega) (Nat.le_of_ble_eq_true rfl) (l_bd hL (by omega) (by omega)) ?_
                    refine w_istore (pc := 67) hC dX11_hangingBits_67 (lv2 := [(6, .int (J (dg (S 6) hi))), (0, .ref (A 0)), (2, .int (J asx)), (3, .int (J z2)), (4, .int (J lo)), (5, .int (J hi))]) (by rw [hnL]; decide) rfl ?_
                    refine w_aload_n (pc := 69) hC dX11_hangingBits_69 1 rfl rfl ?_
                    refine w_getf (pc := 70) (v := .ref (A 1)) hC dX11_hangingBits_70 fi_X11_12 0 CW_0 rfl ?_
                    refine w_aload_n (pc := 73) hC dX11_hangingBits_73 1 rfl rfl ?_
                    refine w_getf (pc := 74) (v := .ref (A 1)) hC dX11_hangingBits_74 fi_X11_12 0 CW_0 rfl ?_
                    refine w_getfN (pc := 77) (v := .ref (A 2)) hC dX11_hangingBits_77 fn_X11_61 1 CW_1 rfl ?_
                    refine w_iload (pc := 80) hC dX11_hangingBits_80 4 rfl ?_
                    refine w_ialdV (pc := 82) (g := (I 2)) (v := dg (S 6) lo) hC dX11_hangingBits_82 2 CW_2 (by omega) (Nat.le_of_ble_eq_true rfl) (l_bd hL (by omega) (by omega)) ?_
                    refine w_iload (pc := 83) hC dX11_hangingBits_83 0 rfl ?_
                    refine w_callV (pc := 85) (As := [.int (J (dg (S 6) lo)), .int (J (dg (S 6) hi))]) (rest := []) hC dX11_hangingBits_85 cv_X11_292 (c_X6_isStronger (kl K) G A D T (au I 23 a23_4) F Q P S (dg (S 6) lo) (dg (S 6) hi) (show RI S from by first | assumption | omega) (show LRn G.2.1 S (au I 23 a23_4) F Q P from by exact (LRb_au (by decide) hL)) (show 0 ≤ (dg (S 6) lo) ∧ (dg (S 6) lo) < S 0 from by first | assumption | omega) (show 0 ≤ (dg (S 6) hi) ∧ (dg (S 6) hi) < S 0 from by first | assumption | omega)) (by decide) ⟨Nat.le_of_ble_eq_true rfl, Nat.le_of_ble_eq_true rfl⟩ (q0 := 1) CW_1 rfl rfl rfl (Nat.le_of_ble_eq_true rfl) rfl (fun vo wo hv => ?_)
                    obtain ⟨hv1, hw1⟩ := hv
                    rw [hv1, hw1]
                    show WW K G 0 0 (CW A D T G.2.1 (au I 23 a23_4) F Q P) 88 [(6, .int (J (dg (S 6) hi))), (0, .ref (A 0)), (2, .int (J asx)), (3, .int (J z2)), (4, .int (J lo)), (5, .int (J hi))] [.int (J (bI (50 < S (130 + 6 * (dg (S 6) lo) + (dg (S 6) hi)))))]
                    refine w_if_eq_b (pc := 88) (tgt := 107) hC dX11_hangingBits_88 (by decide) (fun c88 => ?_) (fun c88 => ?_)
                    · refine w_iinc (pc := 107) hC dX11_hangingBits_107 (lv2 := [(5, .int (J (hi + 1))), (6, .int (J (dg (S 6) hi))), (0, .ref (A 0)), (2, .int (J asx)), (3, .int (J z2)), (4, .int (J lo))]) 5 rfl (by rw [hnL]; decide) rfl ?_
                      refine w_goto (pc := 110) hC dX11_hangingBits_110 (tgt := 50) (by decide) ?_
                      refine w_sub [2, 3, 4, 5, 0] (lv2 := [(0, .ref (A 0)), (2, .int (J asx)), (3, .int (J z2)), (4, .int (J lo)), (5, .int (J (hi + 1)))]) rfl ?_
                      refine ih50 z2 (hi + 1) ?_ ?_ ?_ ?_
                      · first | assumption | omega
                      · first | assumption | omega
                      · first | exact PB_yes j3 j1 c54 ⟨c88, c97⟩ (by show 0 ≤ dg (S 6) hi ∧ dg (S 6) hi < 6; omega) | exact PB_no j3 (fun h9 => c88 h9.1) | exact PB_no j3 (fun h9 => h9.2 c97)
                      · omega
                    · refine w_iload_n (pc := 91) hC dX11_hangingBits_91 2 rfl rfl ?_
                      refine w_iload (pc := 92) hC dX11_hangingBits_92 0 rfl ?_
                      refine w_callS (pc := 94) (As := [.int (J asx), .int (J (dg (S 6) hi))]) (rest := []) hC dX11_hangingBits_94 cs_X11_146 (c_X11_holds (kl K) G (CW A D T G.2.1 (au I 23 a23_4) F Q P) asx (dg (S 6) hi) (show 0 ≤ asx ∧ asx < 2147483648 from by first | assumption | omega) (show 0 ≤ (dg (S 6) hi) ∧ (dg (S 6) hi) < 32 from by first | assumption | omega)) (by decide) ⟨Nat.le_of_ble_eq_true rfl, Nat.le_of_ble_eq_true rfl⟩ rfl (Nat.le_of_ble_eq_true rfl) rfl (fun vo wo hv => ?_)
                      obtain ⟨hv1, hw1⟩ := hv
                      rw [hv1, hw1]
                      show WW K G 0 0 (CW A D T G.2.1 (au I 23 a23_4) F Q P) 97 [(6, .int (J (dg (S 6) hi))), (0, .ref (A 0)), (2, .int (J asx)), (3, .int (J z2)), (4, .int (J lo)), (5, .int (J hi))] [.int (J (bI (asx / 2 ^ (dg (S 6) hi).toNat % 2 = 1)))]
                      refine w_if_ne_b (pc := 97) (tgt := 107) hC dX11_hangingBits_97 (by decide) (fun c97 => ?_) (fun c97 => ?_)
                      · refine w_iinc (pc := 107) hC dX11_hangingBits_107 (lv2 := [(5, .int (J (hi + 1))), (6, .int (J (dg (S 6) hi))), (0, .ref (A 0)), (2, .int (J asx)), (3, .int (J z2)), (4, .int (J lo))]) 5 rfl (by rw [hnL]; decide) rfl ?_
                        refine w_goto (pc := 110) hC dX11_hangingBits_110 (tgt := 50) (by decide) ?_
                        refine w_sub [2, 3, 4, 5, 0] (lv2 := [(0, .ref (A 0)), (2, .int (J asx)), (3, .int (J z2)), (4, .int (J lo)), (5, .int (J (hi + 1)))]) rfl ?_
                        refine ih50 z2 (hi + 1) ?_ ?_ ?_ ?_
                        · first | assumption | omega
                        · first | assumption | omega
                        · first | exact PB_yes j3 j1 c54 ⟨c88, c97⟩ (by show 0 ≤ dg (S 6) hi ∧ dg (S 6) hi < 6; omega) | exact PB_no j3 (fun h9 => c88 h9.1) | exact PB_no j3 (fun h9 => h9.2 c97)
                        · omega
                      · have hp6 := p2_6 g2.1 (by omega)
                        refine w_iload_n (pc := 100) hC dX11_hangingBits_100 3 rfl rfl ?_
                        refine w_iconst (pc := 101) hC dX11_hangingBits_101 ?_
                        refine w_iload (pc := 102) hC dX11_hangingBits_102 0 rfl ?_
                        refine w_ishl (pc := 104) hC dX11_hangingBits_104 (by omega) ?_
                        refine w_ior (pc := 105) hC dX11_hangingBits_105 (v := ior z2 (1 * 2 ^ (dg (S 6) hi).toNat)) (J_or (by omega)) ?_
                        refine w_istore_n (pc := 106) hC dX11_hangingBits_106 rfl (lv2 := [(3, .int (J (ior z2 (1 * 2 ^ (dg (S 6) hi).toNat)))), (6, .int (J (dg (S 6) hi))), (0, .ref (A 0)), (2, .int (J asx)), (4, .int (J lo)), (5, .int (J hi))]) (by rw [hnL]; decide) rfl ?_
                        refine w_iinc (pc := 107) hC dX11_hangingBits_107 (lv2 := [(5, .int (J (hi + 1))), (3, .int (J (ior z2 (1 * 2 ^ (dg (S 6) hi).toNat)))), (6, .int (J (dg (S 6) hi))), (0, .ref (A 0)), (2, .int (J asx)), (4, .int (J lo))]) 5 rfl (by rw [hnL]; decide) rfl ?_
                        refine w_goto (pc := 110) hC dX11_hangingBits_110 (tgt := 50) (by decide) ?_
                        refine w_sub [3, 4, 1, 5, 0] (lv2 := [(0, .ref (A 0)), (2, .int (J asx)), (3, .int (J (ior z2 (1 * 2 ^ (dg (S 6) hi).toNat)))), (4, .int (J lo)), (5, .int (J (hi + 1)))]) rfl ?_
                        refine ih50 (ior z2 (1 * 2 ^ (dg (S 6) hi).toNat)) (hi + 1) ?_ ?_ ?_ ?_
                        · first | assumption | omega
                        · first | assumption | omega
                        · first | exact PB_yes j3 j1 c54 ⟨c88, c97⟩ (by show 0 ≤ dg (S 6) hi ∧ dg (S 6) hi < 6; omega) | exact PB_no j3 (fun h9 => c88 h9.1) | exact PB_no j3 (fun h9 => h9.2 c97)
                        · omega
              refine w_sub [1, 2, 3, 4, 0] (lv2 := [(0, .ref (A 0)), (2, .int (J asx)), (3, .int (J z1)), (4, .int (J lo)), (5, .int (J 0))]) rfl ?_
              refine loop50 ((lo - 0) + 1 : Int).toNat z1 0 ?_ ?_ ?_ ?_
              · first | assumption | omega
              · first | assumption | omega
              · exact k3
              · omega
        refine w_sub [2, 4, 1, 0] (lv2 := [(0, .ref (A 0)), (2, .int (J asx)), (3, .int (J 0)), (4, .int (J 1))]) rfl ?_
        refine loop35 ((S 0 + 1 - 1) + 1 : Int).toNat 0 1 ?_ ?_ ?_ ?_
        · first | assumption | omega
        · first | assumption | omega
        · exact PB_0 _ _ _
        · omega
      · refine w_iload_n (pc := 15) hC dX11_hangingBits_15 2 rfl rfl ?_
        refine w_aload_n (pc := 16) hC dX11_hangingBits_16 0 rfl rfl ?_
        refine w_aload_n (pc := 17) hC dX11_hangingBits_17 1 rfl rfl ?_
        refine w_iload_n (pc := 18) hC dX11_hangingBits_18 3 rfl rfl ?_
        refine w_callV (pc := 19) (As := [.ref qb, .int (J x)]) (rest := [.int (J asx)]) hC dX11_hangingBits_19 cv_X11_288 (c_X11_askedInWeek (kl K) G A D T (au I 23 a23_4) F Q P S c qb x (show RI S from by first | assumption | omega) (show LRn G.2.1 S (au I 23 a23_4) F Q P from by exact (LRb_au (by decide) hL)) (show 0 ≤ c ∧ c < S 1 from by first | assumption | omega) (show CLB P G.2.1 S c qb from by first | assumption | omega) (show 0 ≤ x ∧ x < S 0 from by first | assumption | omega)) (by decide) ⟨Nat.le_of_ble_eq_true rfl, Nat.le_of_ble_eq_true rfl⟩ (q0 := 0) CW_0 rfl rfl rfl (Nat.le_of_ble_eq_true rfl) rfl (fun vo wo hv => ?_)
        obtain ⟨b23_19, hv1, hw1⟩ := hv
        rw [hv1, hw1]
        refine w_weq (CW_cong (au_th rfl au_rp) rfl rfl) ?_
        show WW K G 0 0 (CW A D T G.2.1 (au I 23 b23_19) F Q P) 22 [(0, .ref (A 0)), (1, .ref qb), (2, .int (J asx)), (3, .int (J x))] [.int (J (aaN S c (-1) x (7 : Int).toNat)), .int (J asx)]
        have q19_0 := @aa7_bd S c x (by assumption) (by omega) (7 : Int).toNat
        refine w_ior (pc := 22) hC dX11_hangingBits_22 (v := ior asx (aaN S c (-1) x (7 : Int).toNat)) (J_or (by omega)) ?_
        refine w_istore_n (pc := 23) hC dX11_hangingBits_23 rfl (lv2 := [(2, .int (J (ior asx (aaN S c (-1) x (7 : Int).toNat)))), (0, .ref (A 0)), (1, .ref qb), (3, .int (J x))]) (by rw [hnL]; decide) rfl ?_
        refine w_iinc (pc := 24) hC dX11_hangingBits_24 (lv2 := [(3, .int (J (x + 1))), (2, .int (J (ior asx (aaN S c (-1) x (7 : Int).toNat)))), (0, .ref (A 0)), (1, .ref qb)]) 3 rfl (by rw [hnL]; decide) rfl ?_
        refine w_goto (pc := 27) hC dX11_hangingBits_27 (tgt := 4) (by decide) ?_
        refine w_sub [2, 3, 1, 0] (lv2 := [(0, .ref (A 0)), (1, .ref qb), (2, .int (J (ior asx (aaN S c (-1) x (7 : Int).toNat)))), (3, .int (J (x + 1)))]) rfl ?_
        refine ih4 (ior asx (aaN S c (-1) x (7 : Int).toNat)) (x + 1) b23_19 ?_ ?_ ?_ ?_
        · first | assumption | omega
        · first | assumption | omega
        · exact hang_or hR i1 c12 i3
        · omega
  refine w_weq (CW_cong (au_ms (k := 23) (v := I 23) rfl rfl rfl) rfl rfl) ?_
  refine w_sub [2, 3, 1, 0] (lv2 := [(0, .ref (A 0)), (1, .ref qb), (2, .int (J 0)), (3, .int (J 0))]) rfl ?_
  refine loop4 ((S 0 - 0) + 1 : Int).toNat 0 0 (I 23) ?_ ?_ ?_ ?_
  · first | assumption | omega
  · first | assumption | omega
  · exact ⟨by decide, fun y _ => ⟨fun h => absurd h (bt_0 y), fun ⟨v, h, _⟩ => by omega⟩⟩
  · omega
set_option maxRecDepth 100000 in
set_option maxHeartbeats 4000000 in
theorem c_X11_stuck (l : Launch) (G : GT) (A D : Nat → Nat) (T : Nat) (I : Nat → Int → Int) (F : Nat → Int) (Q : Nat → Nat → Option Nat) (P : va_W) (S : Int → Int) (a : Int) (w : Int) (hR : RI S) (hL : LRn G.2.1 S I F Q P) (h0 : -2147483648 ≤ a ∧ a < 2147483648) (h1 : -2147483648 ≤ w ∧ w < 2147483648) : CT l yX11_stuck cX11_stuck 4 (some .int) 6 0 0 G [.ref (A 0), .int (J a), .int (J w)] (CW A D T G.2.1 I F Q P) (fun vo wo => ∃ (z : Int) (b23 : Int → Int), vo = some (.int (J z)) ∧ wo = CW A D T G.2.1 (au I 23 b23) F Q P ∧ (VSTK S a w z)) := by
  refine CT_of (own := RX11) rfl rfl (Nat.le_of_ble_eq_true rfl) (fun K hl hnL hC hRT hin => ?_)
  subst hl
  show WW K G 0 0 (CW A D T G.2.1 I F Q P) 0 [(0, .ref (A 0)), (1, .int (J a)), (2, .int (J w))] []
  have hn := hR.n
  have hbd := hR.bd
  refine w_aload_n (pc := 0) hC dX11_stuck_0 0 rfl rfl ?_
  refine w_iload_n (pc := 1) hC dX11_stuck_1 1 rfl rfl ?_
  refine w_callV (pc := 2) (As := [.int (J a)]) (rest := []) hC dX11_stuck_2 cv_X11_112 (c_X11_clubAt (kl K) G A D T I F Q P S a (show RI S from by assumption) (show LRn G.2.1 S I F Q P from by exact hL) (show -2147483648 ≤ a ∧ a < 2147483648 from by omega)) (by decide) ⟨Nat.le_of_ble_eq_true rfl, Nat.le_of_ble_eq_true rfl⟩ (q0 := 0) CW_0 rfl rfl rfl (Nat.le_of_ble_eq_true rfl) rfl (fun vo wo hv => ?_)
  obtain ⟨hv1, hw1⟩ := hv
  by_cases hc : 0 ≤ a ∧ a < S 1
  · obtain ⟨qb, hQc, hcl⟩ := l_clb hL hc.1 hc.2
    rw [if_pos hc, hQc] at hv1
    rw [hv1, hw1]
    show WW K G 0 0 (CW A D T G.2.1 I F Q P) 5 [(0, .ref (A 0)), (1, .int (J a)), (2, .int (J w))] [.ref qb]
    refine w_astore_n (pc := 5) hC dX11_stuck_5 rfl (lv2 := [(3, .ref qb), (0, .ref (A 0)), (1, .int (J a)), (2, .int (J w))]) (by rw [hnL]; decide) rfl ?_
    refine w_aload_n (pc := 6) hC dX11_stuck_6 0 rfl rfl ?_
    refine w_ifnullR (pc := 7) hC dX11_stuck_7 ?_
    refine w_iload_n (pc := 10) hC dX11_stuck_10 3 rfl rfl ?_
    refine w_callS (pc := 11) (As := [.int (J w)]) (rest := []) hC dX11_stuck_11 cs_X11_75 (c_X11_isEither (kl K) G (CW A D T G.2.1 I F Q P) w (show -2147483648 ≤ w ∧ w < 2147483648 from by first | assumption | omega)) (by decide) ⟨Nat.le_of_ble_eq_true rfl, Nat.le_of_ble_eq_true rfl⟩ rfl (Nat.le_of_ble_eq_true rfl) rfl (fun vo wo hv => ?_)
    obtain ⟨hv1, hw1⟩ := hv
    rw [hv1, hw1]
    show WW K G 0 0 (CW A D T G.2.1 I F Q P) 14 [(3, .ref qb), (0, .ref (A 0)), (1, .int (J a)), (2, .int (J w))] [.int (J (bI (w = 0 ∨ w = 1)))]
    refine w_if_ne_b (pc := 14) (tgt := 19) hC dX11_stuck_14 (by decide) (fun c14 => ?_) (fun c14 => ?_)
    · refine w_iload_n (pc := 19) hC dX11_stuck_19 3 rfl rfl ?_
      refine w_if_ne (pc := 20) (tgt := 31) hC dX11_stuck_20 (by decide) (by omega) (fun c20 => ?_) (fun c20 => ?_)
      · refine w_aload_n (pc := 31) hC dX11_stuck_31 1 rfl rfl ?_
        refine w_aload_n (pc := 32) hC dX11_stuck_32 0 rfl rfl ?_
        refine w_callV (pc := 33) (As := [.ref qb]) (rest := []) hC dX11_stuck_33 cv_X11_191 (c_X11_hangingBits (kl K) G A D T I F Q P S a qb (show RI S from by first | assumption | omega) (show LRn G.2.1 S I F Q P from by exact hL) (show 0 ≤ a ∧ a < S 1 from by first | assumption | omega) (show CLB P G.2.1 S a qb from by first | assumption | omega)) (by decide) ⟨Nat.le_of_ble_eq_true rfl, Nat.le_of_ble_eq_true rfl⟩ (q0 := 0) CW_0 rfl rfl rfl (Nat.le_of_ble_eq_true rfl) rfl (fun vo wo hv => ?_)
        obtain ⟨z33, b23_33, hv1, hw1, r33⟩ := hv
        rw [hv1, hw1]
        show WW K G 0 0 (CW A D T G.2.1 (au I 23 b23_33) F Q P) 36 [(3, .ref qb), (0, .ref (A 0)), (1, .int (J a)), (2, .int (J w))] [.int (J z33)]
        have r33 : ∃ asx : Int, (∀ y : Int, 0 ≤ y → (asx / 2 ^ y.toNat % 2 = 1 ↔ ∃ x : Int, (0 ≤ x ∧ x < S 0) ∧ ASKS7 S a x y)) ∧ PBI (S 6) (HC S asx) (fun _ q => dg (S 6) q) z33 (if 1 ≤ S 0 then S 0 else 1) 0 := r33
        refine w_iret (pc := 36) hC hRT dX11_stuck_36 rfl ?_
        refine ⟨z33, b23_33, rfl, rfl, ?_⟩
        · unfold VSTK
          rw [if_neg (by omega)]
          obtain ⟨asx, ha, hp⟩ := r33
          refine ⟨hp.1.1, ?_⟩
          rw [if_neg (by omega)]
          exact stk_1 hR (by split <;> omega) rfl ha hp
      · refine w_aload_n (pc := 23) hC dX11_stuck_23 1 rfl rfl ?_
        refine w_aload_n (pc := 24) hC dX11_stuck_24 0 rfl rfl ?_
        refine w_callV (pc := 25) (As := [.ref qb]) (rest := []) hC dX11_stuck_25 cv_X11_187 (c_X11_stuckBits (kl K) G A D T I F Q P S a qb (show RI S from by first | assumption | omega) (show LRn G.2.1 S I F Q P from by exact hL) (show 0 ≤ a ∧ a < S 1 from by first | assumption | omega) (show CLB P G.2.1 S a qb from by first | assumption | omega)) (by decide) ⟨Nat.le_of_ble_eq_true rfl, Nat.le_of_ble_eq_true rfl⟩ (q0 := 0) CW_0 rfl rfl rfl (Nat.le_of_ble_eq_true rfl) rfl (fun vo wo hv => ?_)
        obtain ⟨z25, b23_25, hv1, hw1, r25⟩ := hv
        rw [hv1, hw1]
        show WW K G 0 0 (CW A D T G.2.1 (au I 23 b23_25) F Q P) 28 [(3, .ref qb), (0, .ref (A 0)), (1, .int (J a)), (2, .int (J w))] [.int (J z25)]
        have r25 : PBI (S 6) (SC S a) (fun p _ => dg (S 6) p) z25 (if 1 ≤ S 0 then S 0 else 1) 0 := r25
        refine w_goto (pc := 28) hC dX11_stuck_28 (tgt := 36) (by decide) ?_
        refine w_iret (pc := 36) hC hRT dX11_stuck_36 rfl ?_
        refine ⟨z25, b23_25, rfl, rfl, ?_⟩
        · unfold VSTK
          rw [if_neg (by omega)]
          refine ⟨r25.1.1, ?_⟩
          rw [if_pos (by omega)]
          exact stk_0 hR (by split <;> omega) rfl r25
    · refine w_iconst (pc := 17) hC dX11_stuck_17 ?_
      refine w_iret (pc := 18) hC hRT dX11_stuck_18 rfl ?_
      refine ⟨(-1), (I 23), rfl, CW_cong (au_ms (k := 23) (v := I 23) rfl rfl rfl) rfl rfl, ?_⟩
      · unfold VSTK; rw [if_pos (by omega)]
  · rw [if_neg hc] at hv1
    rw [hv1, hw1]
    show WW K G 0 0 (CW A D T G.2.1 I F Q P) 5 [(0, .ref (A 0)), (1, .int (J a)), (2, .int (J w))] [.null]
    refine w_astore_nN (pc := 5) hC dX11_stuck_5 rfl (lv2 := [(3, .null), (0, .ref (A 0)), (1, .int (J a)), (2, .int (J w))]) (by rw [hnL]; decide) rfl ?_
    refine w_aload_nN (pc := 6) hC dX11_stuck_6 0 rfl rfl ?_
    refine w_ifnullN (pc := 7) (tgt := 17) hC dX11_stuck_7 (by decide) ?_
    refine w_iconst (pc := 17) hC dX11_stuck_17 ?_
    refine w_iret (pc := 18) hC hRT dX11_stuck_18 rfl ?_
    refine ⟨(-1), (I 23), rfl, CW_cong (au_ms (k := 23) (v := I 23) rfl rfl rfl) rfl rfl, ?_⟩
    · unfold VSTK; rw [if_pos (by omega)]
set_option maxRecDepth 100000 in
set_option maxHeartbeats 4000000 in
theorem c_X11_judged (l : Launch) (G : GT) (A D : Nat → Nat) (T : Nat) (I : Nat → Int → Int) (F : Nat → Int) (Q : Nat → Nat → Option Nat) (P : va_W) (S : Int → Int) (a : Int) (day : Int) (hR : RI S) (hL : LRn G.2.1 S I F Q P) (h0 : -2147483648 ≤ a ∧ a < 2147483648) (h1 : -2147483648 ≤ day ∧ day < 2147483648) : CT l yX11_judged cX11_judged 6 (some .int) 5 0 0 G [.ref (A 0), .int (J a), .int (J day)] (CW A D T G.2.1 I F Q P) (fun vo wo => ∃ (z : Int) (b23 : Int → Int), vo = some (.int (J z)) ∧ wo = CW A D T G.2.1 (au I 23 b23) F Q P ∧ (VJUD S a day z)) := by
  refine CT_of (own := RX11) rfl rfl (Nat.le_of_ble_eq_true rfl) (fun K hl hnL hC hRT hin => ?_)
  subst hl
  show WW K G 0 0 (CW A D T G.2.1 I F Q P) 0 [(0, .ref (A 0)), (1, .int (J a)), (2, .int (J day))] []
  have hn := hR.n
  have hbd := hR.bd
  have hrw := hR.rw
  refine w_aload_n (pc := 0) hC dX11_judged_0 0 rfl rfl ?_
  refine w_iload_n (pc := 1) hC dX11_judged_1 1 rfl rfl ?_
  refine w_callV (pc := 2) (As := [.int (J a)]) (rest := []) hC dX11_judged_2 cv_X11_112 (c_X11_clubAt (kl K) G A D T I F Q P S a (show RI S from by assumption) (show LRn G.2.1 S I F Q P from by exact hL) (show -2147483648 ≤ a ∧ a < 2147483648 from by omega)) (by decide) ⟨Nat.le_of_ble_eq_true rfl, Nat.le_of_ble_eq_true rfl⟩ (q0 := 0) CW_0 rfl rfl rfl (Nat.le_of_ble_eq_true rfl) rfl (fun vo wo hv => ?_)
  obtain ⟨hv1, hw1⟩ := hv
  by_cases hc : 0 ≤ a ∧ a < S 1
  · obtain ⟨qb, hQc, hcl⟩ := l_clb hL hc.1 hc.2
    rw [if_pos hc, hQc] at hv1
    rw [hv1, hw1]
    show WW K G 0 0 (CW A D T G.2.1 I F Q P) 5 [(0, .ref (A 0)), (1, .int (J a)), (2, .int (J day))] [.ref qb]
    refine w_astore_n (pc := 5) hC dX11_judged_5 rfl (lv2 := [(3, .ref qb), (0, .ref (A 0)), (1, .int (J a)), (2, .int (J day))]) (by rw [hnL]; decide) rfl ?_
    refine w_aload_n (pc := 6) hC dX11_judged_6 0 rfl rfl ?_
    refine w_ifnonnullR (pc := 7) (tgt := 12) hC dX11_judged_7 (by decide) ?_
    refine w_iload_n (pc := 12) hC dX11_judged_12 3 rfl rfl ?_
    refine w_callS (pc := 13) (As := [.int (J day)]) (rest := []) hC dX11_judged_13 cs_X11_116 (c_X11_isDay (kl K) G (CW A D T G.2.1 I F Q P) day (show -2147483648 ≤ day ∧ day < 2147483648 from by first | assumption | omega)) (by decide) ⟨Nat.le_of_ble_eq_true rfl, Nat.le_of_ble_eq_true rfl⟩ rfl (Nat.le_of_ble_eq_true rfl) rfl (fun vo wo hv => ?_)
    obtain ⟨hv1, hw1⟩ := hv
    rw [hv1, hw1]
    show WW K G 0 0 (CW A D T G.2.1 I F Q P) 16 [(3, .ref qb), (0, .ref (A 0)), (1, .int (J a)), (2, .int (J day))] [.int (J (bI (0 ≤ day ∧ day ≤ 999)))]
    refine w_if_ne_b (pc := 16) (tgt := 22) hC dX11_judged_16 (by decide) (fun c16 => ?_) (fun c16 => ?_)
    · refine w_aload_n (pc := 22) hC dX11_judged_22 1 rfl rfl ?_
      refine w_getf (pc := 23) (v := .ref (A 1)) hC dX11_judged_23 fi_X11_12 0 CW_0 rfl ?_
      refine w_getfN (pc := 26) (v := .int (J (S 4))) hC dX11_judged_26 fn_X11_201 1 CW_1 (congrArg (fun z : Int => some (Value.int (J z))) (l_rw hL)) ?_
      refine w_aload_n (pc := 29) hC dX11_judged_29 1 rfl rfl ?_
      refine w_getf (pc := 30) (v := .ref (A 1)) hC dX11_judged_30 fi_X11_12 0 CW_0 rfl ?_
      refine w_getfN (pc := 33) (v := .int (J (S 0))) hC dX11_judged_33 fn_X11_57 1 CW_1 (congrArg (fun z : Int => some (Value.int (J z))) (l_n hL)) ?_
      refine w_icmp_eq (pc := 36) (tgt := 42) hC dX11_judged_36 (by decide) (by omega) (fun c36 => ?_) (fun c36 => ?_)
      · refine w_iconst (pc := 42) hC dX11_judged_42 ?_
        refine w_istore (pc := 43) hC dX11_judged_43 (lv2 := [(4, .int (J 0)), (3, .ref qb), (0, .ref (A 0)), (1, .int (J a)), (2, .int (J day))]) (by rw [hnL]; decide) rfl ?_
        have loop45 : ∀ (nF : Nat) (k : Int) (a23_45 : Int → Int), (0 ≤ k) → (k ≤ S 0) → (∀ v : Int, 0 ≤ v → v < k → JDG S a day v = S (923 + v)) → (S 0 - k) < (nF : Int) → WW K G 0 0 (CW A D T G.2.1 (au I 23 a23_45) F Q P) 45 [(0, .ref (A 0)), (2, .int (J day)), (3, .ref qb), (4, .int (J k))] [] := by
          intro nF
          induction nF with
          | zero => intro k a23_45 i1 i2 i3 hm45; exact absurd hm45 (by omega)
          | succ nF ih45 =>
            intro k a23_45 i1 i2 i3 hm45
            refine w_iload (pc := 45) hC dX11_judged_45 3 rfl ?_
            refine w_aload_n (pc := 47) hC dX11_judged_47 0 rfl rfl ?_
            refine w_getf (pc := 48) (v := .ref (A 1)) hC dX11_judged_48 fi_X11_12 0 CW_0 rfl ?_
            refine w_getfN (pc := 51) (v := .int (J (S 0))) hC dX11_judged_51 fn_X11_57 1 CW_1 (congrArg (fun z : Int => some (Value.int (J z))) (l_n hL)) ?_
            refine w_icmp_ge (pc := 54) (tgt := 110) hC dX11_judged_54 (by decide) (by omega) (fun c54 => ?_) (fun c54 => ?_)
            · refine w_bipush (pc := 110) hC dX11_judged_110 (z := (-5)) rfl ?_
              refine w_iret (pc := 112) hC hRT dX11_judged_112 rfl ?_
              refine ⟨(-5), a23_45, rfl, rfl, ?_⟩
              · unfold VJUD
                rw [if_neg (by omega), if_neg (by omega), if_neg (by omega)]
                exact Or.inl ⟨rfl, fun v v0 v1 => i3 v v0 (by omega)⟩
            · have hrr := hR.rr (923 + k) (by omega) (by omega)
              refine w_aload_n (pc := 57) hC dX11_judged_57 0 rfl rfl ?_
              refine w_getf (pc := 58) (v := .ref (A 1)) hC dX11_judged_58 fi_X11_12 0 CW_0 rfl ?_
              refine w_getfN (pc := 61) (v := .ref (A 13)) hC dX11_judged_61 fn_X11_204 1 CW_1 rfl ?_
              refine w_iload (pc := 64) hC dX11_judged_64 3 rfl ?_
              refine w_ialdV (pc := 66) (g := (I 13)) (v := S (923 + k)) hC dX11_judged_66 13 CW_13 (by omega) (Nat.le_of_ble_eq_true rfl) (l_row hL (by omega) (by omega)) ?_
              refine w_iconst (pc := 67) hC dX11_judged_67 ?_
              refine w_icmp_ne (pc := 68) (tgt := 76) hC dX11_judged_68 (by decide) (by omega) (fun c68 => ?_) (fun c68 => ?_)
              · refine w_aload_n (pc := 76) hC dX11_judged_76 0 rfl rfl ?_
                refine w_getf (pc := 77) (v := .ref (A 1)) hC dX11_judged_77 fi_X11_12 0 CW_0 rfl ?_
                refine w_getfN (pc := 80) (v := .ref (A 13)) hC dX11_judged_80 fn_X11_204 1 CW_1 rfl ?_
                refine w_iload (pc := 83) hC dX11_judged_83 3 rfl ?_
                refine w_ialdV (pc := 85) (g := (I 13)) (v := S (923 + k)) hC dX11_judged_85 13 CW_13 (by omega) (Nat.le_of_ble_eq_true rfl) (l_row hL (by omega) (by omega)) ?_
                refine w_istore (pc := 86) hC dX11_judged_86 (lv2 := [(5, .int (J (S (923 + k)))), (0, .ref (A 0)), (2, .int (J day)), (3, .ref qb), (4, .int (J k))]) (by rw [hnL]; decide) rfl ?_
                refine w_aload_n (pc := 88) hC dX11_judged_88 1 rfl rfl ?_
                refine w_aload_n (pc := 89) hC dX11_judged_89 3 rfl rfl ?_
                refine w_iload (pc := 90) hC dX11_judged_90 4 rfl ?_
                refine w_iload_n (pc := 92) hC dX11_judged_92 2 rfl rfl ?_
                refine w_callV (pc := 93) (As := [.ref qb, .int (J k), .int (J day)]) (rest := []) hC dX11_judged_93 cv_X11_139 (c_X11_whomToday (kl K) G A D T (au I 23 a23_45) F Q P S a qb k day (show RI S from by first | assumption | omega) (show LRn G.2.1 S (au I 23 a23_45) F Q P from by exact (LRb_au (by decide) hL)) (show 0 ≤ a ∧ a < S 1 from by first | assumption | omega) (show CLB P G.2.1 S a qb from by first | assumption | omega) (show 0 ≤ k ∧ k < S 0 from by first | assumption | omega) (show 0 ≤ day ∧ day ≤ 5000 from by first | assumption | omega)) (by decide) ⟨Nat.le_of_ble_eq_true rfl, Nat.le_of_ble_eq_true rfl⟩ (q0 := 0) CW_0 rfl rfl rfl (Nat.le_of_ble_eq_true rfl) rfl (fun vo wo hv => ?_)
                obtain ⟨b23_93, hv1, hw1⟩ := hv
                rw [hv1, hw1]
                refine w_weq (CW_cong (au_th rfl au_rp) rfl rfl) ?_
                show WW K G 0 0 (CW A D T G.2.1 (au I 23 b23_93) F Q P) 96 [(5, .int (J (S (923 + k)))), (0, .ref (A 0)), (2, .int (J day)), (3, .ref qb), (4, .int (J k))] [.int (J (ASK S a (-1) (S 6) k day))]
                have q93_0 := @ASK_in S a (-1) (S 6) k day (by first | exact hR.bd | exact (by assumption : RI S).bd) (by omega)
                refine w_iload (pc := 96) hC dX11_judged_96 0 rfl ?_
                refine w_icmp_eq (pc := 98) (tgt := 104) hC dX11_judged_98 (by decide) (by omega) (fun c98 => ?_) (fun c98 => ?_)
                · refine w_iinc (pc := 104) hC dX11_judged_104 (lv2 := [(4, .int (J (k + 1))), (5, .int (J (S (923 + k)))), (0, .ref (A 0)), (2, .int (J day)), (3, .ref qb)]) 4 rfl (by rw [hnL]; decide) rfl ?_
                  refine w_goto (pc := 107) hC dX11_judged_107 (tgt := 45) (by decide) ?_
                  refine w_sub [2, 3, 4, 0] (lv2 := [(0, .ref (A 0)), (2, .int (J day)), (3, .ref qb), (4, .int (J (k + 1)))]) rfl ?_
                  refine ih45 (k + 1) b23_93 ?_ ?_ ?_ ?_
                  · first | assumption | omega
                  · first | assumption | omega
                  · intro v v0 v1; rcases (show v = k ∨ v < k by omega) with e | e; (subst e; unfold JDG; first | rw [if_pos (by omega)]; omega | rw [if_neg (by omega)]; omega); exact i3 v v0 e
                  · omega
                · refine w_iload (pc := 101) hC dX11_judged_101 4 rfl ?_
                  refine w_iret (pc := 103) hC hRT dX11_judged_103 rfl ?_
                  refine ⟨k, b23_93, rfl, rfl, ?_⟩
                  · unfold VJUD
                    rw [if_neg (by omega), if_neg (by omega), if_neg (by omega)]
                    refine Or.inr ⟨by omega, ?_, fun v v0 v1 => i3 v v0 v1⟩
                    unfold JDG
                    split <;> omega
              · refine w_bipush (pc := 71) hC dX11_judged_71 (z := (-5)) rfl ?_
                refine w_goto (pc := 73) hC dX11_judged_73 (tgt := 86) (by decide) ?_
                refine w_istore (pc := 86) hC dX11_judged_86 (lv2 := [(5, .int (J (-5))), (0, .ref (A 0)), (2, .int (J day)), (3, .ref qb), (4, .int (J k))]) (by rw [hnL]; decide) rfl ?_
                refine w_aload_n (pc := 88) hC dX11_judged_88 1 rfl rfl ?_
                refine w_aload_n (pc := 89) hC dX11_judged_89 3 rfl rfl ?_
                refine w_iload (pc := 90) hC dX11_judged_90 4 rfl ?_
                refine w_iload_n (pc := 92) hC dX11_judged_92 2 rfl rfl ?_
                refine w_callV (pc := 93) (As := [.ref qb, .int (J k), .int (J day)]) (rest := []) hC dX11_judged_93 cv_X11_139 (c_X11_whomToday (kl K) G A D T (au I 23 a23_45) F Q P S a qb k day (show RI S from by first | assumption | omega) (show LRn G.2.1 S (au I 23 a23_45) F Q P from by exact (LRb_au (by decide) hL)) (show 0 ≤ a ∧ a < S 1 from by first | assumption | omega) (show CLB P G.2.1 S a qb from by first | assumption | omega) (show 0 ≤ k ∧ k < S 0 from by first | assumption | omega) (show 0 ≤ day ∧ day ≤ 5000 from by first | assumption | omega)) (by decide) ⟨Nat.le_of_ble_eq_true rfl, Nat.le_of_ble_eq_true rfl⟩ (q0 := 0) CW_0 rfl rfl rfl (Nat.le_of_ble_eq_true rfl) rfl (fun vo wo hv => ?_)
                obtain ⟨b23_93, hv1, hw1⟩ := hv
                rw [hv1, hw1]
                refine w_weq (CW_cong (au_th rfl au_rp) rfl rfl) ?_
                show WW K G 0 0 (CW A D T G.2.1 (au I 23 b23_93) F Q P) 96 [(5, .int (J (-5))), (0, .ref (A 0)), (2, .int (J day)), (3, .ref qb), (4, .int (J k))] [.int (J (ASK S a (-1) (S 6) k day))]
                have q93_0 := @ASK_in S a (-1) (S 6) k day (by first | exact hR.bd | exact (by assumption : RI S).bd) (by omega)
                refine w_iload (pc := 96) hC dX11_judged_96 0 rfl ?_
                refine w_icmp_eq (pc := 98) (tgt := 104) hC dX11_judged_98 (by decide) (by omega) (fun c98 => ?_) (fun c98 => ?_)
                · refine w_iinc (pc := 104) hC dX11_judged_104 (lv2 := [(4, .int (J (k + 1))), (5, .int (J (-5))), (0, .ref (A 0)), (2, .int (J day)), (3, .ref qb)]) 4 rfl (by rw [hnL]; decide) rfl ?_
                  refine w_goto (pc := 107) hC dX11_judged_107 (tgt := 45) (by decide) ?_
                  refine w_sub [2, 3, 4, 0] (lv2 := [(0, .ref (A 0)), (2, .int (J day)), (3, .ref qb), (4, .int (J (k + 1)))]) rfl ?_
                  refine ih45 (k + 1) b23_93 ?_ ?_ ?_ ?_
                  · first | assumption | omega
                  · first | assumption | omega
                  · intro v v0 v1; rcases (show v = k ∨ v < k by omega) with e | e; (subst e; unfold JDG; first | rw [if_pos (by omega)]; omega | rw [if_neg (by omega)]; omega); exact i3 v v0 e
                  · omega
                · refine w_iload (pc := 101) hC dX11_judged_101 4 rfl ?_
                  refine w_iret (pc := 103) hC hRT dX11_judged_103 rfl ?_
                  refine ⟨k, b23_93, rfl, rfl, ?_⟩
                  · unfold VJUD
                    rw [if_neg (by omega), if_neg (by omega), if_neg (by omega)]
                    refine Or.inr ⟨by omega, ?_, fun v v0 v1 => i3 v v0 v1⟩
                    unfold JDG
                    split <;> omega
        refine w_weq (CW_cong (au_ms (k := 23) (v := I 23) rfl rfl rfl) rfl rfl) ?_
        refine w_sub [2, 4, 1, 0] (lv2 := [(0, .ref (A 0)), (2, .int (J day)), (3, .ref qb), (4, .int (J 0))]) rfl ?_
        refine loop45 ((S 0 - 0) + 1 : Int).toNat 0 (I 23) ?_ ?_ ?_ ?_
        · first | assumption | omega
        · first | assumption | omega
        · intro v v0 v1; omega
        · omega
      · refine w_bipush (pc := 39) hC dX11_judged_39 (z := (-3)) rfl ?_
        refine w_iret (pc := 41) hC hRT dX11_judged_41 rfl ?_
        refine ⟨(-3), (I 23), rfl, CW_cong (au_ms (k := 23) (v := I 23) rfl rfl rfl) rfl rfl, ?_⟩
        · unfold VJUD; rw [if_neg (by omega), if_neg (by omega), if_pos (by omega)]
    · refine w_bipush (pc := 19) hC dX11_judged_19 (z := (-2)) rfl ?_
      refine w_iret (pc := 21) hC hRT dX11_judged_21 rfl ?_
      refine ⟨(-2), (I 23), rfl, CW_cong (au_ms (k := 23) (v := I 23) rfl rfl rfl) rfl rfl, ?_⟩
      · unfold VJUD; rw [if_neg (by omega), if_pos (by omega)]
  · rw [if_neg hc] at hv1
    rw [hv1, hw1]
    show WW K G 0 0 (CW A D T G.2.1 I F Q P) 5 [(0, .ref (A 0)), (1, .int (J a)), (2, .int (J day))] [.null]
    refine w_astore_nN (pc := 5) hC dX11_judged_5 rfl (lv2 := [(3, .null), (0, .ref (A 0)), (1, .int (J a)), (2, .int (J day))]) (by rw [hnL]; decide) rfl ?_
    refine w_aload_nN (pc := 6) hC dX11_judged_6 0 rfl rfl ?_
    refine w_ifnonnullN (pc := 7) hC dX11_judged_7 ?_
    refine w_iconst (pc := 10) hC dX11_judged_10 ?_
    refine w_iret (pc := 11) hC hRT dX11_judged_11 rfl ?_
    refine ⟨(-1), (I 23), rfl, CW_cong (au_ms (k := 23) (v := I 23) rfl rfl rfl) rfl rfl, ?_⟩
    · unfold VJUD; rw [if_pos (by omega)]
set_option maxRecDepth 100000 in
set_option maxHeartbeats 4000000 in
theorem c_X11_ought (l : Launch) (G : GT) (A D : Nat → Nat) (T : Nat) (I : Nat → Int → Int) (F : Nat → Int) (Q : Nat → Nat → Option Nat) (P : va_W) (S : Int → Int) (a : Int) (n : Int) (nm : Int) (hR : RI S) (hL : LRn G.2.1 S I F Q P) (h0 : -2147483648 ≤ a ∧ a < 2147483648) (h1 : -2147483648 ≤ n ∧ n < 2147483648) (h2 : -2147483648 ≤ nm ∧ nm < 2147483648) : CT l yX11_ought cX11_ought 13 (some .int) 6 0 0 G [.ref (A 0), .int (J a), .int (J n), .int (J nm)] (CW A D T G.2.1 I F Q P) (fun vo wo => ∃ (D : Nat → Nat) (b23 : Int → Int) (b50 : Int → Int) (b51 : Int → Int) (b52 : Int → Int) (b53 : Int → Int) (b54 : Int → Int) (g30 : Int) (g31 : Int) (g32 : Int), vo = some (.int (J (v_ought S a n nm))) ∧ wo = CW A D T G.2.1 (au (au (au (au (au (au I 23 b23) 50 b50) 51 b51) 52 b52) 53 b53) 54 b54) (fu (fu (fu F 30 g30) 31 g31) 32 g32) Q P) := by
  refine CT_of (own := RX11) rfl rfl (Nat.le_of_ble_eq_true rfl) (fun K hl hnL hC hRT hin => ?_)
  subst hl
  show WW K G 0 0 (CW A D T G.2.1 I F Q P) 0 [(0, .ref (A 0)), (1, .int (J a)), (2, .int (J n)), (3, .int (J nm))] []
  have hn := hR.n
  have hbd := hR.bd
  have htd := hR.td
  refine w_aload_n (pc := 0) hC dX11_ought_0 0 rfl rfl ?_
  refine w_iload_n (pc := 1) hC dX11_ought_1 1 rfl rfl ?_
  refine w_callV (pc := 2) (As := [.int (J a)]) (rest := []) hC dX11_ought_2 cv_X11_112 (c_X11_clubAt (kl K) G A D T I F Q P S a (show RI S from by assumption) (show LRn G.2.1 S I F Q P from by exact hL) (show -2147483648 ≤ a ∧ a < 2147483648 from by omega)) (by decide) ⟨Nat.le_of_ble_eq_true rfl, Nat.le_of_ble_eq_true rfl⟩ (q0 := 0) CW_0 rfl rfl rfl (Nat.le_of_ble_eq_true rfl) rfl (fun vo wo hv => ?_)
  obtain ⟨hv1, hw1⟩ := hv
  by_cases hc : 0 ≤ a ∧ a < S 1
  · obtain ⟨qb, hQc, hcl⟩ := l_clb hL hc.1 hc.2
    rw [if_pos hc, hQc] at hv1
    rw [hv1, hw1]
    show WW K G 0 0 (CW A D T G.2.1 I F Q P) 5 [(0, .ref (A 0)), (1, .int (J a)), (2, .int (J n)), (3, .int (J nm))] [.ref qb]
    refine w_astore (pc := 5) hC dX11_ought_5 (lv2 := [(4, .ref qb), (0, .ref (A 0)), (1, .int (J a)), (2, .int (J n)), (3, .int (J nm))]) (by rw [hnL]; decide) rfl ?_
    refine w_aload (pc := 7) hC dX11_ought_7 0 rfl ?_
    refine w_ifnullR (pc := 9) hC dX11_ought_9 ?_
    refine w_aload_n (pc := 12) hC dX11_ought_12 1 rfl rfl ?_
    refine w_iload_n (pc := 13) hC dX11_ought_13 4 rfl rfl ?_
    refine w_callV (pc := 14) (As := [.int (J nm)]) (rest := []) hC dX11_ought_14 cv_X11_64 (c_X11_isName (kl K) G A D T I F Q P S nm (show RI S from by first | assumption | omega) (show LRn G.2.1 S I F Q P from by exact hL) (show -2147483648 ≤ nm ∧ nm < 2147483648 from by first | assumption | omega)) (by decide) ⟨Nat.le_of_ble_eq_true rfl, Nat.le_of_ble_eq_true rfl⟩ (q0 := 0) CW_0 rfl rfl rfl (Nat.le_of_ble_eq_true rfl) rfl (fun vo wo hv => ?_)
    obtain ⟨hv1, hw1⟩ := hv
    rw [hv1, hw1]
    show WW K G 0 0 (CW A D T G.2.1 I F Q P) 17 [(4, .ref qb), (0, .ref (A 0)), (1, .int (J a)), (2, .int (J n)), (3, .int (J nm))] [.int (J (bI (0 ≤ nm ∧ nm < S 0)))]
    refine w_if_ne_b (pc := 17) (tgt := 22) hC dX11_ought_17 (by decide) (fun c17 => ?_) (fun c17 => ?_)
    · refine w_iload_n (pc := 22) hC dX11_ought_22 3 rfl rfl ?_
      refine w_iconst (pc := 23) hC dX11_ought_23 ?_
      refine w_icmp_lt (pc := 24) (tgt := 33) hC dX11_ought_24 (by decide) (by omega) (fun c24 => ?_) (fun c24 => ?_)
      · refine w_bipush (pc := 33) hC dX11_ought_33 (z := (-2)) rfl ?_
        refine w_iret (pc := 35) hC hRT dX11_ought_35 rfl ?_
        refine ⟨D, (I 23), (I 50), (I 51), (I 52), (I 53), (I 54), (F 30), (F 31), (F 32), retI (by unfold v_ought; rw [if_neg (by omega), if_pos (by omega)]), CW_cong (au_ms (k := 23) (v := I 23) rfl rfl (au_ms (k := 50) (v := I 50) rfl rfl (au_ms (k := 51) (v := I 51) rfl rfl (au_ms (k := 52) (v := I 52) rfl rfl (au_ms (k := 53) (v := I 53) rfl rfl (au_ms (k := 54) (v := I 54) rfl rfl rfl)))))) (fu_ms (k := 30) (v := F 30) rfl rfl (fu_ms (k := 31) (v := F 31) rfl rfl (fu_ms (k := 32) (v := F 32) rfl rfl rfl))) rfl⟩
      · refine w_iload_n (pc := 27) hC dX11_ought_27 3 rfl rfl ?_
        refine w_bipush (pc := 28) hC dX11_ought_28 (z := 6) rfl ?_
        refine w_icmp_le (pc := 30) (tgt := 36) hC dX11_ought_30 (by decide) (by omega) (fun c30 => ?_) (fun c30 => ?_)
        · have hmd := Int.emod_nonneg (S 2) (show S 0 ≠ 0 by omega)
          have hml := Int.emod_lt_of_pos (S 2) (show 0 < S 0 by omega)
          have hrg : 0 ≤ S 0 - 1 - S 2 % S 0 ∧ S 0 - 1 - S 2 % S 0 < S 0 := by omega
          have hdg := VB_dg hR.bd hrg.1 hrg.2
          refine w_aload_n (pc := 36) hC dX11_ought_36 1 rfl rfl ?_
          refine w_getf (pc := 37) (v := .ref (A 1)) hC dX11_ought_37 fi_X11_12 0 CW_0 rfl ?_
          refine w_aload_n (pc := 40) hC dX11_ought_40 1 rfl rfl ?_
          refine w_getf (pc := 41) (v := .ref (A 1)) hC dX11_ought_41 fi_X11_12 0 CW_0 rfl ?_
          refine w_getfN (pc := 44) (v := .int (J (S 2))) hC dX11_ought_44 fn_X11_143 1 CW_1 (congrArg (fun z : Int => some (Value.int (J z))) (l_td hL)) ?_
          refine w_callV (pc := 47) (As := [.int (J (S 2))]) (rest := []) hC dX11_ought_47 cv_X11_194 (c_X6_turn (kl K) G A D T I F Q P S (S 2) (show RI S from by first | assumption | omega) (show LRn G.2.1 S I F Q P from by exact hL) (show 0 ≤ (S 2) ∧ (S 2) < 2147483648 from by first | assumption | omega)) (by decide) ⟨Nat.le_of_ble_eq_true rfl, Nat.le_of_ble_eq_true rfl⟩ (q0 := 1) CW_1 rfl rfl rfl (Nat.le_of_ble_eq_true rfl) rfl (fun vo wo hv => ?_)
          obtain ⟨hv1, hw1⟩ := hv
          rw [hv1, hw1]
          show WW K G 0 0 (CW A D T G.2.1 I F Q P) 50 [(4, .ref qb), (0, .ref (A 0)), (1, .int (J a)), (2, .int (J n)), (3, .int (J nm))] [.int (J (if S 0 = 0 then 0 else S 0 - 1 - (S 2) % S 0))]
          refine w_top (e2 := S 0 - 1 - S 2 % S 0) (by rw [if_neg (by omega)]) ?_
          refine w_istore (pc := 50) hC dX11_ought_50 (lv2 := [(5, .int (J (S 0 - 1 - S 2 % S 0))), (4, .ref qb), (0, .ref (A 0)), (1, .int (J a)), (2, .int (J n)), (3, .int (J nm))]) (by rw [hnL]; decide) rfl ?_
          refine w_aload_n (pc := 52) hC dX11_ought_52 2 rfl rfl ?_
          refine w_getf (pc := 53) (v := .ref (A 1)) hC dX11_ought_53 fi_X11_12 0 CW_0 rfl ?_
          refine w_getfN (pc := 56) (v := .ref (A 2)) hC dX11_ought_56 fn_X11_61 1 CW_1 rfl ?_
          refine w_iload (pc := 59) hC dX11_ought_59 0 rfl ?_
          refine w_ialdV (pc := 61) (g := (I 2)) (v := dg (S 6) (S 0 - 1 - S 2 % S 0)) hC dX11_ought_61 2 CW_2 (by omega) (Nat.le_of_ble_eq_true rfl) (l_bd hL (by omega) (by omega)) ?_
          refine w_iload_n (pc := 62) hC dX11_ought_62 5 rfl rfl ?_
          refine w_icmp_eq (pc := 63) (tgt := 69) hC dX11_ought_63 (by decide) (by omega) (fun c63 => ?_) (fun c63 => ?_)
          · refine w_aload_n (pc := 69) hC dX11_ought_69 2 rfl rfl ?_
            refine w_getf (pc := 70) (v := .ref (A 1)) hC dX11_ought_70 fi_X11_12 0 CW_0 rfl ?_
            refine w_aload (pc := 73) hC dX11_ought_73 1 rfl ?_
            refine w_aload_n (pc := 75) hC dX11_ought_75 2 rfl rfl ?_
            refine w_getf (pc := 76) (v := .ref (A 1)) hC dX11_ought_76 fi_X11_12 0 CW_0 rfl ?_
            refine w_getfN (pc := 79) (v := .ref (A 2)) hC dX11_ought_79 fn_X11_61 1 CW_1 rfl ?_
            refine w_iload (pc := 82) hC dX11_ought_82 0 rfl ?_
            refine w_aload_n (pc := 84) hC dX11_ought_84 2 rfl rfl ?_
            refine w_getf (pc := 85) (v := .ref (A 1)) hC dX11_ought_85 fi_X11_12 0 CW_0 rfl ?_
            refine w_getfN (pc := 88) (v := .int (J (S 2))) hC dX11_ought_88 fn_X11_143 1 CW_1 (congrArg (fun z : Int => some (Value.int (J z))) (l_td hL)) ?_
            refine w_callV (pc := 91) (As := [.ref qb, .ref (A 2), .int (J (S 0 - 1 - S 2 % S 0)), .int (J (S 2))]) (rest := []) hC dX11_ought_91 cv_X11_119 (c_X6_mayBits_v2 (kl K) G A D T I F Q P S a (S 6) qb (S 0 - 1 - S 2 % S 0) (S 2) (show RI S from by first | assumption | omega) (show LRn G.2.1 S I F Q P from by exact hL) (show 0 ≤ a ∧ a < S 1 from by first | assumption | omega) (show CLB P G.2.1 S a qb from by first | assumption | omega) (show VB (S 0) (S 6) from by exact hR.bd) (show ∀ r : Int, 0 ≤ r → r < S 0 → (I 2) r = dg (S 6) r from by exact fun r r0 r1 => l_bd hL r0 r1) (show 0 ≤ (S 0 - 1 - S 2 % S 0) ∧ (S 0 - 1 - S 2 % S 0) < S 0 from by exact hrg) (show 0 ≤ (S 2) ∧ (S 2) ≤ 5000 from by first | assumption | omega)) (by decide) ⟨Nat.le_of_ble_eq_true rfl, Nat.le_of_ble_eq_true rfl⟩ (q0 := 1) CW_1 rfl rfl rfl (Nat.le_of_ble_eq_true rfl) rfl (fun vo wo hv => ?_)
            obtain ⟨b23_91, hv1, hw1⟩ := hv
            rw [hv1, hw1]
            show WW K G 0 0 (CW A D T G.2.1 (au I 23 b23_91) F Q P) 94 [(5, .int (J (S 0 - 1 - S 2 % S 0))), (4, .ref qb), (0, .ref (A 0)), (1, .int (J a)), (2, .int (J n)), (3, .int (J nm))] [.int (J (MSK S a (-1) (S 6) (dg (S 6) (S 0 - 1 - S 2 % S 0)) (S 2)))]
            have q91_0 := @MSK_bd S a (-1) (S 6) (dg (S 6) (S 0 - 1 - S 2 % S 0)) (S 2) (by assumption) (by first | exact VB_dg (by assumption) (by omega) (by omega) | omega)
            refine w_istore (pc := 94) hC dX11_ought_94 (lv2 := [(6, .int (J (MSK S a (-1) (S 6) (dg (S 6) (S 0 - 1 - S 2 % S 0)) (S 2)))), (5, .int (J (S 0 - 1 - S 2 % S 0))), (4, .ref qb), (0, .ref (A 0)), (1, .int (J a)), (2, .int (J n)), (3, .int (J nm))]) (by rw [hnL]; decide) rfl ?_
            refine w_bipush (pc := 96) hC dX11_ought_96 (z := (-5)) rfl ?_
            refine w_istore (pc := 98) hC dX11_ought_98 (lv2 := [(7, .int (J (-5))), (6, .int (J (MSK S a (-1) (S 6) (dg (S 6) (S 0 - 1 - S 2 % S 0)) (S 2)))), (5, .int (J (S 0 - 1 - S 2 % S 0))), (4, .ref qb), (0, .ref (A 0)), (1, .int (J a)), (2, .int (J n)), (3, .int (J nm))]) (by rw [hnL]; decide) rfl ?_
            refine w_aload_n (pc := 100) hC dX11_ought_100 4 rfl rfl ?_
            refine w_aload (pc := 101) hC dX11_ought_101 3 rfl ?_
            refine w_iload_n (pc := 103) hC dX11_ought_103 6 rfl rfl ?_
            refine w_iload_n (pc := 104) hC dX11_ought_104 7 rfl rfl ?_
            refine w_bipush (pc := 105) hC dX11_ought_105 (z := (-5)) rfl ?_
            refine w_callV (pc := 107) (As := [.ref qb, .int (J n), .int (J nm), .int (J (-5))]) (rest := []) hC dX11_ought_107 cv_X11_197 (c_X11_rungsHavingAsked (kl K) G A D T (au I 23 b23_91) F Q P S a qb n nm (-5) (show RI S from by first | assumption | omega) (show LRn G.2.1 S (au I 23 b23_91) F Q P from by exact (LRb_au (by decide) hL)) (show 0 ≤ a ∧ a < S 1 from by first | assumption | omega) (show CLB P G.2.1 S a qb from by first | assumption | omega) (show 0 < S 0 from by first | assumption | omega) (show 1 ≤ n ∧ n ≤ 6 from by first | assumption | omega) (show 0 ≤ nm ∧ nm < S 0 from by first | assumption | omega) (show (-5) = -5 ∨ ((0 ≤ (-5) ∧ (-5) < S 0) ∧ rk (S 0) (S 6) (-5) < S 0 - 1 - S 2 % S 0) from by exact Or.inl rfl)) (by decide) ⟨Nat.le_of_ble_eq_true rfl, Nat.le_of_ble_eq_true rfl⟩ (q0 := 0) CW_0 rfl rfl rfl (Nat.le_of_ble_eq_true rfl) rfl (fun vo wo hv => ?_)
            obtain ⟨D_107, b23_107, b50_107, b51_107, b52_107, b53_107, b54_107, g30_107, g31_107, g32_107, hv1, hw1, r107⟩ := hv
            rw [hv1, hw1]
            refine w_weq (CW_cong (au_th (au_th (au_th (au_th (au_th (au_th rfl au_rp) rfl) rfl) rfl) rfl) rfl) rfl rfl) ?_
            show WW K G 0 0 (CW A D_107 T G.2.1 (au (au (au (au (au (au I 23 b23_107) 50 b50_107) 51 b51_107) 52 b52_107) 53 b53_107) 54 b54_107) (fu (fu (fu F 30 g30_107) 31 g31_107) 32 g32_107) Q P) 110 [(7, .int (J (-5))), (6, .int (J (MSK S a (-1) (S 6) (dg (S 6) (S 0 - 1 - S 2 % S 0)) (S 2)))), (5, .int (J (S 0 - 1 - S 2 % S 0))), (4, .ref qb), (0, .ref (A 0)), (1, .int (J a)), (2, .int (J n)), (3, .int (J nm))] [.long (JL (EXP S a (-1) (-5) n.toNat (fun b => rk (S 0) b nm) (S 6)))]
            have r107 : 0 ≤ EXP S a (-1) (-5) n.toNat (fun b => rk (S 0) b nm) (S 6) ∧ EXP S a (-1) (-5) n.toNat (fun b => rk (S 0) b nm) (S 6) ≤ 6000000000000 := r107
            refine w_lstore (pc := 110) hC dX11_ought_110 (lv2 := [(8, .long (JL (EXP S a (-1) (-5) n.toNat (fun b => rk (S 0) b nm) (S 6)))), (7, .int (J (-5))), (6, .int (J (MSK S a (-1) (S 6) (dg (S 6) (S 0 - 1 - S 2 % S 0)) (S 2)))), (5, .int (J (S 0 - 1 - S 2 % S 0))), (4, .ref qb), (0, .ref (A 0)), (1, .int (J a)), (2, .int (J n)), (3, .int (J nm))]) (by rw [hnL]; decide) rfl ?_
            refine w_iconst (pc := 112) hC dX11_ought_112 ?_
            refine w_istore (pc := 113) hC dX11_ought_113 (lv2 := [(10, .int (J 0)), (8, .long (JL (EXP S a (-1) (-5) n.toNat (fun b => rk (S 0) b nm) (S 6)))), (7, .int (J (-5))), (6, .int (J (MSK S a (-1) (S 6) (dg (S 6) (S 0 - 1 - S 2 % S 0)) (S 2)))), (5, .int (J (S 0 - 1 - S 2 % S 0))), (4, .ref qb), (0, .ref (A 0)), (1, .int (J a)), (2, .int (J n)), (3, .int (J nm))]) (by rw [hnL]; decide) rfl ?_
            have loop115 : ∀ (nF : Nat) (x : Int) (ls : Int) (b : Int) (D_115 : Nat → Nat) (a23_115 : Int → Int) (a50_115 : Int → Int) (a51_115 : Int → Int) (a52_115 : Int → Int) (a53_115 : Int → Int) (a54_115 : Int → Int) (f30_115 : Int) (f31_115 : Int) (f32_115 : Int), (0 ≤ b) → (b ≤ S 0) → (x = (ouF S a n nm b.toNat).1 ∧ ls = (ouF S a n nm b.toNat).2) → (0 ≤ ls ∧ ls ≤ 6000000000000) → (S 0 - b) < (nF : Int) → WW K G 0 0 (CW A D_115 T G.2.1 (au (au (au (au (au (au I 23 a23_115) 50 a50_115) 51 a51_115) 52 a52_115) 53 a53_115) 54 a54_115) (fu (fu (fu F 30 f30_115) 31 f31_115) 32 f32_115) Q P) 115 [(0, .ref (A 0)), (2, .int (J n)), (3, .int (J nm)), (4, .ref qb), (6, .int (J (MSK S a (-1) (S 6) (dg (S 6) (S 0 - 1 - S 2 % S 0)) (S 2)))), (7, .int (J x)), (8, .long (JL ls)), (10, .int (J b))] [] := by
              intro nF
              induction nF with
              | zero => intro x ls b D_115 a23_115 a50_115 a51_115 a52_115 a53_115 a54_115 f30_115 f31_115 f32_115 i1 i2 i3 i4 hm115; exact absurd hm115 (by omega)
              | succ nF ih115 =>
                intro x ls b D_115 a23_115 a50_115 a51_115 a52_115 a53_115 a54_115 f30_115 f31_115 f32_115 i1 i2 i3 i4 hm115
                refine w_iload (pc := 115) hC dX11_ought_115 7 rfl ?_
                refine w_aload_n (pc := 117) hC dX11_ought_117 0 rfl rfl ?_
                refine w_getf (pc := 118) (v := .ref (A 1)) hC dX11_ought_118 fi_X11_12 0 CW_0 rfl ?_
                refine w_getfN (pc := 121) (v := .int (J (S 0))) hC dX11_ought_121 fn_X11_57 1 CW_1 (congrArg (fun z : Int => some (Value.int (J z))) (l_n hL)) ?_
                refine w_icmp_ge (pc := 124) (tgt := 171) hC dX11_ought_124 (by decide) (by omega) (fun c124 => ?_) (fun c124 => ?_)
                · refine w_iload (pc := 171) hC dX11_ought_171 5 rfl ?_
                  refine w_iret (pc := 173) hC hRT dX11_ought_173 rfl ?_
                  refine ⟨D_115, a23_115, a50_115, a51_115, a52_115, a53_115, a54_115, f30_115, f31_115, f32_115, retI (by unfold v_ought; rw [show TRN S (S 6) (S 2) = dg (S 6) (S 0 - 1 - S 2 % S 0) from rfl, if_neg (by omega), if_neg (by omega), if_neg (fun h9 : ¬ dg (S 6) (S 0 - 1 - S 2 % S 0) = nm => h9 c63), i3.1, show b = S 0 by omega]), rfl⟩
                · refine w_iload (pc := 127) hC dX11_ought_127 4 rfl ?_
                  refine w_iload (pc := 129) hC dX11_ought_129 7 rfl ?_
                  refine w_callS (pc := 131) (As := [.int (J (MSK S a (-1) (S 6) (dg (S 6) (S 0 - 1 - S 2 % S 0)) (S 2))), .int (J b)]) (rest := []) hC dX11_ought_131 cs_X11_146 (c_X11_holds (kl K) G (CW A D_115 T G.2.1 (au (au (au (au (au (au I 23 a23_115) 50 a50_115) 51 a51_115) 52 a52_115) 53 a53_115) 54 a54_115) (fu (fu (fu F 30 f30_115) 31 f31_115) 32 f32_115) Q P) (MSK S a (-1) (S 6) (dg (S 6) (S 0 - 1 - S 2 % S 0)) (S 2)) b (show 0 ≤ (MSK S a (-1) (S 6) (dg (S 6) (S 0 - 1 - S 2 % S 0)) (S 2)) ∧ (MSK S a (-1) (S 6) (dg (S 6) (S 0 - 1 - S 2 % S 0)) (S 2)) < 2147483648 from by first | assumption | omega) (show 0 ≤ b ∧ b < 32 from by first | assumption | omega)) (by decide) ⟨Nat.le_of_ble_eq_true rfl, Nat.le_of_ble_eq_true rfl⟩ rfl (Nat.le_of_ble_eq_true rfl) rfl (fun vo wo hv => ?_)
                  obtain ⟨hv1, hw1⟩ := hv
                  rw [hv1, hw1]
                  show WW K G 0 0 (CW A D_115 T G.2.1 (au (au (au (au (au (au I 23 a23_115) 50 a50_115) 51 a51_115) 52 a52_115) 53 a53_115) 54 a54_115) (fu (fu (fu F 30 f30_115) 31 f31_115) 32 f32_115) Q P) 134 [(0, .ref (A 0)), (2, .int (J n)), (3, .int (J nm)), (4, .ref qb), (6, .int (J (MSK S a (-1) (S 6) (dg (S 6) (S 0 - 1 - S 2 % S 0)) (S 2)))), (7, .int (J x)), (8, .long (JL ls)), (10, .int (J b))] [.int (J (bI ((MSK S a (-1) (S 6) (dg (S 6) (S 0 - 1 - S 2 % S 0)) (S 2)) / 2 ^ b.toNat % 2 = 1)))]
                  refine w_if_eq_b (pc := 134) (tgt := 165) hC dX11_ought_134 (by decide) (fun c134 => ?_) (fun c134 => ?_)
                  · refine w_iinc (pc := 165) hC dX11_ought_165 (lv2 := [(10, .int (J (b + 1))), (0, .ref (A 0)), (2, .int (J n)), (3, .int (J nm)), (4, .ref qb), (6, .int (J (MSK S a (-1) (S 6) (dg (S 6) (S 0 - 1 - S 2 % S 0)) (S 2)))), (7, .int (J x)), (8, .long (JL ls))]) 7 rfl (by rw [hnL]; decide) rfl ?_
                    refine w_goto (pc := 168) hC dX11_ought_168 (tgt := 115) (by decide) ?_
                    refine w_sub [1, 2, 3, 4, 5, 6, 7, 0] (lv2 := [(0, .ref (A 0)), (2, .int (J n)), (3, .int (J nm)), (4, .ref qb), (6, .int (J (MSK S a (-1) (S 6) (dg (S 6) (S 0 - 1 - S 2 % S 0)) (S 2)))), (7, .int (J x)), (8, .long (JL ls)), (10, .int (J (b + 1)))]) rfl ?_
                    refine ih115 x ls (b + 1) D_115 a23_115 a50_115 a51_115 a52_115 a53_115 a54_115 f30_115 f31_115 f32_115 ?_ ?_ ?_ ?_ ?_
                    · first | assumption | omega
                    · first | assumption | omega
                    · rw [ouF_s S a n nm i1]; rw [c63] at c134; first | rw [if_pos ⟨c134, by omega⟩]; exact ⟨rfl, rfl⟩ | rw [if_neg (fun h9 => by have := h9.2; omega)]; exact i3 | rw [if_neg (fun h9 => c134 h9.1)]; exact i3
                    · first | assumption | omega
                    · omega
                  · obtain ⟨q, hq1, hq2⟩ := msk_rk (c := a) (day := S 2) hR.bd hrg (show 0 ≤ b by omega) c134
                    have hqr := rk_uniq hR.bd hq1.1 (by omega) hq2
                    refine w_aload_n (pc := 137) hC dX11_ought_137 0 rfl rfl ?_
                    refine w_aload (pc := 138) hC dX11_ought_138 3 rfl ?_
                    refine w_iload_n (pc := 140) hC dX11_ought_140 1 rfl rfl ?_
                    refine w_iload_n (pc := 141) hC dX11_ought_141 2 rfl rfl ?_
                    refine w_iload (pc := 142) hC dX11_ought_142 7 rfl ?_
                    refine w_callV (pc := 144) (As := [.ref qb, .int (J n), .int (J nm), .int (J b)]) (rest := []) hC dX11_ought_144 cv_X11_197 (c_X11_rungsHavingAsked (kl K) G A D_115 T (au (au (au (au (au (au I 23 a23_115) 50 a50_115) 51 a51_115) 52 a52_115) 53 a53_115) 54 a54_115) (fu (fu (fu F 30 f30_115) 31 f31_115) 32 f32_115) Q P S a qb n nm b (show RI S from by first | assumption | omega) (show LRn G.2.1 S (au (au (au (au (au (au I 23 a23_115) 50 a50_115) 51 a51_115) 52 a52_115) 53 a53_115) 54 a54_115) (fu (fu (fu F 30 f30_115) 31 f31_115) 32 f32_115) Q P from by exact (LRb_fu (by decide) (LRb_fu (by decide) (LRb_fu (by decide) (LRb_au (by decide) (LRb_au (by decide) (LRb_au (by decide) (LRb_au (by decide) (LRb_au (by decide) (LRb_au (by decide) hL)))))))))) (show 0 ≤ a ∧ a < S 1 from by first | assumption | omega) (show CLB P G.2.1 S a qb from by first | assumption | omega) (show 0 < S 0 from by first | assumption | omega) (show 1 ≤ n ∧ n ≤ 6 from by first | assumption | omega) (show 0 ≤ nm ∧ nm < S 0 from by first | assumption | omega) (show b = -5 ∨ ((0 ≤ b ∧ b < S 0) ∧ rk (S 0) (S 6) b < S 0 - 1 - S 2 % S 0) from by exact Or.inr ⟨by omega, by omega⟩)) (by decide) ⟨Nat.le_of_ble_eq_true rfl, Nat.le_of_ble_eq_true rfl⟩ (q0 := 0) CW_0 rfl rfl rfl (Nat.le_of_ble_eq_true rfl) rfl (fun vo wo hv => ?_)
                    obtain ⟨D_144, b23_144, b50_144, b51_144, b52_144, b53_144, b54_144, g30_144, g31_144, g32_144, hv1, hw1, r144⟩ := hv
                    rw [hv1, hw1]
                    refine w_weq (CW_cong (au_th (au_th (au_th (au_th (au_th (au_th rfl (au_cm (by decide) (au_cm (by decide) (au_cm (by decide) (au_cm (by decide) (au_cm (by decide) au_rp)))))) (au_cm (by decide) (au_cm (by decide) (au_cm (by decide) (au_cm (by decide) au_rp))))) (au_cm (by decide) (au_cm (by decide) (au_cm (by decide) au_rp)))) (au_cm (by decide) (au_cm (by decide) au_rp))) (au_cm (by decide) au_rp)) au_rp) (fu_th (fu_th (fu_th rfl (fu_cm (by decide) (fu_cm (by decide) fu_rp))) (fu_cm (by decide) fu_rp)) fu_rp) rfl) ?_
                    show WW K G 0 0 (CW A D_144 T G.2.1 (au (au (au (au (au (au I 23 b23_144) 50 b50_144) 51 b51_144) 52 b52_144) 53 b53_144) 54 b54_144) (fu (fu (fu F 30 g30_144) 31 g31_144) 32 g32_144) Q P) 147 [(0, .ref (A 0)), (2, .int (J n)), (3, .int (J nm)), (4, .ref qb), (6, .int (J (MSK S a (-1) (S 6) (dg (S 6) (S 0 - 1 - S 2 % S 0)) (S 2)))), (7, .int (J x)), (8, .long (JL ls)), (10, .int (J b))] [.long (JL (EXP S a (-1) b n.toNat (fun b => rk (S 0) b nm) (S 6)))]
                    have r144 : 0 ≤ EXP S a (-1) b n.toNat (fun b => rk (S 0) b nm) (S 6) ∧ EXP S a (-1) b n.toNat (fun b => rk (S 0) b nm) (S 6) ≤ 6000000000000 := r144
                    refine w_lstore (pc := 147) hC dX11_ought_147 (lv2 := [(11, .long (JL (EXP S a (-1) b n.toNat (fun b => rk (S 0) b nm) (S 6)))), (0, .ref (A 0)), (2, .int (J n)), (3, .int (J nm)), (4, .ref qb), (6, .int (J (MSK S a (-1) (S 6) (dg (S 6) (S 0 - 1 - S 2 % S 0)) (S 2)))), (7, .int (J x)), (8, .long (JL ls)), (10, .int (J b))]) (by rw [hnL]; decide) rfl ?_
                    refine w_lload (pc := 149) hC dX11_ought_149 0 rfl ?_
                    refine w_lload (pc := 151) hC dX11_ought_151 7 rfl ?_
                    refine w_lcmp (pc := 153) hC dX11_ought_153 (by omega) ?_
                    refine w_if_ge_c (pc := 154) (tgt := 165) hC dX11_ought_154 (by decide) (fun c154 => ?_) (fun c154 => ?_)
                    · refine w_iinc (pc := 165) hC dX11_ought_165 (lv2 := [(10, .int (J (b + 1))), (11, .long (JL (EXP S a (-1) b n.toNat (fun b => rk (S 0) b nm) (S 6)))), (0, .ref (A 0)), (2, .int (J n)), (3, .int (J nm)), (4, .ref qb), (6, .int (J (MSK S a (-1) (S 6) (dg (S 6) (S 0 - 1 - S 2 % S 0)) (S 2)))), (7, .int (J x)), (8, .long (JL ls))]) 8 rfl (by rw [hnL]; decide) rfl ?_
                      refine w_goto (pc := 168) hC dX11_ought_168 (tgt := 115) (by decide) ?_
                      refine w_sub [2, 3, 4, 5, 6, 7, 8, 0] (lv2 := [(0, .ref (A 0)), (2, .int (J n)), (3, .int (J nm)), (4, .ref qb), (6, .int (J (MSK S a (-1) (S 6) (dg (S 6) (S 0 - 1 - S 2 % S 0)) (S 2)))), (7, .int (J x)), (8, .long (JL ls)), (10, .int (J (b + 1)))]) rfl ?_
                      refine ih115 x ls (b + 1) D_144 b23_144 b50_144 b51_144 b52_144 b53_144 b54_144 g30_144 g31_144 g32_144 ?_ ?_ ?_ ?_ ?_
                      · first | assumption | omega
                      · first | assumption | omega
                      · rw [ouF_s S a n nm i1]; rw [c63] at c134; first | rw [if_pos ⟨c134, by omega⟩]; exact ⟨rfl, rfl⟩ | rw [if_neg (fun h9 => by have := h9.2; omega)]; exact i3 | rw [if_neg (fun h9 => c134 h9.1)]; exact i3
                      · first | assumption | omega
                      · omega
                    · refine w_lload (pc := 157) hC dX11_ought_157 0 rfl ?_
                      refine w_lstore (pc := 159) hC dX11_ought_159 (lv2 := [(8, .long (JL (EXP S a (-1) b n.toNat (fun b => rk (S 0) b nm) (S 6)))), (11, .long (JL (EXP S a (-1) b n.toNat (fun b => rk (S 0) b nm) (S 6)))), (0, .ref (A 0)), (2, .int (J n)), (3, .int (J nm)), (4, .ref qb), (6, .int (J (MSK S a (-1) (S 6) (dg (S 6) (S 0 - 1 - S 2 % S 0)) (S 2)))), (7, .int (J x)), (10, .int (J b))]) (by rw [hnL]; decide) rfl ?_
                      refine w_iload (pc := 161) hC dX11_ought_161 8 rfl ?_
                      refine w_istore (pc := 163) hC dX11_ought_163 (lv2 := [(7, .int (J b)), (8, .long (JL (EXP S a (-1) b n.toNat (fun b => rk (S 0) b nm) (S 6)))), (11, .long (JL (EXP S a (-1) b n.toNat (fun b => rk (S 0) b nm) (S 6)))), (0, .ref (A 0)), (2, .int (J n)), (3, .int (J nm)), (4, .ref qb), (6, .int (J (MSK S a (-1) (S 6) (dg (S 6) (S 0 - 1 - S 2 % S 0)) (S 2)))), (10, .int (J b))]) (by rw [hnL]; decide) rfl ?_
                      refine w_iinc (pc := 165) hC dX11_ought_165 (lv2 := [(10, .int (J (b + 1))), (7, .int (J b)), (8, .long (JL (EXP S a (-1) b n.toNat (fun b => rk (S 0) b nm) (S 6)))), (11, .long (JL (EXP S a (-1) b n.toNat (fun b => rk (S 0) b nm) (S 6)))), (0, .ref (A 0)), (2, .int (J n)), (3, .int (J nm)), (4, .ref qb), (6, .int (J (MSK S a (-1) (S 6) (dg (S 6) (S 0 - 1 - S 2 % S 0)) (S 2))))]) 8 rfl (by rw [hnL]; decide) rfl ?_
                      refine w_goto (pc := 168) hC dX11_ought_168 (tgt := 115) (by decide) ?_
                      refine w_sub [4, 5, 6, 7, 8, 1, 2, 0] (lv2 := [(0, .ref (A 0)), (2, .int (J n)), (3, .int (J nm)), (4, .ref qb), (6, .int (J (MSK S a (-1) (S 6) (dg (S 6) (S 0 - 1 - S 2 % S 0)) (S 2)))), (7, .int (J b)), (8, .long (JL (EXP S a (-1) b n.toNat (fun b => rk (S 0) b nm) (S 6)))), (10, .int (J (b + 1)))]) rfl ?_
                      refine ih115 b (EXP S a (-1) b n.toNat (fun b => rk (S 0) b nm) (S 6)) (b + 1) D_144 b23_144 b50_144 b51_144 b52_144 b53_144 b54_144 g30_144 g31_144 g32_144 ?_ ?_ ?_ ?_ ?_
                      · first | assumption | omega
                      · first | assumption | omega
                      · rw [ouF_s S a n nm i1]; rw [c63] at c134; first | rw [if_pos ⟨c134, by omega⟩]; exact ⟨rfl, rfl⟩ | rw [if_neg (fun h9 => by have := h9.2; omega)]; exact i3 | rw [if_neg (fun h9 => c134 h9.1)]; exact i3
                      · first | assumption | omega
                      · omega
            refine w_sub [6, 8, 9, 5, 3, 2, 1, 0] (lv2 := [(0, .ref (A 0)), (2, .int (J n)), (3, .int (J nm)), (4, .ref qb), (6, .int (J (MSK S a (-1) (S 6) (dg (S 6) (S 0 - 1 - S 2 % S 0)) (S 2)))), (7, .int (J (-5))), (8, .long (JL (EXP S a (-1) (-5) n.toNat (fun b => rk (S 0) b nm) (S 6)))), (10, .int (J 0))]) rfl ?_
            refine loop115 ((S 0 - 0) + 1 : Int).toNat (-5) (EXP S a (-1) (-5) n.toNat (fun b => rk (S 0) b nm) (S 6)) 0 D_107 b23_107 b50_107 b51_107 b52_107 b53_107 b54_107 g30_107 g31_107 g32_107 ?_ ?_ ?_ ?_ ?_
            · first | assumption | omega
            · first | assumption | omega
            · exact ⟨rfl, rfl⟩
            · first | assumption | omega
            · omega
          · refine w_bipush (pc := 66) hC dX11_ought_66 (z := (-3)) rfl ?_
            refine w_iret (pc := 68) hC hRT dX11_ought_68 rfl ?_
            refine ⟨D, (I 23), (I 50), (I 51), (I 52), (I 53), (I 54), (F 30), (F 31), (F 32), retI (by unfold v_ought; rw [show TRN S (S 6) (S 2) = dg (S 6) (S 0 - 1 - S 2 % S 0) from rfl, if_neg (by omega), if_neg (by omega), if_pos (show ¬ dg (S 6) (S 0 - 1 - S 2 % S 0) = nm by omega)]), CW_cong (au_ms (k := 23) (v := I 23) rfl rfl (au_ms (k := 50) (v := I 50) rfl rfl (au_ms (k := 51) (v := I 51) rfl rfl (au_ms (k := 52) (v := I 52) rfl rfl (au_ms (k := 53) (v := I 53) rfl rfl (au_ms (k := 54) (v := I 54) rfl rfl rfl)))))) (fu_ms (k := 30) (v := F 30) rfl rfl (fu_ms (k := 31) (v := F 31) rfl rfl (fu_ms (k := 32) (v := F 32) rfl rfl rfl))) rfl⟩
        · refine w_bipush (pc := 33) hC dX11_ought_33 (z := (-2)) rfl ?_
          refine w_iret (pc := 35) hC hRT dX11_ought_35 rfl ?_
          refine ⟨D, (I 23), (I 50), (I 51), (I 52), (I 53), (I 54), (F 30), (F 31), (F 32), retI (by unfold v_ought; rw [if_neg (by omega), if_pos (by omega)]), CW_cong (au_ms (k := 23) (v := I 23) rfl rfl (au_ms (k := 50) (v := I 50) rfl rfl (au_ms (k := 51) (v := I 51) rfl rfl (au_ms (k := 52) (v := I 52) rfl rfl (au_ms (k := 53) (v := I 53) rfl rfl (au_ms (k := 54) (v := I 54) rfl rfl rfl)))))) (fu_ms (k := 30) (v := F 30) rfl rfl (fu_ms (k := 31) (v := F 31) rfl rfl (fu_ms (k := 32) (v := F 32) rfl rfl rfl))) rfl⟩
    · refine w_iconst (pc := 20) hC dX11_ought_20 ?_
      refine w_iret (pc := 21) hC hRT dX11_ought_21 rfl ?_
      refine ⟨D, (I 23), (I 50), (I 51), (I 52), (I 53), (I 54), (F 30), (F 31), (F 32), retI (by unfold v_ought; rw [if_pos (by omega)]), CW_cong (au_ms (k := 23) (v := I 23) rfl rfl (au_ms (k := 50) (v := I 50) rfl rfl (au_ms (k := 51) (v := I 51) rfl rfl (au_ms (k := 52) (v := I 52) rfl rfl (au_ms (k := 53) (v := I 53) rfl rfl (au_ms (k := 54) (v := I 54) rfl rfl rfl)))))) (fu_ms (k := 30) (v := F 30) rfl rfl (fu_ms (k := 31) (v := F 31) rfl rfl (fu_ms (k := 32) (v := F 32) rfl rfl rfl))) rfl⟩
  · rw [if_neg hc] at hv1
    rw [hv1, hw1]
    show WW K G 0 0 (CW A D T G.2.1 I F Q P) 5 [(0, .ref (A 0)), (1, .int (J a)), (2, .int (J n)), (3, .int (J nm))] [.null]
    refine w_astoreN (pc := 5) hC dX11_ought_5 (lv2 := [(4, .null), (0, .ref (A 0)), (1, .int (J a)), (2, .int (J n)), (3, .int (J nm))]) (by rw [hnL]; decide) rfl ?_
    refine w_aloadN (pc := 7) hC dX11_ought_7 0 rfl ?_
    refine w_ifnullN (pc := 9) (tgt := 20) hC dX11_ought_9 (by decide) ?_
    refine w_iconst (pc := 20) hC dX11_ought_20 ?_
    refine w_iret (pc := 21) hC hRT dX11_ought_21 rfl ?_
    refine ⟨D, (I 23), (I 50), (I 51), (I 52), (I 53), (I 54), (F 30), (F 31), (F 32), retI (by unfold v_ought; rw [if_pos (by omega)]), CW_cong (au_ms (k := 23) (v := I 23) rfl rfl (au_ms (k := 50) (v := I 50) rfl rfl (au_ms (k := 51) (v := I 51) rfl rfl (au_ms (k := 52) (v := I 52) rfl rfl (au_ms (k := 53) (v := I 53) rfl rfl (au_ms (k := 54) (v := I 54) rfl rfl rfl)))))) (fu_ms (k := 30) (v := F 30) rfl rfl (fu_ms (k := 31) (v := F 31) rfl rfl (fu_ms (k := 32) (v := F 32) rfl rfl rfl))) rfl⟩
set_option maxRecDepth 100000 in
set_option maxHeartbeats 4000000 in
theorem c_X11_best (l : Launch) (G : GT) (A D : Nat → Nat) (T : Nat) (I : Nat → Int → Int) (F : Nat → Int) (Q : Nat → Nat → Option Nat) (P : va_W) (S : Int → Int) (n : Int) (hR : RI S) (hL : LRn G.2.1 S I F Q P) (h0 : -2147483648 ≤ n ∧ n < 2147483648) : CT l yX11_best cX11_best 6 (some .int) 6 0 0 G [.ref (A 0), .int (J n)] (CW A D T G.2.1 I F Q P) (fun vo wo => ∃ (b56 : Int → Int) (D : Nat → Nat) (b23 : Int → Int) (b50 : Int → Int) (b51 : Int → Int) (b52 : Int → Int) (b53 : Int → Int) (b54 : Int → Int) (g30 : Int) (g31 : Int) (g32 : Int), vo = some (.int (J (v_best S n))) ∧ wo = CW A D T G.2.1 (au (au (au (au (au (au (au I 23 b23) 50 b50) 51 b51) 52 b52) 53 b53) 54 b54) 56 b56) (fu (fu (fu F 30 g30) 31 g31) 32 g32) Q P) := by
  refine CT_of (own := RX11) rfl rfl (Nat.le_of_ble_eq_true rfl) (fun K hl hnL hC hRT hin => ?_)
  subst hl
  show WW K G 0 0 (CW A D T G.2.1 I F Q P) 0 [(0, .ref (A 0)), (1, .int (J n))] []
  have hn := hR.n
  have hbd := hR.bd
  have hcn := hR.cl
  refine w_iload_n (pc := 0) hC dX11_best_0 1 rfl rfl ?_
  refine w_callS (pc := 1) (As := [.int (J n)]) (rest := []) hC dX11_best_1 cs_X11_155 (c_X11_isDaysOn (kl K) G (CW A D T G.2.1 I F Q P) n (show -2147483648 ≤ n ∧ n < 2147483648 from by first | assumption | omega)) (by decide) ⟨Nat.le_of_ble_eq_true rfl, Nat.le_of_ble_eq_true rfl⟩ rfl (Nat.le_of_ble_eq_true rfl) rfl (fun vo wo hv => ?_)
  obtain ⟨hv1, hw1⟩ := hv
  rw [hv1, hw1]
  show WW K G 0 0 (CW A D T G.2.1 I F Q P) 4 [(0, .ref (A 0)), (1, .int (J n))] [.int (J (bI (0 ≤ n ∧ n ≤ 6)))]
  refine w_if_ne_b (pc := 4) (tgt := 10) hC dX11_best_4 (by decide) (fun c4 => ?_) (fun c4 => ?_)
  · refine w_aload_n (pc := 10) hC dX11_best_10 0 rfl rfl ?_
    refine w_getf (pc := 11) (v := .ref (A 1)) hC dX11_best_11 fi_X11_12 0 CW_0 rfl ?_
    refine w_getfN (pc := 14) (v := .int (J (S 0))) hC dX11_best_14 fn_X11_57 1 CW_1 (congrArg (fun z : Int => some (Value.int (J z))) (l_n hL)) ?_
    refine w_if_ne (pc := 17) (tgt := 23) hC dX11_best_17 (by decide) (by omega) (fun c17 => ?_) (fun c17 => ?_)
    · refine w_aload_n (pc := 23) hC dX11_best_23 0 rfl rfl ?_
      refine w_getf (pc := 24) (v := .ref (A 1)) hC dX11_best_24 fi_X11_12 0 CW_0 rfl ?_
      refine w_aload_n (pc := 27) hC dX11_best_27 0 rfl rfl ?_
      refine w_getf (pc := 28) (v := .ref (A 56)) hC dX11_best_28 fi_X11_45 0 CW_0 rfl ?_
      refine w_callV (pc := 31) (As := [.ref (A 56)]) (rest := []) hC dX11_best_31 cv_X11_78 (c_X6_findTruth (kl K) G A D T I F Q P S (show RI S from by first | assumption | omega) (show LRn G.2.1 S I F Q P from by exact hL)) (by decide) ⟨Nat.le_of_ble_eq_true rfl, Nat.le_of_ble_eq_true rfl⟩ (q0 := 1) CW_1 rfl rfl rfl (Nat.le_of_ble_eq_true rfl) rfl (fun vo wo hv => ?_)
      obtain ⟨b56_31, hv1, hw1, r31⟩ := hv
      rw [hv1, hw1]
      show WW K G 0 0 (CW A D T G.2.1 (au I 56 b56_31) F Q P) 34 [(0, .ref (A 0)), (1, .int (J n))] []
      have r31 : ∀ zq : Int, 0 ≤ zq → zq < S 0 → b56_31 zq = dg (TB S) zq := r31
      refine w_bipush (pc := 34) hC dX11_best_34 (z := (-5)) rfl ?_
      refine w_istore_n (pc := 36) hC dX11_best_36 rfl (lv2 := [(2, .int (J (-5))), (0, .ref (A 0)), (1, .int (J n))]) (by rw [hnL]; decide) rfl ?_
      refine w_ldc2 (pc := 37) hC dX11_best_37 (z := (-1)) tw_4_79 (by decide) ?_
      refine w_lstore_n (pc := 40) hC dX11_best_40 rfl (lv2 := [(3, .long (JL (-1))), (2, .int (J (-5))), (0, .ref (A 0)), (1, .int (J n))]) (by rw [hnL]; decide) rfl ?_
      refine w_iconst (pc := 41) hC dX11_best_41 ?_
      refine w_istore (pc := 42) hC dX11_best_42 (lv2 := [(5, .int (J 0)), (3, .long (JL (-1))), (2, .int (J (-5))), (0, .ref (A 0)), (1, .int (J n))]) (by rw [hnL]; decide) rfl ?_
      have loop44 : ∀ (nF : Nat) (x : Int) (g : Int) (k : Int) (D_44 : Nat → Nat) (a23_44 : Int → Int) (a50_44 : Int → Int) (a51_44 : Int → Int) (a52_44 : Int → Int) (a53_44 : Int → Int) (a54_44 : Int → Int) (f30_44 : Int) (f31_44 : Int) (f32_44 : Int), (0 ≤ k) → (k ≤ S 1) → (g = (amx (fun c => EXP S c (-1) (-7) n.toNat (fun b => bI (b = TB S)) (S 6)) k.toNat).2 ∧ ((1 ≤ k ∧ x = (amx (fun c => EXP S c (-1) (-7) n.toNat (fun b => bI (b = TB S)) (S 6)) k.toNat).1) ∨ (k = 0 ∧ x = -5))) → (-1 ≤ g ∧ g ≤ 6000000000000) → (S 1 - k) < (nF : Int) → WW K G 0 0 (CW A D_44 T G.2.1 (au (au (au (au (au (au (au I 23 a23_44) 50 a50_44) 51 a51_44) 52 a52_44) 53 a53_44) 54 a54_44) 56 b56_31) (fu (fu (fu F 30 f30_44) 31 f31_44) 32 f32_44) Q P) 44 [(0, .ref (A 0)), (1, .int (J n)), (2, .int (J x)), (3, .long (JL g)), (5, .int (J k))] [] := by
        intro nF
        induction nF with
        | zero => intro x g k D_44 a23_44 a50_44 a51_44 a52_44 a53_44 a54_44 f30_44 f31_44 f32_44 i1 i2 i3 i4 hm44; exact absurd hm44 (by omega)
        | succ nF ih44 =>
          intro x g k D_44 a23_44 a50_44 a51_44 a52_44 a53_44 a54_44 f30_44 f31_44 f32_44 i1 i2 i3 i4 hm44
          refine w_iload (pc := 44) hC dX11_best_44 4 rfl ?_
          refine w_aload_n (pc := 46) hC dX11_best_46 0 rfl rfl ?_
          refine w_getf (pc := 47) (v := .ref (A 1)) hC dX11_best_47 fi_X11_12 0 CW_0 rfl ?_
          refine w_getfN (pc := 50) (v := .int (J (S 1))) hC dX11_best_50 fn_X11_97 1 CW_1 (congrArg (fun z : Int => some (Value.int (J z))) (l_cl hL)) ?_
          refine w_icmp_ge (pc := 53) (tgt := 116) hC dX11_best_53 (by decide) (by omega) (fun c53 => ?_) (fun c53 => ?_)
          · refine w_iload_n (pc := 116) hC dX11_best_116 2 rfl rfl ?_
            refine w_iret (pc := 117) hC hRT dX11_best_117 rfl ?_
            refine ⟨b56_31, D_44, a23_44, a50_44, a51_44, a52_44, a53_44, a54_44, f30_44, f31_44, f32_44, retI (by unfold v_best; rw [if_neg (by omega)]; rcases i3.2 with e | e; (rw [if_neg (by omega), e.2, show k = S 1 by omega]); (rw [if_pos (by omega)]; exact e.2)), rfl⟩
          · obtain ⟨qb, hQc, hcl⟩ := l_clb hL i1 c53
            refine w_aload_n (pc := 56) hC dX11_best_56 0 rfl rfl ?_
            refine w_aload_n (pc := 57) hC dX11_best_57 0 rfl rfl ?_
            refine w_getf (pc := 58) (v := .ref (A 1)) hC dX11_best_58 fi_X11_12 0 CW_0 rfl ?_
            refine w_getfN (pc := 61) (v := .ref (A 12)) hC dX11_best_61 fn_X11_108 1 CW_1 rfl ?_
            refine w_iload (pc := 64) hC dX11_best_64 4 rfl ?_
            refine w_aaldS (t0 := 5) (q := qb) hC dX11_best_66 12 CW_12 rfl rfl (by omega) (Nat.le_of_ble_eq_true rfl) (hQc) ?_
            refine w_iload_n (pc := 67) hC dX11_best_67 1 rfl rfl ?_
            refine w_aload_n (pc := 68) hC dX11_best_68 0 rfl rfl ?_
            refine w_getf (pc := 69) (v := .ref (A 1)) hC dX11_best_69 fi_X11_12 0 CW_0 rfl ?_
            refine w_getfN (pc := 72) (v := .ref (A 2)) hC dX11_best_72 fn_X11_61 1 CW_1 rfl ?_
            refine w_iconst (pc := 75) hC dX11_best_75 ?_
            refine w_callV (pc := 76) (As := [.ref qb, .int (J n), .ref (A 2), .int (J 0)]) (rest := []) hC dX11_best_76 cv_X11_160 (c_X11_goBehind_v2 (kl K) G A D_44 T (au (au (au (au (au (au (au I 23 a23_44) 50 a50_44) 51 a51_44) 52 a52_44) 53 a53_44) 54 a54_44) 56 b56_31) (fu (fu (fu F 30 f30_44) 31 f31_44) 32 f32_44) Q P S k (S 6) (-1) qb n 0 (show RI S from by first | assumption | omega) (show LRn G.2.1 S (au (au (au (au (au (au (au I 23 a23_44) 50 a50_44) 51 a51_44) 52 a52_44) 53 a53_44) 54 a54_44) 56 b56_31) (fu (fu (fu F 30 f30_44) 31 f31_44) 32 f32_44) Q P from by exact (LRb_fu (by decide) (LRb_fu (by decide) (LRb_fu (by decide) (LRb_au (by decide) (LRb_au (by decide) (LRb_au (by decide) (LRb_au (by decide) (LRb_au (by decide) (LRb_au (by decide) (LRb_au (by decide) hL))))))))))) (show 0 ≤ k ∧ k < S 1 from by exact ⟨i1, c53⟩) (show CLB P G.2.1 S k qb from by first | assumption | omega) (show 0 < S 0 from by first | assumption | omega) (show 0 ≤ n ∧ n ≤ 6 from by first | assumption | omega) (show VB (S 0) (S 6) from by exact hR.bd) (show ∀ r : Int, 0 ≤ r → r < S 0 → (I 2) r = dg (S 6) r from by exact fun r r0 r1 => l_bd hL r0 r1) (show (-1) = -1 ∨ (0 ≤ (-1) ∧ (-1) < 6) from by exact Or.inl rfl) (show 0 = if (-1) = -1 then 0 else 2 ^ ((-1) : Int).toNat from by rfl)) (by decide) ⟨Nat.le_of_ble_eq_true rfl, Nat.le_of_ble_eq_true rfl⟩ (q0 := 0) CW_0 rfl rfl rfl (Nat.le_of_ble_eq_true rfl) rfl (fun vo wo hv => ?_)
            obtain ⟨D_76, b23_76, b50_76, b51_76, b52_76, b53_76, b54_76, g30_76, g31_76, g32_76, hv1, hw1, r76⟩ := hv
            rw [hv1, hw1]
            refine w_weq (CW_cong (au_th (au_th (au_th (au_th (au_th (au_th rfl (au_cm (by decide) (au_cm (by decide) (au_cm (by decide) (au_cm (by decide) (au_cm (by decide) (au_cm (by decide) au_rp))))))) (au_cm (by decide) (au_cm (by decide) (au_cm (by decide) (au_cm (by decide) (au_cm (by decide) au_rp)))))) (au_cm (by decide) (au_cm (by decide) (au_cm (by decide) (au_cm (by decide) au_rp))))) (au_cm (by decide) (au_cm (by decide) (au_cm (by decide) au_rp)))) (au_cm (by decide) (au_cm (by decide) au_rp))) (au_cm (by decide) au_rp)) (fu_th (fu_th (fu_th rfl (fu_cm (by decide) (fu_cm (by decide) fu_rp))) (fu_cm (by decide) fu_rp)) fu_rp) rfl) ?_
            show WW K G 0 0 (CW A D_76 T G.2.1 (au (au (au (au (au (au (au I 23 b23_76) 50 b50_76) 51 b51_76) 52 b52_76) 53 b53_76) 54 b54_76) 56 b56_31) (fu (fu (fu F 30 g30_76) 31 g31_76) 32 g32_76) Q P) 79 [(0, .ref (A 0)), (1, .int (J n)), (2, .int (J x)), (3, .long (JL g)), (5, .int (J k))] []
            have r76 : DOK (S 0) b50_76 b51_76 g30_76 ∧ (∀ f : Int → Int, isum f (DBf (S 0) b50_76) b51_76 (g30_76 : Int).toNat = EXP S k (-1) (-7) n.toNat f (S 6)) ∧ g32_76 = 100 ^ n.toNat ∧ isum one1 (DBf (S 0) b50_76) b51_76 (g30_76 : Int).toNat = g32_76 := r76
            have p5 := p100_7 (k := n) (by omega) (by omega)
            rw [← r76.2.2.1] at p5
            have ht1 := r76.2.2.2
            have hb := is_bd (f := fun x => bI (x = TB S)) r76.1 (fun k k0 k1 => bI_06 _)
            have hE := r76.2.1 (fun b => bI (b = TB S))
            refine w_aload_n (pc := 79) hC dX11_best_79 0 rfl rfl ?_
            refine w_getf (pc := 80) (v := .ref (A 49)) hC dX11_best_80 fi_X11_41 0 CW_0 rfl ?_
            refine w_aload_n (pc := 83) hC dX11_best_83 0 rfl rfl ?_
            refine w_getf (pc := 84) (v := .ref (A 56)) hC dX11_best_84 fi_X11_45 0 CW_0 rfl ?_
            refine w_callV (pc := 87) (As := [.ref (A 56)]) (rest := []) hC dX11_best_87 cv_X11_176 (c_X4_being (kl K) G A D_76 T (au (au (au (au (au (au (au I 23 b23_76) 50 b50_76) 51 b51_76) 52 b52_76) 53 b53_76) 54 b54_76) 56 b56_31) (fu (fu (fu F 30 g30_76) 31 g31_76) 32 g32_76) Q P S (TB S) (show RI S from by first | assumption | omega) (show LRn G.2.1 S (au (au (au (au (au (au (au I 23 b23_76) 50 b50_76) 51 b51_76) 52 b52_76) 53 b53_76) 54 b54_76) 56 b56_31) (fu (fu (fu F 30 g30_76) 31 g31_76) 32 g32_76) Q P from by exact (LRb_fu (by decide) (LRb_fu (by decide) (LRb_fu (by decide) (LRb_au (by decide) (LRb_au (by decide) (LRb_au (by decide) (LRb_au (by decide) (LRb_au (by decide) (LRb_au (by decide) (LRb_au (by decide) hL))))))))))) (show DOK (S 0) b50_76 b51_76 g30_76 from by exact r76.1) (show VB (S 0) (TB S) from by exact VB_TB S hn.1 hn.2) (show ∀ r : Int, 0 ≤ r → r < S 0 → b56_31 r = dg (TB S) r from by exact r31)) (by decide) ⟨Nat.le_of_ble_eq_true rfl, Nat.le_of_ble_eq_true rfl⟩ (q0 := 49) CW_49 rfl rfl rfl (Nat.le_of_ble_eq_true rfl) rfl (fun vo wo hv => ?_)
            obtain ⟨hv1, hw1⟩ := hv
            rw [hv1, hw1]
            show WW K G 0 0 (CW A D_76 T G.2.1 (au (au (au (au (au (au (au I 23 b23_76) 50 b50_76) 51 b51_76) 52 b52_76) 53 b53_76) 54 b54_76) 56 b56_31) (fu (fu (fu F 30 g30_76) 31 g31_76) 32 g32_76) Q P) 90 [(0, .ref (A 0)), (1, .int (J n)), (2, .int (J x)), (3, .long (JL g)), (5, .int (J k))] [.long (JL (isum (fun x => bI (x = (TB S))) (DBf (S 0) b50_76) b51_76 (g30_76 : Int).toNat))]
            refine w_lload_n (pc := 90) hC dX11_best_90 3 rfl rfl ?_
            refine w_lcmp (pc := 91) hC dX11_best_91 (by omega) ?_
            refine w_if_le_c (pc := 92) (tgt := 110) hC dX11_best_92 (by decide) (fun c92 => ?_) (fun c92 => ?_)
            · refine w_iinc (pc := 110) hC dX11_best_110 (lv2 := [(5, .int (J (k + 1))), (0, .ref (A 0)), (1, .int (J n)), (2, .int (J x)), (3, .long (JL g))]) 4 rfl (by rw [hnL]; decide) rfl ?_
              refine w_goto (pc := 113) hC dX11_best_113 (tgt := 44) (by decide) ?_
              refine w_sub [1, 2, 3, 4, 0] (lv2 := [(0, .ref (A 0)), (1, .int (J n)), (2, .int (J x)), (3, .long (JL g)), (5, .int (J (k + 1)))]) rfl ?_
              refine ih44 x g (k + 1) D_76 b23_76 b50_76 b51_76 b52_76 b53_76 b54_76 g30_76 g31_76 g32_76 ?_ ?_ ?_ ?_ ?_
              · first | assumption | omega
              · first | assumption | omega
              · rw [amx_s _ i1]; first | rw [if_pos (by show _ < EXP S k (-1) (-7) n.toNat (fun b => bI (b = TB S)) (S 6); omega)]; exact ⟨hE, Or.inl ⟨by omega, rfl⟩⟩ | rw [if_neg (by show ¬ _ < EXP S k (-1) (-7) n.toNat (fun b => bI (b = TB S)) (S 6); omega)]; exact ⟨i3.1, Or.inl (by rcases i3.2 with e | e; exact ⟨by omega, e.2⟩; exfalso; rw [e.1] at i3; have e8 : g = -1 := i3.1; omega)⟩
              · first | assumption | omega
              · omega
            · refine w_aload_n (pc := 95) hC dX11_best_95 0 rfl rfl ?_
              refine w_getf (pc := 96) (v := .ref (A 49)) hC dX11_best_96 fi_X11_41 0 CW_0 rfl ?_
              refine w_aload_n (pc := 99) hC dX11_best_99 0 rfl rfl ?_
              refine w_getf (pc := 100) (v := .ref (A 56)) hC dX11_best_100 fi_X11_45 0 CW_0 rfl ?_
              refine w_callV (pc := 103) (As := [.ref (A 56)]) (rest := []) hC dX11_best_103 cv_X11_176 (c_X4_being (kl K) G A D_76 T (au (au (au (au (au (au (au I 23 b23_76) 50 b50_76) 51 b51_76) 52 b52_76) 53 b53_76) 54 b54_76) 56 b56_31) (fu (fu (fu F 30 g30_76) 31 g31_76) 32 g32_76) Q P S (TB S) (show RI S from by first | assumption | omega) (show LRn G.2.1 S (au (au (au (au (au (au (au I 23 b23_76) 50 b50_76) 51 b51_76) 52 b52_76) 53 b53_76) 54 b54_76) 56 b56_31) (fu (fu (fu F 30 g30_76) 31 g31_76) 32 g32_76) Q P from by exact (LRb_fu (by decide) (LRb_fu (by decide) (LRb_fu (by decide) (LRb_au (by decide) (LRb_au (by decide) (LRb_au (by decide) (LRb_au (by decide) (LRb_au (by decide) (LRb_au (by decide) (LRb_au (by decide) hL))))))))))) (show DOK (S 0) b50_76 b51_76 g30_76 from by exact r76.1) (show VB (S 0) (TB S) from by exact VB_TB S hn.1 hn.2) (show ∀ r : Int, 0 ≤ r → r < S 0 → b56_31 r = dg (TB S) r from by exact r31)) (by decide) ⟨Nat.le_of_ble_eq_true rfl, Nat.le_of_ble_eq_true rfl⟩ (q0 := 49) CW_49 rfl rfl rfl (Nat.le_of_ble_eq_true rfl) rfl (fun vo wo hv => ?_)
              obtain ⟨hv1, hw1⟩ := hv
              rw [hv1, hw1]
              show WW K G 0 0 (CW A D_76 T G.2.1 (au (au (au (au (au (au (au I 23 b23_76) 50 b50_76) 51 b51_76) 52 b52_76) 53 b53_76) 54 b54_76) 56 b56_31) (fu (fu (fu F 30 g30_76) 31 g31_76) 32 g32_76) Q P) 106 [(0, .ref (A 0)), (1, .int (J n)), (2, .int (J x)), (3, .long (JL g)), (5, .int (J k))] [.long (JL (isum (fun x => bI (x = (TB S))) (DBf (S 0) b50_76) b51_76 (g30_76 : Int).toNat))]
              refine w_lstore_n (pc := 106) hC dX11_best_106 rfl (lv2 := [(3, .long (JL (isum (fun x => bI (x = (TB S))) (DBf (S 0) b50_76) b51_76 (g30_76 : Int).toNat))), (0, .ref (A 0)), (1, .int (J n)), (2, .int (J x)), (5, .int (J k))]) (by rw [hnL]; decide) rfl ?_
              refine w_iload (pc := 107) hC dX11_best_107 4 rfl ?_
              refine w_istore_n (pc := 109) hC dX11_best_109 rfl (lv2 := [(2, .int (J k)), (3, .long (JL (isum (fun x => bI (x = (TB S))) (DBf (S 0) b50_76) b51_76 (g30_76 : Int).toNat))), (0, .ref (A 0)), (1, .int (J n)), (5, .int (J k))]) (by rw [hnL]; decide) rfl ?_
              refine w_iinc (pc := 110) hC dX11_best_110 (lv2 := [(5, .int (J (k + 1))), (2, .int (J k)), (3, .long (JL (isum (fun x => bI (x = (TB S))) (DBf (S 0) b50_76) b51_76 (g30_76 : Int).toNat))), (0, .ref (A 0)), (1, .int (J n))]) 4 rfl (by rw [hnL]; decide) rfl ?_
              refine w_goto (pc := 113) hC dX11_best_113 (tgt := 44) (by decide) ?_
              refine w_sub [3, 4, 1, 2, 0] (lv2 := [(0, .ref (A 0)), (1, .int (J n)), (2, .int (J k)), (3, .long (JL (isum (fun x => bI (x = (TB S))) (DBf (S 0) b50_76) b51_76 (g30_76 : Int).toNat))), (5, .int (J (k + 1)))]) rfl ?_
              refine ih44 k (isum (fun x => bI (x = (TB S))) (DBf (S 0) b50_76) b51_76 (g30_76 : Int).toNat) (k + 1) D_76 b23_76 b50_76 b51_76 b52_76 b53_76 b54_76 g30_76 g31_76 g32_76 ?_ ?_ ?_ ?_ ?_
              · first | assumption | omega
              · first | assumption | omega
              · rw [amx_s _ i1]; first | rw [if_pos (by show _ < EXP S k (-1) (-7) n.toNat (fun b => bI (b = TB S)) (S 6); omega)]; exact ⟨hE, Or.inl ⟨by omega, rfl⟩⟩ | rw [if_neg (by show ¬ _ < EXP S k (-1) (-7) n.toNat (fun b => bI (b = TB S)) (S 6); omega)]; exact ⟨i3.1, Or.inl (by rcases i3.2 with e | e; exact ⟨by omega, e.2⟩; exfalso; rw [e.1] at i3; have e8 : g = -1 := i3.1; omega)⟩
              · first | assumption | omega
              · omega
      refine w_weq (CW_cong (au_ms (k := 23) (v := I 23) rfl (au_cm (by decide) rfl) (au_ms (k := 50) (v := I 50) rfl (au_cm (by decide) rfl) (au_ms (k := 51) (v := I 51) rfl (au_cm (by decide) rfl) (au_ms (k := 52) (v := I 52) rfl (au_cm (by decide) rfl) (au_ms (k := 53) (v := I 53) rfl (au_cm (by decide) rfl) (au_ms (k := 54) (v := I 54) rfl (au_cm (by decide) rfl) rfl)))))) (fu_ms (k := 30) (v := F 30) rfl rfl (fu_ms (k := 31) (v := F 31) rfl rfl (fu_ms (k := 32) (v := F 32) rfl rfl rfl))) rfl) ?_
      refine w_sub [3, 4, 2, 1, 0] (lv2 := [(0, .ref (A 0)), (1, .int (J n)), (2, .int (J (-5))), (3, .long (JL (-1))), (5, .int (J 0))]) rfl ?_
      refine loop44 ((S 1 - 0) + 1 : Int).toNat (-5) (-1) 0 D (I 23) (I 50) (I 51) (I 52) (I 53) (I 54) (F 30) (F 31) (F 32) ?_ ?_ ?_ ?_ ?_
      · first | assumption | omega
      · first | assumption | omega
      · exact ⟨rfl, Or.inr ⟨rfl, rfl⟩⟩
      · first | assumption | omega
      · omega
    · refine w_bipush (pc := 20) hC dX11_best_20 (z := (-5)) rfl ?_
      refine w_iret (pc := 22) hC hRT dX11_best_22 rfl ?_
      refine ⟨(I 56), D, (I 23), (I 50), (I 51), (I 52), (I 53), (I 54), (F 30), (F 31), (F 32), retI (by unfold v_best; rw [if_neg (by omega), if_pos (by omega)]), CW_cong (au_ms (k := 23) (v := I 23) rfl rfl (au_ms (k := 50) (v := I 50) rfl rfl (au_ms (k := 51) (v := I 51) rfl rfl (au_ms (k := 52) (v := I 52) rfl rfl (au_ms (k := 53) (v := I 53) rfl rfl (au_ms (k := 54) (v := I 54) rfl rfl (au_ms (k := 56) (v := I 56) rfl rfl rfl))))))) (fu_ms (k := 30) (v := F 30) rfl rfl (fu_ms (k := 31) (v := F 31) rfl rfl (fu_ms (k := 32) (v := F 32) rfl rfl rfl))) rfl⟩
  · refine w_bipush (pc := 7) hC dX11_best_7 (z := (-2)) rfl ?_
    refine w_iret (pc := 9) hC hRT dX11_best_9 rfl ?_
    refine ⟨(I 56), D, (I 23), (I 50), (I 51), (I 52), (I 53), (I 54), (F 30), (F 31), (F 32), retI (by unfold v_best; rw [if_pos (by omega)]), CW_cong (au_ms (k := 23) (v := I 23) rfl rfl (au_ms (k := 50) (v := I 50) rfl rfl (au_ms (k := 51) (v := I 51) rfl rfl (au_ms (k := 52) (v := I 52) rfl rfl (au_ms (k := 53) (v := I 53) rfl rfl (au_ms (k := 54) (v := I 54) rfl rfl (au_ms (k := 56) (v := I 56) rfl rfl rfl))))))) (fu_ms (k := 30) (v := F 30) rfl rfl (fu_ms (k := 31) (v := F 31) rfl rfl (fu_ms (k := 32) (v := F 32) rfl rfl rfl))) rfl⟩
