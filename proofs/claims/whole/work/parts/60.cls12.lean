
theorem cpg_at {f g s : Int → Int} {n : Int} (h : cpg f g n = s) {r : Int} (h0 : 0 ≤ r) (h1 : r < n) : s r = f r := by
  rw [← h]
  exact if_pos ⟨h0, h1⟩
theorem fo_put {f s : Int → Int} {r : Int} (h : gu f r r = s) (i : ∀ z : Int, 0 ≤ z → z < r → f z = z) : ∀ z : Int, 0 ≤ z → z < r + 1 → s z = z := by
  intro z z0 z1
  rw [← h]
  unfold gu
  by_cases c : z = r
  · rw [if_pos c, c]
  · rw [if_neg c]; exact i z z0 (by omega)
theorem nx_rev {n i j lo hi : Int} {f g s : Int → Int} (hr : ∀ zq : Int, s zq = g (swi lo hi zq)) (hs : lo + hi = i + n) (hl : i < lo) (hh : lo < hi) (hv : ∀ q : Int, 0 ≤ q → q < n → g q = f (swi i j (if (i < q ∧ q < lo) ∨ hi < q then i + n - q else q))) (h0 : 0 ≤ i) : ∀ q : Int, 0 ≤ q → q < n → s q = f (swi i j (if (i < q ∧ q < lo + 1) ∨ hi + -1 < q then i + n - q else q)) := by
  intro q q0 q1
  rw [hr q]
  by_cases c1 : q = lo
  · have e : swi lo hi q = hi := by unfold swi; rw [if_pos c1]
    rw [e, hv hi (by omega) (by omega), if_neg (by omega), if_pos (by omega), show i + n - q = hi by omega]
  · by_cases c2 : q = hi
    · have e : swi lo hi q = lo := by unfold swi; rw [if_neg c1, if_pos c2]
      rw [e, hv lo (by omega) (by omega), if_neg (by omega), if_pos (by omega), show i + n - q = lo by omega]
    · have e : swi lo hi q = q := by unfold swi; rw [if_neg c1, if_neg c2]
      rw [e, hv q q0 q1]
      by_cases c3 : (i < q ∧ q < lo) ∨ hi < q
      · rw [if_pos c3, if_pos (by omega)]
      · rw [if_neg c3, if_neg (by omega)]
theorem nx_end {n o o2 i j lo hi : Int} {f g : Int → Int} (hB : ∀ r : Int, 0 ≤ r → r < n → f r = dg o r) (i0 : 0 ≤ i) (i1 : i ≤ n - 2) (hle : dg o i ≤ dg o (i + 1)) (hd : ∀ z : Int, 0 ≤ z → i < z → z + 1 < n → dg o (z + 1) < dg o z) (hj : i ≤ j ∧ j ≤ n - 1) (hjs : ∀ z : Int, j < z → z < n → dg o z < dg o i) (hex : j ≤ i ∨ dg o i ≤ dg o j) (hs : lo + hi = i + n) (hl : i < lo ∧ lo ≤ hi + 2) (hge : hi ≤ lo) (hv : ∀ q : Int, 0 ≤ q → q < n → g q = f (swi i j (if (i < q ∧ q < lo) ∨ hi < q then i + n - q else q))) : NXo n o o2 → ∀ zq : Int, 0 ≤ zq → zq < n → g zq = dg o2 zq := by
  intro hN q q0 q1
  have hlt : dg o i < dg o (i + 1) := by
    rcases (show dg o i < dg o (i + 1) ∨ dg o i = dg o (i + 1) by omega) with e | e
    · exact e
    · have := hN.2.1 i (i + 1) i0 (by omega) (by omega) (by omega) e; omega
  have hij : i < j := by
    rcases (show i < j ∨ j = i by omega) with e | e
    · exact e
    · subst e; have := hjs (j + 1) (by omega) (by omega); omega
  have hlj : dg o i < dg o j := by
    rcases (show dg o i < dg o j ∨ dg o i = dg o j by omega) with e | e
    · exact e
    · have := hN.2.1 i j i0 (by omega) (by omega) (by omega) e; omega
  rw [hN.2.2 i j i0 (by omega) hlt (fun z z0 z1 => hd z (by omega) z0 z1) hij (by omega) hlj hjs q q0 q1, hv q q0 q1]
  have e : swi i j (if (i < q ∧ q < lo) ∨ hi < q then i + n - q else q) = (if q < i then q else if q = i then j else if i + n - q = j then i else i + n - q) := by
    by_cases c1 : q < i
    · rw [if_pos c1, if_neg (by omega)]
      unfold swi
      rw [if_neg (by omega), if_neg (by omega)]
    · rw [if_neg c1]
      by_cases c2 : q = i
      · rw [if_pos c2, if_neg (by omega)]
        unfold swi
        rw [if_pos c2]
      · rw [if_neg c2]
        have e2 : (if (i < q ∧ q < lo) ∨ hi < q then i + n - q else q) = i + n - q := by
          by_cases c3 : (i < q ∧ q < lo) ∨ hi < q
          · rw [if_pos c3]
          · rw [if_neg c3]; omega
        rw [e2]
        unfold swi
        rw [if_neg (by omega)]
  rw [e]
  have hr : 0 ≤ (if q < i then q else if q = i then j else if i + n - q = j then i else i + n - q) ∧ (if q < i then q else if q = i then j else if i + n - q = j then i else i + n - q) < n := by
    split
    · omega
    · split
      · omega
      · split <;> omega
  exact hB _ hr.1 hr.2

theorem ALL_len (S : Int → Int) : ((PL (S 0)).length : Int) = (ALL S).1 := by
  have h : ∀ (L : List Int) (q : Int × Int × Int × Int), (L.foldl (LEAF S) q).1 = q.1 + (L.length : Int) := fun L => by
    induction L with
    | nil => intro q; simp
    | cons o L ih =>
      intro q
      rw [List.foldl_cons, ih]
      show q.1 + 1 + (L.length : Int) = _
      rw [List.length_cons]
      omega
  unfold ALL GO
  rw [h]
  show _ = (0 : Int) + _
  rw [Int.zero_add]

set_option maxRecDepth 100000 in
set_option maxHeartbeats 4000000 in
theorem c_X11_firstOrder (l : Launch) (G : GT) (A D : Nat → Nat) (T : Nat) (I : Nat → Int → Int) (F : Nat → Int) (Q : Nat → Nat → Option Nat) (P : va_W)    : CT l yX11_firstOrder cX11_firstOrder 2 none 0 0 0 G [.ref (A 57)] (CW A D T G.2.1 I F Q P) (fun vo wo => ∃ (b57 : Int → Int), vo = none ∧ wo = CW A D T G.2.1 (au I 57 b57) F Q P ∧ (∀ zq : Int, 0 ≤ zq → zq < 6 → b57 zq = zq)) := by
  refine CT_of (own := RX11) rfl rfl (Nat.le_of_ble_eq_true rfl) (fun K hl hnL hC hRT hin => ?_)
  subst hl
  show WW K G 0 0 (CW A D T G.2.1 I F Q P) 0 [(0, .ref (A 57))] []
  refine w_iconst (pc := 0) hC dX11_firstOrder_0 ?_
  refine w_istore_n (pc := 1) hC dX11_firstOrder_1 rfl (lv2 := [(1, .int (J 0)), (0, .ref (A 57))]) (by rw [hnL]; decide) rfl ?_
  have loop2 : ∀ (nF : Nat) (r : Int) (a57_2 : Int → Int), (0 ≤ r) → (r ≤ 6) → (∀ z : Int, 0 ≤ z → z < r → a57_2 z = z) → (6 - r) < (nF : Int) → WW K G 0 0 (CW A D T G.2.1 (au I 57 a57_2) F Q P) 2 [(0, .ref (A 57)), (1, .int (J r))] [] := by
    intro nF
    induction nF with
    | zero => intro r a57_2 i1 i2 i3 hm2; exact absurd hm2 (by omega)
    | succ nF ih2 =>
      intro r a57_2 i1 i2 i3 hm2
      refine w_iload_n (pc := 2) hC dX11_firstOrder_2 1 rfl rfl ?_
      refine w_aload_n (pc := 3) hC dX11_firstOrder_3 0 rfl rfl ?_
      refine w_alen (pc := 4) hC dX11_firstOrder_4 57 0 CW_57 rfl ?_
      refine w_icmp_ge (pc := 5) (tgt := 18) hC dX11_firstOrder_5 (by decide) (by omega) (fun c5 => ?_) (fun c5 => ?_)
      · refine w_vret (pc := 18) hC hRT dX11_firstOrder_18 ?_
        refine ⟨a57_2, rfl, rfl, ?_⟩
        · exact fun zq z0 z1 => i3 zq z0 (by omega)
      · refine w_aload_n (pc := 8) hC dX11_firstOrder_8 0 rfl rfl ?_
        refine w_iload_n (pc := 9) hC dX11_firstOrder_9 1 rfl rfl ?_
        refine w_iload_n (pc := 10) hC dX11_firstOrder_10 1 rfl rfl ?_
        refine w_iast (pc := 11) (g := a57_2) (w2 := CW A D T G.2.1 (au I 57 (gu a57_2 r r)) F Q P) hC dX11_firstOrder_11 57 CW_57 (by omega) (Nat.le_of_ble_eq_true rfl) (CWa_57 au_rp) ?_
        generalize h11 : gu a57_2 r r = s11
        refine w_iinc (pc := 12) hC dX11_firstOrder_12 (lv2 := [(1, .int (J (r + 1))), (0, .ref (A 57))]) 1 rfl (by rw [hnL]; decide) rfl ?_
        refine w_goto (pc := 15) hC dX11_firstOrder_15 (tgt := 2) (by decide) ?_
        refine w_sub [1, 0] (lv2 := [(0, .ref (A 57)), (1, .int (J (r + 1)))]) rfl ?_
        refine ih2 (r + 1) s11 ?_ ?_ ?_ ?_
        · first | assumption | omega
        · first | assumption | omega
        · exact fo_put h11 i3
        · omega
  refine w_weq (CW_cong (au_ms (k := 57) (v := I 57) rfl rfl rfl) rfl rfl) ?_
  refine w_sub [1, 0] (lv2 := [(0, .ref (A 57)), (1, .int (J 0))]) rfl ?_
  refine loop2 ((6 - 0) + 1 : Int).toNat 0 (I 57) ?_ ?_ ?_ ?_
  · first | assumption | omega
  · first | assumption | omega
  · intro z z0 z1; omega
  · omega
set_option maxRecDepth 100000 in
set_option maxHeartbeats 4000000 in
theorem c_X11_nextOrder (l : Launch) (G : GT) (A D : Nat → Nat) (T : Nat) (I : Nat → Int → Int) (F : Nat → Int) (Q : Nat → Nat → Option Nat) (P : va_W) (o : Int) (o2 : Int) (n : Int) (hn : 0 ≤ n ∧ n ≤ 6) (hB : ∀ r : Int, 0 ≤ r → r < n → (I 57) r = dg o r) : CT l yX11_nextOrder cX11_nextOrder 6 none 1 0 0 G [.ref (A 57), .int (J n)] (CW A D T G.2.1 I F Q P) (fun vo wo => ∃ (b57 : Int → Int), vo = none ∧ wo = CW A D T G.2.1 (au I 57 b57) F Q P ∧ (NXo n o o2 → ∀ zq : Int, 0 ≤ zq → zq < n → b57 zq = dg o2 zq)) := by
  refine CT_of (own := RX11) rfl rfl (Nat.le_of_ble_eq_true rfl) (fun K hl hnL hC hRT hin => ?_)
  subst hl
  show WW K G 0 0 (CW A D T G.2.1 I F Q P) 0 [(0, .ref (A 57)), (1, .int (J n))] []
  refine w_iload_n (pc := 0) hC dX11_nextOrder_0 1 rfl rfl ?_
  refine w_iconst (pc := 1) hC dX11_nextOrder_1 ?_
  refine w_isub (pc := 2) hC dX11_nextOrder_2 ?_
  refine w_istore_n (pc := 3) hC dX11_nextOrder_3 rfl (lv2 := [(2, .int (J (n - 2))), (0, .ref (A 57)), (1, .int (J n))]) (by rw [hnL]; decide) rfl ?_
  have loop4 : ∀ (nF : Nat) (i : Int), (-2 ≤ i ∧ i ≤ n - 2) → (∀ z : Int, 0 ≤ z → i < z → z + 1 < n → dg o (z + 1) < dg o z) → (i + 3) < (nF : Int) → WW K G 0 0 (CW A D T G.2.1 I F Q P) 4 [(0, .ref (A 57)), (1, .int (J n)), (2, .int (J i))] [] := by
    intro nF
    induction nF with
    | zero => intro i i1 i2 hm4; exact absurd hm4 (by omega)
    | succ nF ih4 =>
      intro i i1 i2 hm4
      refine w_iload_n (pc := 4) hC dX11_nextOrder_4 2 rfl rfl ?_
      refine w_if_lt (pc := 5) (tgt := 25) hC dX11_nextOrder_5 (by decide) (by omega) (fun c5 => ?_) (fun c5 => ?_)
      · refine w_iload_n (pc := 25) hC dX11_nextOrder_25 2 rfl rfl ?_
        refine w_if_ge (pc := 26) (tgt := 30) hC dX11_nextOrder_26 (by decide) (by omega) (fun c26 => ?_) (fun c26 => ?_)
        · exfalso; omega
        · refine w_vret (pc := 29) hC hRT dX11_nextOrder_29 ?_
          refine ⟨(I 57), rfl, CW_cong (au_ms (k := 57) (v := I 57) rfl rfl rfl) rfl rfl, ?_⟩
          · exact fun hN => by obtain ⟨⟨z, z0, z1, z2⟩, _⟩ := hN; have := i2 z z0 (by omega) z1; omega
      · refine w_aload_n (pc := 8) hC dX11_nextOrder_8 0 rfl rfl ?_
        refine w_iload_n (pc := 9) hC dX11_nextOrder_9 2 rfl rfl ?_
        refine w_ialdV (pc := 10) (g := (I 57)) (v := dg o i) hC dX11_nextOrder_10 57 CW_57 (by omega) (Nat.le_of_ble_eq_true rfl) (hB _ (by omega) (by omega)) ?_
        refine w_aload_n (pc := 11) hC dX11_nextOrder_11 0 rfl rfl ?_
        refine w_iload_n (pc := 12) hC dX11_nextOrder_12 2 rfl rfl ?_
        refine w_iconst (pc := 13) hC dX11_nextOrder_13 ?_
        refine w_iadd (pc := 14) hC dX11_nextOrder_14 ?_
        refine w_ialdV (pc := 15) (g := (I 57)) (v := dg o (i + 1)) hC dX11_nextOrder_15 57 CW_57 (by omega) (Nat.le_of_ble_eq_true rfl) (hB _ (by omega) (by omega)) ?_
        refine w_icmp_le (pc := 16) (tgt := 25) hC dX11_nextOrder_16 (by decide) (by have := dg7 o i; have := dg7 o (i + 1); omega) (fun c16 => ?_) (fun c16 => ?_)
        · refine w_iload_n (pc := 25) hC dX11_nextOrder_25 2 rfl rfl ?_
          refine w_if_ge (pc := 26) (tgt := 30) hC dX11_nextOrder_26 (by decide) (by omega) (fun c26 => ?_) (fun c26 => ?_)
          · refine w_iload_n (pc := 30) hC dX11_nextOrder_30 1 rfl rfl ?_
            refine w_iconst (pc := 31) hC dX11_nextOrder_31 ?_
            refine w_isub (pc := 32) hC dX11_nextOrder_32 ?_
            refine w_istore_n (pc := 33) hC dX11_nextOrder_33 rfl (lv2 := [(3, .int (J (n - 1))), (0, .ref (A 57)), (1, .int (J n)), (2, .int (J i))]) (by rw [hnL]; decide) rfl ?_
            have loop34 : ∀ (nF : Nat) (j : Int), (i ≤ j ∧ j ≤ n - 1) → (∀ z : Int, j < z → z < n → dg o z < dg o i) → (j + 1) < (nF : Int) → WW K G 0 0 (CW A D T G.2.1 I F Q P) 34 [(0, .ref (A 57)), (1, .int (J n)), (2, .int (J i)), (3, .int (J j))] [] := by
              intro nF
              induction nF with
              | zero => intro j j1 j2 hm34; exact absurd hm34 (by omega)
              | succ nF ih34 =>
                intro j j1 j2 hm34
                refine w_iload_n (pc := 34) hC dX11_nextOrder_34 3 rfl rfl ?_
                refine w_iload_n (pc := 35) hC dX11_nextOrder_35 2 rfl rfl ?_
                refine w_icmp_le (pc := 36) (tgt := 54) hC dX11_nextOrder_36 (by decide) (by omega) (fun c36 => ?_) (fun c36 => ?_)
                · refine w_aload_n (pc := 54) hC dX11_nextOrder_54 0 rfl rfl ?_
                  refine w_iload_n (pc := 55) hC dX11_nextOrder_55 2 rfl rfl ?_
                  refine w_iload_n (pc := 56) hC dX11_nextOrder_56 3 rfl rfl ?_
                  refine w_callS (pc := 57) (As := [.ref (A 57), .int (J i), .int (J j)]) (rest := []) hC dX11_nextOrder_57 cs_X11_315 (c_X11_swap_v57 (kl K) G A D T I F Q P i j (show 0 ≤ i ∧ i < 6 from by first | assumption | omega) (show 0 ≤ j ∧ j < 6 from by first | assumption | omega)) (by decide) ⟨Nat.le_of_ble_eq_true rfl, Nat.le_of_ble_eq_true rfl⟩ rfl (Nat.le_of_ble_eq_true rfl) rfl (fun vo wo hv => ?_)
                  obtain ⟨b57_57, hv1, hw1, r57⟩ := hv
                  rw [hv1, hw1]
                  show WW K G 0 0 (CW A D T G.2.1 (au I 57 b57_57) F Q P) 60 [(0, .ref (A 57)), (1, .int (J n)), (2, .int (J i)), (3, .int (J j))] []
                  have r57 : ∀ zq : Int, b57_57 zq = (I 57) (swi i j zq) := r57
                  refine w_iload_n (pc := 60) hC dX11_nextOrder_60 2 rfl rfl ?_
                  refine w_iconst (pc := 61) hC dX11_nextOrder_61 ?_
                  refine w_iadd (pc := 62) hC dX11_nextOrder_62 ?_
                  refine w_istore (pc := 63) hC dX11_nextOrder_63 (lv2 := [(4, .int (J (i + 1))), (0, .ref (A 57)), (1, .int (J n)), (2, .int (J i)), (3, .int (J j))]) (by rw [hnL]; decide) rfl ?_
                  refine w_iload_n (pc := 65) hC dX11_nextOrder_65 2 rfl rfl ?_
                  refine w_iconst (pc := 66) hC dX11_nextOrder_66 ?_
                  refine w_isub (pc := 67) hC dX11_nextOrder_67 ?_
                  refine w_istore (pc := 68) hC dX11_nextOrder_68 (lv2 := [(5, .int (J (n - 1))), (4, .int (J (i + 1))), (0, .ref (A 57)), (1, .int (J n)), (2, .int (J i)), (3, .int (J j))]) (by rw [hnL]; decide) rfl ?_
                  have loop70 : ∀ (nF : Nat) (lo : Int) (hi : Int) (a57_70 : Int → Int), (lo + hi = i + n) → (i < lo ∧ lo ≤ hi + 2) → (∀ q : Int, 0 ≤ q → q < n → a57_70 q = (I 57) (swi i j (if (i < q ∧ q < lo) ∨ hi < q then i + n - q else q))) → (hi + 3) < (nF : Int) → WW K G 0 0 (CW A D T G.2.1 (au I 57 a57_70) F Q P) 70 [(0, .ref (A 57)), (4, .int (J lo)), (5, .int (J hi))] [] := by
                    intro nF
                    induction nF with
                    | zero => intro lo hi a57_70 k1 k2 k3 hm70; exact absurd hm70 (by omega)
                    | succ nF ih70 =>
                      intro lo hi a57_70 k1 k2 k3 hm70
                      refine w_iload (pc := 70) hC dX11_nextOrder_70 1 rfl ?_
                      refine w_iload (pc := 72) hC dX11_nextOrder_72 2 rfl ?_
                      refine w_icmp_ge (pc := 74) (tgt := 94) hC dX11_nextOrder_74 (by decide) (by omega) (fun c74 => ?_) (fun c74 => ?_)
                      · refine w_vret (pc := 94) hC hRT dX11_nextOrder_94 ?_
                        refine ⟨a57_70, rfl, rfl, ?_⟩
                        · exact nx_end hB c26 (by omega) c16 i2 j1 j2 (by omega) k1 k2 c74 k3
                      · refine w_aload_n (pc := 77) hC dX11_nextOrder_77 0 rfl rfl ?_
                        refine w_iload (pc := 78) hC dX11_nextOrder_78 1 rfl ?_
                        refine w_iload (pc := 80) hC dX11_nextOrder_80 2 rfl ?_
                        refine w_callS (pc := 82) (As := [.ref (A 57), .int (J lo), .int (J hi)]) (rest := []) hC dX11_nextOrder_82 cs_X11_315 (c_X11_swap_v57 (kl K) G A D T (au I 57 a57_70) F Q P lo hi (show 0 ≤ lo ∧ lo < 6 from by first | assumption | omega) (show 0 ≤ hi ∧ hi < 6 from by first | assumption | omega)) (by decide) ⟨Nat.le_of_ble_eq_true rfl, Nat.le_of_ble_eq_true rfl⟩ rfl (Nat.le_of_ble_eq_true rfl) rfl (fun vo wo hv => ?_)
                        obtain ⟨b57_82, hv1, hw1, r82⟩ := hv
                        rw [hv1, hw1]
                        refine w_weq (CW_cong (au_th rfl au_rp) rfl rfl) ?_
                        show WW K G 0 0 (CW A D T G.2.1 (au I 57 b57_82) F Q P) 85 [(0, .ref (A 57)), (4, .int (J lo)), (5, .int (J hi))] []
                        have r82 : ∀ zq : Int, b57_82 zq = a57_70 (swi lo hi zq) := r82
                        refine w_iinc (pc := 85) hC dX11_nextOrder_85 (lv2 := [(4, .int (J (lo + 1))), (0, .ref (A 57)), (5, .int (J hi))]) 1 rfl (by rw [hnL]; decide) rfl ?_
                        refine w_iinc (pc := 88) hC dX11_nextOrder_88 (lv2 := [(5, .int (J (hi + (-1)))), (4, .int (J (lo + 1))), (0, .ref (A 57))]) 2 rfl (by rw [hnL]; decide) rfl ?_
                        refine w_goto (pc := 91) hC dX11_nextOrder_91 (tgt := 70) (by decide) ?_
                        refine w_sub [2, 1, 0] (lv2 := [(0, .ref (A 57)), (4, .int (J (lo + 1))), (5, .int (J (hi + (-1))))]) rfl ?_
                        refine ih70 (lo + 1) (hi + (-1)) b57_82 ?_ ?_ ?_ ?_
                        · first | assumption | omega
                        · first | assumption | omega
                        · exact nx_rev r82 k1 k2.1 c74 k3 c26
                        · omega
                  refine w_sub [2, 1, 0] (lv2 := [(0, .ref (A 57)), (4, .int (J (i + 1))), (5, .int (J (n - 1)))]) rfl ?_
                  refine loop70 (((n - 1) + 3) + 1 : Int).toNat (i + 1) (n - 1) b57_57 ?_ ?_ ?_ ?_
                  · first | assumption | omega
                  · first | assumption | omega
                  · intro q q0 q1; rw [r57 q, if_neg (by omega)]
                  · omega
                · refine w_aload_n (pc := 39) hC dX11_nextOrder_39 0 rfl rfl ?_
                  refine w_iload_n (pc := 40) hC dX11_nextOrder_40 3 rfl rfl ?_
                  refine w_ialdV (pc := 41) (g := (I 57)) (v := dg o j) hC dX11_nextOrder_41 57 CW_57 (by omega) (Nat.le_of_ble_eq_true rfl) (hB _ (by omega) (by omega)) ?_
                  refine w_aload_n (pc := 42) hC dX11_nextOrder_42 0 rfl rfl ?_
                  refine w_iload_n (pc := 43) hC dX11_nextOrder_43 2 rfl rfl ?_
                  refine w_ialdV (pc := 44) (g := (I 57)) (v := dg o i) hC dX11_nextOrder_44 57 CW_57 (by omega) (Nat.le_of_ble_eq_true rfl) (hB _ (by omega) (by omega)) ?_
                  refine w_icmp_ge (pc := 45) (tgt := 54) hC dX11_nextOrder_45 (by decide) (by have := dg7 o j; have := dg7 o i; omega) (fun c45 => ?_) (fun c45 => ?_)
                  · refine w_aload_n (pc := 54) hC dX11_nextOrder_54 0 rfl rfl ?_
                    refine w_iload_n (pc := 55) hC dX11_nextOrder_55 2 rfl rfl ?_
                    refine w_iload_n (pc := 56) hC dX11_nextOrder_56 3 rfl rfl ?_
                    refine w_callS (pc := 57) (As := [.ref (A 57), .int (J i), .int (J j)]) (rest := []) hC dX11_nextOrder_57 cs_X11_315 (c_X11_swap_v57 (kl K) G A D T I F Q P i j (show 0 ≤ i ∧ i < 6 from by first | assumption | omega) (show 0 ≤ j ∧ j < 6 from by first | assumption | omega)) (by decide) ⟨Nat.le_of_ble_eq_true rfl, Nat.le_of_ble_eq_true rfl⟩ rfl (Nat.le_of_ble_eq_true rfl) rfl (fun vo wo hv => ?_)
                    obtain ⟨b57_57, hv1, hw1, r57⟩ := hv
                    rw [hv1, hw1]
                    show WW K G 0 0 (CW A D T G.2.1 (au I 57 b57_57) F Q P) 60 [(0, .ref (A 57)), (1, .int (J n)), (2, .int (J i)), (3, .int (J j))] []
                    have r57 : ∀ zq : Int, b57_57 zq = (I 57) (swi i j zq) := r57
                    refine w_iload_n (pc := 60) hC dX11_nextOrder_60 2 rfl rfl ?_
                    refine w_iconst (pc := 61) hC dX11_nextOrder_61 ?_
                    refine w_iadd (pc := 62) hC dX11_nextOrder_62 ?_
                    refine w_istore (pc := 63) hC dX11_nextOrder_63 (lv2 := [(4, .int (J (i + 1))), (0, .ref (A 57)), (1, .int (J n)), (2, .int (J i)), (3, .int (J j))]) (by rw [hnL]; decide) rfl ?_
                    refine w_iload_n (pc := 65) hC dX11_nextOrder_65 2 rfl rfl ?_
                    refine w_iconst (pc := 66) hC dX11_nextOrder_66 ?_
                    refine w_isub (pc := 67) hC dX11_nextOrder_67 ?_
                    refine w_istore (pc := 68) hC dX11_nextOrder_68 (lv2 := [(5, .int (J (n - 1))), (4, .int (J (i + 1))), (0, .ref (A 57)), (1, .int (J n)), (2, .int (J i)), (3, .int (J j))]) (by rw [hnL]; decide) rfl ?_
                    have loop70 : ∀ (nF : Nat) (lo : Int) (hi : Int) (a57_70 : Int → Int), (lo + hi = i + n) → (i < lo ∧ lo ≤ hi + 2) → (∀ q : Int, 0 ≤ q → q < n → a57_70 q = (I 57) (swi i j (if (i < q ∧ q < lo) ∨ hi < q then i + n - q else q))) → (hi + 3) < (nF : Int) → WW K G 0 0 (CW A D T G.2.1 (au I 57 a57_70) F Q P) 70 [(0, .ref (A 57)), (4, .int (J lo)), (5, .int (J hi))] [] := by
                      intro nF
                      induction nF with
                      | zero => intro lo hi a57_70 k1 k2 k3 hm70; exact absurd hm70 (by omega)
                      | succ nF ih70 =>
                        intro lo hi a57_70 k1 k2 k3 hm70
                        refine w_iload (pc := 70) hC dX11_nextOrder_70 1 rfl ?_
                        refine w_iload (pc := 72) hC dX11_nextOrder_72 2 rfl ?_
                        refine w_icmp_ge (pc := 74) (tgt := 94) hC dX11_nextOrder_74 (by decide) (by omega) (fun c74 => ?_) (fun c74 => ?_)
                        · refine w_vret (pc := 94) hC hRT dX11_nextOrder_94 ?_
                          refine ⟨a57_70, rfl, rfl, ?_⟩
                          · exact nx_end hB c26 (by omega) c16 i2 j1 j2 (by omega) k1 k2 c74 k3
                        · refine w_aload_n (pc := 77) hC dX11_nextOrder_77 0 rfl rfl ?_
                          refine w_iload (pc := 78) hC dX11_nextOrder_78 1 rfl ?_
                          refine w_iload (pc := 80) hC dX11_nextOrder_80 2 rfl ?_
                          refine w_callS (pc := 82) (As := [.ref (A 57), .int (J lo), .int (J hi)]) (rest := []) hC dX11_nextOrder_82 cs_X11_315 (c_X11_swap_v57 (kl K) G A D T (au I 57 a57_70) F Q P lo hi (show 0 ≤ lo ∧ lo < 6 from by first | assumption | omega) (show 0 ≤ hi ∧ hi < 6 from by first | assumption | omega)) (by decide) ⟨Nat.le_of_ble_eq_true rfl, Nat.le_of_ble_eq_true rfl⟩ rfl (Nat.le_of_ble_eq_true rfl) rfl (fun vo wo hv => ?_)
                          obtain ⟨b57_82, hv1, hw1, r82⟩ := hv
                          rw [hv1, hw1]
                          refine w_weq (CW_cong (au_th rfl au_rp) rfl rfl) ?_
                          show WW K G 0 0 (CW A D T G.2.1 (au I 57 b57_82) F Q P) 85 [(0, .ref (A 57)), (4, .int (J lo)), (5, .int (J hi))] []
                          have r82 : ∀ zq : Int, b57_82 zq = a57_70 (swi lo hi zq) := r82
                          refine w_iinc (pc := 85) hC dX11_nextOrder_85 (lv2 := [(4, .int (J (lo + 1))), (0, .ref (A 57)), (5, .int (J hi))]) 1 rfl (by rw [hnL]; decide) rfl ?_
                          refine w_iinc (pc := 88) hC dX11_nextOrder_88 (lv2 := [(5, .int (J (hi + (-1)))), (4, .int (J (lo + 1))), (0, .ref (A 57))]) 2 rfl (by rw [hnL]; decide) rfl ?_
                          refine w_goto (pc := 91) hC dX11_nextOrder_91 (tgt := 70) (by decide) ?_
                          refine w_sub [2, 1, 0] (lv2 := [(0, .ref (A 57)), (4, .int (J (lo + 1))), (5, .int (J (hi + (-1))))]) rfl ?_
                          refine ih70 (lo + 1) (hi + (-1)) b57_82 ?_ ?_ ?_ ?_
                          · first | assumption | omega
                          · first | assumption | omega
                          · exact nx_rev r82 k1 k2.1 c74 k3 c26
                          · omega
                    refine w_sub [2, 1, 0] (lv2 := [(0, .ref (A 57)), (4, .int (J (i + 1))), (5, .int (J (n - 1)))]) rfl ?_
                    refine loop70 (((n - 1) + 3) + 1 : Int).toNat (i + 1) (n - 1) b57_57 ?_ ?_ ?_ ?_
                    · first | assumption | omega
                    · first | assumption | omega
                    · intro q q0 q1; rw [r57 q, if_neg (by omega)]
                    · omega
                  · refine w_iinc (pc := 48) hC dX11_nextOrder_48 (lv2 := [(3, .int (J (j + (-1)))), (0, .ref (A 57)), (1, .int (J n)), (2, .int (J i))]) 3 rfl (by rw [hnL]; decide) rfl ?_
                    refine w_goto (pc := 51) hC dX11_nextOrder_51 (tgt := 34) (by decide) ?_
                    refine w_sub [1, 2, 3, 0] (lv2 := [(0, .ref (A 57)), (1, .int (J n)), (2, .int (J i)), (3, .int (J (j + (-1))))]) rfl ?_
                    refine ih34 (j + (-1)) ?_ ?_ ?_
                    · first | assumption | omega
                    · intro z z1 z2; rcases (show z = j ∨ j < z by omega) with e | e; subst e; exact c45; exact j2 z e z2
                    · omega
            refine w_sub [1, 2, 3, 0] (lv2 := [(0, .ref (A 57)), (1, .int (J n)), (2, .int (J i)), (3, .int (J (n - 1)))]) rfl ?_
            refine loop34 (((n - 1) + 1) + 1 : Int).toNat (n - 1) ?_ ?_ ?_
            · first | assumption | omega
            · intro z z1 z2; omega
            · omega
          · exfalso; omega
        · refine w_iinc (pc := 19) hC dX11_nextOrder_19 (lv2 := [(2, .int (J (i + (-1)))), (0, .ref (A 57)), (1, .int (J n))]) 2 rfl (by rw [hnL]; decide) rfl ?_
          refine w_goto (pc := 22) hC dX11_nextOrder_22 (tgt := 4) (by decide) ?_
          refine w_sub [1, 2, 0] (lv2 := [(0, .ref (A 57)), (1, .int (J n)), (2, .int (J (i + (-1))))]) rfl ?_
          refine ih4 (i + (-1)) ?_ ?_ ?_
          · first | assumption | omega
          · intro z z0 z1 z2; rcases (show z = i ∨ i < z by omega) with e | e; subst e; exact c16; exact i2 z z0 e z2
          · omega
  refine w_sub [1, 2, 0] (lv2 := [(0, .ref (A 57)), (1, .int (J n)), (2, .int (J (n - 2)))]) rfl ?_
  refine loop4 (((n - 2) + 3) + 1 : Int).toNat (n - 2) ?_ ?_ ?_
  · first | assumption | omega
  · intro z z0 z1 z2; omega
  · omega
set_option maxRecDepth 100000 in
set_option maxHeartbeats 4000000 in
theorem c_X11_findFewest (l : Launch) (G : GT) (A D : Nat → Nat) (T : Nat) (I : Nat → Int → Int) (F : Nat → Int) (Q : Nat → Nat → Option Nat) (P : va_W) (S : Int → Int)  (hR : RI S) (hL : LRn G.2.1 S I F Q P) : CT l yX11_findFewest cX11_findFewest 5 (some .int) 2 0 0 G [.ref (A 0)] (CW A D T G.2.1 I F Q P) (fun vo wo => ∃ (b57 : Int → Int) (b59 : Int → Int), vo = some (.int (J ((ALL S).2.2.1))) ∧ wo = CW A D T G.2.1 (au (au I 57 b57) 59 b59) F Q P ∧ (∀ zq : Int, 0 ≤ zq → zq < S 0 → b59 zq = dg (ALL S).2.2.2 zq)) := by
  refine CT_of (own := RX11) rfl rfl (Nat.le_of_ble_eq_true rfl) (fun K hl hnL hC hRT hin => ?_)
  subst hl
  show WW K G 0 0 (CW A D T G.2.1 I F Q P) 0 [(0, .ref (A 0))] []
  have hn := hR.n
  have hbd := hR.bd
  have hpl := PL_len hn
  have hfac := FAC_bd hn
  refine w_aload_n (pc := 0) hC dX11_findFewest_0 0 rfl rfl ?_
  refine w_getf (pc := 1) (v := .ref (A 57)) hC dX11_findFewest_1 fi_X11_48 0 CW_0 rfl ?_
  refine w_callS (pc := 4) (As := [.ref (A 57)]) (rest := []) hC dX11_findFewest_4 cs_X11_229 (c_X11_firstOrder (kl K) G A D T I F Q P) (by decide) ⟨Nat.le_of_ble_eq_true rfl, Nat.le_of_ble_eq_true rfl⟩ rfl (Nat.le_of_ble_eq_true rfl) rfl (fun vo wo hv => ?_)
  obtain ⟨b57_4, hv1, hw1, r4⟩ := hv
  rw [hv1, hw1]
  show WW K G 0 0 (CW A D T G.2.1 (au I 57 b57_4) F Q P) 7 [(0, .ref (A 0))] []
  have r4 : ∀ zq : Int, 0 ≤ zq → zq < 6 → b57_4 zq = zq := r4
  refine w_iconst (pc := 7) hC dX11_findFewest_7 ?_
  refine w_istore_n (pc := 8) hC dX11_findFewest_8 rfl (lv2 := [(1, .int (J (-1))), (0, .ref (A 0))]) (by rw [hnL]; decide) rfl ?_
  refine w_aload_n (pc := 9) hC dX11_findFewest_9 1 rfl rfl ?_
  refine w_getf (pc := 10) (v := .ref (A 1)) hC dX11_findFewest_10 fi_X11_12 0 CW_0 rfl ?_
  refine w_getfN (pc := 13) (v := .int (J (S 0))) hC dX11_findFewest_13 fn_X11_57 1 CW_1 (congrArg (fun z : Int => some (Value.int (J z))) (l_n hL)) ?_
  refine w_callS (pc := 16) (As := [.int (J (S 0))]) (rest := []) hC dX11_findFewest_16 cs_X11_226 (c_X11_ordersOf (kl K) G (CW A D T G.2.1 (au I 57 b57_4) F Q P) (S 0) (show 0 ≤ (S 0) ∧ (S 0) ≤ 6 from by first | assumption | omega)) (by decide) ⟨Nat.le_of_ble_eq_true rfl, Nat.le_of_ble_eq_true rfl⟩ rfl (Nat.le_of_ble_eq_true rfl) rfl (fun vo wo hv => ?_)
  obtain ⟨hv1, hw1⟩ := hv
  rw [hv1, hw1]
  show WW K G 0 0 (CW A D T G.2.1 (au I 57 b57_4) F Q P) 19 [(1, .int (J (-1))), (0, .ref (A 0))] [.int (J (FAC (S 0)))]
  have q16_0 := @FAC_bd (S 0) (by omega)
  refine w_istore_n (pc := 19) hC dX11_findFewest_19 rfl (lv2 := [(2, .int (J (FAC (S 0)))), (1, .int (J (-1))), (0, .ref (A 0))]) (by rw [hnL]; decide) rfl ?_
  refine w_iconst (pc := 20) hC dX11_findFewest_20 ?_
  refine w_istore_n (pc := 21) hC dX11_findFewest_21 rfl (lv2 := [(3, .int (J 0)), (2, .int (J (FAC (S 0)))), (1, .int (J (-1))), (0, .ref (A 0))]) (by rw [hnL]; decide) rfl ?_
  have loop22 : ∀ (nF : Nat) (le : Int) (k : Int) (a57_22 : Int → Int) (a59_22 : Int → Int), (0 ≤ k) → (k ≤ FAC (S 0)) → (k < FAC (S 0) → ∀ r : Int, 0 ≤ r → r < S 0 → a57_22 r = dg ((PL (S 0)).getD k.toNat 0) r) → (le = (FO S k).2.2.1 ∧ (-1 ≤ le ∧ le ≤ 3600) ∧ (1 ≤ k → 0 ≤ le)) → (le = -1 ∨ ∀ r : Int, 0 ≤ r → r < S 0 → a59_22 r = dg (FO S k).2.2.2 r) → (FAC (S 0) - k) < (nF : Int) → WW K G 0 0 (CW A D T G.2.1 (au (au I 57 a57_22) 59 a59_22) F Q P) 22 [(0, .ref (A 0)), (1, .int (J le)), (2, .int (J (FAC (S 0)))), (3, .int (J k))] [] := by
    intro nF
    induction nF with
    | zero => intro le k a57_22 a59_22 i1 i2 j1 j2 j3 hm22; exact absurd hm22 (by omega)
    | succ nF ih22 =>
      intro le k a57_22 a59_22 i1 i2 j1 j2 j3 hm22
      refine w_iload_n (pc := 22) hC dX11_findFewest_22 3 rfl rfl ?_
      refine w_iload_n (pc := 23) hC dX11_findFewest_23 2 rfl rfl ?_
      refine w_icmp_ge (pc := 24) (tgt := 88) hC dX11_findFewest_24 (by decide) (by omega) (fun c24 => ?_) (fun c24 => ?_)
      · refine w_iload_n (pc := 88) hC dX11_findFewest_88 1 rfl rfl ?_
        refine w_iret (pc := 89) hC hRT dX11_findFewest_89 rfl ?_
        refine ⟨a57_22, a59_22, retI (by rw [j2.1, show k = ((PL (S 0)).length : Int) by omega, FO_n rfl]), rfl, ?_⟩
        · rw [show k = ((PL (S 0)).length : Int) by omega, FO_n rfl] at j3
          intro zq z0 z1
          rcases j3 with e | e
          · have := j2.2.2 (by omega); omega
          · exact e zq z0 z1
      · have hgk := PL_get (n := S 0) (k := k.toNat) (by omega)
        have hod := PL_OD hn _ hgk.1
        have hrow := j1 (by omega)
        have hvb := v_below_bd hR hod
        refine w_aload_n (pc := 27) hC dX11_findFewest_27 0 rfl rfl ?_
        refine w_getf (pc := 28) (v := .ref (A 1)) hC dX11_findFewest_28 fi_X11_12 0 CW_0 rfl ?_
        refine w_aload_n (pc := 31) hC dX11_findFewest_31 0 rfl rfl ?_
        refine w_getf (pc := 32) (v := .ref (A 57)) hC dX11_findFewest_32 fi_X11_48 0 CW_0 rfl ?_
        refine w_callV (pc := 35) (As := [.ref (A 57)]) (rest := []) hC dX11_findFewest_35 cv_X11_318 (c_X6_wonFromBelow (kl K) G A D T (au (au I 57 a57_22) 59 a59_22) F Q P S ((PL (S 0)).getD k.toNat 0) (show RI S from by first | assumption | omega) (show LRn G.2.1 S (au (au I 57 a57_22) 59 a59_22) F Q P from by exact (LRb_au (by decide) (LRb_au (by decide) hL))) (show ∀ r : Int, 0 ≤ r → r < S 0 → a57_22 r = dg ((PL (S 0)).getD k.toNat 0) r ∧ dg ((PL (S 0)).getD k.toNat 0) r < S 0 from by exact fun r r0 r1 => ⟨hrow r r0 r1, PL_lt hn hgk.1 r0 r1⟩)) (by decide) ⟨Nat.le_of_ble_eq_true rfl, Nat.le_of_ble_eq_true rfl⟩ (q0 := 1) CW_1 rfl rfl rfl (Nat.le_of_ble_eq_true rfl) rfl (fun vo wo hv => ?_)
        obtain ⟨hv1, hw1⟩ := hv
        rw [hv1, hw1]
        show WW K G 0 0 (CW A D T G.2.1 (au (au I 57 a57_22) 59 a59_22) F Q P) 38 [(0, .ref (A 0)), (1, .int (J le)), (2, .int (J (FAC (S 0)))), (3, .int (J k))] [.int (J (v_below S ((PL (S 0)).getD k.toNat 0)))]
        refine w_istore (pc := 38) hC dX11_findFewest_38 (lv2 := [(4, .int (J (v_below S ((PL (S 0)).getD k.toNat 0)))), (0, .ref (A 0)), (1, .int (J le)), (2, .int (J (FAC (S 0)))), (3, .int (J k))]) (by rw [hnL]; decide) rfl ?_
        refine w_iload_n (pc := 40) hC dX11_findFewest_40 2 rfl rfl ?_
        refine w_if_lt (pc := 41) (tgt := 50) hC dX11_findFewest_41 (by decide) (by omega) (fun c41 => ?_) (fun c41 => ?_)
        · refine w_iload (pc := 50) hC dX11_findFewest_50 0 rfl ?_
          refine w_istore_n (pc := 52) hC dX11_findFewest_52 rfl (lv2 := [(1, .int (J (v_below S ((PL (S 0)).getD k.toNat 0)))), (4, .int (J (v_below S ((PL (S 0)).getD k.toNat 0)))), (0, .ref (A 0)), (2, .int (J (FAC (S 0)))), (3, .int (J k))]) (by rw [hnL]; decide) rfl ?_
          refine w_aload_n (pc := 53) hC dX11_findFewest_53 2 rfl rfl ?_
          refine w_getf (pc := 54) (v := .ref (A 57)) hC dX11_findFewest_54 fi_X11_48 0 CW_0 rfl ?_
          refine w_iconst (pc := 57) hC dX11_findFewest_57 ?_
          refine w_aload_n (pc := 58) hC dX11_findFewest_58 2 rfl rfl ?_
          refine w_getf (pc := 59) (v := .ref (A 59)) hC dX11_findFewest_59 fi_X11_54 0 CW_0 rfl ?_
          refine w_iconst (pc := 62) hC dX11_findFewest_62 ?_
          refine w_bipush (pc := 63) hC dX11_findFewest_63 (z := 6) rfl ?_
          refine w_copyI (pc := 65) (f := a57_22) (g := a59_22) (w2 := CW A D T G.2.1 (au (au I 57 a57_22) 59 (cpg a57_22 a59_22 6)) F Q P) hC dX11_findFewest_65 tw_4_80 57 59 CW_57 CW_59 (by omega) (Nat.le_of_ble_eq_true rfl) (Nat.le_of_ble_eq_true rfl) (CWa_59 au_rp) ?_
          generalize h65 : cpg a57_22 a59_22 6 = s65
          refine w_aload_n (pc := 68) hC dX11_findFewest_68 2 rfl rfl ?_
          refine w_getf (pc := 69) (v := .ref (A 57)) hC dX11_findFewest_69 fi_X11_48 0 CW_0 rfl ?_
          refine w_aload_n (pc := 72) hC dX11_findFewest_72 2 rfl rfl ?_
          refine w_getf (pc := 73) (v := .ref (A 1)) hC dX11_findFewest_73 fi_X11_12 0 CW_0 rfl ?_
          refine w_getfN (pc := 76) (v := .int (J (S 0))) hC dX11_findFewest_76 fn_X11_57 1 CW_1 (congrArg (fun z : Int => some (Value.int (J z))) (l_n hL)) ?_
          refine w_callS (pc := 79) (As := [.ref (A 57), .int (J (S 0))]) (rest := []) hC dX11_findFewest_79 cs_X11_239 (c_X11_nextOrder (kl K) G A D T (au (au I 57 a57_22) 59 s65) F Q P ((PL (S 0)).getD k.toNat 0) ((PL (S 0)).getD (k.toNat + 1) 0) (S 0) (show 0 ≤ (S 0) ∧ (S 0) ≤ 6 from by first | assumption | omega) (show ∀ r : Int, 0 ≤ r → r < (S 0) → a57_22 r = dg ((PL (S 0)).getD k.toNat 0) r from by exact hrow)) (by decide) ⟨Nat.le_of_ble_eq_true rfl, Nat.le_of_ble_eq_true rfl⟩ rfl (Nat.le_of_ble_eq_true rfl) rfl (fun vo wo hv => ?_)
          obtain ⟨b57_79, hv1, hw1, r79⟩ := hv
          rw [hv1, hw1]
          refine w_weq (CW_cong (au_th rfl (au_cm (by decide) au_rp)) rfl rfl) ?_
          show WW K G 0 0 (CW A D T G.2.1 (au (au I 57 b57_79) 59 s65) F Q P) 82 [(1, .int (J (v_below S ((PL (S 0)).getD k.toNat 0)))), (4, .int (J (v_below S ((PL (S 0)).getD k.toNat 0)))), (0, .ref (A 0)), (2, .int (J (FAC (S 0)))), (3, .int (J k))] []
          have r79 : NXo (S 0) ((PL (S 0)).getD k.toNat 0) ((PL (S 0)).getD (k.toNat + 1) 0) → ∀ zq : Int, 0 ≤ zq → zq < (S 0) → b57_79 zq = dg ((PL (S 0)).getD (k.toNat + 1) 0) zq := r79
          refine w_iinc (pc := 82) hC dX11_findFewest_82 (lv2 := [(3, .int (J (k + 1))), (1, .int (J (v_below S ((PL (S 0)).getD k.toNat 0)))), (4, .int (J (v_below S ((PL (S 0)).getD k.toNat 0)))), (0, .ref (A 0)), (2, .int (J (FAC (S 0))))]) 4 rfl (by rw [hnL]; decide) rfl ?_
          refine w_goto (pc := 85) hC dX11_findFewest_85 (tgt := 22) (by decide) ?_
          refine w_sub [3, 1, 4, 0] (lv2 := [(0, .ref (A 0)), (1, .int (J (v_below S ((PL (S 0)).getD k.toNat 0)))), (2, .int (J (FAC (S 0)))), (3, .int (J (k + 1)))]) rfl ?_
          refine ih22 (v_below S ((PL (S 0)).getD k.toNat 0)) (k + 1) b57_79 s65 ?_ ?_ ?_ ?_ ?_ ?_
          · first | assumption | omega
          · first | assumption | omega
          · intro hk9 r r0 r1; rw [show (k + 1).toNat = k.toNat + 1 by omega]; exact r79 (PL_nx hn (k := k.toNat) (by omega)) r r0 r1
          · have e9 := FO_s S i1 (by omega); rw [e9]; unfold LEAF; dsimp only; rw [← j2.1]; first | (rw [if_pos (by omega)]; exact ⟨rfl, by omega, by omega⟩) | (rw [if_neg (by omega)]; exact ⟨j2.1, by omega, by omega⟩)
          · have e9 := FO_s S i1 (by omega); rw [e9]; unfold LEAF; dsimp only; rw [← j2.1]; first | (rw [if_pos (by omega)]; exact Or.inr (fun r r0 r1 => by rw [cpg_at h65 r0 (by omega)]; exact hrow r r0 r1)) | (rw [if_neg (by omega)]; exact j3)
          · omega
        · refine w_iload (pc := 44) hC dX11_findFewest_44 0 rfl ?_
          refine w_iload_n (pc := 46) hC dX11_findFewest_46 2 rfl rfl ?_
          refine w_icmp_ge (pc := 47) (tgt := 68) hC dX11_findFewest_47 (by decide) (by omega) (fun c47 => ?_) (fun c47 => ?_)
          · refine w_aload_n (pc := 68) hC dX11_findFewest_68 1 rfl rfl ?_
            refine w_getf (pc := 69) (v := .ref (A 57)) hC dX11_findFewest_69 fi_X11_48 0 CW_0 rfl ?_
            refine w_aload_n (pc := 72) hC dX11_findFewest_72 1 rfl rfl ?_
            refine w_getf (pc := 73) (v := .ref (A 1)) hC dX11_findFewest_73 fi_X11_12 0 CW_0 rfl ?_
            refine w_getfN (pc := 76) (v := .int (J (S 0))) hC dX11_findFewest_76 fn_X11_57 1 CW_1 (congrArg (fun z : Int => some (Value.int (J z))) (l_n hL)) ?_
            refine w_callS (pc := 79) (As := [.ref (A 57), .int (J (S 0))]) (rest := []) hC dX11_findFewest_79 cs_X11_239 (c_X11_nextOrder (kl K) G A D T (au (au I 57 a57_22) 59 a59_22) F Q P ((PL (S 0)).getD k.toNat 0) ((PL (S 0)).getD (k.toNat + 1) 0) (S 0) (show 0 ≤ (S 0) ∧ (S 0) ≤ 6 from by first | assumption | omega) (show ∀ r : Int, 0 ≤ r → r < (S 0) → a57_22 r = dg ((PL (S 0)).getD k.toNat 0) r from by exact hrow)) (by decide) ⟨Nat.le_of_ble_eq_true rfl, Nat.le_of_ble_eq_true rfl⟩ rfl (Nat.le_of_ble_eq_true rfl) rfl (fun vo wo hv => ?_)
            obtain ⟨b57_79, hv1, hw1, r79⟩ := hv
            rw [hv1, hw1]
            refine w_weq (CW_cong (au_th rfl (au_cm (by decide) au_rp)) rfl rfl) ?_
            show WW K G 0 0 (CW A D T G.2.1 (au (au I 57 b57_79) 59 a59_22) F Q P) 82 [(4, .int (J (v_below S ((PL (S 0)).getD k.toNat 0)))), (0, .ref (A 0)), (1, .int (J le)), (2, .int (J (FAC (S 0)))), (3, .int (J k))] []
            have r79 : NXo (S 0) ((PL (S 0)).getD k.toNat 0) ((PL (S 0)).getD (k.toNat + 1) 0) → ∀ zq : Int, 0 ≤ zq → zq < (S 0) → b57_79 zq = dg ((PL (S 0)).getD (k.toNat + 1) 0) zq := r79
            refine w_iinc (pc := 82) hC dX11_findFewest_82 (lv2 := [(3, .int (J (k + 1))), (4, .int (J (v_below S ((PL (S 0)).getD k.toNat 0)))), (0, .ref (A 0)), (1, .int (J le)), (2, .int (J (FAC (S 0))))]) 4 rfl (by rw [hnL]; decide) rfl ?_
            refine w_goto (pc := 85) hC dX11_findFewest_85 (tgt := 22) (by decide) ?_
            refine w_sub [2, 3, 4, 0] (lv2 := [(0, .ref (A 0)), (1, .int (J le)), (2, .int (J (FAC (S 0)))), (3, .int (J (k + 1)))]) rfl ?_
            refine ih22 le (k + 1) b57_79 a59_22 ?_ ?_ ?_ ?_ ?_ ?_
            · first | assumption | omega
            · first | assumption | omega
            · intro hk9 r r0 r1; rw [show (k + 1).toNat = k.toNat + 1 by omega]; exact r79 (PL_nx hn (k := k.toNat) (by omega)) r r0 r1
            · have e9 := FO_s S i1 (by omega); rw [e9]; unfold LEAF; dsimp only; rw [← j2.1]; first | (rw [if_pos (by omega)]; exact ⟨rfl, by omega, by omega⟩) | (rw [if_neg (by omega)]; exact ⟨j2.1, by omega, by omega⟩)
            · have e9 := FO_s S i1 (by omega); rw [e9]; unfold LEAF; dsimp only; rw [← j2.1]; first | (rw [if_pos (by omega)]; exact Or.inr (fun r r0 r1 => by rw [cpg_at h65 r0 (by omega)]; exact hrow r r0 r1)) | (rw [if_neg (by omega)]; exact j3)
            · omega
          · refine w_iload (pc := 50) hC dX11_findFewest_50 0 rfl ?_
            refine w_istore_n (pc := 52) hC dX11_findFewest_52 rfl (lv2 := [(1, .int (J (v_below S ((PL (S 0)).getD k.toNat 0)))), (4, .int (J (v_below S ((PL (S 0)).getD k.toNat 0)))), (0, .ref (A 0)), (2, .int (J (FAC (S 0)))), (3, .int (J k))]) (by rw [hnL]; decide) rfl ?_
            refine w_aload_n (pc := 53) hC dX11_findFewest_53 2 rfl rfl ?_
            refine w_getf (pc := 54) (v := .ref (A 57)) hC dX11_findFewest_54 fi_X11_48 0 CW_0 rfl ?_
            refine w_iconst (pc := 57) hC dX11_findFewest_57 ?_
            refine w_aload_n (pc := 58) hC dX11_findFewest_58 2 rfl rfl ?_
            refine w_getf (pc := 59) (v := .ref (A 59)) hC dX11_findFewest_59 fi_X11_54 0 CW_0 rfl ?_
            refine w_iconst (pc := 62) hC dX11_findFewest_62 ?_
            refine w_bipush (pc := 63) hC dX11_findFewest_63 (z := 6) rfl ?_
            refine w_copyI (pc := 65) (f := a57_22) (g := a59_22) (w2 := CW A D T G.2.1 (au (au I 57 a57_22) 59 (cpg a57_22 a59_22 6)) F Q P) hC dX11_findFewest_65 tw_4_80 57 59 CW_57 CW_59 (by omega) (Nat.le_of_ble_eq_true rfl) (Nat.le_of_ble_eq_true rfl) (CWa_59 au_rp) ?_
            generalize h65 : cpg a57_22 a59_22 6 = s65
            refine w_aload_n (pc := 68) hC dX11_findFewest_68 2 rfl rfl ?_
            refine w_getf (pc := 69) (v := .ref (A 57)) hC dX11_findFewest_69 fi_X11_48 0 CW_0 rfl ?_
            refine w_aload_n (pc := 72) hC dX11_findFewest_72 2 rfl rfl ?_
            refine w_getf (pc := 73) (v := .ref (A 1)) hC dX11_findFewest_73 fi_X11_12 0 CW_0 rfl ?_
            refine w_getfN (pc := 76) (v := .int (J (S 0))) hC dX11_findFewest_76 fn_X11_57 1 CW_1 (congrArg (fun z : Int => some (Value.int (J z))) (l_n hL)) ?_
            refine w_callS (pc := 79) (As := [.ref (A 57), .int (J (S 0))]) (rest := []) hC dX11_findFewest_79 cs_X11_239 (c_X11_nextOrder (kl K) G A D T (au (au I 57 a57_22) 59 s65) F Q P ((PL (S 0)).getD k.toNat 0) ((PL (S 0)).getD (k.toNat + 1) 0) (S 0) (show 0 ≤ (S 0) ∧ (S 0) ≤ 6 from by first | assumption | omega) (show ∀ r : Int, 0 ≤ r → r < (S 0) → a57_22 r = dg ((PL (S 0)).getD k.toNat 0) r from by exact hrow)) (by decide) ⟨Nat.le_of_ble_eq_true rfl, Nat.le_of_ble_eq_true rfl⟩ rfl (Nat.le_of_ble_eq_true rfl) rfl (fun vo wo hv => ?_)
            obtain ⟨b57_79, hv1, hw1, r79⟩ := hv
            rw [hv1, hw1]
            refine w_weq (CW_cong (au_th rfl (au_cm (by decide) au_rp)) rfl rfl) ?_
            show WW K G 0 0 (CW A D T G.2.1 (au (au I 57 b57_79) 59 s65) F Q P) 82 [(1, .int (J (v_below S ((PL (S 0)).getD k.toNat 0)))), (4, .int (J (v_below S ((PL (S 0)).getD k.toNat 0)))), (0, .ref (A 0)), (2, .int (J (FAC (S 0)))), (3, .int (J k))] []
            have r79 : NXo (S 0) ((PL (S 0)).getD k.toNat 0) ((PL (S 0)).getD (k.toNat + 1) 0) → ∀ zq : Int, 0 ≤ zq → zq < (S 0) → b57_79 zq = dg ((PL (S 0)).getD (k.toNat + 1) 0) zq := r79
            refine w_iinc (pc := 82) hC dX11_findFewest_82 (lv2 := [(3, .int (J (k + 1))), (1, .int (J (v_below S ((PL (S 0)).getD k.toNat 0)))), (4, .int (J (v_below S ((PL (S 0)).getD k.toNat 0)))), (0, .ref (A 0)), (2, .int (J (FAC (S 0))))]) 4 rfl (by rw [hnL]; decide) rfl ?_
            refine w_goto (pc := 85) hC dX11_findFewest_85 (tgt := 22) (by decide) ?_
            refine w_sub [3, 1, 4, 0] (lv2 := [(0, .ref (A 0)), (1, .int (J (v_below S ((PL (S 0)).getD k.toNat 0)))), (2, .int (J (FAC (S 0)))), (3, .int (J (k + 1)))]) rfl ?_
            refine ih22 (v_below S ((PL (S 0)).getD k.toNat 0)) (k + 1) b57_79 s65 ?_ ?_ ?_ ?_ ?_ ?_
            · first | assumption | omega
            · first | assumption | omega
            · intro hk9 r r0 r1; rw [show (k + 1).toNat = k.toNat + 1 by omega]; exact r79 (PL_nx hn (k := k.toNat) (by omega)) r r0 r1
            · have e9 := FO_s S i1 (by omega); rw [e9]; unfold LEAF; dsimp only; rw [← j2.1]; first | (rw [if_pos (by omega)]; exact ⟨rfl, by omega, by omega⟩) | (rw [if_neg (by omega)]; exact ⟨j2.1, by omega, by omega⟩)
            · have e9 := FO_s S i1 (by omega); rw [e9]; unfold LEAF; dsimp only; rw [← j2.1]; first | (rw [if_pos (by omega)]; exact Or.inr (fun r r0 r1 => by rw [cpg_at h65 r0 (by omega)]; exact hrow r r0 r1)) | (rw [if_neg (by omega)]; exact j3)
            · omega
  refine w_weq (CW_cong (au_ms (k := 59) (v := I 59) rfl rfl rfl) rfl rfl) ?_
  refine w_sub [3, 2, 1, 0] (lv2 := [(0, .ref (A 0)), (1, .int (J (-1))), (2, .int (J (FAC (S 0)))), (3, .int (J 0))]) rfl ?_
  refine loop22 ((FAC (S 0) - 0) + 1 : Int).toNat (-1) 0 b57_4 (I 59) ?_ ?_ ?_ ?_ ?_ ?_
  · first | assumption | omega
  · first | assumption | omega
  · intro _ r r0 r1; rw [r4 r r0 (by omega)]; exact (PL_0 hn r0 r1).symm
  · exact ⟨rfl, by omega, by omega⟩
  · exact Or.inl rfl
  · omega
set_option maxRecDepth 100000 in
set_option maxHeartbeats 4000000 in
theorem c_X11_sorts (l : Launch) (G : GT) (A D : Nat → Nat) (T : Nat) (I : Nat → Int → Int) (F : Nat → Int) (Q : Nat → Nat → Option Nat) (P : va_W) (S : Int → Int) (w : Int) (hR : RI S) (hL : LRn G.2.1 S I F Q P) (h0 : -2147483648 ≤ w ∧ w < 2147483648) : CT l yX11_sorts cX11_sorts 5 (some .int) 2 0 0 G [.ref (A 0), .int (J w)] (CW A D T G.2.1 I F Q P) (fun vo wo => ∃ (b57 : Int → Int) (b58 : Int → Int), vo = some (.int (J (v_sorts S w))) ∧ wo = CW A D T G.2.1 (au (au I 57 b57) 58 b58) F Q P) := by
  refine CT_of (own := RX11) rfl rfl (Nat.le_of_ble_eq_true rfl) (fun K hl hnL hC hRT hin => ?_)
  subst hl
  show WW K G 0 0 (CW A D T G.2.1 I F Q P) 0 [(0, .ref (A 0)), (1, .int (J w))] []
  have hn := hR.n
  have hbd := hR.bd
  have hpl := PL_len hn
  have hfac := FAC_bd hn
  have hrd := hR.rd
  refine w_iload_n (pc := 0) hC dX11_sorts_0 1 rfl rfl ?_
  refine w_callS (pc := 1) (As := [.int (J w)]) (rest := []) hC dX11_sorts_1 cs_X11_75 (c_X11_isEither (kl K) G (CW A D T G.2.1 I F Q P) w (show -2147483648 ≤ w ∧ w < 2147483648 from by first | assumption | omega)) (by decide) ⟨Nat.le_of_ble_eq_true rfl, Nat.le_of_ble_eq_true rfl⟩ rfl (Nat.le_of_ble_eq_true rfl) rfl (fun vo wo hv => ?_)
  obtain ⟨hv1, hw1⟩ := hv
  rw [hv1, hw1]
  show WW K G 0 0 (CW A D T G.2.1 I F Q P) 4 [(0, .ref (A 0)), (1, .int (J w))] [.int (J (bI (w = 0 ∨ w = 1)))]
  refine w_if_ne_b (pc := 4) (tgt := 9) hC dX11_sorts_4 (by decide) (fun c4 => ?_) (fun c4 => ?_)
  · refine w_aload_n (pc := 9) hC dX11_sorts_9 0 rfl rfl ?_
    refine w_getf (pc := 10) (v := .ref (A 1)) hC dX11_sorts_10 fi_X11_12 0 CW_0 rfl ?_
    refine w_callV (pc := 13) (As := []) (rest := []) hC dX11_sorts_13 cv_X11_222 (c_X6_hasRungsOfRounds (kl K) G A D T I F Q P S (show RI S from by first | assumption | omega) (show LRn G.2.1 S I F Q P from by exact hL)) (by decide) ⟨Nat.le_of_ble_eq_true rfl, Nat.le_of_ble_eq_true rfl⟩ (q0 := 1) CW_1 rfl rfl rfl (Nat.le_of_ble_eq_true rfl) rfl (fun vo wo hv => ?_)
    obtain ⟨hv1, hw1⟩ := hv
    rw [hv1, hw1]
    show WW K G 0 0 (CW A D T G.2.1 I F Q P) 16 [(0, .ref (A 0)), (1, .int (J w))] [.int (J (bI (RFN S (S 3).toNat = 1)))]
    refine w_if_ne_b (pc := 16) (tgt := 22) hC dX11_sorts_16 (by decide) (fun c16 => ?_) (fun c16 => ?_)
    · refine w_aload_n (pc := 22) hC dX11_sorts_22 0 rfl rfl ?_
      refine w_getf (pc := 23) (v := .ref (A 1)) hC dX11_sorts_23 fi_X11_12 0 CW_0 rfl ?_
      refine w_getfN (pc := 26) (v := .int (J (S 0))) hC dX11_sorts_26 fn_X11_57 1 CW_1 (congrArg (fun z : Int => some (Value.int (J z))) (l_n hL)) ?_
      refine w_callS (pc := 29) (As := [.int (J (S 0))]) (rest := []) hC dX11_sorts_29 cs_X11_226 (c_X11_ordersOf (kl K) G (CW A D T G.2.1 I F Q P) (S 0) (show 0 ≤ (S 0) ∧ (S 0) ≤ 6 from by first | assumption | omega)) (by decide) ⟨Nat.le_of_ble_eq_true rfl, Nat.le_of_ble_eq_true rfl⟩ rfl (Nat.le_of_ble_eq_true rfl) rfl (fun vo wo hv => ?_)
      obtain ⟨hv1, hw1⟩ := hv
      rw [hv1, hw1]
      show WW K G 0 0 (CW A D T G.2.1 I F Q P) 32 [(0, .ref (A 0)), (1, .int (J w))] [.int (J (FAC (S 0)))]
      have q29_0 := @FAC_bd (S 0) (by omega)
      refine w_istore_n (pc := 32) hC dX11_sorts_32 rfl (lv2 := [(2, .int (J (FAC (S 0)))), (0, .ref (A 0)), (1, .int (J w))]) (by rw [hnL]; decide) rfl ?_
      refine w_iload_n (pc := 33) hC dX11_sorts_33 2 rfl rfl ?_
      refine w_iconst (pc := 34) hC dX11_sorts_34 ?_
      refine w_icmp_ne (pc := 35) (tgt := 40) hC dX11_sorts_35 (by decide) (by omega) (fun c35 => ?_) (fun c35 => ?_)
      · refine w_aload_n (pc := 40) hC dX11_sorts_40 1 rfl rfl ?_
        refine w_getf (pc := 41) (v := .ref (A 57)) hC dX11_sorts_41 fi_X11_48 0 CW_0 rfl ?_
        refine w_callS (pc := 44) (As := [.ref (A 57)]) (rest := []) hC dX11_sorts_44 cs_X11_229 (c_X11_firstOrder (kl K) G A D T I F Q P) (by decide) ⟨Nat.le_of_ble_eq_true rfl, Nat.le_of_ble_eq_true rfl⟩ rfl (Nat.le_of_ble_eq_true rfl) rfl (fun vo wo hv => ?_)
        obtain ⟨b57_44, hv1, hw1, r44⟩ := hv
        rw [hv1, hw1]
        show WW K G 0 0 (CW A D T G.2.1 (au I 57 b57_44) F Q P) 47 [(2, .int (J (FAC (S 0)))), (0, .ref (A 0)), (1, .int (J w))] []
        have r44 : ∀ zq : Int, 0 ≤ zq → zq < 6 → b57_44 zq = zq := r44
        refine w_iconst (pc := 47) hC dX11_sorts_47 ?_
        refine w_istore_n (pc := 48) hC dX11_sorts_48 rfl (lv2 := [(3, .int (J 0)), (2, .int (J (FAC (S 0)))), (0, .ref (A 0)), (1, .int (J w))]) (by rw [hnL]; decide) rfl ?_
        refine w_iconst (pc := 49) hC dX11_sorts_49 ?_
        refine w_istore (pc := 50) hC dX11_sorts_50 (lv2 := [(4, .int (J 0)), (3, .int (J 0)), (2, .int (J (FAC (S 0)))), (0, .ref (A 0)), (1, .int (J w))]) (by rw [hnL]; decide) rfl ?_
        have loop52 : ∀ (nF : Nat) (x : Int) (k : Int) (a57_52 : Int → Int) (a58_52 : Int → Int), (0 ≤ k) → (k ≤ FAC (S 0)) → (k < FAC (S 0) → ∀ r : Int, 0 ≤ r → r < S 0 → a57_52 r = dg ((PL (S 0)).getD k.toNat 0) r) → (x = (FO S k).2.1) → (FAC (S 0) - k) < (nF : Int) → WW K G 0 0 (CW A D T G.2.1 (au (au I 57 a57_52) 58 a58_52) F Q P) 52 [(0, .ref (A 0)), (2, .int (J (FAC (S 0)))), (3, .int (J x)), (4, .int (J k))] [] := by
          intro nF
          induction nF with
          | zero => intro x k a57_52 a58_52 i1 i2 j1 j2 hm52; exact absurd hm52 (by omega)
          | succ nF ih52 =>
            intro x k a57_52 a58_52 i1 i2 j1 j2 hm52
            refine w_iload (pc := 52) hC dX11_sorts_52 3 rfl ?_
            refine w_iload_n (pc := 54) hC dX11_sorts_54 1 rfl rfl ?_
            refine w_icmp_ge (pc := 55) (tgt := 121) hC dX11_sorts_55 (by decide) (by omega) (fun c55 => ?_) (fun c55 => ?_)
            · refine w_iload_n (pc := 121) hC dX11_sorts_121 2 rfl rfl ?_
              refine w_iret (pc := 122) hC hRT dX11_sorts_122 rfl ?_
              refine ⟨a57_52, a58_52, retI (by unfold v_sorts; rw [if_neg (by omega), if_neg (fun h9 => h9 c16), if_pos (by omega), j2, show k = ((PL (S 0)).length : Int) by omega, FO_n rfl]), rfl⟩
            · have hgk := PL_get (n := S 0) (k := k.toNat) (by omega)
              have hod := PL_OD hn _ hgk.1
              have hrow := j1 (by omega)
              have hcp : ∀ r : Int, 0 ≤ r → r < S 0 → 0 ≤ r ∧ r < 6 := fun r r0 r1 => by omega
              refine w_aload_n (pc := 58) hC dX11_sorts_58 0 rfl rfl ?_
              refine w_getf (pc := 59) (v := .ref (A 57)) hC dX11_sorts_59 fi_X11_48 0 CW_0 rfl ?_
              refine w_iconst (pc := 62) hC dX11_sorts_62 ?_
              refine w_aload_n (pc := 63) hC dX11_sorts_63 0 rfl rfl ?_
              refine w_getf (pc := 64) (v := .ref (A 58)) hC dX11_sorts_64 fi_X11_51 0 CW_0 rfl ?_
              refine w_iconst (pc := 67) hC dX11_sorts_67 ?_
              refine w_bipush (pc := 68) hC dX11_sorts_68 (z := 6) rfl ?_
              refine w_copyI (pc := 70) (f := a57_52) (g := a58_52) (w2 := CW A D T G.2.1 (au (au I 57 a57_52) 58 (cpg a57_52 a58_52 6)) F Q P) hC dX11_sorts_70 tw_4_80 57 58 CW_57 CW_58 (by omega) (Nat.le_of_ble_eq_true rfl) (Nat.le_of_ble_eq_true rfl) (CWa_58 au_rp) ?_
              generalize h70 : cpg a57_52 a58_52 6 = s70
              have htr : ∀ r : Int, 0 ≤ r → r < S 0 → s70 r = dg ((PL (S 0)).getD k.toNat 0) r ∧ dg ((PL (S 0)).getD k.toNat 0) r < S 0 := fun r r0 r1 => ⟨by rw [cpg_at h70 r0 (by omega)]; exact hrow r r0 r1, PL_lt hn hgk.1 r0 r1⟩
              refine w_aload_n (pc := 73) hC dX11_sorts_73 0 rfl rfl ?_
              refine w_getf (pc := 74) (v := .ref (A 1)) hC dX11_sorts_74 fi_X11_12 0 CW_0 rfl ?_
              refine w_aload_n (pc := 77) hC dX11_sorts_77 0 rfl rfl ?_
              refine w_getf (pc := 78) (v := .ref (A 58)) hC dX11_sorts_78 fi_X11_51 0 CW_0 rfl ?_
              refine w_callV (pc := 81) (As := [.ref (A 58)]) (rest := []) hC dX11_sorts_81 cv_X11_232 (c_X6_playRounds (kl K) G A D T (au (au I 57 a57_52) 58 s70) F Q P S ((PL (S 0)).getD k.toNat 0) (show RI S from by first | assumption | omega) (show LRn G.2.1 S (au (au I 57 a57_52) 58 s70) F Q P from by exact (LRb_au (by decide) (LRb_au (by decide) hL))) (show ∀ k : Int, 0 ≤ k → k < S 3 → S (893 + 2 * k + 1) < S 0 from by exact fun z z0 z1 => RFN_all c16 z z0 (by omega)) (show ∀ r : Int, 0 ≤ r → r < S 0 → s70 r = dg ((PL (S 0)).getD k.toNat 0) r ∧ dg ((PL (S 0)).getD k.toNat 0) r < S 0 from by exact htr)) (by decide) ⟨Nat.le_of_ble_eq_true rfl, Nat.le_of_ble_eq_true rfl⟩ (q0 := 1) CW_1 rfl rfl rfl (Nat.le_of_ble_eq_true rfl) rfl (fun vo wo hv => ?_)
              obtain ⟨b58_81, hv1, hw1, r81⟩ := hv
              rw [hv1, hw1]
              refine w_weq (CW_cong (au_th rfl au_rp) rfl rfl) ?_
              show WW K G 0 0 (CW A D T G.2.1 (au (au I 57 a57_52) 58 b58_81) F Q P) 84 [(0, .ref (A 0)), (2, .int (J (FAC (S 0)))), (3, .int (J x)), (4, .int (J k))] []
              have r81 : ∀ zq : Int, 0 ≤ zq → zq < S 0 → b58_81 zq = dg (SRT S ((PL (S 0)).getD k.toNat 0) (S 3).toNat) zq ∧ dg (SRT S ((PL (S 0)).getD k.toNat 0) (S 3).toNat) zq < S 0 := r81
              refine w_aload_n (pc := 84) hC dX11_sorts_84 0 rfl rfl ?_
              refine w_getf (pc := 85) (v := .ref (A 1)) hC dX11_sorts_85 fi_X11_12 0 CW_0 rfl ?_
              refine w_aload_n (pc := 88) hC dX11_sorts_88 0 rfl rfl ?_
              refine w_getf (pc := 89) (v := .ref (A 58)) hC dX11_sorts_89 fi_X11_51 0 CW_0 rfl ?_
              refine w_callV (pc := 92) (As := [.ref (A 58)]) (rest := []) hC dX11_sorts_92 cv_X11_235 (c_X6_isSettled (kl K) G A D T (au (au I 57 a57_52) 58 b58_81) F Q P S (SRT S ((PL (S 0)).getD k.toNat 0) (S 3).toNat) (show RI S from by first | assumption | omega) (show LRn G.2.1 S (au (au I 57 a57_52) 58 b58_81) F Q P from by exact (LRb_au (by decide) (LRb_au (by decide) hL))) (show ∀ r : Int, 0 ≤ r → r < S 0 → b58_81 r = dg (SRT S ((PL (S 0)).getD k.toNat 0) (S 3).toNat) r ∧ dg (SRT S ((PL (S 0)).getD k.toNat 0) (S 3).toNat) r < S 0 from by exact r81)) (by decide) ⟨Nat.le_of_ble_eq_true rfl, Nat.le_of_ble_eq_true rfl⟩ (q0 := 1) CW_1 rfl rfl rfl (Nat.le_of_ble_eq_true rfl) rfl (fun vo wo hv => ?_)
              obtain ⟨hv1, hw1⟩ := hv
              rw [hv1, hw1]
              show WW K G 0 0 (CW A D T G.2.1 (au (au I 57 a57_52) 58 b58_81) F Q P) 95 [(0, .ref (A 0)), (2, .int (J (FAC (S 0)))), (3, .int (J x)), (4, .int (J k))] [.int (J (bI (SOK S (SRT S ((PL (S 0)).getD k.toNat 0) (S 3).toNat) (S 0 - 1).toNat = 1)))]
              refine w_if_eq_b (pc := 95) (tgt := 101) hC dX11_sorts_95 (by decide) (fun c95 => ?_) (fun c95 => ?_)
              · refine w_aload_n (pc := 101) hC dX11_sorts_101 0 rfl rfl ?_
                refine w_getf (pc := 102) (v := .ref (A 57)) hC dX11_sorts_102 fi_X11_48 0 CW_0 rfl ?_
                refine w_aload_n (pc := 105) hC dX11_sorts_105 0 rfl rfl ?_
                refine w_getf (pc := 106) (v := .ref (A 1)) hC dX11_sorts_106 fi_X11_12 0 CW_0 rfl ?_
                refine w_getfN (pc := 109) (v := .int (J (S 0))) hC dX11_sorts_109 fn_X11_57 1 CW_1 (congrArg (fun z : Int => some (Value.int (J z))) (l_n hL)) ?_
                refine w_callS (pc := 112) (As := [.ref (A 57), .int (J (S 0))]) (rest := []) hC dX11_sorts_112 cs_X11_239 (c_X11_nextOrder (kl K) G A D T (au (au I 57 a57_52) 58 b58_81) F Q P ((PL (S 0)).getD k.toNat 0) ((PL (S 0)).getD (k.toNat + 1) 0) (S 0) (show 0 ≤ (S 0) ∧ (S 0) ≤ 6 from by first | assumption | omega) (show ∀ r : Int, 0 ≤ r → r < (S 0) → a57_52 r = dg ((PL (S 0)).getD k.toNat 0) r from by exact hrow)) (by decide) ⟨Nat.le_of_ble_eq_true rfl, Nat.le_of_ble_eq_true rfl⟩ rfl (Nat.le_of_ble_eq_true rfl) rfl (fun vo wo hv => ?_)
                obtain ⟨b57_112, hv1, hw1, r112⟩ := hv
                rw [hv1, hw1]
                refine w_weq (CW_cong (au_th rfl (au_cm (by decide) au_rp)) rfl rfl) ?_
                show WW K G 0 0 (CW A D T G.2.1 (au (au I 57 b57_112) 58 b58_81) F Q P) 115 [(0, .ref (A 0)), (2, .int (J (FAC (S 0)))), (3, .int (J x)), (4, .int (J k))] []
                have r112 : NXo (S 0) ((PL (S 0)).getD k.toNat 0) ((PL (S 0)).getD (k.toNat + 1) 0) → ∀ zq : Int, 0 ≤ zq → zq < (S 0) → b57_112 zq = dg ((PL (S 0)).getD (k.toNat + 1) 0) zq := r112
                refine w_iinc (pc := 115) hC dX11_sorts_115 (lv2 := [(4, .int (J (k + 1))), (0, .ref (A 0)), (2, .int (J (FAC (S 0)))), (3, .int (J x))]) 3 rfl (by rw [hnL]; decide) rfl ?_
                refine w_goto (pc := 118) hC dX11_sorts_118 (tgt := 52) (by decide) ?_
                refine w_sub [1, 2, 3, 0] (lv2 := [(0, .ref (A 0)), (2, .int (J (FAC (S 0)))), (3, .int (J x)), (4, .int (J (k + 1)))]) rfl ?_
                refine ih52 x (k + 1) b57_112 b58_81 ?_ ?_ ?_ ?_ ?_
                · first | assumption | omega
                · first | assumption | omega
                · intro hk9 r r0 r1; rw [show (k + 1).toNat = k.toNat + 1 by omega]; exact r112 (PL_nx hn (k := k.toNat) (by omega)) r r0 r1
                · have e9 := FO_s S i1 (by omega); rw [e9]; unfold LEAF v_sorted; dsimp only; rw [← j2]; rcases SOK_01 S (SRT S ((PL (S 0)).getD k.toNat 0) (S 3).toNat) (S 0 - 1).toNat with e | e <;> rw [e] <;> omega
                · omega
              · refine w_iinc (pc := 98) hC dX11_sorts_98 (lv2 := [(3, .int (J (x + 1))), (0, .ref (A 0)), (2, .int (J (FAC (S 0)))), (4, .int (J k))]) 2 rfl (by rw [hnL]; decide) rfl ?_
                refine w_aload_n (pc := 101) hC dX11_sorts_101 1 rfl rfl ?_
                refine w_getf (pc := 102) (v := .ref (A 57)) hC dX11_sorts_102 fi_X11_48 0 CW_0 rfl ?_
                refine w_aload_n (pc := 105) hC dX11_sorts_105 1 rfl rfl ?_
                refine w_getf (pc := 106) (v := .ref (A 1)) hC dX11_sorts_106 fi_X11_12 0 CW_0 rfl ?_
                refine w_getfN (pc := 109) (v := .int (J (S 0))) hC dX11_sorts_109 fn_X11_57 1 CW_1 (congrArg (fun z : Int => some (Value.int (J z))) (l_n hL)) ?_
                refine w_callS (pc := 112) (As := [.ref (A 57), .int (J (S 0))]) (rest := []) hC dX11_sorts_112 cs_X11_239 (c_X11_nextOrder (kl K) G A D T (au (au I 57 a57_52) 58 b58_81) F Q P ((PL (S 0)).getD k.toNat 0) ((PL (S 0)).getD (k.toNat + 1) 0) (S 0) (show 0 ≤ (S 0) ∧ (S 0) ≤ 6 from by first | assumption | omega) (show ∀ r : Int, 0 ≤ r → r < (S 0) → a57_52 r = dg ((PL (S 0)).getD k.toNat 0) r from by exact hrow)) (by decide) ⟨Nat.le_of_ble_eq_true rfl, Nat.le_of_ble_eq_true rfl⟩ rfl (Nat.le_of_ble_eq_true rfl) rfl (fun vo wo hv => ?_)
                obtain ⟨b57_112, hv1, hw1, r112⟩ := hv
                rw [hv1, hw1]
                refine w_weq (CW_cong (au_th rfl (au_cm (by decide) au_rp)) rfl rfl) ?_
                show WW K G 0 0 (CW A D T G.2.1 (au (au I 57 b57_112) 58 b58_81) F Q P) 115 [(3, .int (J (x + 1))), (0, .ref (A 0)), (2, .int (J (FAC (S 0)))), (4, .int (J k))] []
                have r112 : NXo (S 0) ((PL (S 0)).getD k.toNat 0) ((PL (S 0)).getD (k.toNat + 1) 0) → ∀ zq : Int, 0 ≤ zq → zq < (S 0) → b57_112 zq = dg ((PL (S 0)).getD (k.toNat + 1) 0) zq := r112
                refine w_iinc (pc := 115) hC dX11_sorts_115 (lv2 := [(4, .int (J (k + 1))), (3, .int (J (x + 1))), (0, .ref (A 0)), (2, .int (J (FAC (S 0))))]) 3 rfl (by rw [hnL]; decide) rfl ?_
                refine w_goto (pc := 118) hC dX11_sorts_118 (tgt := 52) (by decide) ?_
                refine w_sub [2, 3, 1, 0] (lv2 := [(0, .ref (A 0)), (2, .int (J (FAC (S 0)))), (3, .int (J (x + 1))), (4, .int (J (k + 1)))]) rfl ?_
                refine ih52 (x + 1) (k + 1) b57_112 b58_81 ?_ ?_ ?_ ?_ ?_
                · first | assumption | omega
                · first | assumption | omega
                · intro hk9 r r0 r1; rw [show (k + 1).toNat = k.toNat + 1 by omega]; exact r112 (PL_nx hn (k := k.toNat) (by omega)) r r0 r1
                · have e9 := FO_s S i1 (by omega); rw [e9]; unfold LEAF v_sorted; dsimp only; rw [← j2]; rcases SOK_01 S (SRT S ((PL (S 0)).getD k.toNat 0) (S 3).toNat) (S 0 - 1).toNat with e | e <;> rw [e] <;> omega
                · omega
        refine w_weq (CW_cong (au_ms (k := 58) (v := I 58) rfl rfl rfl) rfl rfl) ?_
        refine w_sub [3, 2, 1, 0] (lv2 := [(0, .ref (A 0)), (2, .int (J (FAC (S 0)))), (3, .int (J 0)), (4, .int (J 0))]) rfl ?_
        refine loop52 ((FAC (S 0) - 0) + 1 : Int).toNat 0 0 b57_44 (I 58) ?_ ?_ ?_ ?_ ?_
        · first | assumption | omega
        · first | assumption | omega
        · intro _ r r0 r1; rw [r44 r r0 (by omega)]; exact (PL_0 hn r0 r1).symm
        · rfl
        · omega
      · refine w_iload_n (pc := 38) hC dX11_sorts_38 0 rfl rfl ?_
        refine w_iret (pc := 39) hC hRT dX11_sorts_39 rfl ?_
        refine ⟨(I 57), (I 58), retI (by unfold v_sorts; rw [if_neg (by omega), if_neg (fun h9 => h9 c16), if_neg (by omega)]; rw [← hpl]; exact ALL_len S), CW_cong (au_ms (k := 57) (v := I 57) rfl rfl (au_ms (k := 58) (v := I 58) rfl rfl rfl)) rfl rfl⟩
    · refine w_bipush (pc := 19) hC dX11_sorts_19 (z := (-3)) rfl ?_
      refine w_iret (pc := 21) hC hRT dX11_sorts_21 rfl ?_
      refine ⟨(I 57), (I 58), retI (by unfold v_sorts; rw [if_neg (by omega), if_pos c16]), CW_cong (au_ms (k := 57) (v := I 57) rfl rfl (au_ms (k := 58) (v := I 58) rfl rfl rfl)) rfl rfl⟩
  · refine w_iconst (pc := 7) hC dX11_sorts_7 ?_
    refine w_iret (pc := 8) hC hRT dX11_sorts_8 rfl ?_
    refine ⟨(I 57), (I 58), retI (by unfold v_sorts; rw [if_pos (by omega)]), CW_cong (au_ms (k := 57) (v := I 57) rfl rfl (au_ms (k := 58) (v := I 58) rfl rfl rfl)) rfl rfl⟩
set_option maxRecDepth 100000 in
set_option maxHeartbeats 4000000 in
theorem c_X11_order (l : Launch) (G : GT) (A D : Nat → Nat) (T : Nat) (I : Nat → Int → Int) (F : Nat → Int) (Q : Nat → Nat → Option Nat) (P : va_W) (S : Int → Int) (i : Int) (hR : RI S) (hL : LRn G.2.1 S I F Q P) (h0 : -2147483648 ≤ i ∧ i < 2147483648) : CT l yX11_order cX11_order 2 (some .int) 3 0 0 G [.ref (A 0), .int (J i)] (CW A D T G.2.1 I F Q P) (fun vo wo => ∃ (b57 : Int → Int) (b59 : Int → Int), vo = some (.int (J (v_order S i))) ∧ wo = CW A D T G.2.1 (au (au I 57 b57) 59 b59) F Q P) := by
  refine CT_of (own := RX11) rfl rfl (Nat.le_of_ble_eq_true rfl) (fun K hl hnL hC hRT hin => ?_)
  subst hl
  show WW K G 0 0 (CW A D T G.2.1 I F Q P) 0 [(0, .ref (A 0)), (1, .int (J i))] []
  have hn := hR.n
  have hbd := hR.bd
  refine w_aload_n (pc := 0) hC dX11_order_0 0 rfl rfl ?_
  refine w_iload_n (pc := 1) hC dX11_order_1 1 rfl rfl ?_
  refine w_callV (pc := 2) (As := [.int (J i)]) (rest := []) hC dX11_order_2 cv_X11_72 (c_X11_isRung (kl K) G A D T I F Q P S i (show RI S from by first | assumption | omega) (show LRn G.2.1 S I F Q P from by exact hL) (show -2147483648 ≤ i ∧ i < 2147483648 from by first | assumption | omega)) (by decide) ⟨Nat.le_of_ble_eq_true rfl, Nat.le_of_ble_eq_true rfl⟩ (q0 := 0) CW_0 rfl rfl rfl (Nat.le_of_ble_eq_true rfl) rfl (fun vo wo hv => ?_)
  obtain ⟨hv1, hw1⟩ := hv
  rw [hv1, hw1]
  show WW K G 0 0 (CW A D T G.2.1 I F Q P) 5 [(0, .ref (A 0)), (1, .int (J i))] [.int (J (bI (0 ≤ i ∧ i < S 0)))]
  refine w_if_ne_b (pc := 5) (tgt := 10) hC dX11_order_5 (by decide) (fun c5 => ?_) (fun c5 => ?_)
  · refine w_aload_n (pc := 10) hC dX11_order_10 0 rfl rfl ?_
    refine w_callV (pc := 11) (As := []) (rest := []) hC dX11_order_11 cv_X11_252 (c_X11_findFewest (kl K) G A D T I F Q P S (show RI S from by first | assumption | omega) (show LRn G.2.1 S I F Q P from by exact hL)) (by decide) ⟨Nat.le_of_ble_eq_true rfl, Nat.le_of_ble_eq_true rfl⟩ (q0 := 0) CW_0 rfl rfl rfl (Nat.le_of_ble_eq_true rfl) rfl (fun vo wo hv => ?_)
    obtain ⟨b57_11, b59_11, hv1, hw1, r11⟩ := hv
    rw [hv1, hw1]
    show WW K G 0 0 (CW A D T G.2.1 (au (au I 57 b57_11) 59 b59_11) F Q P) 14 [(0, .ref (A 0)), (1, .int (J i))] [.int (J ((ALL S).2.2.1))]
    have r11 : ∀ zq : Int, 0 ≤ zq → zq < S 0 → b59_11 zq = dg (ALL S).2.2.2 zq := r11
    refine w_pop (pc := 14) hC dX11_order_14 rfl ?_
    refine w_aload_n (pc := 15) hC dX11_order_15 0 rfl rfl ?_
    refine w_getf (pc := 16) (v := .ref (A 59)) hC dX11_order_16 fi_X11_54 0 CW_0 rfl ?_
    refine w_iload_n (pc := 19) hC dX11_order_19 1 rfl rfl ?_
    refine w_ialdV (pc := 20) (g := b59_11) (v := b59_11 i) hC dX11_order_20 59 CW_59 (by omega) (Nat.le_of_ble_eq_true rfl) rfl ?_
    refine w_iret (pc := 21) hC hRT dX11_order_21 rfl ?_
    refine ⟨b57_11, b59_11, retI (by unfold v_order; rw [if_neg (by omega)]; exact r11 i (by omega) (by omega)), rfl⟩
  · refine w_iconst (pc := 8) hC dX11_order_8 ?_
    refine w_iret (pc := 9) hC hRT dX11_order_9 rfl ?_
    refine ⟨(I 57), (I 59), retI (by unfold v_order; rw [if_pos (by omega)]), CW_cong (au_ms (k := 57) (v := I 57) rfl rfl (au_ms (k := 59) (v := I 59) rfl rfl rfl)) rfl rfl⟩
set_option maxRecDepth 100000 in
set_option maxHeartbeats 4000000 in
theorem c_X11_really (l : Launch) (G : GT) (A D : Nat → Nat) (T : Nat) (I : Nat → Int → Int) (F : Nat → Int) (Q : Nat → Nat → Option Nat) (P : va_W) (S : Int → Int) (w : Int) (hR : RI S) (hL : LRn G.2.1 S I F Q P) (h0 : -2147483648 ≤ w ∧ w < 2147483648) : CT l yX11_really cX11_really 2 (some .int) 3 0 0 G [.ref (A 0), .int (J w)] (CW A D T G.2.1 I F Q P) (fun vo wo => ∃ (b57 : Int → Int) (b59 : Int → Int), vo = some (.int (J (v_really S w))) ∧ wo = CW A D T G.2.1 (au (au I 57 b57) 59 b59) F Q P) := by
  refine CT_of (own := RX11) rfl rfl (Nat.le_of_ble_eq_true rfl) (fun K hl hnL hC hRT hin => ?_)
  subst hl
  show WW K G 0 0 (CW A D T G.2.1 I F Q P) 0 [(0, .ref (A 0)), (1, .int (J w))] []
  have hn := hR.n
  have hbd := hR.bd
  refine w_iload_n (pc := 0) hC dX11_really_0 1 rfl rfl ?_
  rcases (show w = 0 ∨ w = 1 ∨ w = 2 ∨ (w < 0 ∨ 2 < w) by omega) with c1 | c1 | c1 | c1
  · refine w_tableIn (pc := 1) (v := 0) (tgt := 28) hC dX11_really_1 c1 (by decide) rfl (by decide) ?_
    refine w_aload_n (pc := 28) hC dX11_really_28 0 rfl rfl ?_
    refine w_getf (pc := 29) (v := .ref (A 1)) hC dX11_really_29 fi_X11_12 0 CW_0 rfl ?_
    refine w_callV (pc := 32) (As := []) (rest := []) hC dX11_really_32 cv_X11_246 (c_X6_threes (kl K) G A D T I F Q P S (show RI S from by first | assumption | omega) (show LRn G.2.1 S I F Q P from by exact hL)) (by decide) ⟨Nat.le_of_ble_eq_true rfl, Nat.le_of_ble_eq_true rfl⟩ (q0 := 1) CW_1 rfl rfl rfl (Nat.le_of_ble_eq_true rfl) rfl (fun vo wo hv => ?_)
    obtain ⟨hv1, hw1⟩ := hv
    rw [hv1, hw1]
    show WW K G 0 0 (CW A D T G.2.1 I F Q P) 35 [(0, .ref (A 0)), (1, .int (J w))] [.int (J (TRI S))]
    refine w_iret (pc := 35) hC hRT dX11_really_35 rfl ?_
    refine ⟨(I 57), (I 59), retI (by unfold v_really; rw [if_neg (by omega), if_pos c1]), CW_cong (au_ms (k := 57) (v := I 57) rfl rfl (au_ms (k := 59) (v := I 59) rfl rfl rfl)) rfl rfl⟩
  · refine w_tableIn (pc := 1) (v := 1) (tgt := 36) hC dX11_really_1 c1 (by decide) rfl (by decide) ?_
    refine w_aload_n (pc := 36) hC dX11_really_36 0 rfl rfl ?_
    refine w_getf (pc := 37) (v := .ref (A 1)) hC dX11_really_37 fi_X11_12 0 CW_0 rfl ?_
    refine w_callV (pc := 40) (As := []) (rest := []) hC dX11_really_40 cv_X11_249 (c_X6_neverAsked (kl K) G A D T I F Q P S (show RI S from by first | assumption | omega) (show LRn G.2.1 S I F Q P from by exact hL)) (by decide) ⟨Nat.le_of_ble_eq_true rfl, Nat.le_of_ble_eq_true rfl⟩ (q0 := 1) CW_1 rfl rfl rfl (Nat.le_of_ble_eq_true rfl) rfl (fun vo wo hv => ?_)
    obtain ⟨hv1, hw1⟩ := hv
    rw [hv1, hw1]
    show WW K G 0 0 (CW A D T G.2.1 I F Q P) 43 [(0, .ref (A 0)), (1, .int (J w))] [.int (J (UNM S))]
    refine w_iret (pc := 43) hC hRT dX11_really_43 rfl ?_
    refine ⟨(I 57), (I 59), retI (by unfold v_really; rw [if_neg (by omega), if_neg (by omega), if_pos c1]), CW_cong (au_ms (k := 57) (v := I 57) rfl rfl (au_ms (k := 59) (v := I 59) rfl rfl rfl)) rfl rfl⟩
  · refine w_tableIn (pc := 1) (v := 2) (tgt := 44) hC dX11_really_1 c1 (by decide) rfl (by decide) ?_
    refine w_aload_n (pc := 44) hC dX11_really_44 0 rfl rfl ?_
    refine w_callV (pc := 45) (As := []) (rest := []) hC dX11_really_45 cv_X11_252 (c_X11_findFewest (kl K) G A D T I F Q P S (show RI S from by first | assumption | omega) (show LRn G.2.1 S I F Q P from by exact hL)) (by decide) ⟨Nat.le_of_ble_eq_true rfl, Nat.le_of_ble_eq_true rfl⟩ (q0 := 0) CW_0 rfl rfl rfl (Nat.le_of_ble_eq_true rfl) rfl (fun vo wo hv => ?_)
    obtain ⟨b57_45, b59_45, hv1, hw1, r45⟩ := hv
    rw [hv1, hw1]
    show WW K G 0 0 (CW A D T G.2.1 (au (au I 57 b57_45) 59 b59_45) F Q P) 48 [(0, .ref (A 0)), (1, .int (J w))] [.int (J ((ALL S).2.2.1))]
    have r45 : ∀ zq : Int, 0 ≤ zq → zq < S 0 → b59_45 zq = dg (ALL S).2.2.2 zq := r45
    refine w_iret (pc := 48) hC hRT dX11_really_48 rfl ?_
    refine ⟨b57_45, b59_45, retI (by unfold v_really; rw [if_neg (by omega), if_neg (by omega), if_neg (by omega)]), rfl⟩
  · refine w_tableOut (pc := 1) (tgt := 49) hC dX11_really_1 (by omega) c1 (by decide) ?_
    refine w_iconst (pc := 49) hC dX11_really_49 ?_
    refine w_iret (pc := 50) hC hRT dX11_really_50 rfl ?_
    refine ⟨(I 57), (I 59), retI (by unfold v_really; rw [if_pos (by omega)]), CW_cong (au_ms (k := 57) (v := I 57) rfl rfl (au_ms (k := 59) (v := I 59) rfl rfl rfl)) rfl rfl⟩
set_option maxRecDepth 100000 in
set_option maxHeartbeats 4000000 in
theorem c_X11_begin (l : Launch) (G : GT) (A D : Nat → Nat) (T : Nat) (I : Nat → Int → Int) (F : Nat → Int) (Q : Nat → Nat → Option Nat) (P : va_W) (S : Int → Int) (a : Int) (n : Int) (nm : Int) (hR : RI S) (hL : LRn G.2.1 S I F Q P) (h0 : -2147483648 ≤ a ∧ a < 2147483648) (h1 : -2147483648 ≤ n ∧ n < 2147483648) (h2 : -2147483648 ≤ nm ∧ nm < 2147483648) : CT l yX11_begin cX11_begin 10 (some .int) 6 0 0 G [.ref (A 0), .int (J a), .int (J n), .int (J nm)] (CW A D T G.2.1 I F Q P) (fun vo wo => ∃ (b56 : Int → Int) (b58 : Int → Int) (D : Nat → Nat) (b23 : Int → Int) (b50 : Int → Int) (b51 : Int → Int) (b52 : Int → Int) (b53 : Int → Int) (b54 : Int → Int) (g30 : Int) (g31 : Int) (g32 : Int), vo = some (.int (J (v_begin S a n nm))) ∧ wo = CW A D T G.2.1 (au (au (au (au (au (au (au (au I 23 b23) 50 b50) 51 b51) 52 b52) 53 b53) 54 b54) 56 b56) 58 b58) (fu (fu (fu F 30 g30) 31 g31) 32 g32) Q P) := by
  refine CT_of (own := RX11) rfl rfl (Nat.le_of_ble_eq_true rfl) (fun K hl hnL hC hRT hin => ?_)
  subst hl
  show WW K G 0 0 (CW A D T G.2.1 I F Q P) 0 [(0, .ref (A 0)), (1, .int (J a)), (2, .int (J n)), (3, .int (J nm))] []
  have hn := hR.n
  have hbd := hR.bd
  refine w_aload_n (pc := 0) hC dX11_begin_0 0 rfl rfl ?_
  refine w_iload_n (pc := 1) hC dX11_begin_1 1 rfl rfl ?_
  refine w_callV (pc := 2) (As := [.int (J a)]) (rest := []) hC dX11_begin_2 cv_X11_112 (c_X11_clubAt (kl K) G A D T I F Q P S a (show RI S from by assumption) (show LRn G.2.1 S I F Q P from by exact hL) (show -2147483648 ≤ a ∧ a < 2147483648 from by omega)) (by decide) ⟨Nat.le_of_ble_eq_true rfl, Nat.le_of_ble_eq_true rfl⟩ (q0 := 0) CW_0 rfl rfl rfl (Nat.le_of_ble_eq_true rfl) rfl (fun vo wo hv => ?_)
  obtain ⟨hv1, hw1⟩ := hv
  by_cases hc : 0 ≤ a ∧ a < S 1
  · obtain ⟨qb, hQc, hcl⟩ := l_clb hL hc.1 hc.2
    rw [if_pos hc, hQc] at hv1
    rw [hv1, hw1]
    show WW K G 0 0 (CW A D T G.2.1 I F Q P) 5 [(0, .ref (A 0)), (1, .int (J a)), (2, .int (J n)), (3, .int (J nm))] [.ref qb]
    refine w_astore (pc := 5) hC dX11_begin_5 (lv2 := [(4, .ref qb), (0, .ref (A 0)), (1, .int (J a)), (2, .int (J n)), (3, .int (J nm))]) (by rw [hnL]; decide) rfl ?_
    refine w_aload (pc := 7) hC dX11_begin_7 0 rfl ?_
    refine w_ifnullR (pc := 9) hC dX11_begin_9 ?_
    refine w_aload_n (pc := 12) hC dX11_begin_12 1 rfl rfl ?_
    refine w_iload_n (pc := 13) hC dX11_begin_13 4 rfl rfl ?_
    refine w_callV (pc := 14) (As := [.int (J nm)]) (rest := []) hC dX11_begin_14 cv_X11_64 (c_X11_isName (kl K) G A D T I F Q P S nm (show RI S from by first | assumption | omega) (show LRn G.2.1 S I F Q P from by exact hL) (show -2147483648 ≤ nm ∧ nm < 2147483648 from by first | assumption | omega)) (by decide) ⟨Nat.le_of_ble_eq_true rfl, Nat.le_of_ble_eq_true rfl⟩ (q0 := 0) CW_0 rfl rfl rfl (Nat.le_of_ble_eq_true rfl) rfl (fun vo wo hv => ?_)
    obtain ⟨hv1, hw1⟩ := hv
    rw [hv1, hw1]
    show WW K G 0 0 (CW A D T G.2.1 I F Q P) 17 [(4, .ref qb), (0, .ref (A 0)), (1, .int (J a)), (2, .int (J n)), (3, .int (J nm))] [.int (J (bI (0 ≤ nm ∧ nm < S 0)))]
    refine w_if_ne_b (pc := 17) (tgt := 22) hC dX11_begin_17 (by decide) (fun c17 => ?_) (fun c17 => ?_)
    · refine w_iload_n (pc := 22) hC dX11_begin_22 3 rfl rfl ?_
      refine w_callS (pc := 23) (As := [.int (J n)]) (rest := []) hC dX11_begin_23 cs_X11_155 (c_X11_isDaysOn (kl K) G (CW A D T G.2.1 I F Q P) n (show -2147483648 ≤ n ∧ n < 2147483648 from by first | assumption | omega)) (by decide) ⟨Nat.le_of_ble_eq_true rfl, Nat.le_of_ble_eq_true rfl⟩ rfl (Nat.le_of_ble_eq_true rfl) rfl (fun vo wo hv => ?_)
      obtain ⟨hv1, hw1⟩ := hv
      rw [hv1, hw1]
      show WW K G 0 0 (CW A D T G.2.1 I F Q P) 26 [(4, .ref qb), (0, .ref (A 0)), (1, .int (J a)), (2, .int (J n)), (3, .int (J nm))] [.int (J (bI (0 ≤ n ∧ n ≤ 6)))]
      refine w_if_ne_b (pc := 26) (tgt := 32) hC dX11_begin_26 (by decide) (fun c26 => ?_) (fun c26 => ?_)
      · refine w_aload_n (pc := 32) hC dX11_begin_32 1 rfl rfl ?_
        refine w_getf (pc := 33) (v := .ref (A 1)) hC dX11_begin_33 fi_X11_12 0 CW_0 rfl ?_
        refine w_aload_n (pc := 36) hC dX11_begin_36 1 rfl rfl ?_
        refine w_getf (pc := 37) (v := .ref (A 56)) hC dX11_begin_37 fi_X11_45 0 CW_0 rfl ?_
        refine w_callV (pc := 40) (As := [.ref (A 56)]) (rest := []) hC dX11_begin_40 cv_X11_78 (c_X6_findTruth (kl K) G A D T I F Q P S (show RI S from by first | assumption | omega) (show LRn G.2.1 S I F Q P from by exact hL)) (by decide) ⟨Nat.le_of_ble_eq_true rfl, Nat.le_of_ble_eq_true rfl⟩ (q0 := 1) CW_1 rfl rfl rfl (Nat.le_of_ble_eq_true rfl) rfl (fun vo wo hv => ?_)
        obtain ⟨b56_40, hv1, hw1, r40⟩ := hv
        rw [hv1, hw1]
        show WW K G 0 0 (CW A D T G.2.1 (au I 56 b56_40) F Q P) 43 [(4, .ref qb), (0, .ref (A 0)), (1, .int (J a)), (2, .int (J n)), (3, .int (J nm))] []
        have r40 : ∀ zq : Int, 0 ≤ zq → zq < S 0 → b56_40 zq = dg (TB S) zq := r40
        have hkx := rk_spec hR.bd (show 0 ≤ nm by omega) (show nm < S 0 by omega)
        refine w_aload_n (pc := 43) hC dX11_begin_43 1 rfl rfl ?_
        refine w_getf (pc := 44) (v := .ref (A 1)) hC dX11_begin_44 fi_X11_12 0 CW_0 rfl ?_
        refine w_iload_n (pc := 47) hC dX11_begin_47 4 rfl rfl ?_
        refine w_callV (pc := 48) (As := [.int (J nm)]) (rest := []) hC dX11_begin_48 cv_X11_82 (c_X6_rungOf (kl K) G A D T (au I 56 b56_40) F Q P S nm (show RI S from by first | assumption | omega) (show LRn G.2.1 S (au I 56 b56_40) F Q P from by exact (LRb_au (by decide) hL)) (show 0 ≤ nm ∧ nm < S 0 from by first | assumption | omega)) (by decide) ⟨Nat.le_of_ble_eq_true rfl, Nat.le_of_ble_eq_true rfl⟩ (q0 := 1) CW_1 rfl rfl rfl (Nat.le_of_ble_eq_true rfl) rfl (fun vo wo hv => ?_)
        obtain ⟨hv1, hw1⟩ := hv
        rw [hv1, hw1]
        show WW K G 0 0 (CW A D T G.2.1 (au I 56 b56_40) F Q P) 51 [(4, .ref qb), (0, .ref (A 0)), (1, .int (J a)), (2, .int (J n)), (3, .int (J nm))] [.int (J (rk (S 0) (S 6) nm))]
        have q48_0 := (@rk_spec (S 0) (S 6) nm (by first | exact hR.bd | exact (by assumption : RI S).bd) (by omega) (by omega)).1
        refine w_istore (pc := 51) hC dX11_begin_51 (lv2 := [(5, .int (J (rk (S 0) (S 6) nm))), (4, .ref qb), (0, .ref (A 0)), (1, .int (J a)), (2, .int (J n)), (3, .int (J nm))]) (by rw [hnL]; decide) rfl ?_
        refine w_iconst (pc := 53) hC dX11_begin_53 ?_
        refine w_istore (pc := 54) hC dX11_begin_54 (lv2 := [(6, .int (J 0)), (5, .int (J (rk (S 0) (S 6) nm))), (4, .ref qb), (0, .ref (A 0)), (1, .int (J a)), (2, .int (J n)), (3, .int (J nm))]) (by rw [hnL]; decide) rfl ?_
        refine w_ldc2 (pc := 56) hC dX11_begin_56 (z := (-1)) tw_4_79 (by decide) ?_
        refine w_lstore (pc := 59) hC dX11_begin_59 (lv2 := [(7, .long (JL (-1))), (6, .int (J 0)), (5, .int (J (rk (S 0) (S 6) nm))), (4, .ref qb), (0, .ref (A 0)), (1, .int (J a)), (2, .int (J n)), (3, .int (J nm))]) (by rw [hnL]; decide) rfl ?_
        refine w_iconst (pc := 61) hC dX11_begin_61 ?_
        refine w_istore (pc := 62) hC dX11_begin_62 (lv2 := [(9, .int (J 0)), (7, .long (JL (-1))), (6, .int (J 0)), (5, .int (J (rk (S 0) (S 6) nm))), (4, .ref qb), (0, .ref (A 0)), (1, .int (J a)), (2, .int (J n)), (3, .int (J nm))]) (by rw [hnL]; decide) rfl ?_
        have loop64 : ∀ (nF : Nat) (x : Int) (g : Int) (k : Int) (a58_64 : Int → Int) (D_64 : Nat → Nat) (a23_64 : Int → Int) (a50_64 : Int → Int) (a51_64 : Int → Int) (a52_64 : Int → Int) (a53_64 : Int → Int) (a54_64 : Int → Int) (f30_64 : Int) (f31_64 : Int) (f32_64 : Int), (0 ≤ k) → (k ≤ S 0) → (x = (amx (fun r => EXP S a (-1) (-7) n.toNat (fun b => bI (b = TB S)) (mvd (S 0) (S 6) nm r)) k.toNat).1 ∧ g = (amx (fun r => EXP S a (-1) (-7) n.toNat (fun b => bI (b = TB S)) (mvd (S 0) (S 6) nm r)) k.toNat).2) → (-1 ≤ g ∧ g ≤ 6000000000000) → (S 0 - k) < (nF : Int) → WW K G 0 0 (CW A D_64 T G.2.1 (au (au (au (au (au (au (au (au I 23 a23_64) 50 a50_64) 51 a51_64) 52 a52_64) 53 a53_64) 54 a54_64) 56 b56_40) 58 a58_64) (fu (fu (fu F 30 f30_64) 31 f31_64) 32 f32_64) Q P) 64 [(0, .ref (A 0)), (2, .int (J n)), (4, .ref qb), (5, .int (J (rk (S 0) (S 6) nm))), (6, .int (J x)), (7, .long (JL g)), (9, .int (J k))] [] := by
          intro nF
          induction nF with
          | zero => intro x g k a58_64 D_64 a23_64 a50_64 a51_64 a52_64 a53_64 a54_64 f30_64 f31_64 f32_64 i1 i2 i3 i4 hm64; exact absurd hm64 (by omega)
          | succ nF ih64 =>
            intro x g k a58_64 D_64 a23_64 a50_64 a51_64 a52_64 a53_64 a54_64 f30_64 f31_64 f32_64 i1 i2 i3 i4 hm64
            refine w_iload (pc := 64) hC dX11_begin_64 6 rfl ?_
            refine w_aload_n (pc := 66) hC dX11_begin_66 0 rfl rfl ?_
            refine w_getf (pc := 67) (v := .ref (A 1)) hC dX11_begin_67 fi_X11_12 0 CW_0 rfl ?_
            refine w_getfN (pc := 70) (v := .int (J (S 0))) hC dX11_begin_70 fn_X11_57 1 CW_1 (congrArg (fun z : Int => some (Value.int (J z))) (l_n hL)) ?_
            refine w_icmp_ge (pc := 73) (tgt := 162) hC dX11_begin_73 (by decide) (by omega) (fun c73 => ?_) (fun c73 => ?_)
            · refine w_iload (pc := 162) hC dX11_begin_162 4 rfl ?_
              refine w_iret (pc := 164) hC hRT dX11_begin_164 rfl ?_
              refine ⟨b56_40, a58_64, D_64, a23_64, a50_64, a51_64, a52_64, a53_64, a54_64, f30_64, f31_64, f32_64, retI (by unfold v_begin; rw [if_neg (by omega), if_neg (by omega), i3.1, show k = S 0 by omega]), rfl⟩
            · refine w_aload_n (pc := 76) hC dX11_begin_76 0 rfl rfl ?_
              refine w_getf (pc := 77) (v := .ref (A 1)) hC dX11_begin_77 fi_X11_12 0 CW_0 rfl ?_
              refine w_getfN (pc := 80) (v := .ref (A 2)) hC dX11_begin_80 fn_X11_61 1 CW_1 rfl ?_
              refine w_iconst (pc := 83) hC dX11_begin_83 ?_
              refine w_aload_n (pc := 84) hC dX11_begin_84 0 rfl rfl ?_
              refine w_getf (pc := 85) (v := .ref (A 58)) hC dX11_begin_85 fi_X11_51 0 CW_0 rfl ?_
              refine w_iconst (pc := 88) hC dX11_begin_88 ?_
              refine w_aload_n (pc := 89) hC dX11_begin_89 0 rfl rfl ?_
              refine w_getf (pc := 90) (v := .ref (A 1)) hC dX11_begin_90 fi_X11_12 0 CW_0 rfl ?_
              refine w_getfN (pc := 93) (v := .int (J (S 0))) hC dX11_begin_93 fn_X11_57 1 CW_1 (congrArg (fun z : Int => some (Value.int (J z))) (l_n hL)) ?_
              refine w_copyI (pc := 96) (f := (I 2)) (g := a58_64) (w2 := CW A D_64 T G.2.1 (au (au (au (au (au (au (au (au I 23 a23_64) 50 a50_64) 51 a51_64) 52 a52_64) 53 a53_64) 54 a54_64) 56 b56_40) 58 (cpg (I 2) a58_64 (S 0))) (fu (fu (fu F 30 f30_64) 31 f31_64) 32 f32_64) Q P) hC dX11_begin_96 tw_4_80 2 58 CW_2 CW_58 (by omega) (Nat.le_of_ble_eq_true rfl) (Nat.le_of_ble_eq_true rfl) (CWa_58 au_rp) ?_
              generalize h96 : cpg (I 2) a58_64 (S 0) = s96
              refine w_aload_n (pc := 99) hC dX11_begin_99 0 rfl rfl ?_
              refine w_getf (pc := 100) (v := .ref (A 58)) hC dX11_begin_100 fi_X11_51 0 CW_0 rfl ?_
              refine w_iload (pc := 103) hC dX11_begin_103 3 rfl ?_
              refine w_iload (pc := 105) hC dX11_begin_105 6 rfl ?_
              refine w_callS (pc := 107) (As := [.ref (A 58), .int (J (rk (S 0) (S 6) nm)), .int (J k)]) (rest := []) hC dX11_begin_107 cs_X11_86 (c_X11_move_v58 (kl K) G A D_64 T (au (au (au (au (au (au (au (au I 23 a23_64) 50 a50_64) 51 a51_64) 52 a52_64) 53 a53_64) 54 a54_64) 56 b56_40) 58 s96) (fu (fu (fu F 30 f30_64) 31 f31_64) 32 f32_64) Q P (rk (S 0) (S 6) nm) k (show 0 ≤ (rk (S 0) (S 6) nm) ∧ (rk (S 0) (S 6) nm) < 6 from by first | assumption | omega) (show 0 ≤ k ∧ k < 6 from by first | assumption | omega)) (by decide) ⟨Nat.le_of_ble_eq_true rfl, Nat.le_of_ble_eq_true rfl⟩ rfl (Nat.le_of_ble_eq_true rfl) rfl (fun vo wo hv => ?_)
              obtain ⟨b58_107, hv1, hw1, r107⟩ := hv
              rw [hv1, hw1]
              refine w_weq (CW_cong (au_th rfl au_rp) rfl rfl) ?_
              show WW K G 0 0 (CW A D_64 T G.2.1 (au (au (au (au (au (au (au (au I 23 a23_64) 50 a50_64) 51 a51_64) 52 a52_64) 53 a53_64) 54 a54_64) 56 b56_40) 58 b58_107) (fu (fu (fu F 30 f30_64) 31 f31_64) 32 f32_64) Q P) 110 [(0, .ref (A 0)), (2, .int (J n)), (4, .ref qb), (5, .int (J (rk (S 0) (S 6) nm))), (6, .int (J x)), (7, .long (JL g)), (9, .int (J k))] []
              have r107 : ∀ zq : Int, b58_107 zq = s96 (mvi (rk (S 0) (S 6) nm) k zq) := r107
              have hVm := VB_mvd hR.bd (show 0 ≤ nm ∧ nm < S 0 by omega) (show 0 ≤ k ∧ k < S 0 by omega)
              have hBm : ∀ r : Int, 0 ≤ r → r < S 0 → b58_107 r = dg (mvd (S 0) (S 6) nm k) r := fun r r0 r1 => by unfold mvd; have hm := mvi_in (n := S 0) hkx.1 (show 0 ≤ k ∧ k < S 0 by omega) r0 r1; rw [brd_dg r0 r1, r107 r, cpg_at h96 hm.1 hm.2]; exact l_bd hL hm.1 hm.2
              refine w_aload_n (pc := 110) hC dX11_begin_110 0 rfl rfl ?_
              refine w_aload (pc := 111) hC dX11_begin_111 2 rfl ?_
              refine w_iload_n (pc := 113) hC dX11_begin_113 1 rfl rfl ?_
              refine w_aload_n (pc := 114) hC dX11_begin_114 0 rfl rfl ?_
              refine w_getf (pc := 115) (v := .ref (A 58)) hC dX11_begin_115 fi_X11_51 0 CW_0 rfl ?_
              refine w_iconst (pc := 118) hC dX11_begin_118 ?_
              refine w_callV (pc := 119) (As := [.ref qb, .int (J n), .ref (A 58), .int (J 0)]) (rest := []) hC dX11_begin_119 cv_X11_160 (c_X11_goBehind_v58 (kl K) G A D_64 T (au (au (au (au (au (au (au (au I 23 a23_64) 50 a50_64) 51 a51_64) 52 a52_64) 53 a53_64) 54 a54_64) 56 b56_40) 58 b58_107) (fu (fu (fu F 30 f30_64) 31 f31_64) 32 f32_64) Q P S a (mvd (S 0) (S 6) nm k) (-1) qb n 0 (show RI S from by first | assumption | omega) (show LRn G.2.1 S (au (au (au (au (au (au (au (au I 23 a23_64) 50 a50_64) 51 a51_64) 52 a52_64) 53 a53_64) 54 a54_64) 56 b56_40) 58 b58_107) (fu (fu (fu F 30 f30_64) 31 f31_64) 32 f32_64) Q P from by exact (LRb_fu (by decide) (LRb_fu (by decide) (LRb_fu (by decide) (LRb_au (by decide) (LRb_au (by decide) (LRb_au (by decide) (LRb_au (by decide) (LRb_au (by decide) (LRb_au (by decide) (LRb_au (by decide) (LRb_au (by decide) hL)))))))))))) (show 0 ≤ a ∧ a < S 1 from by first | assumption | omega) (show CLB P G.2.1 S a qb from by first | assumption | omega) (show 0 < S 0 from by first | assumption | omega) (show 0 ≤ n ∧ n ≤ 6 from by first | assumption | omega) (show VB (S 0) (mvd (S 0) (S 6) nm k) from by exact hVm) (show ∀ r : Int, 0 ≤ r → r < S 0 → b58_107 r = dg (mvd (S 0) (S 6) nm k) r from by exact hBm) (show (-1) = -1 ∨ (0 ≤ (-1) ∧ (-1) < 6) from by exact Or.inl rfl) (show 0 = if (-1) = -1 then 0 else 2 ^ ((-1) : Int).toNat from by rfl)) (by decide) ⟨Nat.le_of_ble_eq_true rfl, Nat.le_of_ble_eq_true rfl⟩ (q0 := 0) CW_0 rfl rfl rfl (Nat.le_of_ble_eq_true rfl) rfl (fun vo wo hv => ?_)
              obtain ⟨D_119, b23_119, b50_119, b51_119, b52_119, b53_119, b54_119, g30_119, g31_119, g32_119, hv1, hw1, r119⟩ := hv
              rw [hv1, hw1]
              refine w_weq (CW_cong (au_th (au_th (au_th (au_th (au_th (au_th rfl (au_cm (by decide) (au_cm (by decide) (au_cm (by decide) (au_cm (by decide) (au_cm (by decide) (au_cm (by decide) (au_cm (by decide) au_rp)))))))) (au_cm (by decide) (au_cm (by decide) (au_cm (by decide) (au_cm (by decide) (au_cm (by decide) (au_cm (by decide) au_rp))))))) (au_cm (by decide) (au_cm (by decide) (au_cm (by decide) (au_cm (by decide) (au_cm (by decide) au_rp)))))) (au_cm (by decide) (au_cm (by decide) (au_cm (by decide) (au_cm (by decide) au_rp))))) (au_cm (by decide) (au_cm (by decide) (au_cm (by decide) au_rp)))) (au_cm (by decide) (au_cm (by decide) au_rp))) (fu_th (fu_th (fu_th rfl (fu_cm (by decide) (fu_cm (by decide) fu_rp))) (fu_cm (by decide) fu_rp)) fu_rp) rfl) ?_
              show WW K G 0 0 (CW A D_119 T G.2.1 (au (au (au (au (au (au (au (au I 23 b23_119) 50 b50_119) 51 b51_119) 52 b52_119) 53 b53_119) 54 b54_119) 56 b56_40) 58 b58_107) (fu (fu (fu F 30 g30_119) 31 g31_119) 32 g32_119) Q P) 122 [(0, .ref (A 0)), (2, .int (J n)), (4, .ref qb), (5, .int (J (rk (S 0) (S 6) nm))), (6, .int (J x)), (7, .long (JL g)), (9, .int (J k))] []
              have r119 : DOK (S 0) b50_119 b51_119 g30_119 ∧ (∀ f : Int → Int, isum f (DBf (S 0) b50_119) b51_119 (g30_119 : Int).toNat = EXP S a (-1) (-7) n.toNat f (mvd (S 0) (S 6) nm k)) ∧ g32_119 = 100 ^ n.toNat ∧ isum one1 (DBf (S 0) b50_119) b51_119 (g30_119 : Int).toNat = g32_119 := r119
              have p5 := p100_7 (k := n) (by omega) (by omega)
              rw [← r119.2.2.1] at p5
              have ht1 := r119.2.2.2
              have hb := is_bd (f := fun x => bI (x = TB S)) r119.1 (fun k k0 k1 => bI_06 _)
              have hE := r119.2.1 (fun b => bI (b = TB S))
              refine w_aload_n (pc := 122) hC dX11_begin_122 0 rfl rfl ?_
              refine w_getf (pc := 123) (v := .ref (A 49)) hC dX11_begin_123 fi_X11_41 0 CW_0 rfl ?_
              refine w_aload_n (pc := 126) hC dX11_begin_126 0 rfl rfl ?_
              refine w_getf (pc := 127) (v := .ref (A 56)) hC dX11_begin_127 fi_X11_45 0 CW_0 rfl ?_
              refine w_callV (pc := 130) (As := [.ref (A 56)]) (rest := []) hC dX11_begin_130 cv_X11_176 (c_X4_being (kl K) G A D_119 T (au (au (au (au (au (au (au (au I 23 b23_119) 50 b50_119) 51 b51_119) 52 b52_119) 53 b53_119) 54 b54_119) 56 b56_40) 58 b58_107) (fu (fu (fu F 30 g30_119) 31 g31_119) 32 g32_119) Q P S (TB S) (show RI S from by first | assumption | omega) (show LRn G.2.1 S (au (au (au (au (au (au (au (au I 23 b23_119) 50 b50_119) 51 b51_119) 52 b52_119) 53 b53_119) 54 b54_119) 56 b56_40) 58 b58_107) (fu (fu (fu F 30 g30_119) 31 g31_119) 32 g32_119) Q P from by exact (LRb_fu (by decide) (LRb_fu (by decide) (LRb_fu (by decide) (LRb_au (by decide) (LRb_au (by decide) (LRb_au (by decide) (LRb_au (by decide) (LRb_au (by decide) (LRb_au (by decide) (LRb_au (by decide) (LRb_au (by decide) hL)))))))))))) (show DOK (S 0) b50_119 b51_119 g30_119 from by exact r119.1) (show VB (S 0) (TB S) from by exact VB_TB S hn.1 hn.2) (show ∀ r : Int, 0 ≤ r → r < S 0 → b56_40 r = dg (TB S) r from by exact r40)) (by decide) ⟨Nat.le_of_ble_eq_true rfl, Nat.le_of_ble_eq_true rfl⟩ (q0 := 49) CW_49 rfl rfl rfl (Nat.le_of_ble_eq_true rfl) rfl (fun vo wo hv => ?_)
              obtain ⟨hv1, hw1⟩ := hv
              rw [hv1, hw1]
              show WW K G 0 0 (CW A D_119 T G.2.1 (au (au (au (au (au (au (au (au I 23 b23_119) 50 b50_119) 51 b51_119) 52 b52_119) 53 b53_119) 54 b54_119) 56 b56_40) 58 b58_107) (fu (fu (fu F 30 g30_119) 31 g31_119) 32 g32_119) Q P) 133 [(0, .ref (A 0)), (2, .int (J n)), (4, .ref qb), (5, .int (J (rk (S 0) (S 6) nm))), (6, .int (J x)), (7, .long (JL g)), (9, .int (J k))] [.long (JL (isum (fun x => bI (x = (TB S))) (DBf (S 0) b50_119) b51_119 (g30_119 : Int).toNat))]
              refine w_lload (pc := 133) hC dX11_begin_133 5 rfl ?_
              refine w_lcmp (pc := 135) hC dX11_begin_135 (by omega) ?_
              refine w_if_le_c (pc := 136) (tgt := 156) hC dX11_begin_136 (by decide) (fun c136 => ?_) (fun c136 => ?_)
              · refine w_iinc (pc := 156) hC dX11_begin_156 (lv2 := [(9, .int (J (k + 1))), (0, .ref (A 0)), (2, .int (J n)), (4, .ref qb), (5, .int (J (rk (S 0) (S 6) nm))), (6, .int (J x)), (7, .long (JL g))]) 6 rfl (by rw [hnL]; decide) rfl ?_
                refine w_goto (pc := 159) hC dX11_begin_159 (tgt := 64) (by decide) ?_
                refine w_sub [1, 2, 3, 4, 5, 6, 0] (lv2 := [(0, .ref (A 0)), (2, .int (J n)), (4, .ref qb), (5, .int (J (rk (S 0) (S 6) nm))), (6, .int (J x)), (7, .long (JL g)), (9, .int (J (k + 1)))]) rfl ?_
                refine ih64 x g (k + 1) b58_107 D_119 b23_119 b50_119 b51_119 b52_119 b53_119 b54_119 g30_119 g31_119 g32_119 ?_ ?_ ?_ ?_ ?_
                · first | assumption | omega
                · first | assumption | omega
                · rw [amx_s _ i1, ← hE]; first | rw [if_pos (by omega)]; exact ⟨rfl, rfl⟩ | rw [if_neg (by omega)]; exact i3
                · first | assumption | omega
                · omega
              · refine w_aload_n (pc := 139) hC dX11_begin_139 0 rfl rfl ?_
                refine w_getf (pc := 140) (v := .ref (A 49)) hC dX11_begin_140 fi_X11_41 0 CW_0 rfl ?_
                refine w_aload_n (pc := 143) hC dX11_begin_143 0 rfl rfl ?_
                refine w_getf (pc := 144) (v := .ref (A 56)) hC dX11_begin_144 fi_X11_45 0 CW_0 rfl ?_
                refine w_callV (pc := 147) (As := [.ref (A 56)]) (rest := []) hC dX11_begin_147 cv_X11_176 (c_X4_being (kl K) G A D_119 T (au (au (au (au (au (au (au (au I 23 b23_119) 50 b50_119) 51 b51_119) 52 b52_119) 53 b53_119) 54 b54_119) 56 b56_40) 58 b58_107) (fu (fu (fu F 30 g30_119) 31 g31_119) 32 g32_119) Q P S (TB S) (show RI S from by first | assumption | omega) (show LRn G.2.1 S (au (au (au (au (au (au (au (au I 23 b23_119) 50 b50_119) 51 b51_119) 52 b52_119) 53 b53_119) 54 b54_119) 56 b56_40) 58 b58_107) (fu (fu (fu F 30 g30_119) 31 g31_119) 32 g32_119) Q P from by exact (LRb_fu (by decide) (LRb_fu (by decide) (LRb_fu (by decide) (LRb_au (by decide) (LRb_au (by decide) (LRb_au (by decide) (LRb_au (by decide) (LRb_au (by decide) (LRb_au (by decide) (LRb_au (by decide) (LRb_au (by decide) hL)))))))))))) (show DOK (S 0) b50_119 b51_119 g30_119 from by exact r119.1) (show VB (S 0) (TB S) from by exact VB_TB S hn.1 hn.2) (show ∀ r : Int, 0 ≤ r → r < S 0 → b56_40 r = dg (TB S) r from by exact r40)) (by decide) ⟨Nat.le_of_ble_eq_true rfl, Nat.le_of_ble_eq_true rfl⟩ (q0 := 49) CW_49 rfl rfl rfl (Nat.le_of_ble_eq_true rfl) rfl (fun vo wo hv => ?_)
                obtain ⟨hv1, hw1⟩ := hv
                rw [hv1, hw1]
                show WW K G 0 0 (CW A D_119 T G.2.1 (au (au (au (au (au (au (au (au I 23 b23_119) 50 b50_119) 51 b51_119) 52 b52_119) 53 b53_119) 54 b54_119) 56 b56_40) 58 b58_107) (fu (fu (fu F 30 g30_119) 31 g31_119) 32 g32_119) Q P) 150 [(0, .ref (A 0)), (2, .int (J n)), (4, .ref qb), (5, .int (J (rk (S 0) (S 6) nm))), (6, .int (J x)), (7, .long (JL g)), (9, .int (J k))] [.long (JL (isum (fun x => bI (x = (TB S))) (DBf (S 0) b50_119) b51_119 (g30_119 : Int).toNat))]
                refine w_lstore (pc := 150) hC dX11_begin_150 (lv2 := [(7, .long (JL (isum (fun x => bI (x = (TB S))) (DBf (S 0) b50_119) b51_119 (g30_119 : Int).toNat))), (0, .ref (A 0)), (2, .int (J n)), (4, .ref qb), (5, .int (J (rk (S 0) (S 6) nm))), (6, .int (J x)), (9, .int (J k))]) (by rw [hnL]; decide) rfl ?_
                refine w_iload (pc := 152) hC dX11_begin_152 6 rfl ?_
                refine w_istore (pc := 154) hC dX11_begin_154 (lv2 := [(6, .int (J k)), (7, .long (JL (isum (fun x => bI (x = (TB S))) (DBf (S 0) b50_119) b51_119 (g30_119 : Int).toNat))), (0, .ref (A 0)), (2, .int (J n)), (4, .ref qb), (5, .int (J (rk (S 0) (S 6) nm))), (9, .int (J k))]) (by rw [hnL]; decide) rfl ?_
                refine w_iinc (pc := 156) hC dX11_begin_156 (lv2 := [(9, .int (J (k + 1))), (6, .int (J k)), (7, .long (JL (isum (fun x => bI (x = (TB S))) (DBf (S 0) b50_119) b51_119 (g30_119 : Int).toNat))), (0, .ref (A 0)), (2, .int (J n)), (4, .ref qb), (5, .int (J (rk (S 0) (S 6) nm)))]) 6 rfl (by rw [hnL]; decide) rfl ?_
                refine w_goto (pc := 159) hC dX11_begin_159 (tgt := 64) (by decide) ?_
                refine w_sub [3, 4, 5, 6, 1, 2, 0] (lv2 := [(0, .ref (A 0)), (2, .int (J n)), (4, .ref qb), (5, .int (J (rk (S 0) (S 6) nm))), (6, .int (J k)), (7, .long (JL (isum (fun x => bI (x = (TB S))) (DBf (S 0) b50_119) b51_119 (g30_119 : Int).toNat))), (9, .int (J (k + 1)))]) rfl ?_
                refine ih64 k (isum (fun x => bI (x = (TB S))) (DBf (S 0) b50_119) b51_119 (g30_119 : Int).toNat) (k + 1) b58_107 D_119 b23_119 b50_119 b51_119 b52_119 b53_119 b54_119 g30_119 g31_119 g32_119 ?_ ?_ ?_ ?_ ?_
                · first | assumption | omega
                · first | assumption | omega
                · rw [amx_s _ i1, ← hE]; first | rw [if_pos (by omega)]; exact ⟨rfl, rfl⟩ | rw [if_neg (by omega)]; exact i3
                · first | assumption | omega
                · omega
        refine w_weq (CW_cong (au_ms (k := 23) (v := I 23) rfl (au_cm (by decide) rfl) (au_ms (k := 50) (v := I 50) rfl (au_cm (by decide) rfl) (au_ms (k := 51) (v := I 51) rfl (au_cm (by decide) rfl) (au_ms (k := 52) (v := I 52) rfl (au_cm (by decide) rfl) (au_ms (k := 53) (v := I 53) rfl (au_cm (by decide) rfl) (au_ms (k := 54) (v := I 54) rfl (au_cm (by decide) rfl) (au_ms (k := 58) (v := I 58) rfl rfl rfl))))))) (fu_ms (k := 30) (v := F 30) rfl rfl (fu_ms (k := 31) (v := F 31) rfl rfl (fu_ms (k := 32) (v := F 32) rfl rfl rfl))) rfl) ?_
        refine w_sub [5, 7, 4, 3, 2, 1, 0] (lv2 := [(0, .ref (A 0)), (2, .int (J n)), (4, .ref qb), (5, .int (J (rk (S 0) (S 6) nm))), (6, .int (J 0)), (7, .long (JL (-1))), (9, .int (J 0))]) rfl ?_
        refine loop64 ((S 0 - 0) + 1 : Int).toNat 0 (-1) 0 (I 58) D (I 23) (I 50) (I 51) (I 52) (I 53) (I 54) (F 30) (F 31) (F 32) ?_ ?_ ?_ ?_ ?_
        · first | assumption | omega
        · first | assumption | omega
        · exact ⟨rfl, rfl⟩
        · first | assumption | omega
        · omega
      · refine w_bipush (pc := 29) hC dX11_begin_29 (z := (-2)) rfl ?_
        refine w_iret (pc := 31) hC hRT dX11_begin_31 rfl ?_
        refine ⟨(I 56), (I 58), D, (I 23), (I 50), (I 51), (I 52), (I 53), (I 54), (F 30), (F 31), (F 32), retI (by unfold v_begin; rw [if_neg (by omega), if_pos (by omega)]), CW_cong (au_ms (k := 23) (v := I 23) rfl rfl (au_ms (k := 50) (v := I 50) rfl rfl (au_ms (k := 51) (v := I 51) rfl rfl (au_ms (k := 52) (v := I 52) rfl rfl (au_ms (k := 53) (v := I 53) rfl rfl (au_ms (k := 54) (v := I 54) rfl rfl (au_ms (k := 56) (v := I 56) rfl rfl (au_ms (k := 58) (v := I 58) rfl rfl rfl)))))))) (fu_ms (k := 30) (v := F 30) rfl rfl (fu_ms (k := 31) (v := F 31) rfl rfl (fu_ms (k := 32) (v := F 32) rfl rfl rfl))) rfl⟩
    · refine w_iconst (pc := 20) hC dX11_begin_20 ?_
      refine w_iret (pc := 21) hC hRT dX11_begin_21 rfl ?_
      refine ⟨(I 56), (I 58), D, (I 23), (I 50), (I 51), (I 52), (I 53), (I 54), (F 30), (F 31), (F 32), retI (by unfold v_begin; rw [if_pos (by omega)]), CW_cong (au_ms (k := 23) (v := I 23) rfl rfl (au_ms (k := 50) (v := I 50) rfl rfl (au_ms (k := 51) (v := I 51) rfl rfl (au_ms (k := 52) (v := I 52) rfl rfl (au_ms (k := 53) (v := I 53) rfl rfl (au_ms (k := 54) (v := I 54) rfl rfl (au_ms (k := 56) (v := I 56) rfl rfl (au_ms (k := 58) (v := I 58) rfl rfl rfl)))))))) (fu_ms (k := 30) (v := F 30) rfl rfl (fu_ms (k := 31) (v := F 31) rfl rfl (fu_ms (k := 32) (v := F 32) rfl rfl rfl))) rfl⟩
  · rw [if_neg hc] at hv1
    rw [hv1, hw1]
    show WW K G 0 0 (CW A D T G.2.1 I F Q P) 5 [(0, .ref (A 0)), (1, .int (J a)), (2, .int (J n)), (3, .int (J nm))] [.null]
    refine w_astoreN (pc := 5) hC dX11_begin_5 (lv2 := [(4, .null), (0, .ref (A 0)), (1, .int (J a)), (2, .int (J n)), (3, .int (J nm))]) (by rw [hnL]; decide) rfl ?_
    refine w_aloadN (pc := 7) hC dX11_begin_7 0 rfl ?_
    refine w_ifnullN (pc := 9) (tgt := 20) hC dX11_begin_9 (by decide) ?_
    refine w_iconst (pc := 20) hC dX11_begin_20 ?_
    refine w_iret (pc := 21) hC hRT dX11_begin_21 rfl ?_
    refine ⟨(I 56), (I 58), D, (I 23), (I 50), (I 51), (I 52), (I 53), (I 54), (F 30), (F 31), (F 32), retI (by unfold v_begin; rw [if_pos (by omega)]), CW_cong (au_ms (k := 23) (v := I 23) rfl rfl (au_ms (k := 50) (v := I 50) rfl rfl (au_ms (k := 51) (v := I 51) rfl rfl (au_ms (k := 52) (v := I 52) rfl rfl (au_ms (k := 53) (v := I 53) rfl rfl (au_ms (k := 54) (v := I 54) rfl rfl (au_ms (k := 56) (v := I 56) rfl rfl (au_ms (k := 58) (v := I 58) rfl rfl rfl)))))))) (fu_ms (k := 30) (v := F 30) rfl rfl (fu_ms (k := 31) (v := F 31) rfl rfl (fu_ms (k := 32) (v := F 32) rfl rfl rfl))) rfl⟩
