
theorem spl_sh {S : Int → Int} {e p c : Int} {i j : Nat} {l : List Int} (hl : stl i = stl j + 1) (hj : 0 ≤ stl j) (h0 : stc i 0 = c) (hs : ∀ k : Nat, k < (stl j).toNat → stc i ((k : Int) + 1) = stc j (k : Int)) (h : hr S e p = c) : spl S e i (p, 0, l) = spl S e j (p + 1, 0, l) := by
  have st : ∀ k : Nat, k ≤ (stl j).toNat → spN S e i (k + 1) (p, 0, l) = spN S e j k (p + 1, 0, l) := by
    intro k
    induction k with
    | zero =>
      intro _
      show mst S e (stc i ((0 : Nat) : Int)) (p, 0, l) = (p + 1, 0, l)
      unfold mst
      rw [if_neg (by
        intro g
        rcases g with g | g
        · exact absurd g (by decide : ¬ (0 : Int) = 1)
        · exact g (h.trans h0.symm))]
    | succ k ih =>
      intro hk
      show mst S e (stc i ((k + 1 : Nat) : Int)) (spN S e i (k + 1) (p, 0, l)) = mst S e (stc j (k : Int)) (spN S e j k (p + 1, 0, l))
      rw [ih (by omega), show ((k + 1 : Nat) : Int) = (k : Int) + 1 from rfl, hs k (by omega)]
  unfold spl
  rw [hl, show (stl j + 1).toNat = (stl j).toNat + 1 by omega, st _ (Nat.le_refl _)]
theorem SX0_all : ∀ n : Nat, n < 257 → ((SX 0 ((n : Int) - 1) = 0 → (n : Int) - 1 = 117) ∧ (SX 0 ((n : Int) - 1) = 1 → (n : Int) - 1 = 119) ∧ (SX 0 ((n : Int) - 1) = 2 → (n : Int) - 1 = 115) ∧ (SX 0 ((n : Int) - 1) = 3 → (n : Int) - 1 = 98)) ∧ ((n : Int) - 1 = 117 → SX 0 ((n : Int) - 1) = 0) ∧ ((n : Int) - 1 = 119 → SX 0 ((n : Int) - 1) = 1) ∧ ((n : Int) - 1 = 115 → SX 0 ((n : Int) - 1) = 2) ∧ ((n : Int) - 1 = 98 → SX 0 ((n : Int) - 1) = 3) := by decide +kernel
theorem SX_0 {c : Int} (h : -1 ≤ c ∧ c ≤ 255) : ((SX 0 c = 0 → c = 117) ∧ (SX 0 c = 1 → c = 119) ∧ (SX 0 c = 2 → c = 115) ∧ (SX 0 c = 3 → c = 98)) ∧ (c = 117 → SX 0 c = 0) ∧ (c = 119 → SX 0 c = 1) ∧ (c = 115 → SX 0 c = 2) ∧ (c = 98 → SX 0 c = 3) := by
  have := SX0_all (c + 1).toNat (by omega)
  rw [show (((c + 1).toNat : Nat) : Int) - 1 = c by omega] at this
  exact this
theorem w_up9 : (stl 9 = stl 1 + 1 ∧ 0 ≤ stl 1 ∧ stc 9 0 = 117) ∧ (∀ k : Nat, k < (stl 1).toNat → stc 9 ((k : Int) + 1) = stc 1 (k : Int)) ∧ (stl 10 = stl 3 + 1 ∧ 0 ≤ stl 3 ∧ stc 10 0 = 119) ∧ (∀ k : Nat, k < (stl 3).toNat → stc 10 ((k : Int) + 1) = stc 3 (k : Int)) ∧ (stl 11 = stl 5 + 1 ∧ 0 ≤ stl 5 ∧ stc 11 0 = 115) ∧ (∀ k : Nat, k < (stl 5).toNat → stc 11 ((k : Int) + 1) = stc 5 (k : Int)) ∧ (stl 12 = stl 8 + 1 ∧ 0 ≤ stl 8 ∧ stc 12 0 = 98) ∧ (∀ k : Nat, k < (stl 8).toNat → stc 12 ((k : Int) + 1) = stc 8 (k : Int)) := by decide +kernel
section CLQ
variable {S : Int → Int} {e p u wi g b : Int} {l : List Int}
theorem clq_u (hc : hr S e p = 117) (hw : spl S e 1 (p + 1, 0, l) = (g, b, l)) : clq S e ((p, 0, l), u, wi) = ((figQ S e (g, b, l)).2, (if (figQ S e (g, b, l)).2.2.1 = 1 then u else (figQ S e (g, b, l)).1), wi) := by
  have hs := spl_sh (l := l) w_up9.1.1 w_up9.1.2.1 w_up9.1.2.2 w_up9.2.1 hc
  show (if hr S e p = 117 then _ else _) = _
  rw [if_pos hc]
  show ((figQ S e (spl S e 9 (p, 0, l))).2, (if (figQ S e (spl S e 9 (p, 0, l))).2.2.1 = 1 then u else (figQ S e (spl S e 9 (p, 0, l))).1), wi) = _
  rw [hs, hw]
theorem clq_u1 (hc : hr S e p = 117) (hw : spl S e 1 (p + 1, 0, l) = (g, b, l)) (hb : b = 1 ∨ ¬ (48 ≤ hr S e g ∧ hr S e g ≤ 57)) : (clq S e ((p, 0, l), u, wi)).1.1 = g ∧ (clq S e ((p, 0, l), u, wi)).1.2.1 = 1 := by
  have hf : figQ S e (g, b, l) = (0, (g, 1, l)) := by unfold figQ; rw [if_pos hb]
  rw [clq_u hc hw, hf]
  exact ⟨rfl, rfl⟩
theorem clq_u3 (hc : hr S e p = 117) (hw : spl S e 1 (p + 1, 0, l) = (g, 0, l)) (hd : 48 ≤ hr S e g ∧ hr S e g ≤ 57) : clq S e ((p, 0, l), u, wi) = ((fgs S e g, 0, l), fgv S e g, wi) := by
  have hf : figQ S e (g, 0, l) = (fgv S e g, (fgs S e g, 0, l)) := by
    unfold figQ
    rw [if_neg (by exact fun z => z.elim (fun z => absurd z (by decide : ¬ (0 : Int) = 1)) (fun z => z hd))]
  rw [clq_u hc hw, hf]
  show ((fgs S e g, 0, l), (if (0 : Int) = 1 then u else fgv S e g), wi) = _
  rw [if_neg (by decide)]
theorem clq_w (hc : hr S e p = 119) (hw : spl S e 3 (p + 1, 0, l) = (g, b, l)) : clq S e ((p, 0, l), u, wi) = (if b = 1 then ((g, b, l), u, wi) else if SX 4 (hr S e g) = -1 then ((g, 1, l), u, wi) else ((g + 1, 0, l), u, SX 4 (hr S e g))) := by
  have hs := spl_sh (l := l) w_up9.2.2.1.1 w_up9.2.2.1.2.1 w_up9.2.2.1.2.2 w_up9.2.2.2.1 hc
  show (if hr S e p = 117 then _ else if hr S e p = 119 then _ else _) = _
  rw [if_neg (by omega), if_pos hc]
  show (if (spl S e 10 (p, 0, l)).2.1 = 1 then (spl S e 10 (p, 0, l), (u, wi)) else if SX 4 (hr S e (spl S e 10 (p, 0, l)).1) = -1 then (((spl S e 10 (p, 0, l)).1, 1, (spl S e 10 (p, 0, l)).2.2), (u, wi)) else (((spl S e 10 (p, 0, l)).1 + 1, 0, (spl S e 10 (p, 0, l)).2.2), u, SX 4 (hr S e (spl S e 10 (p, 0, l)).1))) = _
  rw [hs, hw]
theorem clq_w1 (hc : hr S e p = 119) (hw : spl S e 3 (p + 1, 0, l) = (g, b, l)) (hb : b = 1 ∨ SX 4 (hr S e g) = -1) : (clq S e ((p, 0, l), u, wi)).1.1 = g ∧ (clq S e ((p, 0, l), u, wi)).1.2.1 = 1 := by
  rw [clq_w hc hw]
  by_cases c : b = 1
  · rw [if_pos c, c]; exact ⟨rfl, rfl⟩
  · rw [if_neg c, if_pos (by omega)]; exact ⟨rfl, rfl⟩
theorem clq_w3 (hc : hr S e p = 119) (hw : spl S e 3 (p + 1, 0, l) = (g, 0, l)) (hd : ¬ SX 4 (hr S e g) = -1) : clq S e ((p, 0, l), u, wi) = ((g + 1, 0, l), u, SX 4 (hr S e g)) := by
  rw [clq_w hc hw, if_neg (by decide), if_neg hd]
theorem clq_s (hc : hr S e p = 115) (hw : spl S e 5 (p + 1, 0, l) = (g, b, l)) : clq S e ((p, 0, l), u, wi) = (emt (-4) (som S e (fac S e 5) (g, b, l)), u, wi) := by
  have hs := spl_sh (l := l) w_up9.2.2.2.2.1.1 w_up9.2.2.2.2.1.2.1 w_up9.2.2.2.2.1.2.2 w_up9.2.2.2.2.2.1 hc
  show (if hr S e p = 117 then _ else if hr S e p = 119 then _ else if hr S e p = 115 then _ else _) = _
  rw [if_neg (by omega), if_neg (by omega), if_pos hc]
  show (emt (-4) (som S e (fac S e 5) (spl S e 11 (p, 0, l))), (u, wi)) = _
  rw [hs, hw]
theorem clq_b (hc : hr S e p = 98) (hw : spl S e 8 (p + 1, 0, l) = (g, b, l)) : clq S e ((p, 0, l), u, wi) = (emt (-5) (som S e (fac S e 5) (g, b, l)), u, wi) := by
  have hs := spl_sh (l := l) w_up9.2.2.2.2.2.2.1.1 w_up9.2.2.2.2.2.2.1.2.1 w_up9.2.2.2.2.2.2.1.2.2 w_up9.2.2.2.2.2.2.2 hc
  show (if hr S e p = 117 then _ else if hr S e p = 119 then _ else if hr S e p = 115 then _ else if hr S e p = 98 then _ else _) = _
  rw [if_neg (by omega), if_neg (by omega), if_neg (by omega), if_pos hc]
  show (emt (-5) (som S e (fac S e 5) (spl S e 12 (p, 0, l))), (u, wi)) = _
  rw [hs, hw]
theorem som_f {q : PQ} (h : q.2.1 = 1) : som S e (fac S e 5) q = q := som_w (fun q h => fac_w _ h) h
theorem clq_d (c1 : ¬ hr S e p = 117) (c2 : ¬ hr S e p = 119) (c3 : ¬ hr S e p = 115) (c4 : ¬ hr S e p = 98) : (clq S e ((p, 0, l), u, wi)).1.1 = p ∧ (clq S e ((p, 0, l), u, wi)).1.2.1 = 1 := by
  have h : clq S e ((p, 0, l), u, wi) = ((p, 1, l), u, wi) := by
    show (if hr S e p = 117 then _ else if hr S e p = 119 then _ else if hr S e p = 115 then _ else if hr S e p = 98 then _ else _) = _
    rw [if_neg c1, if_neg c2, if_neg c3, if_neg c4]
  rw [h]
  exact ⟨rfl, rfl⟩
end CLQ

theorem pq_eta1 {q : PQ} (h : q.2.1 = 1) : q = (q.1, 1, q.2.2) := by
  obtain ⟨a, b, l⟩ := q
  have hb : b = 1 := h
  rw [hb]
theorem c_X3_ownCode (l : Launch) (G : GT) (A D : Nat → Nat) (I : Nat → Int → Int) (F : Nat → Int) (Q : Nat → Nat → Option Nat) (P : va_W) (hln : 0 ≤ F 20 ∧ F 20 ≤ 120) : CT l yX3_ownCode cX3_ownCode 2 (some (.array .int)) 1 1 120 G [.ref (A 47)] (CW A D (A 11) G.2.1 I F Q P) (fun vo wo => ∃ q : Nat, vo = some (.ref q) ∧ wo = CW A D (A 11) G.2.1 I F Q (P ++ [(q, .inl (G.2.1 0, (F 20).toNat, .inl (jf (cpg (I 48) (fun _ => 0) (F 20)))))])) := by
  refine CT_of (own := RX3) rfl rfl (Nat.le_of_ble_eq_true rfl) (fun K hl hnL hC hRT hin => ?_)
  subst hl
  show WW K G 0 0 (CW A D (A 11) G.2.1 I F Q P) 0 [(0, .ref (A 47))] []
  refine w_aload_n (pc := 0) hC dX3_ownCode_0 0 rfl rfl ?_
  refine w_getf (pc := 1) (v := .int (J (F 20))) hC dX3_ownCode_1 fi_X3_15 47 CW_47 rfl ?_
  refine w_newI (pc := 4) hC dX3_ownCode_4 rfl tw_1_54 (by omega) (And.intro (Nat.le_of_ble_eq_true rfl) (by omega)) (fun q => ?_)
  rw [CW_app]
  refine w_astore_n (pc := 6) hC dX3_ownCode_6 rfl (lv2 := [(1, .ref q), (0, .ref (A 47))]) (by rw [hnL]; decide) rfl ?_
  refine w_aload_n (pc := 7) hC dX3_ownCode_7 1 rfl rfl ?_
  refine w_getf (pc := 8) (v := .ref (A 48)) hC dX3_ownCode_8 fi_X3_9 47 CW_47 rfl ?_
  refine w_iconst (pc := 11) hC dX3_ownCode_11 ?_
  refine w_aload_n (pc := 12) hC dX3_ownCode_12 0 rfl rfl ?_
  refine w_iconst (pc := 13) hC dX3_ownCode_13 ?_
  refine w_aload_n (pc := 14) hC dX3_ownCode_14 1 rfl rfl ?_
  refine w_getf (pc := 15) (v := .int (J (F 20))) hC dX3_ownCode_15 fi_X3_15 47 CW_47 rfl ?_
  refine w_copyI (pc := 18) (f := I 48) (g := fun _ => 0) (w2 := CW A D (A 11) G.2.1 I F Q (P ++ [(q, .inl (G.2.1 0, (F 20).toNat, .inl (jf (cpg (I 48) (fun _ => 0) (F 20)))))])) hC dX3_ownCode_18 tw_2_211 48 (60 + P.length) CW_48 CW_last (by omega) (Nat.le_of_ble_eq_true rfl) (Nat.le_of_ble_eq_true rfl) CW_setP ?_
  refine w_aload_n (pc := 21) hC dX3_ownCode_21 0 rfl rfl ?_
  refine w_up (cs2 := 1) (ss2 := 120) (by omega) (by omega) ?_
  refine w_aret (pc := 22) (o := some q) hC hRT dX3_ownCode_22 (Or.inr ⟨_, rfl⟩) ?_
  exact ⟨q, rfl, rfl⟩
theorem cn_X3_32 : CN RX3 32 2 RX2 TX2 3 tyX2 [.int (J 0), .int (J 0), .null] := ⟨rfl, inX2, fp_X2_0.1, tw_2_205, tw_2_206, tw_1_13, fun j hj => match j, hj with | 0, _ => rfl | 1, _ => rfl | 2, _ => rfl | n + 3, h => absurd h (by omega)⟩
theorem c_X2_init (l : Launch) (G : GT) (w0 : va_W) (k0 q : Nat) (u wi : Int) (qc : Nat) (hc : w0[k0]? = some (q, .inr (2, [.int (J 0), .int (J 0), .null]))) : CT l yX2_init cX2_init 4 none 1 0 0 G [.ref q, .int (J u), .int (J wi), .ref qc] w0 (fun vo wo => vo = none ∧ wo = w0.set k0 (q, .inr (2, [.int (J u), .int (J wi), .ref qc]))) := by
  refine CT_of (own := RX2) rfl rfl (Nat.le_of_ble_eq_true rfl) (fun K hl hnL hC hRT hin => ?_)
  subst hl
  show WW K G 0 0 w0 0 [(0, .ref q), (1, .int (J u)), (2, .int (J wi)), (3, .ref qc)] []
  have h1 : (w0.set k0 (q, .inr (2, [.int (J u), .int (J 0), .null])))[k0]? = some (q, .inr (2, [.int (J u), .int (J 0), .null])) := set_at hc
  have h2 : (w0.set k0 (q, .inr (2, [.int (J u), .int (J wi), .null])))[k0]? = some (q, .inr (2, [.int (J u), .int (J wi), .null])) := set_at hc
  refine w_aload_n (pc := 0) hC dX2_init_0 0 rfl rfl ?_
  refine w_oinit (pc := 1) hC dX2_init_1 tw_2_217 (by decide) (Nat.le_of_ble_eq_true rfl) ?_
  refine w_aload_n (pc := 4) hC dX2_init_4 0 rfl rfl ?_
  refine w_iload_n (pc := 5) hC dX2_init_5 1 rfl rfl ?_
  refine w_putfF (pc := 6) (w2 := w0.set k0 (q, .inr (2, [.int (J u), .int (J 0), .null]))) hC dX2_init_6 fi_X2_7 fp_X2_0 rfl (hin rfl) rfl k0 hc rfl rfl (Nat.le_of_ble_eq_true rfl) rfl ?_
  refine w_aload_n (pc := 9) hC dX2_init_9 0 rfl rfl ?_
  refine w_iload_n (pc := 10) hC dX2_init_10 2 rfl rfl ?_
  refine w_putfF (pc := 11) (w2 := w0.set k0 (q, .inr (2, [.int (J u), .int (J wi), .null]))) hC dX2_init_11 fi_X2_13 fp_X2_1 rfl (hin rfl) rfl k0 h1 rfl rfl (Nat.le_of_ble_eq_true rfl) (List.set_set _) ?_
  refine w_aload_n (pc := 14) hC dX2_init_14 0 rfl rfl ?_
  refine w_aload_n (pc := 15) hC dX2_init_15 3 rfl rfl ?_
  refine w_putfF (pc := 16) (w2 := w0.set k0 (q, .inr (2, [.int (J u), .int (J wi), .ref qc]))) hC dX2_init_16 fi_X2_16 fp_X2_2 rfl (hin rfl) rfl k0 h2 rfl rfl (Nat.le_of_ble_eq_true rfl) (List.set_set _) ?_
  refine w_vret (pc := 19) hC hRT dX2_init_19 ?_
  exact ⟨rfl, rfl⟩

theorem lpc_go {S : Int → Int} {e k p u w : Int} {z : CQ} (hk : 0 ≤ k) (h0 : z.1.2.1 = 0) (hp : p = z.1.1) (h : hr S e p = 59) (hu : u = z.2.1) (hw : w = z.2.2) : lpc S e (k + 1).toNat z = lpc S e k.toNat (clq S e ((p + 1, 0, z.1.2.2), u, w)) := by
  subst hp hu hw
  rw [show (k + 1).toNat = k.toNat + 1 by omega]
  show (if z.1.2.1 = 0 ∧ hr S e z.1.1 = 59 then _ else z) = _
  rw [if_pos (And.intro h0 h), h0]
theorem CD_cp {g z : Int → Int} {l : List Int} {n : Int} (h : CD g l) (hn : n = (l.length : Int)) : CD (cpg g z n) l := fun k hk => by
  unfold cpg
  rw [if_pos (by omega)]
  exact h k hk
section CWP2
variable {A D : Nat → Nat} {T : Nat} {cy : Nat → ClassId} {I : Nat → Int → Int} {F : Nat → Int} {Q : Nat → Nat → Option Nat} {P : va_W}
theorem P2_at {c d : Nat × va_E} : (P ++ [c] ++ [d])[P.length]? = some c := by
  rw [List.append_assoc, List.getElem?_append_right (Nat.le_refl _), Nat.sub_self]
  rfl
theorem CW_last2 {c d : Nat × va_E} : (CW A D T cy I F Q (P ++ [c] ++ [d]))[60 + P.length]? = some c := CW_P P2_at
theorem CW_setP2 {c d e : Nat × va_E} : (CW A D T cy I F Q (P ++ [c] ++ [d])).set (60 + P.length) e = CW A D T cy I F Q (P ++ [e] ++ [d]) := by
  unfold CW CWE
  rw [List.set_append_right _ _ (by rw [List.length_map, List.length_range]; omega), List.length_map, List.length_range, Nat.add_sub_cancel_left, List.append_assoc, List.set_append_right _ _ (Nat.le_refl _), Nat.sub_self, List.append_assoc]
  rfl
end CWP2

set_option maxRecDepth 100000 in
set_option maxHeartbeats 4000000 in
theorem c_X3_readClause (l : Launch) (G : GT) (A D : Nat → Nat) (I : Nat → Int → Int) (F : Nat → Int) (Q : Nat → Nat → Option Nat) (P : va_W) (S : Int → Int) (ql : List Int)  (hR : RI S) (hL : LRn G.2.1 S I F Q P) (hsz : (F 21) = S 5) (hat : 0 ≤ (F 22) ∧ (F 22) ≤ S 5) (hq : (F 20) = (ql.length : Int) ∧ (ql.length : Int) ≤ (F 22)) (hcd : CD (I 48) ql) : CT l yX3_readClause cX3_readClause 1 (some .boolean) 24 0 0 G [.ref (A 47)] (CW A D (A 11) G.2.1 I F Q P) (fun vo wo => ∃ (b48 : Int → Int) (g20 : Int) (g22 : Int) (g23 : Int) (g24 : Int), vo = some (.int (J (bI ((clq S (S 5) (((F 22), 0, ql), (F 23), (F 24))).1.2.1 = 0)))) ∧ wo = CW A D (A 11) G.2.1 (au I 48 b48) (fu (fu (fu (fu F 20 g20) 22 g22) 23 g23) 24 g24) Q P ∧ (g22 = (clq S (S 5) (((F 22), 0, ql), (F 23), (F 24))).1.1 ∧ ((clq S (S 5) (((F 22), 0, ql), (F 23), (F 24))).1.2.1 = 0 → g20 = ((clq S (S 5) (((F 22), 0, ql), (F 23), (F 24))).1.2.2.length : Int) ∧ CD b48 (clq S (S 5) (((F 22), 0, ql), (F 23), (F 24))).1.2.2 ∧ g23 = (clq S (S 5) (((F 22), 0, ql), (F 23), (F 24))).2.1 ∧ g24 = (clq S (S 5) (((F 22), 0, ql), (F 23), (F 24))).2.2))) := by
  refine CT_of (own := RX3) rfl rfl (Nat.le_of_ble_eq_true rfl) (fun K hl hnL hC hRT hin => ?_)
  subst hl
  show WW K G 0 0 (CW A D (A 11) G.2.1 I F Q P) 0 [(0, .ref (A 47))] []
  have hn := hR.n
  have hbd := hR.bd
  have htp := hR.tp
  have hx := SX_0 (hr_bd (S := S) (e := S 5) (sp := F 22) hR (by omega) (by omega))
  have hs0 := SX_bd (hr S (S 5) (F 22)) (show 0 < nST by decide)
  have hl0 : stl 0 = 4 := rfl
  refine w_aload_n (pc := 0) hC dX3_readClause_0 0 rfl rfl ?_
  refine w_ldcS (pc := 1) (index := 58) (i := 0) (tx := "uwsb") hC dX3_readClause_1 (List.mem_of_getElem? (i := 0) rfl) ?_
  refine w_callV (pc := 3) (As := [.ref (G.2.2.1 0)]) (rest := []) hC dX3_readClause_3 cv_X3_60 (c_X3_takeOneOf (kl K) G A D I F Q P S 0 (show RI S from by first | assumption | omega) (show LRn G.2.1 S I F Q P from by exact hL) (show (F 21) = S 5 from by first | assumption | omega) (show 0 ≤ (F 22) ∧ (F 22) ≤ S 5 from by first | assumption | omega) (show 0 < nST from by decide)) (by decide) ⟨Nat.le_of_ble_eq_true rfl, Nat.le_of_ble_eq_true rfl⟩ (q0 := 47) CW_47 rfl rfl rfl (Nat.le_of_ble_eq_true rfl) rfl (fun vo wo hv => ?_)
  obtain ⟨g22_3, hv1, hw1, r3⟩ := hv
  rw [hv1, hw1]
  show WW K G 0 0 (CW A D (A 11) G.2.1 I (fu F 22 g22_3) Q P) 6 [(0, .ref (A 47))] [.int (J (SX 0 (hr S (S 5) (F 22))))]
  have r3 : g22_3 = if SX 0 (hr S (S 5) (F 22)) = -1 then (F 22) else (F 22) + 1 := r3
  rcases (show (SX 0 (hr S (S 5) (F 22))) = 0 ∨ (SX 0 (hr S (S 5) (F 22))) = 1 ∨ (SX 0 (hr S (S 5) (F 22))) = 2 ∨ (SX 0 (hr S (S 5) (F 22))) = 3 ∨ ((SX 0 (hr S (S 5) (F 22))) < 0 ∨ 3 < (SX 0 (hr S (S 5) (F 22)))) by omega) with c6 | c6 | c6 | c6 | c6
  · refine w_tableIn (pc := 6) (v := 0) (tgt := 36) hC dX3_readClause_6 c6 (by decide) rfl (by decide) ?_
    have eT : g22_3 = F 22 + 1 := by rw [r3, if_neg (by omega)]
    have hc : hr S (S 5) (F 22) = 117 := hx.1.1 c6
    have hlt := hr_at hc (by decide)
    have gw := gr_l (spl_gr (S := S) (i := 1) (by decide) (pb_0 (e := S 5) (l := ql) (show 0 ≤ F 22 + 1 ∧ F 22 + 1 ≤ S 5 by omega))).1
    rw [eT]
    show WW K G 0 0 (CW A D (A 11) G.2.1 I (fu F 22 (F 22 + 1)) Q P) 36 [(0, .ref (A 47))] []
    refine w_aload_n (pc := 36) hC dX3_readClause_36 0 rfl rfl ?_
    refine w_ldcS (pc := 37) (index := 64) (i := 1) (tx := "p ") hC dX3_readClause_37 (List.mem_of_getElem? (i := 1) rfl) ?_
    refine w_callV (pc := 39) (As := [.ref (G.2.2.1 1)]) (rest := []) hC dX3_readClause_39 cv_X3_66 (c_X3_takeWord (kl K) G A D I (fu F 22 (F 22 + 1)) Q P S 1 ql (show RI S from by first | assumption | omega) (show LRn G.2.1 S I (fu F 22 (F 22 + 1)) Q P from by exact (LRb_fu (by decide) hL)) (show (F 21) = S 5 from by first | assumption | omega) (show 0 ≤ (F 22 + 1) ∧ (F 22 + 1) ≤ S 5 from by first | assumption | omega) (show 1 < nST from by decide)) (by decide) ⟨Nat.le_of_ble_eq_true rfl, Nat.le_of_ble_eq_true rfl⟩ (q0 := 47) CW_47 rfl rfl rfl (Nat.le_of_ble_eq_true rfl) rfl (fun vo wo hv => ?_)
    obtain ⟨g22_39, hv1, hw1, r39⟩ := hv
    rw [hv1, hw1]
    refine w_weq (CW_cong rfl (fu_th rfl fu_rp) rfl) ?_
    show WW K G 0 0 (CW A D (A 11) G.2.1 I (fu F 22 g22_39) Q P) 42 [(0, .ref (A 47))] [.int (J (bI ((spl S (S 5) 1 ((F 22 + 1), 0, ql)).2.1 = 0)))]
    have r39 : g22_39 = (spl S (S 5) 1 ((F 22 + 1), 0, ql)).1 ∧ (spl S (S 5) 1 ((F 22 + 1), 0, ql)).2.2 = ql := r39
    refine w_if_eq_b (pc := 42) (tgt := 56) hC dX3_readClause_42 (by decide) (fun c42 => ?_) (fun c42 => ?_)
    · have hw : spl S (S 5) 1 (F 22 + 1, 0, ql) = (g22_39, 1, ql) := by rw [pq_eta1 (q := spl S (S 5) 1 (F 22 + 1, 0, ql)) (by omega), ← r39.1, r39.2]
      have hz := clq_u1 (u := F 23) (wi := F 24) hc hw (Or.inl rfl)
      refine w_iconst (pc := 56) hC dX3_readClause_56 ?_
      refine w_iret (pc := 57) hC hRT dX3_readClause_57 rfl ?_
      refine ⟨(I 48), (F 20), g22_39, (F 23), (F 24), retI (by exact (bI_f (by rw [hz.2]; exact (by decide : ¬ (1 : Int) = 0))).symm), CW_cong (au_ms (k := 48) (v := I 48) rfl rfl rfl) (fu_ms (k := 20) (v := F 20) rfl (fu_cm (by decide) rfl) (fu_ms (k := 23) (v := F 23) rfl rfl (fu_ms (k := 24) (v := F 24) rfl rfl rfl))) rfl, ?_⟩
      · exact And.intro hz.1.symm (fun z => absurd (hz.2.symm.trans z) (by decide : ¬ (1 : Int) = 0))
    · have hw : spl S (S 5) 1 (F 22 + 1, 0, ql) = (g22_39, 0, ql) := by rw [pq_eta c42, ← r39.1, r39.2]
      have hu1 := r39.1
      refine w_aload_n (pc := 45) hC dX3_readClause_45 0 rfl rfl ?_
      refine w_callV (pc := 46) (As := []) (rest := []) hC dX3_readClause_46 cv_X3_70 (c_X3_readUp (kl K) G A D I (fu F 22 g22_39) Q P S (show RI S from by first | assumption | omega) (show LRn G.2.1 S I (fu F 22 g22_39) Q P from by exact (LRb_fu (by decide) hL)) (show (F 21) = S 5 from by first | assumption | omega) (show 0 ≤ g22_39 ∧ g22_39 ≤ S 5 from by first | assumption | omega)) (by decide) ⟨Nat.le_of_ble_eq_true rfl, Nat.le_of_ble_eq_true rfl⟩ (q0 := 47) CW_47 rfl rfl rfl (Nat.le_of_ble_eq_true rfl) rfl (fun vo wo hv => ?_)
      obtain ⟨g22_46, g23_46, hv1, hw1, r46⟩ := hv
      rw [hv1, hw1]
      refine w_weq (CW_cong rfl (fu_th (fu_th rfl fu_rp) rfl) rfl) ?_
      show WW K G 0 0 (CW A D (A 11) G.2.1 I (fu (fu F 22 g22_46) 23 g23_46) Q P) 49 [(0, .ref (A 47))] [.int (J (bI (48 ≤ (hr S (S 5) g22_39) ∧ (hr S (S 5) g22_39) ≤ 57)))]
      have r46 : g22_46 = (if 48 ≤ (hr S (S 5) g22_39) ∧ (hr S (S 5) g22_39) ≤ 57 then fgs S (S 5) g22_39 else g22_39) ∧ g23_46 = (if 48 ≤ (hr S (S 5) g22_39) ∧ (hr S (S 5) g22_39) ≤ 57 then fgv S (S 5) g22_39 else -1) := r46
      refine w_if_eq_b (pc := 49) (tgt := 56) hC dX3_readClause_49 (by decide) (fun c49 => ?_) (fun c49 => ?_)
      · have hz := clq_u1 (u := F 23) (wi := F 24) hc hw (Or.inr c49)
        refine w_iconst (pc := 56) hC dX3_readClause_56 ?_
        refine w_iret (pc := 57) hC hRT dX3_readClause_57 rfl ?_
        refine ⟨(I 48), (F 20), g22_46, g23_46, (F 24), retI (by exact (bI_f (by rw [hz.2]; exact (by decide : ¬ (1 : Int) = 0))).symm), CW_cong (au_ms (k := 48) (v := I 48) rfl rfl rfl) (fu_ms (k := 20) (v := F 20) rfl (fu_cm (by decide) (fu_cm (by decide) rfl)) (fu_ms (k := 24) (v := F 24) rfl rfl rfl)) rfl, ?_⟩
        · exact And.intro (by rw [r46.1, if_neg c49]; exact hz.1.symm) (fun z => absurd (hz.2.symm.trans z) (by decide : ¬ (1 : Int) = 0))
      · have hz := clq_u3 (u := F 23) (wi := F 24) hc hw c49
        refine w_iconst (pc := 52) hC dX3_readClause_52 ?_
        refine w_goto (pc := 53) hC dX3_readClause_53 (tgt := 57) (by decide) ?_
        refine w_iret (pc := 57) hC hRT dX3_readClause_57 rfl ?_
        refine ⟨(I 48), (F 20), g22_46, g23_46, (F 24), retI (by exact (bI_t (by rw [hz])).symm), CW_cong (au_ms (k := 48) (v := I 48) rfl rfl rfl) (fu_ms (k := 20) (v := F 20) rfl (fu_cm (by decide) (fu_cm (by decide) rfl)) (fu_ms (k := 24) (v := F 24) rfl rfl rfl)) rfl, ?_⟩
        · rw [hz]; exact And.intro (by rw [r46.1, if_pos c49]) (fun _ => And.intro hq.1 (And.intro hcd (And.intro (by rw [r46.2, if_pos c49]) rfl)))
  · refine w_tableIn (pc := 6) (v := 1) (tgt := 58) hC dX3_readClause_6 c6 (by decide) rfl (by decide) ?_
    have eT : g22_3 = F 22 + 1 := by rw [r3, if_neg (by omega)]
    have hc : hr S (S 5) (F 22) = 119 := hx.1.2.1 c6
    have hlt := hr_at hc (by decide)
    have gw := gr_l (spl_gr (S := S) (i := 3) (by decide) (pb_0 (e := S 5) (l := ql) (show 0 ≤ F 22 + 1 ∧ F 22 + 1 ≤ S 5 by omega))).1
    rw [eT]
    show WW K G 0 0 (CW A D (A 11) G.2.1 I (fu F 22 (F 22 + 1)) Q P) 58 [(0, .ref (A 47))] []
    refine w_aload_n (pc := 58) hC dX3_readClause_58 0 rfl rfl ?_
    refine w_ldcS (pc := 59) (index := 73) (i := 3) (tx := "ins ") hC dX3_readClause_59 (List.mem_of_getElem? (i := 3) rfl) ?_
    refine w_callV (pc := 61) (As := [.ref (G.2.2.1 3)]) (rest := []) hC dX3_readClause_61 cv_X3_66 (c_X3_takeWord (kl K) G A D I (fu F 22 (F 22 + 1)) Q P S 3 ql (show RI S from by first | assumption | omega) (show LRn G.2.1 S I (fu F 22 (F 22 + 1)) Q P from by exact (LRb_fu (by decide) hL)) (show (F 21) = S 5 from by first | assumption | omega) (show 0 ≤ (F 22 + 1) ∧ (F 22 + 1) ≤ S 5 from by first | assumption | omega) (show 3 < nST from by decide)) (by decide) ⟨Nat.le_of_ble_eq_true rfl, Nat.le_of_ble_eq_true rfl⟩ (q0 := 47) CW_47 rfl rfl rfl (Nat.le_of_ble_eq_true rfl) rfl (fun vo wo hv => ?_)
    obtain ⟨g22_61, hv1, hw1, r61⟩ := hv
    rw [hv1, hw1]
    refine w_weq (CW_cong rfl (fu_th rfl fu_rp) rfl) ?_
    show WW K G 0 0 (CW A D (A 11) G.2.1 I (fu F 22 g22_61) Q P) 64 [(0, .ref (A 47))] [.int (J (bI ((spl S (S 5) 3 ((F 22 + 1), 0, ql)).2.1 = 0)))]
    have r61 : g22_61 = (spl S (S 5) 3 ((F 22 + 1), 0, ql)).1 ∧ (spl S (S 5) 3 ((F 22 + 1), 0, ql)).2.2 = ql := r61
    refine w_if_eq_b (pc := 64) (tgt := 78) hC dX3_readClause_64 (by decide) (fun c64 => ?_) (fun c64 => ?_)
    · have hw : spl S (S 5) 3 (F 22 + 1, 0, ql) = (g22_61, 1, ql) := by rw [pq_eta1 (q := spl S (S 5) 3 (F 22 + 1, 0, ql)) (by omega), ← r61.1, r61.2]
      have hz := clq_w1 (u := F 23) (wi := F 24) hc hw (Or.inl rfl)
      refine w_iconst (pc := 78) hC dX3_readClause_78 ?_
      refine w_iret (pc := 79) hC hRT dX3_readClause_79 rfl ?_
      refine ⟨(I 48), (F 20), g22_61, (F 23), (F 24), retI (by exact (bI_f (by rw [hz.2]; exact (by decide : ¬ (1 : Int) = 0))).symm), CW_cong (au_ms (k := 48) (v := I 48) rfl rfl rfl) (fu_ms (k := 20) (v := F 20) rfl (fu_cm (by decide) rfl) (fu_ms (k := 23) (v := F 23) rfl rfl (fu_ms (k := 24) (v := F 24) rfl rfl rfl))) rfl, ?_⟩
      · exact And.intro hz.1.symm (fun z => absurd (hz.2.symm.trans z) (by decide : ¬ (1 : Int) = 0))
    · have hw : spl S (S 5) 3 (F 22 + 1, 0, ql) = (g22_61, 0, ql) := by rw [pq_eta c64, ← r61.1, r61.2]
      have hu1 := r61.1
      have hs4 := SX_bd (hr S (S 5) g22_61) (show 4 < nST by decide)
      refine w_aload_n (pc := 67) hC dX3_readClause_67 0 rfl rfl ?_
      refine w_callV (pc := 68) (As := []) (rest := []) hC dX3_readClause_68 cv_X3_75 (c_X3_readWins (kl K) G A D I (fu F 22 g22_61) Q P S (show RI S from by first | assumption | omega) (show LRn G.2.1 S I (fu F 22 g22_61) Q P from by exact (LRb_fu (by decide) hL)) (show (F 21) = S 5 from by first | assumption | omega) (show 0 ≤ g22_61 ∧ g22_61 ≤ S 5 from by first | assumption | omega)) (by decide) ⟨Nat.le_of_ble_eq_true rfl, Nat.le_of_ble_eq_true rfl⟩ (q0 := 47) CW_47 rfl rfl rfl (Nat.le_of_ble_eq_true rfl) rfl (fun vo wo hv => ?_)
      obtain ⟨g22_68, g24_68, hv1, hw1, r68⟩ := hv
      rw [hv1, hw1]
      refine w_weq (CW_cong rfl (fu_th (fu_th rfl fu_rp) rfl) rfl) ?_
      show WW K G 0 0 (CW A D (A 11) G.2.1 I (fu (fu F 22 g22_68) 24 g24_68) Q P) 71 [(0, .ref (A 47))] [.int (J (bI (0 ≤ SX 4 (hr S (S 5) g22_61))))]
      have r68 : g22_68 = (if SX 4 (hr S (S 5) g22_61) = -1 then g22_61 else g22_61 + 1) ∧ g24_68 = SX 4 (hr S (S 5) g22_61) := r68
      refine w_if_eq_b (pc := 71) (tgt := 78) hC dX3_readClause_71 (by decide) (fun c71 => ?_) (fun c71 => ?_)
      · have hz := clq_w1 (u := F 23) (wi := F 24) hc hw (Or.inr (by omega))
        refine w_iconst (pc := 78) hC dX3_readClause_78 ?_
        refine w_iret (pc := 79) hC hRT dX3_readClause_79 rfl ?_
        refine ⟨(I 48), (F 20), g22_68, (F 23), g24_68, retI (by exact (bI_f (by rw [hz.2]; exact (by decide : ¬ (1 : Int) = 0))).symm), CW_cong (au_ms (k := 48) (v := I 48) rfl rfl rfl) (fu_ms (k := 20) (v := F 20) rfl (fu_cm (by decide) (fu_cm (by decide) rfl)) (fu_ms (k := 23) (v := F 23) rfl (fu_cm (by decide) rfl) rfl)) rfl, ?_⟩
        · exact And.intro (by rw [r68.1, if_pos (by omega)]; exact hz.1.symm) (fun z => absurd (hz.2.symm.trans z) (by decide : ¬ (1 : Int) = 0))
      · have hz := clq_w3 (u := F 23) (wi := F 24) hc hw (by omega)
        refine w_iconst (pc := 74) hC dX3_readClause_74 ?_
        refine w_goto (pc := 75) hC dX3_readClause_75 (tgt := 79) (by decide) ?_
        refine w_iret (pc := 79) hC hRT dX3_readClause_79 rfl ?_
        refine ⟨(I 48), (F 20), g22_68, (F 23), g24_68, retI (by exact (bI_t (by rw [hz])).symm), CW_cong (au_ms (k := 48) (v := I 48) rfl rfl rfl) (fu_ms (k := 20) (v := F 20) rfl (fu_cm (by decide) (fu_cm (by decide) rfl)) (fu_ms (k := 23) (v := F 23) rfl (fu_cm (by decide) rfl) rfl)) rfl, ?_⟩
        · rw [hz]; exact And.intro (by rw [r68.1, if_neg (by omega)]) (fun _ => And.intro hq.1 (And.intro hcd (And.intro rfl r68.2)))
  · refine w_tableIn (pc := 6) (v := 2) (tgt := 80) hC dX3_readClause_6 c6 (by decide) rfl (by decide) ?_
    have eT : g22_3 = F 22 + 1 := by rw [r3, if_neg (by omega)]
    have hc : hr S (S 5) (F 22) = 115 := hx.1.2.2.1 c6
    have hlt := hr_at hc (by decide)
    have gw := gr_l (spl_gr (S := S) (i := 5) (by decide) (pb_0 (e := S 5) (l := ql) (show 0 ≤ F 22 + 1 ∧ F 22 + 1 ≤ S 5 by omega))).1
    rw [eT]
    show WW K G 0 0 (CW A D (A 11) G.2.1 I (fu F 22 (F 22 + 1)) Q P) 80 [(0, .ref (A 47))] []
    refine w_aload_n (pc := 80) hC dX3_readClause_80 0 rfl rfl ?_
    refine w_ldcS (pc := 81) (index := 78) (i := 5) (tx := "hy ") hC dX3_readClause_81 (List.mem_of_getElem? (i := 5) rfl) ?_
    refine w_callV (pc := 83) (As := [.ref (G.2.2.1 5)]) (rest := []) hC dX3_readClause_83 cv_X3_66 (c_X3_takeWord (kl K) G A D I (fu F 22 (F 22 + 1)) Q P S 5 ql (show RI S from by first | assumption | omega) (show LRn G.2.1 S I (fu F 22 (F 22 + 1)) Q P from by exact (LRb_fu (by decide) hL)) (show (F 21) = S 5 from by first | assumption | omega) (show 0 ≤ (F 22 + 1) ∧ (F 22 + 1) ≤ S 5 from by first | assumption | omega) (show 5 < nST from by decide)) (by decide) ⟨Nat.le_of_ble_eq_true rfl, Nat.le_of_ble_eq_true rfl⟩ (q0 := 47) CW_47 rfl rfl rfl (Nat.le_of_ble_eq_true rfl) rfl (fun vo wo hv => ?_)
    obtain ⟨g22_83, hv1, hw1, r83⟩ := hv
    rw [hv1, hw1]
    refine w_weq (CW_cong rfl (fu_th rfl fu_rp) rfl) ?_
    show WW K G 0 0 (CW A D (A 11) G.2.1 I (fu F 22 g22_83) Q P) 86 [(0, .ref (A 47))] [.int (J (bI ((spl S (S 5) 5 ((F 22 + 1), 0, ql)).2.1 = 0)))]
    have r83 : g22_83 = (spl S (S 5) 5 ((F 22 + 1), 0, ql)).1 ∧ (spl S (S 5) 5 ((F 22 + 1), 0, ql)).2.2 = ql := r83
    refine w_if_eq_b (pc := 86) (tgt := 110) hC dX3_readClause_86 (by decide) (fun c86 => ?_) (fun c86 => ?_)
    · have hw : spl S (S 5) 5 (F 22 + 1, 0, ql) = (g22_83, 1, ql) := by rw [pq_eta1 (q := spl S (S 5) 5 (F 22 + 1, 0, ql)) (by omega), ← r83.1, r83.2]
      have hz := clq_s (u := F 23) (wi := F 24) hc hw
      rw [som_f (q := (g22_83, 1, ql)) rfl, emt_w (q := (g22_83, 1, ql)) rfl] at hz
      refine w_iconst (pc := 110) hC dX3_readClause_110 ?_
      refine w_iret (pc := 111) hC hRT dX3_readClause_111 rfl ?_
      refine ⟨(I 48), (F 20), g22_83, (F 23), (F 24), retI (by exact (bI_f (by rw [hz]; exact (by decide : ¬ (1 : Int) = 0))).symm), CW_cong (au_ms (k := 48) (v := I 48) rfl rfl rfl) (fu_ms (k := 20) (v := F 20) rfl (fu_cm (by decide) rfl) (fu_ms (k := 23) (v := F 23) rfl rfl (fu_ms (k := 24) (v := F 24) rfl rfl rfl))) rfl, ?_⟩
      · rw [hz]; exact And.intro rfl (fun z => absurd z (by decide : ¬ (1 : Int) = 0))
    · have hw : spl S (S 5) 5 (F 22 + 1, 0, ql) = (g22_83, 0, ql) := by rw [pq_eta c86, ← r83.1, r83.2]
      have hu1 := r83.1
      have gl := gr_l (som_gr (S := S) (f := fac S (S 5) 5) (fac_gr (S := S) 5) (pb_0 (e := S 5) (l := ql) (show 0 ≤ g22_83 ∧ g22_83 ≤ S 5 by omega)))
      refine w_aload_n (pc := 89) hC dX3_readClause_89 0 rfl rfl ?_
      refine w_iconst (pc := 90) hC dX3_readClause_90 ?_
      refine w_callV (pc := 91) (As := [.int (J 0)]) (rest := []) hC dX3_readClause_91 cv_X3_80 (c_X3_readEither (kl K) G 17 A D I (fu F 22 g22_83) Q P S ql 0 (show RI S from by first | assumption | omega) (show LRn G.2.1 S I (fu F 22 g22_83) Q P from by exact (LRb_fu (by decide) hL)) (show (F 21) = S 5 from by first | assumption | omega) (show 0 ≤ g22_83 ∧ g22_83 ≤ S 5 from by first | assumption | omega) (show (F 20) = (ql.length : Int) ∧ (ql.length : Int) ≤ g22_83 from by first | assumption | omega) (show CD (I 48) ql from by first | assumption | omega) (show 0 ≤ 0 ∧ 0 ≤ 5 from by first | assumption | omega) (show 3 * (5 - 0) + 2 ≤ ((17 : Nat) : Int) from by first | assumption | omega)) (by decide) ⟨Nat.le_of_ble_eq_true rfl, Nat.le_of_ble_eq_true rfl⟩ (q0 := 47) CW_47 rfl rfl rfl (Nat.le_of_ble_eq_true rfl) rfl (fun vo wo hv => ?_)
      obtain ⟨b48_91, g20_91, g22_91, hv1, hw1, r91⟩ := hv
      rw [hv1, hw1]
      refine w_weq (CW_cong rfl (fu_th (fu_th rfl (fu_cm (by decide) rfl)) fu_rp) rfl) ?_
      show WW K G 0 0 (CW A D (A 11) G.2.1 (au I 48 b48_91) (fu (fu F 20 g20_91) 22 g22_91) Q P) 94 [(0, .ref (A 47))] [.int (J (bI (((som S (S 5) (fac S (S 5) (5 - (0 : Int)).toNat)) (g22_83, 0, ql)).2.1 = 0)))]
      have r91 : g22_91 = ((som S (S 5) (fac S (S 5) (5 - (0 : Int)).toNat)) (g22_83, 0, ql)).1 ∧ (((som S (S 5) (fac S (S 5) (5 - (0 : Int)).toNat)) (g22_83, 0, ql)).2.1 = 0 → g20_91 = (((som S (S 5) (fac S (S 5) (5 - (0 : Int)).toNat)) (g22_83, 0, ql)).2.2.length : Int) ∧ CD b48_91 ((som S (S 5) (fac S (S 5) (5 - (0 : Int)).toNat)) (g22_83, 0, ql)).2.2) := r91
      refine w_if_eq_b (pc := 94) (tgt := 110) hC dX3_readClause_94 (by decide) (fun c94 => ?_) (fun c94 => ?_)
      · rw [show (5 - (0 : Int)).toNat = 5 from rfl] at r91 c94
        have hb : (som S (S 5) (fac S (S 5) 5) (g22_83, 0, ql)).2.1 = 1 := by omega
        have hz := clq_s (u := F 23) (wi := F 24) hc hw
        rw [emt_w hb] at hz
        refine w_iconst (pc := 110) hC dX3_readClause_110 ?_
        refine w_iret (pc := 111) hC hRT dX3_readClause_111 rfl ?_
        refine ⟨b48_91, g20_91, g22_91, (F 23), (F 24), retI (by exact (bI_f (by rw [hz]; exact c94)).symm), CW_cong rfl (fu_ms (k := 23) (v := F 23) rfl rfl (fu_ms (k := 24) (v := F 24) rfl rfl rfl)) rfl, ?_⟩
        · rw [hz]; exact And.intro r91.1 (fun z => absurd z c94)
      · rw [show (5 - (0 : Int)).toNat = 5 from rfl] at r91 c94
        have u1 := r91.1
        have u2 := (r91.2 c94).1
        have hz := clq_s (u := F 23) (wi := F 24) hc hw
        rw [emt_ok c94] at hz
        refine w_aload_n (pc := 97) hC dX3_readClause_97 0 rfl rfl ?_
        refine w_bipush (pc := 98) hC dX3_readClause_98 (z := (-4)) rfl ?_
        refine w_callV (pc := 100) (As := [.int (J (-4))]) (rest := []) hC dX3_readClause_100 cv_X3_84 (c_X3_put (kl K) G A D (au I 48 b48_91) (fu (fu F 20 g20_91) 22 g22_91) Q P S (-4) (show RI S from by first | assumption | omega) (show LRn G.2.1 S (au I 48 b48_91) (fu (fu F 20 g20_91) 22 g22_91) Q P from by exact (LRb_fu (by decide) (LRb_fu (by decide) (LRb_au (by decide) hL)))) (show (F 21) = S 5 from by first | assumption | omega) (show 0 ≤ g22_91 ∧ g22_91 ≤ S 5 from by first | assumption | omega) (show 0 ≤ g20_91 ∧ g20_91 < 120 from by first | assumption | omega)) (by decide) ⟨Nat.le_of_ble_eq_true rfl, Nat.le_of_ble_eq_true rfl⟩ (q0 := 47) CW_47 rfl rfl rfl (Nat.le_of_ble_eq_true rfl) rfl (fun vo wo hv => ?_)
        obtain ⟨b48_100, g20_100, hv1, hw1, r100⟩ := hv
        rw [hv1, hw1]
        refine w_weq (CW_cong (au_th rfl au_rp) (fu_th rfl (fu_cm (by decide) fu_rp)) rfl) ?_
        show WW K G 0 0 (CW A D (A 11) G.2.1 (au I 48 b48_100) (fu (fu F 20 g20_100) 22 g22_91) Q P) 103 [(0, .ref (A 47))] [.int (J 1)]
        have r100 : b48_100 = gu b48_91 g20_91 (-4) ∧ g20_100 = g20_91 + 1 := r100
        refine w_if_eq (pc := 103) (tgt := 110) hC dX3_readClause_103 (by decide) (by omega) (fun c103 => ?_) (fun c103 => ?_)
        · exact absurd c103 (by decide)
        · refine w_iconst (pc := 106) hC dX3_readClause_106 ?_
          refine w_goto (pc := 107) hC dX3_readClause_107 (tgt := 111) (by decide) ?_
          refine w_iret (pc := 111) hC hRT dX3_readClause_111 rfl ?_
          refine ⟨b48_100, g20_100, g22_91, (F 23), (F 24), retI (by exact (bI_t (by rw [hz])).symm), CW_cong rfl (fu_ms (k := 23) (v := F 23) rfl rfl (fu_ms (k := 24) (v := F 24) rfl rfl rfl)) rfl, ?_⟩
          · rw [hz]; exact And.intro r91.1 (fun _ => And.intro (by show _ = (((som S (S 5) (fac S (S 5) 5) (g22_83, 0, ql)).2.2 ++ [-4]).length : Int); rw [List.length_append, List.length_singleton]; have w1 := r100.2; omega) (And.intro (CD_put (r91.2 c94).2 (r91.2 c94).1 r100.1 rfl) (And.intro rfl rfl)))
  · refine w_tableIn (pc := 6) (v := 3) (tgt := 112) hC dX3_readClause_6 c6 (by decide) rfl (by decide) ?_
    have eT : g22_3 = F 22 + 1 := by rw [r3, if_neg (by omega)]
    have hc : hr S (S 5) (F 22) = 98 := hx.1.2.2.2 c6
    have hlt := hr_at hc (by decide)
    have gw := gr_l (spl_gr (S := S) (i := 8) (by decide) (pb_0 (e := S 5) (l := ql) (show 0 ≤ F 22 + 1 ∧ F 22 + 1 ≤ S 5 by omega))).1
    rw [eT]
    show WW K G 0 0 (CW A D (A 11) G.2.1 I (fu F 22 (F 22 + 1)) Q P) 112 [(0, .ref (A 47))] []
    refine w_aload_n (pc := 112) hC dX3_readClause_112 0 rfl rfl ?_
    refine w_ldcS (pc := 113) (index := 87) (i := 8) (tx := "old ") hC dX3_readClause_113 (List.mem_of_getElem? (i := 8) rfl) ?_
    refine w_callV (pc := 115) (As := [.ref (G.2.2.1 8)]) (rest := []) hC dX3_readClause_115 cv_X3_66 (c_X3_takeWord (kl K) G A D I (fu F 22 (F 22 + 1)) Q P S 8 ql (show RI S from by first | assumption | omega) (show LRn G.2.1 S I (fu F 22 (F 22 + 1)) Q P from by exact (LRb_fu (by decide) hL)) (show (F 21) = S 5 from by first | assumption | omega) (show 0 ≤ (F 22 + 1) ∧ (F 22 + 1) ≤ S 5 from by first | assumption | omega) (show 8 < nST from by decide)) (by decide) ⟨Nat.le_of_ble_eq_true rfl, Nat.le_of_ble_eq_true rfl⟩ (q0 := 47) CW_47 rfl rfl rfl (Nat.le_of_ble_eq_true rfl) rfl (fun vo wo hv => ?_)
    obtain ⟨g22_115, hv1, hw1, r115⟩ := hv
    rw [hv1, hw1]
    refine w_weq (CW_cong rfl (fu_th rfl fu_rp) rfl) ?_
    show WW K G 0 0 (CW A D (A 11) G.2.1 I (fu F 22 g22_115) Q P) 118 [(0, .ref (A 47))] [.int (J (bI ((spl S (S 5) 8 ((F 22 + 1), 0, ql)).2.1 = 0)))]
    have r115 : g22_115 = (spl S (S 5) 8 ((F 22 + 1), 0, ql)).1 ∧ (spl S (S 5) 8 ((F 22 + 1), 0, ql)).2.2 = ql := r115
    refine w_if_eq_b (pc := 118) (tgt := 142) hC dX3_readClause_118 (by decide) (fun c118 => ?_) (fun c118 => ?_)
    · have hw : spl S (S 5) 8 (F 22 + 1, 0, ql) = (g22_115, 1, ql) := by rw [pq_eta1 (q := spl S (S 5) 8 (F 22 + 1, 0, ql)) (by omega), ← r115.1, r115.2]
      have hz := clq_b (u := F 23) (wi := F 24) hc hw
      rw [som_f (q := (g22_115, 1, ql)) rfl, emt_w (q := (g22_115, 1, ql)) rfl] at hz
      refine w_iconst (pc := 142) hC dX3_readClause_142 ?_
      refine w_iret (pc := 143) hC hRT dX3_readClause_143 rfl ?_
      refine ⟨(I 48), (F 20), g22_115, (F 23), (F 24), retI (by exact (bI_f (by rw [hz]; exact (by decide : ¬ (1 : Int) = 0))).symm), CW_cong (au_ms (k := 48) (v := I 48) rfl rfl rfl) (fu_ms (k := 20) (v := F 20) rfl (fu_cm (by decide) rfl) (fu_ms (k := 23) (v := F 23) rfl rfl (fu_ms (k := 24) (v := F 24) rfl rfl rfl))) rfl, ?_⟩
      · rw [hz]; exact And.intro rfl (fun z => absurd z (by decide : ¬ (1 : Int) = 0))
    · have hw : spl S (S 5) 8 (F 22 + 1, 0, ql) = (g22_115, 0, ql) := by rw [pq_eta c118, ← r115.1, r115.2]
      have hu1 := r115.1
      have gl := gr_l (som_gr (S := S) (f := fac S (S 5) 5) (fac_gr (S := S) 5) (pb_0 (e := S 5) (l := ql) (show 0 ≤ g22_115 ∧ g22_115 ≤ S 5 by omega)))
      refine w_aload_n (pc := 121) hC dX3_readClause_121 0 rfl rfl ?_
      refine w_iconst (pc := 122) hC dX3_readClause_122 ?_
      refine w_callV (pc := 123) (As := [.int (J 0)]) (rest := []) hC dX3_readClause_123 cv_X3_80 (c_X3_readEither (kl K) G 17 A D I (fu F 22 g22_115) Q P S ql 0 (show RI S from by first | assumption | omega) (show LRn G.2.1 S I (fu F 22 g22_115) Q P from by exact (LRb_fu (by decide) hL)) (show (F 21) = S 5 from by first | assumption | omega) (show 0 ≤ g22_115 ∧ g22_115 ≤ S 5 from by first | assumption | omega) (show (F 20) = (ql.length : Int) ∧ (ql.length : Int) ≤ g22_115 from by first | assumption | omega) (show CD (I 48) ql from by first | assumption | omega) (show 0 ≤ 0 ∧ 0 ≤ 5 from by first | assumption | omega) (show 3 * (5 - 0) + 2 ≤ ((17 : Nat) : Int) from by first | assumption | omega)) (by decide) ⟨Nat.le_of_ble_eq_true rfl, Nat.le_of_ble_eq_true rfl⟩ (q0 := 47) CW_47 rfl rfl rfl (Nat.le_of_ble_eq_true rfl) rfl (fun vo wo hv => ?_)
      obtain ⟨b48_123, g20_123, g22_123, hv1, hw1, r123⟩ := hv
      rw [hv1, hw1]
      refine w_weq (CW_cong rfl (fu_th (fu_th rfl (fu_cm (by decide) rfl)) fu_rp) rfl) ?_
      show WW K G 0 0 (CW A D (A 11) G.2.1 (au I 48 b48_123) (fu (fu F 20 g20_123) 22 g22_123) Q P) 126 [(0, .ref (A 47))] [.int (J (bI (((som S (S 5) (fac S (S 5) (5 - (0 : Int)).toNat)) (g22_115, 0, ql)).2.1 = 0)))]
      have r123 : g22_123 = ((som S (S 5) (fac S (S 5) (5 - (0 : Int)).toNat)) (g22_115, 0, ql)).1 ∧ (((som S (S 5) (fac S (S 5) (5 - (0 : Int)).toNat)) (g22_115, 0, ql)).2.1 = 0 → g20_123 = (((som S (S 5) (fac S (S 5) (5 - (0 : Int)).toNat)) (g22_115, 0, ql)).2.2.length : Int) ∧ CD b48_123 ((som S (S 5) (fac S (S 5) (5 - (0 : Int)).toNat)) (g22_115, 0, ql)).2.2) := r123
      refine w_if_eq_b (pc := 126) (tgt := 142) hC dX3_readClause_126 (by decide) (fun c126 => ?_) (fun c126 => ?_)
      · rw [show (5 - (0 : Int)).toNat = 5 from rfl] at r123 c126
        have hb : (som S (S 5) (fac S (S 5) 5) (g22_115, 0, ql)).2.1 = 1 := by omega
        have hz := clq_b (u := F 23) (wi := F 24) hc hw
        rw [emt_w hb] at hz
        refine w_iconst (pc := 142) hC dX3_readClause_142 ?_
        refine w_iret (pc := 143) hC hRT dX3_readClause_143 rfl ?_
        refine ⟨b48_123, g20_123, g22_123, (F 23), (F 24), retI (by exact (bI_f (by rw [hz]; exact c126)).symm), CW_cong rfl (fu_ms (k := 23) (v := F 23) rfl rfl (fu_ms (k := 24) (v := F 24) rfl rfl rfl)) rfl, ?_⟩
        · rw [hz]; exact And.intro r123.1 (fun z => absurd z c126)
      · rw [show (5 - (0 : Int)).toNat = 5 from rfl] at r123 c126
        have u1 := r123.1
        have u2 := (r123.2 c126).1
        have hz := clq_b (u := F 23) (wi := F 24) hc hw
        rw [emt_ok c126] at hz
        refine w_aload_n (pc := 129) hC dX3_readClause_129 0 rfl rfl ?_
        refine w_bipush (pc := 130) hC dX3_readClause_130 (z := (-5)) rfl ?_
        refine w_callV (pc := 132) (As := [.int (J (-5))]) (rest := []) hC dX3_readClause_132 cv_X3_84 (c_X3_put (kl K) G A D (au I 48 b48_123) (fu (fu F 20 g20_123) 22 g22_123) Q P S (-5) (show RI S from by first | assumption | omega) (show LRn G.2.1 S (au I 48 b48_123) (fu (fu F 20 g20_123) 22 g22_123) Q P from by exact (LRb_fu (by decide) (LRb_fu (by decide) (LRb_au (by decide) hL)))) (show (F 21) = S 5 from by first | assumption | omega) (show 0 ≤ g22_123 ∧ g22_123 ≤ S 5 from by first | assumption | omega) (show 0 ≤ g20_123 ∧ g20_123 < 120 from by first | assumption | omega)) (by decide) ⟨Nat.le_of_ble_eq_true rfl, Nat.le_of_ble_eq_true rfl⟩ (q0 := 47) CW_47 rfl rfl rfl (Nat.le_of_ble_eq_true rfl) rfl (fun vo wo hv => ?_)
        obtain ⟨b48_132, g20_132, hv1, hw1, r132⟩ := hv
        rw [hv1, hw1]
        refine w_weq (CW_cong (au_th rfl au_rp) (fu_th rfl (fu_cm (by decide) fu_rp)) rfl) ?_
        show WW K G 0 0 (CW A D (A 11) G.2.1 (au I 48 b48_132) (fu (fu F 20 g20_132) 22 g22_123) Q P) 135 [(0, .ref (A 47))] [.int (J 1)]
        have r132 : b48_132 = gu b48_123 g20_123 (-5) ∧ g20_132 = g20_123 + 1 := r132
        refine w_if_eq (pc := 135) (tgt := 142) hC dX3_readClause_135 (by decide) (by omega) (fun c135 => ?_) (fun c135 => ?_)
        · exact absurd c135 (by decide)
        · refine w_iconst (pc := 138) hC dX3_readClause_138 ?_
          refine w_goto (pc := 139) hC dX3_readClause_139 (tgt := 143) (by decide) ?_
          refine w_iret (pc := 143) hC hRT dX3_readClause_143 rfl ?_
          refine ⟨b48_132, g20_132, g22_123, (F 23), (F 24), retI (by exact (bI_t (by rw [hz])).symm), CW_cong rfl (fu_ms (k := 23) (v := F 23) rfl rfl (fu_ms (k := 24) (v := F 24) rfl rfl rfl)) rfl, ?_⟩
          · rw [hz]; exact And.intro r123.1 (fun _ => And.intro (by show _ = (((som S (S 5) (fac S (S 5) 5) (g22_115, 0, ql)).2.2 ++ [-5]).length : Int); rw [List.length_append, List.length_singleton]; have w1 := r132.2; omega) (And.intro (CD_put (r123.2 c126).2 (r123.2 c126).1 r132.1 rfl) (And.intro rfl rfl)))
  · refine w_tableOut (pc := 6) (tgt := 144) hC dX3_readClause_6 (by omega) c6 (by decide) ?_
    have eT : g22_3 = F 22 := by rw [r3, if_pos (by omega)]
    have hz := clq_d (u := F 23) (wi := F 24) (l := ql) (fun z => by have := hx.2.1 z; omega) (fun z => by have := hx.2.2.1 z; omega) (fun z => by have := hx.2.2.2.1 z; omega) (fun z => by have := hx.2.2.2.2 z; omega)
    refine w_iconst (pc := 144) hC dX3_readClause_144 ?_
    refine w_iret (pc := 145) hC hRT dX3_readClause_145 rfl ?_
    refine ⟨(I 48), (F 20), g22_3, (F 23), (F 24), retI (by exact (bI_f (by rw [hz.2]; exact (by decide : ¬ (1 : Int) = 0))).symm), CW_cong (au_ms (k := 48) (v := I 48) rfl rfl rfl) (fu_ms (k := 20) (v := F 20) rfl (fu_cm (by decide) rfl) (fu_ms (k := 23) (v := F 23) rfl rfl (fu_ms (k := 24) (v := F 24) rfl rfl rfl))) rfl, ?_⟩
    · exact And.intro (eT.trans hz.1.symm) (fun z => absurd (hz.2.symm.trans z) (by decide : ¬ (1 : Int) = 0))
set_option maxRecDepth 100000 in
set_option maxHeartbeats 4000000 in
theorem c_X3_read (l : Launch) (G : GT) (A D : Nat → Nat) (T : Nat) (I : Nat → Int → Int) (F : Nat → Int) (Q : Nat → Nat → Option Nat) (P : va_W) (S : Int → Int) (P0 : va_W)  (hR : RI S) (hL : LRn G.2.1 S I F Q P) (hP0 : P = P0) : CT l yX3_read cX3_read 4 (some (.object "LadderClub$Club")) 25 2 123 G [.ref (A 47), .ref (A 11), .int (J (S 5))] (CW A D T G.2.1 I F Q P) (fun vo wo => ∃ (o : Option Nat) (b48 : Int → Int) (g20 : Int) (g22 : Int) (g23 : Int) (g24 : Int) (P : va_W), vo = some (va_rf o) ∧ wo = CW A D (A 11) G.2.1 (au I 48 b48) (fu (fu (fu (fu (fu F 20 g20) 21 (S 5)) 22 g22) 23 g23) 24 g24) Q P ∧ (g22 = (RES S).1.1 ∧ ((o = none ∧ P = P0 ∧ ((RES S).1.2.1 = 1 ∨ ¬ (RES S).1.1 = S 5)) ∨ ∃ (q0 q1 : Nat) (b : Int → Int), o = some q0 ∧ P = P0 ++ [(q0, .inr (2, [.int (J (RES S).2.1), .int (J (RES S).2.2), .ref q1]))] ++ [(q1, .inl (G.2.1 0, (RES S).1.2.2.length, .inl (jf b)))] ∧ CD b (RES S).1.2.2 ∧ ¬ ((RES S).1.2.1 = 1 ∨ ¬ (RES S).1.1 = S 5)))) := by
  refine CT_of (own := RX3) rfl rfl (Nat.le_of_ble_eq_true rfl) (fun K hl hnL hC hRT hin => ?_)
  subst hl
  show WW K G 0 0 (CW A D T G.2.1 I F Q P) 0 [(0, .ref (A 47)), (1, .ref (A 11)), (2, .int (J (S 5)))] []
  have hn := hR.n
  have hbd := hR.bd
  have htp := hR.tp
  refine w_aload_n (pc := 0) hC dX3_read_0 0 rfl rfl ?_
  refine w_aload_n (pc := 1) hC dX3_read_1 1 rfl rfl ?_
  refine w_putf (pc := 2) (w2 := CW A D (A 11) G.2.1 I F Q P) hC dX3_read_2 fi_X3_19 fp_X3_2 rfl 47 CW_47 (rfl) (rfl) (Nat.le_of_ble_eq_true rfl) CW_T ?_
  refine w_aload_n (pc := 5) hC dX3_read_5 0 rfl rfl ?_
  refine w_iload_n (pc := 6) hC dX3_read_6 2 rfl rfl ?_
  refine w_putf (pc := 7) (w2 := CW A D (A 11) G.2.1 I (fu F 21 (S 5)) Q P) hC dX3_read_7 fi_X3_23 fp_X3_3 rfl 47 CW_47 (rfl) (rfl) (Nat.le_of_ble_eq_true rfl) (CWf_21 rfl) ?_
  refine w_aload_n (pc := 10) hC dX3_read_10 0 rfl rfl ?_
  refine w_iconst (pc := 11) hC dX3_read_11 ?_
  refine w_putf (pc := 12) (w2 := CW A D (A 11) G.2.1 I (fu (fu F 21 (S 5)) 22 0) Q P) hC dX3_read_12 fi_X3_26 fp_X3_4 rfl 47 CW_47 (rfl) (rfl) (Nat.le_of_ble_eq_true rfl) (CWf_22 rfl) ?_
  refine w_aload_n (pc := 15) hC dX3_read_15 0 rfl rfl ?_
  refine w_iconst (pc := 16) hC dX3_read_16 ?_
  refine w_putf (pc := 17) (w2 := CW A D (A 11) G.2.1 I (fu (fu (fu F 20 0) 21 (S 5)) 22 0) Q P) hC dX3_read_17 fi_X3_15 fp_X3_1 rfl 47 CW_47 (rfl) (rfl) (Nat.le_of_ble_eq_true rfl) (CWf_20 (fu_cm (by decide) (fu_cm (by decide) rfl))) ?_
  refine w_aload_n (pc := 20) hC dX3_read_20 0 rfl rfl ?_
  refine w_iconst (pc := 21) hC dX3_read_21 ?_
  refine w_putf (pc := 22) (w2 := CW A D (A 11) G.2.1 I (fu (fu (fu (fu F 20 0) 21 (S 5)) 22 0) 23 0) Q P) hC dX3_read_22 fi_X3_29 fp_X3_5 rfl 47 CW_47 (rfl) (rfl) (Nat.le_of_ble_eq_true rfl) (CWf_23 rfl) ?_
  refine w_aload_n (pc := 25) hC dX3_read_25 0 rfl rfl ?_
  refine w_iconst (pc := 26) hC dX3_read_26 ?_
  refine w_putf (pc := 27) (w2 := CW A D (A 11) G.2.1 I (fu (fu (fu (fu (fu F 20 0) 21 (S 5)) 22 0) 23 0) 24 0) Q P) hC dX3_read_27 fi_X3_34 fp_X3_6 rfl 47 CW_47 (rfl) (rfl) (Nat.le_of_ble_eq_true rfl) (CWf_24 rfl) ?_
  refine w_iconst (pc := 30) hC dX3_read_30 ?_
  refine w_istore_n (pc := 31) hC dX3_read_31 rfl (lv2 := [(3, .int (J 1)), (0, .ref (A 47)), (1, .ref (A 11)), (2, .int (J (S 5)))]) (by rw [hnL]; decide) rfl ?_
  have loop32 : ∀ (nF : Nat) (i : Int) (a48_32 : Int → Int) (f20_32 : Int) (f22_32 : Int) (f23_32 : Int) (f24_32 : Int), (1 ≤ i ∧ i ≤ 8) → (0 ≤ f22_32 ∧ f22_32 ≤ S 5) → (∃ lk : List Int, f20_32 = (lk.length : Int) ∧ (lk.length : Int) ≤ f22_32 ∧ CD a48_32 lk ∧ RES S = lpc S (S 5) (8 - i).toNat (clq S (S 5) ((f22_32, 0, lk), f23_32, f24_32))) → (9 - i) < (nF : Int) → WW K G 0 0 (CW A D (A 11) G.2.1 (au I 48 a48_32) (fu (fu (fu (fu (fu F 20 f20_32) 21 (S 5)) 22 f22_32) 23 f23_32) 24 f24_32) Q P) 32 [(0, .ref (A 47)), (3, .int (J i))] [] := by
    intro nF
    induction nF with
    | zero => intro i a48_32 f20_32 f22_32 f23_32 f24_32 i1 i2 i3 hm32; exact absurd hm32 (by omega)
    | succ nF ih32 =>
      intro i a48_32 f20_32 f22_32 f23_32 f24_32 i1 i2 i3 hm32
      obtain ⟨lk, k1, k2, k3, i3e⟩ := i3
      refine w_iload_n (pc := 32) hC dX3_read_32 1 rfl rfl ?_
      refine w_bipush (pc := 33) hC dX3_read_33 (z := 8) rfl ?_
      refine w_icmp_gt (pc := 35) (tgt := 99) hC dX3_read_35 (by decide) (by omega) (fun c35 => ?_) (fun c35 => ?_)
      · exfalso; omega
      · refine w_aload_n (pc := 38) hC dX3_read_38 0 rfl rfl ?_
        refine w_callV (pc := 39) (As := []) (rest := []) hC dX3_read_39 cv_X3_37 (c_X3_readClause (kl K) G A D (au I 48 a48_32) (fu (fu (fu (fu (fu F 20 f20_32) 21 (S 5)) 22 f22_32) 23 f23_32) 24 f24_32) Q P S lk (show RI S from by first | assumption | omega) (show LRn G.2.1 S (au I 48 a48_32) (fu (fu (fu (fu (fu F 20 f20_32) 21 (S 5)) 22 f22_32) 23 f23_32) 24 f24_32) Q P from by exact (LRb_fu (by decide) (LRb_fu (by decide) (LRb_fu (by decide) (LRb_fu (by decide) (LRb_fu (by decide) (LRb_au (by decide) hL))))))) (show (S 5) = S 5 from by first | assumption | omega) (show 0 ≤ f22_32 ∧ f22_32 ≤ S 5 from by first | assumption | omega) (show f20_32 = (lk.length : Int) ∧ (lk.length : Int) ≤ f22_32 from by first | assumption | omega) (show CD a48_32 lk from by first | assumption | omega)) (by decide) ⟨Nat.le_of_ble_eq_true rfl, Nat.le_of_ble_eq_true rfl⟩ (q0 := 47) CW_47 rfl rfl rfl (Nat.le_of_ble_eq_true rfl) rfl (fun vo wo hv => ?_)
        obtain ⟨b48_39, g20_39, g22_39, g23_39, g24_39, hv1, hw1, r39⟩ := hv
        rw [hv1, hw1]
        refine w_weq (CW_cong (au_th rfl au_rp) (fu_th (fu_th (fu_th (fu_th rfl (fu_cm (by decide) (fu_cm (by decide) (fu_cm (by decide) (fu_cm (by decide) fu_rp))))) (fu_cm (by decide) (fu_cm (by decide) fu_rp))) (fu_cm (by decide) fu_rp)) fu_rp) rfl) ?_
        show WW K G 0 0 (CW A D (A 11) G.2.1 (au I 48 b48_39) (fu (fu (fu (fu (fu F 20 g20_39) 21 (S 5)) 22 g22_39) 23 g23_39) 24 g24_39) Q P) 42 [(0, .ref (A 47)), (3, .int (J i))] [.int (J (bI ((clq S (S 5) ((f22_32, 0, lk), f23_32, f24_32)).1.2.1 = 0)))]
        have r39 : g22_39 = (clq S (S 5) ((f22_32, 0, lk), f23_32, f24_32)).1.1 ∧ ((clq S (S 5) ((f22_32, 0, lk), f23_32, f24_32)).1.2.1 = 0 → g20_39 = ((clq S (S 5) ((f22_32, 0, lk), f23_32, f24_32)).1.2.2.length : Int) ∧ CD b48_39 (clq S (S 5) ((f22_32, 0, lk), f23_32, f24_32)).1.2.2 ∧ g23_39 = (clq S (S 5) ((f22_32, 0, lk), f23_32, f24_32)).2.1 ∧ g24_39 = (clq S (S 5) ((f22_32, 0, lk), f23_32, f24_32)).2.2) := r39
        have u39 := r39.1
        have gl := gr_l (clq_gr (S := S) (e := S 5) (z := ((f22_32, 0, lk), f23_32, f24_32)) (pb_0 (e := S 5) (l := lk) i2))
        refine w_if_eq_b (pc := 42) (tgt := 99) hC dX3_read_42 (by decide) (fun c42 => ?_) (fun c42 => ?_)
        · refine w_null (pc := 99) hC dX3_read_99 ?_
          have hns : ¬ ((clq S (S 5) ((f22_32, 0, lk), f23_32, f24_32)).1.2.1 = 0 ∧ hr S (S 5) (clq S (S 5) ((f22_32, 0, lk), f23_32, f24_32)).1.1 = 59) := fun z => c42 z.1
          rw [lpc_end _ hns] at i3e
          have hB : ((RES S).1.2.1 = 1 ∨ ¬ (RES S).1.1 = S 5) := by rw [i3e]; exact Or.inl (by omega)
          refine w_up (cs2 := 2) (ss2 := 123) (Nat.le_of_ble_eq_true rfl) (Nat.le_of_ble_eq_true rfl) ?_
          refine w_aret (pc := 100) (o := none) hC hRT dX3_read_100 (Or.inl ⟨_, rfl⟩) ?_
          refine ⟨none, b48_39, g20_39, g22_39, g23_39, g24_39, P, rfl, rfl, ?_⟩
          · exact And.intro (by rw [i3e]; exact r39.1) (Or.inl (And.intro rfl (And.intro hP0 hB)))
        · refine w_aload_n (pc := 45) hC dX3_read_45 0 rfl rfl ?_
          refine w_getf (pc := 46) (v := .int (J g22_39)) hC dX3_read_46 fi_X3_26 47 CW_47 rfl ?_
          refine w_aload_n (pc := 49) hC dX3_read_49 0 rfl rfl ?_
          refine w_getf (pc := 50) (v := .int (J (S 5))) hC dX3_read_50 fi_X3_23 47 CW_47 rfl ?_
          refine w_icmp_lt (pc := 53) (tgt := 76) hC dX3_read_53 (by decide) (by omega) (fun c53 => ?_) (fun c53 => ?_)
          · refine w_iload_n (pc := 76) hC dX3_read_76 1 rfl rfl ?_
            refine w_bipush (pc := 77) hC dX3_read_77 (z := 8) rfl ?_
            refine w_icmp_eq (pc := 79) (tgt := 91) hC dX3_read_79 (by decide) (by omega) (fun c79 => ?_) (fun c79 => ?_)
            · refine w_null (pc := 91) hC dX3_read_91 ?_
              have hi8 : i = 8 := c79
              rw [show (8 - i).toNat = 0 by omega] at i3e
              have i3e : RES S = (clq S (S 5) ((f22_32, 0, lk), f23_32, f24_32)) := i3e
              have hp : g22_39 = (RES S).1.1 := by rw [i3e]; exact r39.1
              have hB : ((RES S).1.2.1 = 1 ∨ ¬ (RES S).1.1 = S 5) := by rw [i3e]; exact Or.inr (by omega)
              refine w_up (cs2 := 2) (ss2 := 123) (Nat.le_of_ble_eq_true rfl) (Nat.le_of_ble_eq_true rfl) ?_
              refine w_aret (pc := 92) (o := none) hC hRT dX3_read_92 (Or.inl ⟨_, rfl⟩) ?_
              refine ⟨none, b48_39, g20_39, g22_39, g23_39, g24_39, P, rfl, rfl, ?_⟩
              · exact And.intro hp (Or.inl (And.intro rfl (And.intro hP0 hB)))
            · refine w_aload_n (pc := 82) hC dX3_read_82 0 rfl rfl ?_
              refine w_bipush (pc := 83) hC dX3_read_83 (z := 59) rfl ?_
              refine w_callV (pc := 85) (As := [.int (J 59)]) (rest := []) hC dX3_read_85 cv_X3_48 (c_X3_take (kl K) G A D (au I 48 b48_39) (fu (fu (fu (fu (fu F 20 g20_39) 21 (S 5)) 22 g22_39) 23 g23_39) 24 g24_39) Q P S 59 (show RI S from by first | assumption | omega) (show LRn G.2.1 S (au I 48 b48_39) (fu (fu (fu (fu (fu F 20 g20_39) 21 (S 5)) 22 g22_39) 23 g23_39) 24 g24_39) Q P from by exact (LRb_fu (by decide) (LRb_fu (by decide) (LRb_fu (by decide) (LRb_fu (by decide) (LRb_fu (by decide) (LRb_au (by decide) hL))))))) (show (S 5) = S 5 from by first | assumption | omega) (show 0 ≤ g22_39 ∧ g22_39 ≤ S 5 from by first | assumption | omega) (show 0 ≤ 59 ∧ 59 ≤ 127 from by decide)) (by decide) ⟨Nat.le_of_ble_eq_true rfl, Nat.le_of_ble_eq_true rfl⟩ (q0 := 47) CW_47 rfl rfl rfl (Nat.le_of_ble_eq_true rfl) rfl (fun vo wo hv => ?_)
              obtain ⟨g22_85, hv1, hw1, r85⟩ := hv
              rw [hv1, hw1]
              refine w_weq (CW_cong rfl (fu_th rfl (fu_cm (by decide) (fu_cm (by decide) fu_rp))) rfl) ?_
              show WW K G 0 0 (CW A D (A 11) G.2.1 (au I 48 b48_39) (fu (fu (fu (fu (fu F 20 g20_39) 21 (S 5)) 22 g22_85) 23 g23_39) 24 g24_39) Q P) 88 [(0, .ref (A 47)), (3, .int (J i))] [.int (J (bI ((hr S (S 5) g22_39) = 59)))]
              have r85 : g22_85 = if (hr S (S 5) g22_39) = 59 then g22_39 + 1 else g22_39 := r85
              refine w_if_ne_b (pc := 88) (tgt := 93) hC dX3_read_88 (by decide) (fun c88 => ?_) (fun c88 => ?_)
              · refine w_iinc (pc := 93) hC dX3_read_93 (lv2 := [(3, .int (J (i + 1))), (0, .ref (A 47))]) 1 rfl (by rw [hnL]; decide) rfl ?_
                refine w_goto (pc := 96) hC dX3_read_96 (tgt := 32) (by decide) ?_
                refine w_sub [1, 0] (lv2 := [(0, .ref (A 47)), (3, .int (J (i + 1)))]) rfl ?_
                refine ih32 (i + 1) b48_39 g20_39 g22_85 g23_39 g24_39 ?_ ?_ ?_ ?_
                · first | assumption | omega
                · have h9 := hr_at c88 (by decide); rw [r85, if_pos c88]; omega
                · exact ⟨(clq S (S 5) ((f22_32, 0, lk), f23_32, f24_32)).1.2.2, (r39.2 c42).1, by rw [r85, if_pos c88]; omega, (r39.2 c42).2.1, by rw [i3e, show 8 - i = 8 - (i + 1) + 1 by omega, lpc_go (by omega) c42 r39.1 c88 (r39.2 c42).2.2.1 (r39.2 c42).2.2.2, r85, if_pos c88]⟩
                · omega
              · refine w_null (pc := 91) hC dX3_read_91 ?_
                have hns : ¬ ((clq S (S 5) ((f22_32, 0, lk), f23_32, f24_32)).1.2.1 = 0 ∧ hr S (S 5) (clq S (S 5) ((f22_32, 0, lk), f23_32, f24_32)).1.1 = 59) := fun z => c88 (by rw [r39.1]; exact z.2)
                rw [lpc_end _ hns] at i3e
                have hp : g22_85 = (RES S).1.1 := by rw [i3e, r85, if_neg c88]; exact r39.1
                have hB : ((RES S).1.2.1 = 1 ∨ ¬ (RES S).1.1 = S 5) := by rw [i3e]; exact Or.inr (by omega)
                refine w_up (cs2 := 2) (ss2 := 123) (Nat.le_of_ble_eq_true rfl) (Nat.le_of_ble_eq_true rfl) ?_
                refine w_aret (pc := 92) (o := none) hC hRT dX3_read_92 (Or.inl ⟨_, rfl⟩) ?_
                refine ⟨none, b48_39, g20_39, g22_85, g23_39, g24_39, P, rfl, rfl, ?_⟩
                · exact And.intro hp (Or.inl (And.intro rfl (And.intro hP0 hB)))
          · have hns : ¬ ((clq S (S 5) ((f22_32, 0, lk), f23_32, f24_32)).1.2.1 = 0 ∧ hr S (S 5) (clq S (S 5) ((f22_32, 0, lk), f23_32, f24_32)).1.1 = 59) := fun z => by have h9 := hr_at z.2 (by decide); omega
            rw [lpc_end _ hns] at i3e
            have s1 := (r39.2 c42).1
            have s2 := (r39.2 c42).2.1
            have s3 := (r39.2 c42).2.2.1
            have s4 := (r39.2 c42).2.2.2
            refine w_newC (pc := 56) hC dX3_read_56 cn_X3_32 ⟨Nat.le_of_ble_eq_true rfl, Nat.le_of_ble_eq_true rfl⟩ (fun q0 => ?_)
            rw [CW_app]
            show WW K G 1 3 (CW A D (A 11) G.2.1 (au I 48 b48_39) (fu (fu (fu (fu (fu F 20 g20_39) 21 (S 5)) 22 g22_39) 23 g23_39) 24 g24_39) Q (P ++ [(q0, .inr (2, [.int (J 0), .int (J 0), .null]))])) 59 [(0, .ref (A 47)), (3, .int (J i))] [.ref q0]
            refine w_dup (pc := 59) hC dX3_read_59 rfl ?_
            refine w_aload_n (pc := 60) hC dX3_read_60 0 rfl rfl ?_
            refine w_getf (pc := 61) (v := .int (J g23_39)) hC dX3_read_61 fi_X3_29 47 CW_47 rfl ?_
            refine w_aload_n (pc := 64) hC dX3_read_64 0 rfl rfl ?_
            refine w_getf (pc := 65) (v := .int (J g24_39)) hC dX3_read_65 fi_X3_34 47 CW_47 rfl ?_
            refine w_aload_n (pc := 68) hC dX3_read_68 0 rfl rfl ?_
            refine w_callV (cs := 1) (ss := 3) (pc := 69) (As := []) (rest := [.int (J g24_39), .int (J g23_39), .ref q0, .ref q0]) hC dX3_read_69 cv_X3_41 (c_X3_ownCode (kl K) G A D (au I 48 b48_39) (fu (fu (fu (fu (fu F 20 g20_39) 21 (S 5)) 22 g22_39) 23 g23_39) 24 g24_39) Q (P ++ [(q0, .inr (2, [.int (J 0), .int (J 0), .null]))]) (show 0 ≤ g20_39 ∧ g20_39 ≤ 120 from by omega)) (by decide) ⟨Nat.le_of_ble_eq_true rfl, Nat.le_of_ble_eq_true rfl⟩ (q0 := 47) CW_47 rfl rfl rfl (Nat.le_of_ble_eq_true rfl) rfl (fun vo wo hv => ?_)
            obtain ⟨q1, hv1, hw1⟩ := hv
            rw [hv1, hw1]
            show WW K G 2 123 (CW A D (A 11) G.2.1 (au I 48 b48_39) (fu (fu (fu (fu (fu F 20 g20_39) 21 (S 5)) 22 g22_39) 23 g23_39) 24 g24_39) Q (P ++ [(q0, .inr (2, [.int (J 0), .int (J 0), .null]))] ++ [(q1, .inl (G.2.1 0, (g20_39).toNat, .inl (jf (cpg b48_39 (fun _ => 0) g20_39))))])) 72 [(0, .ref (A 47)), (3, .int (J i))] [.ref q1, .int (J g24_39), .int (J g23_39), .ref q0, .ref q0]
            refine w_callI (cs := 2) (ss := 123) (pc := 72) (As := [.int (J g23_39), .int (J g24_39), .ref q1]) (rest := [.ref q0]) hC dX3_read_72 cc_X3_45 (c_X2_init (kl K) G (CW A D (A 11) G.2.1 (au I 48 b48_39) (fu (fu (fu (fu (fu F 20 g20_39) 21 (S 5)) 22 g22_39) 23 g23_39) 24 g24_39) Q (P ++ [(q0, .inr (2, [.int (J 0), .int (J 0), .null]))] ++ [(q1, .inl (G.2.1 0, (g20_39).toNat, .inl (jf (cpg b48_39 (fun _ => 0) g20_39))))])) (60 + P.length) q0 g23_39 g24_39 q1 CW_last2) (by decide) ⟨Nat.le_of_ble_eq_true rfl, Nat.le_of_ble_eq_true rfl⟩ rfl (Nat.le_of_ble_eq_true rfl) rfl (fun vo wo hv => ?_)
            obtain ⟨hv1, hw1⟩ := hv
            rw [hv1, hw1]
            refine w_weq CW_setP2 ?_
            show WW K G 2 123 (CW A D (A 11) G.2.1 (au I 48 b48_39) (fu (fu (fu (fu (fu F 20 g20_39) 21 (S 5)) 22 g22_39) 23 g23_39) 24 g24_39) Q (P ++ [(q0, .inr (2, [.int (J g23_39), .int (J g24_39), .ref q1]))] ++ [(q1, .inl (G.2.1 0, (g20_39).toNat, .inl (jf (cpg b48_39 (fun _ => 0) g20_39))))])) 75 [(0, .ref (A 47)), (3, .int (J i))] [.ref q0]
            refine w_aret (pc := 75) (o := (some q0)) hC hRT dX3_read_75 (Or.inl ⟨_, rfl⟩) ?_
            refine ⟨some q0, b48_39, g20_39, g22_39, g23_39, g24_39, P ++ [(q0, .inr (2, [.int (J g23_39), .int (J g24_39), .ref q1]))] ++ [(q1, .inl (G.2.1 0, (g20_39).toNat, .inl (jf (cpg b48_39 (fun _ => 0) g20_39))))], rfl, rfl, ?_⟩
            · rw [i3e]; refine And.intro r39.1 (Or.inr ⟨q0, q1, cpg b48_39 (fun _ => 0) g20_39, rfl, ?_, CD_cp s2 s1, fun z => z.elim (fun z => by omega) (fun z => z (by omega))⟩); rw [hP0, s1, s3, s4]; rfl
  refine w_weq (CW_cong (au_ms (k := 48) (v := I 48) rfl rfl rfl) rfl rfl) ?_
  refine w_sub [1, 0] (lv2 := [(0, .ref (A 47)), (3, .int (J 1))]) rfl ?_
  refine loop32 ((9 - 1) + 1 : Int).toNat 1 (I 48) 0 0 0 0 ?_ ?_ ?_ ?_
  · first | assumption | omega
  · omega
  · exact ⟨[], rfl, by decide, fun k hk => absurd hk (Nat.not_lt_zero k), rfl⟩
  · omega
