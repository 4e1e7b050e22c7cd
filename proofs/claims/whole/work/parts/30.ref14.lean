
theorem spN_gr {S : Int → Int} {e : Int} {i : Nat} {q : PQ} (hi : i < nST) (h : PB e q) : ∀ k : Nat, (k : Int) ≤ stl i → GR e q (spN S e i k q) ∧ ((spN S e i k q).2.1 = 1 ∨ (spN S e i k q).1 = q.1 + (k : Int))
  | 0, _ => ⟨GR.refl h, Or.inr (by show q.1 = q.1 + ((0 : Nat) : Int); omega)⟩
  | k + 1, hk => by
    obtain ⟨h1, h2⟩ := spN_gr (S := S) hi h k (by omega)
    have hc := (stc_bd hi (k := (k : Int)) (by omega) (by omega)).1
    refine ⟨h1.trans (mst_gr hc (h1.pb h)), ?_⟩
    show (mst S e _ (spN S e i k q)).2.1 = 1 ∨ (mst S e _ (spN S e i k q)).1 = _
    unfold mst
    split
    · exact Or.inl rfl
    · rename_i g
      refine Or.inr ?_
      dsimp only
      rcases h2 with h2 | h2
      · exact absurd (Or.inl h2) g
      · omega
theorem spl_gr {S : Int → Int} {e : Int} {i : Nat} {q : PQ} (hi : i < nST) (h : PB e q) : GR e q (spl S e i q) ∧ ((spl S e i q).2.1 = 1 ∨ q.1 + 1 ≤ (spl S e i q).1) := by
  have hb := stl_bd i hi
  obtain ⟨h1, h2⟩ := spN_gr (S := S) hi h (stl i).toNat (by omega)
  exact ⟨h1, h2.imp (fun z => z) (fun z => by show q.1 + 1 ≤ (spN S e i (stl i).toNat q).1; omega)⟩
/-- what a clause may change: the reader, then what 'up' and 'wins' say -/
abbrev CQ : Type := PQ × Int × Int
def clq (S : Int → Int) (e : Int) (z : CQ) : CQ :=
  if hr S e z.1.1 = 117 then ((figQ S e (spl S e 9 z.1)).2, (if (figQ S e (spl S e 9 z.1)).2.2.1 = 1 then z.2.1 else (figQ S e (spl S e 9 z.1)).1), z.2.2)
  else if hr S e z.1.1 = 119 then
    (if (spl S e 10 z.1).2.1 = 1 then (spl S e 10 z.1, z.2) else if SX 4 (hr S e (spl S e 10 z.1).1) = -1 then (((spl S e 10 z.1).1, 1, (spl S e 10 z.1).2.2), z.2) else (((spl S e 10 z.1).1 + 1, 0, (spl S e 10 z.1).2.2), z.2.1, SX 4 (hr S e (spl S e 10 z.1).1)))
  else if hr S e z.1.1 = 115 then (emt (-4) (som S e (fac S e 5) (spl S e 11 z.1)), z.2)
  else if hr S e z.1.1 = 98 then (emt (-5) (som S e (fac S e 5) (spl S e 12 z.1)), z.2)
  else ((z.1.1, 1, z.1.2.2), z.2)
theorem shy_gr {S : Int → Int} {e s : Int} {i : Nat} {q : PQ} (hi : i < nST) (h : PB e q) : GR e q (emt s (som S e (fac S e 5) (spl S e i q))) := by
  obtain ⟨h1, h2⟩ := spl_gr (S := S) hi h
  have hs := som_gr (S := S) (f := fac S e 5) (fac_gr (S := S) 5) (h1.pb h)
  have ht := h1.trans hs
  by_cases c : (som S e (fac S e 5) (spl S e i q)).2.1 = 1
  · rw [emt_w c]; exact ht
  · refine emt_gr ⟨⟨?_, ht.1.2⟩, ht.2.1, ?_⟩
    · rcases h2 with h2 | h2
      · exact absurd (by rw [som_w (fun q h => fac_w _ h) h2]; exact h2) c
      · exact Int.le_trans h2 hs.1.1
    · rcases h2 with h2 | h2
      · exact absurd (by rw [som_w (fun q h => fac_w _ h) h2]; exact h2) c
      · have e1 := hs.2.2
        have e3 : ∀ k : Nat, (k : Int) ≤ stl i → (spN S e i k q).2.1 = 1 ∨ ((spN S e i k q).1 = q.1 + (k : Int) ∧ (spN S e i k q).2.2 = q.2.2) := fun k => by
          induction k with
          | zero => exact fun _ => Or.inr ⟨by show q.1 = q.1 + ((0 : Nat) : Int); omega, rfl⟩
          | succ k ih =>
            intro hk
            show (mst S e _ (spN S e i k q)).2.1 = 1 ∨ (mst S e _ (spN S e i k q)).1 = _ ∧ (mst S e _ (spN S e i k q)).2.2 = _
            unfold mst
            split
            · exact Or.inl rfl
            · rename_i g
              rcases ih (by omega) with z | ⟨z1, z2⟩
              · exact absurd (Or.inl z) g
              · exact Or.inr ⟨by dsimp only; omega, z2⟩
        have hb := stl_bd i hi
        rcases e3 (stl i).toNat (by omega) with z | ⟨z1, z2⟩
        · have z : (spl S e i q).2.1 = 1 := z
          exact absurd (by rw [som_w (fun q h => fac_w _ h) z]; exact z) c
        · have z1 : (spl S e i q).1 = q.1 + (((stl i).toNat : Nat) : Int) := z1
          have z2 : (spl S e i q).2.2 = q.2.2 := z2
          rw [z2] at e1
          dsimp only
          omega
theorem clq_gr {S : Int → Int} {e : Int} {z : CQ} (h : PB e z.1) : GR e z.1 (clq S e z).1 := by
  have h1 := h.1
  unfold clq
  split
  · have g := spl_gr (S := S) (i := 9) (by decide) h
    exact g.1.trans (figQ_gr (g.1.pb h))
  · split
    · have g := spl_gr (S := S) (i := 10) (by decide) h
      split
      · exact g.1
      · split
        · exact ⟨g.1.1, Or.inr rfl, g.1.2.2⟩
        · rename_i c
          have c2 := SX_hr (i := 4) (by decide) c
          have c3 := g.1.1
          have c4 := g.1.2.2
          exact ⟨by dsimp only; omega, Or.inl rfl, by dsimp only; omega⟩
    · split
      · exact shy_gr (by decide) h
      · split
        · exact shy_gr (by decide) h
        · exact ⟨⟨Int.le_refl _, h1.2⟩, Or.inr rfl, Int.le_refl _⟩
def UB (z : CQ) : Prop := (0 ≤ z.2.1 ∧ z.2.1 ≤ 99) ∧ 0 ≤ z.2.2 ∧ z.2.2 ≤ 2
theorem clq_ub {S : Int → Int} {e : Int} {z : CQ} (h : UB z) : UB (clq S e z) := by
  unfold clq
  split
  · refine ⟨?_, h.2⟩
    dsimp only
    split
    · exact h.1
    · exact figQ_v
  · split
    · split
      · exact h
      · split
        · exact h
        · rename_i c
          refine ⟨h.1, ?_⟩
          have h4 : stl 4 = 3 := rfl
          rcases SX_bd (i := 4) (hr S e (spl S e 10 z.1).1) (by decide) with g | ⟨g1, g2, -⟩
          · exact absurd g c
          · dsimp only; omega
    · split
      · exact h
      · split
        · exact h
        · exact h
def lpc (S : Int → Int) (e : Int) : Nat → CQ → CQ
  | 0, z => z
  | k + 1, z => if z.1.2.1 = 0 ∧ hr S e z.1.1 = 59 then lpc S e k (clq S e ((z.1.1 + 1, z.1.2.1, z.1.2.2), z.2)) else z
theorem lpc_gr {S : Int → Int} {e : Int} : ∀ (k : Nat) (z : CQ), PB e z.1 → GR e z.1 (lpc S e k z).1
  | 0, z, h => GR.refl h
  | k + 1, z, h => by
    unfold lpc
    split
    · rename_i g
      have := hr_at g.2 (by decide)
      have h1 := h.1
      have hb : PB e ((z.1.1 + 1, z.1.2.1, z.1.2.2), z.2).1 := ⟨⟨by dsimp only; omega, by dsimp only; omega⟩, h.2⟩
      have hg := clq_gr (S := S) hb
      have hg2 := hg.trans (lpc_gr (S := S) k _ (hg.pb hb))
      exact ⟨⟨by have := hg2.1.1; dsimp only at this; omega, hg2.1.2⟩, hg2.2.1, by have := hg2.2.2; dsimp only at this; omega⟩
    · exact GR.refl h
theorem lpc_ub {S : Int → Int} {e : Int} : ∀ (k : Nat) (z : CQ), UB z → UB (lpc S e k z)
  | 0, z, h => h
  | k + 1, z, h => by
    unfold lpc
    split
    · exact lpc_ub k _ (clq_ub h)
    · exact h
theorem lpc_end {S : Int → Int} {e : Int} (k : Nat) {z : CQ} (h : ¬ (z.1.2.1 = 0 ∧ hr S e z.1.1 = 59)) : lpc S e k z = z := by
  cases k with
  | zero => rfl
  | succ k => unfold lpc; rw [if_neg h]
/-- the whole text -/
def RES (S : Int → Int) : CQ := lpc S (S 5) 7 (clq S (S 5) ((0, 0, []), 0, 0))
theorem RES_gr {S : Int → Int} (hR : RI S) : PB (S 5) (RES S).1 ∧ (((RES S).1.2.2.length : Nat) : Int) ≤ (RES S).1.1 := by
  have ht := hR.tp
  have hb : PB (S 5) ((0, 0, []) : PQ) := ⟨⟨by decide, ht.1⟩, Or.inl rfl⟩
  have h1 := clq_gr (S := S) (z := ((0, 0, []), 0, 0)) hb
  have h2 := h1.trans (lpc_gr (S := S) 7 _ (h1.pb hb))
  refine ⟨h2.pb hb, ?_⟩
  have := h2.2.2
  simp only [List.length_nil] at this
  show (((lpc S (S 5) 7 (clq S (S 5) ((0, 0, []), 0, 0))).1.2.2.length : Nat) : Int) ≤ (lpc S (S 5) 7 (clq S (S 5) ((0, 0, []), 0, 0))).1.1
  omega
theorem RES_ub (S : Int → Int) : UB (RES S) := lpc_ub 7 _ (clq_ub ⟨⟨by decide, by decide⟩, by decide, by decide⟩)
def v_club (S : Int → Int) : Int := if S 1 = 5 then -4 else if (RES S).1.2.1 = 1 ∨ ¬ (RES S).1.1 = S 5 then -10 - (RES S).1.1 else S 1
def n_club (S : Int → Int) : Int → Int := if S 1 = 5 then S else if (RES S).1.2.1 = 1 ∨ ¬ (RES S).1.1 = S 5 then CLS S (S 1) (RES S).1.2.2 (RES S).2.1 (RES S).2.2 else gu (CLS S (S 1) (RES S).1.2.2 (RES S).2.1 (RES S).2.2) 1 (S 1 + 1)

set_option maxRecDepth 100000 in
set_option maxHeartbeats 4000000 in
theorem c_X12_clauseHere (l : Launch) (G : GT) (A : Nat → Nat) (I : Nat → Int → Int) (F : Nat → Int) (S0 : Int → Int) (ql : List Int) (u : Int) (wi : Int)  (hS : (I 1) = CLS S0 (F 4) ql u wi) (hR : RI S0) (ha : 0 ≤ (F 4) ∧ (F 4) < 5) (he : (0 ≤ (F 5) ∧ (F 5) ≤ (F 6)) ∧ (F 6) ≤ 120) (hw : (F 7) = 0 ∨ (F 7) = 1) (hl : (ql.length : Int) ≤ (F 5)) (ho : (F 8) = 0) (hub : (0 ≤ u ∧ u ≤ 99) ∧ 0 ≤ wi ∧ wi ≤ 2) : CT l yX12_clauseHere cX12_clauseHere 2 none 26 0 0 G [.ref (A 0)] (MW A G.2.1 I F) (fun vo wo => ∃ (b1 : Int → Int) (g5 : Int) (g7 : Int) (g8 : Int), vo = none ∧ wo = MW A G.2.1 (au I 1 b1) (fu (fu (fu F 5 g5) 7 g7) 8 g8) ∧ ((∃ z2 : CQ, z2 = clq S0 (F 6) (((F 5), (F 7), ql), u, wi) ∧ g5 = z2.1.1 ∧ g7 = z2.1.2.1 ∧ b1 = CLS S0 (F 4) z2.1.2.2 z2.2.1 z2.2.2) ∧ g8 = (F 8))) := by
  refine CT_of (own := RX12) rfl rfl (Nat.le_of_ble_eq_true rfl) (fun K hl hnL hC hRT hin => ?_)
  subst hl
  show WW K G 0 0 (MW A G.2.1 I F) 0 [(0, .ref (A 0))] []
  have hTP := CLS_tp (S := S0) (a := F 4) (l := ql) (u := u) (w := wi) ha.1
  rw [← hS] at hTP
  have hPB : PB (F 6) (F 5, F 7, ql) := ⟨he.1, hw⟩
  have h94 : stl 4 = 3 := rfl
  have hcu := CLS_gu (S := S0) (a := F 4) (l := ql) (u := u) (w := wi) ha
  rw [← hS] at hcu
  refine w_aload_n (pc := 0) hC dX12_clauseHere_0 0 rfl rfl ?_
  refine w_callV (pc := 1) (As := []) (rest := []) hC dX12_clauseHere_1 cv_X12_87 (c_X12_here (kl K) G A I F S0 (show TP (I 1) S0 from by first | assumption | omega) (show RI S0 from by first | assumption | omega) (show (0 ≤ (F 5) ∧ (F 5) ≤ (F 6)) ∧ (F 6) ≤ 120 from by first | assumption | omega)) (by decide) ⟨Nat.le_of_ble_eq_true rfl, Nat.le_of_ble_eq_true rfl⟩ (q0 := 0) rfl rfl rfl rfl (Nat.le_of_ble_eq_true rfl) rfl (fun vo wo hv => ?_)
  obtain ⟨hv1, hw1⟩ := hv
  rw [hv1, hw1]
  show WW K G 0 0 (MW A G.2.1 I F) 4 [(0, .ref (A 0))] [.int (J (hr S0 (F 6) (F 5)))]
  have q1_0 := hr_bd (e := (F 6)) (sp := (F 5)) (by assumption : RI S0) (by omega) (by omega)
  rcases (show (hr S0 (F 6) (F 5)) = 98 ∨ (hr S0 (F 6) (F 5)) = 115 ∨ (hr S0 (F 6) (F 5)) = 117 ∨ (hr S0 (F 6) (F 5)) = 119 ∨ (¬ (hr S0 (F 6) (F 5)) = 98 ∧ ¬ (hr S0 (F 6) (F 5)) = 115 ∧ ¬ (hr S0 (F 6) (F 5)) = 117 ∧ ¬ (hr S0 (F 6) (F 5)) = 119) by omega) with c4 | c4 | c4 | c4 | c4
  · refine w_lookup (pc := 4) (tgt := 203) hC dX12_clauseHere_4 (by omega) (by decide) (by rw [c4]; first | done | rfl) (by decide) ?_
    refine w_aload_n (pc := 203) hC dX12_clauseHere_203 0 rfl rfl ?_
    refine w_ldcS (pc := 204) (index := 144) (i := 12) (tx := "bold ") hC dX12_clauseHere_204 (List.mem_of_getElem? (i := 15) rfl) ?_
    refine w_callV (pc := 206) (As := [.ref (G.2.2.1 12)]) (rest := []) hC dX12_clauseHere_206 cv_X12_134 (c_X12_spells (kl K) G A I F 12 S0 ql (show 12 < nST from by decide) (show TP (I 1) S0 from by first | assumption | omega) (show RI S0 from by first | assumption | omega) (show (0 ≤ (F 5) ∧ (F 5) ≤ (F 6)) ∧ (F 6) ≤ 120 from by first | assumption | omega) (show (F 7) = 0 ∨ (F 7) = 1 from by first | assumption | omega)) (by decide) ⟨Nat.le_of_ble_eq_true rfl, Nat.le_of_ble_eq_true rfl⟩ (q0 := 0) rfl rfl rfl rfl (Nat.le_of_ble_eq_true rfl) rfl (fun vo wo hv => ?_)
    obtain ⟨g5_206, g7_206, hv1, hw1, r206⟩ := hv
    rw [hv1, hw1]
    show WW K G 0 0 (MW A G.2.1 I (fu (fu F 5 g5_206) 7 g7_206)) 209 [(0, .ref (A 0))] []
    have r206 : (g5_206, g7_206, ql) = spl S0 (F 6) 12 ((F 5), (F 7), ql) ∧ ((0 ≤ g5_206 ∧ g5_206 ≤ (F 6)) ∧ (g7_206 = 0 ∨ g7_206 = 1)) := r206
    have hsp := spl_gr (S := S0) (e := F 6) (i := 12) (q := (F 5, F 7, ql)) (by decide) hPB
    rw [← r206.1] at hsp
    have hpb206 := hsp.1.pb hPB
    have hx206 := hsp.1.2.2
    have hy206 := hsp.1.1
    dsimp only at hx206 hy206
    refine w_aload_n (pc := 209) hC dX12_clauseHere_209 0 rfl rfl ?_
    refine w_callV (pc := 210) (As := []) (rest := []) hC dX12_clauseHere_210 cv_X12_115 (c_X12_some (kl K) G 20 A I (fu (fu F 5 g5_206) 7 g7_206) S0 ql u wi (show (I 1) = CLS S0 (F 4) ql u wi from by exact hS) (show RI S0 from by first | assumption | omega) (show 0 ≤ (F 4) ∧ (F 4) < 5 from by first | assumption | omega) (show (0 ≤ g5_206 ∧ g5_206 ≤ (F 6)) ∧ (F 6) ≤ 120 from by first | assumption | omega) (show g7_206 = 0 ∨ g7_206 = 1 from by first | assumption | omega) (show (ql.length : Int) ≤ g5_206 from by first | assumption | omega) (show (0 ≤ (F 8) ∧ (F 8) ≤ 6) ∧ ((F 8) = 6 → g7_206 = 1) from by first | assumption | omega) (show (3 * (6 - (F 8)) + 2).toNat ≤ 20 from by rw [ho]; decide)) (by decide) ⟨Nat.le_of_ble_eq_true rfl, Nat.le_of_ble_eq_true rfl⟩ (q0 := 0) rfl rfl rfl rfl (Nat.le_of_ble_eq_true rfl) rfl (fun vo wo hv => ?_)
    obtain ⟨b1_210, g5_210, g7_210, g8_210, hv1, hw1, r210⟩ := hv
    rw [hv1, hw1]
    show WW K G 0 0 (MW A G.2.1 (au I 1 b1_210) (fu (fu (fu F 5 g5_210) 7 g7_210) 8 g8_210)) 213 [(0, .ref (A 0))] []
    have r210 : (∃ l2 : List Int, (g5_210, g7_210, l2) = (som S0 (F 6) (fac S0 (F 6) (5 - (F 8)).toNat)) (g5_206, g7_206, ql) ∧ b1_210 = CLS S0 (F 4) l2 u wi) ∧ g8_210 = (F 8) := r210
    obtain ⟨⟨l210, hq210, hS210⟩, ho210⟩ := r210
    have hg210 := som_gr (S := S0) (e := F 6) (f := fac S0 (F 6) (5 - (F 8)).toNat) (fac_gr (S := S0) (5 - (F 8)).toNat) hpb206
    rw [← hq210] at hg210
    have hz210 := hg210.2
    have hw210 := hg210.1
    dsimp only at hz210 hw210
    refine w_aload_n (pc := 213) hC dX12_clauseHere_213 0 rfl rfl ?_
    refine w_bipush (pc := 214) hC dX12_clauseHere_214 (z := (-5)) rfl ?_
    refine w_callV (pc := 216) (As := [.int (J (-5))]) (rest := []) hC dX12_clauseHere_216 cv_X12_112 (c_X12_emits (kl K) G A (au I 1 b1_210) (fu (fu (fu F 5 g5_210) 7 g7_210) 8 g8_210) S0 l210 u wi (-5) (show b1_210 = CLS S0 (F 4) l210 u wi from by exact hS210) (show 0 ≤ (F 4) ∧ (F 4) < 5 from by first | assumption | omega) (show g7_210 = 0 ∨ g7_210 = 1 from by first | assumption | omega) (show -2147483648 ≤ (-5) ∧ (-5) < 2147483648 from by first | assumption | omega) (show (l210.length : Int) < 140 from by first | assumption | omega)) (by decide) ⟨Nat.le_of_ble_eq_true rfl, Nat.le_of_ble_eq_true rfl⟩ (q0 := 0) rfl rfl rfl rfl (Nat.le_of_ble_eq_true rfl) rfl (fun vo wo hv => ?_)
    obtain ⟨b1_216, hv1, hw1, r216⟩ := hv
    rw [hv1, hw1]
    show WW K G 0 0 (MW A G.2.1 (au I 1 b1_216) (fu (fu (fu F 5 g5_210) 7 g7_210) 8 g8_210)) 219 [(0, .ref (A 0))] []
    have r216 : b1_216 = CLS S0 (F 4) (emt (-5) (g5_210, g7_210, l210)).2.2 u wi := r216
    refine w_goto (pc := 219) hC dX12_clauseHere_219 (tgt := 227) (by decide) ?_
    refine w_vret (pc := 227) hC hRT dX12_clauseHere_227 ?_
    refine ⟨b1_216, g5_210, g7_210, g8_210, rfl, rfl, ?_⟩
    · refine ⟨⟨_, rfl, ?_⟩, by omega⟩
      unfold clq
      dsimp only
      rw [if_neg (by omega), if_neg (by omega), if_neg (by omega), if_pos (by omega), ← r206.1]
      rw [ho, show ((5 : Int) - 0).toNat = 5 from rfl] at hq210
      rw [← hq210, ← emt_eta]
      exact ⟨rfl, rfl, r216⟩
  · refine w_lookup (pc := 4) (tgt := 184) hC dX12_clauseHere_4 (by omega) (by decide) (by rw [c4]; first | done | rfl) (by decide) ?_
    refine w_aload_n (pc := 184) hC dX12_clauseHere_184 0 rfl rfl ?_
    refine w_ldcS (pc := 185) (index := 142) (i := 11) (tx := "shy ") hC dX12_clauseHere_185 (List.mem_of_getElem? (i := 12) rfl) ?_
    refine w_callV (pc := 187) (As := [.ref (G.2.2.1 11)]) (rest := []) hC dX12_clauseHere_187 cv_X12_134 (c_X12_spells (kl K) G A I F 11 S0 ql (show 11 < nST from by decide) (show TP (I 1) S0 from by first | assumption | omega) (show RI S0 from by first | assumption | omega) (show (0 ≤ (F 5) ∧ (F 5) ≤ (F 6)) ∧ (F 6) ≤ 120 from by first | assumption | omega) (show (F 7) = 0 ∨ (F 7) = 1 from by first | assumption | omega)) (by decide) ⟨Nat.le_of_ble_eq_true rfl, Nat.le_of_ble_eq_true rfl⟩ (q0 := 0) rfl rfl rfl rfl (Nat.le_of_ble_eq_true rfl) rfl (fun vo wo hv => ?_)
    obtain ⟨g5_187, g7_187, hv1, hw1, r187⟩ := hv
    rw [hv1, hw1]
    show WW K G 0 0 (MW A G.2.1 I (fu (fu F 5 g5_187) 7 g7_187)) 190 [(0, .ref (A 0))] []
    have r187 : (g5_187, g7_187, ql) = spl S0 (F 6) 11 ((F 5), (F 7), ql) ∧ ((0 ≤ g5_187 ∧ g5_187 ≤ (F 6)) ∧ (g7_187 = 0 ∨ g7_187 = 1)) := r187
    have hsp := spl_gr (S := S0) (e := F 6) (i := 11) (q := (F 5, F 7, ql)) (by decide) hPB
    rw [← r187.1] at hsp
    have hpb187 := hsp.1.pb hPB
    have hx187 := hsp.1.2.2
    have hy187 := hsp.1.1
    dsimp only at hx187 hy187
    refine w_aload_n (pc := 190) hC dX12_clauseHere_190 0 rfl rfl ?_
    refine w_callV (pc := 191) (As := []) (rest := []) hC dX12_clauseHere_191 cv_X12_115 (c_X12_some (kl K) G 20 A I (fu (fu F 5 g5_187) 7 g7_187) S0 ql u wi (show (I 1) = CLS S0 (F 4) ql u wi from by exact hS) (show RI S0 from by first | assumption | omega) (show 0 ≤ (F 4) ∧ (F 4) < 5 from by first | assumption | omega) (show (0 ≤ g5_187 ∧ g5_187 ≤ (F 6)) ∧ (F 6) ≤ 120 from by first | assumption | omega) (show g7_187 = 0 ∨ g7_187 = 1 from by first | assumption | omega) (show (ql.length : Int) ≤ g5_187 from by first | assumption | omega) (show (0 ≤ (F 8) ∧ (F 8) ≤ 6) ∧ ((F 8) = 6 → g7_187 = 1) from by first | assumption | omega) (show (3 * (6 - (F 8)) + 2).toNat ≤ 20 from by rw [ho]; decide)) (by decide) ⟨Nat.le_of_ble_eq_true rfl, Nat.le_of_ble_eq_true rfl⟩ (q0 := 0) rfl rfl rfl rfl (Nat.le_of_ble_eq_true rfl) rfl (fun vo wo hv => ?_)
    obtain ⟨b1_191, g5_191, g7_191, g8_191, hv1, hw1, r191⟩ := hv
    rw [hv1, hw1]
    show WW K G 0 0 (MW A G.2.1 (au I 1 b1_191) (fu (fu (fu F 5 g5_191) 7 g7_191) 8 g8_191)) 194 [(0, .ref (A 0))] []
    have r191 : (∃ l2 : List Int, (g5_191, g7_191, l2) = (som S0 (F 6) (fac S0 (F 6) (5 - (F 8)).toNat)) (g5_187, g7_187, ql) ∧ b1_191 = CLS S0 (F 4) l2 u wi) ∧ g8_191 = (F 8) := r191
    obtain ⟨⟨l191, hq191, hS191⟩, ho191⟩ := r191
    have hg191 := som_gr (S := S0) (e := F 6) (f := fac S0 (F 6) (5 - (F 8)).toNat) (fac_gr (S := S0) (5 - (F 8)).toNat) hpb187
    rw [← hq191] at hg191
    have hz191 := hg191.2
    have hw191 := hg191.1
    dsimp only at hz191 hw191
    refine w_aload_n (pc := 194) hC dX12_clauseHere_194 0 rfl rfl ?_
    refine w_bipush (pc := 195) hC dX12_clauseHere_195 (z := (-4)) rfl ?_
    refine w_callV (pc := 197) (As := [.int (J (-4))]) (rest := []) hC dX12_clauseHere_197 cv_X12_112 (c_X12_emits (kl K) G A (au I 1 b1_191) (fu (fu (fu F 5 g5_191) 7 g7_191) 8 g8_191) S0 l191 u wi (-4) (show b1_191 = CLS S0 (F 4) l191 u wi from by exact hS191) (show 0 ≤ (F 4) ∧ (F 4) < 5 from by first | assumption | omega) (show g7_191 = 0 ∨ g7_191 = 1 from by first | assumption | omega) (show -2147483648 ≤ (-4) ∧ (-4) < 2147483648 from by first | assumption | omega) (show (l191.length : Int) < 140 from by first | assumption | omega)) (by decide) ⟨Nat.le_of_ble_eq_true rfl, Nat.le_of_ble_eq_true rfl⟩ (q0 := 0) rfl rfl rfl rfl (Nat.le_of_ble_eq_true rfl) rfl (fun vo wo hv => ?_)
    obtain ⟨b1_197, hv1, hw1, r197⟩ := hv
    rw [hv1, hw1]
    show WW K G 0 0 (MW A G.2.1 (au I 1 b1_197) (fu (fu (fu F 5 g5_191) 7 g7_191) 8 g8_191)) 200 [(0, .ref (A 0))] []
    have r197 : b1_197 = CLS S0 (F 4) (emt (-4) (g5_191, g7_191, l191)).2.2 u wi := r197
    refine w_goto (pc := 200) hC dX12_clauseHere_200 (tgt := 227) (by decide) ?_
    refine w_vret (pc := 227) hC hRT dX12_clauseHere_227 ?_
    refine ⟨b1_197, g5_191, g7_191, g8_191, rfl, rfl, ?_⟩
    · refine ⟨⟨_, rfl, ?_⟩, by omega⟩
      unfold clq
      dsimp only
      rw [if_neg (by omega), if_neg (by omega), if_pos (by omega), ← r187.1]
      rw [ho, show ((5 : Int) - 0).toNat = 5 from rfl] at hq191
      rw [← hq191, ← emt_eta]
      exact ⟨rfl, rfl, r197⟩
  · refine w_lookup (pc := 4) (tgt := 48) hC dX12_clauseHere_4 (by omega) (by decide) (by rw [c4]; first | done | rfl) (by decide) ?_
    refine w_aload_n (pc := 48) hC dX12_clauseHere_48 0 rfl rfl ?_
    refine w_ldcS (pc := 49) (index := 132) (i := 9) (tx := "up ") hC dX12_clauseHere_49 (List.mem_of_getElem? (i := 9) rfl) ?_
    refine w_callV (pc := 51) (As := [.ref (G.2.2.1 9)]) (rest := []) hC dX12_clauseHere_51 cv_X12_134 (c_X12_spells (kl K) G A I F 9 S0 ql (show 9 < nST from by decide) (show TP (I 1) S0 from by first | assumption | omega) (show RI S0 from by first | assumption | omega) (show (0 ≤ (F 5) ∧ (F 5) ≤ (F 6)) ∧ (F 6) ≤ 120 from by first | assumption | omega) (show (F 7) = 0 ∨ (F 7) = 1 from by first | assumption | omega)) (by decide) ⟨Nat.le_of_ble_eq_true rfl, Nat.le_of_ble_eq_true rfl⟩ (q0 := 0) rfl rfl rfl rfl (Nat.le_of_ble_eq_true rfl) rfl (fun vo wo hv => ?_)
    obtain ⟨g5_51, g7_51, hv1, hw1, r51⟩ := hv
    rw [hv1, hw1]
    show WW K G 0 0 (MW A G.2.1 I (fu (fu F 5 g5_51) 7 g7_51)) 54 [(0, .ref (A 0))] []
    have r51 : (g5_51, g7_51, ql) = spl S0 (F 6) 9 ((F 5), (F 7), ql) ∧ ((0 ≤ g5_51 ∧ g5_51 ≤ (F 6)) ∧ (g7_51 = 0 ∨ g7_51 = 1)) := r51
    have hsp := spl_gr (S := S0) (e := F 6) (i := 9) (q := (F 5, F 7, ql)) (by decide) hPB
    rw [← r51.1] at hsp
    have hpb51 := hsp.1.pb hPB
    have hx51 := hsp.1.2.2
    have hy51 := hsp.1.1
    dsimp only at hx51 hy51
    refine w_aload_n (pc := 54) hC dX12_clauseHere_54 0 rfl rfl ?_
    refine w_callV (pc := 55) (As := []) (rest := []) hC dX12_clauseHere_55 cv_X12_126 (c_X12_figures (kl K) G A I (fu (fu F 5 g5_51) 7 g7_51) S0 ql (show TP (I 1) S0 from by first | assumption | omega) (show RI S0 from by first | assumption | omega) (show (0 ≤ g5_51 ∧ g5_51 ≤ (F 6)) ∧ (F 6) ≤ 120 from by first | assumption | omega) (show g7_51 = 0 ∨ g7_51 = 1 from by first | assumption | omega)) (by decide) ⟨Nat.le_of_ble_eq_true rfl, Nat.le_of_ble_eq_true rfl⟩ (q0 := 0) rfl rfl rfl rfl (Nat.le_of_ble_eq_true rfl) rfl (fun vo wo hv => ?_)
    obtain ⟨g5_55, g7_55, hv1, hw1, r55⟩ := hv
    rw [hv1, hw1]
    show WW K G 0 0 (MW A G.2.1 I (fu (fu F 5 g5_55) 7 g7_55)) 58 [(0, .ref (A 0))] [.int (J ((figQ S0 (F 6) (g5_51, g7_51, ql)).1))]
    have r55 : (g5_55, g7_55, ql) = (figQ S0 (F 6) (g5_51, g7_51, ql)).2 ∧ ((0 ≤ g5_55 ∧ g5_55 ≤ (F 6)) ∧ (g7_55 = 0 ∨ g7_55 = 1)) := r55
    have q55_0 := figQ_v (S := S0) (e := (F 6)) (q := (g5_51, g7_51, ql))
    have hfv := figQ_v (S := S0) (e := F 6) (q := (g5_51, g7_51, ql))
    refine w_istore_n (pc := 58) hC dX12_clauseHere_58 rfl (lv2 := [(1, .int (J ((figQ S0 (F 6) (g5_51, g7_51, ql)).1))), (0, .ref (A 0))]) (by rw [hnL]; decide) rfl ?_
    refine w_aload_n (pc := 59) hC dX12_clauseHere_59 1 rfl rfl ?_
    refine w_getf (pc := 60) (v := .ref (A 1)) hC dX12_clauseHere_60 fi_X12_9 0 rfl rfl ?_
    refine w_sipush (pc := 63) hC dX12_clauseHere_63 (z := 178) rfl ?_
    refine w_aload_n (pc := 66) hC dX12_clauseHere_66 1 rfl rfl ?_
    refine w_getf (pc := 67) (v := .int (J (F 4))) hC dX12_clauseHere_67 fi_X12_103 0 rfl rfl ?_
    refine w_iadd (pc := 70) hC dX12_clauseHere_70 ?_
    refine w_aload_n (pc := 71) hC dX12_clauseHere_71 1 rfl rfl ?_
    refine w_getf (pc := 72) (v := .int (J g7_55)) hC dX12_clauseHere_72 fi_X12_83 0 rfl rfl ?_
    refine w_if_eq (pc := 75) (tgt := 94) hC dX12_clauseHere_75 (by decide) (by omega) (fun c75 => ?_) (fun c75 => ?_)
    · refine w_iload_n (pc := 94) hC dX12_clauseHere_94 0 rfl rfl ?_
      refine w_iast (pc := 95) (g := (I 1)) (w2 := MW A G.2.1 (au I 1 (gu (I 1) (178 + (F 4)) ((figQ S0 (F 6) (g5_51, g7_51, ql)).1))) (fu (fu F 5 g5_55) 7 g7_55)) hC dX12_clauseHere_95 1 rfl (by omega) (Nat.le_of_ble_eq_true rfl) rfl ?_
      generalize h95 : gu (I 1) (178 + (F 4)) ((figQ S0 (F 6) (g5_51, g7_51, ql)).1) = s95
      refine w_goto (pc := 96) hC dX12_clauseHere_96 (tgt := 227) (by decide) ?_
      refine w_vret (pc := 227) hC hRT dX12_clauseHere_227 ?_
      refine ⟨s95, g5_55, g7_55, (F 8), rfl, rfl, ?_⟩
      · refine ⟨⟨_, rfl, ?_⟩, rfl⟩
        unfold clq
        dsimp only
        rw [if_pos (by omega), ← r51.1, ← r55.1]
        dsimp only
        subst h95
        rw [if_neg (by omega)]
        exact ⟨rfl, rfl, by rw [hS]; exact CLS_u ha⟩
    · refine w_aload_n (pc := 78) hC dX12_clauseHere_78 1 rfl rfl ?_
      refine w_getf (pc := 79) (v := .ref (A 1)) hC dX12_clauseHere_79 fi_X12_9 0 rfl rfl ?_
      refine w_sipush (pc := 82) hC dX12_clauseHere_82 (z := 178) rfl ?_
      refine w_aload_n (pc := 85) hC dX12_clauseHere_85 1 rfl rfl ?_
      refine w_getf (pc := 86) (v := .int (J (F 4))) hC dX12_clauseHere_86 fi_X12_103 0 rfl rfl ?_
      refine w_iadd (pc := 89) hC dX12_clauseHere_89 ?_
      refine w_iald (pc := 90) (g := (I 1)) hC dX12_clauseHere_90 1 rfl (by omega) (Nat.le_of_ble_eq_true rfl) ?_
      refine w_goto (pc := 91) hC dX12_clauseHere_91 (tgt := 95) (by decide) ?_
      refine w_iast (pc := 95) (g := (I 1)) (w2 := MW A G.2.1 (au I 1 (gu (I 1) (178 + (F 4)) ((I 1) (178 + (F 4))))) (fu (fu F 5 g5_55) 7 g7_55)) hC dX12_clauseHere_95 1 rfl (by omega) (Nat.le_of_ble_eq_true rfl) rfl ?_
      generalize h95 : gu (I 1) (178 + (F 4)) ((I 1) (178 + (F 4))) = s95
      refine w_goto (pc := 96) hC dX12_clauseHere_96 (tgt := 227) (by decide) ?_
      refine w_vret (pc := 227) hC hRT dX12_clauseHere_227 ?_
      refine ⟨s95, g5_55, g7_55, (F 8), rfl, rfl, ?_⟩
      · refine ⟨⟨_, rfl, ?_⟩, rfl⟩
        unfold clq
        dsimp only
        rw [if_pos (by omega), ← r51.1, ← r55.1]
        dsimp only
        subst h95
        rw [if_pos (by omega), hcu.1]
        exact ⟨rfl, rfl, by rw [hS]; exact CLS_u ha⟩
  · refine w_lookup (pc := 4) (tgt := 99) hC dX12_clauseHere_4 (by omega) (by decide) (by rw [c4]; first | done | rfl) (by decide) ?_
    refine w_aload_n (pc := 99) hC dX12_clauseHere_99 0 rfl rfl ?_
    refine w_ldcS (pc := 100) (index := 138) (i := 10) (tx := "wins ") hC dX12_clauseHere_100 (List.mem_of_getElem? (i := 10) rfl) ?_
    refine w_callV (pc := 102) (As := [.ref (G.2.2.1 10)]) (rest := []) hC dX12_clauseHere_102 cv_X12_134 (c_X12_spells (kl K) G A I F 10 S0 ql (show 10 < nST from by decide) (show TP (I 1) S0 from by first | assumption | omega) (show RI S0 from by first | assumption | omega) (show (0 ≤ (F 5) ∧ (F 5) ≤ (F 6)) ∧ (F 6) ≤ 120 from by first | assumption | omega) (show (F 7) = 0 ∨ (F 7) = 1 from by first | assumption | omega)) (by decide) ⟨Nat.le_of_ble_eq_true rfl, Nat.le_of_ble_eq_true rfl⟩ (q0 := 0) rfl rfl rfl rfl (Nat.le_of_ble_eq_true rfl) rfl (fun vo wo hv => ?_)
    obtain ⟨g5_102, g7_102, hv1, hw1, r102⟩ := hv
    rw [hv1, hw1]
    show WW K G 0 0 (MW A G.2.1 I (fu (fu F 5 g5_102) 7 g7_102)) 105 [(0, .ref (A 0))] []
    have r102 : (g5_102, g7_102, ql) = spl S0 (F 6) 10 ((F 5), (F 7), ql) ∧ ((0 ≤ g5_102 ∧ g5_102 ≤ (F 6)) ∧ (g7_102 = 0 ∨ g7_102 = 1)) := r102
    have hsp := spl_gr (S := S0) (e := F 6) (i := 10) (q := (F 5, F 7, ql)) (by decide) hPB
    rw [← r102.1] at hsp
    have hpb102 := hsp.1.pb hPB
    have hx102 := hsp.1.2.2
    have hy102 := hsp.1.1
    dsimp only at hx102 hy102
    refine w_aload_n (pc := 105) hC dX12_clauseHere_105 0 rfl rfl ?_
    refine w_getf (pc := 106) (v := .int (J g7_102)) hC dX12_clauseHere_106 fi_X12_83 0 rfl rfl ?_
    refine w_if_eq (pc := 109) (tgt := 116) hC dX12_clauseHere_109 (by decide) (by omega) (fun c109 => ?_) (fun c109 => ?_)
    · refine w_aload_n (pc := 116) hC dX12_clauseHere_116 0 rfl rfl ?_
      refine w_ldcS (pc := 117) (index := 140) (i := 4) (tx := "tco") hC dX12_clauseHere_117 (List.mem_of_getElem? (i := 11) rfl) ?_
      refine w_callV (pc := 119) (As := [.ref (G.2.2.1 4)]) (rest := []) hC dX12_clauseHere_119 cv_X12_120 (c_X12_among (kl K) G A I (fu (fu F 5 g5_102) 7 g7_102) 4 S0 (show 4 < nST from by decide) (show TP (I 1) S0 from by first | assumption | omega) (show RI S0 from by first | assumption | omega) (show (0 ≤ g5_102 ∧ g5_102 ≤ (F 6)) ∧ (F 6) ≤ 120 from by first | assumption | omega)) (by decide) ⟨Nat.le_of_ble_eq_true rfl, Nat.le_of_ble_eq_true rfl⟩ (q0 := 0) rfl rfl rfl rfl (Nat.le_of_ble_eq_true rfl) rfl (fun vo wo hv => ?_)
      obtain ⟨g5_119, hv1, hw1, r119⟩ := hv
      rw [hv1, hw1]
      show WW K G 0 0 (MW A G.2.1 I (fu (fu F 5 g5_119) 7 g7_102)) 122 [(0, .ref (A 0))] [.int (J (SX 4 (hr S0 (F 6) g5_102)))]
      have r119 : g5_119 = (if SX 4 (hr S0 (F 6) g5_102) = -1 then g5_102 else g5_102 + 1) ∧ (g5_102 ≤ g5_119 ∧ g5_119 ≤ (F 6)) := r119
      have q119_0 := SX_bd (hr S0 (F 6) g5_102) (by first | assumption | decide : 4 < nST)
      obtain ⟨t1, t2⟩ := r119
      have hs4 := q119_0
      refine w_istore_n (pc := 122) hC dX12_clauseHere_122 rfl (lv2 := [(1, .int (J (SX 4 (hr S0 (F 6) g5_102)))), (0, .ref (A 0))]) (by rw [hnL]; decide) rfl ?_
      refine w_aload_n (pc := 123) hC dX12_clauseHere_123 1 rfl rfl ?_
      refine w_aload_n (pc := 124) hC dX12_clauseHere_124 1 rfl rfl ?_
      refine w_getf (pc := 125) (v := .int (J g7_102)) hC dX12_clauseHere_125 fi_X12_83 0 rfl rfl ?_
      refine w_if_ne (pc := 128) (tgt := 136) hC dX12_clauseHere_128 (by decide) (by omega) (fun c128 => ?_) (fun c128 => ?_)
      · exfalso; omega
      · refine w_iload_n (pc := 131) hC dX12_clauseHere_131 0 rfl rfl ?_
        refine w_iconst (pc := 132) hC dX12_clauseHere_132 ?_
        refine w_icmp_ne (pc := 133) (tgt := 140) hC dX12_clauseHere_133 (by decide) (by omega) (fun c133 => ?_) (fun c133 => ?_)
        · refine w_iconst (pc := 140) hC dX12_clauseHere_140 ?_
          refine w_putf (pc := 141) (w2 := MW A G.2.1 I (fu (fu F 5 g5_119) 7 0)) hC dX12_clauseHere_141 fi_X12_83 fp_X12_7 rfl 0 rfl (rfl) (rfl) (Nat.le_of_ble_eq_true rfl) rfl ?_
          refine w_aload_n (pc := 144) hC dX12_clauseHere_144 1 rfl rfl ?_
          refine w_getf (pc := 145) (v := .ref (A 1)) hC dX12_clauseHere_145 fi_X12_9 0 rfl rfl ?_
          refine w_sipush (pc := 148) hC dX12_clauseHere_148 (z := 183) rfl ?_
          refine w_aload_n (pc := 151) hC dX12_clauseHere_151 1 rfl rfl ?_
          refine w_getf (pc := 152) (v := .int (J (F 4))) hC dX12_clauseHere_152 fi_X12_103 0 rfl rfl ?_
          refine w_iadd (pc := 155) hC dX12_clauseHere_155 ?_
          refine w_aload_n (pc := 156) hC dX12_clauseHere_156 1 rfl rfl ?_
          refine w_getf (pc := 157) (v := .int (J 0)) hC dX12_clauseHere_157 fi_X12_83 0 rfl rfl ?_
          refine w_if_eq (pc := 160) (tgt := 179) hC dX12_clauseHere_160 (by decide) (by omega) (fun c160 => ?_) (fun c160 => ?_)
          · refine w_iload_n (pc := 179) hC dX12_clauseHere_179 0 rfl rfl ?_
            refine w_iast (pc := 180) (g := (I 1)) (w2 := MW A G.2.1 (au I 1 (gu (I 1) (183 + (F 4)) (SX 4 (hr S0 (F 6) g5_102)))) (fu (fu F 5 g5_119) 7 0)) hC dX12_clauseHere_180 1 rfl (by omega) (Nat.le_of_ble_eq_true rfl) rfl ?_
            generalize h180 : gu (I 1) (183 + (F 4)) (SX 4 (hr S0 (F 6) g5_102)) = s180
            refine w_goto (pc := 181) hC dX12_clauseHere_181 (tgt := 227) (by decide) ?_
            refine w_vret (pc := 227) hC hRT dX12_clauseHere_227 ?_
            refine ⟨s180, g5_119, 0, (F 8), rfl, rfl, ?_⟩
            · refine ⟨⟨_, rfl, ?_⟩, rfl⟩
              unfold clq
              dsimp only
              rw [if_neg (by omega), if_pos (by omega), ← r102.1]
              dsimp only
              subst h180
              rw [if_neg (by omega), if_neg c133]
              rw [if_neg c133] at t1
              exact ⟨t1, rfl, by rw [hS]; exact CLS_w ha⟩
          · exact absurd c160 (by decide)
        · refine w_iconst (pc := 136) hC dX12_clauseHere_136 ?_
          refine w_goto (pc := 137) hC dX12_clauseHere_137 (tgt := 141) (by decide) ?_
          refine w_putf (pc := 141) (w2 := MW A G.2.1 I (fu (fu F 5 g5_119) 7 1)) hC dX12_clauseHere_141 fi_X12_83 fp_X12_7 rfl 0 rfl (rfl) (rfl) (Nat.le_of_ble_eq_true rfl) rfl ?_
          refine w_aload_n (pc := 144) hC dX12_clauseHere_144 1 rfl rfl ?_
          refine w_getf (pc := 145) (v := .ref (A 1)) hC dX12_clauseHere_145 fi_X12_9 0 rfl rfl ?_
          refine w_sipush (pc := 148) hC dX12_clauseHere_148 (z := 183) rfl ?_
          refine w_aload_n (pc := 151) hC dX12_clauseHere_151 1 rfl rfl ?_
          refine w_getf (pc := 152) (v := .int (J (F 4))) hC dX12_clauseHere_152 fi_X12_103 0 rfl rfl ?_
          refine w_iadd (pc := 155) hC dX12_clauseHere_155 ?_
          refine w_aload_n (pc := 156) hC dX12_clauseHere_156 1 rfl rfl ?_
          refine w_getf (pc := 157) (v := .int (J 1)) hC dX12_clauseHere_157 fi_X12_83 0 rfl rfl ?_
          refine w_if_eq (pc := 160) (tgt := 179) hC dX12_clauseHere_160 (by decide) (by omega) (fun c160 => ?_) (fun c160 => ?_)
          · exact absurd c160 (by decide)
          · refine w_aload_n (pc := 163) hC dX12_clauseHere_163 1 rfl rfl ?_
            refine w_getf (pc := 164) (v := .ref (A 1)) hC dX12_clauseHere_164 fi_X12_9 0 rfl rfl ?_
            refine w_sipush (pc := 167) hC dX12_clauseHere_167 (z := 183) rfl ?_
            refine w_aload_n (pc := 170) hC dX12_clauseHere_170 1 rfl rfl ?_
            refine w_getf (pc := 171) (v := .int (J (F 4))) hC dX12_clauseHere_171 fi_X12_103 0 rfl rfl ?_
            refine w_iadd (pc := 174) hC dX12_clauseHere_174 ?_
            refine w_iald (pc := 175) (g := (I 1)) hC dX12_clauseHere_175 1 rfl (by omega) (Nat.le_of_ble_eq_true rfl) ?_
            refine w_goto (pc := 176) hC dX12_clauseHere_176 (tgt := 180) (by decide) ?_
            refine w_iast (pc := 180) (g := (I 1)) (w2 := MW A G.2.1 (au I 1 (gu (I 1) (183 + (F 4)) ((I 1) (183 + (F 4))))) (fu (fu F 5 g5_119) 7 1)) hC dX12_clauseHere_180 1 rfl (by omega) (Nat.le_of_ble_eq_true rfl) rfl ?_
            generalize h180 : gu (I 1) (183 + (F 4)) ((I 1) (183 + (F 4))) = s180
            refine w_goto (pc := 181) hC dX12_clauseHere_181 (tgt := 227) (by decide) ?_
            refine w_vret (pc := 227) hC hRT dX12_clauseHere_227 ?_
            refine ⟨s180, g5_119, 1, (F 8), rfl, rfl, ?_⟩
            · refine ⟨⟨_, rfl, ?_⟩, rfl⟩
              unfold clq
              dsimp only
              rw [if_neg (by omega), if_pos (by omega), ← r102.1]
              dsimp only
              subst h180
              rw [if_neg (by omega), if_pos c133, hcu.2]
              rw [if_pos c133] at t1
              exact ⟨t1, rfl, by rw [hS]; exact CLS_w ha⟩
    · refine w_iconst (pc := 112) hC dX12_clauseHere_112 ?_
      refine w_goto (pc := 113) hC dX12_clauseHere_113 (tgt := 122) (by decide) ?_
      refine w_istore_n (pc := 122) hC dX12_clauseHere_122 rfl (lv2 := [(1, .int (J (-1))), (0, .ref (A 0))]) (by rw [hnL]; decide) rfl ?_
      refine w_aload_n (pc := 123) hC dX12_clauseHere_123 1 rfl rfl ?_
      refine w_aload_n (pc := 124) hC dX12_clauseHere_124 1 rfl rfl ?_
      refine w_getf (pc := 125) (v := .int (J g7_102)) hC dX12_clauseHere_125 fi_X12_83 0 rfl rfl ?_
      refine w_if_ne (pc := 128) (tgt := 136) hC dX12_clauseHere_128 (by decide) (by omega) (fun c128 => ?_) (fun c128 => ?_)
      · refine w_iconst (pc := 136) hC dX12_clauseHere_136 ?_
        refine w_goto (pc := 137) hC dX12_clauseHere_137 (tgt := 141) (by decide) ?_
        refine w_putf (pc := 141) (w2 := MW A G.2.1 I (fu (fu F 5 g5_102) 7 1)) hC dX12_clauseHere_141 fi_X12_83 fp_X12_7 rfl 0 rfl (rfl) (rfl) (Nat.le_of_ble_eq_true rfl) rfl ?_
        refine w_aload_n (pc := 144) hC dX12_clauseHere_144 1 rfl rfl ?_
        refine w_getf (pc := 145) (v := .ref (A 1)) hC dX12_clauseHere_145 fi_X12_9 0 rfl rfl ?_
        refine w_sipush (pc := 148) hC dX12_clauseHere_148 (z := 183) rfl ?_
        refine w_aload_n (pc := 151) hC dX12_clauseHere_151 1 rfl rfl ?_
        refine w_getf (pc := 152) (v := .int (J (F 4))) hC dX12_clauseHere_152 fi_X12_103 0 rfl rfl ?_
        refine w_iadd (pc := 155) hC dX12_clauseHere_155 ?_
        refine w_aload_n (pc := 156) hC dX12_clauseHere_156 1 rfl rfl ?_
        refine w_getf (pc := 157) (v := .int (J 1)) hC dX12_clauseHere_157 fi_X12_83 0 rfl rfl ?_
        refine w_if_eq (pc := 160) (tgt := 179) hC dX12_clauseHere_160 (by decide) (by omega) (fun c160 => ?_) (fun c160 => ?_)
        · exact absurd c160 (by decide)
        · refine w_aload_n (pc := 163) hC dX12_clauseHere_163 1 rfl rfl ?_
          refine w_getf (pc := 164) (v := .ref (A 1)) hC dX12_clauseHere_164 fi_X12_9 0 rfl rfl ?_
          refine w_sipush (pc := 167) hC dX12_clauseHere_167 (z := 183) rfl ?_
          refine w_aload_n (pc := 170) hC dX12_clauseHere_170 1 rfl rfl ?_
          refine w_getf (pc := 171) (v := .int (J (F 4))) hC dX12_clauseHere_171 fi_X12_103 0 rfl rfl ?_
          refine w_iadd (pc := 174) hC dX12_clauseHere_174 ?_
          refine w_iald (pc := 175) (g := (I 1)) hC dX12_clauseHere_175 1 rfl (by omega) (Nat.le_of_ble_eq_true rfl) ?_
          refine w_goto (pc := 176) hC dX12_clauseHere_176 (tgt := 180) (by decide) ?_
          refine w_iast (pc := 180) (g := (I 1)) (w2 := MW A G.2.1 (au I 1 (gu (I 1) (183 + (F 4)) ((I 1) (183 + (F 4))))) (fu (fu F 5 g5_102) 7 1)) hC dX12_clauseHere_180 1 rfl (by omega) (Nat.le_of_ble_eq_true rfl) rfl ?_
          generalize h180 : gu (I 1) (183 + (F 4)) ((I 1) (183 + (F 4))) = s180
          refine w_goto (pc := 181) hC dX12_clauseHere_181 (tgt := 227) (by decide) ?_
          refine w_vret (pc := 227) hC hRT dX12_clauseHere_227 ?_
          refine ⟨s180, g5_102, 1, (F 8), rfl, rfl, ?_⟩
          · refine ⟨⟨_, rfl, ?_⟩, rfl⟩
            unfold clq
            dsimp only
            rw [if_neg (by omega), if_pos (by omega), ← r102.1]
            dsimp only
            subst h180
            rw [if_pos (by omega), hcu.2]
            exact ⟨rfl, by show (1 : Int) = g7_102; have hq := hpb102.2; dsimp only at hq; omega, by rw [hS]; exact CLS_w ha⟩
      · exfalso; omega
  · refine w_lookup (pc := 4) (tgt := 222) (off := 218) hC dX12_clauseHere_4 (by omega) (by decide) (by simp [Op.lookupswitch.offset, Ne.symm c4.1, Ne.symm c4.2.1, Ne.symm c4.2.2.1, Ne.symm c4.2.2.2]) (by decide) ?_
    refine w_aload_n (pc := 222) hC dX12_clauseHere_222 0 rfl rfl ?_
    refine w_iconst (pc := 223) hC dX12_clauseHere_223 ?_
    refine w_putf (pc := 224) (w2 := MW A G.2.1 I (fu F 7 1)) hC dX12_clauseHere_224 fi_X12_83 fp_X12_7 rfl 0 rfl (rfl) (rfl) (Nat.le_of_ble_eq_true rfl) rfl ?_
    refine w_vret (pc := 227) hC hRT dX12_clauseHere_227 ?_
    refine ⟨(I 1), (F 5), 1, (F 8), rfl, rfl, ?_⟩
    · refine ⟨⟨_, rfl, ?_⟩, rfl⟩
      unfold clq
      dsimp only
      rw [if_neg (by omega), if_neg (by omega), if_neg (by omega), if_neg (by omega)]
      exact ⟨rfl, rfl, hS⟩
