/-! ===== a club that is read is in order ===== -/
def CO (l : List Int) : Prop := WL l ∧ DL l = 0
theorem WL_nil : WL [] := fun i h => absurd h (Nat.not_lt_zero i)
theorem CO_nil : CO [] := ⟨WL_nil, rfl⟩
theorem spN_l {S : Int → Int} {e : Int} {i : Nat} {q : PQ} : ∀ k : Nat, (spN S e i k q).2.2 = q.2.2
  | 0 => rfl
  | k + 1 => by
    show (mst S e _ (spN S e i k q)).2.2 = _
    rw [mst_l, spN_l k]
theorem spl_l {S : Int → Int} {e : Int} {i : Nat} {q : PQ} : (spl S e i q).2.2 = q.2.2 := spN_l _
theorem shy_ok {S : Int → Int} {e s : Int} {i : Nat} {q : PQ} (hi : i < nST) (hs : s = -4 ∨ s = -5) (h : PB e q) (hc : CO q.2.2) (h0 : (emt s (som S e (fac S e 5) (spl S e i q))).2.1 = 0) : CO (emt s (som S e (fac S e 5) (spl S e i q))).2.2 := by
  obtain ⟨g1, g2⟩ := emt_0 h0
  have hsp := (spl_gr (S := S) hi h).1
  have c0 : (spl S e i q).2.1 = 0 := by
    rcases hsp.2.1 with z | z
    · exact z
    · rw [som_w (fun q h => fac_w _ h) z] at g1; omega
  have hok := som_ok (S := S) (e := e) (b := 1) (f := fac S e 5) (fac_ok 5) (fac_gr (S := S) 5) _ (hsp.pb h) c0 (by rw [spl_l]; exact hc.1) (by rw [spl_l, hc.2]; decide) (by rw [spl_l, hc.2]; decide) g1
  rw [spl_l, hc.2] at hok
  rw [g2]
  refine ⟨WL_app hok.1 ⟨by omega, fun _ => by omega, fun _ => by omega, fun _ => by omega, fun _ => by omega⟩, ?_⟩
  rw [DL_app, if_neg (by omega), if_neg (by omega), if_neg (by omega)]
theorem clq_ok {S : Int → Int} {e : Int} {z : CQ} (h : PB e z.1) (hc : CO z.1.2.2) (h0 : (clq S e z).1.2.1 = 0) : CO (clq S e z).1.2.2 := by
  unfold clq at h0 ⊢
  split at h0
  · rename_i c
    rw [if_pos c]
    dsimp only
    rw [figQ_l, spl_l]; exact hc
  · rename_i c
    rw [if_neg c]
    split at h0
    · rename_i c1
      rw [if_pos c1]
      split
      · dsimp only; rw [spl_l]; exact hc
      · split
        · dsimp only; rw [spl_l]; exact hc
        · dsimp only; rw [spl_l]; exact hc
    · rename_i c1
      rw [if_neg c1]
      split at h0
      · rename_i c2
        rw [if_pos c2]
        exact shy_ok (by decide) (Or.inl rfl) h hc h0
      · rename_i c2
        rw [if_neg c2]
        split at h0
        · rename_i c3
          rw [if_pos c3]
          exact shy_ok (by decide) (Or.inr rfl) h hc h0
        · exact absurd h0 (by show ¬ (1 : Int) = 0; decide)
theorem lpc_ok {S : Int → Int} {e : Int} : ∀ (k : Nat) (z : CQ), PB e z.1 → (z.1.2.1 = 0 → CO z.1.2.2) → (lpc S e k z).1.2.1 = 0 → CO (lpc S e k z).1.2.2
  | 0, z, _, hc, h0 => hc h0
  | k + 1, z, h, hc, h0 => by
    unfold lpc at h0 ⊢
    split at h0
    · rename_i g
      rw [if_pos g]
      have := hr_at g.2 (by decide)
      have h1 := h.1
      have hb : PB e ((z.1.1 + 1, z.1.2.1, z.1.2.2), z.2).1 := ⟨⟨by dsimp only; omega, by dsimp only; omega⟩, h.2⟩
      exact lpc_ok k _ ((clq_gr (S := S) hb).pb hb) (fun z0 => clq_ok hb (hc g.1) z0) h0
    · rename_i g
      rw [if_neg g]
      exact hc h0
theorem RES_ok {S : Int → Int} (hR : RI S) (h0 : (RES S).1.2.1 = 0) : CO (RES S).1.2.2 := by
  have ht := hR.tp
  have hb : PB (S 5) ((0, 0, []) : PQ) := ⟨⟨by decide, ht.1⟩, Or.inl rfl⟩
  exact lpc_ok (S := S) 7 _ ((clq_gr (S := S) (z := ((0, 0, []), 0, 0)) hb).pb hb) (fun z0 => clq_ok (z := ((0, 0, []), 0, 0)) hb CO_nil z0) h0
/-! the steps are small numbers -/
def EL (l : List Int) : Prop := ∀ x ∈ l, -5 ≤ x ∧ x ≤ 3300
theorem EL_app {l : List Int} {s : Int} (h : EL l) (hs : -5 ≤ s ∧ s ≤ 3300) : EL (l ++ [s]) := fun x hx => by
  rcases List.mem_append.mp hx with g | g
  · exact h x g
  · rw [List.mem_singleton.mp g]; exact hs
theorem emt_el {s : Int} {q : PQ} (h : EL q.2.2) (hs : -5 ≤ s ∧ s ≤ 3300) : EL (emt s q).2.2 := by
  unfold emt
  split
  · exact h
  · exact EL_app h hs
theorem atm_el {S : Int → Int} {e : Int} {q : PQ} (h : EL q.2.2) : EL (atm S e q).2.2 := by
  unfold atm
  split
  · exact h
  · rename_i c1
    split
    · exact h
    · rename_i c2
      have a6 : stl 6 = 6 := rfl
      have a7 : stl 7 = 3 := rfl
      have hv := figQ_v (S := S) (e := e) (q := (q.1 + 1 + 1, 0, q.2.2))
      rcases SX_bd (i := 6) (hr S e q.1) (by decide) with z | ⟨z1, z2, -⟩
      · exact absurd z c1
      rcases SX_bd (i := 7) (hr S e (q.1 + 1)) (by decide) with y | ⟨y1, y2, -⟩
      · exact absurd y c2
      exact emt_el (by rw [figQ_l]; exact h) (by omega)
theorem lp_el {S : Int → Int} {e c s : Int} {f : PQ → PQ} (hs : -5 ≤ s ∧ s ≤ 3300) (hf : ∀ q : PQ, EL q.2.2 → EL (f q).2.2) : ∀ (k : Nat) (q : PQ), EL q.2.2 → EL (lp S e f c s k q).2.2
  | 0, _, h => h
  | k + 1, q, h => by
    unfold lp
    split
    · exact lp_el hs hf k _ (emt_el (hf _ h) hs)
    · exact h
theorem evr_el {S : Int → Int} {e : Int} {f : PQ → PQ} (hf : ∀ q : PQ, EL q.2.2 → EL (f q).2.2) (q : PQ) (h : EL q.2.2) : EL (evr S e f q).2.2 := lp_el (by decide) hf _ _ (hf q h)
theorem som_el {S : Int → Int} {e : Int} {f : PQ → PQ} (hf : ∀ q : PQ, EL q.2.2 → EL (f q).2.2) (q : PQ) (h : EL q.2.2) : EL (som S e f q).2.2 := lp_el (by decide) (evr_el hf) _ _ (evr_el hf q h)
theorem fac_el {S : Int → Int} {e : Int} : ∀ (m : Nat) (q : PQ), EL q.2.2 → EL (fac S e m q).2.2
  | 0, q, h => by
    show EL (if q.2.1 = 1 then q else if hr S e q.1 = 33 ∨ hr S e q.1 = 40 then (q.1, 1, q.2.2) else atm S e q).2.2
    split
    · exact h
    · split
      · exact h
      · exact atm_el h
  | m + 1, q, h => by
    show EL (if q.2.1 = 1 then q else if hr S e q.1 = 33 then emt (-1) (fac S e m (q.1 + 1, 0, q.2.2)) else if hr S e q.1 = 40 then mst S e 41 (som S e (fac S e m) (q.1 + 1, 0, q.2.2)) else atm S e q).2.2
    split
    · exact h
    · split
      · exact emt_el (fac_el m _ h) (by decide)
      · split
        · rw [mst_l]; exact som_el (fac_el m) _ h
        · exact atm_el h
theorem clq_el {S : Int → Int} {e : Int} {z : CQ} (h : EL z.1.2.2) : EL (clq S e z).1.2.2 := by
  unfold clq
  split
  · dsimp only; rw [figQ_l, spl_l]; exact h
  · split
    · split
      · dsimp only; rw [spl_l]; exact h
      · split
        · dsimp only; rw [spl_l]; exact h
        · dsimp only; rw [spl_l]; exact h
    · split
      · exact emt_el (som_el (fac_el 5) _ (by rw [spl_l]; exact h)) (by decide)
      · split
        · exact emt_el (som_el (fac_el 5) _ (by rw [spl_l]; exact h)) (by decide)
        · exact h
theorem lpc_el {S : Int → Int} {e : Int} : ∀ (k : Nat) (z : CQ), EL z.1.2.2 → EL (lpc S e k z).1.2.2
  | 0, _, h => h
  | k + 1, z, h => by
    unfold lpc
    split
    · exact lpc_el k _ (clq_el h)
    · exact h
theorem RES_el (S : Int → Int) : EL (RES S).1.2.2 := lpc_el 7 _ (clq_el (fun x hx => by cases hx))
theorem EL_get {l : List Int} (h : EL l) (k : Nat) : -5 ≤ l.getD k 0 ∧ l.getD k 0 ≤ 3300 := by
  by_cases c : k < l.length
  · simp only [List.getD, List.getElem?_eq_getElem c, Option.getD_some]
    exact h _ (List.getElem_mem c)
  · simp only [List.getD, List.getElem?_eq_none (Nat.le_of_not_lt c), Option.getD_none]
    decide
theorem CLS_out {S : Int → Int} {a : Int} {l : List Int} {u w j : Int} (ha : 0 ≤ a ∧ a < 5) (hl : (l.length : Int) ≤ 120) (h5 : ¬ j = 5) (hj : j < 178 ∨ 893 ≤ j) : CLS S a l u w j = S j := by
  unfold CLS
  rw [if_neg h5, if_neg (by omega), if_neg (by omega), if_neg (by omega), if_neg (by omega)]
theorem RI_CLS {S : Int → Int} {a : Int} {l : List Int} {u w : Int} (h : RI S) (ha : a = S 1) (h5 : S 1 < 5) (hl : (l.length : Int) ≤ 120) (hu : 0 ≤ u ∧ u ≤ 99) (hw : 0 ≤ w ∧ w ≤ 2) (he : EL l) : RI (CLS S a l u w) := by
  have hcl := h.cl
  have ha2 : 0 ≤ a ∧ a < 5 := by omega
  have o : ∀ j : Int, ¬ j = 5 → (j < 178 ∨ 893 ≤ j) → CLS S a l u w j = S j := fun j g1 g2 => CLS_out ha2 hl g1 g2
  refine ⟨?_, ?_, ?_, ?_, ?_, ?_, ?_, fun j g1 g2 => ?_, fun j g1 g2 => ?_, fun j g1 g2 => ?_, fun j g1 g2 => ?_, fun j g1 g2 => ?_, fun j g1 g2 => ?_, fun j g1 g2 => ?_, fun c g1 g2 i hi => ?_, fun k g1 g2 => ?_, fun j g1 g2 => ?_, fun j g1 g2 => ?_, fun j => ?_⟩
  · rw [o 0 (by omega) (by omega)]; exact h.n
  · rw [o 1 (by omega) (by omega)]; exact h.cl
  · rw [o 2 (by omega) (by omega)]; exact h.td
  · rw [o 3 (by omega) (by omega)]; exact h.rd
  · rw [o 4 (by omega) (by omega)]; exact h.rw
  · unfold CLS; rw [if_pos rfl]; decide
  · rw [o 0 (by omega) (by omega), o 6 (by omega) (by omega)]; exact h.bd
  · rw [o j (by omega) (by omega)]; exact h.tape j g1 g2
  · rw [o j (by omega) (by omega)]; exact h.chr j g1 g2
  · rw [o j (by omega) (by omega)]; exact h.kd j g1 g2
  · rw [o j (by omega) (by omega)]; exact h.vv j g1 g2
  · have := h.up j g1 g2
    unfold CLS
    rw [if_neg (by omega)]
    split
    · exact hu
    · rw [if_neg (by omega), if_neg (by omega), if_neg (by omega)]; exact this
  · have := h.wi j g1 g2
    unfold CLS
    rw [if_neg (by omega), if_neg (by omega)]
    split
    · exact hw
    · rw [if_neg (by omega), if_neg (by omega)]; exact this
  · have := h.sm j g1 g2
    unfold CLS
    rw [if_neg (by omega), if_neg (by omega), if_neg (by omega)]
    split
    · omega
    · rw [if_neg (by omega)]; exact this
  · rw [o 1 (by omega) (by omega)] at g2
    have e1 : CLS S a l u w (188 + c) = S (188 + c) := by
      unfold CLS
      rw [if_neg (by omega), if_neg (by omega), if_neg (by omega), if_neg (by omega), if_neg (by omega)]
    rw [e1] at hi
    have hsm := h.sm (188 + c) (by omega) (by omega)
    refine WFs_eq (fun j hj => ?_) (h.wf c g1 g2 i hi)
    unfold steps CLS
    rw [if_neg (by omega), if_neg (by omega), if_neg (by omega), if_neg (by omega), if_neg (by omega)]
  · rw [o 3 (by omega) (by omega)] at g2
    have h15 := h.rd
    rw [o _ (by omega) (by omega), o _ (by omega) (by omega)]
    exact h.ro k g1 g2
  · rw [o j (by omega) (by omega)]; exact h.rr j g1 g2
  · rw [o j (by omega) (by omega)]; exact h.pa j g1 g2
  · have := h.i j
    have := EL_get he (j - 193 - 140 * a).toNat
    unfold CLS
    (repeat' split) <;> omega
theorem RI_club {S : Int → Int} (h : RI S) : RI (n_club S) := by
  have hcl := h.cl
  unfold n_club
  split
  · exact h
  · rename_i c
    have hg := RES_gr h
    have ht := h.tp
    have hl : (((RES S).1.2.2.length : Nat) : Int) ≤ 120 := by have := hg.1.1; omega
    have hub := RES_ub S
    have hT := RI_CLS (a := S 1) (l := (RES S).1.2.2) (u := (RES S).2.1) (w := (RES S).2.2) h rfl (by omega) hl hub.1 hub.2 (RES_el S)
    split
    · exact hT
    · rename_i g
      have w0 : (RES S).1.2.1 = 0 := by
        rcases hg.1.2 with z | z
        · exact z
        · exact absurd (Or.inl z) g
      have hco := RES_ok h w0
      have e188 := CLS_188 (S := S) (a := S 1) (l := (RES S).1.2.2) (u := (RES S).2.1) (w := (RES S).2.2) hcl.1
      have e1 := CLS_1 (S := S) (a := S 1) (l := (RES S).1.2.2) (u := (RES S).2.1) (w := (RES S).2.2) hcl.1
      have hst : ∀ j : Nat, j < (RES S).1.2.2.length → CLS S (S 1) (RES S).1.2.2 (RES S).2.1 (RES S).2.2 (193 + 140 * S 1 + (j : Int)) = lf (RES S).1.2.2 (j : Int) := fun j hj => by
        unfold CLS lf
        rw [if_neg (by omega), if_neg (by omega), if_neg (by omega), if_neg (by omega), if_pos (by omega)]
        congr 1
        omega
      generalize CLS S (S 1) (RES S).1.2.2 (RES S).2.1 (RES S).2.2 = T at hT e188 e1 hst ⊢
      refine ⟨?_, ?_, ?_, ?_, ?_, ?_, ?_, fun j g1 g2 => ?_, fun j g1 g2 => ?_, fun j g1 g2 => ?_, fun j g1 g2 => ?_, fun j g1 g2 => ?_, fun j g1 g2 => ?_, fun j g1 g2 => ?_, fun c g1 g2 i hi => ?_, fun k g1 g2 => ?_, fun j g1 g2 => ?_, fun j g1 g2 => ?_, fun j => ?_⟩
      · rw [gu_ne (by omega)]; exact hT.n
      · rw [gu_eq]; omega
      · rw [gu_ne (by omega)]; exact hT.td
      · rw [gu_ne (by omega)]; exact hT.rd
      · rw [gu_ne (by omega)]; exact hT.rw
      · rw [gu_ne (by omega)]; exact hT.tp
      · rw [gu_ne (by omega), gu_ne (by omega)]; exact hT.bd
      · rw [gu_ne (by omega)]; exact hT.tape j g1 g2
      · rw [gu_ne (by omega)]; exact hT.chr j g1 g2
      · rw [gu_ne (by omega)]; exact hT.kd j g1 g2
      · rw [gu_ne (by omega)]; exact hT.vv j g1 g2
      · rw [gu_ne (by omega)]; exact hT.up j g1 g2
      · rw [gu_ne (by omega)]; exact hT.wi j g1 g2
      · rw [gu_ne (by omega)]; exact hT.sm j g1 g2
      · rw [gu_eq] at g2
        rw [gu_ne (by omega)] at hi
        by_cases cc : c = S 1
        · subst cc
          rw [e188] at hi
          refine WFs_eq (fun j hj => ?_) (hco.1 i (by omega))
          unfold steps
          rw [gu_ne (by omega)]
          exact (hst j (by omega)).symm
        · have hsm := hT.sm (188 + c) (by omega) (by omega)
          refine WFs_eq (fun j hj => ?_) (hT.wf c g1 (by rw [e1]; omega) i hi)
          unfold steps
          rw [gu_ne (by omega)]
      · rw [gu_ne (by omega)] at g2
        rw [gu_ne (by omega), gu_ne (by omega)]; exact hT.ro k g1 g2
      · rw [gu_ne (by omega)]; exact hT.rr j g1 g2
      · rw [gu_ne (by omega)]; exact hT.pa j g1 g2
      · have := hT.i j
        unfold gu
        split <;> omega
