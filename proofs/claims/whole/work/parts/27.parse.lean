/-! ===== reading a club's text ===== -/
def hr (S : Int → Int) (e sp : Int) : Int := if sp < e then S (10 + sp) else -1
theorem hr_bd {S : Int → Int} {e sp : Int} (hR : RI S) (h0 : 0 ≤ sp) (he : e ≤ 120) : -1 ≤ hr S e sp ∧ hr S e sp ≤ 255 := by
  unfold hr
  split
  · have := hR.tape (10 + sp) (by omega) (by omega)
    omega
  · decide
theorem hr_at {S : Int → Int} {e sp c : Int} (h : hr S e sp = c) (hc : 0 ≤ c) : sp < e := by
  unfold hr at h
  split at h
  · assumption
  · omega
/-- the same tape -/
def TP (S S0 : Int → Int) : Prop := ∀ j : Int, 10 ≤ j → j < 130 → S j = S0 j
theorem TP_hr {S S0 : Int → Int} {e sp : Int} (h : TP S S0) (h0 : 0 ≤ sp) (he : e ≤ 120) : hr S e sp = hr S0 e sp := by
  unfold hr
  split
  · exact h _ (by omega) (by omega)
  · rfl
/-- where the reader stands: the place, whether all is wrong, the steps -/
abbrev PQ : Type := Int × Int × List Int
def PB (e : Int) (q : PQ) : Prop := (0 ≤ q.1 ∧ q.1 ≤ e) ∧ (q.2.1 = 0 ∨ q.2.1 = 1)
def mst (S : Int → Int) (e c : Int) (q : PQ) : PQ := if q.2.1 = 1 ∨ ¬ hr S e q.1 = c then (q.1, 1, q.2.2) else (q.1 + 1, 0, q.2.2)
def emt (s : Int) (q : PQ) : PQ := if q.2.1 = 1 then q else (q.1, q.2.1, q.2.2 ++ [s])
def spN (S : Int → Int) (e : Int) (i : Nat) : Nat → PQ → PQ
  | 0, q => q
  | k + 1, q => mst S e (stc i (k : Int)) (spN S e i k q)
theorem spN_s (S : Int → Int) (e : Int) (i : Nat) (q : PQ) {k : Int} (h : 0 ≤ k) : spN S e i (k + 1).toNat q = mst S e (stc i k) (spN S e i k.toNat q) := by
  rw [show (k + 1).toNat = k.toNat + 1 by omega]
  show mst S e (stc i ((k.toNat : Nat) : Int)) _ = _
  rw [Int.toNat_of_nonneg h]
def spl (S : Int → Int) (e : Int) (i : Nat) (q : PQ) : PQ := spN S e i (stl i).toNat q
def dgt (x : Int) : Prop := 48 ≤ x ∧ x ≤ 57
def fgv (S : Int → Int) (e sp : Int) : Int := if 0 < hr S e sp - 48 ∧ 48 ≤ hr S e (sp + 1) ∧ hr S e (sp + 1) ≤ 57 then 10 * (hr S e sp - 48) + hr S e (sp + 1) - 48 else hr S e sp - 48
def fgs (S : Int → Int) (e sp : Int) : Int := if 0 < hr S e sp - 48 ∧ 48 ≤ hr S e (sp + 1) ∧ hr S e (sp + 1) ≤ 57 then sp + 2 else sp + 1
/-- one or two figures -/
def figQ (S : Int → Int) (e : Int) (q : PQ) : Int × PQ := if q.2.1 = 1 ∨ ¬ (48 ≤ hr S e q.1 ∧ hr S e q.1 ≤ 57) then (0, (q.1, 1, q.2.2)) else (fgv S e q.1, (fgs S e q.1, 0, q.2.2))
/-- a test: a letter of 'abrucd', a sign of '<=>', a number -/
def atm (S : Int → Int) (e : Int) (q : PQ) : PQ :=
  if SX 6 (hr S e q.1) = -1 then (q.1, 1, q.2.2)
  else if SX 7 (hr S e (q.1 + 1)) = -1 then (q.1 + 1, 1, q.2.2)
  else emt (SX 6 (hr S e q.1) + 8 * SX 7 (hr S e (q.1 + 1)) + 32 * (figQ S e (q.1 + 1 + 1, 0, q.2.2)).1) (figQ S e (q.1 + 1 + 1, 0, q.2.2)).2
def lp (S : Int → Int) (e : Int) (f : PQ → PQ) (c s : Int) : Nat → PQ → PQ
  | 0, q => q
  | k + 1, q => if q.2.1 = 0 ∧ hr S e q.1 = c then lp S e f c s k (emt s (f (q.1 + 1, q.2.1, q.2.2))) else q
def evr (S : Int → Int) (e : Int) (f : PQ → PQ) (q : PQ) : PQ := lp S e f 38 (-2) 130 (f q)
def som (S : Int → Int) (e : Int) (f : PQ → PQ) (q : PQ) : PQ := lp S e (evr S e f) 124 (-3) 130 (evr S e f q)
def fac (S : Int → Int) (e : Int) : Nat → PQ → PQ
  | 0 => fun q => if q.2.1 = 1 then q else if hr S e q.1 = 33 ∨ hr S e q.1 = 40 then (q.1, 1, q.2.2) else atm S e q
  | m + 1 => fun q => if q.2.1 = 1 then q else if hr S e q.1 = 33 then emt (-1) (fac S e m (q.1 + 1, 0, q.2.2)) else if hr S e q.1 = 40 then mst S e 41 (som S e (fac S e m) (q.1 + 1, 0, q.2.2)) else atm S e q
/-! what is wrong stays so -/
theorem mst_w {S : Int → Int} {e c : Int} {q : PQ} (h : q.2.1 = 1) : mst S e c q = q := by
  obtain ⟨a, b, l⟩ := q
  dsimp only at h
  subst h
  unfold mst
  rw [if_pos (Or.inl rfl)]
theorem emt_w {s : Int} {q : PQ} (h : q.2.1 = 1) : emt s q = q := by unfold emt; rw [if_pos h]
theorem lp_w {S : Int → Int} {e : Int} {f : PQ → PQ} {c s : Int} (k : Nat) {q : PQ} (h : q.2.1 = 1) : lp S e f c s k q = q := by
  cases k with
  | zero => rfl
  | succ k => unfold lp; rw [if_neg (fun g => by omega)]
theorem evr_w {S : Int → Int} {e : Int} {f : PQ → PQ} (hf : ∀ q : PQ, q.2.1 = 1 → f q = q) {q : PQ} (h : q.2.1 = 1) : evr S e f q = q := by
  unfold evr
  rw [hf q h, lp_w _ h]
theorem som_w {S : Int → Int} {e : Int} {f : PQ → PQ} (hf : ∀ q : PQ, q.2.1 = 1 → f q = q) {q : PQ} (h : q.2.1 = 1) : som S e f q = q := by
  unfold som
  rw [evr_w hf h, lp_w _ h]
theorem fac_w {S : Int → Int} {e : Int} (m : Nat) {q : PQ} (h : q.2.1 = 1) : fac S e m q = q := by
  cases m with
  | zero => show (if q.2.1 = 1 then q else _) = q; rw [if_pos h]
  | succ m => show (if q.2.1 = 1 then q else _) = q; rw [if_pos h]
theorem spN_w {S : Int → Int} {e : Int} {i : Nat} {q : PQ} (h : q.2.1 = 1) : ∀ k : Nat, spN S e i k q = q
  | 0 => rfl
  | k + 1 => by
    show mst S e _ (spN S e i k q) = q
    rw [spN_w h k, mst_w h]
/-! what is read grows, and is longer than what is written -/
def GR (e : Int) (q r : PQ) : Prop := (q.1 ≤ r.1 ∧ r.1 ≤ e) ∧ (r.2.1 = 0 ∨ r.2.1 = 1) ∧ (r.2.2.length : Int) - r.1 ≤ (q.2.2.length : Int) - q.1
theorem GR.pb {e : Int} {q r : PQ} (h : GR e q r) (hq : PB e q) : PB e r := ⟨⟨Int.le_trans hq.1.1 h.1.1, h.1.2⟩, h.2.1⟩
theorem GR.trans {e : Int} {q r s : PQ} (h : GR e q r) (g : GR e r s) : GR e q s := ⟨⟨Int.le_trans h.1.1 g.1.1, g.1.2⟩, g.2.1, Int.le_trans g.2.2 h.2.2⟩
theorem GR.refl {e : Int} {q : PQ} (h : PB e q) : GR e q q := ⟨⟨Int.le_refl _, h.1.2⟩, h.2, Int.le_refl _⟩
theorem mst_gr {S : Int → Int} {e c : Int} {q : PQ} (hc : 0 ≤ c) (h : PB e q) : GR e q (mst S e c q) := by
  have h1 := h.1
  unfold mst
  split
  · exact ⟨⟨Int.le_refl _, h.1.2⟩, Or.inr rfl, Int.le_refl _⟩
  · rename_i g
    have g2 : hr S e q.1 = c := Classical.byContradiction fun z => g (Or.inr z)
    have := hr_at g2 hc
    exact ⟨⟨by dsimp only; omega, by dsimp only; omega⟩, Or.inl rfl, by dsimp only; omega⟩
theorem figQ_gr {S : Int → Int} {e : Int} {q : PQ} (h : PB e q) : GR e q (figQ S e q).2 := by
  have h1 := h.1
  unfold figQ
  split
  · exact ⟨⟨Int.le_refl _, h.1.2⟩, Or.inr rfl, Int.le_refl _⟩
  · rename_i g
    have g2 : 48 ≤ hr S e q.1 := by omega
    have := hr_at (S := S) (e := e) (sp := q.1) rfl (by omega)
    unfold fgs
    split
    · rename_i z
      have := hr_at (S := S) (e := e) (sp := q.1 + 1) rfl (by omega)
      exact ⟨⟨by dsimp only; omega, by dsimp only; omega⟩, Or.inl rfl, by dsimp only; omega⟩
    · exact ⟨⟨by dsimp only; omega, by dsimp only; omega⟩, Or.inl rfl, by dsimp only; omega⟩
theorem figQ_v {S : Int → Int} {e : Int} {q : PQ} : 0 ≤ (figQ S e q).1 ∧ (figQ S e q).1 ≤ 99 := by
  unfold figQ
  split
  · dsimp only; omega
  · dsimp only
    unfold fgv
    split <;> omega
theorem SX_neg {i : Nat} (hi : i < nST) {c : Int} (hc : c < 0) : SX i c = -1 := by
  rcases SX_bd c hi with h | ⟨h1, h2, h3⟩
  · exact h
  · have := stc_bd hi h1 h2
    omega
theorem SX_hr {S : Int → Int} {e sp : Int} {i : Nat} (hi : i < nST) (h : ¬ SX i (hr S e sp) = -1) : sp < e := by
  unfold hr at h
  split at h
  · assumption
  · exact absurd (SX_neg hi (by decide)) h
theorem emt_gr {e s : Int} {q0 q : PQ} (h : GR e (q0.1 + 1, q0.2.1, q0.2.2) q) : GR e q0 (emt s q) := by
  obtain ⟨h1, h2, h3⟩ := h
  dsimp only at h1 h2 h3
  unfold emt
  split
  · exact ⟨by omega, h2, by omega⟩
  · refine ⟨by dsimp only; omega, h2, ?_⟩
    dsimp only
    rw [List.length_append, List.length_cons, List.length_nil]
    omega
theorem atm_gr {S : Int → Int} {e : Int} {q : PQ} (h : PB e q) : GR e q (atm S e q) := by
  have h1 := h.1
  unfold atm
  split
  · exact ⟨⟨Int.le_refl _, h.1.2⟩, Or.inr rfl, Int.le_refl _⟩
  · rename_i g1
    have := SX_hr (i := 6) (by decide) g1
    split
    · exact ⟨⟨by dsimp only; omega, by dsimp only; omega⟩, Or.inr rfl, by dsimp only; omega⟩
    · rename_i g2
      have := SX_hr (i := 7) (by decide) g2
      have hg := figQ_gr (S := S) (e := e) (q := (q.1 + 1 + 1, 0, q.2.2)) ⟨⟨by dsimp only; omega, by dsimp only; omega⟩, Or.inl rfl⟩
      refine emt_gr ⟨?_, hg.2.1, ?_⟩
      · have := hg.1; dsimp only at this ⊢; omega
      · have := hg.2.2; dsimp only at this ⊢; omega
theorem lp_gr {S : Int → Int} {e : Int} {f : PQ → PQ} {c s : Int} (hc : 0 ≤ c) (hf : ∀ q : PQ, PB e q → GR e q (f q)) : ∀ (k : Nat) (q : PQ), PB e q → GR e q (lp S e f c s k q)
  | 0, q, h => GR.refl h
  | k + 1, q, h => by
    unfold lp
    split
    · rename_i g
      have := hr_at g.2 hc
      have h1 := h.1
      have hb : PB e (q.1 + 1, q.2.1, q.2.2) := ⟨⟨by dsimp only; omega, by dsimp only; omega⟩, h.2⟩
      have hg := emt_gr (s := s) (q0 := q) (hf _ hb)
      exact hg.trans (lp_gr hc hf k _ (hg.pb h))
    · exact GR.refl h
theorem evr_gr {S : Int → Int} {e : Int} {f : PQ → PQ} (hf : ∀ q : PQ, PB e q → GR e q (f q)) {q : PQ} (h : PB e q) : GR e q (evr S e f q) := (hf q h).trans (lp_gr (by decide) hf _ _ ((hf q h).pb h))
theorem som_gr {S : Int → Int} {e : Int} {f : PQ → PQ} (hf : ∀ q : PQ, PB e q → GR e q (f q)) {q : PQ} (h : PB e q) : GR e q (som S e f q) := (evr_gr hf h).trans (lp_gr (by decide) (fun q g => evr_gr hf g) _ _ ((evr_gr hf h).pb h))
theorem fac_gr {S : Int → Int} {e : Int} : ∀ (m : Nat) (q : PQ), PB e q → GR e q (fac S e m q)
  | 0, q, h => by
    show GR e q (if q.2.1 = 1 then q else if hr S e q.1 = 33 ∨ hr S e q.1 = 40 then (q.1, 1, q.2.2) else atm S e q)
    split
    · exact GR.refl h
    · split
      · exact ⟨⟨Int.le_refl _, h.1.2⟩, Or.inr rfl, Int.le_refl _⟩
      · exact atm_gr h
  | m + 1, q, h => by
    show GR e q (if q.2.1 = 1 then q else if hr S e q.1 = 33 then emt (-1) (fac S e m (q.1 + 1, 0, q.2.2)) else if hr S e q.1 = 40 then mst S e 41 (som S e (fac S e m) (q.1 + 1, 0, q.2.2)) else atm S e q)
    have h1 := h.1
    split
    · exact GR.refl h
    · rename_i g0
      split
      · rename_i g
        have := hr_at g (by decide)
        have hb : PB e (q.1 + 1, 0, q.2.2) := ⟨⟨by dsimp only; omega, by dsimp only; omega⟩, Or.inl rfl⟩
        have := fac_gr (S := S) m _ hb
        exact emt_gr ⟨this.1, this.2.1, this.2.2⟩
      · split
        · rename_i g
          have := hr_at g (by decide)
          have hb : PB e (q.1 + 1, 0, q.2.2) := ⟨⟨by dsimp only; omega, by dsimp only; omega⟩, Or.inl rfl⟩
          have hs := som_gr (S := S) (fun q g => fac_gr (S := S) m q g) hb
          have hm := mst_gr (S := S) (c := 41) (by decide) (hs.pb hb)
          have ht := hs.trans hm
          exact ⟨⟨by have := ht.1.1; dsimp only at this; omega, ht.1.2⟩, ht.2.1, by have := ht.2.2; dsimp only at this; omega⟩
        · exact atm_gr h
/-! ===== the row while a club is read ===== -/
def CLS (S : Int → Int) (a : Int) (l : List Int) (u w : Int) : Int → Int := fun j => if j = 5 then 0 else if j = 178 + a then u else if j = 183 + a then w else if j = 188 + a then (l.length : Int) else if 193 + 140 * a ≤ j ∧ j < 193 + 140 * a + (l.length : Int) then l.getD (j - 193 - 140 * a).toNat 0 else S j
theorem CLS_tp {S : Int → Int} {a : Int} {l : List Int} {u w : Int} (ha : 0 ≤ a) : TP (CLS S a l u w) S := fun j h1 h2 => by
  unfold CLS
  rw [if_neg (by omega), if_neg (by omega), if_neg (by omega), if_neg (by omega), if_neg (by omega)]
theorem CLS_188 {S : Int → Int} {a : Int} {l : List Int} {u w : Int} (ha : 0 ≤ a) : CLS S a l u w (188 + a) = (l.length : Int) := by
  unfold CLS
  rw [if_neg (by omega), if_neg (by omega), if_neg (by omega), if_pos rfl]
theorem CLS_app {S : Int → Int} {a s : Int} {l : List Int} {u w : Int} (ha : 0 ≤ a ∧ a < 5) : gu (gu (CLS S a l u w) (193 + 140 * a + (l.length : Int)) s) (188 + a) ((l.length : Int) + 1) = CLS S a (l ++ [s]) u w := by
  funext j
  unfold gu CLS
  rw [List.length_append, List.length_cons, List.length_nil]
  by_cases c5 : j = 5
  · rw [if_neg (by omega), if_neg (by omega), if_pos c5, if_pos c5]
  rw [if_neg c5, if_neg c5]
  by_cases c1 : j = 178 + a
  · rw [if_neg (by omega), if_neg (by omega), if_pos c1, if_pos c1]
  rw [if_neg c1, if_neg c1]
  by_cases c2 : j = 183 + a
  · rw [if_neg (by omega), if_neg (by omega), if_pos c2, if_pos c2]
  rw [if_neg c2, if_neg c2]
  by_cases c3 : j = 188 + a
  · rw [if_pos c3, if_pos c3]; omega
  rw [if_neg c3, if_neg c3, if_neg c3]
  by_cases c4 : j = 193 + 140 * a + (l.length : Int)
  · rw [if_pos c4, if_pos (by omega), c4, show (193 + 140 * a + (l.length : Int) - 193 - 140 * a).toNat = l.length by omega]
    simp [List.getD]
  · rw [if_neg c4]
    by_cases c6 : 193 + 140 * a ≤ j ∧ j < 193 + 140 * a + (l.length : Int)
    · rw [if_pos c6, if_pos (by omega)]
      have : (j - 193 - 140 * a).toNat < l.length := by omega
      simp [List.getD, List.getElem?_append, this]
    · rw [if_neg c6, if_neg (by omega)]
theorem CLS_u {S : Int → Int} {a : Int} {l : List Int} {u w v : Int} (ha : 0 ≤ a ∧ a < 5) : gu (CLS S a l u w) (178 + a) v = CLS S a l v w := by
  funext j
  unfold gu CLS
  by_cases c1 : j = 178 + a
  · rw [if_pos c1, if_neg (by omega), if_pos c1]
  · rw [if_neg c1, if_neg c1, if_neg c1]
theorem CLS_w {S : Int → Int} {a : Int} {l : List Int} {u w v : Int} (ha : 0 ≤ a ∧ a < 5) : gu (CLS S a l u w) (183 + a) v = CLS S a l u v := by
  funext j
  unfold gu CLS
  by_cases c1 : j = 183 + a
  · rw [if_pos c1, if_neg (by omega), if_neg (by omega), if_pos c1]
  · rw [if_neg c1, if_neg c1, if_neg c1]
theorem CLS_gu {S : Int → Int} {a : Int} {l : List Int} {u w : Int} (ha : 0 ≤ a ∧ a < 5) : CLS S a l u w (178 + a) = u ∧ CLS S a l u w (183 + a) = w := by
  unfold CLS
  rw [if_neg (by omega), if_pos rfl, if_neg (by omega), if_neg (by omega), if_pos rfl]
  exact ⟨rfl, rfl⟩
theorem CLS_0 {S : Int → Int} {a : Int} (ha : 0 ≤ a ∧ a < 5) : gu (gu (gu (gu S 5 0) (178 + a) 0) (183 + a) 0) (188 + a) 0 = CLS S a [] 0 0 := by
  funext j
  unfold gu CLS
  simp only [List.length_nil]
  (repeat' split) <;> first | rfl | omega
