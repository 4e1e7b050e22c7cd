/-! ===== the steps that a text gives are in order ===== -/
def lf (l : List Int) : Int → Int := fun i => l.getD i.toNat 0
def DL (l : List Int) : Int := dpt (lf l) l.length
def WL (l : List Int) : Prop := ∀ i : Nat, i < l.length → WFs (lf l) i
theorem dpt_eq {st s2 : Int → Int} : ∀ i : Nat, (∀ j : Nat, j < i → st (j : Int) = s2 (j : Int)) → dpt st i = dpt s2 i
  | 0, _ => rfl
  | i + 1, h => by
    unfold dpt
    rw [dpt_eq i (fun j g => h j (by omega)), h i (by omega)]
theorem WFs_eq {st s2 : Int → Int} {i : Nat} (h : ∀ j : Nat, j ≤ i → st (j : Int) = s2 (j : Int)) (hw : WFs st i) : WFs s2 i := by
  unfold WFs at hw ⊢
  rw [← dpt_eq i (fun j g => h j (by omega)), ← h i (Nat.le_refl _)]
  exact hw
theorem lf_app {l : List Int} {s : Int} {j : Nat} (h : j < l.length) : lf (l ++ [s]) (j : Int) = lf l (j : Int) := by
  unfold lf
  simp [List.getD, List.getElem?_append, h]
theorem lf_last {l : List Int} {s : Int} : lf (l ++ [s]) (l.length : Int) = s := by
  unfold lf
  simp [List.getD]
theorem DL_app (l : List Int) (s : Int) : DL (l ++ [s]) = if 0 ≤ s then DL l + 1 else if s = -1 then DL l else if s = -2 ∨ s = -3 then DL l - 1 else 0 := by
  unfold DL
  rw [List.length_append, List.length_cons, List.length_nil]
  show dpt (lf (l ++ [s])) (l.length + 1) = _
  have e : dpt (lf (l ++ [s])) l.length = dpt (lf l) l.length := dpt_eq _ (fun j g => lf_app g)
  show (if 0 ≤ lf (l ++ [s]) (l.length : Int) then dpt (lf (l ++ [s])) l.length + 1 else if lf (l ++ [s]) (l.length : Int) = -1 then dpt (lf (l ++ [s])) l.length else if lf (l ++ [s]) (l.length : Int) = -2 ∨ lf (l ++ [s]) (l.length : Int) = -3 then dpt (lf (l ++ [s])) l.length - 1 else 0) = _
  rw [e, lf_last]
theorem WL_app {l : List Int} {s : Int} (h : WL l) (hs : -5 ≤ s ∧ (0 ≤ s → DL l < 14 ∧ s % 8 < 6 ∧ s / 8 % 4 < 3 ∧ s / 32 ≤ 99) ∧ (s = -1 → 1 ≤ DL l) ∧ (s = -2 ∨ s = -3 → 2 ≤ DL l) ∧ (s = -4 ∨ s = -5 → DL l = 1)) : WL (l ++ [s]) := by
  intro i hi
  rw [List.length_append, List.length_cons, List.length_nil] at hi
  by_cases c : i < l.length
  · exact WFs_eq (fun j g => (lf_app (by omega)).symm) (h i c)
  · obtain rfl : i = l.length := by omega
    unfold WFs
    have e : dpt (lf (l ++ [s])) l.length = DL l := dpt_eq _ (fun j g => lf_app g)
    rw [e, lf_last]
    exact hs
/-- a part of the grammar that leaves one truth more -/
def OKf (e b : Int) (f : PQ → PQ) : Prop := ∀ q : PQ, PB e q → q.2.1 = 0 → WL q.2.2 → 0 ≤ DL q.2.2 → DL q.2.2 ≤ b → (f q).2.1 = 0 → WL (f q).2.2 ∧ DL (f q).2.2 = DL q.2.2 + 1
theorem emt_0 {s : Int} {q : PQ} (h : (emt s q).2.1 = 0) : q.2.1 = 0 ∧ (emt s q).2.2 = q.2.2 ++ [s] := by
  unfold emt at h ⊢
  split at h
  · rename_i c; omega
  · rename_i c; rw [if_neg c]; exact ⟨h, rfl⟩
theorem figQ_l {S : Int → Int} {e : Int} {q : PQ} : (figQ S e q).2.2.2 = q.2.2 := by
  unfold figQ
  split <;> rfl
theorem mst_l {S : Int → Int} {e c : Int} {q : PQ} : (mst S e c q).2.2 = q.2.2 := by
  unfold mst
  split <;> rfl
theorem mst_0 {S : Int → Int} {e c : Int} {q : PQ} (h : (mst S e c q).2.1 = 0) : ¬ q.2.1 = 1 := by
  unfold mst at h
  split at h
  · exact absurd h (by show ¬ (1 : Int) = 0; decide)
  · rename_i g; exact fun z => g (Or.inl z)
theorem atm_ok {S : Int → Int} {e : Int} : OKf e 13 (atm S e) := by
  intro q hq h0 hw hd0 hd hz
  unfold atm at hz ⊢
  split at hz
  · exact absurd hz (by show ¬ (1 : Int) = 0; decide)
  · rename_i c1
    rw [if_neg c1]
    split at hz
    · exact absurd hz (by show ¬ (1 : Int) = 0; decide)
    · rename_i c2
      rw [if_neg c2]
      obtain ⟨g1, g2⟩ := emt_0 hz
      rw [g2, figQ_l]
      have a6 : stl 6 = 6 := rfl
      have a7 : stl 7 = 3 := rfl
      have hv := figQ_v (S := S) (e := e) (q := (q.1 + 1 + 1, 0, q.2.2))
      rcases SX_bd (i := 6) (hr S e q.1) (by decide) with z | ⟨z1, z2, -⟩
      · exact absurd z c1
      rcases SX_bd (i := 7) (hr S e (q.1 + 1)) (by decide) with y | ⟨y1, y2, -⟩
      · exact absurd y c2
      dsimp only
      refine ⟨WL_app hw ⟨by omega, fun _ => ⟨by omega, by omega, by omega, by omega⟩, fun _ => by omega, fun _ => by omega, fun _ => by omega⟩, ?_⟩
      rw [DL_app, if_pos (by omega)]
theorem lp_ok {S : Int → Int} {e b D c s : Int} {f : PQ → PQ} (hc : 0 ≤ c) (hs : s = -2 ∨ s = -3) (hf : OKf e b f) (hg : ∀ q : PQ, PB e q → GR e q (f q)) (hD : 0 ≤ D ∧ D + 1 ≤ b) : ∀ (k : Nat) (q : PQ), PB e q → q.2.1 = 0 → WL q.2.2 → DL q.2.2 = D + 1 → (lp S e f c s k q).2.1 = 0 → WL (lp S e f c s k q).2.2 ∧ DL (lp S e f c s k q).2.2 = D + 1
  | 0, q, _, _, hw, hd, _ => ⟨hw, hd⟩
  | k + 1, q, hq, h0, hw, hd, hz => by
    unfold lp at hz ⊢
    split at hz
    · rename_i g
      rw [if_pos g]
      have hat := hr_at g.2 hc
      have h1 := hq.1
      have hb : PB e (q.1 + 1, q.2.1, q.2.2) := ⟨⟨by dsimp only; omega, by dsimp only; omega⟩, hq.2⟩
      have hgr := hg _ hb
      by_cases c1 : (f (q.1 + 1, q.2.1, q.2.2)).2.1 = 1
      · rw [emt_w c1, lp_w _ c1] at hz
        omega
      · have c0 : (f (q.1 + 1, q.2.1, q.2.2)).2.1 = 0 := by have := hgr.2.1; omega
        obtain ⟨w1, w2⟩ := hf _ hb h0 hw (by dsimp only; omega) (by dsimp only; omega) c0
        dsimp only at w2
        have he : emt s (f (q.1 + 1, q.2.1, q.2.2)) = ((f (q.1 + 1, q.2.1, q.2.2)).1, (f (q.1 + 1, q.2.1, q.2.2)).2.1, (f (q.1 + 1, q.2.1, q.2.2)).2.2 ++ [s]) := by unfold emt; rw [if_neg c1]
        refine lp_ok hc hs hf hg hD k _ ((emt_gr (q0 := q) hgr).pb hq) (by rw [he]; exact c0) ?_ ?_ hz
        · rw [he]
          exact WL_app w1 ⟨by omega, fun _ => by omega, fun _ => by omega, fun _ => by omega, fun _ => by omega⟩
        · rw [he]
          dsimp only
          rw [DL_app, if_neg (by omega), if_neg (by omega), if_pos hs]
          omega
    · rename_i g
      rw [if_neg g]
      exact ⟨hw, hd⟩
theorem evr_ok {S : Int → Int} {e b : Int} {f : PQ → PQ} (hf : OKf e (b + 1) f) (hg : ∀ q : PQ, PB e q → GR e q (f q)) : OKf e b (evr S e f) := by
  intro q hq h0 hw hd0 hd hz
  unfold evr at hz ⊢
  by_cases c1 : (f q).2.1 = 1
  · rw [lp_w _ c1] at hz; omega
  · have hgr := hg q hq
    have c0 : (f q).2.1 = 0 := by have := hgr.2.1; omega
    obtain ⟨w1, w2⟩ := hf q hq h0 hw hd0 (by omega) c0
    exact lp_ok (by decide) (Or.inl rfl) hf hg ⟨hd0, by omega⟩ 130 _ (hgr.pb hq) c0 w1 w2 hz
theorem som_ok {S : Int → Int} {e b : Int} {f : PQ → PQ} (hf : OKf e (b + 2) f) (hg : ∀ q : PQ, PB e q → GR e q (f q)) : OKf e b (som S e f) := by
  intro q hq h0 hw hd0 hd hz
  have he : OKf e (b + 1) (evr S e f) := evr_ok (by rw [show b + 1 + 1 = b + 2 by omega]; exact hf) hg
  unfold som at hz ⊢
  by_cases c1 : (evr S e f q).2.1 = 1
  · rw [lp_w _ c1] at hz; omega
  · have hgr := evr_gr (S := S) hg hq
    have c0 : (evr S e f q).2.1 = 0 := by have := hgr.2.1; omega
    obtain ⟨w1, w2⟩ := he q hq h0 hw hd0 (by omega) c0
    exact lp_ok (by decide) (Or.inr rfl) he (fun q g => evr_gr hg g) ⟨hd0, by omega⟩ 130 _ (hgr.pb hq) c0 w1 w2 hz
theorem fac_ok {S : Int → Int} {e : Int} : ∀ m : Nat, OKf e (13 - 2 * (m : Int)) (fac S e m)
  | 0 => by
    intro q hq h0 hw hd0 hd hz
    by_cases c : hr S e q.1 = 33 ∨ hr S e q.1 = 40
    · rw [fac_out (by omega) c] at hz
      exact absurd hz (by show ¬ (1 : Int) = 0; decide)
    · rw [fac_atm 0 (by omega) (fun z => c (Or.inl z)) (fun z => c (Or.inr z))] at hz ⊢
      exact atm_ok q hq h0 hw hd0 (by omega) hz
  | m + 1 => by
    intro q hq h0 hw hd0 hd hz
    have h1 := hq.1
    by_cases c33 : hr S e q.1 = 33
    · rw [fac_not m (by omega) c33] at hz ⊢
      have hat := hr_at c33 (by decide)
      have hb : PB e (q.1 + 1, 0, q.2.2) := ⟨⟨by dsimp only; omega, by dsimp only; omega⟩, Or.inl rfl⟩
      obtain ⟨g1, g2⟩ := emt_0 hz
      obtain ⟨w1, w2⟩ := fac_ok (S := S) m _ hb rfl hw hd0 (by dsimp only; omega) g1
      dsimp only at w2
      rw [g2]
      refine ⟨WL_app w1 ⟨by omega, fun _ => by omega, fun _ => by omega, fun _ => by omega, fun _ => by omega⟩, ?_⟩
      rw [DL_app, if_neg (by decide), if_pos rfl, w2]
    · by_cases c40 : hr S e q.1 = 40
      · rw [fac_par m (by omega) c40] at hz ⊢
        have hat := hr_at c40 (by decide)
        have hb : PB e (q.1 + 1, 0, q.2.2) := ⟨⟨by dsimp only; omega, by dsimp only; omega⟩, Or.inl rfl⟩
        have hgr := som_gr (S := S) (f := fac S e m) (fac_gr (S := S) m) hb
        have g1 := mst_0 hz
        have c0 : (som S e (fac S e m) (q.1 + 1, 0, q.2.2)).2.1 = 0 := by have := hgr.2.1; omega
        rw [mst_l]
        exact som_ok (S := S) (b := 13 - 2 * ((m + 1 : Nat) : Int)) (by rw [show 13 - 2 * ((m + 1 : Nat) : Int) + 2 = 13 - 2 * (m : Int) by omega]; exact fac_ok m) (fac_gr (S := S) m) _ hb rfl hw hd0 (by dsimp only; omega) c0
      · rw [fac_atm (m + 1) (by omega) c33 c40] at hz ⊢
        exact atm_ok q hq h0 hw hd0 (by omega) hz
