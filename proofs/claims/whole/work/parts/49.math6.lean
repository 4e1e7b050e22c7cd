/-! ===== boards as the class's numbers: the highest rung's digit first ===== -/
def NBR (f : Int → Int) : Nat → Int
  | 0 => 0
  | k + 1 => NBR f k * 8 + f (k : Int)
theorem NBR_s (f : Int → Int) {k : Int} (h : 0 ≤ k) : NBR f (k + 1).toNat = NBR f k.toNat * 8 + f k := by
  rw [show (k + 1).toNat = k.toNat + 1 by omega]
  show NBR f k.toNat * 8 + f ((k.toNat : Nat) : Int) = _
  rw [Int.toNat_of_nonneg h]
theorem NBR_bd {f : Int → Int} : ∀ {k : Nat}, (∀ i : Int, 0 ≤ i → i < (k : Int) → 0 ≤ f i ∧ f i < 8) → 0 ≤ NBR f k ∧ NBR f k < 8 ^ k
  | 0, _ => by unfold NBR; exact ⟨by decide, by decide⟩
  | k + 1, h => by
    have ih := NBR_bd (f := f) (k := k) (fun i h1 h2 => h i h1 (by omega))
    have := h (k : Int) (by omega) (by omega)
    unfold NBR
    rw [p8s]
    omega
theorem NBR_at {f : Int → Int} : ∀ {k : Nat}, (∀ i : Int, 0 ≤ i → i < (k : Int) → 0 ≤ f i ∧ f i < 8) → ∀ {r : Nat}, r < k → NBR f k / 8 ^ (k - 1 - r) % 8 = f (r : Int)
  | 0, _, r, h => by omega
  | k + 1, hf, r, h => by
    have hk := hf (k : Int) (by omega) (by omega)
    unfold NBR
    rcases Nat.lt_or_ge r k with g | g
    · have ih := NBR_at (f := f) (k := k) (fun i h1 h2 => hf i h1 (by omega)) g
      rw [show k + 1 - 1 - r = (k - 1 - r) + 1 by omega, p8s, ← Int.ediv_ediv_of_nonneg (by decide), show (NBR f k * 8 + f (k : Int)) / 8 = NBR f k by omega]
      exact ih
    · obtain rfl : r = k := by omega
      rw [show r + 1 - 1 - r = 0 by omega]
      simp
      omega
theorem NBR_congr {f g : Int → Int} : ∀ {k : Nat}, (∀ i : Int, 0 ≤ i → i < (k : Int) → f i = g i) → NBR f k = NBR g k
  | 0, _ => rfl
  | k + 1, h => by
    unfold NBR
    rw [NBR_congr (k := k) (fun i h1 h2 => h i h1 (by omega)), h (k : Int) (by omega) (by omega)]
theorem NBR_lt {f g : Int → Int} {j : Nat} (he : ∀ i : Int, 0 ≤ i → i < (j : Int) → f i = g i) (hl : f (j : Int) < g (j : Int)) : ∀ d : Nat, (∀ i : Int, 0 ≤ i → i < ((j + 1 + d : Nat) : Int) → (0 ≤ f i ∧ f i < 8) ∧ 0 ≤ g i ∧ g i < 8) → NBR f (j + 1 + d) < NBR g (j + 1 + d)
  | 0, _ => by
    show NBR f j * 8 + f (j : Int) < NBR g j * 8 + g (j : Int)
    rw [NBR_congr he]
    omega
  | d + 1, h => by
    have ih := NBR_lt he hl d (fun i h1 h2 => h i h1 (by omega))
    have := h ((j + 1 + d : Nat) : Int) (by omega) (by omega)
    show NBR f (j + 1 + d) * 8 + f ((j + 1 + d : Nat) : Int) < NBR g (j + 1 + d) * 8 + g ((j + 1 + d : Nat) : Int)
    omega
def cv (n b : Int) : Int := NBR (dg b) n.toNat
def dcv (n x : Int) : Int := cd (fun r => x / 8 ^ (n - 1 - r).toNat % 8) n.toNat
theorem cv_bd {n : Int} (hn : 0 ≤ n ∧ n ≤ 6) (b : Int) : 0 ≤ cv n b ∧ cv n b < 262144 := by
  have h := NBR_bd (f := dg b) (k := n.toNat) (fun i _ _ => dg_bd b i)
  exact ⟨h.1, Int.lt_of_lt_of_le h.2 (p8_le hn.2)⟩
theorem cv_at {n : Int} (b : Int) {r : Int} (h0 : 0 ≤ r) (h1 : r < n) : cv n b / 8 ^ (n - 1 - r).toNat % 8 = dg b r := by
  have h := NBR_at (f := dg b) (k := n.toNat) (fun i _ _ => dg_bd b i) (r := r.toNat) (by omega)
  rw [Int.toNat_of_nonneg h0, show n.toNat - 1 - r.toNat = (n - 1 - r).toNat by omega] at h
  exact h
theorem dcv_cv {n b : Int} (h : VB n b) : dcv n (cv n b) = b := by
  have hn := h.1
  unfold dcv
  rw [cd_congr (g := dg b) (fun i h1 h2 => cv_at b h1 (by omega))]
  exact cd_dgE h.2.1.1 h.2.1.2
theorem cv_inj {n a b : Int} (ha : VB n a) (hb : VB n b) (e : cv n a = cv n b) : a = b := by rw [← dcv_cv ha, ← dcv_cv hb, e]
theorem cv_lt {n a b : Int} (h : LEX n a b) : cv n a < cv n b := by
  obtain ⟨k, hk, h1, h2⟩ := h
  unfold cv
  have := NBR_lt (f := dg a) (g := dg b) (j := k.toNat) (fun i g1 g2 => h1 i g1 (by omega)) (by rw [Int.toNat_of_nonneg hk.1]; exact h2) (n.toNat - (k.toNat + 1)) (fun i _ _ => ⟨dg_bd a i, dg_bd b i⟩)
  rw [show k.toNat + 1 + (n.toNat - (k.toNat + 1)) = n.toNat by omega] at this
  exact this
theorem nb_or {x d : Int} (h : 0 ≤ x) (hd : 0 ≤ d ∧ d < 8) : ior (x * 8) d = x * 8 + d := by
  have e := ior_add (a := d) (v := x) (k := 3) hd.1 (by rw [show ((2 : Int) ^ 3) = 8 from rfl]; exact hd.2) h
  unfold ior at e ⊢
  rw [Nat.or_comm]
  rw [show ((2 : Int) ^ 3) = 8 from rfl] at e
  omega
theorem nm_sh {n b r : Int} (h0 : 0 ≤ r) (h1 : r < n) : cv n b / 2 ^ (3 * (n - 1 - r)).toNat % 8 = dg b r := by
  rw [show (3 * (n - 1 - r)).toNat = 3 * (n - 1 - r).toNat by omega, p38]
  exact cv_at b h0 h1
/-! ===== the list of boards, as the class keeps it ===== -/
def DBf (n : Int) (g : Int → Int) : Int → Int := fun k => dcv n (g k)
def DOK (n : Int) (g W : Int → Int) (m : Int) : Prop := LK (DBf n g) W m ∧ ∀ k : Int, 0 ≤ k → k < m → VB n (DBf n g k) ∧ g k = cv n (DBf n g k)
theorem DBf_gu (n : Int) (g : Int → Int) (m x : Int) : DBf n (gu g m x) = gu (DBf n g) m (dcv n x) := by
  funext k
  unfold DBf gu
  split <;> rfl
theorem DOK_0 (n : Int) (g W : Int → Int) : DOK n g W 0 := ⟨⟨by decide, fun k l h1 h2 => by omega, fun k h1 h2 => by omega⟩, fun k h1 h2 => by omega⟩
theorem DOK_put {n : Int} {g W g2 W2 : Int → Int} {m b w : Int} (h : DOK n g W m) (hm : m < 64) (hb : VB n b) (hw : 0 < w) (hn : ∀ k : Int, 0 ≤ k → k < m → ¬ g k = cv n b) (eg : gu g m (cv n b) = g2) (eW : gu W m w = W2) : DOK n g2 W2 (m + 1) ∧ ∀ f : Int → Int, isum f (DBf n g2) W2 (m + 1).toNat = isum f (DBf n g) W m.toNat + f b * w := by
  subst eg
  subst eW
  rw [DBf_gu, dcv_cv hb]
  refine ⟨⟨⟨by have := h.1.1; omega, fun k l h1 h2 h3 h4 e => ?_, fun k h1 h2 => ?_⟩, fun k h1 h2 => ?_⟩, fun f => isum_put h.1.1.1⟩
  · rw [DBf_gu, dcv_cv hb] at e
    unfold gu at e
    have hne : ∀ z : Int, 0 ≤ z → z < m → DBf n g z ≠ b := fun z z1 z2 e9 => hn z z1 z2 (by rw [(h.2 z z1 z2).2, e9])
    by_cases c1 : k = m
    · by_cases c2 : l = m
      · omega
      · rw [if_pos c1, if_neg c2] at e
        exact absurd e.symm (hne l h3 (by omega))
    · by_cases c2 : l = m
      · rw [if_neg c1, if_pos c2] at e
        exact absurd e (hne k h1 (by omega))
      · rw [if_neg c1, if_neg c2] at e
        exact h.1.2.1 k l h1 (by omega) h3 (by omega) e
  · unfold gu
    by_cases c : k = m
    · rw [if_pos c]; exact hw
    · rw [if_neg c]; exact h.1.2.2 k h1 (by omega)
  · rw [DBf_gu, dcv_cv hb]
    unfold gu
    by_cases c : k = m
    · rw [if_pos c, if_pos c]; exact ⟨hb, rfl⟩
    · rw [if_neg c, if_neg c]; exact h.2 k h1 (by omega)
theorem DOK_more {n : Int} {g W W2 : Int → Int} {m b w k : Int} (h : DOK n g W m) (h1 : 0 ≤ k) (h2 : k < m) (hb : VB n b) (hw : 0 < w) (e : g k = cv n b) (eW : gu W k (W k + w) = W2) : DOK n g W2 m ∧ ∀ f : Int → Int, isum f (DBf n g) W2 m.toNat = isum f (DBf n g) W m.toNat + f b * w := by
  subst eW
  have eb : DBf n g k = b := cv_inj (h.2 k h1 h2).1 hb (by rw [← (h.2 k h1 h2).2, e])
  refine ⟨⟨⟨h.1.1, h.1.2.1, fun j g1 g2 => ?_⟩, h.2⟩, fun f => by rw [isum_more h1 (by omega), eb]⟩
  unfold gu
  by_cases c : j = k
  · rw [if_pos c]
    have := h.1.2.2 k h1 h2
    omega
  · rw [if_neg c]; exact h.1.2.2 j g1 g2
theorem DOK_bd {n : Int} {g W : Int → Int} {m k : Int} (hn : 0 ≤ n ∧ n ≤ 6) (h : DOK n g W m) (h1 : 0 ≤ k) (h2 : k < m) : (0 ≤ g k ∧ g k < 262144) ∧ 0 < W k ∧ W k ≤ isum one1 (DBf n g) W m.toNat := by
  rw [(h.2 k h1 h2).2]
  exact ⟨cv_bd hn _, h.1.2.2 k h1 h2, h.1.one h1 h2⟩
theorem DOK_dist {n : Int} {g W : Int → Int} {m : Int} (h : DOK n g W m) : ∀ i j : Int, 0 ≤ i → i < ((m.toNat : Nat) : Int) → 0 ≤ j → j < ((m.toNat : Nat) : Int) → DBf n g i = DBf n g j → i = j := fun i j a b c d e => h.1.2.1 i j a (by omega) c (by omega) e
theorem DOK_is {n : Int} {g W : Int → Int} {m k b : Int} (h : DOK n g W m) (h1 : 0 ≤ k) (h2 : k < m) (hb : VB n b) (e : g k = cv n b) : isum (fun x => bI (x = b)) (DBf n g) W m.toNat = W k := by
  have eb : DBf n g k = b := cv_inj (h.2 k h1 h2).1 hb (by rw [← (h.2 k h1 h2).2, e])
  rw [← eb]
  exact isum_at h1 (by omega) (DOK_dist h)
theorem DOK_isnt {n : Int} {g W : Int → Int} {m b : Int} (h : DOK n g W m) (hn : ∀ k : Int, 0 ≤ k → k < m → ¬ g k = cv n b) : isum (fun x => bI (x = b)) (DBf n g) W m.toNat = 0 := isum_not (fun k h1 h2 e => hn k h1 (by omega) (by rw [(h.2 k h1 (by omega)).2, e]))
/-- what a step makes of one board, told by the class's two additions -/
theorem STEP_v {S : Int → Int} {c rf b day first w : Int} (f : Int → Int) {a : Int} (ha : TRN S b day = a) (hw : WHO S c rf b day first = w) (hc : 0 ≤ CHW S a w ∧ CHW S a w ≤ 100) : STEP S c rf day first f b = f (WON S c b a w) * CHW S a w + f b * (100 - CHW S a w) := by
  unfold STEP
  rw [ha, hw]
  congr 1
  · split
    · rfl
    · rw [show CHW S a w = 0 by omega, Int.mul_zero]
  · split
    · rfl
    · rw [show 100 - CHW S a w = 0 by omega, Int.mul_zero]
theorem LIK_of {n : Int} {g W : Int → Int} {m : Int} {wt : Int → Int} (h : DOK n g W m) (hwt : ∀ x : Int, wt x = isum (fun y => bI (y = x)) (DBf n g) W m.toNat) {k : Int} (h1 : 0 ≤ k) (h2 : k < m) (hmax : ∀ j : Int, 0 ≤ j → j < m → W j < W k ∨ (W j = W k ∧ g k ≤ g j)) : LIK n wt (DBf n g k) := by
  have hv : ∀ j : Int, 0 ≤ j → j < m → wt (DBf n g j) = W j := fun j a b => by
    rw [hwt]
    exact isum_at a (by omega) (DOK_dist h)
  refine ⟨(h.2 k h1 h2).1, by rw [hv k h1 h2]; exact h.1.2.2 k h1 h2, fun x hx hp => ?_⟩
  rcases Classical.em (∃ j : Int, (0 ≤ j ∧ j < m) ∧ DBf n g j = x) with ⟨j, hj, e⟩ | hno
  · subst e
    rw [hv k h1 h2, hv j hj.1 hj.2]
    rcases hmax j hj.1 hj.2 with z | ⟨z1, z2⟩
    · exact Or.inr (Or.inl z)
    · by_cases c : DBf n g j = DBf n g k
      · exact Or.inl c
      · rcases LEX_total (h.2 k h1 h2).1 (h.2 j hj.1 hj.2).1 (fun e => c e.symm) with l | l
        · exact Or.inr (Or.inr ⟨z1, l⟩)
        · have := cv_lt l
          rw [← (h.2 k h1 h2).2, ← (h.2 j hj.1 hj.2).2] at this
          omega
  · have : wt x = 0 := by
      rw [hwt]
      exact isum_not (fun j a b e => hno ⟨j, by omega, e⟩)
    omega
/-- the sum of the rungs, rung by rung -/
theorem isum_add {f f2 B W : Int → Int} : ∀ {m : Nat}, isum (fun b => f b + f2 b) B W m = isum f B W m + isum f2 B W m
  | 0 => rfl
  | m + 1 => by
    unfold isum
    rw [isum_add (m := m), Int.add_mul]
    omega
theorem sor_s {n : Int} {g W : Int → Int} {m a r : Int} (h : DOK n g W m) (ha : 0 ≤ a ∧ a < n) (h1 : 0 ≤ r) (h2 : r < n) : isum (fun b => if rk n b a < r + 1 then rk n b a else 0) (DBf n g) W m.toNat = isum (fun b => if rk n b a < r then rk n b a else 0) (DBf n g) W m.toNat + r * isum (fun b => bI (dg b r = a)) (DBf n g) W m.toNat := by
  rw [Int.mul_comm, ← isum_mul, ← isum_add]
  refine isum_congr (fun k k1 k2 => ?_)
  have hV := (h.2 k k1 (by omega)).1
  have hk := rk_spec hV ha.1 ha.2
  congr 1
  by_cases c : dg (DBf n g k) r = a
  · have e := rk_uniq hV h1 h2 c
    rw [bI_t c, e, if_pos (by omega), if_neg (by omega)]
    omega
  · have e : rk n (DBf n g k) a ≠ r := fun e => c (e ▸ hk.2)
    rw [bI_f c]
    by_cases d : rk n (DBf n g k) a < r
    · rw [if_pos (by omega), if_pos d]; omega
    · rw [if_neg (by omega), if_neg d]; omega
theorem sor_0 {n : Int} {g W : Int → Int} {m a : Int} (h : DOK n g W m) (ha : 0 ≤ a ∧ a < n) : isum (fun b => if rk n b a < 1 then rk n b a else 0) (DBf n g) W m.toNat = 0 := by
  have : isum (fun b => if rk n b a < 1 then rk n b a else 0) (DBf n g) W m.toNat = isum (fun _ => (0 : Int)) (DBf n g) W m.toNat := isum_congr (fun k k1 k2 => by
    have hk := rk_spec (h.2 k k1 (by omega)).1 ha.1 ha.2
    congr 1
    split <;> omega)
  rw [this]
  have e : ∀ q : Nat, isum (fun _ => (0 : Int)) (DBf n g) W q = 0 := fun q => by
    induction q with
    | zero => rfl
    | succ q ih => unfold isum; rw [ih]; simp
  exact e _
theorem sor_n {n : Int} {g W : Int → Int} {m a r : Int} (h : DOK n g W m) (ha : 0 ≤ a ∧ a < n) (hr : n ≤ r) : isum (fun b => if rk n b a < r then rk n b a else 0) (DBf n g) W m.toNat = isum (fun b => rk n b a) (DBf n g) W m.toNat := isum_congr (fun k k1 k2 => by
    have hk := rk_spec (h.2 k k1 (by omega)).1 ha.1 ha.2
    rw [if_pos (by omega)])
theorem p2_7 {k : Int} (h0 : 0 ≤ k) (h1 : k ≤ 6) : 1 ≤ (2 : Int) ^ k.toNat ∧ (2 : Int) ^ k.toNat ≤ 64 := by
  rcases (show k = 0 ∨ k = 1 ∨ k = 2 ∨ k = 3 ∨ k = 4 ∨ k = 5 ∨ k = 6 by omega) with e | e | e | e | e | e | e <;> subst e <;> decide
theorem p100_7 {k : Int} (h0 : 0 ≤ k) (h1 : k ≤ 6) : 1 ≤ (100 : Int) ^ k.toNat ∧ (100 : Int) ^ k.toNat ≤ 1000000000000 := by
  rcases (show k = 0 ∨ k = 1 ∨ k = 2 ∨ k = 3 ∨ k = 4 ∨ k = 5 ∨ k = 6 by omega) with e | e | e | e | e | e | e <;> subst e <;> decide
theorem p100_s {k : Int} (h0 : 0 ≤ k) : (100 : Int) ^ (k + 1).toNat = 100 ^ k.toNat * 100 := by
  rw [show (k + 1).toNat = k.toNat + 1 by omega, Int.pow_succ]
theorem p2_s {k : Int} (h0 : 0 ≤ k) : (2 : Int) ^ (k + 1).toNat = 2 ^ k.toNat * 2 := by
  rw [show (k + 1).toNat = k.toNat + 1 by omega, Int.pow_succ]
