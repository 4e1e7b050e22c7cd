/-! ===== weighed boards ===== -/
/-- the sum of f over the first m boards, each by its weight -/
def isum (f B W : Int → Int) : Nat → Int
  | 0 => 0
  | k + 1 => isum f B W k + f (B (k : Int)) * W (k : Int)
theorem isum_s (f B W : Int → Int) {k : Int} (h : 0 ≤ k) : isum f B W (k + 1).toNat = isum f B W k.toNat + f (B k) * W k := by
  rw [show (k + 1).toNat = k.toNat + 1 by omega]
  show isum f B W k.toNat + f (B ((k.toNat : Nat) : Int)) * W ((k.toNat : Nat) : Int) = _
  rw [Int.toNat_of_nonneg h]
theorem isum_congr {f f2 B B2 W W2 : Int → Int} : ∀ {m : Nat}, (∀ k : Int, 0 ≤ k → k < (m : Int) → f (B k) * W k = f2 (B2 k) * W2 k) → isum f B W m = isum f2 B2 W2 m
  | 0, _ => rfl
  | m + 1, h => by
    unfold isum
    rw [isum_congr (m := m) (fun k h1 h2 => h k h1 (by omega)), h (m : Int) (by omega) (by omega)]
theorem isum_put {f B W : Int → Int} {b w : Int} {m : Int} (h : 0 ≤ m) : isum f (gu B m b) (gu W m w) (m + 1).toNat = isum f B W m.toNat + f b * w := by
  rw [isum_s _ _ _ h, gu_eq, gu_eq]
  congr 1
  refine isum_congr (fun k h1 h2 => ?_)
  rw [gu_ne (by omega), gu_ne (by omega)]
theorem isum_more {f B W : Int → Int} {w k : Int} : ∀ {m : Nat}, 0 ≤ k → k < (m : Int) → isum f B (gu W k (W k + w)) m = isum f B W m + f (B k) * w
  | 0, h1, h2 => by omega
  | m + 1, h1, h2 => by
    unfold isum
    by_cases e : k = (m : Int)
    · subst e
      rw [gu_eq, isum_congr (W2 := W) (f2 := f) (B2 := B) (fun j g1 g2 => by rw [gu_ne (by omega)]), Int.mul_add, Int.add_assoc]
    · rw [isum_more (m := m) h1 (by omega), gu_ne (by omega)]
      omega
theorem isum_nn {f B W : Int → Int} : ∀ {m : Nat}, (∀ k : Int, 0 ≤ k → k < (m : Int) → 0 ≤ f (B k) ∧ 0 ≤ W k) → 0 ≤ isum f B W m
  | 0, _ => Int.le_refl _
  | m + 1, h => by
    have ih := isum_nn (f := f) (B := B) (W := W) (m := m) (fun k h1 h2 => h k h1 (by omega))
    have hk := h (m : Int) (by omega) (by omega)
    have := Int.mul_nonneg hk.1 hk.2
    unfold isum
    omega
theorem isum_le {f g B W : Int → Int} : ∀ {m : Nat}, (∀ k : Int, 0 ≤ k → k < (m : Int) → f (B k) ≤ g (B k) ∧ 0 ≤ W k) → isum f B W m ≤ isum g B W m
  | 0, _ => Int.le_refl _
  | m + 1, h => by
    have ih := isum_le (f := f) (g := g) (B := B) (W := W) (m := m) (fun k h1 h2 => h k h1 (by omega))
    have hk := h (m : Int) (by omega) (by omega)
    have := Int.mul_le_mul_of_nonneg_right hk.1 hk.2
    unfold isum
    omega
theorem isum_mul {f B W : Int → Int} (c : Int) : ∀ {m : Nat}, isum (fun b => f b * c) B W m = isum f B W m * c
  | 0 => by simp [isum]
  | m + 1 => by
    unfold isum
    rw [isum_mul c, Int.add_mul]
    congr 1
    ac_rfl
def one1 : Int → Int := fun _ => 1
/-- boards all apart, weights above 0 -/
def LK (B W : Int → Int) (m : Int) : Prop := (0 ≤ m ∧ m ≤ 64) ∧ (∀ k l : Int, 0 ≤ k → k < m → 0 ≤ l → l < m → B k = B l → k = l) ∧ (∀ k : Int, 0 ≤ k → k < m → 0 < W k)
/-- one weight is no more than all together -/
theorem isum_one {B W : Int → Int} {k : Int} : ∀ {m : Nat}, 0 ≤ k → k < (m : Int) → (∀ j : Int, 0 ≤ j → j < (m : Int) → 0 < W j) → W k ≤ isum one1 B W m
  | 0, h1, h2, _ => by omega
  | m + 1, h1, h2, h => by
    have nn := isum_nn (f := one1) (B := B) (W := W) (m := m) (fun j g1 g2 => ⟨by show (0 : Int) ≤ 1; decide, by have := h j g1 (by omega); omega⟩)
    have hm := h (m : Int) (by omega) (by omega)
    have e1 : one1 (B (m : Int)) * W (m : Int) = W (m : Int) := Int.one_mul _
    unfold isum
    rw [e1]
    by_cases e : k = (m : Int)
    · rw [e]
      omega
    · have := isum_one (B := B) (m := m) h1 (by omega) (fun j g1 g2 => h j g1 (by omega))
      omega
theorem LK.one {B W : Int → Int} {m k : Int} (h : LK B W m) (h1 : 0 ≤ k) (h2 : k < m) : W k ≤ isum one1 B W m.toNat := isum_one h1 (by omega) (fun j g1 g2 => h.2.2 j g1 (by omega))
theorem LK.nn {B W : Int → Int} {m k : Int} (h : LK B W m) : 0 ≤ isum one1 B W m.toNat := isum_nn (fun j g1 g2 => ⟨by show (0 : Int) ≤ 1; decide, by have := h.2.2 j g1 (by omega); omega⟩)
/-- the sum over the first ones is no more than the sum over all -/
theorem isum_mono {f B W : Int → Int} {m : Nat} : ∀ {j : Nat}, (∀ k : Int, 0 ≤ k → k < ((m + j : Nat) : Int) → 0 ≤ f (B k) ∧ 0 ≤ W k) → isum f B W m ≤ isum f B W (m + j)
  | 0, _ => Int.le_refl _
  | j + 1, h => by
    have ih := isum_mono (f := f) (B := B) (W := W) (m := m) (j := j) (fun k h1 h2 => h k h1 (by omega))
    have hk := h ((m + j : Nat) : Int) (by omega) (by omega)
    have := Int.mul_nonneg hk.1 hk.2
    show isum f B W m ≤ isum f B W (m + j) + f (B ((m + j : Nat) : Int)) * W ((m + j : Nat) : Int)
    omega
/-! ===== a day ===== -/
def TRN (S : Int → Int) (b day : Int) : Int := dg b (S 0 - 1 - day % S 0)
def WHO (S : Int → Int) (c rf b day first : Int) : Int := if first = -7 then ASK S c rf b (TRN S b day) day else first
def CHW (S : Int → Int) (a w : Int) : Int := if w = -5 then 0 else S (130 + 6 * a + w)
def STEP (S : Int → Int) (c rf day first : Int) (f : Int → Int) : Int → Int := fun b =>
  (if 0 < CHW S (TRN S b day) (WHO S c rf b day first) then f (WON S c b (TRN S b day) (WHO S c rf b day first)) * CHW S (TRN S b day) (WHO S c rf b day first) else 0) +
  (if CHW S (TRN S b day) (WHO S c rf b day first) < 100 then f b * (100 - CHW S (TRN S b day) (WHO S c rf b day first)) else 0)
/-- f behind k days -/
def EXP (S : Int → Int) (c rf first : Int) : Nat → (Int → Int) → (Int → Int)
  | 0, f => f
  | k + 1, f => EXP S c rf first k (STEP S c rf (S 2 + (k : Int)) (if k = 0 then first else -7) f)
theorem EXP_s (S : Int → Int) (c rf first : Int) (f : Int → Int) {k : Int} (h : 0 ≤ k) : EXP S c rf first (k + 1).toNat f = EXP S c rf first k.toNat (STEP S c rf (S 2 + k) (if k = 0 then first else -7) f) := by
  rw [show (k + 1).toNat = k.toNat + 1 by omega]
  show EXP S c rf first k.toNat (STEP S c rf (S 2 + ((k.toNat : Nat) : Int)) (if k.toNat = 0 then first else -7) f) = _
  rw [Int.toNat_of_nonneg h]
  congr 2
  by_cases e : k = 0
  · rw [if_pos e, if_pos (by omega)]
  · rw [if_neg e, if_neg (by omega)]
theorem st2 (x y W ch : Int) : x * (W * ch) + y * (W * (100 - ch)) = (x * ch + y * (100 - ch)) * W := by
  rw [Int.add_mul]
  congr 1 <;> ac_rfl
theorem STEP_one {S : Int → Int} {c rf day first : Int} {b : Int} (hc : 0 ≤ CHW S (TRN S b day) (WHO S c rf b day first) ∧ CHW S (TRN S b day) (WHO S c rf b day first) ≤ 100) : STEP S c rf day first one1 b = 100 := by
  unfold STEP one1
  generalize CHW S (TRN S b day) (WHO S c rf b day first) = x at hc
  (repeat' split) <;> omega
theorem TRN_in {S : Int → Int} {b day : Int} (h : VB (S 0) b) (h0 : 0 < S 0) (hd : 0 ≤ day) : (0 ≤ TRN S b day ∧ TRN S b day < S 0) ∧ rk (S 0) b (TRN S b day) = S 0 - 1 - day % S 0 := by
  have h1 := Int.emod_nonneg day (show S 0 ≠ 0 by omega)
  have h2 := Int.emod_lt_of_pos day h0
  exact ⟨VB_dg h (by omega) (by omega), rk_dg h (by omega) (by omega)⟩
/-- who is told: nobody, by the kind, or one that stands higher -/
def FST (S : Int → Int) (b day first : Int) : Prop := first = -7 ∨ first = -5 ∨ ((0 ≤ first ∧ first < S 0) ∧ rk (S 0) b first < S 0 - 1 - day % S 0)
theorem WHO_in {S : Int → Int} {c rf b day first : Int} (h : VB (S 0) b) (h0 : 0 < S 0) (hd : 0 ≤ day) (hf : FST S b day first) : WHO S c rf b day first = -5 ∨ ((0 ≤ WHO S c rf b day first ∧ WHO S c rf b day first < S 0) ∧ rk (S 0) b (WHO S c rf b day first) < rk (S 0) b (TRN S b day)) := by
  have ht := TRN_in h h0 hd
  unfold WHO
  split
  · exact ASK_in h ht.1
  · rcases hf with e | e | e
    · contradiction
    · exact Or.inl e
    · refine Or.inr ⟨e.1, ?_⟩
      rw [ht.2]
      exact e.2
theorem CHW_in {S : Int → Int} {c rf b day first : Int} (hR : RI S) (h : VB (S 0) b) (h0 : 0 < S 0) (hd : 0 ≤ day) (hf : FST S b day first) : 0 ≤ CHW S (TRN S b day) (WHO S c rf b day first) ∧ CHW S (TRN S b day) (WHO S c rf b day first) ≤ 100 := by
  have ht := TRN_in h h0 hd
  have hw := WHO_in (c := c) (rf := rf) h h0 hd hf
  unfold CHW
  split
  · omega
  · rcases hw with e | e
    · contradiction
    · exact hR.ch ht.1 e.1
/-! ===== lowest terms ===== -/
def GCD (a b : Int) : Int := ((Int.gcd a b : Nat) : Int)
def LOW (up low part : Int) : Int := if part = 0 then up.tdiv (GCD up low) else low.tdiv (GCD up low)
theorem gcd_step {x y : Int} (h1 : 0 ≤ x) (h2 : 0 < y) : GCD y (x % y) = GCD x y := by
  obtain ⟨m, rfl⟩ := Int.eq_ofNat_of_zero_le h1
  obtain ⟨n, rfl⟩ := Int.eq_ofNat_of_zero_le (Int.le_of_lt h2)
  unfold GCD Int.gcd
  rw [← Int.natCast_emod, Int.natAbs_natCast, Int.natAbs_natCast, Int.natAbs_natCast, Nat.gcd_comm, ← Nat.gcd_rec, Nat.gcd_comm]
theorem gcd_0 {x : Int} (h : 0 ≤ x) : GCD x 0 = x := by
  unfold GCD
  rw [Int.gcd_zero]
  omega
theorem gcd_abs {x y z : Int} (h : z = x ∨ z = -x) : GCD z y = GCD x y := by
  unfold GCD Int.gcd
  rcases h with rfl | rfl
  · rfl
  · rw [Int.natAbs_neg]
theorem gcd_pos {x y : Int} (h : 0 < y) : 0 < GCD x y ∧ GCD x y ≤ y := by
  have h1 : 0 < Int.gcd x y := Int.gcd_pos_of_ne_zero_right x (by omega)
  have h2 : (Int.gcd x y : Int) ≤ y := Int.le_of_dvd h (Int.gcd_dvd_right ..)
  unfold GCD
  omega
theorem tdiv_bd {x d : Int} (h : 0 < d) : -(x.natAbs : Int) ≤ x.tdiv d ∧ x.tdiv d ≤ (x.natAbs : Int) := by
  have h3 : (x.tdiv d).natAbs ≤ x.natAbs := by rw [Int.natAbs_tdiv]; exact Nat.div_le_self _ _
  omega
/-! ===== the likeliest ===== -/
/-- a comes ahead of b, as a row of names -/
def LEX (n a b : Int) : Prop := ∃ k : Int, (0 ≤ k ∧ k < n) ∧ (∀ j : Int, 0 ≤ j → j < k → dg a j = dg b j) ∧ dg a k < dg b k
theorem LEX_asym {n a b : Int} (h : LEX n a b) : ¬ LEX n b a := by
  rintro ⟨l, hl, q1, q2⟩
  obtain ⟨k, hk, p1, p2⟩ := h
  rcases Int.lt_trichotomy k l with e | e | e
  · have := q1 k hk.1 e
    omega
  · subst e
    omega
  · have := p1 l hl.1 e
    omega
theorem first_diff {n a b : Int} (h : ∃ r : Int, (0 ≤ r ∧ r < n) ∧ dg a r ≠ dg b r) : ∃ k : Int, (0 ≤ k ∧ k < n) ∧ (∀ j : Int, 0 ≤ j → j < k → dg a j = dg b j) ∧ dg a k ≠ dg b k := by
  obtain ⟨r, hr, hd⟩ := h
  have : ∀ m : Nat, (∃ r : Int, (0 ≤ r ∧ r < (m : Int)) ∧ dg a r ≠ dg b r) → ∃ k : Int, (0 ≤ k ∧ k < (m : Int)) ∧ (∀ j : Int, 0 ≤ j → j < k → dg a j = dg b j) ∧ dg a k ≠ dg b k := fun m => by
    induction m with
    | zero => rintro ⟨r, hr, _⟩; omega
    | succ m ih =>
      rintro ⟨r, hr, hd⟩
      by_cases c : ∃ r : Int, (0 ≤ r ∧ r < (m : Int)) ∧ dg a r ≠ dg b r
      · obtain ⟨k, hk, q⟩ := ih c
        exact ⟨k, by omega, q⟩
      · refine ⟨r, hr, fun j g1 g2 => ?_, hd⟩
        apply Classical.byContradiction
        intro g
        exact c ⟨j, by omega, g⟩
  obtain ⟨k, hk, q⟩ := this n.toNat ⟨r, by omega, hd⟩
  exact ⟨k, by omega, q⟩
theorem LEX_total {n a b : Int} (ha : VB n a) (hb : VB n b) (h : a ≠ b) : LEX n a b ∨ LEX n b a := by
  have : ∃ r : Int, (0 ≤ r ∧ r < n) ∧ dg a r ≠ dg b r := by
    apply Classical.byContradiction
    intro g
    refine h (VB_ext ha hb (fun r h1 h2 => ?_))
    apply Classical.byContradiction
    intro g2
    exact g ⟨r, ⟨h1, h2⟩, g2⟩
  obtain ⟨k, hk, q1, q2⟩ := first_diff this
  rcases Int.lt_or_gt_of_ne q2 with e | e
  · exact Or.inl ⟨k, hk, q1, e⟩
  · exact Or.inr ⟨k, hk, fun j g1 g2 => (q1 j g1 g2).symm, e⟩
theorem LEX_trans {n a b c : Int} (h : LEX n a b) (g : LEX n b c) : LEX n a c := by
  obtain ⟨k, hk, p1, p2⟩ := h
  obtain ⟨l, hl, q1, q2⟩ := g
  rcases Int.lt_trichotomy k l with e | e | e
  · exact ⟨k, hk, fun j g1 g2 => (p1 j g1 g2).trans (q1 j g1 (by omega)), by have := q1 k hk.1 e; omega⟩
  · subst e
    exact ⟨k, hk, fun j g1 g2 => (p1 j g1 g2).trans (q1 j g1 g2), by omega⟩
  · exact ⟨l, hl, fun j g1 g2 => (p1 j g1 (by omega)).trans (q1 j g1 g2), by have := p1 l hl.1 e; omega⟩
/-- b is the likeliest by the weights wt of boards: no other weighs more, nor as much and comes ahead -/
def LIK (n : Int) (wt : Int → Int) (b : Int) : Prop := VB n b ∧ 0 < wt b ∧ ∀ x : Int, VB n x → 0 < wt x → x = b ∨ wt x < wt b ∨ (wt x = wt b ∧ LEX n b x)
theorem LIK_uniq {n a b : Int} {wt : Int → Int} (ha : LIK n wt a) (hb : LIK n wt b) : a = b := by
  rcases ha.2.2 b hb.1 hb.2.1 with e | e | e
  · exact e.symm
  · rcases hb.2.2 a ha.1 ha.2.1 with q | q | q
    · exact q
    · omega
    · omega
  · rcases hb.2.2 a ha.1 ha.2.1 with q | q | q
    · exact q
    · omega
    · exact absurd q.2 (LEX_asym e.2)
/-- the weight of one board in a list of boards apart -/
theorem isum_at {B W : Int → Int} {k : Int} : ∀ {m : Nat}, 0 ≤ k → k < (m : Int) → (∀ i j : Int, 0 ≤ i → i < (m : Int) → 0 ≤ j → j < (m : Int) → B i = B j → i = j) → isum (fun x => bI (x = B k)) B W m = W k
  | 0, h1, h2, _ => by omega
  | m + 1, h1, h2, h => by
    unfold isum
    by_cases e : k = (m : Int)
    · subst e
      have z : isum (fun x => bI (x = B (m : Int))) B W m = isum (fun _ => 0) B W m := isum_congr (fun j g1 g2 => by
        rw [bI_f (fun q => by have := h j (m : Int) g1 (by omega) (by omega) (by omega) q; omega)])
      have z2 : isum (fun _ => 0) B W m = 0 := by
        have := isum_mul (f := one1) (B := B) (W := W) (0 : Int) (m := m)
        simp only [Int.mul_zero] at this
        exact this
      rw [z, z2, bI_t rfl]
      omega
    · rw [isum_at (m := m) h1 (by omega) (fun i j g1 g2 g3 g4 => h i j g1 (by omega) g3 (by omega)), bI_f (fun q => by have := h (m : Int) k (by omega) (by omega) h1 (by omega) q; omega)]
      omega
theorem isum_not {B W : Int → Int} {b : Int} : ∀ {m : Nat}, (∀ k : Int, 0 ≤ k → k < (m : Int) → B k ≠ b) → isum (fun x => bI (x = b)) B W m = 0
  | 0, _ => rfl
  | m + 1, h => by
    unfold isum
    rw [isum_not (m := m) (fun k h1 h2 => h k h1 (by omega)), bI_f (h (m : Int) (by omega) (by omega))]
    omega
/-- the weight of a board behind n days -/
def WT (S : Int → Int) (c rf first n b0 : Int) (x : Int) : Int := EXP S c rf first n.toNat (fun b => bI (b = x)) b0
