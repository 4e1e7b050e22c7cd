
/-! ===== sums over a range ===== -/
def sumN (f : Int → Int) : Nat → Int
  | 0 => 0
  | k + 1 => sumN f k + f (k : Int)
def rs (f : Int → Int) (a b : Int) : Int := sumN (fun t => f (a + t)) (b - a).toNat
theorem rs_0 (f : Int → Int) (a : Int) : rs f a a = 0 := by
  unfold rs
  rw [show (a - a).toNat = 0 by omega]
  rfl
theorem rs_s (f : Int → Int) {a b : Int} (h : a ≤ b) : rs f a (b + 1) = rs f a b + f b := by
  unfold rs
  rw [show (b + 1 - a).toNat = (b - a).toNat + 1 by omega]
  show sumN _ _ + f (a + (((b - a).toNat : Nat) : Int)) = _
  rw [show a + (((b - a).toNat : Nat) : Int) = b by omega]
theorem sumN_bd {f : Int → Int} {M : Int} : ∀ {k : Nat}, (∀ j : Int, 0 ≤ j → j < (k : Int) → 0 ≤ f j ∧ f j ≤ M) → 0 ≤ sumN f k ∧ sumN f k ≤ M * (k : Int)
  | 0, _ => by simp [sumN]
  | k + 1, h => by
    have ih := sumN_bd (k := k) (fun j g1 g2 => h j g1 (by omega))
    have hk := h (k : Int) (by omega) (by omega)
    unfold sumN
    rw [show ((k + 1 : Nat) : Int) = (k : Int) + 1 by omega, Int.mul_add, Int.mul_one]
    omega
theorem rs_bd {f : Int → Int} {a b M : Int} (h0 : a ≤ b) (h : ∀ j : Int, a ≤ j → j < b → 0 ≤ f j ∧ f j ≤ M) : 0 ≤ rs f a b ∧ rs f a b ≤ M * (b - a) := by
  have := sumN_bd (f := fun t => f (a + t)) (M := M) (k := (b - a).toNat) (fun j g1 g2 => h (a + j) (by omega) (by omega))
  rw [Int.toNat_of_nonneg (by omega)] at this
  exact this
/-! ===== orders ===== -/
def OD (o : Int) : Prop := (0 ≤ o ∧ o < 262144) ∧ ∀ r : Int, 0 ≤ r → r < 6 → dg o r < 6
theorem OD_dg {o r : Int} (h : OD o) (h1 : 0 ≤ r) (h2 : r < 6) : 0 ≤ dg o r ∧ dg o r < 6 := ⟨(dg_bd o r).1, h.2 r h1 h2⟩
theorem OD_0 : OD 0 := ⟨by decide, fun r _ _ => by unfold dg; rw [Int.zero_ediv]; decide⟩
theorem OD_sw {o i j : Int} (h : OD o) (hi : 0 ≤ i ∧ i < 6) (hj : 0 ≤ j ∧ j < 6) : OD (swd 6 o i j) := by
  have hb := cd_bd (f := fun k => dg o (swi i j k)) (k := 6) (fun r _ _ => dg_bd o _)
  refine ⟨hb, fun r h1 h2 => ?_⟩
  unfold swd
  rw [brd_dg h1 h2]
  have := swi_in hi hj h1 h2
  exact h.2 _ this.1 this.2
theorem sw_bits6 {b i j x y : Int} (h : 0 ≤ b ∧ b < 262144) (hi : 0 ≤ i ∧ i < 6) (hj : 0 ≤ j ∧ j < 6) (hij : i ≠ j) (hx : dg b j = x) (hy : dg b i = y) : ior (ior (andn (andn b (7 * 8 ^ i.toNat)) (7 * 8 ^ j.toNat)) (x * 8 ^ i.toNat)) (y * 8 ^ j.toNat) = swd 6 b i j := by
  have b1 := andn_bd (x := b) (y := 7 * 8 ^ i.toNat) h.1
  have b2 := andn_bd (x := andn b (7 * 8 ^ i.toNat)) (y := 7 * 8 ^ j.toNat) b1.1
  have hx8 : 0 ≤ x ∧ x < 8 := by rw [← hx]; exact dg_bd b j
  have hy8 : 0 ≤ y ∧ y < 8 := by rw [← hy]; exact dg_bd b i
  have px := Int.mul_nonneg hx8.1 (Int.le_of_lt (p8 i.toNat))
  have py := Int.mul_nonneg hy8.1 (Int.le_of_lt (p8 j.toNat))
  have low : ∀ {v k : Int}, 0 ≤ v ∧ v < 8 → 0 ≤ k ∧ k < 6 → v * 8 ^ k.toNat < 262144 := fun {v k} hv hk => by
    have h3 : v * 8 ^ k.toNat ≤ 7 * 8 ^ k.toNat := Int.mul_le_mul_of_nonneg_right (by omega) (Int.le_of_lt (p8 _))
    have : k.toNat = 0 ∨ k.toNat = 1 ∨ k.toNat = 2 ∨ k.toNat = 3 ∨ k.toNat = 4 ∨ k.toNat = 5 := by omega
    rcases this with e | e | e | e | e | e <;> rw [e] at h3 ⊢ <;> omega
  have hb := cd_bd (f := fun k => dg b (swi i j k)) (k := 6) (fun r _ _ => dg_bd b _)
  refine dg_ext (k := 6) (ior_nn _ _) ?_ hb.1 hb.2 (fun r h1 h2 => ?_)
  · refine ior_lt 18 (ior_nn _ _) py (ior_lt 18 b2.1 px ?_ ?_) ?_
    · show _ < 262144; omega
    · exact low hx8 hi
    · exact low hy8 hj
  · rw [dg_or (ior_nn _ _) py, dg_or b2.1 px, dg_andn b1.1 (by omega) (by omega), dg_andn h.1 (by omega) (by omega), dg_sh hx8 hi.1 h1, dg_sh hy8 hj.1 h1]
    show _ = dg (swd 6 b i j) r
    unfold swd
    rw [brd_dg h1 (by omega)]
    unfold swi
    have z := (dg_bd b r).1
    by_cases c1 : r = i
    · subst c1
      rw [if_neg hij, if_pos rfl, if_pos rfl, if_neg hij, if_pos rfl, hx, ior_0 (ior_nn _ _)]
      unfold ior
      rw [show (0 : Int).toNat = 0 from rfl, Nat.zero_or, Int.toNat_of_nonneg hx8.1]
    · by_cases c2 : r = j
      · subst c2
        rw [if_pos rfl, if_neg c1, if_pos rfl, if_neg c1, if_pos rfl, hy, ior_0 (by decide)]
        unfold ior
        rw [show (0 : Int).toNat = 0 from rfl, Nat.zero_or, Int.toNat_of_nonneg hy8.1]
      · rw [if_neg c2, if_neg c1, if_neg c1, if_neg c2, if_neg c1, if_neg c2, ior_0 z, ior_0 z]
theorem OD_add {o k d : Int} (h : OD o) (hd : 0 ≤ d ∧ d < 6) (ho : o < 8 ^ d.toNat) (hk : 0 ≤ k ∧ k < 6) : OD (ior o (k * 8 ^ d.toNat)) ∧ ior o (k * 8 ^ d.toNat) < 8 ^ (d + 1).toNat := by
  have e8 : (8 : Int) ^ d.toNat = 2 ^ (3 * d.toNat) := (p38 _).symm
  have e : ior o (k * 8 ^ d.toNat) = o + k * 8 ^ d.toNat := by
    rw [e8]; exact ior_add h.1.1 (by rw [← e8]; exact ho) hk.1
  have h3 : k * 8 ^ d.toNat ≤ 5 * 8 ^ d.toNat := Int.mul_le_mul_of_nonneg_right (by omega) (Int.le_of_lt (p8 _))
  have hkp := Int.mul_nonneg hk.1 (Int.le_of_lt (p8 d.toNat))
  have h9 : (8 : Int) ^ (d + 1).toNat = 8 * 8 ^ d.toNat := by rw [show (d + 1).toNat = d.toNat + 1 by omega, p8s]
  have hp := p8_le (n := d + 1) (by omega)
  have h00 := h.1.1
  refine ⟨⟨by rw [e]; omega, fun r h1 h2 => ?_⟩, by rw [e, h9]; omega⟩
  rw [dg_or h.1.1 hkp, dg_sh (by omega) hd.1 h1]
  have hz := OD_dg h h1 h2
  by_cases c : r = d
  · rw [if_pos c, c]
    have : dg o d = 0 := by unfold dg; rw [Int.ediv_eq_zero_of_lt h.1.1 ho]; rfl
    rw [this]
    unfold ior
    rw [show (0 : Int).toNat = 0 from rfl, Nat.zero_or, Int.toNat_of_nonneg hk.1]
    exact hk.2
  · rw [if_neg c, ior_0 hz.1]; exact hz.2
/-- one round's pair, then the rest -/
def SR1 (S : Int → Int) (o k : Int) : Int := if 50 < S (130 + 6 * dg o (S (893 + 2 * k + 1)) + dg o (S (893 + 2 * k))) then swd 6 o (S (893 + 2 * k)) (S (893 + 2 * k + 1)) else o
def SRT (S : Int → Int) (o : Int) : Nat → Int
  | 0 => o
  | k + 1 => SR1 S (SRT S o k) (k : Int)
theorem SRT_s (S : Int → Int) (o : Int) {k : Int} (h : 0 ≤ k) : SRT S o (k + 1).toNat = SR1 S (SRT S o k.toNat) k := by
  rw [show (k + 1).toNat = k.toNat + 1 by omega]
  show SR1 S _ ((k.toNat : Nat) : Int) = _
  rw [Int.toNat_of_nonneg h]
def SOK (S : Int → Int) (o : Int) : Nat → Int
  | 0 => 1
  | k + 1 => if SOK S o k = 1 ∧ ¬ 50 < S (130 + 6 * dg o ((k : Int) + 1) + dg o (k : Int)) then 1 else 0
theorem SOK_s (S : Int → Int) (o : Int) {i : Int} (h : 1 ≤ i) : SOK S o i.toNat = if SOK S o (i - 1).toNat = 1 ∧ ¬ 50 < S (130 + 6 * dg o i + dg o (i - 1)) then 1 else 0 := by
  obtain ⟨k, rfl⟩ : ∃ k : Nat, i = (k : Int) + 1 := ⟨(i - 1).toNat, by omega⟩
  rw [show ((k : Int) + 1).toNat = k + 1 by omega, show (k : Int) + 1 - 1 = (k : Int) by omega, show ((k : Int)).toNat = k by omega]
  rfl
theorem SOK_01 (S : Int → Int) (o : Int) (k : Nat) : SOK S o k = 0 ∨ SOK S o k = 1 := by
  cases k with
  | zero => exact Or.inr rfl
  | succ k =>
    unfold SOK
    split
    · exact Or.inr rfl
    · exact Or.inl rfl
def v_sorted (S : Int → Int) (o : Int) : Int := SOK S (SRT S o (S 3).toNat) (S 0 - 1).toNat
def v_below (S : Int → Int) (o : Int) : Int := rs (fun i => rs (fun j => S (929 + 6 * dg o j + dg o i)) (i + 1) (S 0)) 0 (S 0)
theorem below_in {S : Int → Int} {o i j : Int} (hR : RI S) (h : OD o) (hi : 0 ≤ i) (hj : i + 1 ≤ j) (hn : j ≤ S 0) : 0 ≤ rs (fun j => S (929 + 6 * dg o j + dg o i)) (i + 1) j ∧ rs (fun j => S (929 + 6 * dg o j + dg o i)) (i + 1) j ≤ 99 * (j - (i + 1)) := by
  have h6 := hR.n
  exact rs_bd hj (fun q g1 g2 => by
    have a1 := OD_dg h (r := q) (by omega) (by omega)
    have a2 := OD_dg h (r := i) (by omega) (by omega)
    exact hR.pa _ (by omega) (by omega))
theorem below_out {S : Int → Int} {o i : Int} (hR : RI S) (h : OD o) (hi : 0 ≤ i) (hn : i ≤ S 0) : 0 ≤ rs (fun i => rs (fun j => S (929 + 6 * dg o j + dg o i)) (i + 1) (S 0)) 0 i ∧ rs (fun i => rs (fun j => S (929 + 6 * dg o j + dg o i)) (i + 1) (S 0)) 0 i ≤ 600 * (i - 0) := by
  have h6 := hR.n
  exact rs_bd hi (fun q g1 g2 => by
    have := below_in hR h g1 (j := S 0) (by omega) (by omega)
    omega)
/-- all orders of n names, the first rung's name first -/
def flatN (f : Int → List Int) : Nat → List Int
  | 0 => []
  | k + 1 => flatN f k ++ f (k : Int)
theorem flatN_s (f : Int → List Int) {k : Int} (h : 0 ≤ k) : flatN f (k + 1).toNat = flatN f k.toNat ++ f k := by
  rw [show (k + 1).toNat = k.toNat + 1 by omega]
  show flatN f k.toNat ++ f ((k.toNat : Nat) : Int) = _
  rw [Int.toNat_of_nonneg h]
theorem flatN_mem {f : Int → List Int} {x : Int} : ∀ {k : Nat}, x ∈ flatN f k → ∃ j : Int, (0 ≤ j ∧ j < (k : Int)) ∧ x ∈ f j
  | 0, h => by simp [flatN] at h
  | k + 1, h => by
    unfold flatN at h
    rcases List.mem_append.mp h with h | h
    · obtain ⟨j, h1, h2⟩ := flatN_mem h
      exact ⟨j, by omega, h2⟩
    · exact ⟨(k : Int), by omega, h⟩
theorem flatN_len {f : Int → List Int} {M : Int} : ∀ {k : Nat}, (∀ j : Int, 0 ≤ j → j < (k : Int) → ((f j).length : Int) ≤ M) → ((flatN f k).length : Int) ≤ (k : Int) * M
  | 0, _ => by simp [flatN]
  | k + 1, h => by
    have ih := flatN_len (k := k) (fun j g1 g2 => h j g1 (by omega))
    have hk := h (k : Int) (by omega) (by omega)
    unfold flatN
    rw [List.length_append, show ((k + 1 : Nat) : Int) = (k : Int) + 1 by omega, Int.add_mul, Int.one_mul]
    omega
def PRM (n : Int) : Nat → Int → Int → Int → List Int
  | 0 => fun o _ _ => [o]
  | m + 1 => fun o u d => flatN (fun k => if u / 2 ^ k.toNat % 2 = 1 then [] else PRM n m (ior o (k * 8 ^ d.toNat)) (ior u (2 ^ k.toNat)) (d + 1)) n.toNat
def PRF (n : Int) (m : Nat) (o u d : Int) : Int → List Int := fun k => if u / 2 ^ k.toNat % 2 = 1 then [] else PRM n m (ior o (k * 8 ^ d.toNat)) (ior u (2 ^ k.toNat)) (d + 1)
theorem PRM_s (n : Int) (m : Nat) (o u d : Int) : PRM n (m + 1) o u d = flatN (PRF n m o u d) n.toNat := rfl
theorem PRM_OD {n : Int} (hn : n ≤ 6) : ∀ (m : Nat) (o u d : Int), OD o → 0 ≤ d → d + (m : Int) ≤ 6 → o < 8 ^ d.toNat → ∀ x ∈ PRM n m o u d, OD x
  | 0, o, u, d, h, _, _, _, x, hx => by
    rw [show PRM n 0 o u d = [o] from rfl] at hx
    rw [List.mem_singleton.mp hx]; exact h
  | m + 1, o, u, d, h, h0, h6, hlt, x, hx => by
    rw [PRM_s] at hx
    obtain ⟨j, hj, hx⟩ := flatN_mem hx
    unfold PRF at hx
    split at hx
    · cases hx
    · have := OD_add h (d := d) (k := j) (by omega) hlt (by omega)
      exact PRM_OD hn m _ _ _ this.1 (by omega) (by omega) this.2 x hx
theorem PRM_len {n : Int} (hn : 0 ≤ n ∧ n ≤ 6) : ∀ (m : Nat) (o u d : Int), ((PRM n m o u d).length : Int) ≤ 6 ^ m
  | 0, o, u, d => by show (([o].length : Nat) : Int) ≤ _; simp
  | m + 1, o, u, d => by
    rw [PRM_s]
    have h0 : (0 : Int) < 6 ^ m := Int.pow_pos (by decide)
    have := flatN_len (f := PRF n m o u d) (M := 6 ^ m) (k := n.toNat) (fun j _ _ => by
      unfold PRF
      split
      · show ((0 : Nat) : Int) ≤ _; omega
      · exact PRM_len hn m _ _ _)
    rw [Int.toNat_of_nonneg hn.1] at this
    have h2 : n * 6 ^ m ≤ 6 * 6 ^ m := Int.mul_le_mul_of_nonneg_right hn.2 (by omega)
    rw [Int.pow_succ]
    omega
/-- what one order does to the counts: orders, sorted, fewest, the best order -/
def LEAF (S : Int → Int) (q : Int × Int × Int × Int) (o : Int) : Int × Int × Int × Int := (q.1 + 1, q.2.1 + v_sorted S o, if q.2.2.1 = -1 ∨ v_below S o < q.2.2.1 then (v_below S o, o) else q.2.2)
def GO (S : Int → Int) (m : Nat) (o u d : Int) (q : Int × Int × Int × Int) : Int × Int × Int × Int := (PRM (S 0) m o u d).foldl (LEAF S) q
def BQ (t : Int) (q : Int × Int × Int × Int) : Prop := (0 ≤ q.1 ∧ q.1 ≤ t) ∧ (0 ≤ q.2.1 ∧ q.2.1 ≤ t) ∧ (-1 ≤ q.2.2.1 ∧ q.2.2.1 ≤ 3600) ∧ (0 ≤ q.2.2.2 ∧ q.2.2.2 < 262144)
theorem BQ_le {t t2 : Int} {q : Int × Int × Int × Int} (h : BQ t q) (h2 : t ≤ t2) : BQ t2 q := ⟨⟨h.1.1, Int.le_trans h.1.2 h2⟩, ⟨h.2.1.1, Int.le_trans h.2.1.2 h2⟩, h.2.2.1, h.2.2.2⟩
theorem LEAF_BQ {S : Int → Int} {t o : Int} {q : Int × Int × Int × Int} (hR : RI S) (h : BQ t q) (ho : OD o) : BQ (t + 1) (LEAF S q o) := by
  have h1 := SOK_01 S (SRT S o (S 3).toNat) (S 0 - 1).toNat
  have hn := hR.n
  have h2 := below_out hR ho (i := S 0) hn.1 (Int.le_refl _)
  obtain ⟨a1, a2, a3, a4⟩ := h
  unfold LEAF BQ v_sorted
  refine ⟨by dsimp only; omega, by dsimp only; omega, ?_, ?_⟩
  · dsimp only
    split
    · unfold v_below; dsimp only; omega
    · exact a3
  · dsimp only
    split
    · exact ho.1
    · exact a4
theorem fold_BQ {S : Int → Int} (hR : RI S) : ∀ {l : List Int} {t : Int} {q : Int × Int × Int × Int}, BQ t q → (∀ x ∈ l, OD x) → BQ (t + (l.length : Int)) (l.foldl (LEAF S) q)
  | [], t, q, h, _ => by simpa using h
  | x :: l, t, q, h, ho => by
    have := fold_BQ hR (LEAF_BQ hR h (ho x (List.mem_cons_self ..))) (fun y hy => ho y (List.mem_cons_of_mem _ hy))
    rw [List.length_cons, show t + (((l.length + 1 : Nat)) : Int) = t + 1 + (l.length : Int) by omega]
    exact this
theorem GO_BQ {S : Int → Int} {m : Nat} {o u d t : Int} {q : Int × Int × Int × Int} (hR : RI S) (h : BQ t q) (ho : OD o) (hd : 0 ≤ d ∧ d + (m : Int) ≤ 6) (hl : o < 8 ^ d.toNat) : BQ (t + 6 ^ m) (GO S m o u d q) :=
  BQ_le (fold_BQ hR h (PRM_OD hR.n.2 m o u d ho hd.1 hd.2 hl)) (Int.add_le_add_left (PRM_len hR.n m o u d) t)
def ALL (S : Int → Int) : Int × Int × Int × Int := GO S (S 0).toNat 0 0 0 (0, 0, -1, 0)
theorem p6le {n : Int} (h : 0 ≤ n ∧ n ≤ 6) : (6 : Int) ^ n.toNat ≤ 46656 := by
  have : n.toNat = 0 ∨ n.toNat = 1 ∨ n.toNat = 2 ∨ n.toNat = 3 ∨ n.toNat = 4 ∨ n.toNat = 5 ∨ n.toNat = 6 := by omega
  rcases this with e | e | e | e | e | e | e <;> rw [e] <;> decide
theorem ALL_BQ {S : Int → Int} (hR : RI S) : BQ 46656 (ALL S) := by
  have hn := hR.n
  have h := GO_BQ (m := (S 0).toNat) (u := 0) (d := 0) hR (show BQ 0 (0, 0, -1, 0) from ⟨by decide, by decide, by decide, by decide⟩) OD_0 (by omega) (by decide)
  exact BQ_le h (by have := p6le hn; omega)
def RFN (S : Int → Int) : Nat → Int
  | 0 => 1
  | k + 1 => if S 0 ≤ S (893 + 2 * (k : Int) + 1) then 0 else RFN S k
theorem RFN_s (S : Int → Int) {k : Int} (h : 0 ≤ k) : RFN S (k + 1).toNat = if S 0 ≤ S (893 + 2 * k + 1) then 0 else RFN S k.toNat := by
  rw [show (k + 1).toNat = k.toNat + 1 by omega]
  show (if S 0 ≤ S (893 + 2 * ((k.toNat : Nat) : Int) + 1) then 0 else RFN S k.toNat) = _
  rw [Int.toNat_of_nonneg h]
theorem RFN_0 {S : Int → Int} {k : Int} (h : 0 ≤ k) (hb : S 0 ≤ S (893 + 2 * k + 1)) : ∀ m : Nat, k < (m : Int) → ¬ RFN S m = 1
  | 0, g => by omega
  | m + 1, g => by
    unfold RFN
    split
    · decide
    · by_cases c : k = (m : Int)
      · subst c; contradiction
      · exact RFN_0 h hb m (by omega)
def v_sorts (S : Int → Int) (p : Int) : Int := if ¬ (0 ≤ p ∧ p ≤ 1) then -1 else if ¬ RFN S (S 3).toNat = 1 then -3 else if p = 0 then (ALL S).2.1 else (ALL S).1
def bmo (S : Int → Int) (a b : Int) : Prop := S (929 + 6 * b + a) < S (929 + 6 * a + b)
def unm (S : Int → Int) (a b : Int) : Int := if S (929 + 6 * a + b) + S (929 + 6 * b + a) = 0 then 1 else 0
def tri (S : Int → Int) (a b c : Int) : Int := if S (929 + 6 * b + a) < S (929 + 6 * a + b) ∧ S (929 + 6 * c + b) < S (929 + 6 * b + c) ∧ S (929 + 6 * a + c) < S (929 + 6 * c + a) then 1 else 0
def UNM (S : Int → Int) : Int := rs (fun i => rs (fun j => unm S i j) (i + 1) (S 0)) 0 (S 0)
def TRI (S : Int → Int) : Int := rs (fun i => rs (fun j => rs (fun k => tri S i j k) (i + 1) (S 0)) (i + 1) (S 0)) 0 (S 0)
theorem unm_bd (S : Int → Int) (a b : Int) : 0 ≤ unm S a b ∧ unm S a b ≤ 1 := by unfold unm; split <;> decide
theorem tri_bd (S : Int → Int) (a b c : Int) : 0 ≤ tri S a b c ∧ tri S a b c ≤ 1 := by unfold tri; split <;> decide
theorem unm_in (S : Int → Int) {i j : Int} (h : i + 1 ≤ j) : 0 ≤ rs (fun j => unm S i j) (i + 1) j ∧ rs (fun j => unm S i j) (i + 1) j ≤ 1 * (j - (i + 1)) := rs_bd h (fun q _ _ => unm_bd S i q)
theorem unm_out (S : Int → Int) {i : Int} (h : 0 ≤ i) (hn : i ≤ S 0) (h6 : S 0 ≤ 6) : 0 ≤ rs (fun i => rs (fun j => unm S i j) (i + 1) (S 0)) 0 i ∧ rs (fun i => rs (fun j => unm S i j) (i + 1) (S 0)) 0 i ≤ 6 * (i - 0) := rs_bd h (fun q _ _ => by have := unm_in S (i := q) (j := S 0) (by omega); omega)
theorem tri_in (S : Int → Int) (j : Int) {i k : Int} (h : i + 1 ≤ k) : 0 ≤ rs (fun k => tri S i j k) (i + 1) k ∧ rs (fun k => tri S i j k) (i + 1) k ≤ 1 * (k - (i + 1)) := rs_bd h (fun q _ _ => tri_bd S i j q)
theorem tri_mid (S : Int → Int) {i j : Int} (h : i + 1 ≤ j) (h0 : 0 ≤ i) (hn : j ≤ S 0) (h6 : S 0 ≤ 6) : 0 ≤ rs (fun j => rs (fun k => tri S i j k) (i + 1) (S 0)) (i + 1) j ∧ rs (fun j => rs (fun k => tri S i j k) (i + 1) (S 0)) (i + 1) j ≤ 6 * (j - (i + 1)) := rs_bd h (fun q _ _ => by have := tri_in S q (i := i) (k := S 0) (by omega); omega)
theorem tri_out (S : Int → Int) {i : Int} (h0 : 0 ≤ i) (hn : i ≤ S 0) (h6 : S 0 ≤ 6) : 0 ≤ rs (fun i => rs (fun j => rs (fun k => tri S i j k) (i + 1) (S 0)) (i + 1) (S 0)) 0 i ∧ rs (fun i => rs (fun j => rs (fun k => tri S i j k) (i + 1) (S 0)) (i + 1) (S 0)) 0 i ≤ 36 * (i - 0) := rs_bd h0 (fun q _ _ => by have := tri_mid S (i := q) (j := S 0) (by omega) (by omega) (by omega) h6; omega)
def v_really (S : Int → Int) (p : Int) : Int := if ¬ (0 ≤ p ∧ p ≤ 2) then -1 else if p = 0 then TRI S else if p = 1 then UNM S else (ALL S).2.2.1
def v_order (S : Int → Int) (r : Int) : Int := if ¬ (0 ≤ r ∧ r ≤ S 0 - 1) then -1 else dg (ALL S).2.2.2 r

set_option maxRecDepth 100000 in
set_option maxHeartbeats 4000000 in
theorem c_X12_run (l : Launch) (G : GT) (A : Nat → Nat) (I : Nat → Int → Int) (F : Nat → Int)  (c : Int) (n : Int) (seed : Int) (hR : RI (I 1)) (h1 : -2147483648 ≤ c ∧ c < 2147483648) (h2 : -2147483648 ≤ n ∧ n < 2147483648) (h3 : -2147483648 ≤ seed ∧ seed < 2147483648) (hrf : (F 11) = -1) : CT l yX12_run cX12_run 9 (some .int) 4 0 0 G [.ref (A 0), .int (J c), .int (J n), .int (J seed)] (MW A G.2.1 I F) (fun vo wo => ∃ (b1 : Int → Int) (b3 : Int → Int) (b4 : Int → Int), vo = some (.int (J (v_run (I 1) c n seed))) ∧ wo = MW A G.2.1 (au (au (au I 1 b1) 3 b3) 4 b4) F ∧ (b1 = n_run (I 1) c n seed)) := by
  refine CT_of (own := RX12) rfl rfl (Nat.le_of_ble_eq_true rfl) (fun K hl hnL hC hRT hin => ?_)
  subst hl
  show WW K G 0 0 (MW A G.2.1 I F) 0 [(0, .ref (A 0)), (1, .int (J c)), (2, .int (J n)), (3, .int (J seed))] []
  have hn := hR.n
  have hcl := hR.cl
  have hV := hR.bd
  have hB := VB_rng hV
  have htd := hR.td
  refine w_aload_n (pc := 0) hC dX12_run_0 0 rfl rfl ?_
  refine w_iload_n (pc := 1) hC dX12_run_1 1 rfl rfl ?_
  refine w_callV (pc := 2) (As := [.int (J c)]) (rest := []) hC dX12_run_2 cv_X12_156 (c_X12_isClub (kl K) G A I F c (show RI (I 1) from by first | assumption | omega) (show -2147483648 ≤ c ∧ c < 2147483648 from by first | assumption | omega)) (by decide) ⟨Nat.le_of_ble_eq_true rfl, Nat.le_of_ble_eq_true rfl⟩ (q0 := 0) rfl rfl rfl rfl (Nat.le_of_ble_eq_true rfl) rfl (fun vo wo hv => ?_)
  obtain ⟨hv1, hw1⟩ := hv
  rw [hv1, hw1]
  show WW K G 0 0 (MW A G.2.1 I F) 5 [(0, .ref (A 0)), (1, .int (J c)), (2, .int (J n)), (3, .int (J seed))] [.int (J (bI (0 ≤ c ∧ c < (I 1) 1)))]
  refine w_if_ne_b (pc := 5) (tgt := 10) hC dX12_run_5 (by decide) (fun c5 => ?_) (fun c5 => ?_)
  · refine w_iload_n (pc := 10) hC dX12_run_10 2 rfl rfl ?_
    refine w_iconst (pc := 11) hC dX12_run_11 ?_
    refine w_bipush (pc := 12) hC dX12_run_12 (z := 99) rfl ?_
    refine w_callS (pc := 14) (As := [.int (J n), .int (J 1), .int (J 99)]) (rest := []) hC dX12_run_14 cs_X12_48 (c_X12_in (kl K) G (MW A G.2.1 I F) n 1 99 (show (-2147483648 ≤ n ∧ n < 2147483648) ∧ (-2147483648 ≤ 1 ∧ 1 < 2147483648) ∧ -2147483648 ≤ 99 ∧ 99 < 2147483648 from by first | assumption | omega)) (by decide) ⟨Nat.le_of_ble_eq_true rfl, Nat.le_of_ble_eq_true rfl⟩ rfl (Nat.le_of_ble_eq_true rfl) rfl (fun vo wo hv => ?_)
    obtain ⟨hv1, hw1⟩ := hv
    rw [hv1, hw1]
    show WW K G 0 0 (MW A G.2.1 I F) 17 [(0, .ref (A 0)), (1, .int (J c)), (2, .int (J n)), (3, .int (J seed))] [.int (J (bI (1 ≤ n ∧ n ≤ 99)))]
    refine w_if_eq_b (pc := 17) (tgt := 45) hC dX12_run_17 (by decide) (fun c17 => ?_) (fun c17 => ?_)
    · refine w_bipush (pc := 45) hC dX12_run_45 (z := (-2)) rfl ?_
      refine w_iret (pc := 47) hC hRT dX12_run_47 rfl ?_
      refine ⟨(I 1), (I 3), (I 4), retI (by first | (unfold v_run; rw [if_pos (by omega)]) | (unfold v_run; rw [if_neg (by omega), if_pos (by omega)])), rfl, ?_⟩
      · first | (unfold n_run; rw [if_pos (by omega)]) | (unfold n_run; rw [if_neg (by omega), if_pos (by omega)])
    · refine w_iload_n (pc := 20) hC dX12_run_20 3 rfl rfl ?_
      refine w_iconst (pc := 21) hC dX12_run_21 ?_
      refine w_sipush (pc := 22) hC dX12_run_22 (z := 999) rfl ?_
      refine w_callS (pc := 25) (As := [.int (J seed), .int (J 0), .int (J 999)]) (rest := []) hC dX12_run_25 cs_X12_48 (c_X12_in (kl K) G (MW A G.2.1 I F) seed 0 999 (show (-2147483648 ≤ seed ∧ seed < 2147483648) ∧ (-2147483648 ≤ 0 ∧ 0 < 2147483648) ∧ -2147483648 ≤ 999 ∧ 999 < 2147483648 from by first | assumption | omega)) (by decide) ⟨Nat.le_of_ble_eq_true rfl, Nat.le_of_ble_eq_true rfl⟩ rfl (Nat.le_of_ble_eq_true rfl) rfl (fun vo wo hv => ?_)
      obtain ⟨hv1, hw1⟩ := hv
      rw [hv1, hw1]
      show WW K G 0 0 (MW A G.2.1 I F) 28 [(0, .ref (A 0)), (1, .int (J c)), (2, .int (J n)), (3, .int (J seed))] [.int (J (bI (0 ≤ seed ∧ seed ≤ 999)))]
      refine w_if_eq_b (pc := 28) (tgt := 45) hC dX12_run_28 (by decide) (fun c28 => ?_) (fun c28 => ?_)
      · refine w_bipush (pc := 45) hC dX12_run_45 (z := (-2)) rfl ?_
        refine w_iret (pc := 47) hC hRT dX12_run_47 rfl ?_
        refine ⟨(I 1), (I 3), (I 4), retI (by first | (unfold v_run; rw [if_pos (by omega)]) | (unfold v_run; rw [if_neg (by omega), if_pos (by omega)])), rfl, ?_⟩
        · first | (unfold n_run; rw [if_pos (by omega)]) | (unfold n_run; rw [if_neg (by omega), if_pos (by omega)])
      · refine w_aload_n (pc := 31) hC dX12_run_31 0 rfl rfl ?_
        refine w_getf (pc := 32) (v := .ref (A 1)) hC dX12_run_32 fi_X12_9 0 rfl rfl ?_
        refine w_iconst (pc := 35) hC dX12_run_35 ?_
        refine w_iald (pc := 36) (g := (I 1)) hC dX12_run_36 1 rfl (by omega) (Nat.le_of_ble_eq_true rfl) ?_
        refine w_iload_n (pc := 37) hC dX12_run_37 2 rfl rfl ?_
        refine w_iadd (pc := 38) hC dX12_run_38 ?_
        refine w_sipush (pc := 39) hC dX12_run_39 (z := 999) rfl ?_
        refine w_icmp_le (pc := 42) (tgt := 48) hC dX12_run_42 (by decide) (by omega) (fun c42 => ?_) (fun c42 => ?_)
        · refine w_iconst (pc := 48) hC dX12_run_48 ?_
          refine w_istore (pc := 49) hC dX12_run_49 (lv2 := [(4, .int (J 0)), (0, .ref (A 0)), (1, .int (J c)), (2, .int (J n)), (3, .int (J seed))]) (by rw [hnL]; decide) rfl ?_
          have loop51 : ∀ (nF : Nat) (k : Int) (a1_51 : Int → Int) (a3_51 : Int → Int) (a4_51 : Int → Int), (0 ≤ k ∧ k ≤ n) → (a1_51 = RUN (I 1) c seed k.toNat) → (n - k) < (nF : Int) → WW K G 0 0 (MW A G.2.1 (au (au (au I 1 a1_51) 3 a3_51) 4 a4_51) F) 51 [(0, .ref (A 0)), (1, .int (J c)), (2, .int (J n)), (3, .int (J seed)), (4, .int (J k))] [] := by
            intro nF
            induction nF with
            | zero => intro k a1_51 a3_51 a4_51 i1 i2 hm51; exact absurd hm51 (by omega)
            | succ nF ih51 =>
              intro k a1_51 a3_51 a4_51 i1 i2 hm51
              obtain ⟨hRk, hk0, hk1, hk2⟩ := RI_RUN (seed := seed) hR (c := c) (by omega) k.toNat (by omega)
              rw [← i2] at hRk hk0 hk1 hk2
              have hnk := hRk.n
              have hVk := hRk.bd
              have hBk := VB_rng hVk
              have htk := hRk.td
              refine w_iload (pc := 51) hC dX12_run_51 4 rfl ?_
              refine w_iload_n (pc := 53) hC dX12_run_53 2 rfl rfl ?_
              refine w_icmp_ge (pc := 54) (tgt := 226) hC dX12_run_54 (by decide) (by omega) (fun c54 => ?_) (fun c54 => ?_)
              · refine w_aload_n (pc := 226) hC dX12_run_226 0 rfl rfl ?_
                refine w_callV (pc := 227) (As := []) (rest := []) hC dX12_run_227 cv_X12_253 (c_X12_far (kl K) G A (au (au (au I 1 a1_51) 3 a3_51) 4 a4_51) F (show RI a1_51 from by first | assumption | omega)) (by decide) ⟨Nat.le_of_ble_eq_true rfl, Nat.le_of_ble_eq_true rfl⟩ (q0 := 0) rfl rfl rfl rfl (Nat.le_of_ble_eq_true rfl) rfl (fun vo wo hv => ?_)
                obtain ⟨hv1, hw1⟩ := hv
                rw [hv1, hw1]
                show WW K G 0 0 (MW A G.2.1 (au (au (au I 1 a1_51) 3 a3_51) 4 a4_51) F) 230 [(0, .ref (A 0)), (1, .int (J c)), (2, .int (J n)), (3, .int (J seed)), (4, .int (J k))] [.int (J (FAR a1_51))]
                refine w_iret (pc := 230) hC hRT dX12_run_230 rfl ?_
                refine ⟨a1_51, a3_51, a4_51, retI (by unfold v_run; rw [if_neg (by omega), if_neg (by omega), i2, show k = n by omega]), rfl, ?_⟩
                · unfold n_run; rw [if_neg (by omega), if_neg (by omega), i2, show k = n by omega]
              · refine w_aload_n (pc := 57) hC dX12_run_57 0 rfl rfl ?_
                refine w_getf (pc := 58) (v := .ref (A 1)) hC dX12_run_58 fi_X12_9 0 rfl rfl ?_
                refine w_iconst (pc := 61) hC dX12_run_61 ?_
                refine w_iald (pc := 62) (g := a1_51) hC dX12_run_62 1 rfl (by omega) (Nat.le_of_ble_eq_true rfl) ?_
                refine w_istore (pc := 63) hC dX12_run_63 (lv2 := [(5, .int (J (a1_51 2))), (0, .ref (A 0)), (1, .int (J c)), (2, .int (J n)), (3, .int (J seed)), (4, .int (J k))]) (by rw [hnL]; decide) rfl ?_
                refine w_aload_n (pc := 65) hC dX12_run_65 1 rfl rfl ?_
                refine w_getf (pc := 66) (v := .ref (A 1)) hC dX12_run_66 fi_X12_9 0 rfl rfl ?_
                refine w_iconst (pc := 69) hC dX12_run_69 ?_
                refine w_iald (pc := 70) (g := a1_51) hC dX12_run_70 1 rfl (by omega) (Nat.le_of_ble_eq_true rfl) ?_
                refine w_if_le (pc := 71) (tgt := 210) hC dX12_run_71 (by decide) (by omega) (fun c71 => ?_) (fun c71 => ?_)
                · refine w_aload_n (pc := 210) hC dX12_run_210 1 rfl rfl ?_
                  refine w_getf (pc := 211) (v := .ref (A 1)) hC dX12_run_211 fi_X12_9 0 rfl rfl ?_
                  refine w_iconst (pc := 214) hC dX12_run_214 ?_
                  refine w_dup2 (pc := 215) hC dX12_run_215 rfl rfl ?_
                  refine w_iald (pc := 216) (g := a1_51) hC dX12_run_216 1 rfl (by omega) (Nat.le_of_ble_eq_true rfl) ?_
                  refine w_iconst (pc := 217) hC dX12_run_217 ?_
                  refine w_iadd (pc := 218) hC dX12_run_218 ?_
                  refine w_iast (pc := 219) (g := a1_51) (w2 := MW A G.2.1 (au (au (au I 1 (gu a1_51 2 ((a1_51 2) + 1))) 3 a3_51) 4 a4_51) F) hC dX12_run_219 1 rfl (by omega) (Nat.le_of_ble_eq_true rfl) rfl ?_
                  generalize h219 : gu a1_51 2 ((a1_51 2) + 1) = s219
                  refine w_iinc (pc := 220) hC dX12_run_220 (lv2 := [(4, .int (J (k + 1))), (5, .int (J (a1_51 2))), (0, .ref (A 0)), (1, .int (J c)), (2, .int (J n)), (3, .int (J seed))]) 5 rfl (by rw [hnL]; decide) rfl ?_
                  refine w_goto (pc := 223) hC dX12_run_223 (tgt := 51) (by decide) ?_
                  refine w_sub [2, 3, 4, 5, 0] (lv2 := [(0, .ref (A 0)), (1, .int (J c)), (2, .int (J n)), (3, .int (J seed)), (4, .int (J (k + 1)))]) rfl ?_
                  refine ih51 (k + 1) s219 a3_51 a4_51 ?_ ?_ ?_
                  · first | assumption | omega
                  · subst h219; rw [show (k + 1).toNat = k.toNat + 1 by omega]; show _ = RD (RUN (I 1) c seed k.toNat) c seed; rw [← i2]; unfold RD; rw [if_neg (fun h => absurd h.1 (by omega))]
                  · omega
                · have htr := TRN_in (day := a1_51 2) hVk c71 htk.1
                  have e1 := Int.emod_nonneg (a1_51 2) (show a1_51 0 ≠ 0 by omega)
                  have e2 := Int.emod_lt_of_pos (a1_51 2) c71
                  have hask := ASK_in (c := c) (rf := F 11) (day := a1_51 2) hVk htr.1
                  refine w_aload_n (pc := 74) hC dX12_run_74 1 rfl rfl ?_
                  refine w_getf (pc := 75) (v := .ref (A 1)) hC dX12_run_75 fi_X12_9 0 rfl rfl ?_
                  refine w_bipush (pc := 78) hC dX12_run_78 (z := 6) rfl ?_
                  refine w_iald (pc := 80) (g := a1_51) hC dX12_run_80 1 rfl (by omega) (Nat.le_of_ble_eq_true rfl) ?_
                  refine w_aload_n (pc := 81) hC dX12_run_81 1 rfl rfl ?_
                  refine w_getf (pc := 82) (v := .ref (A 1)) hC dX12_run_82 fi_X12_9 0 rfl rfl ?_
                  refine w_iconst (pc := 85) hC dX12_run_85 ?_
                  refine w_iald (pc := 86) (g := a1_51) hC dX12_run_86 1 rfl (by omega) (Nat.le_of_ble_eq_true rfl) ?_
                  refine w_iconst (pc := 87) hC dX12_run_87 ?_
                  refine w_isub (pc := 88) hC dX12_run_88 ?_
                  refine w_iload (pc := 89) hC dX12_run_89 0 rfl ?_
                  refine w_aload_n (pc := 91) hC dX12_run_91 1 rfl rfl ?_
                  refine w_getf (pc := 92) (v := .ref (A 1)) hC dX12_run_92 fi_X12_9 0 rfl rfl ?_
                  refine w_iconst (pc := 95) hC dX12_run_95 ?_
                  refine w_iald (pc := 96) (g := a1_51) hC dX12_run_96 1 rfl (by omega) (Nat.le_of_ble_eq_true rfl) ?_
                  refine w_irem (pc := 97) hC dX12_run_97 (by omega) ?_
                  refine w_isub (pc := 98) hC dX12_run_98 ?_
                  refine w_callS (pc := 99) (As := [.int (J (a1_51 6)), .int (J (((a1_51 0) - 1) - ((a1_51 2) % (a1_51 0))))]) (rest := []) hC dX12_run_99 cs_X12_52 (c_X12_nameOn (kl K) G (MW A G.2.1 (au (au (au I 1 a1_51) 3 a3_51) 4 a4_51) F) (a1_51 6) (((a1_51 0) - 1) - ((a1_51 2) % (a1_51 0))) (show -2147483648 ≤ (a1_51 6) ∧ (a1_51 6) < 2147483648 from by first | assumption | omega) (show 0 ≤ (((a1_51 0) - 1) - ((a1_51 2) % (a1_51 0))) ∧ (((a1_51 0) - 1) - ((a1_51 2) % (a1_51 0))) ≤ 10 from by first | assumption | omega)) (by decide) ⟨Nat.le_of_ble_eq_true rfl, Nat.le_of_ble_eq_true rfl⟩ rfl (Nat.le_of_ble_eq_true rfl) rfl (fun vo wo hv => ?_)
                  obtain ⟨hv1, hw1⟩ := hv
                  rw [hv1, hw1]
                  show WW K G 0 0 (MW A G.2.1 (au (au (au I 1 a1_51) 3 a3_51) 4 a4_51) F) 102 [(5, .int (J (a1_51 2))), (0, .ref (A 0)), (1, .int (J c)), (2, .int (J n)), (3, .int (J seed)), (4, .int (J k))] [.int (J (dg (a1_51 6) (((a1_51 0) - 1) - ((a1_51 2) % (a1_51 0)))))]
                  have q99_0 := dg_bd (a1_51 6) (((a1_51 0) - 1) - ((a1_51 2) % (a1_51 0)))
                  refine w_top (e2 := TRN a1_51 (a1_51 6) (a1_51 2)) (by rfl) ?_
                  refine w_istore (pc := 102) hC dX12_run_102 (lv2 := [(6, .int (J (TRN a1_51 (a1_51 6) (a1_51 2)))), (5, .int (J (a1_51 2))), (0, .ref (A 0)), (1, .int (J c)), (2, .int (J n)), (3, .int (J seed)), (4, .int (J k))]) (by rw [hnL]; decide) rfl ?_
                  refine w_aload_n (pc := 104) hC dX12_run_104 2 rfl rfl ?_
                  refine w_iload_n (pc := 105) hC dX12_run_105 3 rfl rfl ?_
                  refine w_aload_n (pc := 106) hC dX12_run_106 2 rfl rfl ?_
                  refine w_getf (pc := 107) (v := .ref (A 1)) hC dX12_run_107 fi_X12_9 0 rfl rfl ?_
                  refine w_bipush (pc := 110) hC dX12_run_110 (z := 6) rfl ?_
                  refine w_iald (pc := 112) (g := a1_51) hC dX12_run_112 1 rfl (by omega) (Nat.le_of_ble_eq_true rfl) ?_
                  refine w_iload (pc := 113) hC dX12_run_113 0 rfl ?_
                  refine w_iload (pc := 115) hC dX12_run_115 1 rfl ?_
                  refine w_callV (pc := 117) (As := [.int (J c), .int (J (a1_51 6)), .int (J (TRN a1_51 (a1_51 6) (a1_51 2))), .int (J (a1_51 2))]) (rest := []) hC dX12_run_117 cv_X12_169 (c_X12_asked (kl K) G A (au (au (au I 1 a1_51) 3 a3_51) 4 a4_51) F c (a1_51 6) (TRN a1_51 (a1_51 6) (a1_51 2)) (a1_51 2) (show RI a1_51 from by first | assumption | omega) (show 0 ≤ c ∧ c < a1_51 1 from by first | assumption | omega) (show VB (a1_51 0) (a1_51 6) from by first | assumption | omega) (show 0 ≤ (TRN a1_51 (a1_51 6) (a1_51 2)) ∧ (TRN a1_51 (a1_51 6) (a1_51 2)) < a1_51 0 from by first | assumption | omega) (show 0 ≤ (a1_51 2) ∧ (a1_51 2) ≤ 2000 from by first | assumption | omega) (show -1 ≤ (F 11) ∧ (F 11) ≤ 5 from by first | assumption | omega)) (by decide) ⟨Nat.le_of_ble_eq_true rfl, Nat.le_of_ble_eq_true rfl⟩ (q0 := 0) rfl rfl rfl rfl (Nat.le_of_ble_eq_true rfl) rfl (fun vo wo hv => ?_)
                  obtain ⟨b3_117, b4_117, hv1, hw1⟩ := hv
                  rw [hv1, hw1]
                  show WW K G 0 0 (MW A G.2.1 (au (au (au I 1 a1_51) 3 b3_117) 4 b4_117) F) 120 [(6, .int (J (TRN a1_51 (a1_51 6) (a1_51 2)))), (5, .int (J (a1_51 2))), (0, .ref (A 0)), (1, .int (J c)), (2, .int (J n)), (3, .int (J seed)), (4, .int (J k))] [.int (J (ASK a1_51 c (F 11) (a1_51 6) (TRN a1_51 (a1_51 6) (a1_51 2)) (a1_51 2)))]
                  have q117_0 := @ASK_in a1_51 c (F 11) (a1_51 6) (TRN a1_51 (a1_51 6) (a1_51 2)) (a1_51 2) (by assumption) (by omega)
                  refine w_istore (pc := 120) hC dX12_run_120 (lv2 := [(7, .int (J (ASK a1_51 c (F 11) (a1_51 6) (TRN a1_51 (a1_51 6) (a1_51 2)) (a1_51 2)))), (6, .int (J (TRN a1_51 (a1_51 6) (a1_51 2)))), (5, .int (J (a1_51 2))), (0, .ref (A 0)), (1, .int (J c)), (2, .int (J n)), (3, .int (J seed)), (4, .int (J k))]) (by rw [hnL]; decide) rfl ?_
                  refine w_iload (pc := 122) hC dX12_run_122 0 rfl ?_
                  refine w_bipush (pc := 124) hC dX12_run_124 (z := (-5)) rfl ?_
                  refine w_icmp_eq (pc := 126) (tgt := 169) hC dX12_run_126 (by decide) (by omega) (fun c126 => ?_) (fun c126 => ?_)
                  · refine w_iconst (pc := 169) hC dX12_run_169 ?_
                    refine w_istore (pc := 170) hC dX12_run_170 (lv2 := [(8, .int (J 0)), (7, .int (J (ASK a1_51 c (F 11) (a1_51 6) (TRN a1_51 (a1_51 6) (a1_51 2)) (a1_51 2)))), (6, .int (J (TRN a1_51 (a1_51 6) (a1_51 2)))), (5, .int (J (a1_51 2))), (0, .ref (A 0)), (1, .int (J c)), (2, .int (J n)), (3, .int (J seed)), (4, .int (J k))]) (by rw [hnL]; decide) rfl ?_
                    refine w_aload_n (pc := 172) hC dX12_run_172 4 rfl rfl ?_
                    refine w_getf (pc := 173) (v := .ref (A 1)) hC dX12_run_173 fi_X12_9 0 rfl rfl ?_
                    refine w_bipush (pc := 176) hC dX12_run_176 (z := 6) rfl ?_
                    refine w_iload (pc := 178) hC dX12_run_178 0 rfl ?_
                    refine w_if_eq (pc := 180) (tgt := 202) hC dX12_run_180 (by decide) (by omega) (fun c180 => ?_) (fun c180 => ?_)
                    · refine w_aload_n (pc := 202) hC dX12_run_202 4 rfl rfl ?_
                      refine w_getf (pc := 203) (v := .ref (A 1)) hC dX12_run_203 fi_X12_9 0 rfl rfl ?_
                      refine w_bipush (pc := 206) hC dX12_run_206 (z := 6) rfl ?_
                      refine w_iald (pc := 208) (g := a1_51) hC dX12_run_208 1 rfl (by omega) (Nat.le_of_ble_eq_true rfl) ?_
                      refine w_iast (pc := 209) (g := a1_51) (w2 := MW A G.2.1 (au (au (au I 1 (gu a1_51 6 (a1_51 6))) 3 b3_117) 4 b4_117) F) hC dX12_run_209 1 rfl (by omega) (Nat.le_of_ble_eq_true rfl) rfl ?_
                      generalize h209 : gu a1_51 6 (a1_51 6) = s209
                      refine w_aload_n (pc := 210) hC dX12_run_210 4 rfl rfl ?_
                      refine w_getf (pc := 211) (v := .ref (A 1)) hC dX12_run_211 fi_X12_9 0 rfl rfl ?_
                      refine w_iconst (pc := 214) hC dX12_run_214 ?_
                      refine w_dup2 (pc := 215) hC dX12_run_215 rfl rfl ?_
                      refine w_iald (pc := 216) (g := s209) hC dX12_run_216 1 rfl (by omega) (Nat.le_of_ble_eq_true rfl) ?_
                      refine w_iconst (pc := 217) hC dX12_run_217 ?_
                      refine w_iadd (pc := 218) hC dX12_run_218 ?_
                      refine w_iast (pc := 219) (g := s209) (w2 := MW A G.2.1 (au (au (au I 1 (gu s209 2 ((s209 2) + 1))) 3 b3_117) 4 b4_117) F) hC dX12_run_219 1 rfl (by omega) (Nat.le_of_ble_eq_true rfl) rfl ?_
                      generalize h219 : gu s209 2 ((s209 2) + 1) = s219
                      refine w_iinc (pc := 220) hC dX12_run_220 (lv2 := [(4, .int (J (k + 1))), (8, .int (J 0)), (7, .int (J (ASK a1_51 c (F 11) (a1_51 6) (TRN a1_51 (a1_51 6) (a1_51 2)) (a1_51 2)))), (6, .int (J (TRN a1_51 (a1_51 6) (a1_51 2)))), (5, .int (J (a1_51 2))), (0, .ref (A 0)), (1, .int (J c)), (2, .int (J n)), (3, .int (J seed))]) 8 rfl (by rw [hnL]; decide) rfl ?_
                      refine w_goto (pc := 223) hC dX12_run_223 (tgt := 51) (by decide) ?_
                      refine w_sub [5, 6, 7, 8, 0] (lv2 := [(0, .ref (A 0)), (1, .int (J c)), (2, .int (J n)), (3, .int (J seed)), (4, .int (J (k + 1)))]) rfl ?_
                      refine ih51 (k + 1) s219 b3_117 b4_117 ?_ ?_ ?_
                      · first | assumption | omega
                      · subst h219 h209; rw [gu_same]; rw [show (k + 1).toNat = k.toNat + 1 by omega]; show _ = RD (RUN (I 1) c seed k.toNat) c seed; rw [← i2]; unfold RD; rw [hrf] at c126; rw [if_neg (fun h => h.2.1 c126)]
                      · omega
                    · exact absurd c180 (by decide)
                  · have hch := hRk.ch htr.1 (show 0 ≤ ASK a1_51 c (F 11) (a1_51 6) (TRN a1_51 (a1_51 6) (a1_51 2)) (a1_51 2) ∧ ASK a1_51 c (F 11) (a1_51 6) (TRN a1_51 (a1_51 6) (a1_51 2)) (a1_51 2) < a1_51 0 by omega)
                    refine w_bipush (pc := 129) hC dX12_run_129 (z := 31) rfl ?_
                    refine w_iload_n (pc := 131) hC dX12_run_131 6 rfl rfl ?_
                    refine w_imul (pc := 132) hC dX12_run_132 ?_
                    refine w_bipush (pc := 133) hC dX12_run_133 (z := 17) rfl ?_
                    refine w_iload (pc := 135) hC dX12_run_135 2 rfl ?_
                    refine w_imul (pc := 137) hC dX12_run_137 ?_
                    refine w_iadd (pc := 138) hC dX12_run_138 ?_
                    refine w_bipush (pc := 139) hC dX12_run_139 (z := 7) rfl ?_
                    refine w_imul (pc := 141) hC dX12_run_141 ?_
                    refine w_bipush (pc := 142) hC dX12_run_142 (z := 100) rfl ?_
                    refine w_irem (pc := 144) hC dX12_run_144 (by omega) ?_
                    refine w_aload_n (pc := 145) hC dX12_run_145 3 rfl rfl ?_
                    refine w_getf (pc := 146) (v := .ref (A 1)) hC dX12_run_146 fi_X12_9 0 rfl rfl ?_
                    refine w_sipush (pc := 149) hC dX12_run_149 (z := 130) rfl ?_
                    refine w_bipush (pc := 152) hC dX12_run_152 (z := 6) rfl ?_
                    refine w_iload (pc := 154) hC dX12_run_154 1 rfl ?_
                    refine w_imul (pc := 156) hC dX12_run_156 ?_
                    refine w_iadd (pc := 157) hC dX12_run_157 ?_
                    refine w_iload (pc := 158) hC dX12_run_158 0 rfl ?_
                    refine w_iadd (pc := 160) hC dX12_run_160 ?_
                    refine w_iald (pc := 161) (g := a1_51) hC dX12_run_161 1 rfl (by omega) (Nat.le_of_ble_eq_true rfl) ?_
                    refine w_icmp_ge (pc := 162) (tgt := 169) hC dX12_run_162 (by decide) (by omega) (fun c162 => ?_) (fun c162 => ?_)
                    · refine w_iconst (pc := 169) hC dX12_run_169 ?_
                      refine w_istore (pc := 170) hC dX12_run_170 (lv2 := [(8, .int (J 0)), (7, .int (J (ASK a1_51 c (F 11) (a1_51 6) (TRN a1_51 (a1_51 6) (a1_51 2)) (a1_51 2)))), (6, .int (J (TRN a1_51 (a1_51 6) (a1_51 2)))), (5, .int (J (a1_51 2))), (0, .ref (A 0)), (1, .int (J c)), (2, .int (J n)), (3, .int (J seed)), (4, .int (J k))]) (by rw [hnL]; decide) rfl ?_
                      refine w_aload_n (pc := 172) hC dX12_run_172 4 rfl rfl ?_
                      refine w_getf (pc := 173) (v := .ref (A 1)) hC dX12_run_173 fi_X12_9 0 rfl rfl ?_
                      refine w_bipush (pc := 176) hC dX12_run_176 (z := 6) rfl ?_
                      refine w_iload (pc := 178) hC dX12_run_178 0 rfl ?_
                      refine w_if_eq (pc := 180) (tgt := 202) hC dX12_run_180 (by decide) (by omega) (fun c180 => ?_) (fun c180 => ?_)
                      · refine w_aload_n (pc := 202) hC dX12_run_202 4 rfl rfl ?_
                        refine w_getf (pc := 203) (v := .ref (A 1)) hC dX12_run_203 fi_X12_9 0 rfl rfl ?_
                        refine w_bipush (pc := 206) hC dX12_run_206 (z := 6) rfl ?_
                        refine w_iald (pc := 208) (g := a1_51) hC dX12_run_208 1 rfl (by omega) (Nat.le_of_ble_eq_true rfl) ?_
                        refine w_iast (pc := 209) (g := a1_51) (w2 := MW A G.2.1 (au (au (au I 1 (gu a1_51 6 (a1_51 6))) 3 b3_117) 4 b4_117) F) hC dX12_run_209 1 rfl (by omega) (Nat.le_of_ble_eq_true rfl) rfl ?_
                        generalize h209 : gu a1_51 6 (a1_51 6) = s209
                        refine w_aload_n (pc := 210) hC dX12_run_210 4 rfl rfl ?_
                        refine w_getf (pc := 211) (v := .ref (A 1)) hC dX12_run_211 fi_X12_9 0 rfl rfl ?_
                        refine w_iconst (pc := 214) hC dX12_run_214 ?_
                        refine w_dup2 (pc := 215) hC dX12_run_215 rfl rfl ?_
                        refine w_iald (pc := 216) (g := s209) hC dX12_run_216 1 rfl (by omega) (Nat.le_of_ble_eq_true rfl) ?_
                        refine w_iconst (pc := 217) hC dX12_run_217 ?_
                        refine w_iadd (pc := 218) hC dX12_run_218 ?_
                        refine w_iast (pc := 219) (g := s209) (w2 := MW A G.2.1 (au (au (au I 1 (gu s209 2 ((s209 2) + 1))) 3 b3_117) 4 b4_117) F) hC dX12_run_219 1 rfl (by omega) (Nat.le_of_ble_eq_true rfl) rfl ?_
                        generalize h219 : gu s209 2 ((s209 2) + 1) = s219
                        refine w_iinc (pc := 220) hC dX12_run_220 (lv2 := [(4, .int (J (k + 1))), (8, .int (J 0)), (7, .int (J (ASK a1_51 c (F 11) (a1_51 6) (TRN a1_51 (a1_51 6) (a1_51 2)) (a1_51 2)))), (6, .int (J (TRN a1_51 (a1_51 6) (a1_51 2)))), (5, .int (J (a1_51 2))), (0, .ref (A 0)), (1, .int (J c)), (2, .int (J n)), (3, .int (J seed))]) 8 rfl (by rw [hnL]; decide) rfl ?_
                        refine w_goto (pc := 223) hC dX12_run_223 (tgt := 51) (by decide) ?_
                        refine w_sub [5, 6, 7, 8, 0] (lv2 := [(0, .ref (A 0)), (1, .int (J c)), (2, .int (J n)), (3, .int (J seed)), (4, .int (J (k + 1)))]) rfl ?_
                        refine ih51 (k + 1) s219 b3_117 b4_117 ?_ ?_ ?_
                        · first | assumption | omega
                        · subst h219 h209; rw [gu_same]; rw [show (k + 1).toNat = k.toNat + 1 by omega]; show _ = RD (RUN (I 1) c seed k.toNat) c seed; rw [← i2]; unfold RD; rw [hrf] at c162; rw [if_neg (fun h => absurd h.2.2 (Int.not_lt.mpr c162))]
                        · omega
                      · exact absurd c180 (by decide)
                    · refine w_iconst (pc := 165) hC dX12_run_165 ?_
                      refine w_goto (pc := 166) hC dX12_run_166 (tgt := 170) (by decide) ?_
                      refine w_istore (pc := 170) hC dX12_run_170 (lv2 := [(8, .int (J 1)), (7, .int (J (ASK a1_51 c (F 11) (a1_51 6) (TRN a1_51 (a1_51 6) (a1_51 2)) (a1_51 2)))), (6, .int (J (TRN a1_51 (a1_51 6) (a1_51 2)))), (5, .int (J (a1_51 2))), (0, .ref (A 0)), (1, .int (J c)), (2, .int (J n)), (3, .int (J seed)), (4, .int (J k))]) (by rw [hnL]; decide) rfl ?_
                      refine w_aload_n (pc := 172) hC dX12_run_172 4 rfl rfl ?_
                      refine w_getf (pc := 173) (v := .ref (A 1)) hC dX12_run_173 fi_X12_9 0 rfl rfl ?_
                      refine w_bipush (pc := 176) hC dX12_run_176 (z := 6) rfl ?_
                      refine w_iload (pc := 178) hC dX12_run_178 0 rfl ?_
                      refine w_if_eq (pc := 180) (tgt := 202) hC dX12_run_180 (by decide) (by omega) (fun c180 => ?_) (fun c180 => ?_)
                      · exact absurd c180 (by decide)
                      · refine w_aload_n (pc := 183) hC dX12_run_183 4 rfl rfl ?_
                        refine w_iload_n (pc := 184) hC dX12_run_184 5 rfl rfl ?_
                        refine w_aload_n (pc := 185) hC dX12_run_185 4 rfl rfl ?_
                        refine w_getf (pc := 186) (v := .ref (A 1)) hC dX12_run_186 fi_X12_9 0 rfl rfl ?_
                        refine w_bipush (pc := 189) hC dX12_run_189 (z := 6) rfl ?_
                        refine w_iald (pc := 191) (g := a1_51) hC dX12_run_191 1 rfl (by omega) (Nat.le_of_ble_eq_true rfl) ?_
                        refine w_iload (pc := 192) hC dX12_run_192 2 rfl ?_
                        refine w_iload (pc := 194) hC dX12_run_194 1 rfl ?_
                        refine w_callV (pc := 196) (As := [.int (J c), .int (J (a1_51 6)), .int (J (TRN a1_51 (a1_51 6) (a1_51 2))), .int (J (ASK a1_51 c (F 11) (a1_51 6) (TRN a1_51 (a1_51 6) (a1_51 2)) (a1_51 2)))]) (rest := [.int (J 6), .ref (A 1)]) hC dX12_run_196 cv_X12_172 (c_X12_won (kl K) G A (au (au (au I 1 a1_51) 3 b3_117) 4 b4_117) F c (a1_51 6) (TRN a1_51 (a1_51 6) (a1_51 2)) (ASK a1_51 c (F 11) (a1_51 6) (TRN a1_51 (a1_51 6) (a1_51 2)) (a1_51 2)) (show RI a1_51 from by first | assumption | omega) (show 0 ≤ c ∧ c < a1_51 1 from by first | assumption | omega) (show VB (a1_51 0) (a1_51 6) from by first | assumption | omega) (show 0 ≤ (TRN a1_51 (a1_51 6) (a1_51 2)) ∧ (TRN a1_51 (a1_51 6) (a1_51 2)) < a1_51 0 from by first | assumption | omega) (show 0 ≤ (ASK a1_51 c (F 11) (a1_51 6) (TRN a1_51 (a1_51 6) (a1_51 2)) (a1_51 2)) ∧ (ASK a1_51 c (F 11) (a1_51 6) (TRN a1_51 (a1_51 6) (a1_51 2)) (a1_51 2)) < a1_51 0 from by first | assumption | omega) (show rk (a1_51 0) (a1_51 6) (ASK a1_51 c (F 11) (a1_51 6) (TRN a1_51 (a1_51 6) (a1_51 2)) (a1_51 2)) < rk (a1_51 0) (a1_51 6) (TRN a1_51 (a1_51 6) (a1_51 2)) from by first | assumption | omega)) (by decide) ⟨Nat.le_of_ble_eq_true rfl, Nat.le_of_ble_eq_true rfl⟩ (q0 := 0) rfl rfl rfl rfl (Nat.le_of_ble_eq_true rfl) rfl (fun vo wo hv => ?_)
                        obtain ⟨hv1, hw1⟩ := hv
                        rw [hv1, hw1]
                        show WW K G 0 0 (MW A G.2.1 (au (au (au I 1 a1_51) 3 b3_117) 4 b4_117) F) 199 [(8, .int (J 1)), (7, .int (J (ASK a1_51 c (F 11) (a1_51 6) (TRN a1_51 (a1_51 6) (a1_51 2)) (a1_51 2)))), (6, .int (J (TRN a1_51 (a1_51 6) (a1_51 2)))), (5, .int (J (a1_51 2))), (0, .ref (A 0)), (1, .int (J c)), (2, .int (J n)), (3, .int (J seed)), (4, .int (J k))] [.int (J (WON a1_51 c (a1_51 6) (TRN a1_51 (a1_51 6) (a1_51 2)) (ASK a1_51 c (F 11) (a1_51 6) (TRN a1_51 (a1_51 6) (a1_51 2)) (a1_51 2)))), .int (J 6), .ref (A 1)]
                        have q196_0 := @VB_WON a1_51 c (a1_51 6) (TRN a1_51 (a1_51 6) (a1_51 2)) (ASK a1_51 c (F 11) (a1_51 6) (TRN a1_51 (a1_51 6) (a1_51 2)) (a1_51 2)) (by assumption) (by omega) (by omega) (by omega)
                        refine w_goto (pc := 199) hC dX12_run_199 (tgt := 209) (by decide) ?_
                        refine w_iast (pc := 209) (g := a1_51) (w2 := MW A G.2.1 (au (au (au I 1 (gu a1_51 6 (WON a1_51 c (a1_51 6) (TRN a1_51 (a1_51 6) (a1_51 2)) (ASK a1_51 c (F 11) (a1_51 6) (TRN a1_51 (a1_51 6) (a1_51 2)) (a1_51 2))))) 3 b3_117) 4 b4_117) F) hC dX12_run_209 1 rfl (by omega) (Nat.le_of_ble_eq_true rfl) rfl ?_
                        generalize h209 : gu a1_51 6 (WON a1_51 c (a1_51 6) (TRN a1_51 (a1_51 6) (a1_51 2)) (ASK a1_51 c (F 11) (a1_51 6) (TRN a1_51 (a1_51 6) (a1_51 2)) (a1_51 2))) = s209
                        refine w_aload_n (pc := 210) hC dX12_run_210 4 rfl rfl ?_
                        refine w_getf (pc := 211) (v := .ref (A 1)) hC dX12_run_211 fi_X12_9 0 rfl rfl ?_
                        refine w_iconst (pc := 214) hC dX12_run_214 ?_
                        refine w_dup2 (pc := 215) hC dX12_run_215 rfl rfl ?_
                        refine w_iald (pc := 216) (g := s209) hC dX12_run_216 1 rfl (by omega) (Nat.le_of_ble_eq_true rfl) ?_
                        refine w_iconst (pc := 217) hC dX12_run_217 ?_
                        refine w_iadd (pc := 218) hC dX12_run_218 ?_
                        refine w_iast (pc := 219) (g := s209) (w2 := MW A G.2.1 (au (au (au I 1 (gu s209 2 ((s209 2) + 1))) 3 b3_117) 4 b4_117) F) hC dX12_run_219 1 rfl (by omega) (Nat.le_of_ble_eq_true rfl) rfl ?_
                        generalize h219 : gu s209 2 ((s209 2) + 1) = s219
                        refine w_iinc (pc := 220) hC dX12_run_220 (lv2 := [(4, .int (J (k + 1))), (8, .int (J 1)), (7, .int (J (ASK a1_51 c (F 11) (a1_51 6) (TRN a1_51 (a1_51 6) (a1_51 2)) (a1_51 2)))), (6, .int (J (TRN a1_51 (a1_51 6) (a1_51 2)))), (5, .int (J (a1_51 2))), (0, .ref (A 0)), (1, .int (J c)), (2, .int (J n)), (3, .int (J seed))]) 8 rfl (by rw [hnL]; decide) rfl ?_
                        refine w_goto (pc := 223) hC dX12_run_223 (tgt := 51) (by decide) ?_
                        refine w_sub [5, 6, 7, 8, 0] (lv2 := [(0, .ref (A 0)), (1, .int (J c)), (2, .int (J n)), (3, .int (J seed)), (4, .int (J (k + 1)))]) rfl ?_
                        refine ih51 (k + 1) s219 b3_117 b4_117 ?_ ?_ ?_
                        · first | assumption | omega
                        · subst h219 h209; rw [gu_ne (by decide)]; rw [show (k + 1).toNat = k.toNat + 1 by omega]; show _ = RD (RUN (I 1) c seed k.toNat) c seed; rw [← i2]; unfold RD; rw [hrf] at c126 c162; rw [hrf, if_pos (And.intro c71 (And.intro c126 c162))]
                        · omega
          refine w_sub [1, 2, 3, 4, 0] (lv2 := [(0, .ref (A 0)), (1, .int (J c)), (2, .int (J n)), (3, .int (J seed)), (4, .int (J 0))]) rfl ?_
          refine loop51 ((n - 0) + 1 : Int).toNat 0 (I 1) (I 3) (I 4) ?_ ?_ ?_
          · first | assumption | omega
          · rfl
          · omega
        · refine w_bipush (pc := 45) hC dX12_run_45 (z := (-2)) rfl ?_
          refine w_iret (pc := 47) hC hRT dX12_run_47 rfl ?_
          refine ⟨(I 1), (I 3), (I 4), retI (by first | (unfold v_run; rw [if_pos (by omega)]) | (unfold v_run; rw [if_neg (by omega), if_pos (by omega)])), rfl, ?_⟩
          · first | (unfold n_run; rw [if_pos (by omega)]) | (unfold n_run; rw [if_neg (by omega), if_pos (by omega)])
  · refine w_iconst (pc := 8) hC dX12_run_8 ?_
    refine w_iret (pc := 9) hC hRT dX12_run_9 rfl ?_
    refine ⟨(I 1), (I 3), (I 4), retI (by first | (unfold v_run; rw [if_pos (by omega)]) | (unfold v_run; rw [if_neg (by omega), if_pos (by omega)])), rfl, ?_⟩
    · first | (unfold n_run; rw [if_pos (by omega)]) | (unfold n_run; rw [if_neg (by omega), if_pos (by omega)])
set_option maxRecDepth 100000 in
set_option maxHeartbeats 4000000 in
theorem c_X12_beatMore (l : Launch) (G : GT) (A : Nat → Nat) (I : Nat → Int → Int) (F : Nat → Int)  (a : Int) (b : Int) (hR : RI (I 1)) (ha : 0 ≤ a ∧ a < 6) (hb : 0 ≤ b ∧ b < 6) : CT l yX12_beatMore cX12_beatMore 3 (some .boolean) 0 0 0 G [.ref (A 0), .int (J a), .int (J b)] (MW A G.2.1 I F) (fun vo wo => vo = some (.int (J (bI ((I 1) (929 + 6 * b + a) < (I 1) (929 + 6 * a + b))))) ∧ wo = MW A G.2.1 I F) := by
  refine CT_of (own := RX12) rfl rfl (Nat.le_of_ble_eq_true rfl) (fun K hl hnL hC hRT hin => ?_)
  subst hl
  show WW K G 0 0 (MW A G.2.1 I F) 0 [(0, .ref (A 0)), (1, .int (J a)), (2, .int (J b))] []
  have p1 := hR.pa (929 + 6 * a + b) (by omega) (by omega)
  have p2 := hR.pa (929 + 6 * b + a) (by omega) (by omega)
  refine w_aload_n (pc := 0) hC dX12_beatMore_0 0 rfl rfl ?_
  refine w_getf (pc := 1) (v := .ref (A 1)) hC dX12_beatMore_1 fi_X12_9 0 rfl rfl ?_
  refine w_sipush (pc := 4) hC dX12_beatMore_4 (z := 929) rfl ?_
  refine w_bipush (pc := 7) hC dX12_beatMore_7 (z := 6) rfl ?_
  refine w_iload_n (pc := 9) hC dX12_beatMore_9 1 rfl rfl ?_
  refine w_imul (pc := 10) hC dX12_beatMore_10 ?_
  refine w_iadd (pc := 11) hC dX12_beatMore_11 ?_
  refine w_iload_n (pc := 12) hC dX12_beatMore_12 2 rfl rfl ?_
  refine w_iadd (pc := 13) hC dX12_beatMore_13 ?_
  refine w_iald (pc := 14) (g := (I 1)) hC dX12_beatMore_14 1 rfl (by omega) (Nat.le_of_ble_eq_true rfl) ?_
  refine w_aload_n (pc := 15) hC dX12_beatMore_15 0 rfl rfl ?_
  refine w_getf (pc := 16) (v := .ref (A 1)) hC dX12_beatMore_16 fi_X12_9 0 rfl rfl ?_
  refine w_sipush (pc := 19) hC dX12_beatMore_19 (z := 929) rfl ?_
  refine w_bipush (pc := 22) hC dX12_beatMore_22 (z := 6) rfl ?_
  refine w_iload_n (pc := 24) hC dX12_beatMore_24 2 rfl rfl ?_
  refine w_imul (pc := 25) hC dX12_beatMore_25 ?_
  refine w_iadd (pc := 26) hC dX12_beatMore_26 ?_
  refine w_iload_n (pc := 27) hC dX12_beatMore_27 1 rfl rfl ?_
  refine w_iadd (pc := 28) hC dX12_beatMore_28 ?_
  refine w_iald (pc := 29) (g := (I 1)) hC dX12_beatMore_29 1 rfl (by omega) (Nat.le_of_ble_eq_true rfl) ?_
  refine w_icmp_le (pc := 30) (tgt := 37) hC dX12_beatMore_30 (by decide) (by omega) (fun c30 => ?_) (fun c30 => ?_)
  · refine w_iconst (pc := 37) hC dX12_beatMore_37 ?_
    refine w_iret (pc := 38) hC hRT dX12_beatMore_38 rfl ?_
    refine ⟨retI (by first | exact (bI_t (by omega)).symm | exact (bI_f (by omega)).symm), rfl⟩
  · refine w_iconst (pc := 33) hC dX12_beatMore_33 ?_
    refine w_goto (pc := 34) hC dX12_beatMore_34 (tgt := 38) (by decide) ?_
    refine w_iret (pc := 38) hC hRT dX12_beatMore_38 rfl ?_
    refine ⟨retI (by first | exact (bI_t (by omega)).symm | exact (bI_f (by omega)).symm), rfl⟩
set_option maxRecDepth 100000 in
set_option maxHeartbeats 4000000 in
theorem c_X12_sorted (l : Launch) (G : GT) (A : Nat → Nat) (I : Nat → Int → Int) (F : Nat → Int)  (order : Int) (hR : RI (I 1)) (ho : OD order) : CT l yX12_sorted cX12_sorted 8 (some .boolean) 1 0 0 G [.ref (A 0), .int (J order)] (MW A G.2.1 I F) (fun vo wo => vo = some (.int (J (v_sorted (I 1) order))) ∧ wo = MW A G.2.1 I F) := by
  refine CT_of (own := RX12) rfl rfl (Nat.le_of_ble_eq_true rfl) (fun K hl hnL hC hRT hin => ?_)
  subst hl
  show WW K G 0 0 (MW A G.2.1 I F) 0 [(0, .ref (A 0)), (1, .int (J order))] []
  have hn := hR.n
  have hrd := hR.rd
  refine w_iload_n (pc := 0) hC dX12_sorted_0 1 rfl rfl ?_
  refine w_istore_n (pc := 1) hC dX12_sorted_1 rfl (lv2 := [(2, .int (J order)), (0, .ref (A 0)), (1, .int (J order))]) (by rw [hnL]; decide) rfl ?_
  refine w_iconst (pc := 2) hC dX12_sorted_2 ?_
  refine w_istore_n (pc := 3) hC dX12_sorted_3 rfl (lv2 := [(3, .int (J 0)), (2, .int (J order)), (0, .ref (A 0)), (1, .int (J order))]) (by rw [hnL]; decide) rfl ?_
  have loop4 : ∀ (nF : Nat) (o : Int) (k : Int), (0 ≤ k ∧ k ≤ (I 1) 3) → (o = SRT (I 1) order k.toNat) → (OD o) → ((I 1) 3 - k) < (nF : Int) → WW K G 0 0 (MW A G.2.1 I F) 4 [(0, .ref (A 0)), (2, .int (J o)), (3, .int (J k))] [] := by
    intro nF
    induction nF with
    | zero => intro o k i1 i2 i3 hm4; exact absurd hm4 (by omega)
    | succ nF ih4 =>
      intro o k i1 i2 i3 hm4
      refine w_iload_n (pc := 4) hC dX12_sorted_4 2 rfl rfl ?_
      refine w_aload_n (pc := 5) hC dX12_sorted_5 0 rfl rfl ?_
      refine w_getf (pc := 6) (v := .ref (A 1)) hC dX12_sorted_6 fi_X12_9 0 rfl rfl ?_
      refine w_iconst (pc := 9) hC dX12_sorted_9 ?_
      refine w_iald (pc := 10) (g := (I 1)) hC dX12_sorted_10 1 rfl (by omega) (Nat.le_of_ble_eq_true rfl) ?_
      refine w_icmp_ge (pc := 11) (tgt := 119) hC dX12_sorted_11 (by decide) (by omega) (fun c11 => ?_) (fun c11 => ?_)
      · have io := i3.1
        refine w_iconst (pc := 119) hC dX12_sorted_119 ?_
        refine w_istore_n (pc := 120) hC dX12_sorted_120 rfl (lv2 := [(3, .int (J 1)), (0, .ref (A 0)), (2, .int (J o))]) (by rw [hnL]; decide) rfl ?_
        refine w_iconst (pc := 121) hC dX12_sorted_121 ?_
        refine w_istore (pc := 122) hC dX12_sorted_122 (lv2 := [(4, .int (J 1)), (3, .int (J 1)), (0, .ref (A 0)), (2, .int (J o))]) (by rw [hnL]; decide) rfl ?_
        have loop124 : ∀ (nF : Nat) (st : Int) (i : Int), (1 ≤ i ∧ (i ≤ (I 1) 0 ∨ i = 1)) → (st = SOK (I 1) o (i - 1).toNat) → (st = 0 ∨ st = 1) → ((I 1) 0 + 1 - i) < (nF : Int) → WW K G 0 0 (MW A G.2.1 I F) 124 [(0, .ref (A 0)), (2, .int (J o)), (3, .int (J st)), (4, .int (J i))] [] := by
          intro nF
          induction nF with
          | zero => intro st i j1 j2 j3 hm124; exact absurd hm124 (by omega)
          | succ nF ih124 =>
            intro st i j1 j2 j3 hm124
            refine w_iload (pc := 124) hC dX12_sorted_124 3 rfl ?_
            refine w_aload_n (pc := 126) hC dX12_sorted_126 0 rfl rfl ?_
            refine w_getf (pc := 127) (v := .ref (A 1)) hC dX12_sorted_127 fi_X12_9 0 rfl rfl ?_
            refine w_iconst (pc := 130) hC dX12_sorted_130 ?_
            refine w_iald (pc := 131) (g := (I 1)) hC dX12_sorted_131 1 rfl (by omega) (Nat.le_of_ble_eq_true rfl) ?_
            refine w_icmp_ge (pc := 132) (tgt := 172) hC dX12_sorted_132 (by decide) (by omega) (fun c132 => ?_) (fun c132 => ?_)
            · refine w_iload_n (pc := 172) hC dX12_sorted_172 2 rfl rfl ?_
              refine w_iret (pc := 173) hC hRT dX12_sorted_173 (by rcases j3 with e | e <;> rw [e] <;> rfl) ?_
              refine ⟨retI (by rw [j2, i2, show k = I 1 3 by omega]; unfold v_sorted; congr 1; omega), rfl⟩
            · refine w_iload_n (pc := 135) hC dX12_sorted_135 2 rfl rfl ?_
              refine w_if_eq (pc := 136) (tgt := 164) hC dX12_sorted_136 (by decide) (by omega) (fun c136 => ?_) (fun c136 => ?_)
              · refine w_iconst (pc := 164) hC dX12_sorted_164 ?_
                refine w_istore_n (pc := 165) hC dX12_sorted_165 rfl (lv2 := [(3, .int (J 0)), (0, .ref (A 0)), (2, .int (J o)), (4, .int (J i))]) (by rw [hnL]; decide) rfl ?_
                refine w_iinc (pc := 166) hC dX12_sorted_166 (lv2 := [(4, .int (J (i + 1))), (3, .int (J 0)), (0, .ref (A 0)), (2, .int (J o))]) 3 rfl (by rw [hnL]; decide) rfl ?_
                refine w_goto (pc := 169) hC dX12_sorted_169 (tgt := 124) (by decide) ?_
                refine w_sub [2, 3, 1, 0] (lv2 := [(0, .ref (A 0)), (2, .int (J o)), (3, .int (J 0)), (4, .int (J (i + 1)))]) rfl ?_
                refine ih124 0 (i + 1) ?_ ?_ ?_ ?_
                · first | assumption | omega
                · rw [show i + 1 - 1 = i by omega, SOK_s _ _ j1.1, ← j2]; first | rw [if_pos (And.intro (show st = 1 by omega) c157)] | rw [if_neg (fun h => absurd h.1 (by omega))] | rw [if_neg (fun h => h.2 c157)]
                · first | assumption | omega
                · omega
              · refine w_aload_n (pc := 139) hC dX12_sorted_139 0 rfl rfl ?_
                refine w_iload_n (pc := 140) hC dX12_sorted_140 1 rfl rfl ?_
                refine w_iload (pc := 141) hC dX12_sorted_141 3 rfl ?_
                refine w_callS (pc := 143) (As := [.int (J o), .int (J i)]) (rest := [.ref (A 0)]) hC dX12_sorted_143 cs_X12_52 (c_X12_nameOn (kl K) G (MW A G.2.1 I F) o i (show -2147483648 ≤ o ∧ o < 2147483648 from by first | assumption | omega) (show 0 ≤ i ∧ i ≤ 10 from by first | assumption | omega)) (by decide) ⟨Nat.le_of_ble_eq_true rfl, Nat.le_of_ble_eq_true rfl⟩ rfl (Nat.le_of_ble_eq_true rfl) rfl (fun vo wo hv => ?_)
                obtain ⟨hv1, hw1⟩ := hv
                rw [hv1, hw1]
                show WW K G 0 0 (MW A G.2.1 I F) 146 [(0, .ref (A 0)), (2, .int (J o)), (3, .int (J st)), (4, .int (J i))] [.int (J (dg o i)), .ref (A 0)]
                have q143_0 := dg_bd o i
                refine w_iload_n (pc := 146) hC dX12_sorted_146 1 rfl rfl ?_
                refine w_iload (pc := 147) hC dX12_sorted_147 3 rfl ?_
                refine w_iconst (pc := 149) hC dX12_sorted_149 ?_
                refine w_isub (pc := 150) hC dX12_sorted_150 ?_
                refine w_callS (pc := 151) (As := [.int (J o), .int (J (i - 1))]) (rest := [.int (J (dg o i)), .ref (A 0)]) hC dX12_sorted_151 cs_X12_52 (c_X12_nameOn (kl K) G (MW A G.2.1 I F) o (i - 1) (show -2147483648 ≤ o ∧ o < 2147483648 from by first | assumption | omega) (show 0 ≤ (i - 1) ∧ (i - 1) ≤ 10 from by first | assumption | omega)) (by decide) ⟨Nat.le_of_ble_eq_true rfl, Nat.le_of_ble_eq_true rfl⟩ rfl (Nat.le_of_ble_eq_true rfl) rfl (fun vo wo hv => ?_)
                obtain ⟨hv1, hw1⟩ := hv
                rw [hv1, hw1]
                show WW K G 0 0 (MW A G.2.1 I F) 154 [(0, .ref (A 0)), (2, .int (J o)), (3, .int (J st)), (4, .int (J i))] [.int (J (dg o (i - 1))), .int (J (dg o i)), .ref (A 0)]
                have q151_0 := dg_bd o (i - 1)
                have hd3 := OD_dg i3 (r := i) (by omega) (by omega)
                have hd4 := OD_dg i3 (r := i - 1) (by omega) (by omega)
                refine w_callV (pc := 154) (As := [.int (J (dg o i)), .int (J (dg o (i - 1)))]) (rest := []) hC dX12_sorted_154 cv_X12_56 (c_X12_isStronger (kl K) G A I F (dg o i) (dg o (i - 1)) (show RI (I 1) from by first | assumption | omega) (show 0 ≤ (dg o i) ∧ (dg o i) < 6 from by first | assumption | omega) (show 0 ≤ (dg o (i - 1)) ∧ (dg o (i - 1)) < 6 from by first | assumption | omega)) (by decide) ⟨Nat.le_of_ble_eq_true rfl, Nat.le_of_ble_eq_true rfl⟩ (q0 := 0) rfl rfl rfl rfl (Nat.le_of_ble_eq_true rfl) rfl (fun vo wo hv => ?_)
                obtain ⟨hv1, hw1⟩ := hv
                rw [hv1, hw1]
                show WW K G 0 0 (MW A G.2.1 I F) 157 [(0, .ref (A 0)), (2, .int (J o)), (3, .int (J st)), (4, .int (J i))] [.int (J (bI (50 < (I 1) (130 + 6 * (dg o i) + (dg o (i - 1))))))]
                refine w_if_ne_b (pc := 157) (tgt := 164) hC dX12_sorted_157 (by decide) (fun c157 => ?_) (fun c157 => ?_)
                · refine w_iconst (pc := 164) hC dX12_sorted_164 ?_
                  refine w_istore_n (pc := 165) hC dX12_sorted_165 rfl (lv2 := [(3, .int (J 0)), (0, .ref (A 0)), (2, .int (J o)), (4, .int (J i))]) (by rw [hnL]; decide) rfl ?_
                  refine w_iinc (pc := 166) hC dX12_sorted_166 (lv2 := [(4, .int (J (i + 1))), (3, .int (J 0)), (0, .ref (A 0)), (2, .int (J o))]) 3 rfl (by rw [hnL]; decide) rfl ?_
                  refine w_goto (pc := 169) hC dX12_sorted_169 (tgt := 124) (by decide) ?_
                  refine w_sub [2, 3, 1, 0] (lv2 := [(0, .ref (A 0)), (2, .int (J o)), (3, .int (J 0)), (4, .int (J (i + 1)))]) rfl ?_
                  refine ih124 0 (i + 1) ?_ ?_ ?_ ?_
                  · first | assumption | omega
                  · rw [show i + 1 - 1 = i by omega, SOK_s _ _ j1.1, ← j2]; first | rw [if_pos (And.intro (show st = 1 by omega) c157)] | rw [if_neg (fun h => absurd h.1 (by omega))] | rw [if_neg (fun h => h.2 c157)]
                  · first | assumption | omega
                  · omega
                · refine w_iconst (pc := 160) hC dX12_sorted_160 ?_
                  refine w_goto (pc := 161) hC dX12_sorted_161 (tgt := 165) (by decide) ?_
                  refine w_istore_n (pc := 165) hC dX12_sorted_165 rfl (lv2 := [(3, .int (J 1)), (0, .ref (A 0)), (2, .int (J o)), (4, .int (J i))]) (by rw [hnL]; decide) rfl ?_
                  refine w_iinc (pc := 166) hC dX12_sorted_166 (lv2 := [(4, .int (J (i + 1))), (3, .int (J 1)), (0, .ref (A 0)), (2, .int (J o))]) 3 rfl (by rw [hnL]; decide) rfl ?_
                  refine w_goto (pc := 169) hC dX12_sorted_169 (tgt := 124) (by decide) ?_
                  refine w_sub [2, 3, 1, 0] (lv2 := [(0, .ref (A 0)), (2, .int (J o)), (3, .int (J 1)), (4, .int (J (i + 1)))]) rfl ?_
                  refine ih124 1 (i + 1) ?_ ?_ ?_ ?_
                  · first | assumption | omega
                  · rw [show i + 1 - 1 = i by omega, SOK_s _ _ j1.1, ← j2]; first | rw [if_pos (And.intro (show st = 1 by omega) c157)] | rw [if_neg (fun h => absurd h.1 (by omega))] | rw [if_neg (fun h => h.2 c157)]
                  · first | assumption | omega
                  · omega
        refine w_sub [2, 3, 1, 0] (lv2 := [(0, .ref (A 0)), (2, .int (J o)), (3, .int (J 1)), (4, .int (J 1))]) rfl ?_
        refine loop124 (((I 1) 0 + 1 - 1) + 1 : Int).toNat 1 1 ?_ ?_ ?_ ?_
        · first | assumption | omega
        · rfl
        · first | assumption | omega
        · omega
      · have hro := hR.ro k i1.1 (by omega)
        have io := i3.1
        refine w_aload_n (pc := 14) hC dX12_sorted_14 0 rfl rfl ?_
        refine w_getf (pc := 15) (v := .ref (A 1)) hC dX12_sorted_15 fi_X12_9 0 rfl rfl ?_
        refine w_sipush (pc := 18) hC dX12_sorted_18 (z := 893) rfl ?_
        refine w_iconst (pc := 21) hC dX12_sorted_21 ?_
        refine w_iload_n (pc := 22) hC dX12_sorted_22 2 rfl rfl ?_
        refine w_imul (pc := 23) hC dX12_sorted_23 ?_
        refine w_iadd (pc := 24) hC dX12_sorted_24 ?_
        refine w_iald (pc := 25) (g := (I 1)) hC dX12_sorted_25 1 rfl (by omega) (Nat.le_of_ble_eq_true rfl) ?_
        refine w_istore (pc := 26) hC dX12_sorted_26 (lv2 := [(4, .int (J ((I 1) (893 + (2 * k))))), (0, .ref (A 0)), (2, .int (J o)), (3, .int (J k))]) (by rw [hnL]; decide) rfl ?_
        refine w_aload_n (pc := 28) hC dX12_sorted_28 1 rfl rfl ?_
        refine w_getf (pc := 29) (v := .ref (A 1)) hC dX12_sorted_29 fi_X12_9 0 rfl rfl ?_
        refine w_sipush (pc := 32) hC dX12_sorted_32 (z := 893) rfl ?_
        refine w_iconst (pc := 35) hC dX12_sorted_35 ?_
        refine w_iload_n (pc := 36) hC dX12_sorted_36 3 rfl rfl ?_
        refine w_imul (pc := 37) hC dX12_sorted_37 ?_
        refine w_iadd (pc := 38) hC dX12_sorted_38 ?_
        refine w_iconst (pc := 39) hC dX12_sorted_39 ?_
        refine w_iadd (pc := 40) hC dX12_sorted_40 ?_
        refine w_iald (pc := 41) (g := (I 1)) hC dX12_sorted_41 1 rfl (by omega) (Nat.le_of_ble_eq_true rfl) ?_
        refine w_istore (pc := 42) hC dX12_sorted_42 (lv2 := [(5, .int (J ((I 1) ((893 + (2 * k)) + 1)))), (4, .int (J ((I 1) (893 + (2 * k))))), (0, .ref (A 0)), (2, .int (J o)), (3, .int (J k))]) (by rw [hnL]; decide) rfl ?_
        refine w_iload_n (pc := 44) hC dX12_sorted_44 3 rfl rfl ?_
        refine w_iload (pc := 45) hC dX12_sorted_45 1 rfl ?_
        refine w_callS (pc := 47) (As := [.int (J o), .int (J ((I 1) (893 + (2 * k))))]) (rest := []) hC dX12_sorted_47 cs_X12_52 (c_X12_nameOn (kl K) G (MW A G.2.1 I F) o ((I 1) (893 + (2 * k))) (show -2147483648 ≤ o ∧ o < 2147483648 from by first | assumption | omega) (show 0 ≤ ((I 1) (893 + (2 * k))) ∧ ((I 1) (893 + (2 * k))) ≤ 10 from by first | assumption | omega)) (by decide) ⟨Nat.le_of_ble_eq_true rfl, Nat.le_of_ble_eq_true rfl⟩ rfl (Nat.le_of_ble_eq_true rfl) rfl (fun vo wo hv => ?_)
        obtain ⟨hv1, hw1⟩ := hv
        rw [hv1, hw1]
        show WW K G 0 0 (MW A G.2.1 I F) 50 [(5, .int (J ((I 1) ((893 + (2 * k)) + 1)))), (4, .int (J ((I 1) (893 + (2 * k))))), (0, .ref (A 0)), (2, .int (J o)), (3, .int (J k))] [.int (J (dg o ((I 1) (893 + (2 * k)))))]
        have q47_0 := dg_bd o ((I 1) (893 + (2 * k)))
        refine w_istore (pc := 50) hC dX12_sorted_50 (lv2 := [(6, .int (J (dg o ((I 1) (893 + (2 * k)))))), (5, .int (J ((I 1) ((893 + (2 * k)) + 1)))), (4, .int (J ((I 1) (893 + (2 * k))))), (0, .ref (A 0)), (2, .int (J o)), (3, .int (J k))]) (by rw [hnL]; decide) rfl ?_
        refine w_iload_n (pc := 52) hC dX12_sorted_52 4 rfl rfl ?_
        refine w_iload (pc := 53) hC dX12_sorted_53 1 rfl ?_
        refine w_callS (pc := 55) (As := [.int (J o), .int (J ((I 1) ((893 + (2 * k)) + 1)))]) (rest := []) hC dX12_sorted_55 cs_X12_52 (c_X12_nameOn (kl K) G (MW A G.2.1 I F) o ((I 1) ((893 + (2 * k)) + 1)) (show -2147483648 ≤ o ∧ o < 2147483648 from by first | assumption | omega) (show 0 ≤ ((I 1) ((893 + (2 * k)) + 1)) ∧ ((I 1) ((893 + (2 * k)) + 1)) ≤ 10 from by first | assumption | omega)) (by decide) ⟨Nat.le_of_ble_eq_true rfl, Nat.le_of_ble_eq_true rfl⟩ rfl (Nat.le_of_ble_eq_true rfl) rfl (fun vo wo hv => ?_)
        obtain ⟨hv1, hw1⟩ := hv
        rw [hv1, hw1]
        show WW K G 0 0 (MW A G.2.1 I F) 58 [(6, .int (J (dg o ((I 1) (893 + (2 * k)))))), (5, .int (J ((I 1) ((893 + (2 * k)) + 1)))), (4, .int (J ((I 1) (893 + (2 * k))))), (0, .ref (A 0)), (2, .int (J o)), (3, .int (J k))] [.int (J (dg o ((I 1) ((893 + (2 * k)) + 1))))]
        have q55_0 := dg_bd o ((I 1) ((893 + (2 * k)) + 1))
        refine w_istore (pc := 58) hC dX12_sorted_58 (lv2 := [(7, .int (J (dg o ((I 1) ((893 + (2 * k)) + 1))))), (6, .int (J (dg o ((I 1) (893 + (2 * k)))))), (5, .int (J ((I 1) ((893 + (2 * k)) + 1)))), (4, .int (J ((I 1) (893 + (2 * k))))), (0, .ref (A 0)), (2, .int (J o)), (3, .int (J k))]) (by rw [hnL]; decide) rfl ?_
        refine w_aload_n (pc := 60) hC dX12_sorted_60 4 rfl rfl ?_
        refine w_iload (pc := 61) hC dX12_sorted_61 0 rfl ?_
        refine w_iload (pc := 63) hC dX12_sorted_63 1 rfl ?_
        have hd1 := OD_dg i3 (r := ((I 1) (893 + 2 * k))) (by omega) (by omega)
        have hd2 := OD_dg i3 (r := ((I 1) (893 + 2 * k + 1))) (by omega) (by omega)
        refine w_callV (pc := 65) (As := [.int (J (dg o ((I 1) ((893 + (2 * k)) + 1)))), .int (J (dg o ((I 1) (893 + (2 * k)))))]) (rest := []) hC dX12_sorted_65 cv_X12_56 (c_X12_isStronger (kl K) G A I F (dg o ((I 1) ((893 + (2 * k)) + 1))) (dg o ((I 1) (893 + (2 * k)))) (show RI (I 1) from by first | assumption | omega) (show 0 ≤ (dg o ((I 1) ((893 + (2 * k)) + 1))) ∧ (dg o ((I 1) ((893 + (2 * k)) + 1))) < 6 from by first | assumption | omega) (show 0 ≤ (dg o ((I 1) (893 + (2 * k)))) ∧ (dg o ((I 1) (893 + (2 * k)))) < 6 from by first | assumption | omega)) (by decide) ⟨Nat.le_of_ble_eq_true rfl, Nat.le_of_ble_eq_true rfl⟩ (q0 := 0) rfl rfl rfl rfl (Nat.le_of_ble_eq_true rfl) rfl (fun vo wo hv => ?_)
        obtain ⟨hv1, hw1⟩ := hv
        rw [hv1, hw1]
        show WW K G 0 0 (MW A G.2.1 I F) 68 [(7, .int (J (dg o ((I 1) ((893 + (2 * k)) + 1))))), (6, .int (J (dg o ((I 1) (893 + (2 * k)))))), (5, .int (J ((I 1) ((893 + (2 * k)) + 1)))), (4, .int (J ((I 1) (893 + (2 * k))))), (0, .ref (A 0)), (2, .int (J o)), (3, .int (J k))] [.int (J (bI (50 < (I 1) (130 + 6 * (dg o ((I 1) ((893 + (2 * k)) + 1))) + (dg o ((I 1) (893 + (2 * k))))))))]
        refine w_if_eq_b (pc := 68) (tgt := 111) hC dX12_sorted_68 (by decide) (fun c68 => ?_) (fun c68 => ?_)
        · refine w_iload_n (pc := 111) hC dX12_sorted_111 5 rfl rfl ?_
          refine w_istore_n (pc := 112) hC dX12_sorted_112 rfl (lv2 := [(2, .int (J o)), (7, .int (J (dg o ((I 1) ((893 + (2 * k)) + 1))))), (6, .int (J (dg o ((I 1) (893 + (2 * k)))))), (5, .int (J ((I 1) ((893 + (2 * k)) + 1)))), (4, .int (J ((I 1) (893 + (2 * k))))), (0, .ref (A 0)), (3, .int (J k))]) (by rw [hnL]; decide) rfl ?_
          refine w_iinc (pc := 113) hC dX12_sorted_113 (lv2 := [(3, .int (J (k + 1))), (2, .int (J o)), (7, .int (J (dg o ((I 1) ((893 + (2 * k)) + 1))))), (6, .int (J (dg o ((I 1) (893 + (2 * k)))))), (5, .int (J ((I 1) ((893 + (2 * k)) + 1)))), (4, .int (J ((I 1) (893 + (2 * k))))), (0, .ref (A 0))]) 6 rfl (by rw [hnL]; decide) rfl ?_
          refine w_goto (pc := 116) hC dX12_sorted_116 (tgt := 4) (by decide) ?_
          refine w_sub [6, 1, 0] (lv2 := [(0, .ref (A 0)), (2, .int (J o)), (3, .int (J (k + 1)))]) rfl ?_
          refine ih4 o (k + 1) ?_ ?_ ?_ ?_
          · first | assumption | omega
          · rw [SRT_s _ _ i1.1, ← i2]; unfold SR1; first | rw [if_pos c68] | rw [if_neg c68]
          · first | exact i3 | exact OD_sw i3 (by omega) (by omega)
          · omega
        · have hd1 := OD_dg i3 (r := ((I 1) (893 + 2 * k))) (by omega) (by omega)
          have hd2 := OD_dg i3 (r := ((I 1) (893 + 2 * k + 1))) (by omega) (by omega)
          have z1 := p8 (((I 1) (893 + 2 * k))).toNat
          have z2 := p8 (((I 1) (893 + 2 * k + 1))).toNat
          have z3 := p8_le (n := ((I 1) (893 + 2 * k))) (by omega)
          have z4 := p8_le (n := ((I 1) (893 + 2 * k + 1))) (by omega)
          have y1 := andn_bd (x := o) (y := 7 * 8 ^ (((I 1) (893 + 2 * k))).toNat) io.1
          have y2 := andn_bd (x := andn o (7 * 8 ^ (((I 1) (893 + 2 * k))).toNat)) (y := 7 * 8 ^ (((I 1) (893 + 2 * k + 1))).toNat) y1.1
          have w1 := Int.mul_nonneg hd2.1 (Int.le_of_lt z1)
          have w2 := Int.mul_nonneg hd1.1 (Int.le_of_lt z2)
          refine w_iload_n (pc := 71) hC dX12_sorted_71 5 rfl rfl ?_
          refine w_bipush (pc := 72) hC dX12_sorted_72 (z := 7) rfl ?_
          refine w_iconst (pc := 74) hC dX12_sorted_74 ?_
          refine w_iload (pc := 75) hC dX12_sorted_75 3 rfl ?_
          refine w_imul (pc := 77) hC dX12_sorted_77 ?_
          refine w_ishl (pc := 78) hC dX12_sorted_78 (by omega) ?_
          refine w_top (e2 := 7 * 8 ^ (((I 1) (893 + 2 * k))).toNat) (by rw [show (3 * ((I 1) (893 + 2 * k))).toNat = 3 * (((I 1) (893 + 2 * k))).toNat by omega, p38]) ?_
          refine w_iconst (pc := 79) hC dX12_sorted_79 ?_
          refine w_ixor (pc := 80) hC dX12_sorted_80 (v := -1 - 7 * 8 ^ (((I 1) (893 + 2 * k))).toNat) (J_not _) ?_
          refine w_iand (pc := 81) hC dX12_sorted_81 (v := andn o (7 * 8 ^ (((I 1) (893 + 2 * k))).toNat)) (J_andn (by omega) (by omega) (by omega) (by omega)) ?_
          refine w_bipush (pc := 82) hC dX12_sorted_82 (z := 7) rfl ?_
          refine w_iconst (pc := 84) hC dX12_sorted_84 ?_
          refine w_iload (pc := 85) hC dX12_sorted_85 2 rfl ?_
          refine w_imul (pc := 87) hC dX12_sorted_87 ?_
          refine w_ishl (pc := 88) hC dX12_sorted_88 (by omega) ?_
          refine w_top (e2 := 7 * 8 ^ (((I 1) (893 + 2 * k + 1))).toNat) (by rw [show (3 * ((I 1) (893 + 2 * k + 1))).toNat = 3 * (((I 1) (893 + 2 * k + 1))).toNat by omega, p38]) ?_
          refine w_iconst (pc := 89) hC dX12_sorted_89 ?_
          refine w_ixor (pc := 90) hC dX12_sorted_90 (v := -1 - 7 * 8 ^ (((I 1) (893 + 2 * k + 1))).toNat) (J_not _) ?_
          refine w_iand (pc := 91) hC dX12_sorted_91 (v := andn (andn o (7 * 8 ^ (((I 1) (893 + 2 * k))).toNat)) (7 * 8 ^ (((I 1) (893 + 2 * k + 1))).toNat)) (J_andn (by omega) (by omega) (by omega) (by omega)) ?_
          refine w_iload (pc := 92) hC dX12_sorted_92 0 rfl ?_
          refine w_iconst (pc := 94) hC dX12_sorted_94 ?_
          refine w_iload (pc := 95) hC dX12_sorted_95 3 rfl ?_
          refine w_imul (pc := 97) hC dX12_sorted_97 ?_
          refine w_ishl (pc := 98) hC dX12_sorted_98 (by omega) ?_
          refine w_top (e2 := dg o ((I 1) (893 + 2 * k + 1)) * 8 ^ (((I 1) (893 + 2 * k))).toNat) (by rw [show (3 * ((I 1) (893 + 2 * k))).toNat = 3 * (((I 1) (893 + 2 * k))).toNat by omega, p38]) ?_
          refine w_ior (pc := 99) hC dX12_sorted_99 (v := ior (andn (andn o (7 * 8 ^ (((I 1) (893 + 2 * k))).toNat)) (7 * 8 ^ (((I 1) (893 + 2 * k + 1))).toNat)) (dg o ((I 1) (893 + 2 * k + 1)) * 8 ^ (((I 1) (893 + 2 * k))).toNat)) (J_or ⟨by omega, by omega⟩) ?_
          refine w_iload (pc := 100) hC dX12_sorted_100 1 rfl ?_
          refine w_iconst (pc := 102) hC dX12_sorted_102 ?_
          refine w_iload (pc := 103) hC dX12_sorted_103 2 rfl ?_
          refine w_imul (pc := 105) hC dX12_sorted_105 ?_
          refine w_ishl (pc := 106) hC dX12_sorted_106 (by omega) ?_
          refine w_top (e2 := dg o ((I 1) (893 + 2 * k)) * 8 ^ (((I 1) (893 + 2 * k + 1))).toNat) (by rw [show (3 * ((I 1) (893 + 2 * k + 1))).toNat = 3 * (((I 1) (893 + 2 * k + 1))).toNat by omega, p38]) ?_
          refine w_ior (pc := 107) hC dX12_sorted_107 (v := swd 6 o ((I 1) (893 + 2 * k)) ((I 1) (893 + 2 * k + 1))) (by rw [J_or ⟨ior_nn _ _, by omega⟩]; exact congrArg J (sw_bits6 io (by omega) (by omega) (by omega) rfl rfl)) ?_
          refine w_goto (pc := 108) hC dX12_sorted_108 (tgt := 112) (by decide) ?_
          refine w_istore_n (pc := 112) hC dX12_sorted_112 rfl (lv2 := [(2, .int (J (swd 6 o ((I 1) (893 + 2 * k)) ((I 1) (893 + 2 * k + 1))))), (7, .int (J (dg o ((I 1) ((893 + (2 * k)) + 1))))), (6, .int (J (dg o ((I 1) (893 + (2 * k)))))), (5, .int (J ((I 1) ((893 + (2 * k)) + 1)))), (4, .int (J ((I 1) (893 + (2 * k))))), (0, .ref (A 0)), (3, .int (J k))]) (by rw [hnL]; decide) rfl ?_
          refine w_iinc (pc := 113) hC dX12_sorted_113 (lv2 := [(3, .int (J (k + 1))), (2, .int (J (swd 6 o ((I 1) (893 + 2 * k)) ((I 1) (893 + 2 * k + 1))))), (7, .int (J (dg o ((I 1) ((893 + (2 * k)) + 1))))), (6, .int (J (dg o ((I 1) (893 + (2 * k)))))), (5, .int (J ((I 1) ((893 + (2 * k)) + 1)))), (4, .int (J ((I 1) (893 + (2 * k))))), (0, .ref (A 0))]) 6 rfl (by rw [hnL]; decide) rfl ?_
          refine w_goto (pc := 116) hC dX12_sorted_116 (tgt := 4) (by decide) ?_
          refine w_sub [6, 1, 0] (lv2 := [(0, .ref (A 0)), (2, .int (J (swd 6 o ((I 1) (893 + 2 * k)) ((I 1) (893 + 2 * k + 1))))), (3, .int (J (k + 1)))]) rfl ?_
          refine ih4 (swd 6 o ((I 1) (893 + 2 * k)) ((I 1) (893 + 2 * k + 1))) (k + 1) ?_ ?_ ?_ ?_
          · first | assumption | omega
          · rw [SRT_s _ _ i1.1, ← i2]; unfold SR1; first | rw [if_pos c68] | rw [if_neg c68]
          · first | exact i3 | exact OD_sw i3 (by omega) (by omega)
          · omega
  refine w_sub [2, 1, 0] (lv2 := [(0, .ref (A 0)), (2, .int (J order)), (3, .int (J 0))]) rfl ?_
  refine loop4 (((I 1) 3 - 0) + 1 : Int).toNat order 0 ?_ ?_ ?_ ?_
  · first | assumption | omega
  · rfl
  · exact ho
  · omega
set_option maxRecDepth 100000 in
set_option maxHeartbeats 4000000 in
theorem c_X12_fromBelow (l : Launch) (G : GT) (A : Nat → Nat) (I : Nat → Int → Int) (F : Nat → Int)  (order : Int) (hR : RI (I 1)) (ho : OD order) : CT l yX12_fromBelow cX12_fromBelow 5 (some .int) 1 0 0 G [.ref (A 0), .int (J order)] (MW A G.2.1 I F) (fun vo wo => vo = some (.int (J (v_below (I 1) order))) ∧ wo = MW A G.2.1 I F) := by
  refine CT_of (own := RX12) rfl rfl (Nat.le_of_ble_eq_true rfl) (fun K hl hnL hC hRT hin => ?_)
  subst hl
  show WW K G 0 0 (MW A G.2.1 I F) 0 [(0, .ref (A 0)), (1, .int (J order))] []
  have hn := hR.n
  have io := ho.1
  refine w_iconst (pc := 0) hC dX12_fromBelow_0 ?_
  refine w_istore_n (pc := 1) hC dX12_fromBelow_1 rfl (lv2 := [(2, .int (J 0)), (0, .ref (A 0)), (1, .int (J order))]) (by rw [hnL]; decide) rfl ?_
  refine w_iconst (pc := 2) hC dX12_fromBelow_2 ?_
  refine w_istore_n (pc := 3) hC dX12_fromBelow_3 rfl (lv2 := [(3, .int (J 0)), (2, .int (J 0)), (0, .ref (A 0)), (1, .int (J order))]) (by rw [hnL]; decide) rfl ?_
  have loop4 : ∀ (nF : Nat) (x : Int) (i : Int), (0 ≤ i ∧ i ≤ (I 1) 0) → (x = rs (fun i => rs (fun j => (I 1) (929 + 6 * dg order j + dg order i)) (i + 1) ((I 1) 0)) 0 i) → ((I 1) 0 - i) < (nF : Int) → WW K G 0 0 (MW A G.2.1 I F) 4 [(0, .ref (A 0)), (1, .int (J order)), (2, .int (J x)), (3, .int (J i))] [] := by
    intro nF
    induction nF with
    | zero => intro x i i1 i2 hm4; exact absurd hm4 (by omega)
    | succ nF ih4 =>
      intro x i i1 i2 hm4
      refine w_iload_n (pc := 4) hC dX12_fromBelow_4 3 rfl rfl ?_
      refine w_aload_n (pc := 5) hC dX12_fromBelow_5 0 rfl rfl ?_
      refine w_getf (pc := 6) (v := .ref (A 1)) hC dX12_fromBelow_6 fi_X12_9 0 rfl rfl ?_
      refine w_iconst (pc := 9) hC dX12_fromBelow_9 ?_
      refine w_iald (pc := 10) (g := (I 1)) hC dX12_fromBelow_10 1 rfl (by omega) (Nat.le_of_ble_eq_true rfl) ?_
      refine w_icmp_ge (pc := 11) (tgt := 69) hC dX12_fromBelow_11 (by decide) (by omega) (fun c11 => ?_) (fun c11 => ?_)
      · refine w_iload_n (pc := 69) hC dX12_fromBelow_69 2 rfl rfl ?_
        refine w_iret (pc := 70) hC hRT dX12_fromBelow_70 rfl ?_
        refine ⟨retI (by rw [i2, show i = I 1 0 by omega]; rfl), rfl⟩
      · refine w_iload_n (pc := 14) hC dX12_fromBelow_14 3 rfl rfl ?_
        refine w_iconst (pc := 15) hC dX12_fromBelow_15 ?_
        refine w_iadd (pc := 16) hC dX12_fromBelow_16 ?_
        refine w_istore (pc := 17) hC dX12_fromBelow_17 (lv2 := [(4, .int (J (i + 1))), (0, .ref (A 0)), (1, .int (J order)), (2, .int (J x)), (3, .int (J i))]) (by rw [hnL]; decide) rfl ?_
        have loop19 : ∀ (nF : Nat) (y : Int) (j : Int), (i + 1 ≤ j ∧ j ≤ (I 1) 0) → (y = x + rs (fun j => (I 1) (929 + 6 * dg order j + dg order i)) (i + 1) j) → ((I 1) 0 - j) < (nF : Int) → WW K G 0 0 (MW A G.2.1 I F) 19 [(0, .ref (A 0)), (1, .int (J order)), (2, .int (J y)), (3, .int (J i)), (4, .int (J j))] [] := by
          intro nF
          induction nF with
          | zero => intro y j j1 j2 hm19; exact absurd hm19 (by omega)
          | succ nF ih19 =>
            intro y j j1 j2 hm19
            refine w_iload (pc := 19) hC dX12_fromBelow_19 4 rfl ?_
            refine w_aload_n (pc := 21) hC dX12_fromBelow_21 0 rfl rfl ?_
            refine w_getf (pc := 22) (v := .ref (A 1)) hC dX12_fromBelow_22 fi_X12_9 0 rfl rfl ?_
            refine w_iconst (pc := 25) hC dX12_fromBelow_25 ?_
            refine w_iald (pc := 26) (g := (I 1)) hC dX12_fromBelow_26 1 rfl (by omega) (Nat.le_of_ble_eq_true rfl) ?_
            refine w_icmp_ge (pc := 27) (tgt := 63) hC dX12_fromBelow_27 (by decide) (by omega) (fun c27 => ?_) (fun c27 => ?_)
            · refine w_iinc (pc := 63) hC dX12_fromBelow_63 (lv2 := [(3, .int (J (i + 1))), (0, .ref (A 0)), (1, .int (J order)), (2, .int (J y)), (4, .int (J j))]) 3 rfl (by rw [hnL]; decide) rfl ?_
              refine w_goto (pc := 66) hC dX12_fromBelow_66 (tgt := 4) (by decide) ?_
              refine w_sub [1, 2, 3, 0] (lv2 := [(0, .ref (A 0)), (1, .int (J order)), (2, .int (J y)), (3, .int (J (i + 1)))]) rfl ?_
              refine ih4 y (i + 1) ?_ ?_ ?_
              · first | assumption | omega
              · rw [rs_s _ i1.1, j2, ← i2, show j = I 1 0 by omega]
              · omega
            · have b1 := below_out hR ho i1.1 (show i ≤ I 1 0 by omega)
              rw [← i2] at b1
              have b2 := below_in hR ho i1.1 j1.1 j1.2
              have d1 := OD_dg ho (r := j) (by omega) (by omega)
              have d2 := OD_dg ho (r := i) (by omega) (by omega)
              have pp := hR.pa (929 + 6 * dg order j + dg order i) (by omega) (by omega)
              refine w_iload_n (pc := 30) hC dX12_fromBelow_30 2 rfl rfl ?_
              refine w_aload_n (pc := 31) hC dX12_fromBelow_31 0 rfl rfl ?_
              refine w_getf (pc := 32) (v := .ref (A 1)) hC dX12_fromBelow_32 fi_X12_9 0 rfl rfl ?_
              refine w_sipush (pc := 35) hC dX12_fromBelow_35 (z := 929) rfl ?_
              refine w_bipush (pc := 38) hC dX12_fromBelow_38 (z := 6) rfl ?_
              refine w_iload_n (pc := 40) hC dX12_fromBelow_40 1 rfl rfl ?_
              refine w_iload (pc := 41) hC dX12_fromBelow_41 4 rfl ?_
              refine w_callS (pc := 43) (As := [.int (J order), .int (J j)]) (rest := [.int (J 6), .int (J 929), .ref (A 1), .int (J y)]) hC dX12_fromBelow_43 cs_X12_52 (c_X12_nameOn (kl K) G (MW A G.2.1 I F) order j (show -2147483648 ≤ order ∧ order < 2147483648 from by first | assumption | omega) (show 0 ≤ j ∧ j ≤ 10 from by first | assumption | omega)) (by decide) ⟨Nat.le_of_ble_eq_true rfl, Nat.le_of_ble_eq_true rfl⟩ rfl (Nat.le_of_ble_eq_true rfl) rfl (fun vo wo hv => ?_)
              obtain ⟨hv1, hw1⟩ := hv
              rw [hv1, hw1]
              show WW K G 0 0 (MW A G.2.1 I F) 46 [(0, .ref (A 0)), (1, .int (J order)), (2, .int (J y)), (3, .int (J i)), (4, .int (J j))] [.int (J (dg order j)), .int (J 6), .int (J 929), .ref (A 1), .int (J y)]
              have q43_0 := dg_bd order j
              refine w_imul (pc := 46) hC dX12_fromBelow_46 ?_
              refine w_iadd (pc := 47) hC dX12_fromBelow_47 ?_
              refine w_iload_n (pc := 48) hC dX12_fromBelow_48 1 rfl rfl ?_
              refine w_iload_n (pc := 49) hC dX12_fromBelow_49 3 rfl rfl ?_
              refine w_callS (pc := 50) (As := [.int (J order), .int (J i)]) (rest := [.int (J (929 + (6 * (dg order j)))), .ref (A 1), .int (J y)]) hC dX12_fromBelow_50 cs_X12_52 (c_X12_nameOn (kl K) G (MW A G.2.1 I F) order i (show -2147483648 ≤ order ∧ order < 2147483648 from by first | assumption | omega) (show 0 ≤ i ∧ i ≤ 10 from by first | assumption | omega)) (by decide) ⟨Nat.le_of_ble_eq_true rfl, Nat.le_of_ble_eq_true rfl⟩ rfl (Nat.le_of_ble_eq_true rfl) rfl (fun vo wo hv => ?_)
              obtain ⟨hv1, hw1⟩ := hv
              rw [hv1, hw1]
              show WW K G 0 0 (MW A G.2.1 I F) 53 [(0, .ref (A 0)), (1, .int (J order)), (2, .int (J y)), (3, .int (J i)), (4, .int (J j))] [.int (J (dg order i)), .int (J (929 + (6 * (dg order j)))), .ref (A 1), .int (J y)]
              have q50_0 := dg_bd order i
              refine w_iadd (pc := 53) hC dX12_fromBelow_53 ?_
              refine w_iald (pc := 54) (g := (I 1)) hC dX12_fromBelow_54 1 rfl (by omega) (Nat.le_of_ble_eq_true rfl) ?_
              refine w_iadd (pc := 55) hC dX12_fromBelow_55 ?_
              refine w_istore_n (pc := 56) hC dX12_fromBelow_56 rfl (lv2 := [(2, .int (J (y + ((I 1) ((929 + (6 * (dg order j))) + (dg order i)))))), (0, .ref (A 0)), (1, .int (J order)), (3, .int (J i)), (4, .int (J j))]) (by rw [hnL]; decide) rfl ?_
              refine w_iinc (pc := 57) hC dX12_fromBelow_57 (lv2 := [(4, .int (J (j + 1))), (2, .int (J (y + ((I 1) ((929 + (6 * (dg order j))) + (dg order i)))))), (0, .ref (A 0)), (1, .int (J order)), (3, .int (J i))]) 4 rfl (by rw [hnL]; decide) rfl ?_
              refine w_goto (pc := 60) hC dX12_fromBelow_60 (tgt := 19) (by decide) ?_
              refine w_sub [2, 3, 1, 4, 0] (lv2 := [(0, .ref (A 0)), (1, .int (J order)), (2, .int (J (y + ((I 1) ((929 + (6 * (dg order j))) + (dg order i)))))), (3, .int (J i)), (4, .int (J (j + 1)))]) rfl ?_
              refine ih19 (y + ((I 1) ((929 + (6 * (dg order j))) + (dg order i)))) (j + 1) ?_ ?_ ?_
              · first | assumption | omega
              · rw [rs_s _ j1.1, j2, Int.add_assoc]
              · omega
        refine w_sub [1, 2, 3, 4, 0] (lv2 := [(0, .ref (A 0)), (1, .int (J order)), (2, .int (J x)), (3, .int (J i)), (4, .int (J (i + 1)))]) rfl ?_
        refine loop19 (((I 1) 0 - (i + 1)) + 1 : Int).toNat x (i + 1) ?_ ?_ ?_
        · first | assumption | omega
        · rw [rs_0]; omega
        · omega
  refine w_sub [2, 3, 1, 0] (lv2 := [(0, .ref (A 0)), (1, .int (J order)), (2, .int (J 0)), (3, .int (J 0))]) rfl ?_
  refine loop4 (((I 1) 0 - 0) + 1 : Int).toNat 0 0 ?_ ?_ ?_
  · first | assumption | omega
  · exact (rs_0 _ _).symm
  · omega
def PG_go (l : Launch) (G : GT) (m : Nat) : Prop := (∀ (A : Nat → Nat) (I : Nat → Int → Int) (F : Nat → Int) (t : Int) (order : Int) (used : Int) (depth : Int) (hR : RI (I 1)) (ho : OD order ∧ order < 8 ^ depth.toNat) (hu : 0 ≤ used ∧ used < 64) (hd : 0 ≤ depth ∧ depth ≤ (I 1) 0) (hm : ((I 1) 0 - depth).toNat ≤ m) (hq : BQ t ((F 19), (F 20), (F 21), (F 22))) (ht : t + 6 ^ ((I 1) 0 - depth).toNat ≤ 100000), CT l yX12_goesThrough cX12_goesThrough 5 none (2 + m) 0 0 G [.ref (A 0), .int (J order), .int (J used), .int (J depth)] (MW A G.2.1 I F) (fun vo wo => ∃ (g19 : Int) (g20 : Int) (g21 : Int) (g22 : Int), vo = none ∧ wo = MW A G.2.1 I (fu (fu (fu (fu F 19 g19) 20 g20) 21 g21) 22 g22) ∧ ((g19, g20, g21, g22) = GO (I 1) ((I 1) 0 - depth).toNat order used depth ((F 19), (F 20), (F 21), (F 22)))))
set_option maxRecDepth 100000 in
set_option maxHeartbeats 4000000 in
theorem r_X12_goesThrough (l : Launch) (G : GT) (m : Nat) (IH : ∀ m2 : Nat, m2 < m → PG_go l G m2) (A : Nat → Nat) (I : Nat → Int → Int) (F : Nat → Int) (t : Int) (order : Int) (used : Int) (depth : Int) (hR : RI (I 1)) (ho : OD order ∧ order < 8 ^ depth.toNat) (hu : 0 ≤ used ∧ used < 64) (hd : 0 ≤ depth ∧ depth ≤ (I 1) 0) (hm : ((I 1) 0 - depth).toNat ≤ m) (hq : BQ t ((F 19), (F 20), (F 21), (F 22))) (ht : t + 6 ^ ((I 1) 0 - depth).toNat ≤ 100000) : CT l yX12_goesThrough cX12_goesThrough 5 none (2 + m) 0 0 G [.ref (A 0), .int (J order), .int (J used), .int (J depth)] (MW A G.2.1 I F) (fun vo wo => ∃ (g19 : Int) (g20 : Int) (g21 : Int) (g22 : Int), vo = none ∧ wo = MW A G.2.1 I (fu (fu (fu (fu F 19 g19) 20 g20) 21 g21) 22 g22) ∧ ((g19, g20, g21, g22) = GO (I 1) ((I 1) 0 - depth).toNat order used depth ((F 19), (F 20), (F 21), (F 22)))) := by
  refine CT_of (own := RX12) rfl rfl (Nat.le_of_ble_eq_true rfl) (fun K hl hnL hC hRT hin => ?_)
  subst hl
  show WW K G 0 0 (MW A G.2.1 I F) 0 [(0, .ref (A 0)), (1, .int (J order)), (2, .int (J used)), (3, .int (J depth))] []
  have hn := hR.n
  have ho1 := ho.1
  have ho2 := ho1.1
  obtain ⟨b1, b2, b3, b4⟩ := hq
  dsimp only at b1 b2 b3 b4
  have h6p : (0 : Int) < 6 ^ (I 1 0 - depth).toNat := Int.pow_pos (by decide)
  refine w_iload_n (pc := 0) hC dX12_goesThrough_0 3 rfl rfl ?_
  refine w_aload_n (pc := 1) hC dX12_goesThrough_1 0 rfl rfl ?_
  refine w_getf (pc := 2) (v := .ref (A 1)) hC dX12_goesThrough_2 fi_X12_9 0 rfl rfl ?_
  refine w_iconst (pc := 5) hC dX12_goesThrough_5 ?_
  refine w_iald (pc := 6) (g := (I 1)) hC dX12_goesThrough_6 1 rfl (by omega) (Nat.le_of_ble_eq_true rfl) ?_
  refine w_icmp_ne (pc := 7) (tgt := 109) hC dX12_goesThrough_7 (by decide) (by omega) (fun c7 => ?_) (fun c7 => ?_)
  · refine w_iconst (pc := 109) hC dX12_goesThrough_109 ?_
    refine w_istore (pc := 110) hC dX12_goesThrough_110 (lv2 := [(4, .int (J 0)), (0, .ref (A 0)), (1, .int (J order)), (2, .int (J used)), (3, .int (J depth))]) (by rw [hnL]; decide) rfl ?_
    have loop112 : ∀ (nF : Nat) (k : Int) (f19_112 : Int) (f20_112 : Int) (f21_112 : Int) (f22_112 : Int), (0 ≤ k ∧ k ≤ (I 1) 0) → ((f19_112, f20_112, f21_112, f22_112) = (flatN (PRF ((I 1) 0) ((I 1) 0 - depth - 1).toNat order used depth) k.toNat).foldl (LEAF (I 1)) ((F 19), (F 20), (F 21), (F 22))) → (BQ (t + k * 6 ^ ((I 1) 0 - depth - 1).toNat) (f19_112, f20_112, f21_112, f22_112)) → ((I 1) 0 - k) < (nF : Int) → WW K G 0 0 (MW A G.2.1 I (fu (fu (fu (fu F 19 f19_112) 20 f20_112) 21 f21_112) 22 f22_112)) 112 [(0, .ref (A 0)), (1, .int (J order)), (2, .int (J used)), (3, .int (J depth)), (4, .int (J k))] [] := by
      intro nF
      induction nF with
      | zero => intro k f19_112 f20_112 f21_112 f22_112 i1 i2 i3 hm112; exact absurd hm112 (by omega)
      | succ nF ih112 =>
        intro k f19_112 f20_112 f21_112 f22_112 i1 i2 i3 hm112
        have hpp : (0 : Int) < 6 ^ (I 1 0 - depth - 1).toNat := Int.pow_pos (by decide)
        refine w_iload (pc := 112) hC dX12_goesThrough_112 4 rfl ?_
        refine w_aload_n (pc := 114) hC dX12_goesThrough_114 0 rfl rfl ?_
        refine w_getf (pc := 115) (v := .ref (A 1)) hC dX12_goesThrough_115 fi_X12_9 0 rfl rfl ?_
        refine w_iconst (pc := 118) hC dX12_goesThrough_118 ?_
        refine w_iald (pc := 119) (g := (I 1)) hC dX12_goesThrough_119 1 rfl (by omega) (Nat.le_of_ble_eq_true rfl) ?_
        refine w_icmp_ge (pc := 120) (tgt := 159) hC dX12_goesThrough_120 (by decide) (by omega) (fun c120 => ?_) (fun c120 => ?_)
        · refine w_vret (pc := 159) hC hRT dX12_goesThrough_159 ?_
          refine ⟨f19_112, f20_112, f21_112, f22_112, rfl, rfl, ?_⟩
          · rw [i2, show (I 1 0 - depth).toNat = (I 1 0 - depth - 1).toNat + 1 by omega]; unfold GO; rw [PRM_s, show k = I 1 0 by omega]
        · have hp2 := p2_6 (x := k) (by omega) (by omega)
          have hoa := OD_add ho1 (d := depth) (k := k) (by omega) ho.2 (by omega)
          have hp8 := p8 depth.toNat
          have hkp := Int.mul_nonneg i1.1 (Int.le_of_lt hp8)
          have hs : (6 : Int) ^ (I 1 0 - depth).toNat = 6 * 6 ^ (I 1 0 - depth - 1).toNat := by rw [show (I 1 0 - depth).toNat = (I 1 0 - depth - 1).toNat + 1 by omega, Int.pow_succ, Int.mul_comm]
          have hk6 : (k + 1) * 6 ^ (I 1 0 - depth - 1).toNat ≤ 6 * 6 ^ (I 1 0 - depth - 1).toNat := Int.mul_le_mul_of_nonneg_right (by omega) (by omega)
          rw [Int.add_mul, Int.one_mul] at hk6
          have e1 : (6 : Int) ^ (I 1 0 - (depth + 1)).toNat = 6 ^ (I 1 0 - depth - 1).toNat := by rw [show I 1 0 - (depth + 1) = I 1 0 - depth - 1 by omega]
          refine w_iload_n (pc := 123) hC dX12_goesThrough_123 2 rfl rfl ?_
          refine w_iload (pc := 124) hC dX12_goesThrough_124 4 rfl ?_
          refine w_ishr (pc := 126) hC dX12_goesThrough_126 (by omega) ?_
          refine w_iconst (pc := 127) hC dX12_goesThrough_127 ?_
          refine w_iand (pc := 128) hC dX12_goesThrough_128 (v := (used / 2 ^ k.toNat) % 2) (J_and1 _) ?_
          refine w_if_ne (pc := 129) (tgt := 153) hC dX12_goesThrough_129 (by decide) (by omega) (fun c129 => ?_) (fun c129 => ?_)
          · refine w_iinc (pc := 153) hC dX12_goesThrough_153 (lv2 := [(4, .int (J (k + 1))), (0, .ref (A 0)), (1, .int (J order)), (2, .int (J used)), (3, .int (J depth))]) 4 rfl (by rw [hnL]; decide) rfl ?_
            refine w_goto (pc := 156) hC dX12_goesThrough_156 (tgt := 112) (by decide) ?_
            refine w_sub [1, 2, 3, 4, 0] (lv2 := [(0, .ref (A 0)), (1, .int (J order)), (2, .int (J used)), (3, .int (J depth)), (4, .int (J (k + 1)))]) rfl ?_
            refine ih112 (k + 1) f19_112 f20_112 f21_112 f22_112 ?_ ?_ ?_ ?_
            · first | assumption | omega
            · rw [flatN_s _ i1.1, List.foldl_append, ← i2]; unfold PRF; rw [if_pos (by omega)]; rfl
            · rw [Int.add_mul, Int.one_mul]; exact BQ_le i3 (by omega)
            · omega
          · refine w_aload_n (pc := 132) hC dX12_goesThrough_132 0 rfl rfl ?_
            refine w_iload_n (pc := 133) hC dX12_goesThrough_133 1 rfl rfl ?_
            refine w_iload (pc := 134) hC dX12_goesThrough_134 4 rfl ?_
            refine w_iconst (pc := 136) hC dX12_goesThrough_136 ?_
            refine w_iload_n (pc := 137) hC dX12_goesThrough_137 3 rfl rfl ?_
            refine w_imul (pc := 138) hC dX12_goesThrough_138 ?_
            refine w_ishl (pc := 139) hC dX12_goesThrough_139 (by omega) ?_
            refine w_top (e2 := k * 8 ^ depth.toNat) (by rw [show (3 * depth).toNat = 3 * (depth).toNat by omega, p38]) ?_
            refine w_ior (pc := 140) hC dX12_goesThrough_140 (v := ior order (k * 8 ^ depth.toNat)) (J_or (by omega)) ?_
            refine w_iload_n (pc := 141) hC dX12_goesThrough_141 2 rfl rfl ?_
            refine w_iconst (pc := 142) hC dX12_goesThrough_142 ?_
            refine w_iload (pc := 143) hC dX12_goesThrough_143 4 rfl ?_
            refine w_ishl (pc := 145) hC dX12_goesThrough_145 (by omega) ?_
            refine w_top (e2 := 2 ^ k.toNat) (by exact Int.one_mul _) ?_
            refine w_ior (pc := 146) hC dX12_goesThrough_146 (v := ior used (2 ^ k.toNat)) (J_or (by omega)) ?_
            refine w_iload_n (pc := 147) hC dX12_goesThrough_147 3 rfl rfl ?_
            refine w_iconst (pc := 148) hC dX12_goesThrough_148 ?_
            refine w_iadd (pc := 149) hC dX12_goesThrough_149 ?_
            refine w_callV (pc := 150) (As := [.int (J (ior order (k * 8 ^ depth.toNat))), .int (J (ior used (2 ^ k.toNat))), .int (J (depth + 1))]) (rest := []) hC dX12_goesThrough_150 cv_X12_244 ((IH (m - 1) (by omega)) A I (fu (fu (fu (fu F 19 f19_112) 20 f20_112) 21 f21_112) 22 f22_112) (t + k * 6 ^ (I 1 0 - depth - 1).toNat) (ior order (k * 8 ^ depth.toNat)) (ior used (2 ^ k.toNat)) (depth + 1) (show RI (I 1) from by assumption) (show OD (ior order (k * 8 ^ depth.toNat)) ∧ (ior order (k * 8 ^ depth.toNat)) < 8 ^ (depth + 1).toNat from by exact hoa) (show 0 ≤ (ior used (2 ^ k.toNat)) ∧ (ior used (2 ^ k.toNat)) < 64 from by exact ⟨ior_nn _ _, ior_lt 6 hu.1 (by omega) hu.2 hp2.2⟩) (show 0 ≤ (depth + 1) ∧ (depth + 1) ≤ (I 1) 0 from by first | assumption | omega) (show ((I 1) 0 - (depth + 1)).toNat ≤ (m - 1) from by first | assumption | omega) (show BQ (t + k * 6 ^ (I 1 0 - depth - 1).toNat) (f19_112, f20_112, f21_112, f22_112) from by exact i3) (show (t + k * 6 ^ (I 1 0 - depth - 1).toNat) + 6 ^ ((I 1) 0 - (depth + 1)).toNat ≤ 100000 from by rw [e1]; omega)) (by omega) ⟨Nat.le_of_ble_eq_true rfl, Nat.le_of_ble_eq_true rfl⟩ (q0 := 0) rfl rfl rfl rfl (Nat.le_of_ble_eq_true rfl) rfl (fun vo wo hv => ?_)
            obtain ⟨g19_150, g20_150, g21_150, g22_150, hv1, hw1, r150⟩ := hv
            rw [hv1, hw1]
            show WW K G 0 0 (MW A G.2.1 I (fu (fu (fu (fu F 19 g19_150) 20 g20_150) 21 g21_150) 22 g22_150)) 153 [(0, .ref (A 0)), (1, .int (J order)), (2, .int (J used)), (3, .int (J depth)), (4, .int (J k))] []
            have r150 : (g19_150, g20_150, g21_150, g22_150) = GO (I 1) ((I 1) 0 - (depth + 1)).toNat (ior order (k * 8 ^ depth.toNat)) (ior used (2 ^ k.toNat)) (depth + 1) (f19_112, f20_112, f21_112, f22_112) := r150
            refine w_iinc (pc := 153) hC dX12_goesThrough_153 (lv2 := [(4, .int (J (k + 1))), (0, .ref (A 0)), (1, .int (J order)), (2, .int (J used)), (3, .int (J depth))]) 4 rfl (by rw [hnL]; decide) rfl ?_
            refine w_goto (pc := 156) hC dX12_goesThrough_156 (tgt := 112) (by decide) ?_
            refine w_sub [1, 2, 3, 4, 0] (lv2 := [(0, .ref (A 0)), (1, .int (J order)), (2, .int (J used)), (3, .int (J depth)), (4, .int (J (k + 1)))]) rfl ?_
            refine ih112 (k + 1) g19_150 g20_150 g21_150 g22_150 ?_ ?_ ?_ ?_
            · first | assumption | omega
            · rw [flatN_s _ i1.1, List.foldl_append, ← i2]; unfold PRF; rw [if_neg (by omega), show (I 1 0 - depth - 1).toNat = (I 1 0 - (depth + 1)).toNat by omega]; exact r150
            · rw [r150, Int.add_mul, Int.one_mul, ← Int.add_assoc, show (I 1 0 - depth - 1).toNat = (I 1 0 - (depth + 1)).toNat by omega]; rw [show (I 1 0 - depth - 1).toNat = (I 1 0 - (depth + 1)).toNat by omega] at i3; exact GO_BQ hR i3 hoa.1 (by omega) hoa.2
            · omega
    refine w_sub [1, 2, 3, 4, 0] (lv2 := [(0, .ref (A 0)), (1, .int (J order)), (2, .int (J used)), (3, .int (J depth)), (4, .int (J 0))]) rfl ?_
    refine loop112 (((I 1) 0 - 0) + 1 : Int).toNat 0 (F 19) (F 20) (F 21) (F 22) ?_ ?_ ?_ ?_
    · first | assumption | omega
    · rfl
    · rw [Int.zero_mul, Int.add_zero]; exact ⟨b1, b2, b3, b4⟩
    · omega
  · refine w_aload_n (pc := 10) hC dX12_goesThrough_10 0 rfl rfl ?_
    refine w_dup (pc := 11) hC dX12_goesThrough_11 rfl ?_
    refine w_getf (pc := 12) (v := .int (J (F 19))) hC dX12_goesThrough_12 fi_X12_225 0 rfl rfl ?_
    refine w_iconst (pc := 15) hC dX12_goesThrough_15 ?_
    refine w_iadd (pc := 16) hC dX12_goesThrough_16 ?_
    refine w_putf (pc := 17) (w2 := MW A G.2.1 I (fu F 19 ((F 19) + 1))) hC dX12_goesThrough_17 fi_X12_225 fp_X12_19 rfl 0 rfl (rfl) (rfl) (Nat.le_of_ble_eq_true rfl) rfl ?_
    refine w_aload_n (pc := 20) hC dX12_goesThrough_20 0 rfl rfl ?_
    refine w_dup (pc := 21) hC dX12_goesThrough_21 rfl ?_
    refine w_getf (pc := 22) (v := .int (J (F 20))) hC dX12_goesThrough_22 fi_X12_228 0 rfl rfl ?_
    refine w_aload_n (pc := 25) hC dX12_goesThrough_25 0 rfl rfl ?_
    refine w_iload_n (pc := 26) hC dX12_goesThrough_26 1 rfl rfl ?_
    refine w_callV (pc := 27) (As := [.int (J order)]) (rest := [.int (J (F 20)), .ref (A 0)]) hC dX12_goesThrough_27 cv_X12_231 (c_X12_sorted (kl K) G A I (fu F 19 ((F 19) + 1)) order (show RI (I 1) from by first | assumption | omega) (show OD order from by first | assumption | omega)) (by omega) ⟨Nat.le_of_ble_eq_true rfl, Nat.le_of_ble_eq_true rfl⟩ (q0 := 0) rfl rfl rfl rfl (Nat.le_of_ble_eq_true rfl) rfl (fun vo wo hv => ?_)
    obtain ⟨hv1, hw1⟩ := hv
    rw [hv1, hw1]
    show WW K G 0 0 (MW A G.2.1 I (fu F 19 ((F 19) + 1))) 30 [(0, .ref (A 0)), (1, .int (J order)), (2, .int (J used)), (3, .int (J depth))] [.int (J (v_sorted (I 1) order)), .int (J (F 20)), .ref (A 0)]
    have q27_0 := (show v_sorted (I 1) order = 0 ∨ v_sorted (I 1) order = 1 from SOK_01 _ _ _)
    refine w_if_eq (pc := 30) (tgt := 37) hC dX12_goesThrough_30 (by decide) (by omega) (fun c30 => ?_) (fun c30 => ?_)
    · refine w_iconst (pc := 37) hC dX12_goesThrough_37 ?_
      refine w_iadd (pc := 38) hC dX12_goesThrough_38 ?_
      refine w_putf (pc := 39) (w2 := MW A G.2.1 I (fu (fu F 19 ((F 19) + 1)) 20 ((F 20) + 0))) hC dX12_goesThrough_39 fi_X12_228 fp_X12_20 rfl 0 rfl (rfl) (rfl) (Nat.le_of_ble_eq_true rfl) rfl ?_
      refine w_aload_n (pc := 42) hC dX12_goesThrough_42 0 rfl rfl ?_
      refine w_iload_n (pc := 43) hC dX12_goesThrough_43 1 rfl rfl ?_
      refine w_callV (pc := 44) (As := [.int (J order)]) (rest := []) hC dX12_goesThrough_44 cv_X12_234 (c_X12_fromBelow (kl K) G A I (fu (fu F 19 ((F 19) + 1)) 20 ((F 20) + 0)) order (show RI (I 1) from by first | assumption | omega) (show OD order from by first | assumption | omega)) (by omega) ⟨Nat.le_of_ble_eq_true rfl, Nat.le_of_ble_eq_true rfl⟩ (q0 := 0) rfl rfl rfl rfl (Nat.le_of_ble_eq_true rfl) rfl (fun vo wo hv => ?_)
      obtain ⟨hv1, hw1⟩ := hv
      rw [hv1, hw1]
      show WW K G 0 0 (MW A G.2.1 I (fu (fu F 19 ((F 19) + 1)) 20 ((F 20) + 0))) 47 [(0, .ref (A 0)), (1, .int (J order)), (2, .int (J used)), (3, .int (J depth))] [.int (J (v_below (I 1) order))]
      have q44_0 := (show 0 ≤ v_below (I 1) order ∧ v_below (I 1) order ≤ 3600 by have q := below_out (S := (I 1)) (o := order) (i := (I 1) 0) (by assumption) (by assumption) (by omega) (by omega); unfold v_below; omega)
      refine w_istore (pc := 47) hC dX12_goesThrough_47 (lv2 := [(4, .int (J (v_below (I 1) order))), (0, .ref (A 0)), (1, .int (J order)), (2, .int (J used)), (3, .int (J depth))]) (by rw [hnL]; decide) rfl ?_
      refine w_aload_n (pc := 49) hC dX12_goesThrough_49 1 rfl rfl ?_
      refine w_aload_n (pc := 50) hC dX12_goesThrough_50 1 rfl rfl ?_
      refine w_getf (pc := 51) (v := .int (J (F 21))) hC dX12_goesThrough_51 fi_X12_238 0 rfl rfl ?_
      refine w_iconst (pc := 54) hC dX12_goesThrough_54 ?_
      refine w_icmp_eq (pc := 55) (tgt := 67) hC dX12_goesThrough_55 (by decide) (by omega) (fun c55 => ?_) (fun c55 => ?_)
      · refine w_iload_n (pc := 67) hC dX12_goesThrough_67 2 rfl rfl ?_
        refine w_goto (pc := 68) hC dX12_goesThrough_68 (tgt := 75) (by decide) ?_
        refine w_putf (pc := 75) (w2 := MW A G.2.1 I (fu (fu (fu F 19 ((F 19) + 1)) 20 ((F 20) + 0)) 22 order)) hC dX12_goesThrough_75 fi_X12_241 fp_X12_22 rfl 0 rfl (rfl) (rfl) (Nat.le_of_ble_eq_true rfl) rfl ?_
        refine w_aload_n (pc := 78) hC dX12_goesThrough_78 1 rfl rfl ?_
        refine w_aload_n (pc := 79) hC dX12_goesThrough_79 1 rfl rfl ?_
        refine w_getf (pc := 80) (v := .int (J (F 21))) hC dX12_goesThrough_80 fi_X12_238 0 rfl rfl ?_
        refine w_iconst (pc := 83) hC dX12_goesThrough_83 ?_
        refine w_icmp_eq (pc := 84) (tgt := 96) hC dX12_goesThrough_84 (by decide) (by omega) (fun c84 => ?_) (fun c84 => ?_)
        · refine w_iload (pc := 96) hC dX12_goesThrough_96 0 rfl ?_
          refine w_goto (pc := 98) hC dX12_goesThrough_98 (tgt := 105) (by decide) ?_
          refine w_putf (pc := 105) (w2 := MW A G.2.1 I (fu (fu (fu (fu F 19 ((F 19) + 1)) 20 ((F 20) + 0)) 21 (v_below (I 1) order)) 22 order)) hC dX12_goesThrough_105 fi_X12_238 fp_X12_21 rfl 0 rfl (rfl) (rfl) (Nat.le_of_ble_eq_true rfl) rfl ?_
          refine w_vret (pc := 108) hC hRT dX12_goesThrough_108 ?_
          refine ⟨(F 19) + 1, (F 20) + 0, v_below (I 1) order, order, rfl, rfl, ?_⟩
          · rw [show (I 1 0 - depth).toNat = 0 by omega]
            show _ = LEAF (I 1) _ order
            unfold LEAF
            dsimp only
            first | rw [if_pos (by omega)] | rw [if_neg (by omega)]
            exact Prod.ext rfl (Prod.ext (by dsimp only; omega) rfl)
        · exfalso; omega
      · refine w_iload (pc := 58) hC dX12_goesThrough_58 0 rfl ?_
        refine w_aload_n (pc := 60) hC dX12_goesThrough_60 1 rfl rfl ?_
        refine w_getf (pc := 61) (v := .int (J (F 21))) hC dX12_goesThrough_61 fi_X12_238 0 rfl rfl ?_
        refine w_icmp_ge (pc := 64) (tgt := 71) hC dX12_goesThrough_64 (by decide) (by omega) (fun c64 => ?_) (fun c64 => ?_)
        · refine w_aload_n (pc := 71) hC dX12_goesThrough_71 1 rfl rfl ?_
          refine w_getf (pc := 72) (v := .int (J (F 22))) hC dX12_goesThrough_72 fi_X12_241 0 rfl rfl ?_
          refine w_putf (pc := 75) (w2 := MW A G.2.1 I (fu (fu (fu F 19 ((F 19) + 1)) 20 ((F 20) + 0)) 22 (F 22))) hC dX12_goesThrough_75 fi_X12_241 fp_X12_22 rfl 0 rfl (rfl) (rfl) (Nat.le_of_ble_eq_true rfl) rfl ?_
          refine w_aload_n (pc := 78) hC dX12_goesThrough_78 1 rfl rfl ?_
          refine w_aload_n (pc := 79) hC dX12_goesThrough_79 1 rfl rfl ?_
          refine w_getf (pc := 80) (v := .int (J (F 21))) hC dX12_goesThrough_80 fi_X12_238 0 rfl rfl ?_
          refine w_iconst (pc := 83) hC dX12_goesThrough_83 ?_
          refine w_icmp_eq (pc := 84) (tgt := 96) hC dX12_goesThrough_84 (by decide) (by omega) (fun c84 => ?_) (fun c84 => ?_)
          · exfalso; omega
          · refine w_iload (pc := 87) hC dX12_goesThrough_87 0 rfl ?_
            refine w_aload_n (pc := 89) hC dX12_goesThrough_89 1 rfl rfl ?_
            refine w_getf (pc := 90) (v := .int (J (F 21))) hC dX12_goesThrough_90 fi_X12_238 0 rfl rfl ?_
            refine w_icmp_ge (pc := 93) (tgt := 101) hC dX12_goesThrough_93 (by decide) (by omega) (fun c93 => ?_) (fun c93 => ?_)
            · refine w_aload_n (pc := 101) hC dX12_goesThrough_101 1 rfl rfl ?_
              refine w_getf (pc := 102) (v := .int (J (F 21))) hC dX12_goesThrough_102 fi_X12_238 0 rfl rfl ?_
              refine w_putf (pc := 105) (w2 := MW A G.2.1 I (fu (fu (fu (fu F 19 ((F 19) + 1)) 20 ((F 20) + 0)) 21 (F 21)) 22 (F 22))) hC dX12_goesThrough_105 fi_X12_238 fp_X12_21 rfl 0 rfl (rfl) (rfl) (Nat.le_of_ble_eq_true rfl) rfl ?_
              refine w_vret (pc := 108) hC hRT dX12_goesThrough_108 ?_
              refine ⟨(F 19) + 1, (F 20) + 0, (F 21), (F 22), rfl, rfl, ?_⟩
              · rw [show (I 1 0 - depth).toNat = 0 by omega]
                show _ = LEAF (I 1) _ order
                unfold LEAF
                dsimp only
                first | rw [if_pos (by omega)] | rw [if_neg (by omega)]
                exact Prod.ext rfl (Prod.ext (by dsimp only; omega) rfl)
            · exfalso; omega
        · refine w_iload_n (pc := 67) hC dX12_goesThrough_67 2 rfl rfl ?_
          refine w_goto (pc := 68) hC dX12_goesThrough_68 (tgt := 75) (by decide) ?_
          refine w_putf (pc := 75) (w2 := MW A G.2.1 I (fu (fu (fu F 19 ((F 19) + 1)) 20 ((F 20) + 0)) 22 order)) hC dX12_goesThrough_75 fi_X12_241 fp_X12_22 rfl 0 rfl (rfl) (rfl) (Nat.le_of_ble_eq_true rfl) rfl ?_
          refine w_aload_n (pc := 78) hC dX12_goesThrough_78 1 rfl rfl ?_
          refine w_aload_n (pc := 79) hC dX12_goesThrough_79 1 rfl rfl ?_
          refine w_getf (pc := 80) (v := .int (J (F 21))) hC dX12_goesThrough_80 fi_X12_238 0 rfl rfl ?_
          refine w_iconst (pc := 83) hC dX12_goesThrough_83 ?_
          refine w_icmp_eq (pc := 84) (tgt := 96) hC dX12_goesThrough_84 (by decide) (by omega) (fun c84 => ?_) (fun c84 => ?_)
          · exfalso; omega
          · refine w_iload (pc := 87) hC dX12_goesThrough_87 0 rfl ?_
            refine w_aload_n (pc := 89) hC dX12_goesThrough_89 1 rfl rfl ?_
            refine w_getf (pc := 90) (v := .int (J (F 21))) hC dX12_goesThrough_90 fi_X12_238 0 rfl rfl ?_
            refine w_icmp_ge (pc := 93) (tgt := 101) hC dX12_goesThrough_93 (by decide) (by omega) (fun c93 => ?_) (fun c93 => ?_)
            · exfalso; omega
            · refine w_iload (pc := 96) hC dX12_goesThrough_96 0 rfl ?_
              refine w_goto (pc := 98) hC dX12_goesThrough_98 (tgt := 105) (by decide) ?_
              refine w_putf (pc := 105) (w2 := MW A G.2.1 I (fu (fu (fu (fu F 19 ((F 19) + 1)) 20 ((F 20) + 0)) 21 (v_below (I 1) order)) 22 order)) hC dX12_goesThrough_105 fi_X12_238 fp_X12_21 rfl 0 rfl (rfl) (rfl) (Nat.le_of_ble_eq_true rfl) rfl ?_
              refine w_vret (pc := 108) hC hRT dX12_goesThrough_108 ?_
              refine ⟨(F 19) + 1, (F 20) + 0, v_below (I 1) order, order, rfl, rfl, ?_⟩
              · rw [show (I 1 0 - depth).toNat = 0 by omega]
                show _ = LEAF (I 1) _ order
                unfold LEAF
                dsimp only
                first | rw [if_pos (by omega)] | rw [if_neg (by omega)]
                exact Prod.ext rfl (Prod.ext (by dsimp only; omega) rfl)
    · refine w_iconst (pc := 33) hC dX12_goesThrough_33 ?_
      refine w_goto (pc := 34) hC dX12_goesThrough_34 (tgt := 38) (by decide) ?_
      refine w_iadd (pc := 38) hC dX12_goesThrough_38 ?_
      refine w_putf (pc := 39) (w2 := MW A G.2.1 I (fu (fu F 19 ((F 19) + 1)) 20 ((F 20) + 1))) hC dX12_goesThrough_39 fi_X12_228 fp_X12_20 rfl 0 rfl (rfl) (rfl) (Nat.le_of_ble_eq_true rfl) rfl ?_
      refine w_aload_n (pc := 42) hC dX12_goesThrough_42 0 rfl rfl ?_
      refine w_iload_n (pc := 43) hC dX12_goesThrough_43 1 rfl rfl ?_
      refine w_callV (pc := 44) (As := [.int (J order)]) (rest := []) hC dX12_goesThrough_44 cv_X12_234 (c_X12_fromBelow (kl K) G A I (fu (fu F 19 ((F 19) + 1)) 20 ((F 20) + 1)) order (show RI (I 1) from by first | assumption | omega) (show OD order from by first | assumption | omega)) (by omega) ⟨Nat.le_of_ble_eq_true rfl, Nat.le_of_ble_eq_true rfl⟩ (q0 := 0) rfl rfl rfl rfl (Nat.le_of_ble_eq_true rfl) rfl (fun vo wo hv => ?_)
      obtain ⟨hv1, hw1⟩ := hv
      rw [hv1, hw1]
      show WW K G 0 0 (MW A G.2.1 I (fu (fu F 19 ((F 19) + 1)) 20 ((F 20) + 1))) 47 [(0, .ref (A 0)), (1, .int (J order)), (2, .int (J used)), (3, .int (J depth))] [.int (J (v_below (I 1) order))]
      have q44_0 := (show 0 ≤ v_below (I 1) order ∧ v_below (I 1) order ≤ 3600 by have q := below_out (S := (I 1)) (o := order) (i := (I 1) 0) (by assumption) (by assumption) (by omega) (by omega); unfold v_below; omega)
      refine w_istore (pc := 47) hC dX12_goesThrough_47 (lv2 := [(4, .int (J (v_below (I 1) order))), (0, .ref (A 0)), (1, .int (J order)), (2, .int (J used)), (3, .int (J depth))]) (by rw [hnL]; decide) rfl ?_
      refine w_aload_n (pc := 49) hC dX12_goesThrough_49 1 rfl rfl ?_
      refine w_aload_n (pc := 50) hC dX12_goesThrough_50 1 rfl rfl ?_
      refine w_getf (pc := 51) (v := .int (J (F 21))) hC dX12_goesThrough_51 fi_X12_238 0 rfl rfl ?_
      refine w_iconst (pc := 54) hC dX12_goesThrough_54 ?_
      refine w_icmp_eq (pc := 55) (tgt := 67) hC dX12_goesThrough_55 (by decide) (by omega) (fun c55 => ?_) (fun c55 => ?_)
      · refine w_iload_n (pc := 67) hC dX12_goesThrough_67 2 rfl rfl ?_
        refine w_goto (pc := 68) hC dX12_goesThrough_68 (tgt := 75) (by decide) ?_
        refine w_putf (pc := 75) (w2 := MW A G.2.1 I (fu (fu (fu F 19 ((F 19) + 1)) 20 ((F 20) + 1)) 22 order)) hC dX12_goesThrough_75 fi_X12_241 fp_X12_22 rfl 0 rfl (rfl) (rfl) (Nat.le_of_ble_eq_true rfl) rfl ?_
        refine w_aload_n (pc := 78) hC dX12_goesThrough_78 1 rfl rfl ?_
        refine w_aload_n (pc := 79) hC dX12_goesThrough_79 1 rfl rfl ?_
        refine w_getf (pc := 80) (v := .int (J (F 21))) hC dX12_goesThrough_80 fi_X12_238 0 rfl rfl ?_
        refine w_iconst (pc := 83) hC dX12_goesThrough_83 ?_
        refine w_icmp_eq (pc := 84) (tgt := 96) hC dX12_goesThrough_84 (by decide) (by omega) (fun c84 => ?_) (fun c84 => ?_)
        · refine w_iload (pc := 96) hC dX12_goesThrough_96 0 rfl ?_
          refine w_goto (pc := 98) hC dX12_goesThrough_98 (tgt := 105) (by decide) ?_
          refine w_putf (pc := 105) (w2 := MW A G.2.1 I (fu (fu (fu (fu F 19 ((F 19) + 1)) 20 ((F 20) + 1)) 21 (v_below (I 1) order)) 22 order)) hC dX12_goesThrough_105 fi_X12_238 fp_X12_21 rfl 0 rfl (rfl) (rfl) (Nat.le_of_ble_eq_true rfl) rfl ?_
          refine w_vret (pc := 108) hC hRT dX12_goesThrough_108 ?_
          refine ⟨(F 19) + 1, (F 20) + 1, v_below (I 1) order, order, rfl, rfl, ?_⟩
          · rw [show (I 1 0 - depth).toNat = 0 by omega]
            show _ = LEAF (I 1) _ order
            unfold LEAF
            dsimp only
            first | rw [if_pos (by omega)] | rw [if_neg (by omega)]
            exact Prod.ext rfl (Prod.ext (by dsimp only; omega) rfl)
        · exfalso; omega
      · refine w_iload (pc := 58) hC dX12_goesThrough_58 0 rfl ?_
        refine w_aload_n (pc := 60) hC dX12_goesThrough_60 1 rfl rfl ?_
        refine w_getf (pc := 61) (v := .int (J (F 21))) hC dX12_goesThrough_61 fi_X12_238 0 rfl rfl ?_
        refine w_icmp_ge (pc := 64) (tgt := 71) hC dX12_goesThrough_64 (by decide) (by omega) (fun c64 => ?_) (fun c64 => ?_)
        · refine w_aload_n (pc := 71) hC dX12_goesThrough_71 1 rfl rfl ?_
          refine w_getf (pc := 72) (v := .int (J (F 22))) hC dX12_goesThrough_72 fi_X12_241 0 rfl rfl ?_
          refine w_putf (pc := 75) (w2 := MW A G.2.1 I (fu (fu (fu F 19 ((F 19) + 1)) 20 ((F 20) + 1)) 22 (F 22))) hC dX12_goesThrough_75 fi_X12_241 fp_X12_22 rfl 0 rfl (rfl) (rfl) (Nat.le_of_ble_eq_true rfl) rfl ?_
          refine w_aload_n (pc := 78) hC dX12_goesThrough_78 1 rfl rfl ?_
          refine w_aload_n (pc := 79) hC dX12_goesThrough_79 1 rfl rfl ?_
          refine w_getf (pc := 80) (v := .int (J (F 21))) hC dX12_goesThrough_80 fi_X12_238 0 rfl rfl ?_
          refine w_iconst (pc := 83) hC dX12_goesThrough_83 ?_
          refine w_icmp_eq (pc := 84) (tgt := 96) hC dX12_goesThrough_84 (by decide) (by omega) (fun c84 => ?_) (fun c84 => ?_)
          · exfalso; omega
          · refine w_iload (pc := 87) hC dX12_goesThrough_87 0 rfl ?_
            refine w_aload_n (pc := 89) hC dX12_goesThrough_89 1 rfl rfl ?_
            refine w_getf (pc := 90) (v := .int (J (F 21))) hC dX12_goesThrough_90 fi_X12_238 0 rfl rfl ?_
            refine w_icmp_ge (pc := 93) (tgt := 101) hC dX12_goesThrough_93 (by decide) (by omega) (fun c93 => ?_) (fun c93 => ?_)
            · refine w_aload_n (pc := 101) hC dX12_goesThrough_101 1 rfl rfl ?_
              refine w_getf (pc := 102) (v := .int (J (F 21))) hC dX12_goesThrough_102 fi_X12_238 0 rfl rfl ?_
              refine w_putf (pc := 105) (w2 := MW A G.2.1 I (fu (fu (fu (fu F 19 ((F 19) + 1)) 20 ((F 20) + 1)) 21 (F 21)) 22 (F 22))) hC dX12_goesThrough_105 fi_X12_238 fp_X12_21 rfl 0 rfl (rfl) (rfl) (Nat.le_of_ble_eq_true rfl) rfl ?_
              refine w_vret (pc := 108) hC hRT dX12_goesThrough_108 ?_
              refine ⟨(F 19) + 1, (F 20) + 1, (F 21), (F 22), rfl, rfl, ?_⟩
              · rw [show (I 1 0 - depth).toNat = 0 by omega]
                show _ = LEAF (I 1) _ order
                unfold LEAF
                dsimp only
                first | rw [if_pos (by omega)] | rw [if_neg (by omega)]
                exact Prod.ext rfl (Prod.ext (by dsimp only; omega) rfl)
            · exfalso; omega
        · refine w_iload_n (pc := 67) hC dX12_goesThrough_67 2 rfl rfl ?_
          refine w_goto (pc := 68) hC dX12_goesThrough_68 (tgt := 75) (by decide) ?_
          refine w_putf (pc := 75) (w2 := MW A G.2.1 I (fu (fu (fu F 19 ((F 19) + 1)) 20 ((F 20) + 1)) 22 order)) hC dX12_goesThrough_75 fi_X12_241 fp_X12_22 rfl 0 rfl (rfl) (rfl) (Nat.le_of_ble_eq_true rfl) rfl ?_
          refine w_aload_n (pc := 78) hC dX12_goesThrough_78 1 rfl rfl ?_
          refine w_aload_n (pc := 79) hC dX12_goesThrough_79 1 rfl rfl ?_
          refine w_getf (pc := 80) (v := .int (J (F 21))) hC dX12_goesThrough_80 fi_X12_238 0 rfl rfl ?_
          refine w_iconst (pc := 83) hC dX12_goesThrough_83 ?_
          refine w_icmp_eq (pc := 84) (tgt := 96) hC dX12_goesThrough_84 (by decide) (by omega) (fun c84 => ?_) (fun c84 => ?_)
          · exfalso; omega
          · refine w_iload (pc := 87) hC dX12_goesThrough_87 0 rfl ?_
            refine w_aload_n (pc := 89) hC dX12_goesThrough_89 1 rfl rfl ?_
            refine w_getf (pc := 90) (v := .int (J (F 21))) hC dX12_goesThrough_90 fi_X12_238 0 rfl rfl ?_
            refine w_icmp_ge (pc := 93) (tgt := 101) hC dX12_goesThrough_93 (by decide) (by omega) (fun c93 => ?_) (fun c93 => ?_)
            · exfalso; omega
            · refine w_iload (pc := 96) hC dX12_goesThrough_96 0 rfl ?_
              refine w_goto (pc := 98) hC dX12_goesThrough_98 (tgt := 105) (by decide) ?_
              refine w_putf (pc := 105) (w2 := MW A G.2.1 I (fu (fu (fu (fu F 19 ((F 19) + 1)) 20 ((F 20) + 1)) 21 (v_below (I 1) order)) 22 order)) hC dX12_goesThrough_105 fi_X12_238 fp_X12_21 rfl 0 rfl (rfl) (rfl) (Nat.le_of_ble_eq_true rfl) rfl ?_
              refine w_vret (pc := 108) hC hRT dX12_goesThrough_108 ?_
              refine ⟨(F 19) + 1, (F 20) + 1, v_below (I 1) order, order, rfl, rfl, ?_⟩
              · rw [show (I 1 0 - depth).toNat = 0 by omega]
                show _ = LEAF (I 1) _ order
                unfold LEAF
                dsimp only
                first | rw [if_pos (by omega)] | rw [if_neg (by omega)]
                exact Prod.ext rfl (Prod.ext (by dsimp only; omega) rfl)
theorem PG_go_all (l : Launch) (G : GT) (m : Nat) : PG_go l G m := Nat.strongRecOn m (fun m ih => r_X12_goesThrough l G m ih)
theorem c_X12_goesThrough (l : Launch) (G : GT) (m : Nat) : ∀ (A : Nat → Nat) (I : Nat → Int → Int) (F : Nat → Int) (t : Int) (order : Int) (used : Int) (depth : Int) (hR : RI (I 1)) (ho : OD order ∧ order < 8 ^ depth.toNat) (hu : 0 ≤ used ∧ used < 64) (hd : 0 ≤ depth ∧ depth ≤ (I 1) 0) (hm : ((I 1) 0 - depth).toNat ≤ m) (hq : BQ t ((F 19), (F 20), (F 21), (F 22))) (ht : t + 6 ^ ((I 1) 0 - depth).toNat ≤ 100000), CT l yX12_goesThrough cX12_goesThrough 5 none (2 + m) 0 0 G [.ref (A 0), .int (J order), .int (J used), .int (J depth)] (MW A G.2.1 I F) (fun vo wo => ∃ (g19 : Int) (g20 : Int) (g21 : Int) (g22 : Int), vo = none ∧ wo = MW A G.2.1 I (fu (fu (fu (fu F 19 g19) 20 g20) 21 g21) 22 g22) ∧ ((g19, g20, g21, g22) = GO (I 1) ((I 1) 0 - depth).toNat order used depth ((F 19), (F 20), (F 21), (F 22)))) := (PG_go_all l G m)
set_option maxRecDepth 100000 in
set_option maxHeartbeats 4000000 in
theorem c_X12_allOrders (l : Launch) (G : GT) (A : Nat → Nat) (I : Nat → Int → Int) (F : Nat → Int)   (hR : RI (I 1)) : CT l yX12_allOrders cX12_allOrders 1 none 9 0 0 G [.ref (A 0)] (MW A G.2.1 I F) (fun vo wo => ∃ (g19 : Int) (g20 : Int) (g21 : Int) (g22 : Int), vo = none ∧ wo = MW A G.2.1 I (fu (fu (fu (fu F 19 g19) 20 g20) 21 g21) 22 g22) ∧ ((g19, g20, g21, g22) = ALL (I 1))) := by
  refine CT_of (own := RX12) rfl rfl (Nat.le_of_ble_eq_true rfl) (fun K hl hnL hC hRT hin => ?_)
  subst hl
  show WW K G 0 0 (MW A G.2.1 I F) 0 [(0, .ref (A 0))] []
  have hn := hR.n
  have h6 := p6le hn
  refine w_aload_n (pc := 0) hC dX12_allOrders_0 0 rfl rfl ?_
  refine w_iconst (pc := 1) hC dX12_allOrders_1 ?_
  refine w_putf (pc := 2) (w2 := MW A G.2.1 I (fu F 19 0)) hC dX12_allOrders_2 fi_X12_225 fp_X12_19 rfl 0 rfl (rfl) (rfl) (Nat.le_of_ble_eq_true rfl) rfl ?_
  refine w_aload_n (pc := 5) hC dX12_allOrders_5 0 rfl rfl ?_
  refine w_iconst (pc := 6) hC dX12_allOrders_6 ?_
  refine w_putf (pc := 7) (w2 := MW A G.2.1 I (fu (fu F 19 0) 20 0)) hC dX12_allOrders_7 fi_X12_228 fp_X12_20 rfl 0 rfl (rfl) (rfl) (Nat.le_of_ble_eq_true rfl) rfl ?_
  refine w_aload_n (pc := 10) hC dX12_allOrders_10 0 rfl rfl ?_
  refine w_iconst (pc := 11) hC dX12_allOrders_11 ?_
  refine w_putf (pc := 12) (w2 := MW A G.2.1 I (fu (fu (fu F 19 0) 20 0) 21 (-1))) hC dX12_allOrders_12 fi_X12_238 fp_X12_21 rfl 0 rfl (rfl) (rfl) (Nat.le_of_ble_eq_true rfl) rfl ?_
  refine w_aload_n (pc := 15) hC dX12_allOrders_15 0 rfl rfl ?_
  refine w_iconst (pc := 16) hC dX12_allOrders_16 ?_
  refine w_putf (pc := 17) (w2 := MW A G.2.1 I (fu (fu (fu (fu F 19 0) 20 0) 21 (-1)) 22 0)) hC dX12_allOrders_17 fi_X12_241 fp_X12_22 rfl 0 rfl (rfl) (rfl) (Nat.le_of_ble_eq_true rfl) rfl ?_
  refine w_aload_n (pc := 20) hC dX12_allOrders_20 0 rfl rfl ?_
  refine w_iconst (pc := 21) hC dX12_allOrders_21 ?_
  refine w_iconst (pc := 22) hC dX12_allOrders_22 ?_
  refine w_iconst (pc := 23) hC dX12_allOrders_23 ?_
  refine w_callV (pc := 24) (As := [.int (J 0), .int (J 0), .int (J 0)]) (rest := []) hC dX12_allOrders_24 cv_X12_244 (c_X12_goesThrough (kl K) G 6 A I (fu (fu (fu (fu F 19 0) 20 0) 21 (-1)) 22 0) 0 0 0 0 (show RI (I 1) from by first | assumption | omega) (show OD 0 ∧ 0 < 8 ^ (0 : Int).toNat from by exact ⟨OD_0, by decide⟩) (show 0 ≤ 0 ∧ 0 < 64 from by decide) (show 0 ≤ 0 ∧ 0 ≤ (I 1) 0 from by first | assumption | omega) (show ((I 1) 0 - 0).toNat ≤ 6 from by omega) (show BQ 0 (0, 0, (-1), 0) from by exact ⟨by decide, by decide, by decide, by decide⟩) (show 0 + 6 ^ ((I 1) 0 - 0).toNat ≤ 100000 from by rw [show I 1 0 - 0 = I 1 0 by omega]; omega)) (by decide) ⟨Nat.le_of_ble_eq_true rfl, Nat.le_of_ble_eq_true rfl⟩ (q0 := 0) rfl rfl rfl rfl (Nat.le_of_ble_eq_true rfl) rfl (fun vo wo hv => ?_)
  obtain ⟨g19_24, g20_24, g21_24, g22_24, hv1, hw1, r24⟩ := hv
  rw [hv1, hw1]
  show WW K G 0 0 (MW A G.2.1 I (fu (fu (fu (fu F 19 g19_24) 20 g20_24) 21 g21_24) 22 g22_24)) 27 [(0, .ref (A 0))] []
  have r24 : (g19_24, g20_24, g21_24, g22_24) = GO (I 1) ((I 1) 0 - 0).toNat 0 0 0 (0, 0, (-1), 0) := r24
  refine w_vret (pc := 27) hC hRT dX12_allOrders_27 ?_
  refine ⟨g19_24, g20_24, g21_24, g22_24, rfl, rfl, ?_⟩
  · rw [r24, show I 1 0 - 0 = I 1 0 by omega]; rfl
set_option maxRecDepth 100000 in
set_option maxHeartbeats 4000000 in
theorem c_X12_sorts (l : Launch) (G : GT) (A : Nat → Nat) (I : Nat → Int → Int) (F : Nat → Int)  (part : Int) (hR : RI (I 1)) (h1 : -2147483648 ≤ part ∧ part < 2147483648) : CT l yX12_sorts cX12_sorts 3 (some .int) 10 0 0 G [.ref (A 0), .int (J part)] (MW A G.2.1 I F) (fun vo wo => ∃ (g19 : Int) (g20 : Int) (g21 : Int) (g22 : Int), vo = some (.int (J (v_sorts (I 1) part))) ∧ wo = MW A G.2.1 I (fu (fu (fu (fu F 19 g19) 20 g20) 21 g21) 22 g22)) := by
  refine CT_of (own := RX12) rfl rfl (Nat.le_of_ble_eq_true rfl) (fun K hl hnL hC hRT hin => ?_)
  subst hl
  show WW K G 0 0 (MW A G.2.1 I F) 0 [(0, .ref (A 0)), (1, .int (J part))] []
  have hn := hR.n
  have hrd := hR.rd
  refine w_iload_n (pc := 0) hC dX12_sorts_0 1 rfl rfl ?_
  refine w_iconst (pc := 1) hC dX12_sorts_1 ?_
  refine w_iconst (pc := 2) hC dX12_sorts_2 ?_
  refine w_callS (pc := 3) (As := [.int (J part), .int (J 0), .int (J 1)]) (rest := []) hC dX12_sorts_3 cs_X12_48 (c_X12_in (kl K) G (MW A G.2.1 I F) part 0 1 (show (-2147483648 ≤ part ∧ part < 2147483648) ∧ (-2147483648 ≤ 0 ∧ 0 < 2147483648) ∧ -2147483648 ≤ 1 ∧ 1 < 2147483648 from by first | assumption | omega)) (by decide) ⟨Nat.le_of_ble_eq_true rfl, Nat.le_of_ble_eq_true rfl⟩ rfl (Nat.le_of_ble_eq_true rfl) rfl (fun vo wo hv => ?_)
  obtain ⟨hv1, hw1⟩ := hv
  rw [hv1, hw1]
  show WW K G 0 0 (MW A G.2.1 I F) 6 [(0, .ref (A 0)), (1, .int (J part))] [.int (J (bI (0 ≤ part ∧ part ≤ 1)))]
  refine w_if_ne_b (pc := 6) (tgt := 11) hC dX12_sorts_6 (by decide) (fun c6 => ?_) (fun c6 => ?_)
  · refine w_iconst (pc := 11) hC dX12_sorts_11 ?_
    refine w_istore_n (pc := 12) hC dX12_sorts_12 rfl (lv2 := [(2, .int (J 0)), (0, .ref (A 0)), (1, .int (J part))]) (by rw [hnL]; decide) rfl ?_
    have loop13 : ∀ (nF : Nat) (k : Int), (0 ≤ k ∧ k ≤ (I 1) 3) → (RFN (I 1) k.toNat = 1) → ((I 1) 3 - k) < (nF : Int) → WW K G 0 0 (MW A G.2.1 I F) 13 [(0, .ref (A 0)), (1, .int (J part)), (2, .int (J k))] [] := by
      intro nF
      induction nF with
      | zero => intro k i1 i2 hm13; exact absurd hm13 (by omega)
      | succ nF ih13 =>
        intro k i1 i2 hm13
        refine w_iload_n (pc := 13) hC dX12_sorts_13 2 rfl rfl ?_
        refine w_aload_n (pc := 14) hC dX12_sorts_14 0 rfl rfl ?_
        refine w_getf (pc := 15) (v := .ref (A 1)) hC dX12_sorts_15 fi_X12_9 0 rfl rfl ?_
        refine w_iconst (pc := 18) hC dX12_sorts_18 ?_
        refine w_iald (pc := 19) (g := (I 1)) hC dX12_sorts_19 1 rfl (by omega) (Nat.le_of_ble_eq_true rfl) ?_
        refine w_icmp_ge (pc := 20) (tgt := 55) hC dX12_sorts_20 (by decide) (by omega) (fun c20 => ?_) (fun c20 => ?_)
        · refine w_aload_n (pc := 55) hC dX12_sorts_55 0 rfl rfl ?_
          refine w_callV (pc := 56) (As := []) (rest := []) hC dX12_sorts_56 cv_X12_247 (c_X12_allOrders (kl K) G A I F (show RI (I 1) from by first | assumption | omega)) (by decide) ⟨Nat.le_of_ble_eq_true rfl, Nat.le_of_ble_eq_true rfl⟩ (q0 := 0) rfl rfl rfl rfl (Nat.le_of_ble_eq_true rfl) rfl (fun vo wo hv => ?_)
          obtain ⟨g19_56, g20_56, g21_56, g22_56, hv1, hw1, r56⟩ := hv
          rw [hv1, hw1]
          show WW K G 0 0 (MW A G.2.1 I (fu (fu (fu (fu F 19 g19_56) 20 g20_56) 21 g21_56) 22 g22_56)) 59 [(0, .ref (A 0)), (1, .int (J part)), (2, .int (J k))] []
          have r56 : (g19_56, g20_56, g21_56, g22_56) = ALL (I 1) := r56
          have eA := congrArg (fun q => q.1) r56
          have eB := congrArg (fun q => q.2.1) r56
          dsimp only at eA eB
          refine w_iload_n (pc := 59) hC dX12_sorts_59 1 rfl rfl ?_
          refine w_if_ne (pc := 60) (tgt := 70) hC dX12_sorts_60 (by decide) (by omega) (fun c60 => ?_) (fun c60 => ?_)
          · refine w_aload_n (pc := 70) hC dX12_sorts_70 0 rfl rfl ?_
            refine w_getf (pc := 71) (v := .int (J g19_56)) hC dX12_sorts_71 fi_X12_225 0 rfl rfl ?_
            refine w_iret (pc := 74) hC hRT dX12_sorts_74 rfl ?_
            refine ⟨g19_56, g20_56, g21_56, g22_56, retI (by unfold v_sorts; rw [if_neg (by omega), show (I 1 3).toNat = k.toNat by omega, if_neg (fun h => h i2)]; first | (rw [if_pos (by omega)]; exact eB) | (rw [if_neg (by omega)]; exact eA)), rfl⟩
          · refine w_aload_n (pc := 63) hC dX12_sorts_63 0 rfl rfl ?_
            refine w_getf (pc := 64) (v := .int (J g20_56)) hC dX12_sorts_64 fi_X12_228 0 rfl rfl ?_
            refine w_goto (pc := 67) hC dX12_sorts_67 (tgt := 74) (by decide) ?_
            refine w_iret (pc := 74) hC hRT dX12_sorts_74 rfl ?_
            refine ⟨g19_56, g20_56, g21_56, g22_56, retI (by unfold v_sorts; rw [if_neg (by omega), show (I 1 3).toNat = k.toNat by omega, if_neg (fun h => h i2)]; first | (rw [if_pos (by omega)]; exact eB) | (rw [if_neg (by omega)]; exact eA)), rfl⟩
        · have hro := hR.ro k i1.1 (by omega)
          refine w_aload_n (pc := 23) hC dX12_sorts_23 0 rfl rfl ?_
          refine w_getf (pc := 24) (v := .ref (A 1)) hC dX12_sorts_24 fi_X12_9 0 rfl rfl ?_
          refine w_sipush (pc := 27) hC dX12_sorts_27 (z := 893) rfl ?_
          refine w_iconst (pc := 30) hC dX12_sorts_30 ?_
          refine w_iload_n (pc := 31) hC dX12_sorts_31 2 rfl rfl ?_
          refine w_imul (pc := 32) hC dX12_sorts_32 ?_
          refine w_iadd (pc := 33) hC dX12_sorts_33 ?_
          refine w_iconst (pc := 34) hC dX12_sorts_34 ?_
          refine w_iadd (pc := 35) hC dX12_sorts_35 ?_
          refine w_iald (pc := 36) (g := (I 1)) hC dX12_sorts_36 1 rfl (by omega) (Nat.le_of_ble_eq_true rfl) ?_
          refine w_aload_n (pc := 37) hC dX12_sorts_37 0 rfl rfl ?_
          refine w_getf (pc := 38) (v := .ref (A 1)) hC dX12_sorts_38 fi_X12_9 0 rfl rfl ?_
          refine w_iconst (pc := 41) hC dX12_sorts_41 ?_
          refine w_iald (pc := 42) (g := (I 1)) hC dX12_sorts_42 1 rfl (by omega) (Nat.le_of_ble_eq_true rfl) ?_
          refine w_icmp_lt (pc := 43) (tgt := 49) hC dX12_sorts_43 (by decide) (by omega) (fun c43 => ?_) (fun c43 => ?_)
          · refine w_iinc (pc := 49) hC dX12_sorts_49 (lv2 := [(2, .int (J (k + 1))), (0, .ref (A 0)), (1, .int (J part))]) 2 rfl (by rw [hnL]; decide) rfl ?_
            refine w_goto (pc := 52) hC dX12_sorts_52 (tgt := 13) (by decide) ?_
            refine w_sub [1, 2, 0] (lv2 := [(0, .ref (A 0)), (1, .int (J part)), (2, .int (J (k + 1)))]) rfl ?_
            refine ih13 (k + 1) ?_ ?_ ?_
            · first | assumption | omega
            · rw [RFN_s _ i1.1, if_neg (by omega)]; exact i2
            · omega
          · refine w_bipush (pc := 46) hC dX12_sorts_46 (z := (-3)) rfl ?_
            refine w_iret (pc := 48) hC hRT dX12_sorts_48 rfl ?_
            refine ⟨(F 19), (F 20), (F 21), (F 22), retI (by unfold v_sorts; rw [if_neg (by omega), if_pos (RFN_0 i1.1 (by omega) _ (by omega))]), rfl⟩
    refine w_sub [1, 2, 0] (lv2 := [(0, .ref (A 0)), (1, .int (J part)), (2, .int (J 0))]) rfl ?_
    refine loop13 (((I 1) 3 - 0) + 1 : Int).toNat 0 ?_ ?_ ?_
    · first | assumption | omega
    · rfl
    · omega
  · refine w_iconst (pc := 9) hC dX12_sorts_9 ?_
    refine w_iret (pc := 10) hC hRT dX12_sorts_10 rfl ?_
    refine ⟨(F 19), (F 20), (F 21), (F 22), retI (by unfold v_sorts; rw [if_pos (by omega)]), rfl⟩
set_option maxRecDepth 100000 in
set_option maxHeartbeats 4000000 in
theorem c_X12_really (l : Launch) (G : GT) (A : Nat → Nat) (I : Nat → Int → Int) (F : Nat → Int)  (part : Int) (hR : RI (I 1)) (h1 : -2147483648 ≤ part ∧ part < 2147483648) : CT l yX12_really cX12_really 7 (some .int) 10 0 0 G [.ref (A 0), .int (J part)] (MW A G.2.1 I F) (fun vo wo => ∃ (g19 : Int) (g20 : Int) (g21 : Int) (g22 : Int), vo = some (.int (J (v_really (I 1) part))) ∧ wo = MW A G.2.1 I (fu (fu (fu (fu F 19 g19) 20 g20) 21 g21) 22 g22)) := by
  refine CT_of (own := RX12) rfl rfl (Nat.le_of_ble_eq_true rfl) (fun K hl hnL hC hRT hin => ?_)
  subst hl
  show WW K G 0 0 (MW A G.2.1 I F) 0 [(0, .ref (A 0)), (1, .int (J part))] []
  have hn := hR.n
  refine w_iload_n (pc := 0) hC dX12_really_0 1 rfl rfl ?_
  refine w_iconst (pc := 1) hC dX12_really_1 ?_
  refine w_iconst (pc := 2) hC dX12_really_2 ?_
  refine w_callS (pc := 3) (As := [.int (J part), .int (J 0), .int (J 2)]) (rest := []) hC dX12_really_3 cs_X12_48 (c_X12_in (kl K) G (MW A G.2.1 I F) part 0 2 (show (-2147483648 ≤ part ∧ part < 2147483648) ∧ (-2147483648 ≤ 0 ∧ 0 < 2147483648) ∧ -2147483648 ≤ 2 ∧ 2 < 2147483648 from by first | assumption | omega)) (by decide) ⟨Nat.le_of_ble_eq_true rfl, Nat.le_of_ble_eq_true rfl⟩ rfl (Nat.le_of_ble_eq_true rfl) rfl (fun vo wo hv => ?_)
  obtain ⟨hv1, hw1⟩ := hv
  rw [hv1, hw1]
  show WW K G 0 0 (MW A G.2.1 I F) 6 [(0, .ref (A 0)), (1, .int (J part))] [.int (J (bI (0 ≤ part ∧ part ≤ 2)))]
  refine w_if_ne_b (pc := 6) (tgt := 11) hC dX12_really_6 (by decide) (fun c6 => ?_) (fun c6 => ?_)
  · refine w_iconst (pc := 11) hC dX12_really_11 ?_
    refine w_istore_n (pc := 12) hC dX12_really_12 rfl (lv2 := [(2, .int (J 0)), (0, .ref (A 0)), (1, .int (J part))]) (by rw [hnL]; decide) rfl ?_
    refine w_iconst (pc := 13) hC dX12_really_13 ?_
    refine w_istore_n (pc := 14) hC dX12_really_14 rfl (lv2 := [(3, .int (J 0)), (2, .int (J 0)), (0, .ref (A 0)), (1, .int (J part))]) (by rw [hnL]; decide) rfl ?_
    refine w_iconst (pc := 15) hC dX12_really_15 ?_
    refine w_istore (pc := 16) hC dX12_really_16 (lv2 := [(4, .int (J 0)), (3, .int (J 0)), (2, .int (J 0)), (0, .ref (A 0)), (1, .int (J part))]) (by rw [hnL]; decide) rfl ?_
    have loop18 : ∀ (nF : Nat) (x : Int) (y : Int) (i : Int), (0 ≤ i ∧ i ≤ (I 1) 0) → (x = rs (fun i => rs (fun j => rs (fun k => tri (I 1) i j k) (i + 1) ((I 1) 0)) (i + 1) ((I 1) 0)) 0 i) → (y = rs (fun i => rs (fun j => unm (I 1) i j) (i + 1) ((I 1) 0)) 0 i) → ((I 1) 0 - i) < (nF : Int) → WW K G 0 0 (MW A G.2.1 I F) 18 [(0, .ref (A 0)), (1, .int (J part)), (2, .int (J x)), (3, .int (J y)), (4, .int (J i))] [] := by
      intro nF
      induction nF with
      | zero => intro x y i i1 i2 i3 hm18; exact absurd hm18 (by omega)
      | succ nF ih18 =>
        intro x y i i1 i2 i3 hm18
        refine w_iload (pc := 18) hC dX12_really_18 4 rfl ?_
        refine w_aload_n (pc := 20) hC dX12_really_20 0 rfl rfl ?_
        refine w_getf (pc := 21) (v := .ref (A 1)) hC dX12_really_21 fi_X12_9 0 rfl rfl ?_
        refine w_iconst (pc := 24) hC dX12_really_24 ?_
        refine w_iald (pc := 25) (g := (I 1)) hC dX12_really_25 1 rfl (by omega) (Nat.le_of_ble_eq_true rfl) ?_
        refine w_icmp_ge (pc := 26) (tgt := 168) hC dX12_really_26 (by decide) (by omega) (fun c26 => ?_) (fun c26 => ?_)
        · refine w_iload_n (pc := 168) hC dX12_really_168 1 rfl rfl ?_
          refine w_iconst (pc := 169) hC dX12_really_169 ?_
          refine w_icmp_ge (pc := 170) (tgt := 183) hC dX12_really_170 (by decide) (by omega) (fun c170 => ?_) (fun c170 => ?_)
          · refine w_aload_n (pc := 183) hC dX12_really_183 0 rfl rfl ?_
            refine w_callV (pc := 184) (As := []) (rest := []) hC dX12_really_184 cv_X12_247 (c_X12_allOrders (kl K) G A I F (show RI (I 1) from by first | assumption | omega)) (by decide) ⟨Nat.le_of_ble_eq_true rfl, Nat.le_of_ble_eq_true rfl⟩ (q0 := 0) rfl rfl rfl rfl (Nat.le_of_ble_eq_true rfl) rfl (fun vo wo hv => ?_)
            obtain ⟨g19_184, g20_184, g21_184, g22_184, hv1, hw1, r184⟩ := hv
            rw [hv1, hw1]
            show WW K G 0 0 (MW A G.2.1 I (fu (fu (fu (fu F 19 g19_184) 20 g20_184) 21 g21_184) 22 g22_184)) 187 [(0, .ref (A 0)), (1, .int (J part)), (2, .int (J x)), (3, .int (J y)), (4, .int (J i))] []
            have r184 : (g19_184, g20_184, g21_184, g22_184) = ALL (I 1) := r184
            have eA := congrArg (fun q => q.2.2.1) r184
            dsimp only at eA
            refine w_aload_n (pc := 187) hC dX12_really_187 0 rfl rfl ?_
            refine w_getf (pc := 188) (v := .int (J g21_184)) hC dX12_really_188 fi_X12_238 0 rfl rfl ?_
            refine w_iret (pc := 191) hC hRT dX12_really_191 rfl ?_
            refine ⟨g19_184, g20_184, g21_184, g22_184, retI (by unfold v_really; rw [if_neg (by omega), if_neg (by omega), if_neg (by omega)]; exact eA), rfl⟩
          · refine w_iload_n (pc := 173) hC dX12_really_173 1 rfl rfl ?_
            refine w_if_ne (pc := 174) (tgt := 181) hC dX12_really_174 (by decide) (by omega) (fun c174 => ?_) (fun c174 => ?_)
            · refine w_iload_n (pc := 181) hC dX12_really_181 3 rfl rfl ?_
              refine w_iret (pc := 182) hC hRT dX12_really_182 rfl ?_
              refine ⟨(F 19), (F 20), (F 21), (F 22), retI (by unfold v_really; rw [if_neg (by omega)]; first | (rw [if_pos (by omega), i2, show i = I 1 0 by omega]; rfl) | (rw [if_neg (by omega), if_pos (by omega), i3, show i = I 1 0 by omega]; rfl)), rfl⟩
            · refine w_iload_n (pc := 177) hC dX12_really_177 2 rfl rfl ?_
              refine w_goto (pc := 178) hC dX12_really_178 (tgt := 182) (by decide) ?_
              refine w_iret (pc := 182) hC hRT dX12_really_182 rfl ?_
              refine ⟨(F 19), (F 20), (F 21), (F 22), retI (by unfold v_really; rw [if_neg (by omega)]; first | (rw [if_pos (by omega), i2, show i = I 1 0 by omega]; rfl) | (rw [if_neg (by omega), if_pos (by omega), i3, show i = I 1 0 by omega]; rfl)), rfl⟩
        · refine w_iload (pc := 29) hC dX12_really_29 4 rfl ?_
          refine w_iconst (pc := 31) hC dX12_really_31 ?_
          refine w_iadd (pc := 32) hC dX12_really_32 ?_
          refine w_istore (pc := 33) hC dX12_really_33 (lv2 := [(5, .int (J (i + 1))), (0, .ref (A 0)), (1, .int (J part)), (2, .int (J x)), (3, .int (J y)), (4, .int (J i))]) (by rw [hnL]; decide) rfl ?_
          have loop35 : ∀ (nF : Nat) (x2 : Int) (y2 : Int) (j : Int), (i + 1 ≤ j ∧ j ≤ (I 1) 0) → (x2 = x + rs (fun j => rs (fun k => tri (I 1) i j k) (i + 1) ((I 1) 0)) (i + 1) j) → (y2 = y + rs (fun j => unm (I 1) i j) (i + 1) j) → ((I 1) 0 - j) < (nF : Int) → WW K G 0 0 (MW A G.2.1 I F) 35 [(0, .ref (A 0)), (1, .int (J part)), (2, .int (J x2)), (3, .int (J y2)), (4, .int (J i)), (5, .int (J j))] [] := by
            intro nF
            induction nF with
            | zero => intro x2 y2 j j1 j2 j3 hm35; exact absurd hm35 (by omega)
            | succ nF ih35 =>
              intro x2 y2 j j1 j2 j3 hm35
              refine w_iload (pc := 35) hC dX12_really_35 5 rfl ?_
              refine w_aload_n (pc := 37) hC dX12_really_37 0 rfl rfl ?_
              refine w_getf (pc := 38) (v := .ref (A 1)) hC dX12_really_38 fi_X12_9 0 rfl rfl ?_
              refine w_iconst (pc := 41) hC dX12_really_41 ?_
              refine w_iald (pc := 42) (g := (I 1)) hC dX12_really_42 1 rfl (by omega) (Nat.le_of_ble_eq_true rfl) ?_
              refine w_icmp_ge (pc := 43) (tgt := 162) hC dX12_really_43 (by decide) (by omega) (fun c43 => ?_) (fun c43 => ?_)
              · refine w_iinc (pc := 162) hC dX12_really_162 (lv2 := [(4, .int (J (i + 1))), (0, .ref (A 0)), (1, .int (J part)), (2, .int (J x2)), (3, .int (J y2)), (5, .int (J j))]) 4 rfl (by rw [hnL]; decide) rfl ?_
                refine w_goto (pc := 165) hC dX12_really_165 (tgt := 18) (by decide) ?_
                refine w_sub [1, 2, 3, 4, 0] (lv2 := [(0, .ref (A 0)), (1, .int (J part)), (2, .int (J x2)), (3, .int (J y2)), (4, .int (J (i + 1)))]) rfl ?_
                refine ih18 x2 y2 (i + 1) ?_ ?_ ?_ ?_
                · first | assumption | omega
                · rw [rs_s _ i1.1, j2, ← i2, show j = I 1 0 by omega]
                · rw [rs_s _ i1.1, j3, ← i3, show j = I 1 0 by omega]
                · omega
              · have b1 := unm_out (I 1) i1.1 i1.2 hn.2
                rw [← i3] at b1
                have b2 := unm_in (I 1) j1.1
                have p1 := hR.pa (929 + 6 * i + j) (by omega) (by omega)
                have p2 := hR.pa (929 + 6 * j + i) (by omega) (by omega)
                refine w_iload_n (pc := 46) hC dX12_really_46 3 rfl rfl ?_
                refine w_aload_n (pc := 47) hC dX12_really_47 0 rfl rfl ?_
                refine w_getf (pc := 48) (v := .ref (A 1)) hC dX12_really_48 fi_X12_9 0 rfl rfl ?_
                refine w_sipush (pc := 51) hC dX12_really_51 (z := 929) rfl ?_
                refine w_bipush (pc := 54) hC dX12_really_54 (z := 6) rfl ?_
                refine w_iload (pc := 56) hC dX12_really_56 4 rfl ?_
                refine w_imul (pc := 58) hC dX12_really_58 ?_
                refine w_iadd (pc := 59) hC dX12_really_59 ?_
                refine w_iload (pc := 60) hC dX12_really_60 5 rfl ?_
                refine w_iadd (pc := 62) hC dX12_really_62 ?_
                refine w_iald (pc := 63) (g := (I 1)) hC dX12_really_63 1 rfl (by omega) (Nat.le_of_ble_eq_true rfl) ?_
                refine w_aload_n (pc := 64) hC dX12_really_64 0 rfl rfl ?_
                refine w_getf (pc := 65) (v := .ref (A 1)) hC dX12_really_65 fi_X12_9 0 rfl rfl ?_
                refine w_sipush (pc := 68) hC dX12_really_68 (z := 929) rfl ?_
                refine w_bipush (pc := 71) hC dX12_really_71 (z := 6) rfl ?_
                refine w_iload (pc := 73) hC dX12_really_73 5 rfl ?_
                refine w_imul (pc := 75) hC dX12_really_75 ?_
                refine w_iadd (pc := 76) hC dX12_really_76 ?_
                refine w_iload (pc := 77) hC dX12_really_77 4 rfl ?_
                refine w_iadd (pc := 79) hC dX12_really_79 ?_
                refine w_iald (pc := 80) (g := (I 1)) hC dX12_really_80 1 rfl (by omega) (Nat.le_of_ble_eq_true rfl) ?_
                refine w_iadd (pc := 81) hC dX12_really_81 ?_
                refine w_if_ne (pc := 82) (tgt := 89) hC dX12_really_82 (by decide) (by omega) (fun c82 => ?_) (fun c82 => ?_)
                · refine w_iconst (pc := 89) hC dX12_really_89 ?_
                  refine w_iadd (pc := 90) hC dX12_really_90 ?_
                  refine w_istore_n (pc := 91) hC dX12_really_91 rfl (lv2 := [(3, .int (J (y2 + 0))), (0, .ref (A 0)), (1, .int (J part)), (2, .int (J x2)), (4, .int (J i)), (5, .int (J j))]) (by rw [hnL]; decide) rfl ?_
                  refine w_iload (pc := 92) hC dX12_really_92 4 rfl ?_
                  refine w_iconst (pc := 94) hC dX12_really_94 ?_
                  refine w_iadd (pc := 95) hC dX12_really_95 ?_
                  refine w_istore (pc := 96) hC dX12_really_96 (lv2 := [(6, .int (J (i + 1))), (3, .int (J (y2 + 0))), (0, .ref (A 0)), (1, .int (J part)), (2, .int (J x2)), (4, .int (J i)), (5, .int (J j))]) (by rw [hnL]; decide) rfl ?_
                  have loop98 : ∀ (nF : Nat) (x3 : Int) (k : Int), (i + 1 ≤ k ∧ k ≤ (I 1) 0) → (x3 = x2 + rs (fun k => tri (I 1) i j k) (i + 1) k) → ((I 1) 0 - k) < (nF : Int) → WW K G 0 0 (MW A G.2.1 I F) 98 [(0, .ref (A 0)), (1, .int (J part)), (2, .int (J x3)), (3, .int (J (y2 + 0))), (4, .int (J i)), (5, .int (J j)), (6, .int (J k))] [] := by
                    intro nF
                    induction nF with
                    | zero => intro x3 k k1 k2 hm98; exact absurd hm98 (by omega)
                    | succ nF ih98 =>
                      intro x3 k k1 k2 hm98
                      refine w_iload (pc := 98) hC dX12_really_98 6 rfl ?_
                      refine w_aload_n (pc := 100) hC dX12_really_100 0 rfl rfl ?_
                      refine w_getf (pc := 101) (v := .ref (A 1)) hC dX12_really_101 fi_X12_9 0 rfl rfl ?_
                      refine w_iconst (pc := 104) hC dX12_really_104 ?_
                      refine w_iald (pc := 105) (g := (I 1)) hC dX12_really_105 1 rfl (by omega) (Nat.le_of_ble_eq_true rfl) ?_
                      refine w_icmp_ge (pc := 106) (tgt := 156) hC dX12_really_106 (by decide) (by omega) (fun c106 => ?_) (fun c106 => ?_)
                      · refine w_iinc (pc := 156) hC dX12_really_156 (lv2 := [(5, .int (J (j + 1))), (0, .ref (A 0)), (1, .int (J part)), (2, .int (J x3)), (3, .int (J (y2 + 0))), (4, .int (J i)), (6, .int (J k))]) 5 rfl (by rw [hnL]; decide) rfl ?_
                        refine w_goto (pc := 159) hC dX12_really_159 (tgt := 35) (by decide) ?_
                        refine w_sub [1, 2, 3, 4, 5, 0] (lv2 := [(0, .ref (A 0)), (1, .int (J part)), (2, .int (J x3)), (3, .int (J (y2 + 0))), (4, .int (J i)), (5, .int (J (j + 1)))]) rfl ?_
                        refine ih35 x3 (y2 + 0) (j + 1) ?_ ?_ ?_ ?_
                        · first | assumption | omega
                        · rw [rs_s _ j1.1, k2, j2, Int.add_assoc, show k = I 1 0 by omega]
                        · rw [rs_s _ j1.1, j3, Int.add_assoc]; congr 2; unfold unm; first | rw [if_pos (by omega)] | rw [if_neg (by omega)]
                        · omega
                      · have t1 := tri_out (I 1) i1.1 i1.2 hn.2
                        rw [← i2] at t1
                        have t2 := tri_mid (I 1) j1.1 i1.1 j1.2 hn.2
                        have t3 := tri_in (I 1) j k1.1
                        refine w_iload_n (pc := 109) hC dX12_really_109 2 rfl rfl ?_
                        refine w_aload_n (pc := 110) hC dX12_really_110 0 rfl rfl ?_
                        refine w_iload (pc := 111) hC dX12_really_111 4 rfl ?_
                        refine w_iload (pc := 113) hC dX12_really_113 5 rfl ?_
                        refine w_callV (pc := 115) (As := [.int (J i), .int (J j)]) (rest := [.int (J x3)]) hC dX12_really_115 cv_X12_250 (c_X12_beatMore (kl K) G A I F i j (show RI (I 1) from by first | assumption | omega) (show 0 ≤ i ∧ i < 6 from by first | assumption | omega) (show 0 ≤ j ∧ j < 6 from by first | assumption | omega)) (by decide) ⟨Nat.le_of_ble_eq_true rfl, Nat.le_of_ble_eq_true rfl⟩ (q0 := 0) rfl rfl rfl rfl (Nat.le_of_ble_eq_true rfl) rfl (fun vo wo hv => ?_)
                        obtain ⟨hv1, hw1⟩ := hv
                        rw [hv1, hw1]
                        show WW K G 0 0 (MW A G.2.1 I F) 118 [(0, .ref (A 0)), (1, .int (J part)), (2, .int (J x3)), (3, .int (J (y2 + 0))), (4, .int (J i)), (5, .int (J j)), (6, .int (J k))] [.int (J (bI ((I 1) (929 + 6 * j + i) < (I 1) (929 + 6 * i + j)))), .int (J x3)]
                        refine w_if_eq_b (pc := 118) (tgt := 147) hC dX12_really_118 (by decide) (fun c118 => ?_) (fun c118 => ?_)
                        · refine w_iconst (pc := 147) hC dX12_really_147 ?_
                          refine w_iadd (pc := 148) hC dX12_really_148 ?_
                          refine w_istore_n (pc := 149) hC dX12_really_149 rfl (lv2 := [(2, .int (J (x3 + 0))), (0, .ref (A 0)), (1, .int (J part)), (3, .int (J (y2 + 0))), (4, .int (J i)), (5, .int (J j)), (6, .int (J k))]) (by rw [hnL]; decide) rfl ?_
                          refine w_iinc (pc := 150) hC dX12_really_150 (lv2 := [(6, .int (J (k + 1))), (2, .int (J (x3 + 0))), (0, .ref (A 0)), (1, .int (J part)), (3, .int (J (y2 + 0))), (4, .int (J i)), (5, .int (J j))]) 6 rfl (by rw [hnL]; decide) rfl ?_
                          refine w_goto (pc := 153) hC dX12_really_153 (tgt := 98) (by decide) ?_
                          refine w_sub [2, 3, 1, 4, 5, 6, 0] (lv2 := [(0, .ref (A 0)), (1, .int (J part)), (2, .int (J (x3 + 0))), (3, .int (J (y2 + 0))), (4, .int (J i)), (5, .int (J j)), (6, .int (J (k + 1)))]) rfl ?_
                          refine ih98 (x3 + 0) (k + 1) ?_ ?_ ?_
                          · first | assumption | omega
                          · rw [rs_s _ k1.1, k2, Int.add_assoc]; congr 2; unfold tri; first | rw [if_pos (And.intro c118 (And.intro c129 c140))] | rw [if_neg (fun h => c118 h.1)] | rw [if_neg (fun h => c129 h.2.1)] | rw [if_neg (fun h => c140 h.2.2)]
                          · omega
                        · refine w_aload_n (pc := 121) hC dX12_really_121 0 rfl rfl ?_
                          refine w_iload (pc := 122) hC dX12_really_122 5 rfl ?_
                          refine w_iload (pc := 124) hC dX12_really_124 6 rfl ?_
                          refine w_callV (pc := 126) (As := [.int (J j), .int (J k)]) (rest := [.int (J x3)]) hC dX12_really_126 cv_X12_250 (c_X12_beatMore (kl K) G A I F j k (show RI (I 1) from by first | assumption | omega) (show 0 ≤ j ∧ j < 6 from by first | assumption | omega) (show 0 ≤ k ∧ k < 6 from by first | assumption | omega)) (by decide) ⟨Nat.le_of_ble_eq_true rfl, Nat.le_of_ble_eq_true rfl⟩ (q0 := 0) rfl rfl rfl rfl (Nat.le_of_ble_eq_true rfl) rfl (fun vo wo hv => ?_)
                          obtain ⟨hv1, hw1⟩ := hv
                          rw [hv1, hw1]
                          show WW K G 0 0 (MW A G.2.1 I F) 129 [(0, .ref (A 0)), (1, .int (J part)), (2, .int (J x3)), (3, .int (J (y2 + 0))), (4, .int (J i)), (5, .int (J j)), (6, .int (J k))] [.int (J (bI ((I 1) (929 + 6 * k + j) < (I 1) (929 + 6 * j + k)))), .int (J x3)]
                          refine w_if_eq_b (pc := 129) (tgt := 147) hC dX12_really_129 (by decide) (fun c129 => ?_) (fun c129 => ?_)
                          · refine w_iconst (pc := 147) hC dX12_really_147 ?_
                            refine w_iadd (pc := 148) hC dX12_really_148 ?_
                            refine w_istore_n (pc := 149) hC dX12_really_149 rfl (lv2 := [(2, .int (J (x3 + 0))), (0, .ref (A 0)), (1, .int (J part)), (3, .int (J (y2 + 0))), (4, .int (J i)), (5, .int (J j)), (6, .int (J k))]) (by rw [hnL]; decide) rfl ?_
                            refine w_iinc (pc := 150) hC dX12_really_150 (lv2 := [(6, .int (J (k + 1))), (2, .int (J (x3 + 0))), (0, .ref (A 0)), (1, .int (J part)), (3, .int (J (y2 + 0))), (4, .int (J i)), (5, .int (J j))]) 6 rfl (by rw [hnL]; decide) rfl ?_
                            refine w_goto (pc := 153) hC dX12_really_153 (tgt := 98) (by decide) ?_
                            refine w_sub [2, 3, 1, 4, 5, 6, 0] (lv2 := [(0, .ref (A 0)), (1, .int (J part)), (2, .int (J (x3 + 0))), (3, .int (J (y2 + 0))), (4, .int (J i)), (5, .int (J j)), (6, .int (J (k + 1)))]) rfl ?_
                            refine ih98 (x3 + 0) (k + 1) ?_ ?_ ?_
                            · first | assumption | omega
                            · rw [rs_s _ k1.1, k2, Int.add_assoc]; congr 2; unfold tri; first | rw [if_pos (And.intro c118 (And.intro c129 c140))] | rw [if_neg (fun h => c118 h.1)] | rw [if_neg (fun h => c129 h.2.1)] | rw [if_neg (fun h => c140 h.2.2)]
                            · omega
                          · refine w_aload_n (pc := 132) hC dX12_really_132 0 rfl rfl ?_
                            refine w_iload (pc := 133) hC dX12_really_133 6 rfl ?_
                            refine w_iload (pc := 135) hC dX12_really_135 4 rfl ?_
                            refine w_callV (pc := 137) (As := [.int (J k), .int (J i)]) (rest := [.int (J x3)]) hC dX12_really_137 cv_X12_250 (c_X12_beatMore (kl K) G A I F k i (show RI (I 1) from by first | assumption | omega) (show 0 ≤ k ∧ k < 6 from by first | assumption | omega) (show 0 ≤ i ∧ i < 6 from by first | assumption | omega)) (by decide) ⟨Nat.le_of_ble_eq_true rfl, Nat.le_of_ble_eq_true rfl⟩ (q0 := 0) rfl rfl rfl rfl (Nat.le_of_ble_eq_true rfl) rfl (fun vo wo hv => ?_)
                            obtain ⟨hv1, hw1⟩ := hv
                            rw [hv1, hw1]
                            show WW K G 0 0 (MW A G.2.1 I F) 140 [(0, .ref (A 0)), (1, .int (J part)), (2, .int (J x3)), (3, .int (J (y2 + 0))), (4, .int (J i)), (5, .int (J j)), (6, .int (J k))] [.int (J (bI ((I 1) (929 + 6 * i + k) < (I 1) (929 + 6 * k + i)))), .int (J x3)]
                            refine w_if_eq_b (pc := 140) (tgt := 147) hC dX12_really_140 (by decide) (fun c140 => ?_) (fun c140 => ?_)
                            · refine w_iconst (pc := 147) hC dX12_really_147 ?_
                              refine w_iadd (pc := 148) hC dX12_really_148 ?_
                              refine w_istore_n (pc := 149) hC dX12_really_149 rfl (lv2 := [(2, .int (J (x3 + 0))), (0, .ref (A 0)), (1, .int (J part)), (3, .int (J (y2 + 0))), (4, .int (J i)), (5, .int (J j)), (6, .int (J k))]) (by rw [hnL]; decide) rfl ?_
                              refine w_iinc (pc := 150) hC dX12_really_150 (lv2 := [(6, .int (J (k + 1))), (2, .int (J (x3 + 0))), (0, .ref (A 0)), (1, .int (J part)), (3, .int (J (y2 + 0))), (4, .int (J i)), (5, .int (J j))]) 6 rfl (by rw [hnL]; decide) rfl ?_
                              refine w_goto (pc := 153) hC dX12_really_153 (tgt := 98) (by decide) ?_
                              refine w_sub [2, 3, 1, 4, 5, 6, 0] (lv2 := [(0, .ref (A 0)), (1, .int (J part)), (2, .int (J (x3 + 0))), (3, .int (J (y2 + 0))), (4, .int (J i)), (5, .int (J j)), (6, .int (J (k + 1)))]) rfl ?_
                              refine ih98 (x3 + 0) (k + 1) ?_ ?_ ?_
                              · first | assumption | omega
                              · rw [rs_s _ k1.1, k2, Int.add_assoc]; congr 2; unfold tri; first | rw [if_pos (And.intro c118 (And.intro c129 c140))] | rw [if_neg (fun h => c118 h.1)] | rw [if_neg (fun h => c129 h.2.1)] | rw [if_neg (fun h => c140 h.2.2)]
                              · omega
                            · refine w_iconst (pc := 143) hC dX12_really_143 ?_
                              refine w_goto (pc := 144) hC dX12_really_144 (tgt := 148) (by decide) ?_
                              refine w_iadd (pc := 148) hC dX12_really_148 ?_
                              refine w_istore_n (pc := 149) hC dX12_really_149 rfl (lv2 := [(2, .int (J (x3 + 1))), (0, .ref (A 0)), (1, .int (J part)), (3, .int (J (y2 + 0))), (4, .int (J i)), (5, .int (J j)), (6, .int (J k))]) (by rw [hnL]; decide) rfl ?_
                              refine w_iinc (pc := 150) hC dX12_really_150 (lv2 := [(6, .int (J (k + 1))), (2, .int (J (x3 + 1))), (0, .ref (A 0)), (1, .int (J part)), (3, .int (J (y2 + 0))), (4, .int (J i)), (5, .int (J j))]) 6 rfl (by rw [hnL]; decide) rfl ?_
                              refine w_goto (pc := 153) hC dX12_really_153 (tgt := 98) (by decide) ?_
                              refine w_sub [2, 3, 1, 4, 5, 6, 0] (lv2 := [(0, .ref (A 0)), (1, .int (J part)), (2, .int (J (x3 + 1))), (3, .int (J (y2 + 0))), (4, .int (J i)), (5, .int (J j)), (6, .int (J (k + 1)))]) rfl ?_
                              refine ih98 (x3 + 1) (k + 1) ?_ ?_ ?_
                              · first | assumption | omega
                              · rw [rs_s _ k1.1, k2, Int.add_assoc]; congr 2; unfold tri; first | rw [if_pos (And.intro c118 (And.intro c129 c140))] | rw [if_neg (fun h => c118 h.1)] | rw [if_neg (fun h => c129 h.2.1)] | rw [if_neg (fun h => c140 h.2.2)]
                              · omega
                  refine w_sub [2, 3, 4, 1, 5, 6, 0] (lv2 := [(0, .ref (A 0)), (1, .int (J part)), (2, .int (J x2)), (3, .int (J (y2 + 0))), (4, .int (J i)), (5, .int (J j)), (6, .int (J (i + 1)))]) rfl ?_
                  refine loop98 (((I 1) 0 - (i + 1)) + 1 : Int).toNat x2 (i + 1) ?_ ?_ ?_
                  · first | assumption | omega
                  · rw [rs_0]; omega
                  · omega
                · refine w_iconst (pc := 85) hC dX12_really_85 ?_
                  refine w_goto (pc := 86) hC dX12_really_86 (tgt := 90) (by decide) ?_
                  refine w_iadd (pc := 90) hC dX12_really_90 ?_
                  refine w_istore_n (pc := 91) hC dX12_really_91 rfl (lv2 := [(3, .int (J (y2 + 1))), (0, .ref (A 0)), (1, .int (J part)), (2, .int (J x2)), (4, .int (J i)), (5, .int (J j))]) (by rw [hnL]; decide) rfl ?_
                  refine w_iload (pc := 92) hC dX12_really_92 4 rfl ?_
                  refine w_iconst (pc := 94) hC dX12_really_94 ?_
                  refine w_iadd (pc := 95) hC dX12_really_95 ?_
                  refine w_istore (pc := 96) hC dX12_really_96 (lv2 := [(6, .int (J (i + 1))), (3, .int (J (y2 + 1))), (0, .ref (A 0)), (1, .int (J part)), (2, .int (J x2)), (4, .int (J i)), (5, .int (J j))]) (by rw [hnL]; decide) rfl ?_
                  have loop98 : ∀ (nF : Nat) (x3 : Int) (k : Int), (i + 1 ≤ k ∧ k ≤ (I 1) 0) → (x3 = x2 + rs (fun k => tri (I 1) i j k) (i + 1) k) → ((I 1) 0 - k) < (nF : Int) → WW K G 0 0 (MW A G.2.1 I F) 98 [(0, .ref (A 0)), (1, .int (J part)), (2, .int (J x3)), (3, .int (J (y2 + 1))), (4, .int (J i)), (5, .int (J j)), (6, .int (J k))] [] := by
                    intro nF
                    induction nF with
                    | zero => intro x3 k k1 k2 hm98; exact absurd hm98 (by omega)
                    | succ nF ih98 =>
                      intro x3 k k1 k2 hm98
                      refine w_iload (pc := 98) hC dX12_really_98 6 rfl ?_
                      refine w_aload_n (pc := 100) hC dX12_really_100 0 rfl rfl ?_
                      refine w_getf (pc := 101) (v := .ref (A 1)) hC dX12_really_101 fi_X12_9 0 rfl rfl ?_
                      refine w_iconst (pc := 104) hC dX12_really_104 ?_
                      refine w_iald (pc := 105) (g := (I 1)) hC dX12_really_105 1 rfl (by omega) (Nat.le_of_ble_eq_true rfl) ?_
                      refine w_icmp_ge (pc := 106) (tgt := 156) hC dX12_really_106 (by decide) (by omega) (fun c106 => ?_) (fun c106 => ?_)
                      · refine w_iinc (pc := 156) hC dX12_really_156 (lv2 := [(5, .int (J (j + 1))), (0, .ref (A 0)), (1, .int (J part)), (2, .int (J x3)), (3, .int (J (y2 + 1))), (4, .int (J i)), (6, .int (J k))]) 5 rfl (by rw [hnL]; decide) rfl ?_
                        refine w_goto (pc := 159) hC dX12_really_159 (tgt := 35) (by decide) ?_
                        refine w_sub [1, 2, 3, 4, 5, 0] (lv2 := [(0, .ref (A 0)), (1, .int (J part)), (2, .int (J x3)), (3, .int (J (y2 + 1))), (4, .int (J i)), (5, .int (J (j + 1)))]) rfl ?_
                        refine ih35 x3 (y2 + 1) (j + 1) ?_ ?_ ?_ ?_
                        · first | assumption | omega
                        · rw [rs_s _ j1.1, k2, j2, Int.add_assoc, show k = I 1 0 by omega]
                        · rw [rs_s _ j1.1, j3, Int.add_assoc]; congr 2; unfold unm; first | rw [if_pos (by omega)] | rw [if_neg (by omega)]
                        · omega
                      · have t1 := tri_out (I 1) i1.1 i1.2 hn.2
                        rw [← i2] at t1
                        have t2 := tri_mid (I 1) j1.1 i1.1 j1.2 hn.2
                        have t3 := tri_in (I 1) j k1.1
                        refine w_iload_n (pc := 109) hC dX12_really_109 2 rfl rfl ?_
                        refine w_aload_n (pc := 110) hC dX12_really_110 0 rfl rfl ?_
                        refine w_iload (pc := 111) hC dX12_really_111 4 rfl ?_
                        refine w_iload (pc := 113) hC dX12_really_113 5 rfl ?_
                        refine w_callV (pc := 115) (As := [.int (J i), .int (J j)]) (rest := [.int (J x3)]) hC dX12_really_115 cv_X12_250 (c_X12_beatMore (kl K) G A I F i j (show RI (I 1) from by first | assumption | omega) (show 0 ≤ i ∧ i < 6 from by first | assumption | omega) (show 0 ≤ j ∧ j < 6 from by first | assumption | omega)) (by decide) ⟨Nat.le_of_ble_eq_true rfl, Nat.le_of_ble_eq_true rfl⟩ (q0 := 0) rfl rfl rfl rfl (Nat.le_of_ble_eq_true rfl) rfl (fun vo wo hv => ?_)
                        obtain ⟨hv1, hw1⟩ := hv
                        rw [hv1, hw1]
                        show WW K G 0 0 (MW A G.2.1 I F) 118 [(0, .ref (A 0)), (1, .int (J part)), (2, .int (J x3)), (3, .int (J (y2 + 1))), (4, .int (J i)), (5, .int (J j)), (6, .int (J k))] [.int (J (bI ((I 1) (929 + 6 * j + i) < (I 1) (929 + 6 * i + j)))), .int (J x3)]
                        refine w_if_eq_b (pc := 118) (tgt := 147) hC dX12_really_118 (by decide) (fun c118 => ?_) (fun c118 => ?_)
                        · refine w_iconst (pc := 147) hC dX12_really_147 ?_
                          refine w_iadd (pc := 148) hC dX12_really_148 ?_
                          refine w_istore_n (pc := 149) hC dX12_really_149 rfl (lv2 := [(2, .int (J (x3 + 0))), (0, .ref (A 0)), (1, .int (J part)), (3, .int (J (y2 + 1))), (4, .int (J i)), (5, .int (J j)), (6, .int (J k))]) (by rw [hnL]; decide) rfl ?_
                          refine w_iinc (pc := 150) hC dX12_really_150 (lv2 := [(6, .int (J (k + 1))), (2, .int (J (x3 + 0))), (0, .ref (A 0)), (1, .int (J part)), (3, .int (J (y2 + 1))), (4, .int (J i)), (5, .int (J j))]) 6 rfl (by rw [hnL]; decide) rfl ?_
                          refine w_goto (pc := 153) hC dX12_really_153 (tgt := 98) (by decide) ?_
                          refine w_sub [2, 3, 1, 4, 5, 6, 0] (lv2 := [(0, .ref (A 0)), (1, .int (J part)), (2, .int (J (x3 + 0))), (3, .int (J (y2 + 1))), (4, .int (J i)), (5, .int (J j)), (6, .int (J (k + 1)))]) rfl ?_
                          refine ih98 (x3 + 0) (k + 1) ?_ ?_ ?_
                          · first | assumption | omega
                          · rw [rs_s _ k1.1, k2, Int.add_assoc]; congr 2; unfold tri; first | rw [if_pos (And.intro c118 (And.intro c129 c140))] | rw [if_neg (fun h => c118 h.1)] | rw [if_neg (fun h => c129 h.2.1)] | rw [if_neg (fun h => c140 h.2.2)]
                          · omega
                        · refine w_aload_n (pc := 121) hC dX12_really_121 0 rfl rfl ?_
                          refine w_iload (pc := 122) hC dX12_really_122 5 rfl ?_
                          refine w_iload (pc := 124) hC dX12_really_124 6 rfl ?_
                          refine w_callV (pc := 126) (As := [.int (J j), .int (J k)]) (rest := [.int (J x3)]) hC dX12_really_126 cv_X12_250 (c_X12_beatMore (kl K) G A I F j k (show RI (I 1) from by first | assumption | omega) (show 0 ≤ j ∧ j < 6 from by first | assumption | omega) (show 0 ≤ k ∧ k < 6 from by first | assumption | omega)) (by decide) ⟨Nat.le_of_ble_eq_true rfl, Nat.le_of_ble_eq_true rfl⟩ (q0 := 0) rfl rfl rfl rfl (Nat.le_of_ble_eq_true rfl) rfl (fun vo wo hv => ?_)
                          obtain ⟨hv1, hw1⟩ := hv
                          rw [hv1, hw1]
                          show WW K G 0 0 (MW A G.2.1 I F) 129 [(0, .ref (A 0)), (1, .int (J part)), (2, .int (J x3)), (3, .int (J (y2 + 1))), (4, .int (J i)), (5, .int (J j)), (6, .int (J k))] [.int (J (bI ((I 1) (929 + 6 * k + j) < (I 1) (929 + 6 * j + k)))), .int (J x3)]
                          refine w_if_eq_b (pc := 129) (tgt := 147) hC dX12_really_129 (by decide) (fun c129 => ?_) (fun c129 => ?_)
                          · refine w_iconst (pc := 147) hC dX12_really_147 ?_
                            refine w_iadd (pc := 148) hC dX12_really_148 ?_
                            refine w_istore_n (pc := 149) hC dX12_really_149 rfl (lv2 := [(2, .int (J (x3 + 0))), (0, .ref (A 0)), (1, .int (J part)), (3, .int (J (y2 + 1))), (4, .int (J i)), (5, .int (J j)), (6, .int (J k))]) (by rw [hnL]; decide) rfl ?_
                            refine w_iinc (pc := 150) hC dX12_really_150 (lv2 := [(6, .int (J (k + 1))), (2, .int (J (x3 + 0))), (0, .ref (A 0)), (1, .int (J part)), (3, .int (J (y2 + 1))), (4, .int (J i)), (5, .int (J j))]) 6 rfl (by rw [hnL]; decide) rfl ?_
                            refine w_goto (pc := 153) hC dX12_really_153 (tgt := 98) (by decide) ?_
                            refine w_sub [2, 3, 1, 4, 5, 6, 0] (lv2 := [(0, .ref (A 0)), (1, .int (J part)), (2, .int (J (x3 + 0))), (3, .int (J (y2 + 1))), (4, .int (J i)), (5, .int (J j)), (6, .int (J (k + 1)))]) rfl ?_
                            refine ih98 (x3 + 0) (k + 1) ?_ ?_ ?_
                            · first | assumption | omega
                            · rw [rs_s _ k1.1, k2, Int.add_assoc]; congr 2; unfold tri; first | rw [if_pos (And.intro c118 (And.intro c129 c140))] | rw [if_neg (fun h => c118 h.1)] | rw [if_neg (fun h => c129 h.2.1)] | rw [if_neg (fun h => c140 h.2.2)]
                            · omega
                          · refine w_aload_n (pc := 132) hC dX12_really_132 0 rfl rfl ?_
                            refine w_iload (pc := 133) hC dX12_really_133 6 rfl ?_
                            refine w_iload (pc := 135) hC dX12_really_135 4 rfl ?_
                            refine w_callV (pc := 137) (As := [.int (J k), .int (J i)]) (rest := [.int (J x3)]) hC dX12_really_137 cv_X12_250 (c_X12_beatMore (kl K) G A I F k i (show RI (I 1) from by first | assumption | omega) (show 0 ≤ k ∧ k < 6 from by first | assumption | omega) (show 0 ≤ i ∧ i < 6 from by first | assumption | omega)) (by decide) ⟨Nat.le_of_ble_eq_true rfl, Nat.le_of_ble_eq_true rfl⟩ (q0 := 0) rfl rfl rfl rfl (Nat.le_of_ble_eq_true rfl) rfl (fun vo wo hv => ?_)
                            obtain ⟨hv1, hw1⟩ := hv
                            rw [hv1, hw1]
                            show WW K G 0 0 (MW A G.2.1 I F) 140 [(0, .ref (A 0)), (1, .int (J part)), (2, .int (J x3)), (3, .int (J (y2 + 1))), (4, .int (J i)), (5, .int (J j)), (6, .int (J k))] [.int (J (bI ((I 1) (929 + 6 * i + k) < (I 1) (929 + 6 * k + i)))), .int (J x3)]
                            refine w_if_eq_b (pc := 140) (tgt := 147) hC dX12_really_140 (by decide) (fun c140 => ?_) (fun c140 => ?_)
                            · refine w_iconst (pc := 147) hC dX12_really_147 ?_
                              refine w_iadd (pc := 148) hC dX12_really_148 ?_
                              refine w_istore_n (pc := 149) hC dX12_really_149 rfl (lv2 := [(2, .int (J (x3 + 0))), (0, .ref (A 0)), (1, .int (J part)), (3, .int (J (y2 + 1))), (4, .int (J i)), (5, .int (J j)), (6, .int (J k))]) (by rw [hnL]; decide) rfl ?_
                              refine w_iinc (pc := 150) hC dX12_really_150 (lv2 := [(6, .int (J (k + 1))), (2, .int (J (x3 + 0))), (0, .ref (A 0)), (1, .int (J part)), (3, .int (J (y2 + 1))), (4, .int (J i)), (5, .int (J j))]) 6 rfl (by rw [hnL]; decide) rfl ?_
                              refine w_goto (pc := 153) hC dX12_really_153 (tgt := 98) (by decide) ?_
                              refine w_sub [2, 3, 1, 4, 5, 6, 0] (lv2 := [(0, .ref (A 0)), (1, .int (J part)), (2, .int (J (x3 + 0))), (3, .int (J (y2 + 1))), (4, .int (J i)), (5, .int (J j)), (6, .int (J (k + 1)))]) rfl ?_
                              refine ih98 (x3 + 0) (k + 1) ?_ ?_ ?_
                              · first | assumption | omega
                              · rw [rs_s _ k1.1, k2, Int.add_assoc]; congr 2; unfold tri; first | rw [if_pos (And.intro c118 (And.intro c129 c140))] | rw [if_neg (fun h => c118 h.1)] | rw [if_neg (fun h => c129 h.2.1)] | rw [if_neg (fun h => c140 h.2.2)]
                              · omega
                            · refine w_iconst (pc := 143) hC dX12_really_143 ?_
                              refine w_goto (pc := 144) hC dX12_really_144 (tgt := 148) (by decide) ?_
                              refine w_iadd (pc := 148) hC dX12_really_148 ?_
                              refine w_istore_n (pc := 149) hC dX12_really_149 rfl (lv2 := [(2, .int (J (x3 + 1))), (0, .ref (A 0)), (1, .int (J part)), (3, .int (J (y2 + 1))), (4, .int (J i)), (5, .int (J j)), (6, .int (J k))]) (by rw [hnL]; decide) rfl ?_
                              refine w_iinc (pc := 150) hC dX12_really_150 (lv2 := [(6, .int (J (k + 1))), (2, .int (J (x3 + 1))), (0, .ref (A 0)), (1, .int (J part)), (3, .int (J (y2 + 1))), (4, .int (J i)), (5, .int (J j))]) 6 rfl (by rw [hnL]; decide) rfl ?_
                              refine w_goto (pc := 153) hC dX12_really_153 (tgt := 98) (by decide) ?_
                              refine w_sub [2, 3, 1, 4, 5, 6, 0] (lv2 := [(0, .ref (A 0)), (1, .int (J part)), (2, .int (J (x3 + 1))), (3, .int (J (y2 + 1))), (4, .int (J i)), (5, .int (J j)), (6, .int (J (k + 1)))]) rfl ?_
                              refine ih98 (x3 + 1) (k + 1) ?_ ?_ ?_
                              · first | assumption | omega
                              · rw [rs_s _ k1.1, k2, Int.add_assoc]; congr 2; unfold tri; first | rw [if_pos (And.intro c118 (And.intro c129 c140))] | rw [if_neg (fun h => c118 h.1)] | rw [if_neg (fun h => c129 h.2.1)] | rw [if_neg (fun h => c140 h.2.2)]
                              · omega
                  refine w_sub [2, 3, 4, 1, 5, 6, 0] (lv2 := [(0, .ref (A 0)), (1, .int (J part)), (2, .int (J x2)), (3, .int (J (y2 + 1))), (4, .int (J i)), (5, .int (J j)), (6, .int (J (i + 1)))]) rfl ?_
                  refine loop98 (((I 1) 0 - (i + 1)) + 1 : Int).toNat x2 (i + 1) ?_ ?_ ?_
                  · first | assumption | omega
                  · rw [rs_0]; omega
                  · omega
          refine w_sub [1, 2, 3, 4, 5, 0] (lv2 := [(0, .ref (A 0)), (1, .int (J part)), (2, .int (J x)), (3, .int (J y)), (4, .int (J i)), (5, .int (J (i + 1)))]) rfl ?_
          refine loop35 (((I 1) 0 - (i + 1)) + 1 : Int).toNat x y (i + 1) ?_ ?_ ?_ ?_
          · first | assumption | omega
          · rw [rs_0]; omega
          · rw [rs_0]; omega
          · omega
    refine w_sub [3, 4, 2, 1, 0] (lv2 := [(0, .ref (A 0)), (1, .int (J part)), (2, .int (J 0)), (3, .int (J 0)), (4, .int (J 0))]) rfl ?_
    refine loop18 (((I 1) 0 - 0) + 1 : Int).toNat 0 0 0 ?_ ?_ ?_ ?_
    · first | assumption | omega
    · exact (rs_0 _ _).symm
    · exact (rs_0 _ _).symm
    · omega
  · refine w_iconst (pc := 9) hC dX12_really_9 ?_
    refine w_iret (pc := 10) hC hRT dX12_really_10 rfl ?_
    refine ⟨(F 19), (F 20), (F 21), (F 22), retI (by unfold v_really; rw [if_pos (by omega)]), rfl⟩
set_option maxRecDepth 100000 in
set_option maxHeartbeats 4000000 in
theorem c_X12_order (l : Launch) (G : GT) (A : Nat → Nat) (I : Nat → Int → Int) (F : Nat → Int)  (rung : Int) (hR : RI (I 1)) (h1 : -2147483648 ≤ rung ∧ rung < 2147483648) : CT l yX12_order cX12_order 2 (some .int) 10 0 0 G [.ref (A 0), .int (J rung)] (MW A G.2.1 I F) (fun vo wo => ∃ (g19 : Int) (g20 : Int) (g21 : Int) (g22 : Int), vo = some (.int (J (v_order (I 1) rung))) ∧ wo = MW A G.2.1 I (fu (fu (fu (fu F 19 g19) 20 g20) 21 g21) 22 g22)) := by
  refine CT_of (own := RX12) rfl rfl (Nat.le_of_ble_eq_true rfl) (fun K hl hnL hC hRT hin => ?_)
  subst hl
  show WW K G 0 0 (MW A G.2.1 I F) 0 [(0, .ref (A 0)), (1, .int (J rung))] []
  have hn := hR.n
  have hA := (ALL_BQ hR).2.2.2
  refine w_iload_n (pc := 0) hC dX12_order_0 1 rfl rfl ?_
  refine w_iconst (pc := 1) hC dX12_order_1 ?_
  refine w_aload_n (pc := 2) hC dX12_order_2 0 rfl rfl ?_
  refine w_getf (pc := 3) (v := .ref (A 1)) hC dX12_order_3 fi_X12_9 0 rfl rfl ?_
  refine w_iconst (pc := 6) hC dX12_order_6 ?_
  refine w_iald (pc := 7) (g := (I 1)) hC dX12_order_7 1 rfl (by omega) (Nat.le_of_ble_eq_true rfl) ?_
  refine w_iconst (pc := 8) hC dX12_order_8 ?_
  refine w_isub (pc := 9) hC dX12_order_9 ?_
  refine w_callS (pc := 10) (As := [.int (J rung), .int (J 0), .int (J (((I 1) 0) - 1))]) (rest := []) hC dX12_order_10 cs_X12_48 (c_X12_in (kl K) G (MW A G.2.1 I F) rung 0 (((I 1) 0) - 1) (show (-2147483648 ≤ rung ∧ rung < 2147483648) ∧ (-2147483648 ≤ 0 ∧ 0 < 2147483648) ∧ -2147483648 ≤ (((I 1) 0) - 1) ∧ (((I 1) 0) - 1) < 2147483648 from by first | assumption | omega)) (by decide) ⟨Nat.le_of_ble_eq_true rfl, Nat.le_of_ble_eq_true rfl⟩ rfl (Nat.le_of_ble_eq_true rfl) rfl (fun vo wo hv => ?_)
  obtain ⟨hv1, hw1⟩ := hv
  rw [hv1, hw1]
  show WW K G 0 0 (MW A G.2.1 I F) 13 [(0, .ref (A 0)), (1, .int (J rung))] [.int (J (bI (0 ≤ rung ∧ rung ≤ (((I 1) 0) - 1))))]
  refine w_if_ne_b (pc := 13) (tgt := 18) hC dX12_order_13 (by decide) (fun c13 => ?_) (fun c13 => ?_)
  · refine w_aload_n (pc := 18) hC dX12_order_18 0 rfl rfl ?_
    refine w_callV (pc := 19) (As := []) (rest := []) hC dX12_order_19 cv_X12_247 (c_X12_allOrders (kl K) G A I F (show RI (I 1) from by first | assumption | omega)) (by decide) ⟨Nat.le_of_ble_eq_true rfl, Nat.le_of_ble_eq_true rfl⟩ (q0 := 0) rfl rfl rfl rfl (Nat.le_of_ble_eq_true rfl) rfl (fun vo wo hv => ?_)
    obtain ⟨g19_19, g20_19, g21_19, g22_19, hv1, hw1, r19⟩ := hv
    rw [hv1, hw1]
    show WW K G 0 0 (MW A G.2.1 I (fu (fu (fu (fu F 19 g19_19) 20 g20_19) 21 g21_19) 22 g22_19)) 22 [(0, .ref (A 0)), (1, .int (J rung))] []
    have r19 : (g19_19, g20_19, g21_19, g22_19) = ALL (I 1) := r19
    have eA := congrArg (fun q => q.2.2.2) r19
    dsimp only at eA
    rw [← eA] at hA
    refine w_aload_n (pc := 22) hC dX12_order_22 0 rfl rfl ?_
    refine w_getf (pc := 23) (v := .int (J g22_19)) hC dX12_order_23 fi_X12_241 0 rfl rfl ?_
    refine w_iload_n (pc := 26) hC dX12_order_26 1 rfl rfl ?_
    refine w_callS (pc := 27) (As := [.int (J g22_19), .int (J rung)]) (rest := []) hC dX12_order_27 cs_X12_52 (c_X12_nameOn (kl K) G (MW A G.2.1 I (fu (fu (fu (fu F 19 g19_19) 20 g20_19) 21 g21_19) 22 g22_19)) g22_19 rung (show -2147483648 ≤ g22_19 ∧ g22_19 < 2147483648 from by first | assumption | omega) (show 0 ≤ rung ∧ rung ≤ 10 from by first | assumption | omega)) (by decide) ⟨Nat.le_of_ble_eq_true rfl, Nat.le_of_ble_eq_true rfl⟩ rfl (Nat.le_of_ble_eq_true rfl) rfl (fun vo wo hv => ?_)
    obtain ⟨hv1, hw1⟩ := hv
    rw [hv1, hw1]
    show WW K G 0 0 (MW A G.2.1 I (fu (fu (fu (fu F 19 g19_19) 20 g20_19) 21 g21_19) 22 g22_19)) 30 [(0, .ref (A 0)), (1, .int (J rung))] [.int (J (dg g22_19 rung))]
    have q27_0 := dg_bd g22_19 rung
    refine w_iret (pc := 30) hC hRT dX12_order_30 rfl ?_
    refine ⟨g19_19, g20_19, g21_19, g22_19, retI (by unfold v_order; rw [if_neg (by omega), eA]), rfl⟩
  · refine w_iconst (pc := 16) hC dX12_order_16 ?_
    refine w_iret (pc := 17) hC hRT dX12_order_17 rfl ?_
    refine ⟨(F 19), (F 20), (F 21), (F 22), retI (by unfold v_order; rw [if_pos (by omega)]), rfl⟩
