/-! ===== boards as numbers ===== -/
theorem p8 (k : Nat) : (0 : Int) < 8 ^ k := Int.pow_pos (by decide)
theorem p8s (k : Nat) : (8 : Int) ^ (k + 1) = 8 * 8 ^ k := by rw [Int.pow_succ, Int.mul_comm]
/-- f's first k values as a number, f 0 the lowest digit -/
def cd (f : Int → Int) : Nat → Int
  | 0 => 0
  | k + 1 => cd f k + f (k : Int) * 8 ^ k
theorem cd_bd {f : Int → Int} : ∀ {k : Nat}, (∀ i : Int, 0 ≤ i → i < (k : Int) → 0 ≤ f i ∧ f i < 8) → 0 ≤ cd f k ∧ cd f k < 8 ^ k
  | 0, _ => by simp [cd]
  | k + 1, h => by
    have ih := cd_bd (f := f) (k := k) (fun i h1 h2 => h i h1 (by omega))
    have hk := h k (by omega) (by omega)
    have hp := p8 k
    rw [p8s]
    unfold cd
    have h1 : 0 ≤ f k * 8 ^ k := Int.mul_nonneg hk.1 (by omega)
    have h2 : f k * 8 ^ k ≤ 7 * 8 ^ k := Int.mul_le_mul_of_nonneg_right (by omega) (by omega)
    omega
theorem cd_congr {f g : Int → Int} : ∀ {k : Nat}, (∀ i : Int, 0 ≤ i → i < (k : Int) → f i = g i) → cd f k = cd g k
  | 0, _ => rfl
  | k + 1, h => by
    unfold cd
    rw [cd_congr (k := k) (fun i h1 h2 => h i h1 (by omega)), h k (by omega) (by omega)]
theorem dg_cd {f : Int → Int} : ∀ {k : Nat}, (∀ i : Int, 0 ≤ i → i < (k : Int) → 0 ≤ f i ∧ f i < 8) → ∀ {r : Int}, 0 ≤ r → r < (k : Int) → dg (cd f k) r = f r
  | 0, _, r, h1, h2 => by omega
  | k + 1, h, r, h1, h2 => by
    have hl := cd_bd (f := f) (k := k) (fun i h1 h2 => h i h1 (by omega))
    have hk := h k (by omega) (by omega)
    have hp := p8 k
    by_cases hr : r < (k : Int)
    · have ih := dg_cd (f := f) (k := k) (fun i h1 h2 => h i h1 (by omega)) h1 hr
      unfold dg at ih ⊢
      unfold cd
      rw [← ih]
      obtain ⟨j, hj⟩ : ∃ j : Nat, k = r.toNat + 1 + j := ⟨k - r.toNat - 1, by omega⟩
      have e : f k * 8 ^ k = (f k * 8 ^ j * 8) * 8 ^ r.toNat := by
        rw [hj, Int.pow_add, Int.pow_add, Int.pow_one]
        ac_rfl
      rw [e, Int.add_mul_ediv_right _ _ (Int.ne_of_gt (p8 _)), Int.add_mul_emod_self_right]
    · have hrk : r = (k : Int) := by omega
      subst hrk
      unfold dg cd
      rw [Int.toNat_natCast, Int.add_mul_ediv_right _ _ (Int.ne_of_gt hp), Int.ediv_eq_zero_of_lt hl.1 hl.2, Int.zero_add, Int.emod_eq_of_lt hk.1 hk.2]
theorem cd_dg {b : Int} : ∀ {k : Nat}, 0 ≤ b → cd (dg b) k = b % 8 ^ k
  | 0, _ => by simp [cd]
  | k + 1, h => by
    have hp := p8 k
    unfold cd
    rw [cd_dg (k := k) h, p8s]
    unfold dg
    rw [Int.toNat_natCast, Int.mul_comm 8 (8 ^ k)]
    obtain ⟨m, rfl⟩ := Int.eq_ofNat_of_zero_le h
    have e := congrArg (fun x : Nat => (x : Int)) (@Nat.mod_mul (8 ^ k) 8 m)
    simp only [Int.natCast_emod, Int.natCast_mul, Int.natCast_add, Int.natCast_ediv, Int.natCast_pow] at e
    rw [Int.mul_comm (((m : Int) / 8 ^ k) % 8)]
    exact e.symm
theorem cd_dgE {b : Int} {k : Nat} (h1 : 0 ≤ b) (h2 : b < 8 ^ k) : cd (dg b) k = b := by rw [cd_dg h1, Int.emod_eq_of_lt h1 h2]
/-- numbers of k digits that have the same digits -/
theorem dg_ext {a b : Int} {k : Nat} (ha : 0 ≤ a) (ha2 : a < 8 ^ k) (hb : 0 ≤ b) (hb2 : b < 8 ^ k) (h : ∀ r : Int, 0 ≤ r → r < (k : Int) → dg a r = dg b r) : a = b := by
  rw [← cd_dgE ha ha2, ← cd_dgE hb hb2]
  exact cd_congr h
/-- a board: n names, each on one rung -/
def VB (n b : Int) : Prop := (0 ≤ n ∧ n ≤ 6) ∧ (0 ≤ b ∧ b < 8 ^ n.toNat) ∧ (∀ r : Int, 0 ≤ r → r < n → dg b r < n) ∧ (∀ r q : Int, 0 ≤ r → r < n → 0 ≤ q → q < n → dg b r = dg b q → r = q)
theorem p8_le {n : Int} (h : n ≤ 6) : (8 : Int) ^ n.toNat ≤ 262144 := by
  have : n.toNat = 0 ∨ n.toNat = 1 ∨ n.toNat = 2 ∨ n.toNat = 3 ∨ n.toNat = 4 ∨ n.toNat = 5 ∨ n.toNat = 6 := by omega
  rcases this with e | e | e | e | e | e | e <;> rw [e] <;> decide
theorem VB_rng {n b : Int} (h : VB n b) : 0 ≤ b ∧ b < 262144 := ⟨h.2.1.1, Int.lt_of_lt_of_le h.2.1.2 (p8_le h.1.2)⟩
theorem VB_n {n b : Int} (h : VB n b) : 0 ≤ n ∧ n ≤ 6 := h.1
theorem VB_dg {n b r : Int} (h : VB n b) (h1 : 0 ≤ r) (h2 : r < n) : 0 ≤ dg b r ∧ dg b r < n := ⟨(dg_bd b r).1, h.2.2.1 r h1 h2⟩
theorem VB_inj {n b r q : Int} (h : VB n b) (h1 : 0 ≤ r) (h2 : r < n) (h3 : 0 ≤ q) (h4 : q < n) (e : dg b r = dg b q) : r = q := h.2.2.2 r q h1 h2 h3 h4 e
def rkN (b a : Int) : Nat → Int
  | 0 => 0
  | k + 1 => if dg b (k : Int) = a then (k : Int) else rkN b a k
/-- the rung of a name -/
def rk (n b a : Int) : Int := rkN b a n.toNat
theorem rkN_uniq {n b r : Int} (h : VB n b) (h1 : 0 ≤ r) : ∀ k : Nat, r < (k : Int) → (k : Int) ≤ n → rkN b (dg b r) k = r
  | 0, h2, _ => by omega
  | k + 1, h2, h3 => by
    unfold rkN
    by_cases e : dg b (k : Int) = dg b r
    · rw [if_pos e]
      exact VB_inj h (by omega) (by omega) h1 (by omega) e
    · rw [if_neg e]
      have : r ≠ (k : Int) := fun q => e (by rw [q])
      exact rkN_uniq h h1 k (by omega) (by omega)
theorem rk_dg {n b r : Int} (h : VB n b) (h1 : 0 ≤ r) (h2 : r < n) : rk n b (dg b r) = r := rkN_uniq h h1 n.toNat (by omega) (by omega)
theorem rk_uniq {n b r a : Int} (h : VB n b) (h1 : 0 ≤ r) (h2 : r < n) (e : dg b r = a) : rk n b a = r := by rw [← e]; exact rk_dg h h1 h2
theorem VB_onto {n b a : Int} (h : VB n b) (h1 : 0 ≤ a) (h2 : a < n) : ∃ r : Int, 0 ≤ r ∧ r < n ∧ dg b r = a := by
  obtain ⟨i, hi, e⟩ := fb_onto (n := n.toNat) (f := fun i => (dg b (i : Int)).toNat) (fun i hi => by
    have := VB_dg h (r := (i : Int)) (by omega) (by omega)
    show (dg b (i : Int)).toNat < n.toNat
    omega) (fun i j hij hj e => by
    have q1 := VB_dg h (r := (i : Int)) (by omega) (by omega)
    have q2 := VB_dg h (r := (j : Int)) (by omega) (by omega)
    have e2 : (dg b (i : Int)).toNat = (dg b (j : Int)).toNat := e
    have := VB_inj h (r := (i : Int)) (q := (j : Int)) (by omega) (by omega) (by omega) (by omega) (by omega)
    omega) (y := a.toNat) (by omega)
  have q := VB_dg h (r := (i : Int)) (by omega) (by omega)
  have e2 : (dg b (i : Int)).toNat = a.toNat := e
  exact ⟨i, by omega, by omega, by omega⟩
theorem rk_spec {n b a : Int} (h : VB n b) (h1 : 0 ≤ a) (h2 : a < n) : (0 ≤ rk n b a ∧ rk n b a < n) ∧ dg b (rk n b a) = a := by
  obtain ⟨r, q1, q2, e⟩ := VB_onto h h1 h2
  rw [rk_uniq h q1 q2 e]
  exact ⟨⟨q1, q2⟩, e⟩
