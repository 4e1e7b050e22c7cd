/-! ===== bits of numbers ===== -/
theorem btN (n k : Nat) : ((n : Int) / 2 ^ k % 2 = 1) ↔ n.testBit k = true := by
  rw [Nat.testBit_eq_decide_div_mod_eq, decide_eq_true_eq]
  have e : ((n : Int) / 2 ^ k % 2) = ((n / 2 ^ k % 2 : Nat) : Int) := by simp
  rw [e]
  omega
theorem bt_or {a b x : Int} (ha : 0 ≤ a) (hb : 0 ≤ b) : (ior a b / 2 ^ x.toNat % 2 = 1) ↔ (a / 2 ^ x.toNat % 2 = 1 ∨ b / 2 ^ x.toNat % 2 = 1) := by
  obtain ⟨m, rfl⟩ := Int.eq_ofNat_of_zero_le ha
  obtain ⟨n, rfl⟩ := Int.eq_ofNat_of_zero_le hb
  unfold ior
  rw [Int.toNat_natCast, Int.toNat_natCast, btN, btN, btN, Nat.testBit_or, Bool.or_eq_true]
theorem p2N (k : Nat) : ((2 : Int) ^ k) = ((2 ^ k : Nat) : Int) := by simp
theorem bt_pow {x y : Int} (hx : 0 ≤ x) (hy : 0 ≤ y) : ((2 : Int) ^ y.toNat / 2 ^ x.toNat % 2 = 1) ↔ y = x := by
  rw [p2N y.toNat, btN, Nat.testBit_two_pow, decide_eq_true_eq]
  omega
theorem bt_0 (x : Int) : ¬ ((0 : Int) / 2 ^ x.toNat % 2 = 1) := by
  rw [Int.zero_ediv]
  decide
theorem ior_nn (a b : Int) : 0 ≤ ior a b := Int.natCast_nonneg _
theorem ior_lt {a b : Int} (k : Nat) (ha : 0 ≤ a) (hb : 0 ≤ b) (ha2 : a < 2 ^ k) (hb2 : b < 2 ^ k) : ior a b < 2 ^ k := by
  obtain ⟨m, rfl⟩ := Int.eq_ofNat_of_zero_le ha
  obtain ⟨n, rfl⟩ := Int.eq_ofNat_of_zero_le hb
  rw [p2N] at ha2 hb2 ⊢
  unfold ior
  rw [Int.toNat_natCast, Int.toNat_natCast]
  have := Nat.or_lt_two_pow (x := m) (y := n) (n := k) (by omega) (by omega)
  omega
theorem ior_0 {a : Int} (h : 0 ≤ a) : ior a 0 = a := by
  unfold ior
  rw [show (0 : Int).toNat = 0 from rfl, Nat.or_zero, Int.toNat_of_nonneg h]
/-- numbers with the same bits -/
theorem bt_ext {a b : Int} (ha : 0 ≤ a) (hb : 0 ≤ b) (h : ∀ x : Int, 0 ≤ x → (a / 2 ^ x.toNat % 2 = 1 ↔ b / 2 ^ x.toNat % 2 = 1)) : a = b := by
  obtain ⟨m, rfl⟩ := Int.eq_ofNat_of_zero_le ha
  obtain ⟨n, rfl⟩ := Int.eq_ofNat_of_zero_le hb
  have : m = n := Nat.eq_of_testBit_eq (fun i => by
    have g := h (i : Int) (by omega)
    rw [Int.toNat_natCast, btN, btN] at g
    exact Bool.eq_iff_iff.mpr g)
  rw [this]
theorem p2_6 {x : Int} (h1 : 0 ≤ x) (h2 : x < 6) : 1 ≤ (2 : Int) ^ x.toNat ∧ (2 : Int) ^ x.toNat < 64 := by
  have : x.toNat = 0 ∨ x.toNat = 1 ∨ x.toNat = 2 ∨ x.toNat = 3 ∨ x.toNat = 4 ∨ x.toNat = 5 := by omega
  rcases this with e | e | e | e | e | e <;> rw [e] <;> decide
def mskN (P : Int → Bool) (f : Int → Int) : Nat → Int
  | 0 => 0
  | k + 1 => ior (mskN P f k) (if P ((k : Int) + 1) = true then 2 ^ (f ((k : Int) + 1)).toNat else 0)
theorem mskN_s (P : Int → Bool) (f : Int → Int) {u : Int} (h : 1 ≤ u) : mskN P f u.toNat = ior (mskN P f (u - 1).toNat) (if P u = true then 2 ^ (f u).toNat else 0) := by
  obtain ⟨k, rfl⟩ : ∃ k : Nat, u = (k : Int) + 1 := ⟨(u - 1).toNat, by omega⟩
  rw [show ((k : Int) + 1).toNat = k + 1 by omega, show ((k : Int) + 1 - 1).toNat = k by omega]
  rfl
theorem mskN_bd (P : Int → Bool) (f : Int → Int) : ∀ k : Nat, (∀ u : Int, 1 ≤ u → u ≤ (k : Int) → 0 ≤ f u ∧ f u < 6) → 0 ≤ mskN P f k ∧ mskN P f k < 64
  | 0, _ => by simp [mskN]
  | k + 1, h => by
    have ih := mskN_bd P f k (fun u h1 h2 => h u h1 (by omega))
    have hk := h ((k : Int) + 1) (by omega) (by omega)
    have hp := p2_6 hk.1 hk.2
    refine ⟨ior_nn _ _, ior_lt 6 ih.1 ?_ ih.2 ?_⟩
    · split <;> omega
    · show _ < (64 : Int)
      split <;> omega
theorem bt_mskN (P : Int → Bool) (f : Int → Int) {x : Int} (hx : 0 ≤ x) : ∀ k : Nat, (∀ u : Int, 1 ≤ u → u ≤ (k : Int) → 0 ≤ f u ∧ f u < 6) → (mskN P f k / 2 ^ x.toNat % 2 = 1 ↔ ∃ u : Int, (1 ≤ u ∧ u ≤ (k : Int)) ∧ P u = true ∧ f u = x)
  | 0, _ => ⟨fun h => absurd h (bt_0 x), fun ⟨u, hu, _⟩ => by omega⟩
  | k + 1, h => by
    have ih := bt_mskN P f hx k (fun u h1 h2 => h u h1 (by omega))
    have hb := mskN_bd P f k (fun u h1 h2 => h u h1 (by omega))
    have hk := h ((k : Int) + 1) (by omega) (by omega)
    have hp := p2_6 hk.1 hk.2
    show ior _ _ / _ % 2 = 1 ↔ _
    rw [bt_or hb.1 (by split <;> omega), ih]
    by_cases e : P ((k : Int) + 1) = true
    · rw [if_pos e, bt_pow hx hk.1]
      constructor
      · rintro (⟨u, hu, q⟩ | q)
        · exact ⟨u, by omega, q⟩
        · exact ⟨(k : Int) + 1, by omega, e, q⟩
      · rintro ⟨u, hu, q1, q2⟩
        by_cases c : u = (k : Int) + 1
        · exact Or.inr (by rw [← c]; exact q2)
        · exact Or.inl ⟨u, by omega, q1, q2⟩
    · rw [if_neg e]
      constructor
      · rintro (⟨u, hu, q⟩ | q)
        · exact ⟨u, by omega, q⟩
        · exact absurd q (bt_0 x)
      · rintro ⟨u, hu, q1, q2⟩
        by_cases c : u = (k : Int) + 1
        · exact absurd (by rw [← c]; exact q1) e
        · exact Or.inl ⟨u, by omega, q1, q2⟩
/-! ===== digits of or, and of and-not ===== -/
def andn (x y : Int) : Int := ((x.toNat &&& (4294967295 - y.toNat) : Nat) : Int)
theorem J_not (a : Int) : J a ^^^ J (-1) = J (-1 - a) := by
  apply Int32.toBitVec_inj.mp
  show BitVec.ofInt 32 a ^^^ BitVec.ofInt 32 (-1) = BitVec.ofInt 32 (-1 - a)
  have e1 : BitVec.ofInt 32 (-1) = BitVec.allOnes 32 := by decide
  rw [e1, BitVec.xor_allOnes]
  apply BitVec.eq_of_toNat_eq
  rw [BitVec.toNat_not, BitVec.toNat_ofInt, BitVec.toNat_ofInt]
  show 4294967296 - 1 - (a % 4294967296).toNat = ((-1 - a) % 4294967296).toNat
  omega
theorem J_andn {x y : Int} (h1 : 0 ≤ x) (h2 : x < 2147483648) (h3 : 0 ≤ y) (h4 : y < 2147483648) : J x &&& J (-1 - y) = J (andn x y) := by
  apply Int32.toBitVec_inj.mp
  apply BitVec.eq_of_toNat_eq
  show ((BitVec.ofInt 32 x) &&& (BitVec.ofInt 32 (-1 - y))).toNat = (BitVec.ofInt 32 (andn x y)).toNat
  rw [BitVec.toNat_and, BitVec.toNat_ofInt, BitVec.toNat_ofInt, BitVec.toNat_ofInt]
  show (x % 4294967296).toNat &&& ((-1 - y) % 4294967296).toNat = (andn x y % 4294967296).toNat
  unfold andn
  have e1 : (x % 4294967296).toNat = x.toNat := by omega
  have e2 : ((-1 - y) % 4294967296).toNat = 4294967295 - y.toNat := by omega
  rw [e1, e2]
  have h5 : x.toNat &&& (4294967295 - y.toNat) ≤ x.toNat := Nat.and_le_left
  omega
theorem andn_bd {x y : Int} (h : 0 ≤ x) : 0 ≤ andn x y ∧ andn x y ≤ x := by
  unfold andn
  have h5 : x.toNat &&& (4294967295 - y.toNat) ≤ x.toNat := Nat.and_le_left
  omega
theorem dgN (n : Nat) (r : Int) : dg (n : Int) r = ((n / 2 ^ (3 * r.toNat) % 2 ^ 3 : Nat) : Int) := by
  unfold dg
  rw [← p38]
  simp
theorem dg_or {a b : Int} (ha : 0 ≤ a) (hb : 0 ≤ b) (r : Int) : dg (ior a b) r = ior (dg a r) (dg b r) := by
  obtain ⟨m, rfl⟩ := Int.eq_ofNat_of_zero_le ha
  obtain ⟨n, rfl⟩ := Int.eq_ofNat_of_zero_le hb
  unfold ior
  rw [Int.toNat_natCast, Int.toNat_natCast, dgN, dgN, dgN, Int.toNat_natCast, Int.toNat_natCast, Nat.or_div_two_pow, Nat.or_mod_two_pow]
theorem dg_sh {v i r : Int} (hv : 0 ≤ v ∧ v < 8) (hi : 0 ≤ i) (hr : 0 ≤ r) : dg (v * 8 ^ i.toNat) r = if r = i then v else 0 := by
  have h := dg_cd (f := fun k => if k = i then v else 0) (k := (i + r + 1).toNat) (fun k _ _ => by (try dsimp only); split <;> omega) hr (by omega)
  have e : cd (fun k => if k = i then v else 0) (i + r + 1).toNat = v * 8 ^ i.toNat := by
    have low : ∀ k : Nat, (k : Int) ≤ i → cd (fun k => if k = i then v else 0) k = 0 := fun k hk => by
      induction k with
      | zero => rfl
      | succ k ih =>
        show cd _ k + (if (k : Int) = i then v else 0) * 8 ^ k = 0
        rw [ih (by omega), if_neg (by omega)]
        simp
    have hi2 : ∀ j : Nat, cd (fun k => if k = i then v else 0) (i.toNat + 1 + j) = v * 8 ^ i.toNat := fun j => by
      induction j with
      | zero =>
        show cd _ i.toNat + (if (i.toNat : Int) = i then v else 0) * 8 ^ i.toNat = _
        rw [low i.toNat (by omega), if_pos (by omega), Int.zero_add]
      | succ j ih =>
        show cd _ (i.toNat + 1 + j) + (if ((i.toNat + 1 + j : Nat) : Int) = i then v else 0) * 8 ^ (i.toNat + 1 + j) = _
        rw [ih, if_neg (by omega)]
        simp
    have := hi2 r.toNat
    rw [show (i + r + 1).toNat = i.toNat + 1 + r.toNat by omega]
    exact this
  rw [e] at h
  exact h
theorem andn_pow : ∀ i : Nat, i < 6 → ∀ r : Nat, r < 6 → (4294967295 - 7 * 8 ^ i) / 2 ^ (3 * r) % 2 ^ 3 = if r = i then 0 else 7 := by decide +kernel
theorem dg_andn {x i r : Int} (hx : 0 ≤ x) (hi : 0 ≤ i ∧ i < 6) (hr : 0 ≤ r ∧ r < 6) : dg (andn x (7 * 8 ^ i.toNat)) r = if r = i then 0 else dg x r := by
  obtain ⟨m, rfl⟩ := Int.eq_ofNat_of_zero_le hx
  unfold andn
  have e : (7 * (8 : Int) ^ i.toNat).toNat = 7 * 8 ^ i.toNat := by
    have : (7 * (8 : Int) ^ i.toNat) = ((7 * 8 ^ i.toNat : Nat) : Int) := by simp
    rw [this, Int.toNat_natCast]
  rw [Int.toNat_natCast, e, dgN, Nat.and_div_two_pow, Nat.and_mod_two_pow, andn_pow _ (by omega) _ (by omega)]
  by_cases c : r = i
  · rw [if_pos c, if_pos (by omega), Nat.and_zero]
    rfl
  · rw [if_neg c, if_neg (by omega), dgN]
    congr 1
    exact Nat.and_two_pow_sub_one_of_lt_two_pow (n := 3) (Nat.mod_lt _ (by decide))
/-- two digits change, by and and or -/
theorem sw_bits {n b i j x y : Int} (h : VB n b) (hi : 0 ≤ i ∧ i < n) (hj : 0 ≤ j ∧ j < n) (hij : i ≠ j) (hx : dg b j = x) (hy : dg b i = y) : ior (ior (andn (andn b (7 * 8 ^ i.toNat)) (7 * 8 ^ j.toNat)) (x * 8 ^ i.toNat)) (y * 8 ^ j.toNat) = swd n b i j := by
  have hn := h.1
  have hb := VB_rng h
  have b1 := andn_bd (x := b) (y := 7 * 8 ^ i.toNat) hb.1
  have b2 := andn_bd (x := andn b (7 * 8 ^ i.toNat)) (y := 7 * 8 ^ j.toNat) b1.1
  have hx8 : 0 ≤ x ∧ x < 8 := by rw [← hx]; exact dg_bd b j
  have hy8 : 0 ≤ y ∧ y < 8 := by rw [← hy]; exact dg_bd b i
  have px := Int.mul_nonneg hx8.1 (Int.le_of_lt (p8 i.toNat))
  have py := Int.mul_nonneg hy8.1 (Int.le_of_lt (p8 j.toNat))
  have low : ∀ {v k : Int}, 0 ≤ v ∧ v < 8 → 0 ≤ k ∧ k < n → v * 8 ^ k.toNat < 8 ^ n.toNat := fun {v k} hv hk => by
    obtain ⟨m, hm⟩ : ∃ m : Nat, n.toNat = k.toNat + 1 + m := ⟨n.toNat - k.toNat - 1, by omega⟩
    rw [hm, Int.pow_add, Int.pow_add, Int.pow_one]
    have h1 := p8 k.toNat
    have h2 := p8 m
    have h3 : v * 8 ^ k.toNat ≤ 7 * 8 ^ k.toNat := Int.mul_le_mul_of_nonneg_right (by omega) (by omega)
    have h4 : (8 : Int) ^ k.toNat * 8 * 1 ≤ 8 ^ k.toNat * 8 * 8 ^ m := Int.mul_le_mul_of_nonneg_left (by omega) (by omega)
    omega
  refine dg_ext (k := n.toNat) (ior_nn _ _) ?_ (VB_swd h hi hj).2.1.1 (VB_swd h hi hj).2.1.2 (fun r h1 h2 => ?_)
  · have e8 : (8 : Int) ^ n.toNat = 2 ^ (3 * n.toNat) := (p38 _).symm
    rw [e8]
    refine ior_lt _ (ior_nn _ _) py (ior_lt _ b2.1 px ?_ ?_) ?_
    · rw [← e8]; have := h.2.1.2; omega
    · rw [← e8]; exact low hx8 hi
    · rw [← e8]; exact low hy8 hj
  · rw [dg_or (ior_nn _ _) py, dg_or b2.1 px, dg_andn b1.1 (by omega) (by omega), dg_andn hb.1 (by omega) (by omega), dg_sh hx8 hi.1 h1, dg_sh hy8 hj.1 h1]
    unfold swd
    rw [brd_dg h1 (by omega)]
    unfold swi
    have z := (dg_bd b r).1
    by_cases c1 : r = i
    · subst c1
      rw [if_neg hij, if_pos rfl, if_pos rfl, if_neg hij, if_pos rfl, hx, ior_0 (ior_nn _ _)]
      unfold ior
      rw [show (0 : Int).toNat = 0 from rfl, Nat.zero_or, Int.toNat_of_nonneg hx8.1]
    · by_cases c2 : r = j
      · subst c2
        rw [if_pos rfl, if_neg c1, if_pos rfl, if_neg c1, if_pos rfl, hy, ior_0 (by decide)]
        unfold ior
        rw [show (0 : Int).toNat = 0 from rfl, Nat.zero_or, Int.toNat_of_nonneg hy8.1]
      · rw [if_neg c2, if_neg c1, if_neg c1, if_neg c2, if_neg c1, if_neg c2, ior_0 z, ior_0 z]
/-! ===== a club's steps ===== -/
def tst (bf : Int → Int) (s : Int) : Int := if s / 8 % 4 = 0 then bI (bf (s % 8) < s / 32) else if s / 8 % 4 = 1 then bI (bf (s % 8) = s / 32) else bI (s / 32 < bf (s % 8))
/-- what the steps make: the answers that stand, shy, bold -/
def ev (bf st : Int → Int) : Nat → (Int → Int) × Int × Int
  | 0 => (fun _ => 0, 0, 0)
  | i + 1 =>
    if 0 ≤ st (i : Int) then (gu (ev bf st i).1 (dpt st i) (tst bf (st (i : Int))), (ev bf st i).2)
    else if st (i : Int) = -1 then (gu (ev bf st i).1 (dpt st i - 1) (1 - (ev bf st i).1 (dpt st i - 1)), (ev bf st i).2)
    else if st (i : Int) = -4 then ((ev bf st i).1, (if (ev bf st i).2.1 = 1 ∨ (ev bf st i).1 0 = 1 then 1 else 0), (ev bf st i).2.2)
    else if st (i : Int) = -5 then ((ev bf st i).1, (ev bf st i).2.1, (if (ev bf st i).2.2 = 1 ∨ (ev bf st i).1 0 = 1 then 1 else 0))
    else (gu (ev bf st i).1 (dpt st i - 2) (if st (i : Int) = -2 then (if (ev bf st i).1 (dpt st i - 2) = 1 ∧ (ev bf st i).1 (dpt st i - 1) = 1 then 1 else 0) else (if (ev bf st i).1 (dpt st i - 2) = 1 ∨ (ev bf st i).1 (dpt st i - 1) = 1 then 1 else 0)), (ev bf st i).2)
theorem dpt_s (st : Int → Int) {i : Int} (h : 0 ≤ i) : dpt st (i + 1).toNat = if 0 ≤ st i then dpt st i.toNat + 1 else if st i = -1 then dpt st i.toNat else if st i = -2 ∨ st i = -3 then dpt st i.toNat - 1 else 0 := by
  obtain ⟨k, rfl⟩ := Int.eq_ofNat_of_zero_le h
  rw [show ((k : Int) + 1).toNat = k + 1 by omega, Int.toNat_natCast]
  rfl
theorem ev_s (bf st : Int → Int) {i : Int} (h : 0 ≤ i) : ev bf st (i + 1).toNat =
    if 0 ≤ st i then (gu (ev bf st i.toNat).1 (dpt st i.toNat) (tst bf (st i)), (ev bf st i.toNat).2)
    else if st i = -1 then (gu (ev bf st i.toNat).1 (dpt st i.toNat - 1) (1 - (ev bf st i.toNat).1 (dpt st i.toNat - 1)), (ev bf st i.toNat).2)
    else if st i = -4 then ((ev bf st i.toNat).1, (if (ev bf st i.toNat).2.1 = 1 ∨ (ev bf st i.toNat).1 0 = 1 then 1 else 0), (ev bf st i.toNat).2.2)
    else if st i = -5 then ((ev bf st i.toNat).1, (ev bf st i.toNat).2.1, (if (ev bf st i.toNat).2.2 = 1 ∨ (ev bf st i.toNat).1 0 = 1 then 1 else 0))
    else (gu (ev bf st i.toNat).1 (dpt st i.toNat - 2) (if st i = -2 then (if (ev bf st i.toNat).1 (dpt st i.toNat - 2) = 1 ∧ (ev bf st i.toNat).1 (dpt st i.toNat - 1) = 1 then 1 else 0) else (if (ev bf st i.toNat).1 (dpt st i.toNat - 2) = 1 ∨ (ev bf st i.toNat).1 (dpt st i.toNat - 1) = 1 then 1 else 0)), (ev bf st i.toNat).2) := by
  obtain ⟨k, rfl⟩ := Int.eq_ofNat_of_zero_le h
  rw [show ((k : Int) + 1).toNat = k + 1 by omega, Int.toNat_natCast]
  rfl
theorem WFs_i {st : Int → Int} {m i : Int} (h : ∀ i : Nat, (i : Int) < m → WFs st i) (h1 : 0 ≤ i) (h2 : i < m) : -5 ≤ st i ∧ (0 ≤ st i → dpt st i.toNat < 14 ∧ st i % 8 < 6 ∧ st i / 8 % 4 < 3 ∧ st i / 32 ≤ 99) ∧ (st i = -1 → 1 ≤ dpt st i.toNat) ∧ (st i = -2 ∨ st i = -3 → 2 ≤ dpt st i.toNat) ∧ (st i = -4 ∨ st i = -5 → dpt st i.toNat = 1) := by
  have := h i.toNat (by omega)
  unfold WFs at this
  rw [Int.toNat_of_nonneg h1] at this
  exact this
theorem dpt_bd {st : Int → Int} {m : Int} (h : ∀ i : Nat, (i : Int) < m → WFs st i) : ∀ i : Nat, (i : Int) ≤ m → 0 ≤ dpt st i ∧ dpt st i ≤ 14
  | 0, _ => by simp [dpt]
  | i + 1, hi => by
    have ih := dpt_bd h i (by omega)
    have hw := h i (by omega)
    unfold WFs at hw
    show 0 ≤ (if 0 ≤ st (i : Int) then dpt st i + 1 else if st (i : Int) = -1 then dpt st i else if st (i : Int) = -2 ∨ st (i : Int) = -3 then dpt st i - 1 else 0) ∧ (if 0 ≤ st (i : Int) then dpt st i + 1 else if st (i : Int) = -1 then dpt st i else if st (i : Int) = -2 ∨ st (i : Int) = -3 then dpt st i - 1 else 0) ≤ 14
    (repeat' split) <;> omega
theorem tst_01 (bf : Int → Int) (s : Int) : tst bf s = 0 ∨ tst bf s = 1 := by
  unfold tst bI
  (repeat' split) <;> omega
theorem ev_01 (bf st : Int → Int) : ∀ i : Nat, (∀ j : Int, (ev bf st i).1 j = 0 ∨ (ev bf st i).1 j = 1) ∧ ((ev bf st i).2.1 = 0 ∨ (ev bf st i).2.1 = 1) ∧ ((ev bf st i).2.2 = 0 ∨ (ev bf st i).2.2 = 1)
  | 0 => ⟨fun _ => Or.inl rfl, Or.inl rfl, Or.inl rfl⟩
  | i + 1 => by
    obtain ⟨h1, h2, h3⟩ := ev_01 bf st i
    have ht := tst_01 bf (st (i : Int))
    unfold ev
    (repeat' split) <;> refine ⟨fun j => ?_, ?_, ?_⟩ <;> (try dsimp only) <;> (try unfold gu) <;> (repeat' split) <;> first | exact h1 _ | exact h2 | exact h3 | exact ht | (have := h1 (dpt st i - 1); omega) | omega
theorem tst_congr {bf b2 : Int → Int} {s : Int} (h : ∀ j : Int, 0 ≤ j → j < 6 → bf j = b2 j) (hs : 0 ≤ s) (h6 : s % 8 < 6) : tst bf s = tst b2 s := by
  unfold tst
  rw [h (s % 8) (by omega) h6]
theorem ev_congr {bf b2 st : Int → Int} {m : Int} (h : ∀ j : Int, 0 ≤ j → j < 6 → bf j = b2 j) (hw : ∀ i : Nat, (i : Int) < m → WFs st i) : ∀ i : Nat, (i : Int) ≤ m → ev bf st i = ev b2 st i
  | 0, _ => rfl
  | i + 1, hi => by
    have ih := ev_congr h hw i (by omega)
    have w := hw i (by omega)
    unfold WFs at w
    unfold ev
    rw [ih]
    by_cases c : 0 ≤ st (i : Int)
    · rw [if_pos c, if_pos c, tst_congr h c (w.2.1 c).2.1]
    · rw [if_neg c, if_neg c]
/-- by the tests of club c (of the row S) one may ask, whom the facts tell -/
abbrev LET (S : Int → Int) (c : Int) (bf : Int → Int) : Prop := (ev bf (steps S c) (S (188 + c)).toNat).2.1 = 0 ∨ (ev bf (steps S c) (S (188 + c)).toNat).2.2 = 1
def byf (S : Int → Int) (a b rung u day : Int) : Int → Int := fun j => if j = 0 then a else if j = 1 then b else if j = 2 then rung else if j = 3 then u else if j = 4 then S (130 + 6 * a + b) else day % 7
theorem LET_congr {S : Int → Int} {c : Int} {bf b2 : Int → Int} (h : ∀ j : Int, 0 ≤ j → j < 6 → bf j = b2 j) (hR : RI S) (hc : 0 ≤ c ∧ c < S 1) : LET S c bf ↔ LET S c b2 := by
  have e := ev_congr (st := steps S c) h (hR.wf c hc.1 hc.2) (S (188 + c)).toNat (by have := hR.sm (188 + c) (by omega) (by have := hR.cl; omega); omega)
  unfold LET
  rw [e]
/-! ===== whom one may ask, whom one asks ===== -/
abbrev MAY (S : Int → Int) (c rf b a rung day u : Int) : Prop := ¬ dg b (rung - u) = rf ∧ LET S c (byf S a (dg b (rung - u)) rung u day)
def imin (a b : Int) : Int := if a ≤ b then a else b
/-- the names that a may ask by club c, as bits; rf: whom nobody may ask -/
def MSK (S : Int → Int) (c rf b a day : Int) : Int := mskN (fun u => decide (MAY S c rf b a (rk (S 0) b a) day u)) (fun u => dg b (rk (S 0) b a - u)) (imin (S (178 + c)) (rk (S 0) b a)).toNat
def WRT (S : Int → Int) (c a b u : Int) : Int := if S (166 + a) = 0 then 10 * S (130 + 6 * a + b) + 9 - u else if S (166 + a) = 1 then 9 - u else if S (166 + a) = 2 then u else if S (166 + a) = 3 then (if S (172 + a) ≤ S (130 + 6 * a + b) then u else -1) else if S (166 + a) = 4 then 10 * S (130 + 6 * a + b) * (if S (183 + c) = 2 then 1 else u) + u else if S (166 + a) = 5 then (if b = S (172 + a) then 1 else -1) else -1
def wv (S : Int → Int) (c rf b a rung day u : Int) : Int := if u ≤ S (178 + c) ∧ MAY S c rf b a rung day u then WRT S c a (dg b (rung - u)) u else -1
def askF (S : Int → Int) (c rf b a rung day : Int) : Nat → Int × Int
  | 0 => (-5, -1)
  | k + 1 => (if (askF S c rf b a rung day k).2 < wv S c rf b a rung day ((k : Int) + 1) then dg b (rung - ((k : Int) + 1)) else (askF S c rf b a rung day k).1, if (askF S c rf b a rung day k).2 < wv S c rf b a rung day ((k : Int) + 1) then wv S c rf b a rung day ((k : Int) + 1) else (askF S c rf b a rung day k).2)
def ASK (S : Int → Int) (c rf b a day : Int) : Int := (askF S c rf b a (rk (S 0) b a) day (rk (S 0) b a).toNat).1
theorem askF_s (S : Int → Int) (c rf b a rung day : Int) {u : Int} (h : 1 ≤ u) : askF S c rf b a rung day u.toNat = (if (askF S c rf b a rung day (u - 1).toNat).2 < wv S c rf b a rung day u then dg b (rung - u) else (askF S c rf b a rung day (u - 1).toNat).1, if (askF S c rf b a rung day (u - 1).toNat).2 < wv S c rf b a rung day u then wv S c rf b a rung day u else (askF S c rf b a rung day (u - 1).toNat).2) := by
  obtain ⟨k, rfl⟩ : ∃ k : Nat, u = (k : Int) + 1 := ⟨(u - 1).toNat, by omega⟩
  rw [show ((k : Int) + 1).toNat = k + 1 by omega, show ((k : Int) + 1 - 1).toNat = k by omega]
  rfl
/-- the names of the rungs above, each once -/
theorem MSK_bt {S : Int → Int} {c rf b a day u : Int} (h : VB (S 0) b) (ha : 0 ≤ a ∧ a < S 0) (hu : 1 ≤ u ∧ u ≤ rk (S 0) b a) : (MSK S c rf b a day / 2 ^ (dg b (rk (S 0) b a - u)).toNat % 2 = 1) ↔ (u ≤ S (178 + c) ∧ MAY S c rf b a (rk (S 0) b a) day u) := by
  have hk := rk_spec h ha.1 ha.2
  have hn := h.1
  have hf : ∀ u : Int, 1 ≤ u → u ≤ (((imin (S (178 + c)) (rk (S 0) b a)).toNat : Nat) : Int) → 0 ≤ dg b (rk (S 0) b a - u) ∧ dg b (rk (S 0) b a - u) < 6 := fun u h1 h2 => by
    have h3 : u ≤ rk (S 0) b a := by unfold imin at h2; split at h2 <;> omega
    have := VB_dg h (r := rk (S 0) b a - u) (by omega) (by omega)
    omega
  unfold MSK
  rw [bt_mskN _ _ (dg_bd _ _).1 _ hf]
  constructor
  · rintro ⟨v, hv, q1, q2⟩
    have h3 : v ≤ rk (S 0) b a ∧ v ≤ S (178 + c) := by have := hv.2; unfold imin at this; split at this <;> omega
    have e := VB_inj h (r := rk (S 0) b a - v) (q := rk (S 0) b a - u) (by omega) (by omega) (by omega) (by omega) q2
    have : v = u := by omega
    subst this
    exact ⟨h3.2, of_decide_eq_true q1⟩
  · rintro ⟨q1, q2⟩
    exact ⟨u, ⟨hu.1, by unfold imin; split <;> omega⟩, decide_eq_true q2, rfl⟩
theorem MSK_bd {S : Int → Int} {c rf b a day : Int} (h : VB (S 0) b) (ha : 0 ≤ a ∧ a < S 0) : 0 ≤ MSK S c rf b a day ∧ MSK S c rf b a day < 64 := by
  have hk := rk_spec h ha.1 ha.2
  have hn := h.1
  unfold MSK
  refine mskN_bd _ _ _ (fun u h1 h2 => ?_)
  have h3 : u ≤ rk (S 0) b a := by unfold imin at h2; split at h2 <;> omega
  have := VB_dg h (r := rk (S 0) b a - u) (by omega) (by omega)
  omega
theorem wv_bd {S : Int → Int} {c rf b a day u : Int} (hR : RI S) (h : VB (S 0) b) (ha : 0 ≤ a ∧ a < S 0) (hu : 1 ≤ u ∧ u ≤ rk (S 0) b a) : -1 ≤ wv S c rf b a (rk (S 0) b a) day u ∧ wv S c rf b a (rk (S 0) b a) day u ≤ 6100 := by
  have hk := rk_spec h ha.1 ha.2
  have hn := h.1
  have hd := VB_dg h (r := rk (S 0) b a - u) (by omega) (by omega)
  have hc := hR.ch ha hd
  unfold wv WRT
  generalize S (130 + 6 * a + dg b (rk (S 0) b a - u)) = ch at hc ⊢
  have h1 : 0 ≤ 10 * ch * u := Int.mul_nonneg (by omega) (by omega)
  have h2 : 10 * ch * u ≤ 1000 * u := Int.mul_le_mul_of_nonneg_right (by omega) (by omega)
  (repeat' split) <;> omega
theorem ASK_bd {S : Int → Int} {c rf b a day : Int} (h : VB (S 0) b) (ha : 0 ≤ a ∧ a < S 0) : ∀ k : Nat, (k : Int) ≤ rk (S 0) b a → ((askF S c rf b a (rk (S 0) b a) day k).1 = -5 ∨ ∃ u : Int, (1 ≤ u ∧ u ≤ (k : Int)) ∧ (askF S c rf b a (rk (S 0) b a) day k).1 = dg b (rk (S 0) b a - u))
  | 0, _ => Or.inl rfl
  | k + 1, hk => by
    rcases ASK_bd h ha k (by omega) with ih | ⟨u, hu, e⟩
    · unfold askF
      dsimp only
      split
      · exact Or.inr ⟨(k : Int) + 1, by omega, rfl⟩
      · exact Or.inl ih
    · unfold askF
      dsimp only
      split
      · exact Or.inr ⟨(k : Int) + 1, by omega, rfl⟩
      · exact Or.inr ⟨u, by omega, e⟩
/-- whom one asks: nobody, or one on a higher rung -/
theorem ASK_in {S : Int → Int} {c rf b a day : Int} (h : VB (S 0) b) (ha : 0 ≤ a ∧ a < S 0) : ASK S c rf b a day = -5 ∨ ((0 ≤ ASK S c rf b a day ∧ ASK S c rf b a day < S 0) ∧ rk (S 0) b (ASK S c rf b a day) < rk (S 0) b a) := by
  have hk := rk_spec h ha.1 ha.2
  rcases ASK_bd (c := c) (rf := rf) (day := day) h ha (rk (S 0) b a).toNat (by omega) with e | ⟨u, hu, e⟩
  · exact Or.inl e
  · refine Or.inr ?_
    have e2 : ASK S c rf b a day = dg b (rk (S 0) b a - u) := e
    rw [e2]
    have hd := VB_dg h (r := rk (S 0) b a - u) (by omega) (by omega)
    rw [rk_dg h (by omega) (by omega)]
    exact ⟨hd, by omega⟩
/-- the board behind a won match -/
def WON (S : Int → Int) (c b x y : Int) : Int := if S (183 + c) = 1 then swd (S 0) b (rk (S 0) b x) (rk (S 0) b y) else mvd (S 0) b x (if S (183 + c) = 2 then rk (S 0) b x - 1 else rk (S 0) b y)
theorem VB_WON {S : Int → Int} {c b x y : Int} (h : VB (S 0) b) (hx : 0 ≤ x ∧ x < S 0) (hy : 0 ≤ y ∧ y < S 0) (hr : rk (S 0) b y < rk (S 0) b x) : VB (S 0) (WON S c b x y) := by
  have h1 := rk_spec h hx.1 hx.2
  have h2 := rk_spec h hy.1 hy.2
  unfold WON
  split
  · exact VB_swd h h1.1 h2.1
  · exact VB_mvd h hx (by split <;> omega)
