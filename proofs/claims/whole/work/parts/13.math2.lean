/-! ===== rearranged boards ===== -/
/-- the board whose rung k has what b had on rung p k -/
def brd (n b : Int) (p : Int → Int) : Int := cd (fun k => dg b (p k)) n.toNat
theorem brd_dg {n b : Int} {p : Int → Int} {r : Int} (h1 : 0 ≤ r) (h2 : r < n) : dg (brd n b p) r = dg b (p r) := dg_cd (f := fun k => dg b (p k)) (fun i _ _ => dg_bd b (p i)) h1 (by omega)
theorem VB_brd {n b : Int} {p : Int → Int} (h : VB n b) (hp : ∀ r : Int, 0 ≤ r → r < n → 0 ≤ p r ∧ p r < n) (hi : ∀ r q : Int, 0 ≤ r → r < n → 0 ≤ q → q < n → p r = p q → r = q) : VB n (brd n b p) := by
  refine ⟨h.1, cd_bd (fun i _ _ => dg_bd b (p i)), fun r h1 h2 => ?_, fun r q h1 h2 h3 h4 e => ?_⟩
  · rw [brd_dg h1 h2]
    exact (VB_dg h (hp r h1 h2).1 (hp r h1 h2).2).2
  · rw [brd_dg h1 h2, brd_dg h3 h4] at e
    exact hi r q h1 h2 h3 h4 (VB_inj h (hp r h1 h2).1 (hp r h1 h2).2 (hp q h3 h4).1 (hp q h3 h4).2 e)
/-- two boards with the same names on all rungs -/
theorem VB_ext {n a b : Int} (ha : VB n a) (hb : VB n b) (h : ∀ r : Int, 0 ≤ r → r < n → dg a r = dg b r) : a = b := dg_ext ha.2.1.1 ha.2.1.2 hb.2.1.1 hb.2.1.2 (fun r h1 h2 => h r h1 (by have := ha.1; omega))
/-- who is on rung p comes to rung t -/
def mvi (p t k : Int) : Int := if k = t then p else if t < k ∧ k ≤ p then k - 1 else if p ≤ k ∧ k < t then k + 1 else k
def swi (i j k : Int) : Int := if k = i then j else if k = j then i else k
theorem mvi_in {n p t r : Int} (hp : 0 ≤ p ∧ p < n) (ht : 0 ≤ t ∧ t < n) (h1 : 0 ≤ r) (h2 : r < n) : 0 ≤ mvi p t r ∧ mvi p t r < n := by
  unfold mvi
  repeat' split
  all_goals omega
theorem mvi_inj {p t r q : Int} (e : mvi p t r = mvi p t q) : r = q := by
  unfold mvi at e
  repeat' split at e
  all_goals omega
theorem swi_in {n i j r : Int} (hp : 0 ≤ i ∧ i < n) (ht : 0 ≤ j ∧ j < n) (h1 : 0 ≤ r) (h2 : r < n) : 0 ≤ swi i j r ∧ swi i j r < n := by
  unfold swi
  repeat' split
  all_goals omega
theorem swi_inj {i j r q : Int} (e : swi i j r = swi i j q) : r = q := by
  unfold swi at e
  repeat' split at e
  all_goals omega
def mvd (n b a t : Int) : Int := brd n b (mvi (rk n b a) t)
def swd (n b i j : Int) : Int := brd n b (swi i j)
theorem VB_mvd {n b a t : Int} (h : VB n b) (ha : 0 ≤ a ∧ a < n) (ht : 0 ≤ t ∧ t < n) : VB n (mvd n b a t) := VB_brd h (fun r h1 h2 => mvi_in (rk_spec h ha.1 ha.2).1 ht h1 h2) (fun r q _ _ _ _ e => mvi_inj e)
theorem VB_swd {n b i j : Int} (h : VB n b) (ha : 0 ≤ i ∧ i < n) (ht : 0 ≤ j ∧ j < n) : VB n (swd n b i j) := VB_brd h (fun r h1 h2 => swi_in ha ht h1 h2) (fun r q _ _ _ _ e => swi_inj e)
/-! ===== bits ===== -/
def ior (a b : Int) : Int := ((a.toNat ||| b.toNat : Nat) : Int)
theorem J_nI {a : Int} (h : 0 ≤ a) : J a = nI a.toNat := by
  obtain ⟨k, rfl⟩ := Int.eq_ofNat_of_zero_le h
  exact Int32.ofInt_eq_ofNat
theorem J_or {a b : Int} (h : 0 ≤ a ∧ 0 ≤ b) : J a ||| J b = J (ior a b) := by
  rw [J_nI h.1, J_nI h.2, fa_or]
  exact (Int32.ofInt_eq_ofNat (n := a.toNat ||| b.toNat)).symm
theorem ior_add {a v : Int} {k : Nat} (h1 : 0 ≤ a) (h2 : a < 2 ^ k) (hv : 0 ≤ v) : ior a (v * 2 ^ k) = a + v * 2 ^ k := by
  obtain ⟨x, rfl⟩ := Int.eq_ofNat_of_zero_le h1
  obtain ⟨y, rfl⟩ := Int.eq_ofNat_of_zero_le hv
  have hx : x < 2 ^ k := by
    have : ((x : Nat) : Int) < ((2 ^ k : Nat) : Int) := by simpa using h2
    omega
  unfold ior
  have e : ((y : Int) * 2 ^ k) = ((2 ^ k * y : Nat) : Int) := by rw [Int.natCast_mul, Int.natCast_pow, Int.mul_comm]; rfl
  rw [e, Int.toNat_natCast, Int.toNat_natCast, Nat.or_comm, ← Nat.two_pow_add_eq_or_of_lt hx]
  omega
theorem p38 (k : Nat) : (2 : Int) ^ (3 * k) = 8 ^ k := by rw [Int.pow_mul]; rfl
/-- one more digit, by or -/
theorem cd_or {f : Int → Int} {k nx who : Int} (hk : 0 ≤ k) (hf : ∀ i : Int, 0 ≤ i → i < k → 0 ≤ f i ∧ f i < 8) (hn : nx = cd f k.toNat) (hw : who = f k) (hw0 : 0 ≤ who) : J nx ||| J (who * 2 ^ (3 * k).toNat) = J (cd f (k + 1).toNat) := by
  have hb := cd_bd (f := f) (k := k.toNat) (fun i h1 h2 => hf i h1 (by omega))
  rw [show (3 * k).toNat = 3 * k.toNat by omega, p38]
  have hp := p8 k.toNat
  rw [J_or ⟨by rw [hn]; exact hb.1, Int.mul_nonneg hw0 (by omega)⟩, ← p38, hn, ior_add hb.1 (by rw [p38]; exact hb.2) hw0, p38, show (k + 1).toNat = k.toNat + 1 by omega, show cd f (k.toNat + 1) = cd f k.toNat + f (k.toNat : Int) * 8 ^ k.toNat from rfl, Int.toNat_of_nonneg hk, hw]
theorem sh_bd {v k : Int} (hv : 0 ≤ v ∧ v < 8) (hk : 0 ≤ k ∧ k ≤ 6) : 0 ≤ v * 2 ^ (3 * k).toNat ∧ v * 2 ^ (3 * k).toNat < 2097152 := by
  rw [show (3 * k).toNat = 3 * k.toNat by omega, p38]
  have hp := p8 k.toNat
  have h2 := p8_le hk.2
  have h3 : v * 8 ^ k.toNat ≤ 7 * 8 ^ k.toNat := Int.mul_le_mul_of_nonneg_right (by omega) (by omega)
  exact ⟨Int.mul_nonneg hv.1 (by omega), by omega⟩
/-! ===== counting ===== -/
def cnt (p : Int → Bool) : Nat → Int
  | 0 => 0
  | k + 1 => cnt p k + (if p (k : Int) = true then 1 else 0)
theorem cnt_bd (p : Int → Bool) : ∀ k : Nat, 0 ≤ cnt p k ∧ cnt p k ≤ (k : Int)
  | 0 => by simp [cnt]
  | k + 1 => by
    have ih := cnt_bd p k
    unfold cnt
    split <;> omega
theorem cnt_congr {p q : Int → Bool} : ∀ {k : Nat}, (∀ i : Int, 0 ≤ i → i < (k : Int) → p i = q i) → cnt p k = cnt q k
  | 0, _ => rfl
  | k + 1, h => by
    unfold cnt
    rw [cnt_congr (k := k) (fun i h1 h2 => h i h1 (by omega)), h (k : Int) (by omega) (by omega)]
theorem cnt_le {p q : Int → Bool} : ∀ {k : Nat}, (∀ i : Int, 0 ≤ i → i < (k : Int) → p i = true → q i = true) → cnt p k ≤ cnt q k
  | 0, _ => Int.le_refl _
  | k + 1, h => by
    have ih := cnt_le (p := p) (q := q) (k := k) (fun i h1 h2 => h i h1 (by omega))
    have hk := h (k : Int) (by omega) (by omega)
    unfold cnt
    by_cases e : p (k : Int) = true
    · rw [if_pos e, if_pos (hk e)]
      omega
    · rw [if_neg e]
      split <;> omega
/-- q holds where p holds, and at x, where p does not -/
theorem cnt_add1 {p q : Int → Bool} {x : Int} : ∀ {k : Nat}, 0 ≤ x → x < (k : Int) → p x = false → q x = true → (∀ i : Int, 0 ≤ i → i < (k : Int) → i ≠ x → p i = q i) → cnt q k = cnt p k + 1
  | 0, _, h, _, _, _ => by omega
  | k + 1, h0, h1, hp, hq, h => by
    unfold cnt
    by_cases e : x = (k : Int)
    · subst e
      rw [cnt_congr (p := q) (q := p) (fun i g1 g2 => (h i g1 (by omega) (by omega)).symm), hp, hq]
      simp
    · rw [cnt_add1 (p := p) (q := q) (k := k) h0 (by omega) hp hq (fun i g1 g2 g3 => h i g1 (by omega) g3), h (k : Int) (by omega) (by omega) (fun g => e g.symm)]
      omega
theorem cnt_lt {p q : Int → Bool} {x : Int} {k : Nat} (h0 : 0 ≤ x) (h1 : x < (k : Int)) (hp : p x = false) (hq : q x = true) (h : ∀ i : Int, 0 ≤ i → i < (k : Int) → p i = true → q i = true) : cnt p k < cnt q k := by
  have e := cnt_add1 (p := p) (q := fun i => if i = x then true else p i) (x := x) (k := k) h0 h1 hp (by simp) (fun i _ _ g => by simp [g])
  have l := cnt_le (p := fun i => if i = x then true else p i) (q := q) (k := k) (fun i g1 g2 g => by
    by_cases c : i = x
    · rw [c]; exact hq
    · simp [c] at g
      exact h i g1 g2 g)
  omega
theorem cnt_all {p : Int → Bool} : ∀ {k : Nat}, (∀ i : Int, 0 ≤ i → i < (k : Int) → p i = true) → cnt p k = (k : Int)
  | 0, _ => rfl
  | k + 1, h => by
    unfold cnt
    rw [cnt_all (k := k) (fun i h1 h2 => h i h1 (by omega)), if_pos (h (k : Int) (by omega) (by omega))]
    omega
theorem cnt_none {p : Int → Bool} : ∀ {k : Nat}, (∀ i : Int, 0 ≤ i → i < (k : Int) → p i = false) → cnt p k = 0
  | 0, _ => rfl
  | k + 1, h => by
    unfold cnt
    rw [cnt_none (k := k) (fun i h1 h2 => h i h1 (by omega)), h (k : Int) (by omega) (by omega)]
    simp
/-- the first place from above where p holds, or 0 -/
def srch (p : Int → Bool) : Nat → Int
  | 0 => 0
  | k + 1 => if p (k : Int) = true then (k : Int) else srch p k
theorem srch_uniq {p : Int → Bool} {x : Int} : ∀ {k : Nat}, 0 ≤ x → x < (k : Int) → p x = true → (∀ i : Int, 0 ≤ i → i < (k : Int) → p i = true → i = x) → srch p k = x
  | 0, _, h, _, _ => by omega
  | k + 1, h0, h1, hp, h => by
    unfold srch
    by_cases e : p (k : Int) = true
    · rw [if_pos e]
      exact h (k : Int) (by omega) (by omega) e
    · rw [if_neg e]
      have : x ≠ (k : Int) := fun g => e (by rw [← g]; exact hp)
      exact srch_uniq h0 (by omega) hp (fun i g1 g2 => h i g1 (by omega))
/-! ===== the reference's numbers read off its row S ===== -/
def chn (S : Int → Int) (a b : Int) : Int := S (130 + 6 * a + b)
def strg (S : Int → Int) (a b : Int) : Prop := 50 < S (130 + 6 * a + b)
/-- how many a name is stronger than -/
def wk (S : Int → Int) (a : Int) : Int := cnt (fun b => decide (a ≠ b ∧ 50 < S (130 + 6 * a + b))) (S 0).toNat
def bef (S : Int → Int) (b a : Int) : Prop := wk S a < wk S b ∨ wk S b = wk S a ∧ b < a
/-- how many stand ahead of a on the true board -/
def ah (S : Int → Int) (a : Int) : Int := cnt (fun b => decide (wk S a < wk S b ∨ wk S b = wk S a ∧ b < a)) (S 0).toNat
def tbn (S : Int → Int) (r : Int) : Int := srch (fun a => decide (ah S a = r)) (S 0).toNat
/-- the true board -/
def TB (S : Int → Int) : Int := cd (tbn S) (S 0).toNat
theorem wk_bd (S : Int → Int) (a : Int) (h : 0 ≤ S 0) : 0 ≤ wk S a ∧ wk S a ≤ S 0 := by
  have := cnt_bd (fun b => decide (a ≠ b ∧ 50 < S (130 + 6 * a + b))) (S 0).toNat
  unfold wk
  omega
theorem wk_lt (S : Int → Int) {a : Int} (h1 : 0 ≤ a) (h2 : a < S 0) : wk S a < S 0 := by
  have := cnt_lt (p := fun b => decide (a ≠ b ∧ 50 < S (130 + 6 * a + b))) (q := fun _ => true) (x := a) (k := (S 0).toNat) h1 (by omega) (by simp) rfl (fun _ _ _ _ => rfl)
  rw [cnt_all (p := fun _ => true) (fun _ _ _ => rfl)] at this
  unfold wk
  omega
theorem ah_lt (S : Int → Int) {a : Int} (h1 : 0 ≤ a) (h2 : a < S 0) : 0 ≤ ah S a ∧ ah S a < S 0 := by
  have := cnt_lt (p := fun b => decide (wk S a < wk S b ∨ wk S b = wk S a ∧ b < a)) (q := fun _ => true) (x := a) (k := (S 0).toNat) h1 (by omega) (by simp) rfl (fun _ _ _ _ => rfl)
  rw [cnt_all (p := fun _ => true) (fun _ _ _ => rfl)] at this
  have h3 := cnt_bd (fun b => decide (wk S a < wk S b ∨ wk S b = wk S a ∧ b < a)) (S 0).toNat
  unfold ah
  omega
theorem ah_mono (S : Int → Int) {a b : Int} (h1 : 0 ≤ a) (h2 : a < S 0) (h : wk S b < wk S a ∨ wk S a = wk S b ∧ a < b) : ah S a < ah S b := by
  unfold ah
  refine cnt_lt (x := a) h1 (by omega) (by simp) (by simpa using h) (fun i _ _ g => ?_)
  simp only [decide_eq_true_eq] at g ⊢
  omega
theorem ah_inj (S : Int → Int) {a b : Int} (h1 : 0 ≤ a) (h2 : a < S 0) (h3 : 0 ≤ b) (h4 : b < S 0) (e : ah S a = ah S b) : a = b := by
  rcases Int.lt_trichotomy (wk S a) (wk S b) with h | h | h
  · have := ah_mono S (a := b) (b := a) h3 h4 (Or.inl h)
    omega
  · rcases Int.lt_trichotomy a b with g | g | g
    · have := ah_mono S (a := a) (b := b) h1 h2 (Or.inr ⟨h, g⟩)
      omega
    · exact g
    · have := ah_mono S (a := b) (b := a) h3 h4 (Or.inr ⟨h.symm, g⟩)
      omega
  · have := ah_mono S (a := a) (b := b) h1 h2 (Or.inl h)
    omega
theorem tbn_ah (S : Int → Int) {a : Int} (h1 : 0 ≤ a) (h2 : a < S 0) : tbn S (ah S a) = a := srch_uniq h1 (by omega) (by simp) (fun i g1 g2 g => ah_inj S g1 (by omega) h1 h2 (by simpa using g))
theorem tb_onto (S : Int → Int) {r : Int} (h1 : 0 ≤ r) (h2 : r < S 0) : ∃ a : Int, 0 ≤ a ∧ a < S 0 ∧ ah S a = r := by
  obtain ⟨i, hi, e⟩ := fb_onto (n := (S 0).toNat) (f := fun i => (ah S (i : Int)).toNat) (fun i hi => by
    have := ah_lt S (a := (i : Int)) (by omega) (by omega)
    show (ah S (i : Int)).toNat < (S 0).toNat
    omega) (fun i j hij hj e => by
    have q1 := ah_lt S (a := (i : Int)) (by omega) (by omega)
    have q2 := ah_lt S (a := (j : Int)) (by omega) (by omega)
    have e2 : (ah S (i : Int)).toNat = (ah S (j : Int)).toNat := e
    have := ah_inj S (a := (i : Int)) (b := (j : Int)) (by omega) (by omega) (by omega) (by omega) (by omega)
    omega) (y := r.toNat) (by omega)
  have q1 := ah_lt S (a := (i : Int)) (by omega) (by omega)
  have e2 : (ah S (i : Int)).toNat = r.toNat := e
  exact ⟨i, by omega, by omega, by omega⟩
theorem tbn_in (S : Int → Int) {r : Int} (h1 : 0 ≤ r) (h2 : r < S 0) : (0 ≤ tbn S r ∧ tbn S r < S 0) ∧ ah S (tbn S r) = r := by
  obtain ⟨a, g1, g2, e⟩ := tb_onto S h1 h2
  rw [← e, tbn_ah S g1 g2]
  exact ⟨⟨g1, g2⟩, rfl⟩
theorem TB_dg (S : Int → Int) (hn : S 0 ≤ 6) {r : Int} (h1 : 0 ≤ r) (h2 : r < S 0) : dg (TB S) r = tbn S r := dg_cd (f := tbn S) (fun i g1 g2 => by have := tbn_in S g1 (r := i) (by omega); omega) h1 (by omega)
theorem VB_TB (S : Int → Int) (h0 : 0 ≤ S 0) (hn : S 0 ≤ 6) : VB (S 0) (TB S) := by
  refine ⟨⟨h0, hn⟩, cd_bd (fun i g1 g2 => by have := tbn_in S g1 (r := i) (by omega); omega), fun r h1 h2 => ?_, fun r q h1 h2 h3 h4 e => ?_⟩
  · rw [TB_dg S hn h1 h2]
    exact (tbn_in S h1 h2).1.2
  · rw [TB_dg S hn h1 h2, TB_dg S hn h3 h4] at e
    rw [← (tbn_in S h1 h2).2, ← (tbn_in S h3 h4).2, e]
theorem TB_rk (S : Int → Int) (hn : S 0 ≤ 6) {a : Int} (h1 : 0 ≤ a) (h2 : a < S 0) : rk (S 0) (TB S) a = ah S a := by
  have h3 := ah_lt S h1 h2
  exact rk_uniq (VB_TB S (by omega) hn) h3.1 h3.2 (by rw [TB_dg S hn h3.1 h3.2, tbn_ah S h1 h2])
