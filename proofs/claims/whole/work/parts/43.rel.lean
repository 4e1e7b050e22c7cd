/-! ===== what ties the class's cells to the reference's row ===== -/
/-- a step of a club, as the class keeps it -/
def cde (s : Int) : Int := if s < 0 then s else (s % 8 * 3 + s / 8 % 4) * 100 + s / 32
/-- a byte with its sign -/
def sby (x : Int) : Int := if x < 128 then x else x - 256
/-- the class's number of a kind -/
def kci (k : Int) : Nat := if k = 0 then 0 else if k = 1 then 7 else if k = 2 then 5 else if k = 3 then 9 else if k = 4 then 1 else if k = 5 then 10 else 8
def AKB (P : va_W) (q : Nat) (k m v : Int) : Prop := ∃ i : Nat, P[i]? = some (q, .inr (kci k, [.int (J m), .int (J v)]))
def CLB (P : va_W) (cy : Nat → ClassId) (S : Int → Int) (c : Int) (q : Nat) : Prop := ∃ (i j qc : Nat) (g : Int → Int), P[i]? = some (q, .inr (2, [.int (J (S (178 + c))), .int (J (S (183 + c))), .ref qc])) ∧ P[j]? = some (qc, .inl (cy 0, (S (188 + c)).toNat, .inl (jf g))) ∧ ∀ k : Int, 0 ≤ k → k < S (188 + c) → g k = cde (S (193 + 140 * c + k))
/-- a Ladder whose cells begin at b, its figures at f, holds the row S -/
def LRb (b f : Nat) (cy : Nat → ClassId) (S : Int → Int) (I : Nat → Int → Int) (F : Nat → Int) (Q : Nat → Nat → Option Nat) (P : va_W) : Prop :=
  (F f = S 0 ∧ F (f + 1) = S 2 ∧ F (f + 2) = S 5 ∧ F (f + 3) = S 1 ∧ F (f + 4) = S 4 ∧ F (f + 5) = S 3) ∧
  (∀ r : Int, 0 ≤ r → r < S 0 → I (b + 1) r = dg (S 6) r) ∧
  (∀ a c : Int, 0 ≤ a → a < 6 → 0 ≤ c → c < 6 → I (b + 3 + a.toNat) c = if a < S 0 ∧ c < S 0 then S (130 + 6 * a + c) else 50) ∧
  (∀ i : Int, 0 ≤ i → i < S 5 → I (b + 10) i = sby (S (10 + i))) ∧
  (∀ i : Int, 0 ≤ i → i < S 4 → I (b + 12) i = S (923 + i)) ∧
  (∀ k : Int, 0 ≤ k → k < S 3 → I (b + 13) k = S (893 + 2 * k) ∧ I (b + 14) k = S (893 + 2 * k + 1)) ∧
  (∀ a c : Int, 0 ≤ a → a < 6 → 0 ≤ c → c < 6 → I (b + 16 + a.toNat) c = S (929 + 6 * a + c)) ∧
  (∀ a : Int, 0 ≤ a → a < 6 → ∃ q : Nat, Q (b + 9) a.toNat = some q ∧ AKB P q (if a < S 0 then S (166 + a) else 0) a (if a < S 0 then S (172 + a) else 0)) ∧
  (∀ c : Int, 0 ≤ c → c < S 1 → ∃ q : Nat, Q (b + 11) c.toNat = some q ∧ CLB P cy S c q)
theorem LRb_au {b f : Nat} {cy : Nat → ClassId} {S : Int → Int} {I : Nat → Int → Int} {F : Nat → Int} {Q : Nat → Nat → Option Nat} {P : va_W} {k : Nat} {g : Int → Int} (hk : k ≤ b ∨ b + 22 ≤ k) (h : LRb b f cy S I F Q P) : LRb b f cy S (au I k g) F Q P := by
  obtain ⟨h1, h2, h3, h4, h5, h6, h7, h8, h9⟩ := h
  refine ⟨h1, ?_, ?_, ?_, ?_, ?_, ?_, h8, h9⟩
  · rw [au_ne (by omega)]; exact h2
  · intro a c a0 a1 c0 c1
    rw [au_ne (by omega)]; exact h3 a c a0 a1 c0 c1
  · rw [au_ne (by omega)]; exact h4
  · rw [au_ne (by omega)]; exact h5
  · rw [au_ne (by omega), au_ne (by omega)]; exact h6
  · intro a c a0 a1 c0 c1
    rw [au_ne (by omega)]; exact h7 a c a0 a1 c0 c1
theorem LRb_fu {b f : Nat} {cy : Nat → ClassId} {S : Int → Int} {I : Nat → Int → Int} {F : Nat → Int} {Q : Nat → Nat → Option Nat} {P : va_W} {k : Nat} {v : Int} (hk : k < f ∨ f + 6 ≤ k) (h : LRb b f cy S I F Q P) : LRb b f cy S I (fu F k v) Q P := by
  obtain ⟨h1, h2⟩ := h
  refine ⟨?_, h2⟩
  rw [fu_ne (by omega), fu_ne (by omega), fu_ne (by omega), fu_ne (by omega), fu_ne (by omega), fu_ne (by omega)]
  exact h1
theorem LRb_qu {b f : Nat} {cy : Nat → ClassId} {S : Int → Int} {I : Nat → Int → Int} {F : Nat → Int} {Q : Nat → Nat → Option Nat} {P : va_W} {k : Nat} {g : Nat → Option Nat} (hk : k ≤ b ∨ b + 22 ≤ k) (h : LRb b f cy S I F Q P) : LRb b f cy S I F (qu Q k g) P := by
  obtain ⟨h1, h2, h3, h4, h5, h6, h7, h8, h9⟩ := h
  refine ⟨h1, h2, h3, h4, h5, h6, h7, ?_, ?_⟩
  · rw [qu_ne (by omega)]; exact h8
  · rw [qu_ne (by omega)]; exact h9
theorem AKB_app {P R : va_W} {q : Nat} {k m v : Int} (h : AKB P q k m v) : AKB (P ++ R) q k m v := by
  obtain ⟨i, h⟩ := h
  exact ⟨i, by rw [List.getElem?_append_left (List.getElem?_eq_some_iff.mp h).1]; exact h⟩
theorem CLB_app {P R : va_W} {cy : Nat → ClassId} {S : Int → Int} {c : Int} {q : Nat} (h : CLB P cy S c q) : CLB (P ++ R) cy S c q := by
  obtain ⟨i, j, qc, g, h1, h2, h3⟩ := h
  exact ⟨i, j, qc, g, by rw [List.getElem?_append_left (List.getElem?_eq_some_iff.mp h1).1]; exact h1, by rw [List.getElem?_append_left (List.getElem?_eq_some_iff.mp h2).1]; exact h2, h3⟩
theorem LRb_app {b f : Nat} {cy : Nat → ClassId} {S : Int → Int} {I : Nat → Int → Int} {F : Nat → Int} {Q : Nat → Nat → Option Nat} {P R : va_W} (h : LRb b f cy S I F Q P) : LRb b f cy S I F Q (P ++ R) := by
  obtain ⟨h1, h2, h3, h4, h5, h6, h7, h8, h9⟩ := h
  refine ⟨h1, h2, h3, h4, h5, h6, h7, ?_, ?_⟩
  · intro a a0 a1
    obtain ⟨q, e1, e2⟩ := h8 a a0 a1
    exact ⟨q, e1, AKB_app e2⟩
  · intro a a0 a1
    obtain ⟨q, e1, e2⟩ := h9 a a0 a1
    exact ⟨q, e1, CLB_app e2⟩
abbrev LRn (cy : Nat → ClassId) (S : Int → Int) (I : Nat → Int → Int) (F : Nat → Int) (Q : Nat → Nat → Option Nat) (P : va_W) : Prop := LRb 1 1 cy S I F Q P
section LRACC
variable {cy : Nat → ClassId} {S : Int → Int} {I : Nat → Int → Int} {F : Nat → Int} {Q : Nat → Nat → Option Nat} {P : va_W}
theorem l_n (h : LRn cy S I F Q P) : F 1 = S 0 := h.1.1
theorem l_td (h : LRn cy S I F Q P) : F 2 = S 2 := h.1.2.1
theorem l_tp (h : LRn cy S I F Q P) : F 3 = S 5 := h.1.2.2.1
theorem l_cl (h : LRn cy S I F Q P) : F 4 = S 1 := h.1.2.2.2.1
theorem l_rw (h : LRn cy S I F Q P) : F 5 = S 4 := h.1.2.2.2.2.1
theorem l_rd (h : LRn cy S I F Q P) : F 6 = S 3 := h.1.2.2.2.2.2
theorem l_bd (h : LRn cy S I F Q P) {r : Int} (h0 : 0 ≤ r) (h1 : r < S 0) : I 2 r = dg (S 6) r := h.2.1 r h0 h1
theorem l_ch6 (h : LRn cy S I F Q P) {a c : Int} (a0 : 0 ≤ a) (a1 : a < 6) (c0 : 0 ≤ c) (c1 : c < 6) : I (4 + a.toNat) c = if a < S 0 ∧ c < S 0 then S (130 + 6 * a + c) else 50 := h.2.2.1 a c a0 a1 c0 c1
theorem l_ch (h : LRn cy S I F Q P) (hR : RI S) {a c : Int} (a0 : 0 ≤ a) (a1 : a < S 0) (c0 : 0 ≤ c) (c1 : c < S 0) : I (4 + a.toNat) c = S (130 + 6 * a + c) := by
  have := hR.n
  rw [l_ch6 h a0 (by omega) c0 (by omega), if_pos ⟨a1, c1⟩]
theorem l_tape (h : LRn cy S I F Q P) {i : Int} (h0 : 0 ≤ i) (h1 : i < S 5) : I 11 i = sby (S (10 + i)) := h.2.2.2.1 i h0 h1
theorem l_row (h : LRn cy S I F Q P) {i : Int} (h0 : 0 ≤ i) (h1 : i < S 4) : I 13 i = S (923 + i) := h.2.2.2.2.1 i h0 h1
theorem l_up (h : LRn cy S I F Q P) {k : Int} (h0 : 0 ≤ k) (h1 : k < S 3) : I 14 k = S (893 + 2 * k) := (h.2.2.2.2.2.1 k h0 h1).1
theorem l_lo (h : LRn cy S I F Q P) {k : Int} (h0 : 0 ≤ k) (h1 : k < S 3) : I 15 k = S (893 + 2 * k + 1) := (h.2.2.2.2.2.1 k h0 h1).2
theorem l_pa (h : LRn cy S I F Q P) {a c : Int} (a0 : 0 ≤ a) (a1 : a < 6) (c0 : 0 ≤ c) (c1 : c < 6) : I (17 + a.toNat) c = S (929 + 6 * a + c) := h.2.2.2.2.2.2.1 a c a0 a1 c0 c1
theorem l_ak (h : LRn cy S I F Q P) {a : Int} (a0 : 0 ≤ a) (a1 : a < S 0) (hR : RI S) : ∃ q : Nat, Q 10 a.toNat = some q ∧ AKB P q (S (166 + a)) a (S (172 + a)) := by
  have := hR.n
  obtain ⟨q, e1, e2⟩ := h.2.2.2.2.2.2.2.1 a a0 (by omega)
  rw [if_pos a1, if_pos a1] at e2
  exact ⟨q, e1, e2⟩
theorem l_clb (h : LRn cy S I F Q P) {c : Int} (c0 : 0 ≤ c) (c1 : c < S 1) : ∃ q : Nat, Q 12 c.toNat = some q ∧ CLB P cy S c q := h.2.2.2.2.2.2.2.2 c c0 c1
end LRACC
theorem dg7 (b r : Int) : 0 ≤ dg b r ∧ dg b r < 8 := by
  unfold dg
  omega
