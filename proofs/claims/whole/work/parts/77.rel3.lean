/-! ===== both worlds beside each other ===== -/
theorem VLIK_uniq {S : Int → Int} {c n r x y : Int} (hx : VLIK S c n r x) (hy : VLIK S c n r y) : x = y := by
  unfold VLIK at hx hy
  by_cases h1 : ¬ (0 ≤ c ∧ c < S 1) ∨ ¬ (0 ≤ r ∧ r < S 0)
  · rw [if_pos h1] at hx hy
    rw [hx, hy]
  · rw [if_neg h1] at hx hy
    by_cases h2 : ¬ (0 ≤ n ∧ n ≤ 6)
    · rw [if_pos h2] at hx hy
      rw [hx, hy]
    · rw [if_neg h2] at hx hy
      obtain ⟨a, ha, ea⟩ := hx
      obtain ⟨b, hb, eb⟩ := hy
      rw [ea, eb, LIK_uniq ha hb]
theorem VSTK_uniq {S : Int → Int} {c w x y : Int} (hx : VSTK S c w x) (hy : VSTK S c w y) : x = y := by
  unfold VSTK at hx hy
  by_cases h1 : ¬ (0 ≤ c ∧ c < S 1) ∨ ¬ (0 ≤ w ∧ w ≤ 1)
  · rw [if_pos h1] at hx hy
    rw [hx, hy]
  · rw [if_neg h1] at hx hy
    refine bt_ext hx.1 hy.1 (fun z hz => ?_)
    have g1 := hx.2
    have g2 := hy.2
    by_cases h2 : w = 0
    · rw [if_pos h2] at g1 g2
      exact (g1 z hz).trans (g2 z hz).symm
    · rw [if_neg h2] at g1 g2
      exact (g1 z hz).trans (g2 z hz).symm
theorem VJUD_uniq {S : Int → Int} {c d x y : Int} (hx : VJUD S c d x) (hy : VJUD S c d y) : x = y := by
  unfold VJUD at hx hy
  by_cases h1 : ¬ (0 ≤ c ∧ c < S 1)
  · rw [if_pos h1] at hx hy
    rw [hx, hy]
  rw [if_neg h1] at hx hy
  by_cases h2 : ¬ (0 ≤ d ∧ d ≤ 999)
  · rw [if_pos h2] at hx hy
    rw [hx, hy]
  rw [if_neg h2] at hx hy
  by_cases h3 : ¬ S 4 = S 0
  · rw [if_pos h3] at hx hy
    rw [hx, hy]
  rw [if_neg h3] at hx hy
  rcases hx with hx | hx
  · rcases hy with hy | hy
    · rw [hx.1, hy.1]
    · exact absurd (hx.2 y hy.1.1 hy.1.2) hy.2.1
  · rcases hy with hy | hy
    · exact absurd (hy.2 x hx.1.1 hx.1.2) hx.2.1
    · rcases Int.lt_trichotomy x y with e | e | e
      · exact absurd (hy.2.2 x hx.1.1 e) hx.2.1
      · exact e
      · exact absurd (hx.2.2 y hy.1.1 e) hy.2.1
theorem RI_cong {S T : Int → Int} (h : RI S) (e : ∀ j : Int, 0 ≤ j → j < 965 → T j = S j) (hi : ∀ j : Int, -2147483648 ≤ T j ∧ T j < 2147483648) : RI T := by
  have hrd := h.rd
  obtain ⟨a0, a1, a2, a3, a4, a5, a6, a7, a8, a9, a10, a11, a12, a13, a14, a15, a16, a17, a18⟩ := id h
  refine RI_of h ?_ ?_ ?_ ?_ ?_ ?_ ?_ ?_ ?_ ?_ ?_ ?_ ?_ ?_ ?_ hi
  · rw [e 0 (by omega) (by omega)]; exact a0
  · exact e 1 (by omega) (by omega)
  · rw [e 2 (by omega) (by omega)]; exact a2
  · rw [e 3 (by omega) (by omega)]; exact a3
  · rw [e 4 (by omega) (by omega)]; exact a4
  · rw [e 5 (by omega) (by omega)]; exact a5
  · rw [e 0 (by omega) (by omega), e 6 (by omega) (by omega)]; exact a6
  · intro j j0 j1; rw [e j (by omega) (by omega)]; exact a7 j j0 j1
  · intro j j0 j1; rw [e j (by omega) (by omega)]; exact a8 j j0 j1
  · intro j j0 j1; rw [e j (by omega) (by omega)]; exact a9 j j0 j1
  · intro j j0 j1; rw [e j (by omega) (by omega)]; exact a10 j j0 j1
  · intro j j0 j1; exact e j (by omega) (by omega)
  · intro k k0 k1
    rw [e 3 (by omega) (by omega)] at k1
    rw [e (893 + 2 * k) (by omega) (by omega), e (893 + 2 * k + 1) (by omega) (by omega)]
    exact a15 k k0 k1
  · intro j j0 j1; rw [e j (by omega) (by omega)]; exact a16 j j0 j1
  · intro j j0 j1; rw [e j (by omega) (by omega)]; exact a17 j j0 j1
section CRS
variable {cy : Nat → ClassId} {I J2 : Nat → Int → Int} {F F1 : Nat → Int} {Q Q1 : Nat → Nat → Option Nat} {P P1 : va_W} {I2 : Nat → Int → Int} {F2 : Nat → Int}
theorem LRb_cong {b f : Nat} {S T : Int → Int} (hR : RI S) (e : ∀ j : Int, 0 ≤ j → j < 965 → T j = S j) (h : LRb b f cy S I F Q P) : LRb b f cy T I F Q P := by
  have hn := hR.n
  have hrd := hR.rd
  have hrw := hR.rw
  have htp := hR.tp
  have hcl := hR.cl
  obtain ⟨h1, h2, h3, h4, h5, h6, h7, h8, h9⟩ := h
  refine ⟨?_, ?_, ?_, ?_, ?_, ?_, ?_, ?_, ?_⟩
  · rw [e 0 (by omega) (by omega), e 2 (by omega) (by omega), e 5 (by omega) (by omega), e 1 (by omega) (by omega), e 4 (by omega) (by omega), e 3 (by omega) (by omega)]
    exact h1
  · intro r r0 r1
    rw [e 0 (by omega) (by omega)] at r1
    rw [e 6 (by omega) (by omega)]
    exact h2 r r0 r1
  · intro a c a0 a1 c0 c1
    rw [e 0 (by omega) (by omega), e (130 + 6 * a + c) (by omega) (by omega)]
    exact h3 a c a0 a1 c0 c1
  · intro i i0 i1
    rw [e 5 (by omega) (by omega)] at i1
    rw [e (10 + i) (by omega) (by omega)]
    exact h4 i i0 i1
  · intro i i0 i1
    rw [e 4 (by omega) (by omega)] at i1
    rw [e (923 + i) (by omega) (by omega)]
    exact h5 i i0 i1
  · intro k k0 k1
    rw [e 3 (by omega) (by omega)] at k1
    rw [e (893 + 2 * k) (by omega) (by omega), e (893 + 2 * k + 1) (by omega) (by omega)]
    exact h6 k k0 k1
  · intro a c a0 a1 c0 c1
    rw [e (929 + 6 * a + c) (by omega) (by omega)]
    exact h7 a c a0 a1 c0 c1
  · intro a a0 a1
    rw [e 0 (by omega) (by omega), e (166 + a) (by omega) (by omega), e (172 + a) (by omega) (by omega)]
    exact h8 a a0 a1
  · intro c c0 c1
    rw [e 1 (by omega) (by omega)] at c1
    obtain ⟨q, g1, g2⟩ := h9 c c0 c1
    have hsm := hR.sm (188 + c) (by omega) (by omega)
    exact ⟨q, g1, CLB_ext (e _ (by omega) (by omega)) (e _ (by omega) (by omega)) (e _ (by omega) (by omega)) (fun k k0 k1 => e _ (by omega) (by omega)) g2⟩
theorem LRb_I {b f : Nat} {S : Int → Int} (e : ∀ k : Nat, b < k → k < b + 22 → J2 k = I k) (h : LRb b f cy S I F Q P) : LRb b f cy S J2 F Q P := by
  obtain ⟨h1, h2, h3, h4, h5, h6, h7, h8, h9⟩ := h
  refine ⟨h1, ?_, ?_, ?_, ?_, ?_, ?_, h8, h9⟩
  · rw [e (b + 1) (by omega) (by omega)]; exact h2
  · intro a c a0 a1 c0 c1
    rw [e (b + 3 + a.toNat) (by omega) (by omega)]
    exact h3 a c a0 a1 c0 c1
  · rw [e (b + 10) (by omega) (by omega)]; exact h4
  · rw [e (b + 12) (by omega) (by omega)]; exact h5
  · rw [e (b + 13) (by omega) (by omega), e (b + 14) (by omega) (by omega)]; exact h6
  · intro a c a0 a1 c0 c1
    rw [e (b + 16 + a.toNat) (by omega) (by omega)]
    exact h7 a c a0 a1 c0 c1
def BY (I : Nat → Int → Int) (k : Nat) : Prop := ∀ j : Int, 0 ≤ j → j < 120 → -128 ≤ I k j ∧ I k j ≤ 127
def QNN (Q : Nat → Nat → Option Nat) (k : Nat) (n : Int) : Prop := ∀ c : Nat, c < 5 → n ≤ (c : Int) → Q k c = none
def CIm (cy : Nat → ClassId) (I : Nat → Int → Int) (F : Nat → Int) (Q : Nat → Nat → Option Nat) (P : va_W) (I2 : Nat → Int → Int) (F2 : Nat → Int) : Prop := ∃ S2 : Int → Int, RI S2 ∧ LRb 24 11 cy S2 I F Q P ∧ BY I 34 ∧ QNN Q 35 (S2 1) ∧ ((F2 3 = 0 ∧ F 0 = 0) ∨ (F2 3 = 1 ∧ F 0 = 1 ∧ ∀ j : Int, 0 ≤ j → j < 965 → I2 2 j = S2 j))
/-- the class's world holds what the reference's holds -/
def CR (cy : Nat → ClassId) (I : Nat → Int → Int) (F : Nat → Int) (Q : Nat → Nat → Option Nat) (P : va_W) (I2 : Nat → Int → Int) (F2 : Nat → Int) : Prop := RI (I2 1) ∧ LRn cy (I2 1) I F Q P ∧ F2 11 = -1 ∧ CIm cy I F Q P I2 F2 ∧ (BDY (I 55) (I2 9) (F2 24) ∧ 0 ≤ F2 24 ∧ F2 24 ≤ 100) ∧ BY I 11 ∧ QNN Q 12 (I2 1 1)
theorem CR_au {k : Nat} {g : Int → Int} (hk : k = 23 ∨ k = 48 ∨ (50 ≤ k ∧ k ≠ 55)) (h : CR cy I F Q P I2 F2) : CR cy (au I k g) F Q P I2 F2 := by
  obtain ⟨h1, h2, h3, ⟨S2, g1, g2, g3, g4, g5⟩, h5, h6, h7⟩ := h
  refine ⟨h1, LRb_au (by omega) h2, h3, ⟨S2, g1, LRb_au (by omega) g2, ?_, g4, g5⟩, ?_, ?_, h7⟩
  · unfold BY
    rw [au_ne (by omega)]; exact g3
  · rw [au_ne (by omega)]; exact h5
  · unfold BY
    rw [au_ne (by omega)]; exact h6
theorem CR_fu {k : Nat} {v : Int} (hk : 20 ≤ k) (h : CR cy I F Q P I2 F2) : CR cy I (fu F k v) Q P I2 F2 := by
  obtain ⟨h1, h2, h3, ⟨S2, g1, g2, g3, g4, g5⟩, h5, h6, h7⟩ := h
  refine ⟨h1, LRb_fu (by omega) h2, h3, ⟨S2, g1, LRb_fu (by omega) g2, g3, g4, ?_⟩, h5, h6, h7⟩
  rw [fu_ne (by omega)]; exact g5
theorem CR_au2 {k : Nat} {g : Int → Int} (hk : k ≠ 1 ∧ k ≠ 2 ∧ k ≠ 9) (h : CR cy I F Q P I2 F2) : CR cy I F Q P (au I2 k g) F2 := by
  obtain ⟨h1, h2, h3, ⟨S2, g1, g2, g3, g4, g5⟩, h5, h6, h7⟩ := h
  refine ⟨?_, ?_, h3, ⟨S2, g1, g2, g3, g4, ?_⟩, ?_, h6, ?_⟩
  · rw [au_ne (by omega)]; exact h1
  · rw [au_ne (by omega)]; exact h2
  · rw [au_ne (by omega)]; exact g5
  · rw [au_ne (by omega)]; exact h5
  · rw [au_ne (by omega)]; exact h7
theorem CR_fu2 {k : Nat} {v : Int} (hk : k ≠ 3 ∧ k ≠ 11 ∧ k ≠ 24) (h : CR cy I F Q P I2 F2) : CR cy I F Q P I2 (fu F2 k v) := by
  obtain ⟨h1, h2, h3, ⟨S2, g1, g2, g3, g4, g5⟩, h5, h6, h7⟩ := h
  refine ⟨h1, h2, ?_, ⟨S2, g1, g2, g3, g4, ?_⟩, ?_, h6, h7⟩
  · rw [fu_ne (by omega)]; exact h3
  · rw [fu_ne (by omega)]; exact g5
  · rw [fu_ne (by omega)]; exact h5
/-- the row has become T -/
theorem CR_st {T : Int → Int} (h : CR cy I F Q P I2 F2) (hR : RI T) (hL : LRn cy T J2 F1 Q1 P1) (hLb : ∀ S2 : Int → Int, LRb 24 11 cy S2 I F Q P → LRb 24 11 cy S2 J2 F1 Q1 P1) (h34 : J2 34 = I 34) (h55 : J2 55 = I 55) (hF : F1 0 = F 0) (hQ : Q1 35 = Q 35) (hB : BY J2 11) (hN : QNN Q1 12 (T 1)) : CR cy J2 F1 Q1 P1 (au I2 1 T) F2 := by
  obtain ⟨h1, h2, h3, ⟨S2, g1, g2, g3, g4, g5⟩, h5, h6, h7⟩ := h
  refine ⟨hR, hL, h3, ⟨S2, g1, hLb S2 g2, ?_, ?_, ?_⟩, ?_, hB, hN⟩
  · unfold BY
    rw [h34]; exact g3
  · unfold QNN
    rw [hQ]; exact g4
  · rw [hF]; exact g5
  · rw [h55]; exact h5
end CRS
/-- x is an object of the class, m one of the reference, and what they hold is the same -/
def CRel (cy : Nat → ClassId) (x m : Nat) (w : va_W) : Prop := ∃ (A D : Nat → Nat) (T : Nat) (I : Nat → Int → Int) (F : Nat → Int) (Q : Nat → Nat → Option Nat) (P : va_W) (A2 : Nat → Nat) (I2 : Nat → Int → Int) (F2 : Nat → Int), A 0 = x ∧ A2 0 = m ∧ w = CW A D T cy I F Q P ++ MW A2 cy I2 F2 ∧ CR cy I F Q P I2 F2
def HasC (w : va_W) (ci a : Nat) : Prop := ∃ (q : Nat) (fs : List Value), w[q]? = some (a, .inr (ci, fs))
section LWC
variable {A D : Nat → Nat} {T : Nat} {cy : Nat → ClassId} {I : Nat → Int → Int} {F : Nat → Int} {Q : Nat → Nat → Option Nat} {P : va_W} {A2 : Nat → Nat} {I2 : Nat → Int → Int} {F2 : Nat → Int}
theorem CW_len : (CW A D T cy I F Q P).length = 60 + P.length := by
  unfold CW CWE
  rw [List.length_append, List.length_map, List.length_range]
theorem has_x : HasC (CW A D T cy I F Q P ++ MW A2 cy I2 F2) 11 (A 0) := ⟨0, _, by rw [List.getElem?_append_left (by rw [CW_len]; omega)]; exact CW_0⟩
theorem has_m : HasC (CW A D T cy I F Q P ++ MW A2 cy I2 F2) 12 (A2 0) := ⟨60 + P.length, _, by rw [List.getElem?_append_right (by rw [CW_len]; exact Nat.le_refl _), CW_len, Nat.sub_self]; rfl⟩
end LWC
theorem CRel.hx {cy : Nat → ClassId} {x m : Nat} {w : va_W} (h : CRel cy x m w) : HasC w 11 x := by
  obtain ⟨A, D, T, I, F, Q, P, A2, I2, F2, e1, e2, e3, -⟩ := h
  rw [← e1, e3]
  exact has_x
