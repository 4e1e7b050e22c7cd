/-! ===== how the tie between the class and the row is kept ===== -/
section SYM
variable {A D : Nat → Nat} {T : Nat} {cy : Nat → ClassId} {I : Nat → Int → Int} {F : Nat → Int} {Q : Nat → Nat → Option Nat} {P : va_W}
theorem CWa_ch {a : Int} (h0 : 0 ≤ a) (h1 : a < 6) {g : Int → Int} : (CW A D T cy I F Q P).set (4 + a.toNat) (A (4 + a.toNat), .inl (cy 0, 6, .inl (jf g))) = CW A D T cy (au I (4 + a.toNat) g) F Q P := by
  rcases (show a = 0 ∨ a = 1 ∨ a = 2 ∨ a = 3 ∨ a = 4 ∨ a = 5 by omega) with h | h | h | h | h | h <;> subst h
  · exact CWa_4 rfl
  · exact CWa_5 rfl
  · exact CWa_6 rfl
  · exact CWa_7 rfl
  · exact CWa_8 rfl
  · exact CWa_9 rfl
theorem CWa_pa {a : Int} (h0 : 0 ≤ a) (h1 : a < 6) {g : Int → Int} : (CW A D T cy I F Q P).set (17 + a.toNat) (A (17 + a.toNat), .inl (cy 0, 6, .inl (jf g))) = CW A D T cy (au I (17 + a.toNat) g) F Q P := by
  rcases (show a = 0 ∨ a = 1 ∨ a = 2 ∨ a = 3 ∨ a = 4 ∨ a = 5 by omega) with h | h | h | h | h | h <;> subst h
  · exact CWa_17 rfl
  · exact CWa_18 rfl
  · exact CWa_19 rfl
  · exact CWa_20 rfl
  · exact CWa_21 rfl
  · exact CWa_22 rfl
end SYM
theorem dg_top {n b : Int} (h : VB n b) {r : Int} (h1 : 0 ≤ r) (h2 : r < n + 1) : dg (b + n * 8 ^ n.toNat) r = if r = n then n else dg b r := by
  have hn := h.1
  have e8 : (8 : Int) ^ n.toNat = 2 ^ (3 * n.toNat) := (p38 _).symm
  have e : ior b (n * 8 ^ n.toNat) = b + n * 8 ^ n.toNat := by
    rw [e8]; exact ior_add h.2.1.1 (by rw [← e8]; exact h.2.1.2) hn.1
  have hnp := Int.mul_nonneg hn.1 (Int.le_of_lt (p8 n.toNat))
  have hb := h.2.1
  rw [← e, dg_or hb.1 hnp, dg_sh (by omega) hn.1 h1]
  by_cases c : r = n
  · subst c
    rw [if_pos rfl, if_pos rfl]
    have : dg b r = 0 := by unfold dg; rw [Int.ediv_eq_zero_of_lt hb.1 hb.2]; rfl
    rw [this]
    unfold ior
    rw [show (0 : Int).toNat = 0 from rfl, Nat.zero_or, Int.toNat_of_nonneg h1]
  · rw [if_neg c, if_neg c, ior_0 (dg_bd b r).1]
section KEEPS
variable {cy : Nat → ClassId} {S : Int → Int} {I : Nat → Int → Int} {F : Nat → Int} {Q : Nat → Nat → Option Nat} {P : va_W}
theorem LR_name {s : Int → Int} (h : LRn cy S I F Q P) (hR : RI S) (hx : ¬ S 0 = 6) (hs : gu (I 2) (S 0) (S 0) = s) : LRn cy (n_name S) (au I 2 s) (fu F 1 (S 0 + 1)) Q P := by
  have hn := hR.n
  have hcl := hR.cl
  have hrd := hR.rd
  have htp := hR.tp
  have hrw := hR.rw
  have eN : n_name S = fun j => if j = 0 then S 0 + 1 else if j = 6 then S 6 + S 0 * 8 ^ (S 0).toNat else if j = 166 + S 0 then 0 else if j = 172 + S 0 then 0 else if 130 ≤ j ∧ j < 166 ∧ ((j - 130) / 6 = S 0 ∨ (j - 130) % 6 = S 0) then 50 else S j := by unfold n_name; rw [if_neg hx]
  have e0 : n_name S 0 = S 0 + 1 := by rw [eN]; rfl
  have e6 : n_name S 6 = S 6 + S 0 * 8 ^ (S 0).toNat := by rw [eN]; rfl
  have out : ∀ j : Int, j ≠ 0 → j ≠ 6 → j ≠ 166 + S 0 → j ≠ 172 + S 0 → ¬ (130 ≤ j ∧ j < 166) → n_name S j = S j := fun j c1 c2 c3 c4 c5 => by
    rw [eN]
    show (if j = 0 then _ else _) = _
    rw [if_neg c1, if_neg c2, if_neg c3, if_neg c4, if_neg (fun z => c5 ⟨z.1, z.2.1⟩)]
  have mid : ∀ a c : Int, 0 ≤ a → a < 6 → 0 ≤ c → c < 6 → n_name S (130 + 6 * a + c) = if a = S 0 ∨ c = S 0 then 50 else S (130 + 6 * a + c) := fun a c a0 a1 c0 c1 => by
    rw [eN]
    show (if 130 + 6 * a + c = 0 then _ else _) = _
    rw [if_neg (by omega), if_neg (by omega), if_neg (by omega), if_neg (by omega)]
    by_cases z : a = S 0 ∨ c = S 0
    · rw [if_pos z, if_pos (by omega)]
    · rw [if_neg z, if_neg (by omega)]
  obtain ⟨h1, h2, h3, h4, h5, h6, h7, h8, h9⟩ := h
  refine ⟨⟨?_, ?_, ?_, ?_, ?_, ?_⟩, ?_, ?_, ?_, ?_, ?_, ?_, ?_, ?_⟩
  · rw [e0]; rfl
  · rw [out 2 (by omega) (by omega) (by omega) (by omega) (by omega)]; exact h1.2.1
  · rw [out 5 (by omega) (by omega) (by omega) (by omega) (by omega)]; exact h1.2.2.1
  · rw [out 1 (by omega) (by omega) (by omega) (by omega) (by omega)]; exact h1.2.2.2.1
  · rw [out 4 (by omega) (by omega) (by omega) (by omega) (by omega)]; exact h1.2.2.2.2.1
  · rw [out 3 (by omega) (by omega) (by omega) (by omega) (by omega)]; exact h1.2.2.2.2.2
  · intro r r0 r1
    rw [e0] at r1
    show (au I 2 s) 2 r = _
    rw [e6, dg_top hR.bd r0 r1, au_eq, ← hs]
    by_cases c : r = S 0
    · rw [if_pos c, c, gu_eq]
    · rw [if_neg c, gu_ne c]; exact h2 r r0 (by omega)
  · intro a c a0 a1 c0 c1
    rw [au_ne (by omega), mid a c a0 a1 c0 c1, e0, h3 a c a0 a1 c0 c1]
    by_cases z : a = S 0 ∨ c = S 0
    · rw [if_neg (by omega), if_pos z]; split <;> rfl
    · rw [if_neg z]
      by_cases y : a < S 0 ∧ c < S 0
      · rw [if_pos y, if_pos (by omega)]
      · rw [if_neg y, if_neg (by omega)]
  · intro i i0 i1
    rw [out 5 (by omega) (by omega) (by omega) (by omega) (by omega)] at i1
    rw [au_ne (by omega), out _ (by omega) (by omega) (by omega) (by omega) (by omega)]; exact h4 i i0 i1
  · intro i i0 i1
    rw [out 4 (by omega) (by omega) (by omega) (by omega) (by omega)] at i1
    rw [au_ne (by omega), out _ (by omega) (by omega) (by omega) (by omega) (by omega)]; exact h5 i i0 i1
  · intro i i0 i1
    rw [out 3 (by omega) (by omega) (by omega) (by omega) (by omega)] at i1
    rw [au_ne (by omega), au_ne (by omega), out _ (by omega) (by omega) (by omega) (by omega) (by omega), out _ (by omega) (by omega) (by omega) (by omega) (by omega)]; exact h6 i i0 i1
  · intro a c a0 a1 c0 c1
    rw [au_ne (by omega), out _ (by omega) (by omega) (by omega) (by omega) (by omega)]; exact h7 a c a0 a1 c0 c1
  · intro a a0 a1
    obtain ⟨q, g1, g2⟩ := h8 a a0 a1
    refine ⟨q, g1, ?_⟩
    rw [e0]
    by_cases c : a = S 0
    · rw [if_neg (by omega), if_neg (by omega)] at g2
      have x1 : n_name S (166 + a) = 0 := by rw [eN, c]; show (if _ then _ else _) = _; rw [if_neg (by omega), if_neg (by omega), if_pos rfl]
      have x2 : n_name S (172 + a) = 0 := by rw [eN, c]; show (if _ then _ else _) = _; rw [if_neg (by omega), if_neg (by omega), if_neg (by omega), if_pos rfl]
      rw [if_pos (by omega), if_pos (by omega), x1, x2]
      exact g2
    · by_cases c2 : a < S 0
      · rw [if_pos c2, if_pos c2] at g2
        rw [if_pos (by omega), if_pos (by omega), out _ (by omega) (by omega) (by omega) (by omega) (by omega), out _ (by omega) (by omega) (by omega) (by omega) (by omega)]
        exact g2
      · rw [if_neg c2, if_neg c2] at g2
        rw [if_neg (by omega), if_neg (by omega)]
        exact g2
  · intro c c0 c1
    rw [out 1 (by omega) (by omega) (by omega) (by omega) (by omega)] at c1
    obtain ⟨q, g1, g2⟩ := h9 c c0 c1
    exact ⟨q, g1, CLB_cong (fun j j0 j1 => out j (by omega) (by omega) (by omega) (by omega) (by omega)) (by omega) (hR.sm (188 + c) (by omega) (by omega)).2 g2⟩
theorem LR_chance {a b n : Int} (h : LRn cy S I F Q P) (hR : RI S) (ha : 0 ≤ a ∧ a < S 0) (hb : 0 ≤ b ∧ b < S 0) (hab : a ≠ b) : LRn cy (gu (gu S (130 + 6 * a + b) n) (130 + 6 * b + a) (100 - n)) (au (au I (4 + a.toNat) (gu (I (4 + a.toNat)) b n)) (4 + b.toNat) (gu (I (4 + b.toNat)) a (100 - n))) F Q P := by
  have hn := hR.n
  have hcl := hR.cl
  have hrd := hR.rd
  have htp := hR.tp
  have hrw := hR.rw
  have out : ∀ j : Int, (j < 130 ∨ 166 ≤ j) → gu (gu S (130 + 6 * a + b) n) (130 + 6 * b + a) (100 - n) j = S j := fun j c => by rw [gu_ne (by omega), gu_ne (by omega)]
  obtain ⟨h1, h2, h3, h4, h5, h6, h7, h8, h9⟩ := h
  have kp : ∀ k : Nat, (k < 4 ∨ 10 ≤ k) → au (au I (4 + a.toNat) (gu (I (4 + a.toNat)) b n)) (4 + b.toNat) (gu (I (4 + b.toNat)) a (100 - n)) k = I k := fun k c => by rw [au_ne (by omega), au_ne (by omega)]
  refine ⟨⟨?_, ?_, ?_, ?_, ?_, ?_⟩, ?_, ?_, ?_, ?_, ?_, ?_, ?_, ?_⟩
  · rw [out 0 (by omega)]; exact h1.1
  · rw [out 2 (by omega)]; exact h1.2.1
  · rw [out 5 (by omega)]; exact h1.2.2.1
  · rw [out 1 (by omega)]; exact h1.2.2.2.1
  · rw [out 4 (by omega)]; exact h1.2.2.2.2.1
  · rw [out 3 (by omega)]; exact h1.2.2.2.2.2
  · intro r r0 r1
    rw [out 0 (by omega)] at r1
    rw [kp _ (by omega), out 6 (by omega)]
    exact h2 r r0 r1
  · intro x c x0 x1 c0 c1
    rw [out 0 (by omega), show 1 + 3 + x.toNat = 4 + x.toNat by omega]
    by_cases cb : x = b
    · subst cb
      rw [au_eq]
      by_cases ca : c = a
      · subst ca
        rw [gu_eq, if_pos (by omega), gu_eq]
      · rw [gu_ne ca, gu_ne (by omega), gu_ne (by omega)]
        exact h3 x c x0 x1 c0 c1
    · rw [au_ne (by omega)]
      by_cases ca : x = a
      · subst ca
        rw [au_eq]
        by_cases cc : c = b
        · subst cc
          rw [gu_eq, if_pos (by omega), gu_ne (by omega), gu_eq]
        · rw [gu_ne cc, gu_ne (by omega), gu_ne (by omega)]
          exact h3 x c x0 x1 c0 c1
      · rw [au_ne (by omega), gu_ne (by omega), gu_ne (by omega)]
        exact h3 x c x0 x1 c0 c1
  · intro i i0 i1
    rw [out 5 (by omega)] at i1
    rw [kp _ (by omega), out _ (by omega)]; exact h4 i i0 i1
  · intro i i0 i1
    rw [out 4 (by omega)] at i1
    rw [kp _ (by omega), out _ (by omega)]; exact h5 i i0 i1
  · intro i i0 i1
    rw [out 3 (by omega)] at i1
    rw [kp _ (by omega), kp _ (by omega), out _ (by omega), out _ (by omega)]; exact h6 i i0 i1
  · intro x c x0 x1 c0 c1
    rw [kp _ (by omega), out _ (by omega)]; exact h7 x c x0 x1 c0 c1
  · intro x x0 x1
    rw [out 0 (by omega), out _ (by omega), out _ (by omega)]
    exact h8 x x0 x1
  · intro c c0 c1
    rw [out 1 (by omega)] at c1
    obtain ⟨q, g1, g2⟩ := h9 c c0 c1
    exact ⟨q, g1, CLB_cong (fun j j0 j1 => out j (by omega)) (by omega) (hR.sm (188 + c) (by omega) (by omega)).2 g2⟩
theorem LR_past {a b n : Int} (h : LRn cy S I F Q P) (hR : RI S) (ha : 0 ≤ a ∧ a < S 0) (hb : 0 ≤ b ∧ b < S 0) : LRn cy (gu S (929 + 6 * a + b) n) (au I (17 + a.toNat) (gu (I (17 + a.toNat)) b n)) F Q P := by
  have hn := hR.n
  have hcl := hR.cl
  have hrd := hR.rd
  have htp := hR.tp
  have hrw := hR.rw
  have out : ∀ j : Int, (j < 929) → gu S (929 + 6 * a + b) n j = S j := fun j c => by rw [gu_ne (by omega)]
  obtain ⟨h1, h2, h3, h4, h5, h6, h7, h8, h9⟩ := h
  have kp : ∀ k : Nat, (k < 17 ∨ 23 ≤ k) → au I (17 + a.toNat) (gu (I (17 + a.toNat)) b n) k = I k := fun k c => by rw [au_ne (by omega)]
  refine ⟨⟨?_, ?_, ?_, ?_, ?_, ?_⟩, ?_, ?_, ?_, ?_, ?_, ?_, ?_, ?_⟩
  · rw [out 0 (by omega)]; exact h1.1
  · rw [out 2 (by omega)]; exact h1.2.1
  · rw [out 5 (by omega)]; exact h1.2.2.1
  · rw [out 1 (by omega)]; exact h1.2.2.2.1
  · rw [out 4 (by omega)]; exact h1.2.2.2.2.1
  · rw [out 3 (by omega)]; exact h1.2.2.2.2.2
  · intro r r0 r1
    rw [out 0 (by omega)] at r1
    rw [kp _ (by omega), out 6 (by omega)]
    exact h2 r r0 r1
  · intro x c x0 x1 c0 c1
    rw [out 0 (by omega), kp _ (by omega), out _ (by omega)]
    exact h3 x c x0 x1 c0 c1
  · intro i i0 i1
    rw [out 5 (by omega)] at i1
    rw [kp _ (by omega), out _ (by omega)]; exact h4 i i0 i1
  · intro i i0 i1
    rw [out 4 (by omega)] at i1
    rw [kp _ (by omega), out _ (by omega)]; exact h5 i i0 i1
  · intro i i0 i1
    rw [out 3 (by omega)] at i1
    rw [kp _ (by omega), kp _ (by omega), out _ (by omega), out _ (by omega)]; exact h6 i i0 i1
  · intro x c x0 x1 c0 c1
    rw [show 1 + 16 + x.toNat = 17 + x.toNat by omega]
    by_cases ca : x = a
    · subst ca
      rw [au_eq]
      by_cases cc : c = b
      · subst cc
        rw [gu_eq, gu_eq]
      · rw [gu_ne cc, gu_ne (by omega)]
        exact h7 x c x0 x1 c0 c1
    · rw [au_ne (by omega), gu_ne (by omega)]
      exact h7 x c x0 x1 c0 c1
  · intro x x0 x1
    rw [out 0 (by omega), out _ (by omega), out _ (by omega)]
    exact h8 x x0 x1
  · intro c c0 c1
    rw [out 1 (by omega)] at c1
    obtain ⟨q, g1, g2⟩ := h9 c c0 c1
    exact ⟨q, g1, CLB_cong (fun j j0 j1 => out j (by omega)) (by omega) (hR.sm (188 + c) (by omega) (by omega)).2 g2⟩
theorem LR_asker {a k v : Int} {q : Nat} (h : LRn cy S I F Q P) (hR : RI S) (ha : 0 ≤ a ∧ a < S 0) : LRn cy (gu (gu S (166 + a) k) (172 + a) v) I F (qu Q 10 (va_up (Q 10) a.toNat (some q))) (P ++ [(q, .inr (kci k, [.int (J a), .int (J v)]))]) := by
  have hn := hR.n
  have hcl := hR.cl
  have hrd := hR.rd
  have htp := hR.tp
  have hrw := hR.rw
  have out : ∀ j : Int, (j < 166 ∨ 178 ≤ j) → gu (gu S (166 + a) k) (172 + a) v j = S j := fun j c => by rw [gu_ne (by omega), gu_ne (by omega)]
  obtain ⟨h1, h2, h3, h4, h5, h6, h7, h8, h9⟩ := h
  refine ⟨⟨?_, ?_, ?_, ?_, ?_, ?_⟩, ?_, ?_, ?_, ?_, ?_, ?_, ?_, ?_⟩
  · rw [out 0 (by omega)]; exact h1.1
  · rw [out 2 (by omega)]; exact h1.2.1
  · rw [out 5 (by omega)]; exact h1.2.2.1
  · rw [out 1 (by omega)]; exact h1.2.2.2.1
  · rw [out 4 (by omega)]; exact h1.2.2.2.2.1
  · rw [out 3 (by omega)]; exact h1.2.2.2.2.2
  · intro r r0 r1
    rw [out 0 (by omega)] at r1
    rw [out 6 (by omega)]
    exact h2 r r0 r1
  · intro x c x0 x1 c0 c1
    rw [out 0 (by omega), out _ (by omega)]
    exact h3 x c x0 x1 c0 c1
  · intro i i0 i1
    rw [out 5 (by omega)] at i1
    rw [out _ (by omega)]; exact h4 i i0 i1
  · intro i i0 i1
    rw [out 4 (by omega)] at i1
    rw [out _ (by omega)]; exact h5 i i0 i1
  · intro i i0 i1
    rw [out 3 (by omega)] at i1
    rw [out _ (by omega), out _ (by omega)]; exact h6 i i0 i1
  · intro x c x0 x1 c0 c1
    rw [out _ (by omega)]
    exact h7 x c x0 x1 c0 c1
  · intro x x0 x1
    show ∃ q2 : Nat, (qu Q 10 (va_up (Q 10) a.toNat (some q))) 10 x.toNat = some q2 ∧ _
    rw [show (qu Q 10 (va_up (Q 10) a.toNat (some q))) 10 = va_up (Q 10) a.toNat (some q) from if_pos rfl, out 0 (by omega)]
    by_cases c : x = a
    · subst c
      refine ⟨q, va_up_self _ _ _, ?_⟩
      rw [if_pos ha.2, if_pos ha.2, gu_ne (by omega), gu_eq, gu_eq]
      exact ⟨P.length, by rw [List.getElem?_append_right (Nat.le_refl _), Nat.sub_self]; rfl⟩
    · obtain ⟨q2, g1, g2⟩ := h8 x x0 x1
      refine ⟨q2, (va_up_ne _ _ (by omega)).trans g1, ?_⟩
      rw [gu_ne (by omega), gu_ne (by omega), gu_ne (by omega), gu_ne (by omega)]
      exact AKB_app g2
  · intro c c0 c1
    rw [out 1 (by omega)] at c1
    obtain ⟨q2, g1, g2⟩ := h9 c c0 c1
    exact ⟨q2, g1, CLB_app (CLB_cong (fun j j0 j1 => out j (by omega)) (by omega) (hR.sm (188 + c) (by omega) (by omega)).2 g2)⟩
theorem LR_feed {w n : Int} {s : Int → Int} (h : LRn cy S I F Q P) (hR : RI S) (hn : 1 ≤ n ∧ n ≤ 8) (hx : S 5 + n ≤ 120) (hs : ∀ i : Int, 0 ≤ i → i < S 5 + n → s i = sby (n_feed S w n (10 + i))) : LRn cy (n_feed S w n) (au I 11 s) (fu F 3 (S 5 + n)) Q P := by
  have htp := hR.tp
  have eN : n_feed S w n = fun j => if j = 5 then S 5 + n else if 10 + S 5 ≤ j ∧ j < 10 + S 5 + n then w / 2 ^ (8 * (n - 1 - (j - 10 - S 5))).toNat % 256 else S j := by unfold n_feed; rw [if_pos ⟨hn, hx⟩]
  have out : ∀ j : Int, j ≠ 5 → (j < 10 ∨ 130 ≤ j) → n_feed S w n j = S j := fun j c1 c2 => by
    rw [eN]
    show (if j = 5 then _ else _) = _
    rw [if_neg c1, if_neg (by omega)]
  have e5 : n_feed S w n 5 = S 5 + n := by rw [eN]; rfl
  refine LRn_mk h hR (out _ (by omega) (by omega)) (out _ (by omega) (by omega)) (fun j a b => out j (by omega) (by omega)) (fun j a => out j (by omega) (by omega)) ?_ ?_ ?_ ?_ ?_ ?_ ?_ (fun k a b => au_ne (by omega)) ?_ ?_ ?_ (fun k a b => au_ne (by omega))
  · rw [out _ (by omega) (by omega)]; exact (show F 1 = S 0 from l_n h)
  · rw [out _ (by omega) (by omega)]; exact (show F 2 = S 2 from l_td h)
  · rw [e5]; rfl
  · rw [out _ (by omega) (by omega)]; exact (show F 4 = S 1 from l_cl h)
  · rw [out _ (by omega) (by omega)]; exact (show F 5 = S 4 from l_rw h)
  · rw [out _ (by omega) (by omega)]; exact (show F 6 = S 3 from l_rd h)
  · rw [out _ (by omega) (by omega), out _ (by omega) (by omega)]; exact fun r a b => l_bd h a b
  · intro i a b
    rw [e5] at b
    exact hs i a b
  · intro i a b
    rw [out _ (by omega) (by omega)] at b
    rw [out _ (by omega) (by omega)]; exact l_row h a b
  · intro k a b
    rw [out _ (by omega) (by omega)] at b
    rw [out _ (by omega) (by omega), out _ (by omega) (by omega)]; exact ⟨l_up h a b, l_lo h a b⟩
end KEEPS
/-- all of a Ladder, from one to the other -/
theorem LR_copy {b f b2 f2 : Nat} {cy : Nat → ClassId} {S : Int → Int} {I I2 : Nat → Int → Int} {F F2 : Nat → Int} {Q Q2 : Nat → Nat → Option Nat} {P : va_W} (h : LRb b f cy S I F Q P) (hR : RI S) (hF : ∀ k : Nat, k < 6 → F2 (f2 + k) = F (f + k)) (h1 : ∀ r : Int, 0 ≤ r → r < 6 → I2 (b2 + 1) r = I (b + 1) r) (h3 : ∀ a : Nat, a < 6 → ∀ r : Int, 0 ≤ r → r < 6 → I2 (b2 + 3 + a) r = I (b + 3 + a) r) (h10 : ∀ r : Int, 0 ≤ r → r < 120 → I2 (b2 + 10) r = I (b + 10) r) (h12 : ∀ r : Int, 0 ≤ r → r < 6 → I2 (b2 + 12) r = I (b + 12) r) (h13 : ∀ r : Int, 0 ≤ r → r < 15 → I2 (b2 + 13) r = I (b + 13) r ∧ I2 (b2 + 14) r = I (b + 14) r) (h16 : ∀ a : Nat, a < 6 → ∀ r : Int, 0 ≤ r → r < 6 → I2 (b2 + 16 + a) r = I (b + 16 + a) r) (hq9 : ∀ a : Nat, a < 6 → Q2 (b2 + 9) a = Q (b + 9) a) (hq11 : ∀ a : Nat, a < 5 → Q2 (b2 + 11) a = Q (b + 11) a) : LRb b2 f2 cy S I2 F2 Q2 P := by
  have hn := hR.n
  have hcl := hR.cl
  have hrd := hR.rd
  have htp := hR.tp
  have hrw := hR.rw
  obtain ⟨g1, g2, g3, g4, g5, g6, g7, g8, g9⟩ := h
  refine ⟨⟨(hF 0 (by omega)).trans g1.1, (hF 1 (by omega)).trans g1.2.1, (hF 2 (by omega)).trans g1.2.2.1, (hF 3 (by omega)).trans g1.2.2.2.1, (hF 4 (by omega)).trans g1.2.2.2.2.1, (hF 5 (by omega)).trans g1.2.2.2.2.2⟩, fun r r0 r1 => ?_, fun a c a0 a1 c0 c1 => ?_, fun i i0 i1 => ?_, fun i i0 i1 => ?_, fun k k0 k1 => ?_, fun a c a0 a1 c0 c1 => ?_, fun a a0 a1 => ?_, fun c c0 c1 => ?_⟩
  · rw [h1 r r0 (by omega)]; exact g2 r r0 r1
  · rw [h3 _ (by omega) c c0 c1]; exact g3 a c a0 a1 c0 c1
  · rw [h10 i i0 (by omega)]; exact g4 i i0 i1
  · rw [h12 i i0 (by omega)]; exact g5 i i0 i1
  · rw [(h13 k k0 (by omega)).1, (h13 k k0 (by omega)).2]; exact g6 k k0 k1
  · rw [h16 _ (by omega) c c0 c1]; exact g7 a c a0 a1 c0 c1
  · rw [hq9 _ (by omega)]; exact g8 a a0 a1
  · rw [hq11 _ (by omega)]; exact g9 c c0 c1
/-! ===== an object, or none, goes into an array ===== -/
theorem w_aastO {K : KT} {G : GT} {cc : ByteArray} {own : String} {d mc ms cs ss pc : Nat} {w : va_W} {lv : List (Nat × Value)} {st : List Value} (hC : KOK K G cc own d mc ms) {a n t0 : Nat} {E : String} {f : Nat → Option Nat} {cA : ClassId} {e : Int} {o : Option Nat} {w2 : va_W} (hd : decode cc pc = .ok (.aastore, 1)) (q0 : Nat) (he : w[q0]? = some (a, .inl (cA, n, .inr (.inr (.inr (.inr f)))))) (ht : (TY G.2.1)[t0]? = some (cA, .object E)) (ho : ∀ v : Nat, o = some v → ∃ (qk ci : Nat) (vs : List Value) (r : vw_C), w[qk]? = some (v, .inr (ci, vs)) ∧ vwCl[ci]? = some r ∧ (r.1 = E ∨ (r.1, E) ∈ nCs)) (hr : 0 ≤ e ∧ e < (n : Int)) (hn : n ≤ 2000000) (hw : w.set q0 (a, .inl (cA, n, .inr (.inr (.inr (.inr (va_up f e.toNat o)))))) = w2) (k : WW K G cs ss w2 (pc + 1) lv st) : WW K G cs ss w pc lv (va_rf o :: .int (J e) :: .ref a :: st) := by
  cases o with
  | none =>
    intro H locs ls hP hD hS hl
    have hcl := J_clamp hr.1 (show e < 2147483648 by omega)
    refine va_astqN hC.1 hC.2.1 hC.2.2.2.2.2.1 hP hD hS q0 t0 he ht (J_vp hr.1 hr.2 hn) hd (fun H1 locs1 hP1 hD1 hS1 => ?_)
    rw [hcl] at hP1 hD1
    exact k H1 locs1 ls (by rw [← hw]; exact hP1) (by rw [← hw]; exact hD1) hS1 hl
  | some v =>
    obtain ⟨qk, ci, vs, r, g1, g2, g3⟩ := ho v rfl
    rcases g3 with g3 | g3
    · subst g3
      exact w_aastE hC hd q0 he ht g1 g2 hr hn hw k
    · exact w_aastS hC hd q0 he ht g1 g2 g3 hr hn hw k
theorem kCn_nCs {k : Int} (h : 0 ≤ k ∧ k ≤ 6) : vwCl[kci k]? = some (kCn k, kTn k, 2) ∧ (kCn k = RX0 ∨ (kCn k, RX0) ∈ nCs) := by
  rcases k7 h with e | e | e | e | e | e | e <;> subst e
  · exact ⟨rfl, Or.inl rfl⟩
  · exact ⟨rfl, Or.inr (List.mem_of_getElem? (i := 3) rfl)⟩
  · exact ⟨rfl, Or.inr (List.mem_of_getElem? (i := 2) rfl)⟩
  · exact ⟨rfl, Or.inr (List.mem_of_getElem? (i := 6) rfl)⟩
  · exact ⟨rfl, Or.inr (List.mem_of_getElem? (i := 0) rfl)⟩
  · exact ⟨rfl, Or.inr (List.mem_of_getElem? (i := 8) rfl)⟩
  · exact ⟨rfl, Or.inr (List.mem_of_getElem? (i := 4) rfl)⟩
