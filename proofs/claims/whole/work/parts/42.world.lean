/-! ===== the class's world: sixty cells that stand, behind them cells that are only added to ===== -/
theorem au_eq {I : Nat → Int → Int} {k : Nat} {g : Int → Int} : au I k g k = g := if_pos rfl
theorem au_ne {I : Nat → Int → Int} {k j : Nat} {g : Int → Int} (h : j ≠ k) : au I k g j = I j := if_neg h
def qu (Q : Nat → Nat → Option Nat) (k : Nat) (g : Nat → Option Nat) : Nat → Nat → Option Nat := fun j => if j = k then g else Q j
def rw6 (A : Nat → Nat) (b : Nat) : Nat → Option Nat := fun j => if j < 6 then some (A (b + j)) else none
theorem au_id {X : Nat → Int → Int} {k : Nat} {v : Int → Int} (e : X k = v) : X = au X k v := by
  funext j
  unfold au
  by_cases h : j = k
  · rw [if_pos h, h, e]
  · rw [if_neg h]
theorem au_rp {X : Nat → Int → Int} {k : Nat} {s g : Int → Int} : au (au X k s) k g = au X k g := by
  funext j
  unfold au
  by_cases h : j = k
  · rw [if_pos h, if_pos h]
  · rw [if_neg h, if_neg h, if_neg h]
theorem au_cm {X Y : Nat → Int → Int} {k j : Nat} {s g : Int → Int} (h : j ≠ k) (e : au X k g = Y) : au (au X j s) k g = au Y j s := by
  subst e
  funext i
  unfold au
  by_cases h1 : i = k
  · rw [if_pos h1, if_neg (fun h2 => h (h2.symm.trans h1)), if_pos h1]
  · rw [if_neg h1, if_neg h1]
theorem au_th {W Y Z : Nat → Int → Int} {j : Nat} {g : Int → Int} (e1 : W = Y) (e2 : au Y j g = Z) : au W j g = Z := by rw [e1, e2]
theorem au_ms {X Z Y : Nat → Int → Int} {k : Nat} {v : Int → Int} (e : X k = v) (h : au X k v = Z) (r : Z = Y) : X = Y := (au_id e).trans (h.trans r)
theorem fu_ne {X : Nat → Int} {k j : Nat} {g : Int} (h : j ≠ k) : fu X k g j = X j := if_neg h
theorem fu_id {X : Nat → Int} {k : Nat} {v : Int} (e : X k = v) : X = fu X k v := by
  funext j
  unfold fu
  by_cases h : j = k
  · rw [if_pos h, h, e]
  · rw [if_neg h]
theorem fu_rp {X : Nat → Int} {k : Nat} {s g : Int} : fu (fu X k s) k g = fu X k g := by
  funext j
  unfold fu
  by_cases h : j = k
  · rw [if_pos h, if_pos h]
  · rw [if_neg h, if_neg h, if_neg h]
theorem fu_cm {X Y : Nat → Int} {k j : Nat} {s g : Int} (h : j ≠ k) (e : fu X k g = Y) : fu (fu X j s) k g = fu Y j s := by
  subst e
  funext i
  unfold fu
  by_cases h1 : i = k
  · rw [if_pos h1, if_neg (fun h2 => h (h2.symm.trans h1)), if_pos h1]
  · rw [if_neg h1, if_neg h1]
theorem fu_th {W Y Z : Nat → Int} {j : Nat} {g : Int} (e1 : W = Y) (e2 : fu Y j g = Z) : fu W j g = Z := by rw [e1, e2]
theorem fu_ms {X Z Y : Nat → Int} {k : Nat} {v : Int} (e : X k = v) (h : fu X k v = Z) (r : Z = Y) : X = Y := (fu_id e).trans (h.trans r)
theorem qu_ne {X : Nat → Nat → Option Nat} {k j : Nat} {g : Nat → Option Nat} (h : j ≠ k) : qu X k g j = X j := if_neg h
theorem qu_id {X : Nat → Nat → Option Nat} {k : Nat} {v : Nat → Option Nat} (e : X k = v) : X = qu X k v := by
  funext j
  unfold qu
  by_cases h : j = k
  · rw [if_pos h, h, e]
  · rw [if_neg h]
theorem qu_rp {X : Nat → Nat → Option Nat} {k : Nat} {s g : Nat → Option Nat} : qu (qu X k s) k g = qu X k g := by
  funext j
  unfold qu
  by_cases h : j = k
  · rw [if_pos h, if_pos h]
  · rw [if_neg h, if_neg h, if_neg h]
theorem qu_cm {X Y : Nat → Nat → Option Nat} {k j : Nat} {s g : Nat → Option Nat} (h : j ≠ k) (e : qu X k g = Y) : qu (qu X j s) k g = qu Y j s := by
  subst e
  funext i
  unfold qu
  by_cases h1 : i = k
  · rw [if_pos h1, if_neg (fun h2 => h (h2.symm.trans h1)), if_pos h1]
  · rw [if_neg h1, if_neg h1]
theorem qu_th {W Y Z : Nat → Nat → Option Nat} {j : Nat} {g : Nat → Option Nat} (e1 : W = Y) (e2 : qu Y j g = Z) : qu W j g = Z := by rw [e1, e2]
theorem qu_ms {X Z Y : Nat → Nat → Option Nat} {k : Nat} {v : Nat → Option Nat} (e : X k = v) (h : qu X k v = Z) (r : Z = Y) : X = Y := (qu_id e).trans (h.trans r)
def cwC (A D : Nat → Nat) (e0 e1 e2 e3 T : Nat) (cy : Nat → ClassId) (I : Nat → Int → Int) (F : Nat → Int) (Q : Nat → Nat → Option Nat) (k : Nat) : Nat × va_E := match k with
  | 0 => (A 0, .inr (11, [.ref (A 1), .ref (A 24), .int (J (F 0)), .ref (A 55), .ref (A 47), .ref (A 49), .ref (A 56), .ref (A 57), .ref (A 58), .ref (A 59)]))
  | 1 => (A 1, .inr (6, [.int (J (F 1)), .ref (A 2), .ref (A 3), .int (J (F 2)), .ref (A 10), .ref (A 11), .int (J (F 3)), .ref (A 12), .int (J (F 4)), .ref (A 13), .int (J (F 5)), .ref (A 14), .ref (A 15), .int (J (F 6)), .ref (A 16), .ref (A 23)]))
  | 2 => (A 2, .inl (cy 0, 6, .inl (jf (I 2))))
  | 3 => (A 3, .inl (cy 6, 6, .inr (.inr (.inr (.inr (rw6 A 4))))))
  | 4 => (A 4, .inl (cy 0, 6, .inl (jf (I 4))))
  | 5 => (A 5, .inl (cy 0, 6, .inl (jf (I 5))))
  | 6 => (A 6, .inl (cy 0, 6, .inl (jf (I 6))))
  | 7 => (A 7, .inl (cy 0, 6, .inl (jf (I 7))))
  | 8 => (A 8, .inl (cy 0, 6, .inl (jf (I 8))))
  | 9 => (A 9, .inl (cy 0, 6, .inl (jf (I 9))))
  | 10 => (A 10, .inl (cy 4, 6, .inr (.inr (.inr (.inr (Q 10))))))
  | 11 => (A 11, .inl (cy 3, 120, .inl (jf (I 11))))
  | 12 => (A 12, .inl (cy 5, 5, .inr (.inr (.inr (.inr (Q 12))))))
  | 13 => (A 13, .inl (cy 0, 6, .inl (jf (I 13))))
  | 14 => (A 14, .inl (cy 0, 15, .inl (jf (I 14))))
  | 15 => (A 15, .inl (cy 0, 15, .inl (jf (I 15))))
  | 16 => (A 16, .inl (cy 6, 6, .inr (.inr (.inr (.inr (rw6 A 17))))))
  | 17 => (A 17, .inl (cy 0, 6, .inl (jf (I 17))))
  | 18 => (A 18, .inl (cy 0, 6, .inl (jf (I 18))))
  | 19 => (A 19, .inl (cy 0, 6, .inl (jf (I 19))))
  | 20 => (A 20, .inl (cy 0, 6, .inl (jf (I 20))))
  | 21 => (A 21, .inl (cy 0, 6, .inl (jf (I 21))))
  | 22 => (A 22, .inl (cy 0, 6, .inl (jf (I 22))))
  | 23 => (A 23, .inl (cy 0, 6, .inl (jf (I 23))))
  | 24 => (A 24, .inr (6, [.int (J (F 11)), .ref (A 25), .ref (A 26), .int (J (F 12)), .ref (A 33), .ref (A 34), .int (J (F 13)), .ref (A 35), .int (J (F 14)), .ref (A 36), .int (J (F 15)), .ref (A 37), .ref (A 38), .int (J (F 16)), .ref (A 39), .ref (A 46)]))
  | 25 => (A 25, .inl (cy 0, 6, .inl (jf (I 25))))
  | 26 => (A 26, .inl (cy 6, 6, .inr (.inr (.inr (.inr (rw6 A 27))))))
  | 27 => (A 27, .inl (cy 0, 6, .inl (jf (I 27))))
  | 28 => (A 28, .inl (cy 0, 6, .inl (jf (I 28))))
  | 29 => (A 29, .inl (cy 0, 6, .inl (jf (I 29))))
  | 30 => (A 30, .inl (cy 0, 6, .inl (jf (I 30))))
  | 31 => (A 31, .inl (cy 0, 6, .inl (jf (I 31))))
  | 32 => (A 32, .inl (cy 0, 6, .inl (jf (I 32))))
  | 33 => (A 33, .inl (cy 4, 6, .inr (.inr (.inr (.inr (Q 33))))))
  | 34 => (A 34, .inl (cy 3, 120, .inl (jf (I 34))))
  | 35 => (A 35, .inl (cy 5, 5, .inr (.inr (.inr (.inr (Q 35))))))
  | 36 => (A 36, .inl (cy 0, 6, .inl (jf (I 36))))
  | 37 => (A 37, .inl (cy 0, 15, .inl (jf (I 37))))
  | 38 => (A 38, .inl (cy 0, 15, .inl (jf (I 38))))
  | 39 => (A 39, .inl (cy 6, 6, .inr (.inr (.inr (.inr (rw6 A 40))))))
  | 40 => (A 40, .inl (cy 0, 6, .inl (jf (I 40))))
  | 41 => (A 41, .inl (cy 0, 6, .inl (jf (I 41))))
  | 42 => (A 42, .inl (cy 0, 6, .inl (jf (I 42))))
  | 43 => (A 43, .inl (cy 0, 6, .inl (jf (I 43))))
  | 44 => (A 44, .inl (cy 0, 6, .inl (jf (I 44))))
  | 45 => (A 45, .inl (cy 0, 6, .inl (jf (I 45))))
  | 46 => (A 46, .inl (cy 0, 6, .inl (jf (I 46))))
  | 47 => (A 47, .inr (3, [.ref (A 48), .int (J (F 20)), .ref T, .int (J (F 21)), .int (J (F 22)), .int (J (F 23)), .int (J (F 24))]))
  | 48 => (A 48, .inl (cy 0, 120, .inl (jf (I 48))))
  | 49 => (A 49, .inr (4, [.ref (A 1), .ref e0, .ref e1, .int (J (F 30)), .ref e2, .ref e3, .int (J (F 31)), .long (JL (F 32)), .ref (A 54)]))
  | 50 => (D 0, .inl (cy 0, 64, .inl (jf (I 50))))
  | 51 => (D 1, .inl (cy 1, 64, .inr (.inl (jlf (I 51)))))
  | 52 => (D 2, .inl (cy 0, 64, .inl (jf (I 52))))
  | 53 => (D 3, .inl (cy 1, 64, .inr (.inl (jlf (I 53)))))
  | 54 => (A 54, .inl (cy 0, 6, .inl (jf (I 54))))
  | 55 => (A 55, .inl (cy 0, 21, .inl (jf (I 55))))
  | 56 => (A 56, .inl (cy 0, 6, .inl (jf (I 56))))
  | 57 => (A 57, .inl (cy 0, 6, .inl (jf (I 57))))
  | 58 => (A 58, .inl (cy 0, 6, .inl (jf (I 58))))
  | 59 => (A 59, .inl (cy 0, 6, .inl (jf (I 59))))
  | _ => (0, .inr (0, []))
def CWE (A D : Nat → Nat) (e0 e1 e2 e3 T : Nat) (cy : Nat → ClassId) (I : Nat → Int → Int) (F : Nat → Int) (Q : Nat → Nat → Option Nat) (P : va_W) : va_W := (List.range 60).map (cwC A D e0 e1 e2 e3 T cy I F Q) ++ P
def CW (A D : Nat → Nat) (T : Nat) (cy : Nat → ClassId) (I : Nat → Int → Int) (F : Nat → Int) (Q : Nat → Nat → Option Nat) (P : va_W) : va_W := CWE A D (D 0) (D 1) (D 2) (D 3) T cy I F Q P
theorem rg_at {β : Type} (f : Nat → β) (P : List β) {n k : Nat} (h : k < n) : ((List.range n).map f ++ P)[k]? = some (f k) := by
  rw [List.getElem?_append_left (by rw [List.length_map, List.length_range]; exact h), List.getElem?_map, List.getElem?_range h]
  rfl
theorem rg_past {β : Type} (f : Nat → β) (P : List β) {n i : Nat} : ((List.range n).map f ++ P)[n + i]? = P[i]? := by
  rw [List.getElem?_append_right (by rw [List.length_map, List.length_range]; omega), List.length_map, List.length_range, Nat.add_sub_cancel_left]
theorem rg_set {β : Type} (f f2 : Nat → β) (P : List β) {n k : Nat} {c : β} (h : k < n) (hs : ∀ j, j ≠ k → f2 j = f j) (hk : f2 k = c) : ((List.range n).map f ++ P).set k c = (List.range n).map f2 ++ P := by
  apply List.ext_getElem?
  intro i
  rw [List.getElem?_set]
  by_cases hi : k = i
  · subst hi
    rw [if_pos rfl, rg_at f2 P h, hk, if_pos]
    rw [List.length_append, List.length_map, List.length_range]
    omega
  · rw [if_neg hi]
    by_cases hn : i < n
    · rw [rg_at f P hn, rg_at f2 P hn, hs i (fun e => hi e.symm)]
    · obtain ⟨m, rfl⟩ : ∃ m, i = n + m := ⟨i - n, by omega⟩
      rw [rg_past, rg_past]
section CWS
variable {A D : Nat → Nat} {T e0 e1 e2 e3 : Nat} {cy : Nat → ClassId} {I I2 : Nat → Int → Int} {F F2 : Nat → Int} {Q Q2 : Nat → Nat → Option Nat} {P : va_W}
theorem CW_P {i : Nat} {c : Nat × va_E} (h : P[i]? = some c) : (CW A D T cy I F Q P)[60 + i]? = some c := (rg_past _ P).trans h
theorem CW_app {c : Nat × va_E} : CW A D T cy I F Q P ++ [c] = CW A D T cy I F Q (P ++ [c]) := List.append_assoc _ _ _
theorem CW_cong (eI : I = I2) (eF : F = F2) (eQ : Q = Q2) : CW A D T cy I F Q P = CW A D T cy I2 F2 Q2 P := by rw [eI, eF, eQ]
theorem CW_0 : (CW A D T cy I F Q P)[0]? = some (A 0, .inr (11, [.ref (A 1), .ref (A 24), .int (J (F 0)), .ref (A 55), .ref (A 47), .ref (A 49), .ref (A 56), .ref (A 57), .ref (A 58), .ref (A 59)])) := rg_at _ P (by decide)
theorem CW_1 : (CW A D T cy I F Q P)[1]? = some (A 1, .inr (6, [.int (J (F 1)), .ref (A 2), .ref (A 3), .int (J (F 2)), .ref (A 10), .ref (A 11), .int (J (F 3)), .ref (A 12), .int (J (F 4)), .ref (A 13), .int (J (F 5)), .ref (A 14), .ref (A 15), .int (J (F 6)), .ref (A 16), .ref (A 23)])) := rg_at _ P (by decide)
theorem CW_2 : (CW A D T cy I F Q P)[2]? = some (A 2, .inl (cy 0, 6, .inl (jf (I 2)))) := rg_at _ P (by decide)
theorem CW_3 : (CW A D T cy I F Q P)[3]? = some (A 3, .inl (cy 6, 6, .inr (.inr (.inr (.inr (rw6 A 4)))))) := rg_at _ P (by decide)
theorem CW_4 : (CW A D T cy I F Q P)[4]? = some (A 4, .inl (cy 0, 6, .inl (jf (I 4)))) := rg_at _ P (by decide)
theorem CW_5 : (CW A D T cy I F Q P)[5]? = some (A 5, .inl (cy 0, 6, .inl (jf (I 5)))) := rg_at _ P (by decide)
theorem CW_6 : (CW A D T cy I F Q P)[6]? = some (A 6, .inl (cy 0, 6, .inl (jf (I 6)))) := rg_at _ P (by decide)
theorem CW_7 : (CW A D T cy I F Q P)[7]? = some (A 7, .inl (cy 0, 6, .inl (jf (I 7)))) := rg_at _ P (by decide)
theorem CW_8 : (CW A D T cy I F Q P)[8]? = some (A 8, .inl (cy 0, 6, .inl (jf (I 8)))) := rg_at _ P (by decide)
theorem CW_9 : (CW A D T cy I F Q P)[9]? = some (A 9, .inl (cy 0, 6, .inl (jf (I 9)))) := rg_at _ P (by decide)
theorem CW_10 : (CW A D T cy I F Q P)[10]? = some (A 10, .inl (cy 4, 6, .inr (.inr (.inr (.inr (Q 10)))))) := rg_at _ P (by decide)
theorem CW_11 : (CW A D T cy I F Q P)[11]? = some (A 11, .inl (cy 3, 120, .inl (jf (I 11)))) := rg_at _ P (by decide)
theorem CW_12 : (CW A D T cy I F Q P)[12]? = some (A 12, .inl (cy 5, 5, .inr (.inr (.inr (.inr (Q 12)))))) := rg_at _ P (by decide)
theorem CW_13 : (CW A D T cy I F Q P)[13]? = some (A 13, .inl (cy 0, 6, .inl (jf (I 13)))) := rg_at _ P (by decide)
theorem CW_14 : (CW A D T cy I F Q P)[14]? = some (A 14, .inl (cy 0, 15, .inl (jf (I 14)))) := rg_at _ P (by decide)
theorem CW_15 : (CW A D T cy I F Q P)[15]? = some (A 15, .inl (cy 0, 15, .inl (jf (I 15)))) := rg_at _ P (by decide)
theorem CW_16 : (CW A D T cy I F Q P)[16]? = some (A 16, .inl (cy 6, 6, .inr (.inr (.inr (.inr (rw6 A 17)))))) := rg_at _ P (by decide)
theorem CW_17 : (CW A D T cy I F Q P)[17]? = some (A 17, .inl (cy 0, 6, .inl (jf (I 17)))) := rg_at _ P (by decide)
theorem CW_18 : (CW A D T cy I F Q P)[18]? = some (A 18, .inl (cy 0, 6, .inl (jf (I 18)))) := rg_at _ P (by decide)
theorem CW_19 : (CW A D T cy I F Q P)[19]? = some (A 19, .inl (cy 0, 6, .inl (jf (I 19)))) := rg_at _ P (by decide)
theorem CW_20 : (CW A D T cy I F Q P)[20]? = some (A 20, .inl (cy 0, 6, .inl (jf (I 20)))) := rg_at _ P (by decide)
theorem CW_21 : (CW A D T cy I F Q P)[21]? = some (A 21, .inl (cy 0, 6, .inl (jf (I 21)))) := rg_at _ P (by decide)
theorem CW_22 : (CW A D T cy I F Q P)[22]? = some (A 22, .inl (cy 0, 6, .inl (jf (I 22)))) := rg_at _ P (by decide)
theorem CW_23 : (CW A D T cy I F Q P)[23]? = some (A 23, .inl (cy 0, 6, .inl (jf (I 23)))) := rg_at _ P (by decide)
theorem CW_24 : (CW A D T cy I F Q P)[24]? = some (A 24, .inr (6, [.int (J (F 11)), .ref (A 25), .ref (A 26), .int (J (F 12)), .ref (A 33), .ref (A 34), .int (J (F 13)), .ref (A 35), .int (J (F 14)), .ref (A 36), .int (J (F 15)), .ref (A 37), .ref (A 38), .int (J (F 16)), .ref (A 39), .ref (A 46)])) := rg_at _ P (by decide)
theorem CW_25 : (CW A D T cy I F Q P)[25]? = some (A 25, .inl (cy 0, 6, .inl (jf (I 25)))) := rg_at _ P (by decide)
theorem CW_26 : (CW A D T cy I F Q P)[26]? = some (A 26, .inl (cy 6, 6, .inr (.inr (.inr (.inr (rw6 A 27)))))) := rg_at _ P (by decide)
theorem CW_27 : (CW A D T cy I F Q P)[27]? = some (A 27, .inl (cy 0, 6, .inl (jf (I 27)))) := rg_at _ P (by decide)
theorem CW_28 : (CW A D T cy I F Q P)[28]? = some (A 28, .inl (cy 0, 6, .inl (jf (I 28)))) := rg_at _ P (by decide)
theorem CW_29 : (CW A D T cy I F Q P)[29]? = some (A 29, .inl (cy 0, 6, .inl (jf (I 29)))) := rg_at _ P (by decide)
theorem CW_30 : (CW A D T cy I F Q P)[30]? = some (A 30, .inl (cy 0, 6, .inl (jf (I 30)))) := rg_at _ P (by decide)
theorem CW_31 : (CW A D T cy I F Q P)[31]? = some (A 31, .inl (cy 0, 6, .inl (jf (I 31)))) := rg_at _ P (by decide)
theorem CW_32 : (CW A D T cy I F Q P)[32]? = some (A 32, .inl (cy 0, 6, .inl (jf (I 32)))) := rg_at _ P (by decide)
theorem CW_33 : (CW A D T cy I F Q P)[33]? = some (A 33, .inl (cy 4, 6, .inr (.inr (.inr (.inr (Q 33)))))) := rg_at _ P (by decide)
theorem CW_34 : (CW A D T cy I F Q P)[34]? = some (A 34, .inl (cy 3, 120, .inl (jf (I 34)))) := rg_at _ P (by decide)
theorem CW_35 : (CW A D T cy I F Q P)[35]? = some (A 35, .inl (cy 5, 5, .inr (.inr (.inr (.inr (Q 35)))))) := rg_at _ P (by decide)
theorem CW_36 : (CW A D T cy I F Q P)[36]? = some (A 36, .inl (cy 0, 6, .inl (jf (I 36)))) := rg_at _ P (by decide)
theorem CW_37 : (CW A D T cy I F Q P)[37]? = some (A 37, .inl (cy 0, 15, .inl (jf (I 37)))) := rg_at _ P (by decide)
theorem CW_38 : (CW A D T cy I F Q P)[38]? = some (A 38, .inl (cy 0, 15, .inl (jf (I 38)))) := rg_at _ P (by decide)
theorem CW_39 : (CW A D T cy I F Q P)[39]? = some (A 39, .inl (cy 6, 6, .inr (.inr (.inr (.inr (rw6 A 40)))))) := rg_at _ P (by decide)
theorem CW_40 : (CW A D T cy I F Q P)[40]? = some (A 40, .inl (cy 0, 6, .inl (jf (I 40)))) := rg_at _ P (by decide)
theorem CW_41 : (CW A D T cy I F Q P)[41]? = some (A 41, .inl (cy 0, 6, .inl (jf (I 41)))) := rg_at _ P (by decide)
theorem CW_42 : (CW A D T cy I F Q P)[42]? = some (A 42, .inl (cy 0, 6, .inl (jf (I 42)))) := rg_at _ P (by decide)
theorem CW_43 : (CW A D T cy I F Q P)[43]? = some (A 43, .inl (cy 0, 6, .inl (jf (I 43)))) := rg_at _ P (by decide)
theorem CW_44 : (CW A D T cy I F Q P)[44]? = some (A 44, .inl (cy 0, 6, .inl (jf (I 44)))) := rg_at _ P (by decide)
theorem CW_45 : (CW A D T cy I F Q P)[45]? = some (A 45, .inl (cy 0, 6, .inl (jf (I 45)))) := rg_at _ P (by decide)
theorem CW_46 : (CW A D T cy I F Q P)[46]? = some (A 46, .inl (cy 0, 6, .inl (jf (I 46)))) := rg_at _ P (by decide)
theorem CW_47 : (CW A D T cy I F Q P)[47]? = some (A 47, .inr (3, [.ref (A 48), .int (J (F 20)), .ref T, .int (J (F 21)), .int (J (F 22)), .int (J (F 23)), .int (J (F 24))])) := rg_at _ P (by decide)
theorem CW_48 : (CW A D T cy I F Q P)[48]? = some (A 48, .inl (cy 0, 120, .inl (jf (I 48)))) := rg_at _ P (by decide)
theorem CW_49 : (CW A D T cy I F Q P)[49]? = some (A 49, .inr (4, [.ref (A 1), .ref (D 0), .ref (D 1), .int (J (F 30)), .ref (D 2), .ref (D 3), .int (J (F 31)), .long (JL (F 32)), .ref (A 54)])) := rg_at _ P (by decide)
theorem CW_50 : (CW A D T cy I F Q P)[50]? = some (D 0, .inl (cy 0, 64, .inl (jf (I 50)))) := rg_at _ P (by decide)
theorem CW_51 : (CW A D T cy I F Q P)[51]? = some (D 1, .inl (cy 1, 64, .inr (.inl (jlf (I 51))))) := rg_at _ P (by decide)
theorem CW_52 : (CW A D T cy I F Q P)[52]? = some (D 2, .inl (cy 0, 64, .inl (jf (I 52)))) := rg_at _ P (by decide)
theorem CW_53 : (CW A D T cy I F Q P)[53]? = some (D 3, .inl (cy 1, 64, .inr (.inl (jlf (I 53))))) := rg_at _ P (by decide)
theorem CW_54 : (CW A D T cy I F Q P)[54]? = some (A 54, .inl (cy 0, 6, .inl (jf (I 54)))) := rg_at _ P (by decide)
theorem CW_55 : (CW A D T cy I F Q P)[55]? = some (A 55, .inl (cy 0, 21, .inl (jf (I 55)))) := rg_at _ P (by decide)
theorem CW_56 : (CW A D T cy I F Q P)[56]? = some (A 56, .inl (cy 0, 6, .inl (jf (I 56)))) := rg_at _ P (by decide)
theorem CW_57 : (CW A D T cy I F Q P)[57]? = some (A 57, .inl (cy 0, 6, .inl (jf (I 57)))) := rg_at _ P (by decide)
theorem CW_58 : (CW A D T cy I F Q P)[58]? = some (A 58, .inl (cy 0, 6, .inl (jf (I 58)))) := rg_at _ P (by decide)
theorem CW_59 : (CW A D T cy I F Q P)[59]? = some (A 59, .inl (cy 0, 6, .inl (jf (I 59)))) := rg_at _ P (by decide)
theorem CWE_49 : (CWE A D e0 e1 e2 e3 T cy I F Q P)[49]? = some (A 49, .inr (4, [.ref (A 1), .ref e0, .ref e1, .int (J (F 30)), .ref e2, .ref e3, .int (J (F 31)), .long (JL (F 32)), .ref (A 54)])) := rg_at _ P (by decide)
theorem CW_ch {a : Int} (h0 : 0 ≤ a) (h1 : a < 6) : (CW A D T cy I F Q P)[4 + a.toNat]? = some (A (4 + a.toNat), .inl (cy 0, 6, .inl (jf (I (4 + a.toNat))))) := by
  rcases (show a = 0 ∨ a = 1 ∨ a = 2 ∨ a = 3 ∨ a = 4 ∨ a = 5 by omega) with h | h | h | h | h | h <;> subst h
  · exact CW_4
  · exact CW_5
  · exact CW_6
  · exact CW_7
  · exact CW_8
  · exact CW_9
theorem CW_pa {a : Int} (h0 : 0 ≤ a) (h1 : a < 6) : (CW A D T cy I F Q P)[17 + a.toNat]? = some (A (17 + a.toNat), .inl (cy 0, 6, .inl (jf (I (17 + a.toNat))))) := by
  rcases (show a = 0 ∨ a = 1 ∨ a = 2 ∨ a = 3 ∨ a = 4 ∨ a = 5 by omega) with h | h | h | h | h | h <;> subst h
  · exact CW_17
  · exact CW_18
  · exact CW_19
  · exact CW_20
  · exact CW_21
  · exact CW_22
theorem cwC_au {k : Nat} {g : Int → Int} (j : Nat) (h : j ≠ k) : cwC A D e0 e1 e2 e3 T cy (au I k g) F Q j = cwC A D e0 e1 e2 e3 T cy I F Q j := match j, h with
  | 0, _ => rfl
  | 1, _ => rfl
  | 2, h => congrArg (fun z : Int → Int => (((A 2, .inl (cy 0, 6, .inl (jf z))) : Nat × va_E))) (au_ne h)
  | 3, _ => rfl
  | 4, h => congrArg (fun z : Int → Int => (((A 4, .inl (cy 0, 6, .inl (jf z))) : Nat × va_E))) (au_ne h)
  | 5, h => congrArg (fun z : Int → Int => (((A 5, .inl (cy 0, 6, .inl (jf z))) : Nat × va_E))) (au_ne h)
  | 6, h => congrArg (fun z : Int → Int => (((A 6, .inl (cy 0, 6, .inl (jf z))) : Nat × va_E))) (au_ne h)
  | 7, h => congrArg (fun z : Int → Int => (((A 7, .inl (cy 0, 6, .inl (jf z))) : Nat × va_E))) (au_ne h)
  | 8, h => congrArg (fun z : Int → Int => (((A 8, .inl (cy 0, 6, .inl (jf z))) : Nat × va_E))) (au_ne h)
  | 9, h => congrArg (fun z : Int → Int => (((A 9, .inl (cy 0, 6, .inl (jf z))) : Nat × va_E))) (au_ne h)
  | 10, _ => rfl
  | 11, h => congrArg (fun z : Int → Int => (((A 11, .inl (cy 3, 120, .inl (jf z))) : Nat × va_E))) (au_ne h)
  | 12, _ => rfl
  | 13, h => congrArg (fun z : Int → Int => (((A 13, .inl (cy 0, 6, .inl (jf z))) : Nat × va_E))) (au_ne h)
  | 14, h => congrArg (fun z : Int → Int => (((A 14, .inl (cy 0, 15, .inl (jf z))) : Nat × va_E))) (au_ne h)
  | 15, h => congrArg (fun z : Int → Int => (((A 15, .inl (cy 0, 15, .inl (jf z))) : Nat × va_E))) (au_ne h)
  | 16, _ => rfl
  | 17, h => congrArg (fun z : Int → Int => (((A 17, .inl (cy 0, 6, .inl (jf z))) : Nat × va_E))) (au_ne h)
  | 18, h => congrArg (fun z : Int → Int => (((A 18, .inl (cy 0, 6, .inl (jf z))) : Nat × va_E))) (au_ne h)
  | 19, h => congrArg (fun z : Int → Int => (((A 19, .inl (cy 0, 6, .inl (jf z))) : Nat × va_E))) (au_ne h)
  | 20, h => congrArg (fun z : Int → Int => (((A 20, .inl (cy 0, 6, .inl (jf z))) : Nat × va_E))) (au_ne h)
  | 21, h => congrArg (fun z : Int → Int => (((A 21, .inl (cy 0, 6, .inl (jf z))) : Nat × va_E))) (au_ne h)
  | 22, h => congrArg (fun z : Int → Int => (((A 22, .inl (cy 0, 6, .inl (jf z))) : Nat × va_E))) (au_ne h)
  | 23, h => congrArg (fun z : Int → Int => (((A 23, .inl (cy 0, 6, .inl (jf z))) : Nat × va_E))) (au_ne h)
  | 24, _ => rfl
  | 25, h => congrArg (fun z : Int → Int => (((A 25, .inl (cy 0, 6, .inl (jf z))) : Nat × va_E))) (au_ne h)
  | 26, _ => rfl
  | 27, h => congrArg (fun z : Int → Int => (((A 27, .inl (cy 0, 6, .inl (jf z))) : Nat × va_E))) (au_ne h)
  | 28, h => congrArg (fun z : Int → Int => (((A 28, .inl (cy 0, 6, .inl (jf z))) : Nat × va_E))) (au_ne h)
  | 29, h => congrArg (fun z : Int → Int => (((A 29, .inl (cy 0, 6, .inl (jf z))) : Nat × va_E))) (au_ne h)
  | 30, h => congrArg (fun z : Int → Int => (((A 30, .inl (cy 0, 6, .inl (jf z))) : Nat × va_E))) (au_ne h)
  | 31, h => congrArg (fun z : Int → Int => (((A 31, .inl (cy 0, 6, .inl (jf z))) : Nat × va_E))) (au_ne h)
  | 32, h => congrArg (fun z : Int → Int => (((A 32, .inl (cy 0, 6, .inl (jf z))) : Nat × va_E))) (au_ne h)
  | 33, _ => rfl
  | 34, h => congrArg (fun z : Int → Int => (((A 34, .inl (cy 3, 120, .inl (jf z))) : Nat × va_E))) (au_ne h)
  | 35, _ => rfl
  | 36, h => congrArg (fun z : Int → Int => (((A 36, .inl (cy 0, 6, .inl (jf z))) : Nat × va_E))) (au_ne h)
  | 37, h => congrArg (fun z : Int → Int => (((A 37, .inl (cy 0, 15, .inl (jf z))) : Nat × va_E))) (au_ne h)
  | 38, h => congrArg (fun z : Int → Int => (((A 38, .inl (cy 0, 15, .inl (jf z))) : Nat × va_E))) (au_ne h)
  | 39, _ => rfl
  | 40, h => congrArg (fun z : Int → Int => (((A 40, .inl (cy 0, 6, .inl (jf z))) : Nat × va_E))) (au_ne h)
  | 41, h => congrArg (fun z : Int → Int => (((A 41, .inl (cy 0, 6, .inl (jf z))) : Nat × va_E))) (au_ne h)
  | 42, h => congrArg (fun z : Int → Int => (((A 42, .inl (cy 0, 6, .inl (jf z))) : Nat × va_E))) (au_ne h)
  | 43, h => congrArg (fun z : Int → Int => (((A 43, .inl (cy 0, 6, .inl (jf z))) : Nat × va_E))) (au_ne h)
  | 44, h => congrArg (fun z : Int → Int => (((A 44, .inl (cy 0, 6, .inl (jf z))) : Nat × va_E))) (au_ne h)
  | 45, h => congrArg (fun z : Int → Int => (((A 45, .inl (cy 0, 6, .inl (jf z))) : Nat × va_E))) (au_ne h)
  | 46, h => congrArg (fun z : Int → Int => (((A 46, .inl (cy 0, 6, .inl (jf z))) : Nat × va_E))) (au_ne h)
  | 47, _ => rfl
  | 48, h => congrArg (fun z : Int → Int => (((A 48, .inl (cy 0, 120, .inl (jf z))) : Nat × va_E))) (au_ne h)
  | 49, _ => rfl
  | 50, h => congrArg (fun z : Int → Int => (((D 0, .inl (cy 0, 64, .inl (jf z))) : Nat × va_E))) (au_ne h)
  | 51, h => congrArg (fun z : Int → Int => (((D 1, .inl (cy 1, 64, .inr (.inl (jlf z)))) : Nat × va_E))) (au_ne h)
  | 52, h => congrArg (fun z : Int → Int => (((D 2, .inl (cy 0, 64, .inl (jf z))) : Nat × va_E))) (au_ne h)
  | 53, h => congrArg (fun z : Int → Int => (((D 3, .inl (cy 1, 64, .inr (.inl (jlf z)))) : Nat × va_E))) (au_ne h)
  | 54, h => congrArg (fun z : Int → Int => (((A 54, .inl (cy 0, 6, .inl (jf z))) : Nat × va_E))) (au_ne h)
  | 55, h => congrArg (fun z : Int → Int => (((A 55, .inl (cy 0, 21, .inl (jf z))) : Nat × va_E))) (au_ne h)
  | 56, h => congrArg (fun z : Int → Int => (((A 56, .inl (cy 0, 6, .inl (jf z))) : Nat × va_E))) (au_ne h)
  | 57, h => congrArg (fun z : Int → Int => (((A 57, .inl (cy 0, 6, .inl (jf z))) : Nat × va_E))) (au_ne h)
  | 58, h => congrArg (fun z : Int → Int => (((A 58, .inl (cy 0, 6, .inl (jf z))) : Nat × va_E))) (au_ne h)
  | 59, h => congrArg (fun z : Int → Int => (((A 59, .inl (cy 0, 6, .inl (jf z))) : Nat × va_E))) (au_ne h)
  | n + 60, _ => rfl
theorem cwC_qu {k : Nat} {g : Nat → Option Nat} (j : Nat) (h : j ≠ k) : cwC A D e0 e1 e2 e3 T cy I F (qu Q k g) j = cwC A D e0 e1 e2 e3 T cy I F Q j := match j, h with
  | 0, _ => rfl
  | 1, _ => rfl
  | 2, _ => rfl
  | 3, _ => rfl
  | 4, _ => rfl
  | 5, _ => rfl
  | 6, _ => rfl
  | 7, _ => rfl
  | 8, _ => rfl
  | 9, _ => rfl
  | 10, h => congrArg (fun z : Nat → Option Nat => (((A 10, .inl (cy 4, 6, .inr (.inr (.inr (.inr z))))) : Nat × va_E))) (qu_ne h)
  | 11, _ => rfl
  | 12, h => congrArg (fun z : Nat → Option Nat => (((A 12, .inl (cy 5, 5, .inr (.inr (.inr (.inr z))))) : Nat × va_E))) (qu_ne h)
  | 13, _ => rfl
  | 14, _ => rfl
  | 15, _ => rfl
  | 16, _ => rfl
  | 17, _ => rfl
  | 18, _ => rfl
  | 19, _ => rfl
  | 20, _ => rfl
  | 21, _ => rfl
  | 22, _ => rfl
  | 23, _ => rfl
  | 24, _ => rfl
  | 25, _ => rfl
  | 26, _ => rfl
  | 27, _ => rfl
  | 28, _ => rfl
  | 29, _ => rfl
  | 30, _ => rfl
  | 31, _ => rfl
  | 32, _ => rfl
  | 33, h => congrArg (fun z : Nat → Option Nat => (((A 33, .inl (cy 4, 6, .inr (.inr (.inr (.inr z))))) : Nat × va_E))) (qu_ne h)
  | 34, _ => rfl
  | 35, h => congrArg (fun z : Nat → Option Nat => (((A 35, .inl (cy 5, 5, .inr (.inr (.inr (.inr z))))) : Nat × va_E))) (qu_ne h)
  | 36, _ => rfl
  | 37, _ => rfl
  | 38, _ => rfl
  | 39, _ => rfl
  | 40, _ => rfl
  | 41, _ => rfl
  | 42, _ => rfl
  | 43, _ => rfl
  | 44, _ => rfl
  | 45, _ => rfl
  | 46, _ => rfl
  | 47, _ => rfl
  | 48, _ => rfl
  | 49, _ => rfl
  | 50, _ => rfl
  | 51, _ => rfl
  | 52, _ => rfl
  | 53, _ => rfl
  | 54, _ => rfl
  | 55, _ => rfl
  | 56, _ => rfl
  | 57, _ => rfl
  | 58, _ => rfl
  | 59, _ => rfl
  | n + 60, _ => rfl
theorem CWa_2 {g : Int → Int} (e : au I 2 g = I2) : (CW A D T cy I F Q P).set 2 (A 2, .inl (cy 0, 6, .inl (jf g))) = CW A D T cy I2 F Q P := by subst e; exact rg_set _ _ P (by decide) (fun j h => cwC_au j h) rfl
theorem CWa_13 {g : Int → Int} (e : au I 13 g = I2) : (CW A D T cy I F Q P).set 13 (A 13, .inl (cy 0, 6, .inl (jf g))) = CW A D T cy I2 F Q P := by subst e; exact rg_set _ _ P (by decide) (fun j h => cwC_au j h) rfl
theorem CWa_23 {g : Int → Int} (e : au I 23 g = I2) : (CW A D T cy I F Q P).set 23 (A 23, .inl (cy 0, 6, .inl (jf g))) = CW A D T cy I2 F Q P := by subst e; exact rg_set _ _ P (by decide) (fun j h => cwC_au j h) rfl
theorem CWa_4 {g : Int → Int} (e : au I 4 g = I2) : (CW A D T cy I F Q P).set 4 (A 4, .inl (cy 0, 6, .inl (jf g))) = CW A D T cy I2 F Q P := by subst e; exact rg_set _ _ P (by decide) (fun j h => cwC_au j h) rfl
theorem CWa_5 {g : Int → Int} (e : au I 5 g = I2) : (CW A D T cy I F Q P).set 5 (A 5, .inl (cy 0, 6, .inl (jf g))) = CW A D T cy I2 F Q P := by subst e; exact rg_set _ _ P (by decide) (fun j h => cwC_au j h) rfl
theorem CWa_6 {g : Int → Int} (e : au I 6 g = I2) : (CW A D T cy I F Q P).set 6 (A 6, .inl (cy 0, 6, .inl (jf g))) = CW A D T cy I2 F Q P := by subst e; exact rg_set _ _ P (by decide) (fun j h => cwC_au j h) rfl
theorem CWa_7 {g : Int → Int} (e : au I 7 g = I2) : (CW A D T cy I F Q P).set 7 (A 7, .inl (cy 0, 6, .inl (jf g))) = CW A D T cy I2 F Q P := by subst e; exact rg_set _ _ P (by decide) (fun j h => cwC_au j h) rfl
theorem CWa_8 {g : Int → Int} (e : au I 8 g = I2) : (CW A D T cy I F Q P).set 8 (A 8, .inl (cy 0, 6, .inl (jf g))) = CW A D T cy I2 F Q P := by subst e; exact rg_set _ _ P (by decide) (fun j h => cwC_au j h) rfl
theorem CWa_9 {g : Int → Int} (e : au I 9 g = I2) : (CW A D T cy I F Q P).set 9 (A 9, .inl (cy 0, 6, .inl (jf g))) = CW A D T cy I2 F Q P := by subst e; exact rg_set _ _ P (by decide) (fun j h => cwC_au j h) rfl
theorem CWa_17 {g : Int → Int} (e : au I 17 g = I2) : (CW A D T cy I F Q P).set 17 (A 17, .inl (cy 0, 6, .inl (jf g))) = CW A D T cy I2 F Q P := by subst e; exact rg_set _ _ P (by decide) (fun j h => cwC_au j h) rfl
theorem CWa_18 {g : Int → Int} (e : au I 18 g = I2) : (CW A D T cy I F Q P).set 18 (A 18, .inl (cy 0, 6, .inl (jf g))) = CW A D T cy I2 F Q P := by subst e; exact rg_set _ _ P (by decide) (fun j h => cwC_au j h) rfl
theorem CWa_19 {g : Int → Int} (e : au I 19 g = I2) : (CW A D T cy I F Q P).set 19 (A 19, .inl (cy 0, 6, .inl (jf g))) = CW A D T cy I2 F Q P := by subst e; exact rg_set _ _ P (by decide) (fun j h => cwC_au j h) rfl
theorem CWa_20 {g : Int → Int} (e : au I 20 g = I2) : (CW A D T cy I F Q P).set 20 (A 20, .inl (cy 0, 6, .inl (jf g))) = CW A D T cy I2 F Q P := by subst e; exact rg_set _ _ P (by decide) (fun j h => cwC_au j h) rfl
theorem CWa_21 {g : Int → Int} (e : au I 21 g = I2) : (CW A D T cy I F Q P).set 21 (A 21, .inl (cy 0, 6, .inl (jf g))) = CW A D T cy I2 F Q P := by subst e; exact rg_set _ _ P (by decide) (fun j h => cwC_au j h) rfl
theorem CWa_22 {g : Int → Int} (e : au I 22 g = I2) : (CW A D T cy I F Q P).set 22 (A 22, .inl (cy 0, 6, .inl (jf g))) = CW A D T cy I2 F Q P := by subst e; exact rg_set _ _ P (by decide) (fun j h => cwC_au j h) rfl
theorem CWa_14 {g : Int → Int} (e : au I 14 g = I2) : (CW A D T cy I F Q P).set 14 (A 14, .inl (cy 0, 15, .inl (jf g))) = CW A D T cy I2 F Q P := by subst e; exact rg_set _ _ P (by decide) (fun j h => cwC_au j h) rfl
theorem CWa_15 {g : Int → Int} (e : au I 15 g = I2) : (CW A D T cy I F Q P).set 15 (A 15, .inl (cy 0, 15, .inl (jf g))) = CW A D T cy I2 F Q P := by subst e; exact rg_set _ _ P (by decide) (fun j h => cwC_au j h) rfl
theorem CWa_25 {g : Int → Int} (e : au I 25 g = I2) : (CW A D T cy I F Q P).set 25 (A 25, .inl (cy 0, 6, .inl (jf g))) = CW A D T cy I2 F Q P := by subst e; exact rg_set _ _ P (by decide) (fun j h => cwC_au j h) rfl
theorem CWa_36 {g : Int → Int} (e : au I 36 g = I2) : (CW A D T cy I F Q P).set 36 (A 36, .inl (cy 0, 6, .inl (jf g))) = CW A D T cy I2 F Q P := by subst e; exact rg_set _ _ P (by decide) (fun j h => cwC_au j h) rfl
theorem CWa_46 {g : Int → Int} (e : au I 46 g = I2) : (CW A D T cy I F Q P).set 46 (A 46, .inl (cy 0, 6, .inl (jf g))) = CW A D T cy I2 F Q P := by subst e; exact rg_set _ _ P (by decide) (fun j h => cwC_au j h) rfl
theorem CWa_27 {g : Int → Int} (e : au I 27 g = I2) : (CW A D T cy I F Q P).set 27 (A 27, .inl (cy 0, 6, .inl (jf g))) = CW A D T cy I2 F Q P := by subst e; exact rg_set _ _ P (by decide) (fun j h => cwC_au j h) rfl
theorem CWa_28 {g : Int → Int} (e : au I 28 g = I2) : (CW A D T cy I F Q P).set 28 (A 28, .inl (cy 0, 6, .inl (jf g))) = CW A D T cy I2 F Q P := by subst e; exact rg_set _ _ P (by decide) (fun j h => cwC_au j h) rfl
theorem CWa_29 {g : Int → Int} (e : au I 29 g = I2) : (CW A D T cy I F Q P).set 29 (A 29, .inl (cy 0, 6, .inl (jf g))) = CW A D T cy I2 F Q P := by subst e; exact rg_set _ _ P (by decide) (fun j h => cwC_au j h) rfl
theorem CWa_30 {g : Int → Int} (e : au I 30 g = I2) : (CW A D T cy I F Q P).set 30 (A 30, .inl (cy 0, 6, .inl (jf g))) = CW A D T cy I2 F Q P := by subst e; exact rg_set _ _ P (by decide) (fun j h => cwC_au j h) rfl
theorem CWa_31 {g : Int → Int} (e : au I 31 g = I2) : (CW A D T cy I F Q P).set 31 (A 31, .inl (cy 0, 6, .inl (jf g))) = CW A D T cy I2 F Q P := by subst e; exact rg_set _ _ P (by decide) (fun j h => cwC_au j h) rfl
theorem CWa_32 {g : Int → Int} (e : au I 32 g = I2) : (CW A D T cy I F Q P).set 32 (A 32, .inl (cy 0, 6, .inl (jf g))) = CW A D T cy I2 F Q P := by subst e; exact rg_set _ _ P (by decide) (fun j h => cwC_au j h) rfl
theorem CWa_40 {g : Int → Int} (e : au I 40 g = I2) : (CW A D T cy I F Q P).set 40 (A 40, .inl (cy 0, 6, .inl (jf g))) = CW A D T cy I2 F Q P := by subst e; exact rg_set _ _ P (by decide) (fun j h => cwC_au j h) rfl
theorem CWa_41 {g : Int → Int} (e : au I 41 g = I2) : (CW A D T cy I F Q P).set 41 (A 41, .inl (cy 0, 6, .inl (jf g))) = CW A D T cy I2 F Q P := by subst e; exact rg_set _ _ P (by decide) (fun j h => cwC_au j h) rfl
theorem CWa_42 {g : Int → Int} (e : au I 42 g = I2) : (CW A D T cy I F Q P).set 42 (A 42, .inl (cy 0, 6, .inl (jf g))) = CW A D T cy I2 F Q P := by subst e; exact rg_set _ _ P (by decide) (fun j h => cwC_au j h) rfl
theorem CWa_43 {g : Int → Int} (e : au I 43 g = I2) : (CW A D T cy I F Q P).set 43 (A 43, .inl (cy 0, 6, .inl (jf g))) = CW A D T cy I2 F Q P := by subst e; exact rg_set _ _ P (by decide) (fun j h => cwC_au j h) rfl
theorem CWa_44 {g : Int → Int} (e : au I 44 g = I2) : (CW A D T cy I F Q P).set 44 (A 44, .inl (cy 0, 6, .inl (jf g))) = CW A D T cy I2 F Q P := by subst e; exact rg_set _ _ P (by decide) (fun j h => cwC_au j h) rfl
theorem CWa_45 {g : Int → Int} (e : au I 45 g = I2) : (CW A D T cy I F Q P).set 45 (A 45, .inl (cy 0, 6, .inl (jf g))) = CW A D T cy I2 F Q P := by subst e; exact rg_set _ _ P (by decide) (fun j h => cwC_au j h) rfl
theorem CWa_37 {g : Int → Int} (e : au I 37 g = I2) : (CW A D T cy I F Q P).set 37 (A 37, .inl (cy 0, 15, .inl (jf g))) = CW A D T cy I2 F Q P := by subst e; exact rg_set _ _ P (by decide) (fun j h => cwC_au j h) rfl
theorem CWa_38 {g : Int → Int} (e : au I 38 g = I2) : (CW A D T cy I F Q P).set 38 (A 38, .inl (cy 0, 15, .inl (jf g))) = CW A D T cy I2 F Q P := by subst e; exact rg_set _ _ P (by decide) (fun j h => cwC_au j h) rfl
theorem CWa_48 {g : Int → Int} (e : au I 48 g = I2) : (CW A D T cy I F Q P).set 48 (A 48, .inl (cy 0, 120, .inl (jf g))) = CW A D T cy I2 F Q P := by subst e; exact rg_set _ _ P (by decide) (fun j h => cwC_au j h) rfl
theorem CWa_50 {g : Int → Int} (e : au I 50 g = I2) : (CW A D T cy I F Q P).set 50 (D 0, .inl (cy 0, 64, .inl (jf g))) = CW A D T cy I2 F Q P := by subst e; exact rg_set _ _ P (by decide) (fun j h => cwC_au j h) rfl
theorem CWa_52 {g : Int → Int} (e : au I 52 g = I2) : (CW A D T cy I F Q P).set 52 (D 2, .inl (cy 0, 64, .inl (jf g))) = CW A D T cy I2 F Q P := by subst e; exact rg_set _ _ P (by decide) (fun j h => cwC_au j h) rfl
theorem CWa_54 {g : Int → Int} (e : au I 54 g = I2) : (CW A D T cy I F Q P).set 54 (A 54, .inl (cy 0, 6, .inl (jf g))) = CW A D T cy I2 F Q P := by subst e; exact rg_set _ _ P (by decide) (fun j h => cwC_au j h) rfl
theorem CWa_55 {g : Int → Int} (e : au I 55 g = I2) : (CW A D T cy I F Q P).set 55 (A 55, .inl (cy 0, 21, .inl (jf g))) = CW A D T cy I2 F Q P := by subst e; exact rg_set _ _ P (by decide) (fun j h => cwC_au j h) rfl
theorem CWa_56 {g : Int → Int} (e : au I 56 g = I2) : (CW A D T cy I F Q P).set 56 (A 56, .inl (cy 0, 6, .inl (jf g))) = CW A D T cy I2 F Q P := by subst e; exact rg_set _ _ P (by decide) (fun j h => cwC_au j h) rfl
theorem CWa_57 {g : Int → Int} (e : au I 57 g = I2) : (CW A D T cy I F Q P).set 57 (A 57, .inl (cy 0, 6, .inl (jf g))) = CW A D T cy I2 F Q P := by subst e; exact rg_set _ _ P (by decide) (fun j h => cwC_au j h) rfl
theorem CWa_58 {g : Int → Int} (e : au I 58 g = I2) : (CW A D T cy I F Q P).set 58 (A 58, .inl (cy 0, 6, .inl (jf g))) = CW A D T cy I2 F Q P := by subst e; exact rg_set _ _ P (by decide) (fun j h => cwC_au j h) rfl
theorem CWa_59 {g : Int → Int} (e : au I 59 g = I2) : (CW A D T cy I F Q P).set 59 (A 59, .inl (cy 0, 6, .inl (jf g))) = CW A D T cy I2 F Q P := by subst e; exact rg_set _ _ P (by decide) (fun j h => cwC_au j h) rfl
theorem CWa_51 {g : Int → Int} (e : au I 51 g = I2) : (CW A D T cy I F Q P).set 51 (D 1, .inl (cy 1, 64, .inr (.inl (jlf g)))) = CW A D T cy I2 F Q P := by subst e; exact rg_set _ _ P (by decide) (fun j h => cwC_au j h) rfl
theorem CWa_53 {g : Int → Int} (e : au I 53 g = I2) : (CW A D T cy I F Q P).set 53 (D 3, .inl (cy 1, 64, .inr (.inl (jlf g)))) = CW A D T cy I2 F Q P := by subst e; exact rg_set _ _ P (by decide) (fun j h => cwC_au j h) rfl
theorem CWa_11 {g : Int → Int} (e : au I 11 g = I2) : (CW A D T cy I F Q P).set 11 (A 11, .inl (cy 3, 120, .inl (jf g))) = CW A D T cy I2 F Q P := by subst e; exact rg_set _ _ P (by decide) (fun j h => cwC_au j h) rfl
theorem CWa_34 {g : Int → Int} (e : au I 34 g = I2) : (CW A D T cy I F Q P).set 34 (A 34, .inl (cy 3, 120, .inl (jf g))) = CW A D T cy I2 F Q P := by subst e; exact rg_set _ _ P (by decide) (fun j h => cwC_au j h) rfl
theorem CWq_10 {g : Nat → Option Nat} (e : qu Q 10 g = Q2) : (CW A D T cy I F Q P).set 10 (A 10, .inl (cy 4, 6, .inr (.inr (.inr (.inr g))))) = CW A D T cy I F Q2 P := by subst e; exact rg_set _ _ P (by decide) (fun j h => cwC_qu j h) rfl
theorem CWq_12 {g : Nat → Option Nat} (e : qu Q 12 g = Q2) : (CW A D T cy I F Q P).set 12 (A 12, .inl (cy 5, 5, .inr (.inr (.inr (.inr g))))) = CW A D T cy I F Q2 P := by subst e; exact rg_set _ _ P (by decide) (fun j h => cwC_qu j h) rfl
theorem CWq_33 {g : Nat → Option Nat} (e : qu Q 33 g = Q2) : (CW A D T cy I F Q P).set 33 (A 33, .inl (cy 4, 6, .inr (.inr (.inr (.inr g))))) = CW A D T cy I F Q2 P := by subst e; exact rg_set _ _ P (by decide) (fun j h => cwC_qu j h) rfl
theorem CWq_35 {g : Nat → Option Nat} (e : qu Q 35 g = Q2) : (CW A D T cy I F Q P).set 35 (A 35, .inl (cy 5, 5, .inr (.inr (.inr (.inr g))))) = CW A D T cy I F Q2 P := by subst e; exact rg_set _ _ P (by decide) (fun j h => cwC_qu j h) rfl
theorem cwC_f0 {v : Int} (j : Nat) (h : j ≠ 0) : cwC A D e0 e1 e2 e3 T cy I (fu F 0 v) Q j = cwC A D e0 e1 e2 e3 T cy I F Q j := match j, h with
  | 0, h => absurd rfl h
  | 1, _ => rfl
  | 24, _ => rfl
  | 47, _ => rfl
  | 49, _ => rfl
  | 2, _ => rfl
  | 3, _ => rfl
  | 4, _ => rfl
  | 5, _ => rfl
  | 6, _ => rfl
  | 7, _ => rfl
  | 8, _ => rfl
  | 9, _ => rfl
  | 10, _ => rfl
  | 11, _ => rfl
  | 12, _ => rfl
  | 13, _ => rfl
  | 14, _ => rfl
  | 15, _ => rfl
  | 16, _ => rfl
  | 17, _ => rfl
  | 18, _ => rfl
  | 19, _ => rfl
  | 20, _ => rfl
  | 21, _ => rfl
  | 22, _ => rfl
  | 23, _ => rfl
  | 25, _ => rfl
  | 26, _ => rfl
  | 27, _ => rfl
  | 28, _ => rfl
  | 29, _ => rfl
  | 30, _ => rfl
  | 31, _ => rfl
  | 32, _ => rfl
  | 33, _ => rfl
  | 34, _ => rfl
  | 35, _ => rfl
  | 36, _ => rfl
  | 37, _ => rfl
  | 38, _ => rfl
  | 39, _ => rfl
  | 40, _ => rfl
  | 41, _ => rfl
  | 42, _ => rfl
  | 43, _ => rfl
  | 44, _ => rfl
  | 45, _ => rfl
  | 46, _ => rfl
  | 48, _ => rfl
  | 50, _ => rfl
  | 51, _ => rfl
  | 52, _ => rfl
  | 53, _ => rfl
  | 54, _ => rfl
  | 55, _ => rfl
  | 56, _ => rfl
  | 57, _ => rfl
  | 58, _ => rfl
  | 59, _ => rfl
  | n + 60, _ => rfl
theorem CWf_0 {v : Int} (e : fu F 0 v = F2) : (CW A D T cy I F Q P).set 0 (A 0, .inr (11, [.ref (A 1), .ref (A 24), .int (J v), .ref (A 55), .ref (A 47), .ref (A 49), .ref (A 56), .ref (A 57), .ref (A 58), .ref (A 59)])) = CW A D T cy I F2 Q P := by subst e; exact rg_set _ _ P (by decide) (fun j h => cwC_f0 j h) rfl
theorem cwC_f1 {v : Int} (j : Nat) (h : j ≠ 1) : cwC A D e0 e1 e2 e3 T cy I (fu F 1 v) Q j = cwC A D e0 e1 e2 e3 T cy I F Q j := match j, h with
  | 0, _ => rfl
  | 1, h => absurd rfl h
  | 24, _ => rfl
  | 47, _ => rfl
  | 49, _ => rfl
  | 2, _ => rfl
  | 3, _ => rfl
  | 4, _ => rfl
  | 5, _ => rfl
  | 6, _ => rfl
  | 7, _ => rfl
  | 8, _ => rfl
  | 9, _ => rfl
  | 10, _ => rfl
  | 11, _ => rfl
  | 12, _ => rfl
  | 13, _ => rfl
  | 14, _ => rfl
  | 15, _ => rfl
  | 16, _ => rfl
  | 17, _ => rfl
  | 18, _ => rfl
  | 19, _ => rfl
  | 20, _ => rfl
  | 21, _ => rfl
  | 22, _ => rfl
  | 23, _ => rfl
  | 25, _ => rfl
  | 26, _ => rfl
  | 27, _ => rfl
  | 28, _ => rfl
  | 29, _ => rfl
  | 30, _ => rfl
  | 31, _ => rfl
  | 32, _ => rfl
  | 33, _ => rfl
  | 34, _ => rfl
  | 35, _ => rfl
  | 36, _ => rfl
  | 37, _ => rfl
  | 38, _ => rfl
  | 39, _ => rfl
  | 40, _ => rfl
  | 41, _ => rfl
  | 42, _ => rfl
  | 43, _ => rfl
  | 44, _ => rfl
  | 45, _ => rfl
  | 46, _ => rfl
  | 48, _ => rfl
  | 50, _ => rfl
  | 51, _ => rfl
  | 52, _ => rfl
  | 53, _ => rfl
  | 54, _ => rfl
  | 55, _ => rfl
  | 56, _ => rfl
  | 57, _ => rfl
  | 58, _ => rfl
  | 59, _ => rfl
  | n + 60, _ => rfl
theorem CWf_1 {v : Int} (e : fu F 1 v = F2) : (CW A D T cy I F Q P).set 1 (A 1, .inr (6, [.int (J v), .ref (A 2), .ref (A 3), .int (J (F 2)), .ref (A 10), .ref (A 11), .int (J (F 3)), .ref (A 12), .int (J (F 4)), .ref (A 13), .int (J (F 5)), .ref (A 14), .ref (A 15), .int (J (F 6)), .ref (A 16), .ref (A 23)])) = CW A D T cy I F2 Q P := by subst e; exact rg_set _ _ P (by decide) (fun j h => cwC_f1 j h) rfl
theorem cwC_f2 {v : Int} (j : Nat) (h : j ≠ 1) : cwC A D e0 e1 e2 e3 T cy I (fu F 2 v) Q j = cwC A D e0 e1 e2 e3 T cy I F Q j := match j, h with
  | 0, _ => rfl
  | 1, h => absurd rfl h
  | 24, _ => rfl
  | 47, _ => rfl
  | 49, _ => rfl
  | 2, _ => rfl
  | 3, _ => rfl
  | 4, _ => rfl
  | 5, _ => rfl
  | 6, _ => rfl
  | 7, _ => rfl
  | 8, _ => rfl
  | 9, _ => rfl
  | 10, _ => rfl
  | 11, _ => rfl
  | 12, _ => rfl
  | 13, _ => rfl
  | 14, _ => rfl
  | 15, _ => rfl
  | 16, _ => rfl
  | 17, _ => rfl
  | 18, _ => rfl
  | 19, _ => rfl
  | 20, _ => rfl
  | 21, _ => rfl
  | 22, _ => rfl
  | 23, _ => rfl
  | 25, _ => rfl
  | 26, _ => rfl
  | 27, _ => rfl
  | 28, _ => rfl
  | 29, _ => rfl
  | 30, _ => rfl
  | 31, _ => rfl
  | 32, _ => rfl
  | 33, _ => rfl
  | 34, _ => rfl
  | 35, _ => rfl
  | 36, _ => rfl
  | 37, _ => rfl
  | 38, _ => rfl
  | 39, _ => rfl
  | 40, _ => rfl
  | 41, _ => rfl
  | 42, _ => rfl
  | 43, _ => rfl
  | 44, _ => rfl
  | 45, _ => rfl
  | 46, _ => rfl
  | 48, _ => rfl
  | 50, _ => rfl
  | 51, _ => rfl
  | 52, _ => rfl
  | 53, _ => rfl
  | 54, _ => rfl
  | 55, _ => rfl
  | 56, _ => rfl
  | 57, _ => rfl
  | 58, _ => rfl
  | 59, _ => rfl
  | n + 60, _ => rfl
theorem CWf_2 {v : Int} (e : fu F 2 v = F2) : (CW A D T cy I F Q P).set 1 (A 1, .inr (6, [.int (J (F 1)), .ref (A 2), .ref (A 3), .int (J v), .ref (A 10), .ref (A 11), .int (J (F 3)), .ref (A 12), .int (J (F 4)), .ref (A 13), .int (J (F 5)), .ref (A 14), .ref (A 15), .int (J (F 6)), .ref (A 16), .ref (A 23)])) = CW A D T cy I F2 Q P := by subst e; exact rg_set _ _ P (by decide) (fun j h => cwC_f2 j h) rfl
theorem cwC_f3 {v : Int} (j : Nat) (h : j ≠ 1) : cwC A D e0 e1 e2 e3 T cy I (fu F 3 v) Q j = cwC A D e0 e1 e2 e3 T cy I F Q j := match j, h with
  | 0, _ => rfl
  | 1, h => absurd rfl h
  | 24, _ => rfl
  | 47, _ => rfl
  | 49, _ => rfl
  | 2, _ => rfl
  | 3, _ => rfl
  | 4, _ => rfl
  | 5, _ => rfl
  | 6, _ => rfl
  | 7, _ => rfl
  | 8, _ => rfl
  | 9, _ => rfl
  | 10, _ => rfl
  | 11, _ => rfl
  | 12, _ => rfl
  | 13, _ => rfl
  | 14, _ => rfl
  | 15, _ => rfl
  | 16, _ => rfl
  | 17, _ => rfl
  | 18, _ => rfl
  | 19, _ => rfl
  | 20, _ => rfl
  | 21, _ => rfl
  | 22, _ => rfl
  | 23, _ => rfl
  | 25, _ => rfl
  | 26, _ => rfl
  | 27, _ => rfl
  | 28, _ => rfl
  | 29, _ => rfl
  | 30, _ => rfl
  | 31, _ => rfl
  | 32, _ => rfl
  | 33, _ => rfl
  | 34, _ => rfl
  | 35, _ => rfl
  | 36, _ => rfl
  | 37, _ => rfl
  | 38, _ => rfl
  | 39, _ => rfl
  | 40, _ => rfl
  | 41, _ => rfl
  | 42, _ => rfl
  | 43, _ => rfl
  | 44, _ => rfl
  | 45, _ => rfl
  | 46, _ => rfl
  | 48, _ => rfl
  | 50, _ => rfl
  | 51, _ => rfl
  | 52, _ => rfl
  | 53, _ => rfl
  | 54, _ => rfl
  | 55, _ => rfl
  | 56, _ => rfl
  | 57, _ => rfl
  | 58, _ => rfl
  | 59, _ => rfl
  | n + 60, _ => rfl
theorem CWf_3 {v : Int} (e : fu F 3 v = F2) : (CW A D T cy I F Q P).set 1 (A 1, .inr (6, [.int (J (F 1)), .ref (A 2), .ref (A 3), .int (J (F 2)), .ref (A 10), .ref (A 11), .int (J v), .ref (A 12), .int (J (F 4)), .ref (A 13), .int (J (F 5)), .ref (A 14), .ref (A 15), .int (J (F 6)), .ref (A 16), .ref (A 23)])) = CW A D T cy I F2 Q P := by subst e; exact rg_set _ _ P (by decide) (fun j h => cwC_f3 j h) rfl
theorem cwC_f4 {v : Int} (j : Nat) (h : j ≠ 1) : cwC A D e0 e1 e2 e3 T cy I (fu F 4 v) Q j = cwC A D e0 e1 e2 e3 T cy I F Q j := match j, h with
  | 0, _ => rfl
  | 1, h => absurd rfl h
  | 24, _ => rfl
  | 47, _ => rfl
  | 49, _ => rfl
  | 2, _ => rfl
  | 3, _ => rfl
  | 4, _ => rfl
  | 5, _ => rfl
  | 6, _ => rfl
  | 7, _ => rfl
  | 8, _ => rfl
  | 9, _ => rfl
  | 10, _ => rfl
  | 11, _ => rfl
  | 12, _ => rfl
  | 13, _ => rfl
  | 14, _ => rfl
  | 15, _ => rfl
  | 16, _ => rfl
  | 17, _ => rfl
  | 18, _ => rfl
  | 19, _ => rfl
  | 20, _ => rfl
  | 21, _ => rfl
  | 22, _ => rfl
  | 23, _ => rfl
  | 25, _ => rfl
  | 26, _ => rfl
  | 27, _ => rfl
  | 28, _ => rfl
  | 29, _ => rfl
  | 30, _ => rfl
  | 31, _ => rfl
  | 32, _ => rfl
  | 33, _ => rfl
  | 34, _ => rfl
  | 35, _ => rfl
  | 36, _ => rfl
  | 37, _ => rfl
  | 38, _ => rfl
  | 39, _ => rfl
  | 40, _ => rfl
  | 41, _ => rfl
  | 42, _ => rfl
  | 43, _ => rfl
  | 44, _ => rfl
  | 45, _ => rfl
  | 46, _ => rfl
  | 48, _ => rfl
  | 50, _ => rfl
  | 51, _ => rfl
  | 52, _ => rfl
  | 53, _ => rfl
  | 54, _ => rfl
  | 55, _ => rfl
  | 56, _ => rfl
  | 57, _ => rfl
  | 58, _ => rfl
  | 59, _ => rfl
  | n + 60, _ => rfl
theorem CWf_4 {v : Int} (e : fu F 4 v = F2) : (CW A D T cy I F Q P).set 1 (A 1, .inr (6, [.int (J (F 1)), .ref (A 2), .ref (A 3), .int (J (F 2)), .ref (A 10), .ref (A 11), .int (J (F 3)), .ref (A 12), .int (J v), .ref (A 13), .int (J (F 5)), .ref (A 14), .ref (A 15), .int (J (F 6)), .ref (A 16), .ref (A 23)])) = CW A D T cy I F2 Q P := by subst e; exact rg_set _ _ P (by decide) (fun j h => cwC_f4 j h) rfl
theorem cwC_f5 {v : Int} (j : Nat) (h : j ≠ 1) : cwC A D e0 e1 e2 e3 T cy I (fu F 5 v) Q j = cwC A D e0 e1 e2 e3 T cy I F Q j := match j, h with
  | 0, _ => rfl
  | 1, h => absurd rfl h
  | 24, _ => rfl
  | 47, _ => rfl
  | 49, _ => rfl
  | 2, _ => rfl
  | 3, _ => rfl
  | 4, _ => rfl
  | 5, _ => rfl
  | 6, _ => rfl
  | 7, _ => rfl
  | 8, _ => rfl
  | 9, _ => rfl
  | 10, _ => rfl
  | 11, _ => rfl
  | 12, _ => rfl
  | 13, _ => rfl
  | 14, _ => rfl
  | 15, _ => rfl
  | 16, _ => rfl
  | 17, _ => rfl
  | 18, _ => rfl
  | 19, _ => rfl
  | 20, _ => rfl
  | 21, _ => rfl
  | 22, _ => rfl
  | 23, _ => rfl
  | 25, _ => rfl
  | 26, _ => rfl
  | 27, _ => rfl
  | 28, _ => rfl
  | 29, _ => rfl
  | 30, _ => rfl
  | 31, _ => rfl
  | 32, _ => rfl
  | 33, _ => rfl
  | 34, _ => rfl
  | 35, _ => rfl
  | 36, _ => rfl
  | 37, _ => rfl
  | 38, _ => rfl
  | 39, _ => rfl
  | 40, _ => rfl
  | 41, _ => rfl
  | 42, _ => rfl
  | 43, _ => rfl
  | 44, _ => rfl
  | 45, _ => rfl
  | 46, _ => rfl
  | 48, _ => rfl
  | 50, _ => rfl
  | 51, _ => rfl
  | 52, _ => rfl
  | 53, _ => rfl
  | 54, _ => rfl
  | 55, _ => rfl
  | 56, _ => rfl
  | 57, _ => rfl
  | 58, _ => rfl
  | 59, _ => rfl
  | n + 60, _ => rfl
theorem CWf_5 {v : Int} (e : fu F 5 v = F2) : (CW A D T cy I F Q P).set 1 (A 1, .inr (6, [.int (J (F 1)), .ref (A 2), .ref (A 3), .int (J (F 2)), .ref (A 10), .ref (A 11), .int (J (F 3)), .ref (A 12), .int (J (F 4)), .ref (A 13), .int (J v), .ref (A 14), .ref (A 15), .int (J (F 6)), .ref (A 16), .ref (A 23)])) = CW A D T cy I F2 Q P := by subst e; exact rg_set _ _ P (by decide) (fun j h => cwC_f5 j h) rfl
theorem cwC_f6 {v : Int} (j : Nat) (h : j ≠ 1) : cwC A D e0 e1 e2 e3 T cy I (fu F 6 v) Q j = cwC A D e0 e1 e2 e3 T cy I F Q j := match j, h with
  | 0, _ => rfl
  | 1, h => absurd rfl h
  | 24, _ => rfl
  | 47, _ => rfl
  | 49, _ => rfl
  | 2, _ => rfl
  | 3, _ => rfl
  | 4, _ => rfl
  | 5, _ => rfl
  | 6, _ => rfl
  | 7, _ => rfl
  | 8, _ => rfl
  | 9, _ => rfl
  | 10, _ => rfl
  | 11, _ => rfl
  | 12, _ => rfl
  | 13, _ => rfl
  | 14, _ => rfl
  | 15, _ => rfl
  | 16, _ => rfl
  | 17, _ => rfl
  | 18, _ => rfl
  | 19, _ => rfl
  | 20, _ => rfl
  | 21, _ => rfl
  | 22, _ => rfl
  | 23, _ => rfl
  | 25, _ => rfl
  | 26, _ => rfl
  | 27, _ => rfl
  | 28, _ => rfl
  | 29, _ => rfl
  | 30, _ => rfl
  | 31, _ => rfl
  | 32, _ => rfl
  | 33, _ => rfl
  | 34, _ => rfl
  | 35, _ => rfl
  | 36, _ => rfl
  | 37, _ => rfl
  | 38, _ => rfl
  | 39, _ => rfl
  | 40, _ => rfl
  | 41, _ => rfl
  | 42, _ => rfl
  | 43, _ => rfl
  | 44, _ => rfl
  | 45, _ => rfl
  | 46, _ => rfl
  | 48, _ => rfl
  | 50, _ => rfl
  | 51, _ => rfl
  | 52, _ => rfl
  | 53, _ => rfl
  | 54, _ => rfl
  | 55, _ => rfl
  | 56, _ => rfl
  | 57, _ => rfl
  | 58, _ => rfl
  | 59, _ => rfl
  | n + 60, _ => rfl
theorem CWf_6 {v : Int} (e : fu F 6 v = F2) : (CW A D T cy I F Q P).set 1 (A 1, .inr (6, [.int (J (F 1)), .ref (A 2), .ref (A 3), .int (J (F 2)), .ref (A 10), .ref (A 11), .int (J (F 3)), .ref (A 12), .int (J (F 4)), .ref (A 13), .int (J (F 5)), .ref (A 14), .ref (A 15), .int (J v), .ref (A 16), .ref (A 23)])) = CW A D T cy I F2 Q P := by subst e; exact rg_set _ _ P (by decide) (fun j h => cwC_f6 j h) rfl
theorem cwC_f11 {v : Int} (j : Nat) (h : j ≠ 24) : cwC A D e0 e1 e2 e3 T cy I (fu F 11 v) Q j = cwC A D e0 e1 e2 e3 T cy I F Q j := match j, h with
  | 0, _ => rfl
  | 1, _ => rfl
  | 24, h => absurd rfl h
  | 47, _ => rfl
  | 49, _ => rfl
  | 2, _ => rfl
  | 3, _ => rfl
  | 4, _ => rfl
  | 5, _ => rfl
  | 6, _ => rfl
  | 7, _ => rfl
  | 8, _ => rfl
  | 9, _ => rfl
  | 10, _ => rfl
  | 11, _ => rfl
  | 12, _ => rfl
  | 13, _ => rfl
  | 14, _ => rfl
  | 15, _ => rfl
  | 16, _ => rfl
  | 17, _ => rfl
  | 18, _ => rfl
  | 19, _ => rfl
  | 20, _ => rfl
  | 21, _ => rfl
  | 22, _ => rfl
  | 23, _ => rfl
  | 25, _ => rfl
  | 26, _ => rfl
  | 27, _ => rfl
  | 28, _ => rfl
  | 29, _ => rfl
  | 30, _ => rfl
  | 31, _ => rfl
  | 32, _ => rfl
  | 33, _ => rfl
  | 34, _ => rfl
  | 35, _ => rfl
  | 36, _ => rfl
  | 37, _ => rfl
  | 38, _ => rfl
  | 39, _ => rfl
  | 40, _ => rfl
  | 41, _ => rfl
  | 42, _ => rfl
  | 43, _ => rfl
  | 44, _ => rfl
  | 45, _ => rfl
  | 46, _ => rfl
  | 48, _ => rfl
  | 50, _ => rfl
  | 51, _ => rfl
  | 52, _ => rfl
  | 53, _ => rfl
  | 54, _ => rfl
  | 55, _ => rfl
  | 56, _ => rfl
  | 57, _ => rfl
  | 58, _ => rfl
  | 59, _ => rfl
  | n + 60, _ => rfl
theorem CWf_11 {v : Int} (e : fu F 11 v = F2) : (CW A D T cy I F Q P).set 24 (A 24, .inr (6, [.int (J v), .ref (A 25), .ref (A 26), .int (J (F 12)), .ref (A 33), .ref (A 34), .int (J (F 13)), .ref (A 35), .int (J (F 14)), .ref (A 36), .int (J (F 15)), .ref (A 37), .ref (A 38), .int (J (F 16)), .ref (A 39), .ref (A 46)])) = CW A D T cy I F2 Q P := by subst e; exact rg_set _ _ P (by decide) (fun j h => cwC_f11 j h) rfl
theorem cwC_f12 {v : Int} (j : Nat) (h : j ≠ 24) : cwC A D e0 e1 e2 e3 T cy I (fu F 12 v) Q j = cwC A D e0 e1 e2 e3 T cy I F Q j := match j, h with
  | 0, _ => rfl
  | 1, _ => rfl
  | 24, h => absurd rfl h
  | 47, _ => rfl
  | 49, _ => rfl
  | 2, _ => rfl
  | 3, _ => rfl
  | 4, _ => rfl
  | 5, _ => rfl
  | 6, _ => rfl
  | 7, _ => rfl
  | 8, _ => rfl
  | 9, _ => rfl
  | 10, _ => rfl
  | 11, _ => rfl
  | 12, _ => rfl
  | 13, _ => rfl
  | 14, _ => rfl
  | 15, _ => rfl
  | 16, _ => rfl
  | 17, _ => rfl
  | 18, _ => rfl
  | 19, _ => rfl
  | 20, _ => rfl
  | 21, _ => rfl
  | 22, _ => rfl
  | 23, _ => rfl
  | 25, _ => rfl
  | 26, _ => rfl
  | 27, _ => rfl
  | 28, _ => rfl
  | 29, _ => rfl
  | 30, _ => rfl
  | 31, _ => rfl
  | 32, _ => rfl
  | 33, _ => rfl
  | 34, _ => rfl
  | 35, _ => rfl
  | 36, _ => rfl
  | 37, _ => rfl
  | 38, _ => rfl
  | 39, _ => rfl
  | 40, _ => rfl
  | 41, _ => rfl
  | 42, _ => rfl
  | 43, _ => rfl
  | 44, _ => rfl
  | 45, _ => rfl
  | 46, _ => rfl
  | 48, _ => rfl
  | 50, _ => rfl
  | 51, _ => rfl
  | 52, _ => rfl
  | 53, _ => rfl
  | 54, _ => rfl
  | 55, _ => rfl
  | 56, _ => rfl
  | 57, _ => rfl
  | 58, _ => rfl
  | 59, _ => rfl
  | n + 60, _ => rfl
theorem CWf_12 {v : Int} (e : fu F 12 v = F2) : (CW A D T cy I F Q P).set 24 (A 24, .inr (6, [.int (J (F 11)), .ref (A 25), .ref (A 26), .int (J v), .ref (A 33), .ref (A 34), .int (J (F 13)), .ref (A 35), .int (J (F 14)), .ref (A 36), .int (J (F 15)), .ref (A 37), .ref (A 38), .int (J (F 16)), .ref (A 39), .ref (A 46)])) = CW A D T cy I F2 Q P := by subst e; exact rg_set _ _ P (by decide) (fun j h => cwC_f12 j h) rfl
theorem cwC_f13 {v : Int} (j : Nat) (h : j ≠ 24) : cwC A D e0 e1 e2 e3 T cy I (fu F 13 v) Q j = cwC A D e0 e1 e2 e3 T cy I F Q j := match j, h with
  | 0, _ => rfl
  | 1, _ => rfl
  | 24, h => absurd rfl h
  | 47, _ => rfl
  | 49, _ => rfl
  | 2, _ => rfl
  | 3, _ => rfl
  | 4, _ => rfl
  | 5, _ => rfl
  | 6, _ => rfl
  | 7, _ => rfl
  | 8, _ => rfl
  | 9, _ => rfl
  | 10, _ => rfl
  | 11, _ => rfl
  | 12, _ => rfl
  | 13, _ => rfl
  | 14, _ => rfl
  | 15, _ => rfl
  | 16, _ => rfl
  | 17, _ => rfl
  | 18, _ => rfl
  | 19, _ => rfl
  | 20, _ => rfl
  | 21, _ => rfl
  | 22, _ => rfl
  | 23, _ => rfl
  | 25, _ => rfl
  | 26, _ => rfl
  | 27, _ => rfl
  | 28, _ => rfl
  | 29, _ => rfl
  | 30, _ => rfl
  | 31, _ => rfl
  | 32, _ => rfl
  | 33, _ => rfl
  | 34, _ => rfl
  | 35, _ => rfl
  | 36, _ => rfl
  | 37, _ => rfl
  | 38, _ => rfl
  | 39, _ => rfl
  | 40, _ => rfl
  | 41, _ => rfl
  | 42, _ => rfl
  | 43, _ => rfl
  | 44, _ => rfl
  | 45, _ => rfl
  | 46, _ => rfl
  | 48, _ => rfl
  | 50, _ => rfl
  | 51, _ => rfl
  | 52, _ => rfl
  | 53, _ => rfl
  | 54, _ => rfl
  | 55, _ => rfl
  | 56, _ => rfl
  | 57, _ => rfl
  | 58, _ => rfl
  | 59, _ => rfl
  | n + 60, _ => rfl
theorem CWf_13 {v : Int} (e : fu F 13 v = F2) : (CW A D T cy I F Q P).set 24 (A 24, .inr (6, [.int (J (F 11)), .ref (A 25), .ref (A 26), .int (J (F 12)), .ref (A 33), .ref (A 34), .int (J v), .ref (A 35), .int (J (F 14)), .ref (A 36), .int (J (F 15)), .ref (A 37), .ref (A 38), .int (J (F 16)), .ref (A 39), .ref (A 46)])) = CW A D T cy I F2 Q P := by subst e; exact rg_set _ _ P (by decide) (fun j h => cwC_f13 j h) rfl
theorem cwC_f14 {v : Int} (j : Nat) (h : j ≠ 24) : cwC A D e0 e1 e2 e3 T cy I (fu F 14 v) Q j = cwC A D e0 e1 e2 e3 T cy I F Q j := match j, h with
  | 0, _ => rfl
  | 1, _ => rfl
  | 24, h => absurd rfl h
  | 47, _ => rfl
  | 49, _ => rfl
  | 2, _ => rfl
  | 3, _ => rfl
  | 4, _ => rfl
  | 5, _ => rfl
  | 6, _ => rfl
  | 7, _ => rfl
  | 8, _ => rfl
  | 9, _ => rfl
  | 10, _ => rfl
  | 11, _ => rfl
  | 12, _ => rfl
  | 13, _ => rfl
  | 14, _ => rfl
  | 15, _ => rfl
  | 16, _ => rfl
  | 17, _ => rfl
  | 18, _ => rfl
  | 19, _ => rfl
  | 20, _ => rfl
  | 21, _ => rfl
  | 22, _ => rfl
  | 23, _ => rfl
  | 25, _ => rfl
  | 26, _ => rfl
  | 27, _ => rfl
  | 28, _ => rfl
  | 29, _ => rfl
  | 30, _ => rfl
  | 31, _ => rfl
  | 32, _ => rfl
  | 33, _ => rfl
  | 34, _ => rfl
  | 35, _ => rfl
  | 36, _ => rfl
  | 37, _ => rfl
  | 38, _ => rfl
  | 39, _ => rfl
  | 40, _ => rfl
  | 41, _ => rfl
  | 42, _ => rfl
  | 43, _ => rfl
  | 44, _ => rfl
  | 45, _ => rfl
  | 46, _ => rfl
  | 48, _ => rfl
  | 50, _ => rfl
  | 51, _ => rfl
  | 52, _ => rfl
  | 53, _ => rfl
  | 54, _ => rfl
  | 55, _ => rfl
  | 56, _ => rfl
  | 57, _ => rfl
  | 58, _ => rfl
  | 59, _ => rfl
  | n + 60, _ => rfl
theorem CWf_14 {v : Int} (e : fu F 14 v = F2) : (CW A D T cy I F Q P).set 24 (A 24, .inr (6, [.int (J (F 11)), .ref (A 25), .ref (A 26), .int (J (F 12)), .ref (A 33), .ref (A 34), .int (J (F 13)), .ref (A 35), .int (J v), .ref (A 36), .int (J (F 15)), .ref (A 37), .ref (A 38), .int (J (F 16)), .ref (A 39), .ref (A 46)])) = CW A D T cy I F2 Q P := by subst e; exact rg_set _ _ P (by decide) (fun j h => cwC_f14 j h) rfl
theorem cwC_f15 {v : Int} (j : Nat) (h : j ≠ 24) : cwC A D e0 e1 e2 e3 T cy I (fu F 15 v) Q j = cwC A D e0 e1 e2 e3 T cy I F Q j := match j, h with
  | 0, _ => rfl
  | 1, _ => rfl
  | 24, h => absurd rfl h
  | 47, _ => rfl
  | 49, _ => rfl
  | 2, _ => rfl
  | 3, _ => rfl
  | 4, _ => rfl
  | 5, _ => rfl
  | 6, _ => rfl
  | 7, _ => rfl
  | 8, _ => rfl
  | 9, _ => rfl
  | 10, _ => rfl
  | 11, _ => rfl
  | 12, _ => rfl
  | 13, _ => rfl
  | 14, _ => rfl
  | 15, _ => rfl
  | 16, _ => rfl
  | 17, _ => rfl
  | 18, _ => rfl
  | 19, _ => rfl
  | 20, _ => rfl
  | 21, _ => rfl
  | 22, _ => rfl
  | 23, _ => rfl
  | 25, _ => rfl
  | 26, _ => rfl
  | 27, _ => rfl
  | 28, _ => rfl
  | 29, _ => rfl
  | 30, _ => rfl
  | 31, _ => rfl
  | 32, _ => rfl
  | 33, _ => rfl
  | 34, _ => rfl
  | 35, _ => rfl
  | 36, _ => rfl
  | 37, _ => rfl
  | 38, _ => rfl
  | 39, _ => rfl
  | 40, _ => rfl
  | 41, _ => rfl
  | 42, _ => rfl
  | 43, _ => rfl
  | 44, _ => rfl
  | 45, _ => rfl
  | 46, _ => rfl
  | 48, _ => rfl
  | 50, _ => rfl
  | 51, _ => rfl
  | 52, _ => rfl
  | 53, _ => rfl
  | 54, _ => rfl
  | 55, _ => rfl
  | 56, _ => rfl
  | 57, _ => rfl
  | 58, _ => rfl
  | 59, _ => rfl
  | n + 60, _ => rfl
theorem CWf_15 {v : Int} (e : fu F 15 v = F2) : (CW A D T cy I F Q P).set 24 (A 24, .inr (6, [.int (J (F 11)), .ref (A 25), .ref (A 26), .int (J (F 12)), .ref (A 33), .ref (A 34), .int (J (F 13)), .ref (A 35), .int (J (F 14)), .ref (A 36), .int (J v), .ref (A 37), .ref (A 38), .int (J (F 16)), .ref (A 39), .ref (A 46)])) = CW A D T cy I F2 Q P := by subst e; exact rg_set _ _ P (by decide) (fun j h => cwC_f15 j h) rfl
theorem cwC_f16 {v : Int} (j : Nat) (h : j ≠ 24) : cwC A D e0 e1 e2 e3 T cy I (fu F 16 v) Q j = cwC A D e0 e1 e2 e3 T cy I F Q j := match j, h with
  | 0, _ => rfl
  | 1, _ => rfl
  | 24, h => absurd rfl h
  | 47, _ => rfl
  | 49, _ => rfl
  | 2, _ => rfl
  | 3, _ => rfl
  | 4, _ => rfl
  | 5, _ => rfl
  | 6, _ => rfl
  | 7, _ => rfl
  | 8, _ => rfl
  | 9, _ => rfl
  | 10, _ => rfl
  | 11, _ => rfl
  | 12, _ => rfl
  | 13, _ => rfl
  | 14, _ => rfl
  | 15, _ => rfl
  | 16, _ => rfl
  | 17, _ => rfl
  | 18, _ => rfl
  | 19, _ => rfl
  | 20, _ => rfl
  | 21, _ => rfl
  | 22, _ => rfl
  | 23, _ => rfl
  | 25, _ => rfl
  | 26, _ => rfl
  | 27, _ => rfl
  | 28, _ => rfl
  | 29, _ => rfl
  | 30, _ => rfl
  | 31, _ => rfl
  | 32, _ => rfl
  | 33, _ => rfl
  | 34, _ => rfl
  | 35, _ => rfl
  | 36, _ => rfl
  | 37, _ => rfl
  | 38, _ => rfl
  | 39, _ => rfl
  | 40, _ => rfl
  | 41, _ => rfl
  | 42, _ => rfl
  | 43, _ => rfl
  | 44, _ => rfl
  | 45, _ => rfl
  | 46, _ => rfl
  | 48, _ => rfl
  | 50, _ => rfl
  | 51, _ => rfl
  | 52, _ => rfl
  | 53, _ => rfl
  | 54, _ => rfl
  | 55, _ => rfl
  | 56, _ => rfl
  | 57, _ => rfl
  | 58, _ => rfl
  | 59, _ => rfl
  | n + 60, _ => rfl
theorem CWf_16 {v : Int} (e : fu F 16 v = F2) : (CW A D T cy I F Q P).set 24 (A 24, .inr (6, [.int (J (F 11)), .ref (A 25), .ref (A 26), .int (J (F 12)), .ref (A 33), .ref (A 34), .int (J (F 13)), .ref (A 35), .int (J (F 14)), .ref (A 36), .int (J (F 15)), .ref (A 37), .ref (A 38), .int (J v), .ref (A 39), .ref (A 46)])) = CW A D T cy I F2 Q P := by subst e; exact rg_set _ _ P (by decide) (fun j h => cwC_f16 j h) rfl
theorem cwC_f20 {v : Int} (j : Nat) (h : j ≠ 47) : cwC A D e0 e1 e2 e3 T cy I (fu F 20 v) Q j = cwC A D e0 e1 e2 e3 T cy I F Q j := match j, h with
  | 0, _ => rfl
  | 1, _ => rfl
  | 24, _ => rfl
  | 47, h => absurd rfl h
  | 49, _ => rfl
  | 2, _ => rfl
  | 3, _ => rfl
  | 4, _ => rfl
  | 5, _ => rfl
  | 6, _ => rfl
  | 7, _ => rfl
  | 8, _ => rfl
  | 9, _ => rfl
  | 10, _ => rfl
  | 11, _ => rfl
  | 12, _ => rfl
  | 13, _ => rfl
  | 14, _ => rfl
  | 15, _ => rfl
  | 16, _ => rfl
  | 17, _ => rfl
  | 18, _ => rfl
  | 19, _ => rfl
  | 20, _ => rfl
  | 21, _ => rfl
  | 22, _ => rfl
  | 23, _ => rfl
  | 25, _ => rfl
  | 26, _ => rfl
  | 27, _ => rfl
  | 28, _ => rfl
  | 29, _ => rfl
  | 30, _ => rfl
  | 31, _ => rfl
  | 32, _ => rfl
  | 33, _ => rfl
  | 34, _ => rfl
  | 35, _ => rfl
  | 36, _ => rfl
  | 37, _ => rfl
  | 38, _ => rfl
  | 39, _ => rfl
  | 40, _ => rfl
  | 41, _ => rfl
  | 42, _ => rfl
  | 43, _ => rfl
  | 44, _ => rfl
  | 45, _ => rfl
  | 46, _ => rfl
  | 48, _ => rfl
  | 50, _ => rfl
  | 51, _ => rfl
  | 52, _ => rfl
  | 53, _ => rfl
  | 54, _ => rfl
  | 55, _ => rfl
  | 56, _ => rfl
  | 57, _ => rfl
  | 58, _ => rfl
  | 59, _ => rfl
  | n + 60, _ => rfl
theorem CWf_20 {v : Int} (e : fu F 20 v = F2) : (CW A D T cy I F Q P).set 47 (A 47, .inr (3, [.ref (A 48), .int (J v), .ref T, .int (J (F 21)), .int (J (F 22)), .int (J (F 23)), .int (J (F 24))])) = CW A D T cy I F2 Q P := by subst e; exact rg_set _ _ P (by decide) (fun j h => cwC_f20 j h) rfl
theorem cwC_f21 {v : Int} (j : Nat) (h : j ≠ 47) : cwC A D e0 e1 e2 e3 T cy I (fu F 21 v) Q j = cwC A D e0 e1 e2 e3 T cy I F Q j := match j, h with
  | 0, _ => rfl
  | 1, _ => rfl
  | 24, _ => rfl
  | 47, h => absurd rfl h
  | 49, _ => rfl
  | 2, _ => rfl
  | 3, _ => rfl
  | 4, _ => rfl
  | 5, _ => rfl
  | 6, _ => rfl
  | 7, _ => rfl
  | 8, _ => rfl
  | 9, _ => rfl
  | 10, _ => rfl
  | 11, _ => rfl
  | 12, _ => rfl
  | 13, _ => rfl
  | 14, _ => rfl
  | 15, _ => rfl
  | 16, _ => rfl
  | 17, _ => rfl
  | 18, _ => rfl
  | 19, _ => rfl
  | 20, _ => rfl
  | 21, _ => rfl
  | 22, _ => rfl
  | 23, _ => rfl
  | 25, _ => rfl
  | 26, _ => rfl
  | 27, _ => rfl
  | 28, _ => rfl
  | 29, _ => rfl
  | 30, _ => rfl
  | 31, _ => rfl
  | 32, _ => rfl
  | 33, _ => rfl
  | 34, _ => rfl
  | 35, _ => rfl
  | 36, _ => rfl
  | 37, _ => rfl
  | 38, _ => rfl
  | 39, _ => rfl
  | 40, _ => rfl
  | 41, _ => rfl
  | 42, _ => rfl
  | 43, _ => rfl
  | 44, _ => rfl
  | 45, _ => rfl
  | 46, _ => rfl
  | 48, _ => rfl
  | 50, _ => rfl
  | 51, _ => rfl
  | 52, _ => rfl
  | 53, _ => rfl
  | 54, _ => rfl
  | 55, _ => rfl
  | 56, _ => rfl
  | 57, _ => rfl
  | 58, _ => rfl
  | 59, _ => rfl
  | n + 60, _ => rfl
theorem CWf_21 {v : Int} (e : fu F 21 v = F2) : (CW A D T cy I F Q P).set 47 (A 47, .inr (3, [.ref (A 48), .int (J (F 20)), .ref T, .int (J v), .int (J (F 22)), .int (J (F 23)), .int (J (F 24))])) = CW A D T cy I F2 Q P := by subst e; exact rg_set _ _ P (by decide) (fun j h => cwC_f21 j h) rfl
theorem cwC_f22 {v : Int} (j : Nat) (h : j ≠ 47) : cwC A D e0 e1 e2 e3 T cy I (fu F 22 v) Q j = cwC A D e0 e1 e2 e3 T cy I F Q j := match j, h with
  | 0, _ => rfl
  | 1, _ => rfl
  | 24, _ => rfl
  | 47, h => absurd rfl h
  | 49, _ => rfl
  | 2, _ => rfl
  | 3, _ => rfl
  | 4, _ => rfl
  | 5, _ => rfl
  | 6, _ => rfl
  | 7, _ => rfl
  | 8, _ => rfl
  | 9, _ => rfl
  | 10, _ => rfl
  | 11, _ => rfl
  | 12, _ => rfl
  | 13, _ => rfl
  | 14, _ => rfl
  | 15, _ => rfl
  | 16, _ => rfl
  | 17, _ => rfl
  | 18, _ => rfl
  | 19, _ => rfl
  | 20, _ => rfl
  | 21, _ => rfl
  | 22, _ => rfl
  | 23, _ => rfl
  | 25, _ => rfl
  | 26, _ => rfl
  | 27, _ => rfl
  | 28, _ => rfl
  | 29, _ => rfl
  | 30, _ => rfl
  | 31, _ => rfl
  | 32, _ => rfl
  | 33, _ => rfl
  | 34, _ => rfl
  | 35, _ => rfl
  | 36, _ => rfl
  | 37, _ => rfl
  | 38, _ => rfl
  | 39, _ => rfl
  | 40, _ => rfl
  | 41, _ => rfl
  | 42, _ => rfl
  | 43, _ => rfl
  | 44, _ => rfl
  | 45, _ => rfl
  | 46, _ => rfl
  | 48, _ => rfl
  | 50, _ => rfl
  | 51, _ => rfl
  | 52, _ => rfl
  | 53, _ => rfl
  | 54, _ => rfl
  | 55, _ => rfl
  | 56, _ => rfl
  | 57, _ => rfl
  | 58, _ => rfl
  | 59, _ => rfl
  | n + 60, _ => rfl
theorem CWf_22 {v : Int} (e : fu F 22 v = F2) : (CW A D T cy I F Q P).set 47 (A 47, .inr (3, [.ref (A 48), .int (J (F 20)), .ref T, .int (J (F 21)), .int (J v), .int (J (F 23)), .int (J (F 24))])) = CW A D T cy I F2 Q P := by subst e; exact rg_set _ _ P (by decide) (fun j h => cwC_f22 j h) rfl
theorem cwC_f23 {v : Int} (j : Nat) (h : j ≠ 47) : cwC A D e0 e1 e2 e3 T cy I (fu F 23 v) Q j = cwC A D e0 e1 e2 e3 T cy I F Q j := match j, h with
  | 0, _ => rfl
  | 1, _ => rfl
  | 24, _ => rfl
  | 47, h => absurd rfl h
  | 49, _ => rfl
  | 2, _ => rfl
  | 3, _ => rfl
  | 4, _ => rfl
  | 5, _ => rfl
  | 6, _ => rfl
  | 7, _ => rfl
  | 8, _ => rfl
  | 9, _ => rfl
  | 10, _ => rfl
  | 11, _ => rfl
  | 12, _ => rfl
  | 13, _ => rfl
  | 14, _ => rfl
  | 15, _ => rfl
  | 16, _ => rfl
  | 17, _ => rfl
  | 18, _ => rfl
  | 19, _ => rfl
  | 20, _ => rfl
  | 21, _ => rfl
  | 22, _ => rfl
  | 23, _ => rfl
  | 25, _ => rfl
  | 26, _ => rfl
  | 27, _ => rfl
  | 28, _ => rfl
  | 29, _ => rfl
  | 30, _ => rfl
  | 31, _ => rfl
  | 32, _ => rfl
  | 33, _ => rfl
  | 34, _ => rfl
  | 35, _ => rfl
  | 36, _ => rfl
  | 37, _ => rfl
  | 38, _ => rfl
  | 39, _ => rfl
  | 40, _ => rfl
  | 41, _ => rfl
  | 42, _ => rfl
  | 43, _ => rfl
  | 44, _ => rfl
  | 45, _ => rfl
  | 46, _ => rfl
  | 48, _ => rfl
  | 50, _ => rfl
  | 51, _ => rfl
  | 52, _ => rfl
  | 53, _ => rfl
  | 54, _ => rfl
  | 55, _ => rfl
  | 56, _ => rfl
  | 57, _ => rfl
  | 58, _ => rfl
  | 59, _ => rfl
  | n + 60, _ => rfl
theorem CWf_23 {v : Int} (e : fu F 23 v = F2) : (CW A D T cy I F Q P).set 47 (A 47, .inr (3, [.ref (A 48), .int (J (F 20)), .ref T, .int (J (F 21)), .int (J (F 22)), .int (J v), .int (J (F 24))])) = CW A D T cy I F2 Q P := by subst e; exact rg_set _ _ P (by decide) (fun j h => cwC_f23 j h) rfl
theorem cwC_f24 {v : Int} (j : Nat) (h : j ≠ 47) : cwC A D e0 e1 e2 e3 T cy I (fu F 24 v) Q j = cwC A D e0 e1 e2 e3 T cy I F Q j := match j, h with
  | 0, _ => rfl
  | 1, _ => rfl
  | 24, _ => rfl
  | 47, h => absurd rfl h
  | 49, _ => rfl
  | 2, _ => rfl
  | 3, _ => rfl
  | 4, _ => rfl
  | 5, _ => rfl
  | 6, _ => rfl
  | 7, _ => rfl
  | 8, _ => rfl
  | 9, _ => rfl
  | 10, _ => rfl
  | 11, _ => rfl
  | 12, _ => rfl
  | 13, _ => rfl
  | 14, _ => rfl
  | 15, _ => rfl
  | 16, _ => rfl
  | 17, _ => rfl
  | 18, _ => rfl
  | 19, _ => rfl
  | 20, _ => rfl
  | 21, _ => rfl
  | 22, _ => rfl
  | 23, _ => rfl
  | 25, _ => rfl
  | 26, _ => rfl
  | 27, _ => rfl
  | 28, _ => rfl
  | 29, _ => rfl
  | 30, _ => rfl
  | 31, _ => rfl
  | 32, _ => rfl
  | 33, _ => rfl
  | 34, _ => rfl
  | 35, _ => rfl
  | 36, _ => rfl
  | 37, _ => rfl
  | 38, _ => rfl
  | 39, _ => rfl
  | 40, _ => rfl
  | 41, _ => rfl
  | 42, _ => rfl
  | 43, _ => rfl
  | 44, _ => rfl
  | 45, _ => rfl
  | 46, _ => rfl
  | 48, _ => rfl
  | 50, _ => rfl
  | 51, _ => rfl
  | 52, _ => rfl
  | 53, _ => rfl
  | 54, _ => rfl
  | 55, _ => rfl
  | 56, _ => rfl
  | 57, _ => rfl
  | 58, _ => rfl
  | 59, _ => rfl
  | n + 60, _ => rfl
theorem CWf_24 {v : Int} (e : fu F 24 v = F2) : (CW A D T cy I F Q P).set 47 (A 47, .inr (3, [.ref (A 48), .int (J (F 20)), .ref T, .int (J (F 21)), .int (J (F 22)), .int (J (F 23)), .int (J v)])) = CW A D T cy I F2 Q P := by subst e; exact rg_set _ _ P (by decide) (fun j h => cwC_f24 j h) rfl
theorem cwC_f30 {v : Int} (j : Nat) (h : j ≠ 49) : cwC A D e0 e1 e2 e3 T cy I (fu F 30 v) Q j = cwC A D e0 e1 e2 e3 T cy I F Q j := match j, h with
  | 0, _ => rfl
  | 1, _ => rfl
  | 24, _ => rfl
  | 47, _ => rfl
  | 49, h => absurd rfl h
  | 2, _ => rfl
  | 3, _ => rfl
  | 4, _ => rfl
  | 5, _ => rfl
  | 6, _ => rfl
  | 7, _ => rfl
  | 8, _ => rfl
  | 9, _ => rfl
  | 10, _ => rfl
  | 11, _ => rfl
  | 12, _ => rfl
  | 13, _ => rfl
  | 14, _ => rfl
  | 15, _ => rfl
  | 16, _ => rfl
  | 17, _ => rfl
  | 18, _ => rfl
  | 19, _ => rfl
  | 20, _ => rfl
  | 21, _ => rfl
  | 22, _ => rfl
  | 23, _ => rfl
  | 25, _ => rfl
  | 26, _ => rfl
  | 27, _ => rfl
  | 28, _ => rfl
  | 29, _ => rfl
  | 30, _ => rfl
  | 31, _ => rfl
  | 32, _ => rfl
  | 33, _ => rfl
  | 34, _ => rfl
  | 35, _ => rfl
  | 36, _ => rfl
  | 37, _ => rfl
  | 38, _ => rfl
  | 39, _ => rfl
  | 40, _ => rfl
  | 41, _ => rfl
  | 42, _ => rfl
  | 43, _ => rfl
  | 44, _ => rfl
  | 45, _ => rfl
  | 46, _ => rfl
  | 48, _ => rfl
  | 50, _ => rfl
  | 51, _ => rfl
  | 52, _ => rfl
  | 53, _ => rfl
  | 54, _ => rfl
  | 55, _ => rfl
  | 56, _ => rfl
  | 57, _ => rfl
  | 58, _ => rfl
  | 59, _ => rfl
  | n + 60, _ => rfl
theorem CWf_30 {v : Int} (e : fu F 30 v = F2) : (CW A D T cy I F Q P).set 49 (A 49, .inr (4, [.ref (A 1), .ref (D 0), .ref (D 1), .int (J v), .ref (D 2), .ref (D 3), .int (J (F 31)), .long (JL (F 32)), .ref (A 54)])) = CW A D T cy I F2 Q P := by subst e; exact rg_set _ _ P (by decide) (fun j h => cwC_f30 j h) rfl
theorem cwC_f31 {v : Int} (j : Nat) (h : j ≠ 49) : cwC A D e0 e1 e2 e3 T cy I (fu F 31 v) Q j = cwC A D e0 e1 e2 e3 T cy I F Q j := match j, h with
  | 0, _ => rfl
  | 1, _ => rfl
  | 24, _ => rfl
  | 47, _ => rfl
  | 49, h => absurd rfl h
  | 2, _ => rfl
  | 3, _ => rfl
  | 4, _ => rfl
  | 5, _ => rfl
  | 6, _ => rfl
  | 7, _ => rfl
  | 8, _ => rfl
  | 9, _ => rfl
  | 10, _ => rfl
  | 11, _ => rfl
  | 12, _ => rfl
  | 13, _ => rfl
  | 14, _ => rfl
  | 15, _ => rfl
  | 16, _ => rfl
  | 17, _ => rfl
  | 18, _ => rfl
  | 19, _ => rfl
  | 20, _ => rfl
  | 21, _ => rfl
  | 22, _ => rfl
  | 23, _ => rfl
  | 25, _ => rfl
  | 26, _ => rfl
  | 27, _ => rfl
  | 28, _ => rfl
  | 29, _ => rfl
  | 30, _ => rfl
  | 31, _ => rfl
  | 32, _ => rfl
  | 33, _ => rfl
  | 34, _ => rfl
  | 35, _ => rfl
  | 36, _ => rfl
  | 37, _ => rfl
  | 38, _ => rfl
  | 39, _ => rfl
  | 40, _ => rfl
  | 41, _ => rfl
  | 42, _ => rfl
  | 43, _ => rfl
  | 44, _ => rfl
  | 45, _ => rfl
  | 46, _ => rfl
  | 48, _ => rfl
  | 50, _ => rfl
  | 51, _ => rfl
  | 52, _ => rfl
  | 53, _ => rfl
  | 54, _ => rfl
  | 55, _ => rfl
  | 56, _ => rfl
  | 57, _ => rfl
  | 58, _ => rfl
  | 59, _ => rfl
  | n + 60, _ => rfl
theorem CWf_31 {v : Int} (e : fu F 31 v = F2) : (CW A D T cy I F Q P).set 49 (A 49, .inr (4, [.ref (A 1), .ref (D 0), .ref (D 1), .int (J (F 30)), .ref (D 2), .ref (D 3), .int (J v), .long (JL (F 32)), .ref (A 54)])) = CW A D T cy I F2 Q P := by subst e; exact rg_set _ _ P (by decide) (fun j h => cwC_f31 j h) rfl
theorem cwC_f32 {v : Int} (j : Nat) (h : j ≠ 49) : cwC A D e0 e1 e2 e3 T cy I (fu F 32 v) Q j = cwC A D e0 e1 e2 e3 T cy I F Q j := match j, h with
  | 0, _ => rfl
  | 1, _ => rfl
  | 24, _ => rfl
  | 47, _ => rfl
  | 49, h => absurd rfl h
  | 2, _ => rfl
  | 3, _ => rfl
  | 4, _ => rfl
  | 5, _ => rfl
  | 6, _ => rfl
  | 7, _ => rfl
  | 8, _ => rfl
  | 9, _ => rfl
  | 10, _ => rfl
  | 11, _ => rfl
  | 12, _ => rfl
  | 13, _ => rfl
  | 14, _ => rfl
  | 15, _ => rfl
  | 16, _ => rfl
  | 17, _ => rfl
  | 18, _ => rfl
  | 19, _ => rfl
  | 20, _ => rfl
  | 21, _ => rfl
  | 22, _ => rfl
  | 23, _ => rfl
  | 25, _ => rfl
  | 26, _ => rfl
  | 27, _ => rfl
  | 28, _ => rfl
  | 29, _ => rfl
  | 30, _ => rfl
  | 31, _ => rfl
  | 32, _ => rfl
  | 33, _ => rfl
  | 34, _ => rfl
  | 35, _ => rfl
  | 36, _ => rfl
  | 37, _ => rfl
  | 38, _ => rfl
  | 39, _ => rfl
  | 40, _ => rfl
  | 41, _ => rfl
  | 42, _ => rfl
  | 43, _ => rfl
  | 44, _ => rfl
  | 45, _ => rfl
  | 46, _ => rfl
  | 48, _ => rfl
  | 50, _ => rfl
  | 51, _ => rfl
  | 52, _ => rfl
  | 53, _ => rfl
  | 54, _ => rfl
  | 55, _ => rfl
  | 56, _ => rfl
  | 57, _ => rfl
  | 58, _ => rfl
  | 59, _ => rfl
  | n + 60, _ => rfl
theorem CWf_32 {v : Int} (e : fu F 32 v = F2) : (CW A D T cy I F Q P).set 49 (A 49, .inr (4, [.ref (A 1), .ref (D 0), .ref (D 1), .int (J (F 30)), .ref (D 2), .ref (D 3), .int (J (F 31)), .long (JL v), .ref (A 54)])) = CW A D T cy I F2 Q P := by subst e; exact rg_set _ _ P (by decide) (fun j h => cwC_f32 j h) rfl
theorem cwC_e {x0 x1 x2 x3 : Nat} (j : Nat) (h : j ≠ 49) : cwC A D x0 x1 x2 x3 T cy I F Q j = cwC A D e0 e1 e2 e3 T cy I F Q j := match j, h with
  | 0, _ => rfl
  | 1, _ => rfl
  | 2, _ => rfl
  | 3, _ => rfl
  | 4, _ => rfl
  | 5, _ => rfl
  | 6, _ => rfl
  | 7, _ => rfl
  | 8, _ => rfl
  | 9, _ => rfl
  | 10, _ => rfl
  | 11, _ => rfl
  | 12, _ => rfl
  | 13, _ => rfl
  | 14, _ => rfl
  | 15, _ => rfl
  | 16, _ => rfl
  | 17, _ => rfl
  | 18, _ => rfl
  | 19, _ => rfl
  | 20, _ => rfl
  | 21, _ => rfl
  | 22, _ => rfl
  | 23, _ => rfl
  | 24, _ => rfl
  | 25, _ => rfl
  | 26, _ => rfl
  | 27, _ => rfl
  | 28, _ => rfl
  | 29, _ => rfl
  | 30, _ => rfl
  | 31, _ => rfl
  | 32, _ => rfl
  | 33, _ => rfl
  | 34, _ => rfl
  | 35, _ => rfl
  | 36, _ => rfl
  | 37, _ => rfl
  | 38, _ => rfl
  | 39, _ => rfl
  | 40, _ => rfl
  | 41, _ => rfl
  | 42, _ => rfl
  | 43, _ => rfl
  | 44, _ => rfl
  | 45, _ => rfl
  | 46, _ => rfl
  | 47, _ => rfl
  | 48, _ => rfl
  | 49, h => absurd rfl h
  | 50, _ => rfl
  | 51, _ => rfl
  | 52, _ => rfl
  | 53, _ => rfl
  | 54, _ => rfl
  | 55, _ => rfl
  | 56, _ => rfl
  | 57, _ => rfl
  | 58, _ => rfl
  | 59, _ => rfl
  | n + 60, _ => rfl
theorem CWE_set {x0 x1 x2 x3 : Nat} : (CWE A D e0 e1 e2 e3 T cy I F Q P).set 49 (A 49, .inr (4, [.ref (A 1), .ref x0, .ref x1, .int (J (F 30)), .ref x2, .ref x3, .int (J (F 31)), .long (JL (F 32)), .ref (A 54)])) = CWE A D x0 x1 x2 x3 T cy I F Q P := rg_set _ _ P (by decide) (fun j h => cwC_e j h) rfl
theorem CWEf_30 {v : Int} (e : fu F 30 v = F2) : (CWE A D e0 e1 e2 e3 T cy I F Q P).set 49 (A 49, .inr (4, [.ref (A 1), .ref e0, .ref e1, .int (J v), .ref e2, .ref e3, .int (J (F 31)), .long (JL (F 32)), .ref (A 54)])) = CWE A D e0 e1 e2 e3 T cy I F2 Q P := by subst e; exact rg_set _ _ P (by decide) (fun j h => cwC_f30 j h) rfl
theorem CWEf_31 {v : Int} (e : fu F 31 v = F2) : (CWE A D e0 e1 e2 e3 T cy I F Q P).set 49 (A 49, .inr (4, [.ref (A 1), .ref e0, .ref e1, .int (J (F 30)), .ref e2, .ref e3, .int (J v), .long (JL (F 32)), .ref (A 54)])) = CWE A D e0 e1 e2 e3 T cy I F2 Q P := by subst e; exact rg_set _ _ P (by decide) (fun j h => cwC_f31 j h) rfl
theorem CWEf_32 {v : Int} (e : fu F 32 v = F2) : (CWE A D e0 e1 e2 e3 T cy I F Q P).set 49 (A 49, .inr (4, [.ref (A 1), .ref e0, .ref e1, .int (J (F 30)), .ref e2, .ref e3, .int (J (F 31)), .long (JL v), .ref (A 54)])) = CWE A D e0 e1 e2 e3 T cy I F2 Q P := by subst e; exact rg_set _ _ P (by decide) (fun j h => cwC_f32 j h) rfl
theorem cwC_T {T2 : Nat} (j : Nat) (h : j ≠ 47) : cwC A D e0 e1 e2 e3 T2 cy I F Q j = cwC A D e0 e1 e2 e3 T cy I F Q j := match j, h with
  | 0, _ => rfl
  | 1, _ => rfl
  | 2, _ => rfl
  | 3, _ => rfl
  | 4, _ => rfl
  | 5, _ => rfl
  | 6, _ => rfl
  | 7, _ => rfl
  | 8, _ => rfl
  | 9, _ => rfl
  | 10, _ => rfl
  | 11, _ => rfl
  | 12, _ => rfl
  | 13, _ => rfl
  | 14, _ => rfl
  | 15, _ => rfl
  | 16, _ => rfl
  | 17, _ => rfl
  | 18, _ => rfl
  | 19, _ => rfl
  | 20, _ => rfl
  | 21, _ => rfl
  | 22, _ => rfl
  | 23, _ => rfl
  | 24, _ => rfl
  | 25, _ => rfl
  | 26, _ => rfl
  | 27, _ => rfl
  | 28, _ => rfl
  | 29, _ => rfl
  | 30, _ => rfl
  | 31, _ => rfl
  | 32, _ => rfl
  | 33, _ => rfl
  | 34, _ => rfl
  | 35, _ => rfl
  | 36, _ => rfl
  | 37, _ => rfl
  | 38, _ => rfl
  | 39, _ => rfl
  | 40, _ => rfl
  | 41, _ => rfl
  | 42, _ => rfl
  | 43, _ => rfl
  | 44, _ => rfl
  | 45, _ => rfl
  | 46, _ => rfl
  | 47, h => absurd rfl h
  | 48, _ => rfl
  | 49, _ => rfl
  | 50, _ => rfl
  | 51, _ => rfl
  | 52, _ => rfl
  | 53, _ => rfl
  | 54, _ => rfl
  | 55, _ => rfl
  | 56, _ => rfl
  | 57, _ => rfl
  | 58, _ => rfl
  | 59, _ => rfl
  | n + 60, _ => rfl
theorem CW_T {T2 : Nat} : (CW A D T cy I F Q P).set 47 (A 47, .inr (3, [.ref (A 48), .int (J (F 20)), .ref T2, .int (J (F 21)), .int (J (F 22)), .int (J (F 23)), .int (J (F 24))])) = CW A D T2 cy I F Q P := rg_set _ _ P (by decide) (fun j h => cwC_T j h) rfl
end CWS
/-! ===== rows that name what is read ===== -/
theorem w_weq {K : KT} {G : GT} {cs ss pc : Nat} {w w2 : va_W} {lv : List (Nat × Value)} {st : List Value} (e : w = w2) (k : WW K G cs ss w2 pc lv st) : WW K G cs ss w pc lv st := e ▸ k
section RDV
variable {K : KT} {G : GT} {cc : ByteArray} {own : String} {d mc ms cs ss pc : Nat} {w : va_W} {lv : List (Nat × Value)} {st : List Value}
theorem w_ialdV (hC : KOK K G cc own d mc ms) {a n : Nat} {g : Int → Int} {e v : Int} (hd : decode cc pc = .ok (.iaload, 1)) (q0 : Nat) (he : w[q0]? = some (a, .inl (G.2.1 0, n, .inl (jf g)))) (hr : 0 ≤ e ∧ e < (n : Int)) (hn : n ≤ 2000000) (hv : g e = v) (k : WW K G cs ss w (pc + 1) lv (.int (J v) :: st)) : WW K G cs ss w pc lv (.int (J e) :: .ref a :: st) := w_iald hC hd q0 he hr hn (hv ▸ k)
theorem w_baldV (hC : KOK K G cc own d mc ms) {a n : Nat} {g : Int → Int} {e v : Int} (hd : decode cc pc = .ok (.baload, 1)) (q0 : Nat) (he : w[q0]? = some (a, .inl (G.2.1 3, n, .inl (jf g)))) (hr : 0 ≤ e ∧ e < (n : Int)) (hn : n ≤ 2000000) (hv : g e = v) (k : WW K G cs ss w (pc + 1) lv (.int (J v) :: st)) : WW K G cs ss w pc lv (.int (J e) :: .ref a :: st) := w_bald hC hd q0 he hr hn (hv ▸ k)
theorem w_laldV (hC : KOK K G cc own d mc ms) {a n : Nat} {g : Int → Int} {e v : Int} (hd : decode cc pc = .ok (.laload, 1)) (q0 : Nat) (he : w[q0]? = some (a, .inl (G.2.1 1, n, .inr (.inl (jlf g))))) (hr : 0 ≤ e ∧ e < (n : Int)) (hn : n ≤ 2000000) (hv : g e = v) (k : WW K G cs ss w (pc + 1) lv (.long (JL v) :: st)) : WW K G cs ss w pc lv (.int (J e) :: .ref a :: st) := w_lald hC hd q0 he hr hn (hv ▸ k)
theorem w_aaldS (hC : KOK K G cc own d mc ms) {a n t0 q : Nat} {f : Nat → Option Nat} {cA : ClassId} {ty : FieldType} {e : Int} (hd : decode cc pc = .ok (.aaload, 1)) (q0 : Nat) (he : w[q0]? = some (a, .inl (cA, n, .inr (.inr (.inr (.inr f)))))) (ht : (TY G.2.1)[t0]? = some (cA, ty)) (hty : ty.isReference = true) (hr : 0 ≤ e ∧ e < (n : Int)) (hn : n ≤ 2000000) (hf : f e.toNat = some q) (k : WW K G cs ss w (pc + 1) lv (.ref q :: st)) : WW K G cs ss w pc lv (.int (J e) :: .ref a :: st) := w_aald hC hd q0 he ht hty hr hn (by rw [hf]; exact k)
end RDV
theorem rw6_at {A : Nat → Nat} {b : Nat} {e : Int} (h : 0 ≤ e ∧ e < 6) : rw6 A b e.toNat = some (A (b + e.toNat)) := if_pos (by omega)

