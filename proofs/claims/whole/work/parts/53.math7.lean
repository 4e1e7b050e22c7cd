/-! ===== pairs, counted by names or by rungs ===== -/
theorem sumN_congr {f g : Int → Int} : ∀ {k : Nat}, (∀ i : Int, 0 ≤ i → i < (k : Int) → f i = g i) → sumN f k = sumN g k
  | 0, _ => rfl
  | k + 1, h => by
    unfold sumN
    rw [sumN_congr (k := k) (fun i h1 h2 => h i h1 (by omega)), h (k : Int) (by omega) (by omega)]
theorem sumN_add (f g : Int → Int) : ∀ k : Nat, sumN (fun i => f i + g i) k = sumN f k + sumN g k
  | 0 => rfl
  | k + 1 => by
    show sumN (fun i => f i + g i) k + (f (k : Int) + g (k : Int)) = sumN f k + f (k : Int) + (sumN g k + g (k : Int))
    rw [sumN_add f g k]
    omega
theorem sumN_0 : ∀ k : Nat, sumN (fun _ => (0 : Int)) k = 0
  | 0 => rfl
  | k + 1 => by
    show sumN (fun _ => (0 : Int)) k + 0 = 0
    rw [sumN_0 k]
    rfl
theorem sumN_swap (g : Int → Int → Int) (m : Nat) : ∀ n : Nat, sumN (fun k => sumN (fun x => g k x) n) m = sumN (fun x => sumN (fun k => g k x) m) n
  | 0 => by
    show sumN (fun k => (0 : Int)) m = 0
    exact sumN_0 m
  | n + 1 => by
    show sumN (fun k => sumN (fun x => g k x) n + g k (n : Int)) m = sumN (fun x => sumN (fun k => g k x) m) n + sumN (fun k => g k (n : Int)) m
    rw [sumN_add, sumN_swap g m n]
theorem sumN_one {v y : Int} : ∀ {n : Nat}, 0 ≤ y → y < (n : Int) → sumN (fun x => if x = y then v else 0) n = v
  | 0, h0, h1 => by omega
  | n + 1, h0, h1 => by
    show sumN (fun x => if x = y then v else 0) n + (if (n : Int) = y then v else 0) = v
    by_cases c : (n : Int) = y
    · rw [if_pos c, sumN_congr (g := fun _ => 0) (fun i a b => by rw [if_neg (by omega)]), sumN_0]
      omega
    · rw [if_neg c, sumN_one (n := n) h0 (by omega)]
      omega
/-- a sum over the rungs of a board is the sum over the names -/
theorem sumN_perm {n b : Int} (h : VB n b) (f : Int → Int) : sumN (fun k => f (dg b k)) n.toNat = sumN f n.toNat := by
  have hn := h.1
  have e1 : sumN (fun k => f (dg b k)) n.toNat = sumN (fun k => sumN (fun x => if x = dg b k then f x else 0) n.toNat) n.toNat := sumN_congr (fun k k0 k1 => by
    have hd := VB_dg h k0 (r := k) (by omega)
    have : sumN (fun x => if x = dg b k then f x else 0) n.toNat = sumN (fun x => if x = dg b k then f (dg b k) else 0) n.toNat := sumN_congr (fun x _ _ => by
      by_cases c : x = dg b k
      · rw [if_pos c, if_pos c, c]
      · rw [if_neg c, if_neg c])
    rw [this, sumN_one hd.1 (by omega)])
  rw [e1, sumN_swap]
  refine sumN_congr (fun x x0 x1 => ?_)
  have hk := rk_spec h x0 (a := x) (by omega)
  have : sumN (fun k => if x = dg b k then f x else 0) n.toNat = sumN (fun k => if k = rk n b x then f x else 0) n.toNat := sumN_congr (fun k k0 k1 => by
    by_cases c : x = dg b k
    · rw [if_pos c, if_pos (rk_uniq h k0 (by omega) c.symm).symm]
    · rw [if_neg c, if_neg (fun e => c (by rw [e]; exact hk.2.symm))])
  rw [this, sumN_one hk.1.1 (by omega)]
theorem sumN_rs (f : Int → Int) (n : Nat) : rs f 0 (n : Int) = sumN f n := by
  unfold rs
  rw [show ((n : Int) - 0).toNat = n by omega]
  exact sumN_congr (fun i _ _ => by rw [Int.zero_add])
/-- all pairs are twice those of one side -/
theorem full_low {G : Int → Int → Int} (hs : ∀ a b : Int, G a b = G b a) (hz : ∀ a : Int, G a a = 0) : ∀ n : Nat, sumN (fun a => sumN (fun b => G a b) n) n = 2 * sumN (fun a => sumN (fun b => G a b) a.toNat) n
  | 0 => rfl
  | n + 1 => by
    have ih := full_low hs hz n
    show sumN (fun a => sumN (fun b => G a b) n + G a (n : Int)) n + (sumN (fun b => G (n : Int) b) n + G (n : Int) (n : Int)) = 2 * (sumN (fun a => sumN (fun b => G a b) a.toNat) n + sumN (fun b => G (n : Int) b) ((n : Int)).toNat)
    rw [sumN_add, ih, hz, Int.toNat_natCast, sumN_congr (f := fun a => G a (n : Int)) (g := fun b => G (n : Int) b) (fun i _ _ => hs _ _)]
    omega
theorem up_low (G : Int → Int → Int) : ∀ n : Nat, sumN (fun h => rs (fun l => G h l) (h + 1) (n : Int)) n = sumN (fun l => sumN (fun h => G h l) l.toNat) n
  | 0 => rfl
  | n + 1 => by
    have ih := up_low G n
    show sumN (fun h => rs (fun l => G h l) (h + 1) ((n + 1 : Nat) : Int)) n + rs (fun l => G (n : Int) l) ((n : Int) + 1) ((n + 1 : Nat) : Int) = sumN (fun l => sumN (fun h => G h l) l.toNat) n + sumN (fun h => G h (n : Int)) ((n : Int)).toNat
    rw [show ((n + 1 : Nat) : Int) = (n : Int) + 1 by omega, rs_0, Int.toNat_natCast, ← ih, ← sumN_add, Int.add_zero]
    exact sumN_congr (fun i i0 i1 => rs_s _ (by omega))
theorem cnt_sum (p : Int → Bool) : ∀ k : Nat, cnt p k = sumN (fun i => bI (p i = true)) k
  | 0 => rfl
  | k + 1 => by
    show cnt p k + _ = sumN _ k + bI (p (k : Int) = true)
    rw [cnt_sum p k]
    rfl
theorem psum_sum (g : Int → Int → Bool) : ∀ k : Nat, psum g k = sumN (fun a => sumN (fun b => bI (g a b = true)) a.toNat) k
  | 0 => rfl
  | k + 1 => by
    show psum g k + cnt (g (k : Int)) k = sumN _ k + sumN (fun b => bI (g (k : Int) b = true)) ((k : Int)).toNat
    rw [psum_sum g k, cnt_sum, Int.toNat_natCast]
theorem disc_s (S : Int → Int) (a b : Int) (h : a ≠ b → (rk (S 0) (TB S) a ≠ rk (S 0) (TB S) b ∧ rk (S 0) (S 6) a ≠ rk (S 0) (S 6) b)) : disc S a b = disc S b a := by
  by_cases c : a = b
  · rw [c]
  · have := h c
    unfold disc
    rw [decide_eq_decide]
    omega
theorem FAR_rs {S : Int → Int} (hR : RI S) : rs (fun h => rs (fun l => bI (rk (S 0) (S 6) (dg (TB S) l) < rk (S 0) (S 6) (dg (TB S) h))) (h + 1) (S 0)) 0 (S 0) = FAR S := by
  have hn := hR.n
  have hT := VB_TB S hn.1 hn.2
  obtain ⟨n, en⟩ : ∃ n : Nat, S 0 = (n : Int) := ⟨(S 0).toNat, by omega⟩
  -- names apart stand on rungs apart
  have ap : ∀ {B : Int}, VB (S 0) B → ∀ a b : Int, 0 ≤ a → a < S 0 → 0 ≤ b → b < S 0 → a ≠ b → rk (S 0) B a ≠ rk (S 0) B b := fun hB a b a0 a1 b0 b1 h e => h (by
    have ha := rk_spec hB a0 a1
    have hb := rk_spec hB b0 b1
    rw [← ha.2, ← hb.2, e])
  -- the pairs of names, cut to those there are
  let D : Int → Int → Int := fun a b => if (0 ≤ a ∧ a < S 0) ∧ (0 ≤ b ∧ b < S 0) then bI (disc S a b = true) else 0
  have Ds : ∀ a b : Int, D a b = D b a := fun a b => by
    show (if _ then _ else _) = (if _ then _ else _)
    by_cases c : (0 ≤ a ∧ a < S 0) ∧ (0 ≤ b ∧ b < S 0)
    · rw [if_pos c, if_pos ⟨c.2, c.1⟩, disc_s S a b (fun h => ⟨ap hT a b c.1.1 c.1.2 c.2.1 c.2.2 h, ap hR.bd a b c.1.1 c.1.2 c.2.1 c.2.2 h⟩)]
    · rw [if_neg c, if_neg (fun h => c ⟨h.2, h.1⟩)]
  have Dz : ∀ a : Int, D a a = 0 := fun a => by
    show (if _ then _ else _) = (0 : Int)
    split
    · refine bI_f ?_
      unfold disc
      simp
    · rfl
  have h1 : FAR S = sumN (fun a => sumN (fun b => D a b) a.toNat) (S 0).toNat := by
    unfold FAR
    rw [psum_sum]
    refine sumN_congr (fun a a0 a1 => sumN_congr (fun b b0 b1 => ?_))
    show _ = if _ then _ else _
    rw [if_pos (by omega)]
  have h2 := full_low Ds Dz (S 0).toNat
  -- over the rungs of the true order
  have h3 : sumN (fun a => sumN (fun b => D a b) (S 0).toNat) (S 0).toNat = sumN (fun h => sumN (fun l => D (dg (TB S) h) (dg (TB S) l)) (S 0).toNat) (S 0).toNat := by
    rw [← sumN_perm hT (fun a => sumN (fun b => D a b) (S 0).toNat)]
    exact sumN_congr (fun h _ _ => (sumN_perm hT (fun b => D (dg (TB S) h) b)).symm)
  have h4 := full_low (G := fun h l => D (dg (TB S) h) (dg (TB S) l)) (fun a b => Ds _ _) (fun a => Dz _) (S 0).toNat
  have h5 : sumN (fun l => sumN (fun h => D (dg (TB S) l) (dg (TB S) h)) l.toNat) (S 0).toNat = sumN (fun l => sumN (fun h => D (dg (TB S) h) (dg (TB S) l)) l.toNat) (S 0).toNat := sumN_congr (fun l _ _ => sumN_congr (fun h _ _ => Ds _ _))
  have h6 := up_low (fun h l => D (dg (TB S) h) (dg (TB S) l)) n
  rw [en] at h1 h2 h3 h4 h5 ⊢
  rw [sumN_rs]
  simp only [Int.toNat_natCast] at h1 h2 h3 h4 h5
  have h7 : sumN (fun h => rs (fun l => bI (rk (n : Int) (S 6) (dg (TB S) l) < rk (n : Int) (S 6) (dg (TB S) h))) (h + 1) (n : Int)) n = sumN (fun h => rs (fun l => D (dg (TB S) h) (dg (TB S) l)) (h + 1) (n : Int)) n := by
    refine sumN_congr (fun h a0 a1 => ?_)
    unfold rs
    refine sumN_congr (fun t t0 t1 => ?_)
    have r1 := VB_dg hT a0 (r := h) (by omega)
    have r2 := VB_dg hT (r := h + 1 + t) (by omega) (by omega)
    have k1 := rk_dg hT a0 (r := h) (by omega)
    have k2 := rk_dg hT (r := h + 1 + t) (by omega) (by omega)
    have k3 := ap hR.bd _ _ r1.1 r1.2 r2.1 r2.2 (fun e => by have := VB_inj hT a0 (by omega) (show 0 ≤ h + 1 + t by omega) (by omega) e; omega)
    show bI _ = if _ then _ else _
    rw [if_pos ⟨r1, r2⟩]
    rw [en] at k1 k2 k3
    unfold bI
    have e : (disc S (dg (TB S) h) (dg (TB S) (h + 1 + t)) = true) ↔ (rk (n : Int) (S 6) (dg (TB S) (h + 1 + t)) < rk (n : Int) (S 6) (dg (TB S) h)) := by
      unfold disc
      rw [en, k1, k2, decide_eq_true_eq]
      omega
    by_cases c : rk (n : Int) (S 6) (dg (TB S) (h + 1 + t)) < rk (n : Int) (S 6) (dg (TB S) h)
    · rw [if_pos c, if_pos (e.mpr c)]
    · rw [if_neg c, if_neg (fun z => c (e.mp z))]
  rw [h7, h6]
  rw [h3, h4] at h2
  have h8 : sumN (fun l => sumN (fun h => D (dg (TB S) l) (dg (TB S) h)) l.toNat) n = sumN (fun a => sumN (fun b => D a b) a.toNat) n := by omega
  rw [h1, ← h8, h5]
