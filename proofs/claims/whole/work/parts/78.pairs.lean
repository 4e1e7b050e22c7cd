/-! ===== each call on the class, then on the reference ===== -/
theorem actL_len (S : Int → Int) (a c : Int) : ((actL S a c).length : Int) ≤ 100 := by
  have h1 := asL_len (S (166 + a))
  have h2 := tkL_len (S (166 + a))
  unfold actL
  split
  · simp
  · split
    · omega
    · split
      · omega
      · unfold wtL pwL
        (repeat' split) <;> simp only [List.length_append, List.length_cons] <;> omega
theorem n1_name {S : Int → Int} (h : RI S) : n_name S 1 = S 1 := by
  have hn := h.n
  unfold n_name
  split
  · rfl
  · dsimp only
    rw [if_neg (by omega), if_neg (by omega), if_neg (by omega), if_neg (by omega), if_neg (by omega)]
theorem n1_chance {S : Int → Int} {a b n : Int} : n_chance S a b n 1 = S 1 := by
  unfold n_chance
  split
  · rw [gu_ne (by omega), gu_ne (by omega)]
  · rfl
theorem n1_hang {S : Int → Int} {a r : Int} : n_hang S a r 1 = S 1 := by
  unfold n_hang
  split
  · rw [gu_ne (by omega)]
  · rfl
theorem n1_feed {S : Int → Int} {w n : Int} (h : RI S) : n_feed S w n 1 = S 1 := by
  have htp := h.tp
  unfold n_feed
  split
  · dsimp only
    rw [if_neg (by omega), if_neg (by omega)]
  · rfl
theorem n1_pass {S : Int → Int} {n : Int} : n_pass S n 1 = S 1 := by
  unfold n_pass
  split
  · rw [gu_ne (by omega)]
  · rfl
theorem n1_past {S : Int → Int} {a b n : Int} : n_past S a b n 1 = S 1 := by
  unfold n_past
  split
  · rw [gu_ne (by omega)]
  · rfl
theorem n1_row {S : Int → Int} {a : Int} (h : RI S) : n_row S a 1 = S 1 := by
  have hrw := h.rw
  unfold n_row
  (repeat' split)
  · rw [gu_ne (by omega)]
  · rfl
  · rfl
  · rw [gu_ne (by omega), gu_ne (by omega)]
theorem n1_round {S : Int → Int} {i j : Int} (h : RI S) : n_round S i j 1 = S 1 := by
  have hrd := h.rd
  unfold n_round
  (repeat' split)
  · rw [gu_ne (by omega)]
  · rfl
  · rfl
  · rw [gu_ne (by omega), gu_ne (by omega), gu_ne (by omega)]
theorem n1_asker {S : Int → Int} {a k v : Int} : n_asker S a k v 1 = S 1 := by
  unfold n_asker
  split
  · rw [gu_ne (by omega), gu_ne (by omega)]
  · rfl
theorem n1_match {S : Int → Int} {c a b w : Int} : n_match S c a b w 1 = S 1 := by
  unfold n_match
  split
  · rw [gu_ne (by omega)]
  · rfl
theorem n1_run {S : Int → Int} {c n seed : Int} (h : RI S) : n_run S c n seed 1 = S 1 := by
  unfold n_run
  split
  · rfl
  · split
    · rfl
    · exact (RI_RUN h (by omega) n.toNat (by omega)).2.2.1
theorem QNN_cg {Q Q1 : Nat → Nat → Option Nat} {k : Nat} {n n1 : Int} (h : QNN Q k n) (hn : n1 = n) (hQ : Q1 k = Q k) : QNN Q1 k n1 := by
  unfold QNN
  rw [hn, hQ]
  exact h
section CRM
variable {cy : Nat → ClassId} {I J2 : Nat → Int → Int} {F F1 : Nat → Int} {Q Q1 : Nat → Nat → Option Nat} {P : va_W} {I2 : Nat → Int → Int} {F2 : Nat → Int}
theorem CR_act {b : Int → Int} {L : List Int} (h : CR cy I F Q P I2 F2) (hb : ∀ bd : Int → Int, BDY b (nb L bd 0) (L.length : Int)) (hl : (L.length : Int) ≤ 100) : CR cy (au I 55 b) F Q P (au I2 9 (nb L (I2 9) 0)) (fu F2 24 (L.length : Int)) := by
  obtain ⟨h1, h2, h3, ⟨S2, g1, g2, g3, g4, g5⟩, h5, h6, h7⟩ := h
  exact ⟨h1, LRb_au (by decide) h2, h3, ⟨S2, g1, LRb_au (by decide) g2, g3, g4, g5⟩, ⟨hb _, Int.natCast_nonneg _, hl⟩, h6, h7⟩
theorem CR_image {b2 : Int → Int} {g3 : Int} (h : CR cy I F Q P I2 F2) (hL : LRn cy (I2 1) J2 F1 Q1 P) (hI : LRb 24 11 cy (I2 1) J2 F1 Q1 P) (h34 : BY J2 34) (hq : QNN Q1 35 (I2 1 1)) (hF : F1 0 = 1) (h55 : J2 55 = I 55) (h11 : BY J2 11) (hQ : Q1 12 = Q 12) (hb : ∀ j : Int, 0 ≤ j → j < 965 → b2 j = I2 1 j) (hg : g3 = 1) : CR cy J2 F1 Q1 P (au I2 2 b2) (fu F2 3 g3) := by
  obtain ⟨h1, h2, h3, h4, h5, h6, h7⟩ := h
  refine ⟨h1, hL, h3, ⟨I2 1, h1, hI, h34, hq, Or.inr ⟨hg, hF, hb⟩⟩, ?_, h11, QNN_cg h7 rfl hQ⟩
  rw [h55]
  exact h5
end CRM

set_option maxHeartbeats 1000000 in
theorem pr_name (l : Launch) (G : GT) {ox om : Nat} {w0 : va_W} (hW : CRel G.2.1 ox om w0)   : CT l yX11_name cX11_name 1 (some .int) 0 0 0 G [.ref ox] w0 (fun vo wo => ∃ z : Int, vo = some (.int (J z)) ∧ HasC wo 12 om ∧ CT l yX12_name cX12_name 3 (some .int) 0 0 0 G [.ref om] wo (fun v2 w2 => v2 = some (.int (J z)) ∧ CRel G.2.1 ox om w2)) := by
  obtain ⟨A, D, T, I, F, Q, P, A2, I2, F2, rfl, rfl, rfl, hC⟩ := hW
  refine CT_post (CT_frR (MW A2 G.2.1 I2 F2) (c_X11_name l G A D T I F Q P (I2 1) hC.1 hC.2.1)) (fun vo wo hp => ?_)
  obtain ⟨w9, hp, rfl⟩ := hp
  obtain ⟨b2, g1, hv, rfl, hr⟩ := hp
  refine ⟨_, hv, has_m, CT_post (CT_frL _ (c_X12_name l G A2 I2 F2 hC.1)) (fun v2 w2 hq => ?_)⟩
  obtain ⟨w8, hq, rfl⟩ := hq
  obtain ⟨cb1, hv2, rfl, hr2⟩ := hq
  subst hr2
  exact ⟨hv2, _, _, _, _, _, _, _, _, _, _, rfl, rfl, rfl, (CR_st hC (RI_name hC.1) hr (fun S2 h => (LRb_fu (by decide) (LRb_au (by decide) h))) rfl rfl rfl rfl hC.2.2.2.2.2.1 (QNN_cg hC.2.2.2.2.2.2 (n1_name hC.1) rfl))⟩
set_option maxHeartbeats 1000000 in
theorem pr_chance (l : Launch) (G : GT) {ox om : Nat} {w0 : va_W} (hW : CRel G.2.1 ox om w0) (a : Int) (b : Int) (n : Int) (h_a : -2147483648 ≤ a ∧ a < 2147483648) (h_b : -2147483648 ≤ b ∧ b < 2147483648) (h_n : -2147483648 ≤ n ∧ n < 2147483648) : CT l yX11_chance cX11_chance 5 (some .int) 1 0 0 G [.ref ox, .int (J a), .int (J b), .int (J n)] w0 (fun vo wo => ∃ z : Int, vo = some (.int (J z)) ∧ HasC wo 12 om ∧ CT l yX12_chance cX12_chance 5 (some .int) 2 0 0 G [.ref om, .int (J a), .int (J b), .int (J n)] wo (fun v2 w2 => v2 = some (.int (J z)) ∧ CRel G.2.1 ox om w2)) := by
  obtain ⟨A, D, T, I, F, Q, P, A2, I2, F2, rfl, rfl, rfl, hC⟩ := hW
  refine CT_post (CT_frR (MW A2 G.2.1 I2 F2) (c_X11_chance l G A D T I F Q P (I2 1) a b n hC.1 hC.2.1 (by omega) (by omega) (by omega))) (fun vo wo hp => ?_)
  obtain ⟨w9, hp, rfl⟩ := hp
  obtain ⟨I1, hv, rfl, hr⟩ := hp
  refine ⟨_, hv, has_m, CT_post (CT_frL _ (c_X12_chance l G A2 I2 F2 a b n hC.1 (by omega) (by omega) (by omega))) (fun v2 w2 hq => ?_)⟩
  obtain ⟨w8, hq, rfl⟩ := hq
  obtain ⟨cb1, hv2, rfl, hr2⟩ := hq
  subst hr2
  exact ⟨hv2, _, _, _, _, _, _, _, _, _, _, rfl, rfl, rfl, (CR_st hC (RI_chance hC.1) hr.1 (fun S2 h => LRb_I (fun k a b => hr.2 k (by omega)) h) (hr.2 34 (by decide)) (hr.2 55 (by decide)) rfl rfl (show BY I1 11 from by unfold BY; rw [hr.2 11 (by decide)]; exact hC.2.2.2.2.2.1) (QNN_cg hC.2.2.2.2.2.2 n1_chance rfl))⟩
set_option maxHeartbeats 1000000 in
theorem pr_beats (l : Launch) (G : GT) {ox om : Nat} {w0 : va_W} (hW : CRel G.2.1 ox om w0) (a : Int) (b : Int) (h_a : -2147483648 ≤ a ∧ a < 2147483648) (h_b : -2147483648 ≤ b ∧ b < 2147483648) : CT l yX11_beats cX11_beats 3 (some .int) 1 0 0 G [.ref ox, .int (J a), .int (J b)] w0 (fun vo wo => ∃ z : Int, vo = some (.int (J z)) ∧ HasC wo 12 om ∧ CT l yX12_beats cX12_beats 3 (some .int) 2 0 0 G [.ref om, .int (J a), .int (J b)] wo (fun v2 w2 => v2 = some (.int (J z)) ∧ CRel G.2.1 ox om w2)) := by
  obtain ⟨A, D, T, I, F, Q, P, A2, I2, F2, rfl, rfl, rfl, hC⟩ := hW
  refine CT_post (CT_frR (MW A2 G.2.1 I2 F2) (c_X11_beats l G A D T I F Q P (I2 1) a b hC.1 hC.2.1 (by omega) (by omega))) (fun vo wo hp => ?_)
  obtain ⟨w9, hp, rfl⟩ := hp
  obtain ⟨hv, rfl⟩ := hp
  refine ⟨_, hv, has_m, CT_post (CT_frL _ (c_X12_beats l G A2 I2 F2 a b hC.1 (by omega) (by omega))) (fun v2 w2 hq => ?_)⟩
  obtain ⟨w8, hq, rfl⟩ := hq
  obtain ⟨hv2, rfl⟩ := hq
  exact ⟨hv2, _, _, _, _, _, _, _, _, _, _, rfl, rfl, rfl, hC⟩
set_option maxHeartbeats 1000000 in
theorem pr_board (l : Launch) (G : GT) {ox om : Nat} {w0 : va_W} (hW : CRel G.2.1 ox om w0) (r : Int) (w : Int) (h_r : -2147483648 ≤ r ∧ r < 2147483648) (h_w : -2147483648 ≤ w ∧ w < 2147483648) : CT l yX11_board cX11_board 3 (some .int) 3 0 0 G [.ref ox, .int (J r), .int (J w)] w0 (fun vo wo => ∃ z : Int, vo = some (.int (J z)) ∧ HasC wo 12 om ∧ CT l yX12_board cX12_board 3 (some .int) 2 0 0 G [.ref om, .int (J r), .int (J w)] wo (fun v2 w2 => v2 = some (.int (J z)) ∧ CRel G.2.1 ox om w2)) := by
  obtain ⟨A, D, T, I, F, Q, P, A2, I2, F2, rfl, rfl, rfl, hC⟩ := hW
  refine CT_post (CT_frR (MW A2 G.2.1 I2 F2) (c_X11_board l G A D T I F Q P (I2 1) r w hC.1 hC.2.1 (by omega) (by omega))) (fun vo wo hp => ?_)
  obtain ⟨w9, hp, rfl⟩ := hp
  obtain ⟨b56, hv, rfl⟩ := hp
  refine ⟨_, hv, has_m, CT_post (CT_frL _ (c_X12_board l G A2 I2 F2 r w hC.1 (by omega) (by omega))) (fun v2 w2 hq => ?_)⟩
  obtain ⟨w8, hq, rfl⟩ := hq
  obtain ⟨hv2, rfl⟩ := hq
  exact ⟨hv2, _, _, _, _, _, _, _, _, _, _, rfl, rfl, rfl, (CR_au (by decide) hC)⟩
set_option maxHeartbeats 1000000 in
theorem pr_hang (l : Launch) (G : GT) {ox om : Nat} {w0 : va_W} (hW : CRel G.2.1 ox om w0) (x : Int) (r : Int) (h_x : -2147483648 ≤ x ∧ x < 2147483648) (h_r : -2147483648 ≤ r ∧ r < 2147483648) : CT l yX11_hang cX11_hang 4 (some .int) 1 0 0 G [.ref ox, .int (J x), .int (J r)] w0 (fun vo wo => ∃ z : Int, vo = some (.int (J z)) ∧ HasC wo 12 om ∧ CT l yX12_hang cX12_hang 4 (some .int) 2 0 0 G [.ref om, .int (J x), .int (J r)] wo (fun v2 w2 => v2 = some (.int (J z)) ∧ CRel G.2.1 ox om w2)) := by
  obtain ⟨A, D, T, I, F, Q, P, A2, I2, F2, rfl, rfl, rfl, hC⟩ := hW
  refine CT_post (CT_frR (MW A2 G.2.1 I2 F2) (c_X11_hang l G A D T I F Q P (I2 1) x r hC.1 hC.2.1 (by omega) (by omega))) (fun vo wo hp => ?_)
  obtain ⟨w9, hp, rfl⟩ := hp
  obtain ⟨b2, hv, rfl, hr⟩ := hp
  refine ⟨_, hv, has_m, CT_post (CT_frL _ (c_X12_hang l G A2 I2 F2 x r hC.1 (by omega) (by omega))) (fun v2 w2 hq => ?_)⟩
  obtain ⟨w8, hq, rfl⟩ := hq
  obtain ⟨cb1, hv2, rfl, hr2⟩ := hq
  subst hr2
  exact ⟨hv2, _, _, _, _, _, _, _, _, _, _, rfl, rfl, rfl, (CR_st hC (RI_hang hC.1) hr (fun S2 h => (LRb_au (by decide) h)) rfl rfl rfl rfl hC.2.2.2.2.2.1 (QNN_cg hC.2.2.2.2.2.2 (n1_hang) rfl))⟩
set_option maxHeartbeats 1000000 in
theorem pr_far (l : Launch) (G : GT) {ox om : Nat} {w0 : va_W} (hW : CRel G.2.1 ox om w0)   : CT l yX11_far cX11_far 4 (some .int) 3 0 0 G [.ref ox] w0 (fun vo wo => ∃ z : Int, vo = some (.int (J z)) ∧ HasC wo 12 om ∧ CT l yX12_far cX12_far 5 (some .int) 2 0 0 G [.ref om] wo (fun v2 w2 => v2 = some (.int (J z)) ∧ CRel G.2.1 ox om w2)) := by
  obtain ⟨A, D, T, I, F, Q, P, A2, I2, F2, rfl, rfl, rfl, hC⟩ := hW
  refine CT_post (CT_frR (MW A2 G.2.1 I2 F2) (c_X11_far l G A D T I F Q P (I2 1) hC.1 hC.2.1)) (fun vo wo hp => ?_)
  obtain ⟨w9, hp, rfl⟩ := hp
  obtain ⟨b56, hv, rfl⟩ := hp
  refine ⟨_, hv, has_m, CT_post (CT_frL _ (c_X12_far l G A2 I2 F2 hC.1)) (fun v2 w2 hq => ?_)⟩
  obtain ⟨w8, hq, rfl⟩ := hq
  obtain ⟨hv2, rfl⟩ := hq
  exact ⟨hv2, _, _, _, _, _, _, _, _, _, _, rfl, rfl, rfl, (CR_au (by decide) hC)⟩
set_option maxHeartbeats 1000000 in
theorem pr_feed (l : Launch) (G : GT) {ox om : Nat} {w0 : va_W} (hW : CRel G.2.1 ox om w0) (wl : Int) (n : Int) (h_wl : -9223372036854775808 ≤ wl ∧ wl < 9223372036854775808) (h_n : -2147483648 ≤ n ∧ n < 2147483648) : CT l yX11_feed cX11_feed 5 (some .int) 0 0 0 G [.ref ox, .long (JL wl), .int (J n)] w0 (fun vo wo => ∃ z : Int, vo = some (.int (J z)) ∧ HasC wo 12 om ∧ CT l yX12_feed cX12_feed 5 (some .int) 1 0 0 G [.ref om, .long (JL wl), .int (J n)] wo (fun v2 w2 => v2 = some (.int (J z)) ∧ CRel G.2.1 ox om w2)) := by
  obtain ⟨A, D, T, I, F, Q, P, A2, I2, F2, rfl, rfl, rfl, hC⟩ := hW
  refine CT_post (CT_frR (MW A2 G.2.1 I2 F2) (c_X11_feed l G A D T I F Q P (I2 1) wl n hC.1 hC.2.1 (by omega) (by omega))) (fun vo wo hp => ?_)
  obtain ⟨w9, hp, rfl⟩ := hp
  obtain ⟨b11, g3, hv, rfl, hr⟩ := hp
  refine ⟨_, hv, has_m, CT_post (CT_frL _ (c_X12_feed l G A2 I2 F2 wl n hC.1 (by omega) (by omega))) (fun v2 w2 hq => ?_)⟩
  obtain ⟨w8, hq, rfl⟩ := hq
  obtain ⟨cb1, hv2, rfl, hr2⟩ := hq
  subst hr2
  exact ⟨hv2, _, _, _, _, _, _, _, _, _, _, rfl, rfl, rfl, (CR_st hC (RI_feed hC.1) hr.1 (fun S2 h => (LRb_fu (by decide) (LRb_au (by decide) h))) rfl rfl rfl rfl (hr.2 hC.2.2.2.2.2.1) (QNN_cg hC.2.2.2.2.2.2 (n1_feed hC.1) rfl))⟩
set_option maxHeartbeats 1000000 in
theorem pr_club (l : Launch) (G : GT) {ox om : Nat} {w0 : va_W} (hW : CRel G.2.1 ox om w0)   : CT l yX11_club cX11_club 2 (some .int) 26 2 123 G [.ref ox] w0 (fun vo wo => ∃ z : Int, vo = some (.int (J z)) ∧ HasC wo 12 om ∧ CT l yX12_club cX12_club 2 (some .int) 27 0 0 G [.ref om] wo (fun v2 w2 => v2 = some (.int (J z)) ∧ CRel G.2.1 ox om w2)) := by
  obtain ⟨A, D, T, I, F, Q, P, A2, I2, F2, rfl, rfl, rfl, hC⟩ := hW
  refine CT_post (CT_frR (MW A2 G.2.1 I2 F2) (c_X11_club l G A D T I F Q P (I2 1) hC.1 hC.2.1 hC.2.2.2.2.2.2)) (fun vo wo hp => ?_)
  obtain ⟨w9, hp, rfl⟩ := hp
  obtain ⟨b48, g3, g4, g20, g21, g22, g23, g24, T1, q12, P1, hv, rfl, hr⟩ := hp
  refine ⟨_, hv, has_m, CT_post (CT_frL _ (c_X12_club l G A2 I2 F2 hC.1)) (fun v2 w2 hq => ?_)⟩
  obtain ⟨w8, hq, rfl⟩ := hq
  obtain ⟨cb1, cg4, cg5, cg6, cg7, cg8, hv2, rfl, hr2⟩ := hq
  subst hr2
  obtain ⟨hr, hrq, R, rfl⟩ := hr
  exact ⟨hv2, _, _, _, _, _, _, _, _, _, _, rfl, rfl, rfl, (CR_fu2 (by decide) (CR_fu2 (by decide) (CR_fu2 (by decide) (CR_fu2 (by decide) (CR_fu2 (by decide) (CR_st hC (RI_club hC.1) hr (fun S2 h => LRb_app (LRb_qu (by decide) (LRb_fu (by decide) (LRb_fu (by decide) (LRb_fu (by decide) (LRb_fu (by decide) (LRb_fu (by decide) (LRb_fu (by decide) (LRb_fu (by decide) (LRb_au (by decide) h)))))))))) rfl rfl rfl rfl hC.2.2.2.2.2.1 hrq))))))⟩
set_option maxHeartbeats 1000000 in
theorem pr_may (l : Launch) (G : GT) {ox om : Nat} {w0 : va_W} (hW : CRel G.2.1 ox om w0) (a : Int) (nm : Int) (day : Int) (h_a : -2147483648 ≤ a ∧ a < 2147483648) (h_nm : -2147483648 ≤ nm ∧ nm < 2147483648) (h_day : -2147483648 ≤ day ∧ day < 2147483648) : CT l yX11_may cX11_may 5 (some .int) 3 0 0 G [.ref ox, .int (J a), .int (J nm), .int (J day)] w0 (fun vo wo => ∃ z : Int, vo = some (.int (J z)) ∧ HasC wo 12 om ∧ CT l yX12_may cX12_may 4 (some .int) 3 0 0 G [.ref om, .int (J a), .int (J nm), .int (J day)] wo (fun v2 w2 => v2 = some (.int (J z)) ∧ CRel G.2.1 ox om w2)) := by
  obtain ⟨A, D, T, I, F, Q, P, A2, I2, F2, rfl, rfl, rfl, hC⟩ := hW
  refine CT_post (CT_frR (MW A2 G.2.1 I2 F2) (c_X11_may l G A D T I F Q P (I2 1) a nm day hC.1 hC.2.1 (by omega) (by omega) (by omega))) (fun vo wo hp => ?_)
  obtain ⟨w9, hp, rfl⟩ := hp
  obtain ⟨b23, hv, rfl⟩ := hp
  refine ⟨_, hv, has_m, CT_post (CT_frL _ (c_X12_may l G A2 I2 F2 a nm day hC.1 (by omega) (by omega) (by omega) hC.2.2.1)) (fun v2 w2 hq => ?_)⟩
  obtain ⟨w8, hq, rfl⟩ := hq
  obtain ⟨cb3, cb4, hv2, rfl⟩ := hq
  exact ⟨hv2, _, _, _, _, _, _, _, _, _, _, rfl, rfl, rfl, (CR_au2 (by decide) (CR_au2 (by decide) (CR_au (by decide) hC)))⟩
set_option maxHeartbeats 1000000 in
theorem pr_asker (l : Launch) (G : GT) {ox om : Nat} {w0 : va_W} (hW : CRel G.2.1 ox om w0) (a : Int) (k : Int) (v : Int) (h_a : -2147483648 ≤ a ∧ a < 2147483648) (h_k : -2147483648 ≤ k ∧ k < 2147483648) (h_v : -2147483648 ≤ v ∧ v < 2147483648) : CT l yX11_asker cX11_asker 5 (some .int) 5 1 2 G [.ref ox, .int (J a), .int (J k), .int (J v)] w0 (fun vo wo => ∃ z : Int, vo = some (.int (J z)) ∧ HasC wo 12 om ∧ CT l yX12_asker cX12_asker 5 (some .int) 2 0 0 G [.ref om, .int (J a), .int (J k), .int (J v)] wo (fun v2 w2 => v2 = some (.int (J z)) ∧ CRel G.2.1 ox om w2)) := by
  obtain ⟨A, D, T, I, F, Q, P, A2, I2, F2, rfl, rfl, rfl, hC⟩ := hW
  refine CT_post (CT_frR (MW A2 G.2.1 I2 F2) (c_X11_asker l G A D T I F Q P (I2 1) a k v hC.1 hC.2.1 (by omega) (by omega) (by omega))) (fun vo wo hp => ?_)
  obtain ⟨w9, hp, rfl⟩ := hp
  obtain ⟨q10, P1, hv, rfl, hr⟩ := hp
  refine ⟨_, hv, has_m, CT_post (CT_frL _ (c_X12_asker l G A2 I2 F2 a k v hC.1 (by omega) (by omega) (by omega))) (fun v2 w2 hq => ?_)⟩
  obtain ⟨w8, hq, rfl⟩ := hq
  obtain ⟨cb1, hv2, rfl, hr2⟩ := hq
  subst hr2
  obtain ⟨hr, R, rfl⟩ := hr
  exact ⟨hv2, _, _, _, _, _, _, _, _, _, _, rfl, rfl, rfl, (CR_st hC (RI_asker hC.1) hr (fun S2 h => LRb_app (LRb_qu (by decide) h)) rfl rfl rfl rfl hC.2.2.2.2.2.1 (QNN_cg hC.2.2.2.2.2.2 n1_asker rfl))⟩
set_option maxHeartbeats 1000000 in
theorem pr_asks (l : Launch) (G : GT) {ox om : Nat} {w0 : va_W} (hW : CRel G.2.1 ox om w0) (a : Int) (nm : Int) (day : Int) (h_a : -2147483648 ≤ a ∧ a < 2147483648) (h_nm : -2147483648 ≤ nm ∧ nm < 2147483648) (h_day : -2147483648 ≤ day ∧ day < 2147483648) : CT l yX11_asks cX11_asks 5 (some .int) 5 0 0 G [.ref ox, .int (J a), .int (J nm), .int (J day)] w0 (fun vo wo => ∃ z : Int, vo = some (.int (J z)) ∧ HasC wo 12 om ∧ CT l yX12_asks cX12_asks 4 (some .int) 4 0 0 G [.ref om, .int (J a), .int (J nm), .int (J day)] wo (fun v2 w2 => v2 = some (.int (J z)) ∧ CRel G.2.1 ox om w2)) := by
  obtain ⟨A, D, T, I, F, Q, P, A2, I2, F2, rfl, rfl, rfl, hC⟩ := hW
  refine CT_post (CT_frR (MW A2 G.2.1 I2 F2) (c_X11_asks l G A D T I F Q P (I2 1) a nm day hC.1 hC.2.1 (by omega) (by omega) (by omega))) (fun vo wo hp => ?_)
  obtain ⟨w9, hp, rfl⟩ := hp
  obtain ⟨b23, hv, rfl⟩ := hp
  refine ⟨_, hv, has_m, CT_post (CT_frL _ (c_X12_asks l G A2 I2 F2 a nm day hC.1 (by omega) (by omega) (by omega) hC.2.2.1)) (fun v2 w2 hq => ?_)⟩
  obtain ⟨w8, hq, rfl⟩ := hq
  obtain ⟨cb3, cb4, hv2, rfl⟩ := hq
  exact ⟨hv2, _, _, _, _, _, _, _, _, _, _, rfl, rfl, rfl, (CR_au2 (by decide) (CR_au2 (by decide) (CR_au (by decide) hC)))⟩
set_option maxHeartbeats 1000000 in
theorem pr_match (l : Launch) (G : GT) {ox om : Nat} {w0 : va_W} (hW : CRel G.2.1 ox om w0) (a : Int) (x : Int) (y : Int) (w : Int) (h_a : -2147483648 ≤ a ∧ a < 2147483648) (h_x : -2147483648 ≤ x ∧ x < 2147483648) (h_y : -2147483648 ≤ y ∧ y < 2147483648) (h_w : w = 0 ∨ w = 1) : CT l yX11_match cX11_match 7 (some .int) 3 0 0 G [.ref ox, .int (J a), .int (J x), .int (J y), .int (J w)] w0 (fun vo wo => ∃ z : Int, vo = some (.int (J z)) ∧ HasC wo 12 om ∧ CT l yX12_match cX12_match 5 (some .int) 3 0 0 G [.ref om, .int (J a), .int (J x), .int (J y), .int (J w)] wo (fun v2 w2 => v2 = some (.int (J z)) ∧ CRel G.2.1 ox om w2)) := by
  obtain ⟨A, D, T, I, F, Q, P, A2, I2, F2, rfl, rfl, rfl, hC⟩ := hW
  refine CT_post (CT_frR (MW A2 G.2.1 I2 F2) (c_X11_match l G A D T I F Q P (I2 1) a x y w hC.1 hC.2.1 (by omega) (by omega) (by omega) (by omega))) (fun vo wo hp => ?_)
  obtain ⟨w9, hp, rfl⟩ := hp
  obtain ⟨b2, b23, hv, rfl, hr⟩ := hp
  refine ⟨_, hv, has_m, CT_post (CT_frL _ (c_X12_match l G A2 I2 F2 a x y w hC.1 (by omega) (by omega) (by omega) h_w hC.2.2.1)) (fun v2 w2 hq => ?_)⟩
  obtain ⟨w8, hq, rfl⟩ := hq
  obtain ⟨cb1, cb3, cb4, hv2, rfl, hr2⟩ := hq
  subst hr2
  exact ⟨hv2, _, _, _, _, _, _, _, _, _, _, rfl, rfl, rfl, (CR_au2 (by decide) (CR_au2 (by decide) (CR_st hC (RI_match hC.1) hr (fun S2 h => (LRb_au (by decide) (LRb_au (by decide) h))) rfl rfl rfl rfl hC.2.2.2.2.2.1 (QNN_cg hC.2.2.2.2.2.2 (n1_match) rfl))))⟩
set_option maxHeartbeats 1000000 in
theorem pr_pass (l : Launch) (G : GT) {ox om : Nat} {w0 : va_W} (hW : CRel G.2.1 ox om w0) (n : Int) (h_n : -2147483648 ≤ n ∧ n < 2147483648) : CT l yX11_pass cX11_pass 2 (some .int) 0 0 0 G [.ref ox, .int (J n)] w0 (fun vo wo => ∃ z : Int, vo = some (.int (J z)) ∧ HasC wo 12 om ∧ CT l yX12_pass cX12_pass 2 (some .int) 1 0 0 G [.ref om, .int (J n)] wo (fun v2 w2 => v2 = some (.int (J z)) ∧ CRel G.2.1 ox om w2)) := by
  obtain ⟨A, D, T, I, F, Q, P, A2, I2, F2, rfl, rfl, rfl, hC⟩ := hW
  refine CT_post (CT_frR (MW A2 G.2.1 I2 F2) (c_X11_pass l G A D T I F Q P (I2 1) n hC.1 hC.2.1 (by omega))) (fun vo wo hp => ?_)
  obtain ⟨w9, hp, rfl⟩ := hp
  obtain ⟨g2, hv, rfl, hr⟩ := hp
  refine ⟨_, hv, has_m, CT_post (CT_frL _ (c_X12_pass l G A2 I2 F2 n hC.1 (by omega))) (fun v2 w2 hq => ?_)⟩
  obtain ⟨w8, hq, rfl⟩ := hq
  obtain ⟨cb1, hv2, rfl, hr2⟩ := hq
  subst hr2
  exact ⟨hv2, _, _, _, _, _, _, _, _, _, _, rfl, rfl, rfl, (CR_st hC (RI_pass hC.1) hr (fun S2 h => (LRb_fu (by decide) h)) rfl rfl rfl rfl hC.2.2.2.2.2.1 (QNN_cg hC.2.2.2.2.2.2 (n1_pass) rfl))⟩
set_option maxHeartbeats 1000000 in
theorem pr_share (l : Launch) (G : GT) {ox om : Nat} {w0 : va_W} (hW : CRel G.2.1 ox om w0) (a : Int) (n : Int) (nm : Int) (r : Int) (p : Int) (h_a : -2147483648 ≤ a ∧ a < 2147483648) (h_n : -2147483648 ≤ n ∧ n < 2147483648) (h_nm : -2147483648 ≤ nm ∧ nm < 2147483648) (h_r : -2147483648 ≤ r ∧ r < 2147483648) (h_p : -2147483648 ≤ p ∧ p < 2147483648) : CT l yX11_share cX11_share 7 (some .long) 6 0 0 G [.ref ox, .int (J a), .int (J n), .int (J nm), .int (J r), .int (J p)] w0 (fun vo wo => ∃ z : Int, vo = some (.long (JL z)) ∧ HasC wo 12 om ∧ CT l yX12_share cX12_share 9 (some .long) 6 0 0 G [.ref om, .int (J a), .int (J n), .int (J nm), .int (J r), .int (J p)] wo (fun v2 w2 => v2 = some (.long (JL z)) ∧ CRel G.2.1 ox om w2)) := by
  obtain ⟨A, D, T, I, F, Q, P, A2, I2, F2, rfl, rfl, rfl, hC⟩ := hW
  refine CT_post (CT_frR (MW A2 G.2.1 I2 F2) (c_X11_share l G A D T I F Q P (I2 1) a n nm r p hC.1 hC.2.1 (by omega) (by omega) (by omega) (by omega) (by omega))) (fun vo wo hp => ?_)
  obtain ⟨w9, hp, rfl⟩ := hp
  obtain ⟨D1, b23, b50, b51, b52, b53, b54, g30, g31, g32, hv, rfl⟩ := hp
  refine ⟨_, hv, has_m, CT_post (CT_frL _ (c_X12_share l G A2 I2 F2 a n nm r p hC.1 (by omega) (by omega) (by omega) (by omega) (by omega) hC.2.2.1)) (fun v2 w2 hq => ?_)⟩
  obtain ⟨w8, hq, rfl⟩ := hq
  obtain ⟨cb3, cb4, cb5, cb6, cb7, cb8, cg16, cg17, cg18, hv2, rfl⟩ := hq
  exact ⟨hv2, _, _, _, _, _, _, _, _, _, _, rfl, rfl, rfl, (CR_fu2 (by decide) (CR_fu2 (by decide) (CR_fu2 (by decide) (CR_au2 (by decide) (CR_au2 (by decide) (CR_au2 (by decide) (CR_au2 (by decide) (CR_au2 (by decide) (CR_au2 (by decide) (CR_fu (by decide) (CR_fu (by decide) (CR_fu (by decide) (CR_au (by decide) (CR_au (by decide) (CR_au (by decide) (CR_au (by decide) (CR_au (by decide) (CR_au (by decide) hC))))))))))))))))))⟩
set_option maxHeartbeats 1000000 in
theorem pr_truly (l : Launch) (G : GT) {ox om : Nat} {w0 : va_W} (hW : CRel G.2.1 ox om w0) (a : Int) (n : Int) (p : Int) (h_a : -2147483648 ≤ a ∧ a < 2147483648) (h_n : -2147483648 ≤ n ∧ n < 2147483648) (h_p : -2147483648 ≤ p ∧ p < 2147483648) : CT l yX11_truly cX11_truly 5 (some .long) 6 0 0 G [.ref ox, .int (J a), .int (J n), .int (J p)] w0 (fun vo wo => ∃ z : Int, vo = some (.long (JL z)) ∧ HasC wo 12 om ∧ CT l yX12_truly cX12_truly 4 (some .long) 6 0 0 G [.ref om, .int (J a), .int (J n), .int (J p)] wo (fun v2 w2 => v2 = some (.long (JL z)) ∧ CRel G.2.1 ox om w2)) := by
  obtain ⟨A, D, T, I, F, Q, P, A2, I2, F2, rfl, rfl, rfl, hC⟩ := hW
  refine CT_post (CT_frR (MW A2 G.2.1 I2 F2) (c_X11_truly l G A D T I F Q P (I2 1) a n p hC.1 hC.2.1 (by omega) (by omega) (by omega))) (fun vo wo hp => ?_)
  obtain ⟨w9, hp, rfl⟩ := hp
  obtain ⟨b56, D1, b23, b50, b51, b52, b53, b54, g30, g31, g32, hv, rfl⟩ := hp
  refine ⟨_, hv, has_m, CT_post (CT_frL _ (c_X12_truly l G A2 I2 F2 a n p hC.1 (by omega) (by omega) (by omega) hC.2.2.1)) (fun v2 w2 hq => ?_)⟩
  obtain ⟨w8, hq, rfl⟩ := hq
  obtain ⟨cb3, cb4, cb5, cb6, cb7, cb8, cg16, cg17, cg18, hv2, rfl⟩ := hq
  exact ⟨hv2, _, _, _, _, _, _, _, _, _, _, rfl, rfl, rfl, (CR_fu2 (by decide) (CR_fu2 (by decide) (CR_fu2 (by decide) (CR_au2 (by decide) (CR_au2 (by decide) (CR_au2 (by decide) (CR_au2 (by decide) (CR_au2 (by decide) (CR_au2 (by decide) (CR_fu (by decide) (CR_fu (by decide) (CR_fu (by decide) (CR_au (by decide) (CR_au (by decide) (CR_au (by decide) (CR_au (by decide) (CR_au (by decide) (CR_au (by decide) (CR_au (by decide) hC)))))))))))))))))))⟩
set_option maxHeartbeats 1000000 in
theorem pr_likely (l : Launch) (G : GT) {ox om : Nat} {w0 : va_W} (hW : CRel G.2.1 ox om w0) (a : Int) (n : Int) (r : Int) (h_a : -2147483648 ≤ a ∧ a < 2147483648) (h_n : -2147483648 ≤ n ∧ n < 2147483648) (h_r : -2147483648 ≤ r ∧ r < 2147483648) : CT l yX11_likely cX11_likely 5 (some .int) 6 0 0 G [.ref ox, .int (J a), .int (J n), .int (J r)] w0 (fun vo wo => ∃ z : Int, vo = some (.int (J z)) ∧ HasC wo 12 om ∧ CT l yX12_likely cX12_likely 6 (some .int) 6 0 0 G [.ref om, .int (J a), .int (J n), .int (J r)] wo (fun v2 w2 => v2 = some (.int (J z)) ∧ CRel G.2.1 ox om w2)) := by
  obtain ⟨A, D, T, I, F, Q, P, A2, I2, F2, rfl, rfl, rfl, hC⟩ := hW
  refine CT_post (CT_frR (MW A2 G.2.1 I2 F2) (c_X11_likely l G A D T I F Q P (I2 1) a n r hC.1 hC.2.1 (by omega) (by omega) (by omega))) (fun vo wo hp => ?_)
  obtain ⟨w9, hp, rfl⟩ := hp
  obtain ⟨z1, b57, D1, b23, b50, b51, b52, b53, b54, g30, g31, g32, hv, rfl, hr⟩ := hp
  refine ⟨_, hv, has_m, CT_post (CT_frL _ (c_X12_likely l G A2 I2 F2 a n r hC.1 (by omega) (by omega) (by omega) hC.2.2.1)) (fun v2 w2 hq => ?_)⟩
  obtain ⟨w8, hq, rfl⟩ := hq
  obtain ⟨z2, cb3, cb4, cb5, cb6, cb7, cb8, cg16, cg17, cg18, hv2, rfl, hr2⟩ := hq
  have ez : z2 = z1 := VLIK_uniq hr2 hr
  subst ez
  exact ⟨hv2, _, _, _, _, _, _, _, _, _, _, rfl, rfl, rfl, (CR_fu2 (by decide) (CR_fu2 (by decide) (CR_fu2 (by decide) (CR_au2 (by decide) (CR_au2 (by decide) (CR_au2 (by decide) (CR_au2 (by decide) (CR_au2 (by decide) (CR_au2 (by decide) (CR_fu (by decide) (CR_fu (by decide) (CR_fu (by decide) (CR_au (by decide) (CR_au (by decide) (CR_au (by decide) (CR_au (by decide) (CR_au (by decide) (CR_au (by decide) (CR_au (by decide) hC)))))))))))))))))))⟩
set_option maxHeartbeats 1000000 in
theorem pr_mean (l : Launch) (G : GT) {ox om : Nat} {w0 : va_W} (hW : CRel G.2.1 ox om w0) (a : Int) (n : Int) (nm : Int) (p : Int) (h_a : -2147483648 ≤ a ∧ a < 2147483648) (h_n : -2147483648 ≤ n ∧ n < 2147483648) (h_nm : -2147483648 ≤ nm ∧ nm < 2147483648) (h_p : -2147483648 ≤ p ∧ p < 2147483648) : CT l yX11_mean cX11_mean 6 (some .long) 6 0 0 G [.ref ox, .int (J a), .int (J n), .int (J nm), .int (J p)] w0 (fun vo wo => ∃ z : Int, vo = some (.long (JL z)) ∧ HasC wo 12 om ∧ CT l yX12_mean cX12_mean 5 (some .long) 6 0 0 G [.ref om, .int (J a), .int (J n), .int (J nm), .int (J p)] wo (fun v2 w2 => v2 = some (.long (JL z)) ∧ CRel G.2.1 ox om w2)) := by
  obtain ⟨A, D, T, I, F, Q, P, A2, I2, F2, rfl, rfl, rfl, hC⟩ := hW
  refine CT_post (CT_frR (MW A2 G.2.1 I2 F2) (c_X11_mean l G A D T I F Q P (I2 1) a n nm p hC.1 hC.2.1 (by omega) (by omega) (by omega) (by omega))) (fun vo wo hp => ?_)
  obtain ⟨w9, hp, rfl⟩ := hp
  obtain ⟨D1, b23, b50, b51, b52, b53, b54, g30, g31, g32, hv, rfl⟩ := hp
  refine ⟨_, hv, has_m, CT_post (CT_frL _ (c_X12_mean l G A2 I2 F2 a n nm p hC.1 (by omega) (by omega) (by omega) (by omega) hC.2.2.1)) (fun v2 w2 hq => ?_)⟩
  obtain ⟨w8, hq, rfl⟩ := hq
  obtain ⟨cb3, cb4, cb5, cb6, cb7, cb8, cg16, cg17, cg18, hv2, rfl⟩ := hq
  exact ⟨hv2, _, _, _, _, _, _, _, _, _, _, rfl, rfl, rfl, (CR_fu2 (by decide) (CR_fu2 (by decide) (CR_fu2 (by decide) (CR_au2 (by decide) (CR_au2 (by decide) (CR_au2 (by decide) (CR_au2 (by decide) (CR_au2 (by decide) (CR_au2 (by decide) (CR_fu (by decide) (CR_fu (by decide) (CR_fu (by decide) (CR_au (by decide) (CR_au (by decide) (CR_au (by decide) (CR_au (by decide) (CR_au (by decide) (CR_au (by decide) hC))))))))))))))))))⟩
set_option maxHeartbeats 1000000 in
theorem pr_stuck (l : Launch) (G : GT) {ox om : Nat} {w0 : va_W} (hW : CRel G.2.1 ox om w0) (a : Int) (w : Int) (h_a : -2147483648 ≤ a ∧ a < 2147483648) (h_w : -2147483648 ≤ w ∧ w < 2147483648) : CT l yX11_stuck cX11_stuck 4 (some .int) 6 0 0 G [.ref ox, .int (J a), .int (J w)] w0 (fun vo wo => ∃ z : Int, vo = some (.int (J z)) ∧ HasC wo 12 om ∧ CT l yX12_stuck cX12_stuck 10 (some .int) 5 0 0 G [.ref om, .int (J a), .int (J w)] wo (fun v2 w2 => v2 = some (.int (J z)) ∧ CRel G.2.1 ox om w2)) := by
  obtain ⟨A, D, T, I, F, Q, P, A2, I2, F2, rfl, rfl, rfl, hC⟩ := hW
  refine CT_post (CT_frR (MW A2 G.2.1 I2 F2) (c_X11_stuck l G A D T I F Q P (I2 1) a w hC.1 hC.2.1 (by omega) (by omega))) (fun vo wo hp => ?_)
  obtain ⟨w9, hp, rfl⟩ := hp
  obtain ⟨z1, b23, hv, rfl, hr⟩ := hp
  refine ⟨_, hv, has_m, CT_post (CT_frL _ (c_X12_stuck l G A2 I2 F2 a w hC.1 (by omega) (by omega) hC.2.2.1)) (fun v2 w2 hq => ?_)⟩
  obtain ⟨w8, hq, rfl⟩ := hq
  obtain ⟨z2, cb3, cb4, hv2, rfl, hr2⟩ := hq
  have ez : z2 = z1 := VSTK_uniq hr2 hr
  subst ez
  exact ⟨hv2, _, _, _, _, _, _, _, _, _, _, rfl, rfl, rfl, (CR_au2 (by decide) (CR_au2 (by decide) (CR_au (by decide) hC)))⟩
set_option maxHeartbeats 1000000 in
theorem pr_ought (l : Launch) (G : GT) {ox om : Nat} {w0 : va_W} (hW : CRel G.2.1 ox om w0) (a : Int) (n : Int) (nm : Int) (h_a : -2147483648 ≤ a ∧ a < 2147483648) (h_n : -2147483648 ≤ n ∧ n < 2147483648) (h_nm : -2147483648 ≤ nm ∧ nm < 2147483648) : CT l yX11_ought cX11_ought 13 (some .int) 6 0 0 G [.ref ox, .int (J a), .int (J n), .int (J nm)] w0 (fun vo wo => ∃ z : Int, vo = some (.int (J z)) ∧ HasC wo 12 om ∧ CT l yX12_ought cX12_ought 11 (some .int) 6 0 0 G [.ref om, .int (J a), .int (J n), .int (J nm)] wo (fun v2 w2 => v2 = some (.int (J z)) ∧ CRel G.2.1 ox om w2)) := by
  obtain ⟨A, D, T, I, F, Q, P, A2, I2, F2, rfl, rfl, rfl, hC⟩ := hW
  refine CT_post (CT_frR (MW A2 G.2.1 I2 F2) (c_X11_ought l G A D T I F Q P (I2 1) a n nm hC.1 hC.2.1 (by omega) (by omega) (by omega))) (fun vo wo hp => ?_)
  obtain ⟨w9, hp, rfl⟩ := hp
  obtain ⟨D1, b23, b50, b51, b52, b53, b54, g30, g31, g32, hv, rfl⟩ := hp
  refine ⟨_, hv, has_m, CT_post (CT_frL _ (c_X12_ought l G A2 I2 F2 a n nm hC.1 (by omega) (by omega) (by omega) hC.2.2.1)) (fun v2 w2 hq => ?_)⟩
  obtain ⟨w8, hq, rfl⟩ := hq
  obtain ⟨cb3, cb4, cb5, cb6, cb7, cb8, cg16, cg17, cg18, hv2, rfl⟩ := hq
  exact ⟨hv2, _, _, _, _, _, _, _, _, _, _, rfl, rfl, rfl, (CR_fu2 (by decide) (CR_fu2 (by decide) (CR_fu2 (by decide) (CR_au2 (by decide) (CR_au2 (by decide) (CR_au2 (by decide) (CR_au2 (by decide) (CR_au2 (by decide) (CR_au2 (by decide) (CR_fu (by decide) (CR_fu (by decide) (CR_fu (by decide) (CR_au (by decide) (CR_au (by decide) (CR_au (by decide) (CR_au (by decide) (CR_au (by decide) (CR_au (by decide) hC))))))))))))))))))⟩
set_option maxHeartbeats 1000000 in
theorem pr_row (l : Launch) (G : GT) {ox om : Nat} {w0 : va_W} (hW : CRel G.2.1 ox om w0) (a : Int) (h_a : -2147483648 ≤ a ∧ a < 2147483648) : CT l yX11_row cX11_row 2 (some .int) 0 0 0 G [.ref ox, .int (J a)] w0 (fun vo wo => ∃ z : Int, vo = some (.int (J z)) ∧ HasC wo 12 om ∧ CT l yX12_row cX12_row 2 (some .int) 1 0 0 G [.ref om, .int (J a)] wo (fun v2 w2 => v2 = some (.int (J z)) ∧ CRel G.2.1 ox om w2)) := by
  obtain ⟨A, D, T, I, F, Q, P, A2, I2, F2, rfl, rfl, rfl, hC⟩ := hW
  refine CT_post (CT_frR (MW A2 G.2.1 I2 F2) (c_X11_row l G A D T I F Q P (I2 1) a hC.1 hC.2.1 (by omega))) (fun vo wo hp => ?_)
  obtain ⟨w9, hp, rfl⟩ := hp
  obtain ⟨b13, g5, hv, rfl, hr⟩ := hp
  refine ⟨_, hv, has_m, CT_post (CT_frL _ (c_X12_row l G A2 I2 F2 a hC.1 (by omega))) (fun v2 w2 hq => ?_)⟩
  obtain ⟨w8, hq, rfl⟩ := hq
  obtain ⟨cb1, hv2, rfl, hr2⟩ := hq
  subst hr2
  exact ⟨hv2, _, _, _, _, _, _, _, _, _, _, rfl, rfl, rfl, (CR_st hC (RI_row hC.1) hr (fun S2 h => (LRb_fu (by decide) (LRb_au (by decide) h))) rfl rfl rfl rfl hC.2.2.2.2.2.1 (QNN_cg hC.2.2.2.2.2.2 (n1_row hC.1) rfl))⟩
set_option maxHeartbeats 1000000 in
theorem pr_judged (l : Launch) (G : GT) {ox om : Nat} {w0 : va_W} (hW : CRel G.2.1 ox om w0) (a : Int) (day : Int) (h_a : -2147483648 ≤ a ∧ a < 2147483648) (h_day : -2147483648 ≤ day ∧ day < 2147483648) : CT l yX11_judged cX11_judged 6 (some .int) 5 0 0 G [.ref ox, .int (J a), .int (J day)] w0 (fun vo wo => ∃ z : Int, vo = some (.int (J z)) ∧ HasC wo 12 om ∧ CT l yX12_judged cX12_judged 5 (some .int) 4 0 0 G [.ref om, .int (J a), .int (J day)] wo (fun v2 w2 => v2 = some (.int (J z)) ∧ CRel G.2.1 ox om w2)) := by
  obtain ⟨A, D, T, I, F, Q, P, A2, I2, F2, rfl, rfl, rfl, hC⟩ := hW
  refine CT_post (CT_frR (MW A2 G.2.1 I2 F2) (c_X11_judged l G A D T I F Q P (I2 1) a day hC.1 hC.2.1 (by omega) (by omega))) (fun vo wo hp => ?_)
  obtain ⟨w9, hp, rfl⟩ := hp
  obtain ⟨z1, b23, hv, rfl, hr⟩ := hp
  refine ⟨_, hv, has_m, CT_post (CT_frL _ (c_X12_judged l G A2 I2 F2 a day hC.1 (by omega) (by omega) hC.2.2.1)) (fun v2 w2 hq => ?_)⟩
  obtain ⟨w8, hq, rfl⟩ := hq
  obtain ⟨z2, cb3, cb4, hv2, rfl, hr2⟩ := hq
  have ez : z2 = z1 := VJUD_uniq hr2 hr
  subst ez
  exact ⟨hv2, _, _, _, _, _, _, _, _, _, _, rfl, rfl, rfl, (CR_au2 (by decide) (CR_au2 (by decide) (CR_au (by decide) hC)))⟩
set_option maxHeartbeats 1000000 in
theorem pr_refuse (l : Launch) (G : GT) {ox om : Nat} {w0 : va_W} (hW : CRel G.2.1 ox om w0) (a : Int) (n : Int) (nm : Int) (p : Int) (h_a : -2147483648 ≤ a ∧ a < 2147483648) (h_n : -2147483648 ≤ n ∧ n < 2147483648) (h_nm : -2147483648 ≤ nm ∧ nm < 2147483648) (h_p : -2147483648 ≤ p ∧ p < 2147483648) : CT l yX11_refuse cX11_refuse 8 (some .long) 6 0 0 G [.ref ox, .int (J a), .int (J n), .int (J nm), .int (J p)] w0 (fun vo wo => ∃ z : Int, vo = some (.long (JL z)) ∧ HasC wo 12 om ∧ CT l yX12_refuse cX12_refuse 7 (some .long) 6 0 0 G [.ref om, .int (J a), .int (J n), .int (J nm), .int (J p)] wo (fun v2 w2 => v2 = some (.long (JL z)) ∧ CRel G.2.1 ox om w2)) := by
  obtain ⟨A, D, T, I, F, Q, P, A2, I2, F2, rfl, rfl, rfl, hC⟩ := hW
  refine CT_post (CT_frR (MW A2 G.2.1 I2 F2) (c_X11_refuse l G A D T I F Q P (I2 1) a n nm p hC.1 hC.2.1 (by omega) (by omega) (by omega) (by omega))) (fun vo wo hp => ?_)
  obtain ⟨w9, hp, rfl⟩ := hp
  obtain ⟨D1, b23, b50, b51, b52, b53, b54, g30, g31, g32, hv, rfl⟩ := hp
  refine ⟨_, hv, has_m, CT_post (CT_frL _ (c_X12_refuse l G A2 I2 F2 a n nm p hC.1 (by omega) (by omega) (by omega) (by omega) hC.2.2.1)) (fun v2 w2 hq => ?_)⟩
  obtain ⟨w8, hq, rfl⟩ := hq
  obtain ⟨cb3, cb4, cb5, cb6, cb7, cb8, cg16, cg17, cg18, cg11, hv2, rfl, hr2⟩ := hq
  subst hr2
  have e11 : fu F2 11 (-1) = F2 := by rw [← fu_id (X := F2) (k := 11) (v := -1) hC.2.2.1]
  rw [e11]
  exact ⟨hv2, _, _, _, _, _, _, _, _, _, _, rfl, rfl, rfl, (CR_fu2 (by decide) (CR_fu2 (by decide) (CR_fu2 (by decide) (CR_au2 (by decide) (CR_au2 (by decide) (CR_au2 (by decide) (CR_au2 (by decide) (CR_au2 (by decide) (CR_au2 (by decide) (CR_fu (by decide) (CR_fu (by decide) (CR_fu (by decide) (CR_au (by decide) (CR_au (by decide) (CR_au (by decide) (CR_au (by decide) (CR_au (by decide) (CR_au (by decide) hC))))))))))))))))))⟩
set_option maxHeartbeats 1000000 in
theorem pr_begin (l : Launch) (G : GT) {ox om : Nat} {w0 : va_W} (hW : CRel G.2.1 ox om w0) (a : Int) (n : Int) (nm : Int) (h_a : -2147483648 ≤ a ∧ a < 2147483648) (h_n : -2147483648 ≤ n ∧ n < 2147483648) (h_nm : -2147483648 ≤ nm ∧ nm < 2147483648) : CT l yX11_begin cX11_begin 10 (some .int) 6 0 0 G [.ref ox, .int (J a), .int (J n), .int (J nm)] w0 (fun vo wo => ∃ z : Int, vo = some (.int (J z)) ∧ HasC wo 12 om ∧ CT l yX12_begin cX12_begin 10 (some .int) 6 0 0 G [.ref om, .int (J a), .int (J n), .int (J nm)] wo (fun v2 w2 => v2 = some (.int (J z)) ∧ CRel G.2.1 ox om w2)) := by
  obtain ⟨A, D, T, I, F, Q, P, A2, I2, F2, rfl, rfl, rfl, hC⟩ := hW
  refine CT_post (CT_frR (MW A2 G.2.1 I2 F2) (c_X11_begin l G A D T I F Q P (I2 1) a n nm hC.1 hC.2.1 (by omega) (by omega) (by omega))) (fun vo wo hp => ?_)
  obtain ⟨w9, hp, rfl⟩ := hp
  obtain ⟨b56, b58, D1, b23, b50, b51, b52, b53, b54, g30, g31, g32, hv, rfl⟩ := hp
  refine ⟨_, hv, has_m, CT_post (CT_frL _ (c_X12_begin l G A2 I2 F2 a n nm hC.1 (by omega) (by omega) (by omega) hC.2.2.1)) (fun v2 w2 hq => ?_)⟩
  obtain ⟨w8, hq, rfl⟩ := hq
  obtain ⟨cb3, cb4, cb5, cb6, cb7, cb8, cg16, cg17, cg18, hv2, rfl⟩ := hq
  exact ⟨hv2, _, _, _, _, _, _, _, _, _, _, rfl, rfl, rfl, (CR_fu2 (by decide) (CR_fu2 (by decide) (CR_fu2 (by decide) (CR_au2 (by decide) (CR_au2 (by decide) (CR_au2 (by decide) (CR_au2 (by decide) (CR_au2 (by decide) (CR_au2 (by decide) (CR_fu (by decide) (CR_fu (by decide) (CR_fu (by decide) (CR_au (by decide) (CR_au (by decide) (CR_au (by decide) (CR_au (by decide) (CR_au (by decide) (CR_au (by decide) (CR_au (by decide) (CR_au (by decide) hC))))))))))))))))))))⟩
set_option maxHeartbeats 1000000 in
theorem pr_best (l : Launch) (G : GT) {ox om : Nat} {w0 : va_W} (hW : CRel G.2.1 ox om w0) (n : Int) (h_n : -2147483648 ≤ n ∧ n < 2147483648) : CT l yX11_best cX11_best 6 (some .int) 6 0 0 G [.ref ox, .int (J n)] w0 (fun vo wo => ∃ z : Int, vo = some (.int (J z)) ∧ HasC wo 12 om ∧ CT l yX12_best cX12_best 8 (some .int) 6 0 0 G [.ref om, .int (J n)] wo (fun v2 w2 => v2 = some (.int (J z)) ∧ CRel G.2.1 ox om w2)) := by
  obtain ⟨A, D, T, I, F, Q, P, A2, I2, F2, rfl, rfl, rfl, hC⟩ := hW
  refine CT_post (CT_frR (MW A2 G.2.1 I2 F2) (c_X11_best l G A D T I F Q P (I2 1) n hC.1 hC.2.1 (by omega))) (fun vo wo hp => ?_)
  obtain ⟨w9, hp, rfl⟩ := hp
  obtain ⟨b56, D1, b23, b50, b51, b52, b53, b54, g30, g31, g32, hv, rfl⟩ := hp
  refine ⟨_, hv, has_m, CT_post (CT_frL _ (c_X12_best l G A2 I2 F2 n hC.1 (by omega) hC.2.2.1)) (fun v2 w2 hq => ?_)⟩
  obtain ⟨w8, hq, rfl⟩ := hq
  obtain ⟨cb3, cb4, cb5, cb6, cb7, cb8, cg16, cg17, cg18, hv2, rfl⟩ := hq
  exact ⟨hv2, _, _, _, _, _, _, _, _, _, _, rfl, rfl, rfl, (CR_fu2 (by decide) (CR_fu2 (by decide) (CR_fu2 (by decide) (CR_au2 (by decide) (CR_au2 (by decide) (CR_au2 (by decide) (CR_au2 (by decide) (CR_au2 (by decide) (CR_au2 (by decide) (CR_fu (by decide) (CR_fu (by decide) (CR_fu (by decide) (CR_au (by decide) (CR_au (by decide) (CR_au (by decide) (CR_au (by decide) (CR_au (by decide) (CR_au (by decide) (CR_au (by decide) hC)))))))))))))))))))⟩
set_option maxHeartbeats 1000000 in
theorem pr_round (l : Launch) (G : GT) {ox om : Nat} {w0 : va_W} (hW : CRel G.2.1 ox om w0) (i : Int) (j : Int) (h_i : -2147483648 ≤ i ∧ i < 2147483648) (h_j : -2147483648 ≤ j ∧ j < 2147483648) : CT l yX11_round cX11_round 3 (some .int) 0 0 0 G [.ref ox, .int (J i), .int (J j)] w0 (fun vo wo => ∃ z : Int, vo = some (.int (J z)) ∧ HasC wo 12 om ∧ CT l yX12_round cX12_round 3 (some .int) 1 0 0 G [.ref om, .int (J i), .int (J j)] wo (fun v2 w2 => v2 = some (.int (J z)) ∧ CRel G.2.1 ox om w2)) := by
  obtain ⟨A, D, T, I, F, Q, P, A2, I2, F2, rfl, rfl, rfl, hC⟩ := hW
  refine CT_post (CT_frR (MW A2 G.2.1 I2 F2) (c_X11_round l G A D T I F Q P (I2 1) i j hC.1 hC.2.1 (by omega) (by omega))) (fun vo wo hp => ?_)
  obtain ⟨w9, hp, rfl⟩ := hp
  obtain ⟨b14, b15, g6, hv, rfl, hr⟩ := hp
  refine ⟨_, hv, has_m, CT_post (CT_frL _ (c_X12_round l G A2 I2 F2 i j hC.1 (by omega) (by omega))) (fun v2 w2 hq => ?_)⟩
  obtain ⟨w8, hq, rfl⟩ := hq
  obtain ⟨cb1, hv2, rfl, hr2⟩ := hq
  subst hr2
  exact ⟨hv2, _, _, _, _, _, _, _, _, _, _, rfl, rfl, rfl, (CR_st hC (RI_round hC.1) hr (fun S2 h => (LRb_fu (by decide) (LRb_au (by decide) (LRb_au (by decide) h)))) rfl rfl rfl rfl hC.2.2.2.2.2.1 (QNN_cg hC.2.2.2.2.2.2 (n1_round hC.1) rfl))⟩
set_option maxHeartbeats 1000000 in
theorem pr_sorts (l : Launch) (G : GT) {ox om : Nat} {w0 : va_W} (hW : CRel G.2.1 ox om w0) (w : Int) (h_w : -2147483648 ≤ w ∧ w < 2147483648) : CT l yX11_sorts cX11_sorts 5 (some .int) 2 0 0 G [.ref ox, .int (J w)] w0 (fun vo wo => ∃ z : Int, vo = some (.int (J z)) ∧ HasC wo 12 om ∧ CT l yX12_sorts cX12_sorts 3 (some .int) 10 0 0 G [.ref om, .int (J w)] wo (fun v2 w2 => v2 = some (.int (J z)) ∧ CRel G.2.1 ox om w2)) := by
  obtain ⟨A, D, T, I, F, Q, P, A2, I2, F2, rfl, rfl, rfl, hC⟩ := hW
  refine CT_post (CT_frR (MW A2 G.2.1 I2 F2) (c_X11_sorts l G A D T I F Q P (I2 1) w hC.1 hC.2.1 (by omega))) (fun vo wo hp => ?_)
  obtain ⟨w9, hp, rfl⟩ := hp
  obtain ⟨b57, b58, hv, rfl⟩ := hp
  refine ⟨_, hv, has_m, CT_post (CT_frL _ (c_X12_sorts l G A2 I2 F2 w hC.1 (by omega))) (fun v2 w2 hq => ?_)⟩
  obtain ⟨w8, hq, rfl⟩ := hq
  obtain ⟨cg19, cg20, cg21, cg22, hv2, rfl⟩ := hq
  exact ⟨hv2, _, _, _, _, _, _, _, _, _, _, rfl, rfl, rfl, (CR_fu2 (by decide) (CR_fu2 (by decide) (CR_fu2 (by decide) (CR_fu2 (by decide) (CR_au (by decide) (CR_au (by decide) hC))))))⟩
set_option maxHeartbeats 1000000 in
theorem pr_past (l : Launch) (G : GT) {ox om : Nat} {w0 : va_W} (hW : CRel G.2.1 ox om w0) (a : Int) (b : Int) (n : Int) (h_a : -2147483648 ≤ a ∧ a < 2147483648) (h_b : -2147483648 ≤ b ∧ b < 2147483648) (h_n : -2147483648 ≤ n ∧ n < 2147483648) : CT l yX11_past cX11_past 5 (some .int) 1 0 0 G [.ref ox, .int (J a), .int (J b), .int (J n)] w0 (fun vo wo => ∃ z : Int, vo = some (.int (J z)) ∧ HasC wo 12 om ∧ CT l yX12_past cX12_past 5 (some .int) 2 0 0 G [.ref om, .int (J a), .int (J b), .int (J n)] wo (fun v2 w2 => v2 = some (.int (J z)) ∧ CRel G.2.1 ox om w2)) := by
  obtain ⟨A, D, T, I, F, Q, P, A2, I2, F2, rfl, rfl, rfl, hC⟩ := hW
  refine CT_post (CT_frR (MW A2 G.2.1 I2 F2) (c_X11_past l G A D T I F Q P (I2 1) a b n hC.1 hC.2.1 (by omega) (by omega) (by omega))) (fun vo wo hp => ?_)
  obtain ⟨w9, hp, rfl⟩ := hp
  obtain ⟨I1, hv, rfl, hr⟩ := hp
  refine ⟨_, hv, has_m, CT_post (CT_frL _ (c_X12_past l G A2 I2 F2 a b n hC.1 (by omega) (by omega) (by omega))) (fun v2 w2 hq => ?_)⟩
  obtain ⟨w8, hq, rfl⟩ := hq
  obtain ⟨cb1, hv2, rfl, hr2⟩ := hq
  subst hr2
  exact ⟨hv2, _, _, _, _, _, _, _, _, _, _, rfl, rfl, rfl, (CR_st hC (RI_past hC.1) hr.1 (fun S2 h => LRb_I (fun k a b => hr.2 k (by omega)) h) (hr.2 34 (by decide)) (hr.2 55 (by decide)) rfl rfl (show BY I1 11 from by unfold BY; rw [hr.2 11 (by decide)]; exact hC.2.2.2.2.2.1) (QNN_cg hC.2.2.2.2.2.2 n1_past rfl))⟩
set_option maxHeartbeats 1000000 in
theorem pr_really (l : Launch) (G : GT) {ox om : Nat} {w0 : va_W} (hW : CRel G.2.1 ox om w0) (w : Int) (h_w : -2147483648 ≤ w ∧ w < 2147483648) : CT l yX11_really cX11_really 2 (some .int) 3 0 0 G [.ref ox, .int (J w)] w0 (fun vo wo => ∃ z : Int, vo = some (.int (J z)) ∧ HasC wo 12 om ∧ CT l yX12_really cX12_really 7 (some .int) 10 0 0 G [.ref om, .int (J w)] wo (fun v2 w2 => v2 = some (.int (J z)) ∧ CRel G.2.1 ox om w2)) := by
  obtain ⟨A, D, T, I, F, Q, P, A2, I2, F2, rfl, rfl, rfl, hC⟩ := hW
  refine CT_post (CT_frR (MW A2 G.2.1 I2 F2) (c_X11_really l G A D T I F Q P (I2 1) w hC.1 hC.2.1 (by omega))) (fun vo wo hp => ?_)
  obtain ⟨w9, hp, rfl⟩ := hp
  obtain ⟨b57, b59, hv, rfl⟩ := hp
  refine ⟨_, hv, has_m, CT_post (CT_frL _ (c_X12_really l G A2 I2 F2 w hC.1 (by omega))) (fun v2 w2 hq => ?_)⟩
  obtain ⟨w8, hq, rfl⟩ := hq
  obtain ⟨cg19, cg20, cg21, cg22, hv2, rfl⟩ := hq
  exact ⟨hv2, _, _, _, _, _, _, _, _, _, _, rfl, rfl, rfl, (CR_fu2 (by decide) (CR_fu2 (by decide) (CR_fu2 (by decide) (CR_fu2 (by decide) (CR_au (by decide) (CR_au (by decide) hC))))))⟩
set_option maxHeartbeats 1000000 in
theorem pr_order (l : Launch) (G : GT) {ox om : Nat} {w0 : va_W} (hW : CRel G.2.1 ox om w0) (i : Int) (h_i : -2147483648 ≤ i ∧ i < 2147483648) : CT l yX11_order cX11_order 2 (some .int) 3 0 0 G [.ref ox, .int (J i)] w0 (fun vo wo => ∃ z : Int, vo = some (.int (J z)) ∧ HasC wo 12 om ∧ CT l yX12_order cX12_order 2 (some .int) 10 0 0 G [.ref om, .int (J i)] wo (fun v2 w2 => v2 = some (.int (J z)) ∧ CRel G.2.1 ox om w2)) := by
  obtain ⟨A, D, T, I, F, Q, P, A2, I2, F2, rfl, rfl, rfl, hC⟩ := hW
  refine CT_post (CT_frR (MW A2 G.2.1 I2 F2) (c_X11_order l G A D T I F Q P (I2 1) i hC.1 hC.2.1 (by omega))) (fun vo wo hp => ?_)
  obtain ⟨w9, hp, rfl⟩ := hp
  obtain ⟨b57, b59, hv, rfl⟩ := hp
  refine ⟨_, hv, has_m, CT_post (CT_frL _ (c_X12_order l G A2 I2 F2 i hC.1 (by omega))) (fun v2 w2 hq => ?_)⟩
  obtain ⟨w8, hq, rfl⟩ := hq
  obtain ⟨cg19, cg20, cg21, cg22, hv2, rfl⟩ := hq
  exact ⟨hv2, _, _, _, _, _, _, _, _, _, _, rfl, rfl, rfl, (CR_fu2 (by decide) (CR_fu2 (by decide) (CR_fu2 (by decide) (CR_fu2 (by decide) (CR_au (by decide) (CR_au (by decide) hC))))))⟩
set_option maxHeartbeats 1000000 in
theorem pr_run (l : Launch) (G : GT) {ox om : Nat} {w0 : va_W} (hW : CRel G.2.1 ox om w0) (a : Int) (n : Int) (seed : Int) (h_a : -2147483648 ≤ a ∧ a < 2147483648) (h_n : -2147483648 ≤ n ∧ n < 2147483648) (h_seed : -2147483648 ≤ seed ∧ seed < 2147483648) : CT l yX11_run cX11_run 6 (some .int) 5 0 0 G [.ref ox, .int (J a), .int (J n), .int (J seed)] w0 (fun vo wo => ∃ z : Int, vo = some (.int (J z)) ∧ HasC wo 12 om ∧ CT l yX12_run cX12_run 9 (some .int) 4 0 0 G [.ref om, .int (J a), .int (J n), .int (J seed)] wo (fun v2 w2 => v2 = some (.int (J z)) ∧ CRel G.2.1 ox om w2)) := by
  obtain ⟨A, D, T, I, F, Q, P, A2, I2, F2, rfl, rfl, rfl, hC⟩ := hW
  refine CT_post (CT_frR (MW A2 G.2.1 I2 F2) (c_X11_run l G A D T I F Q P (I2 1) a n seed hC.1 hC.2.1 (by omega) (by omega) (by omega))) (fun vo wo hp => ?_)
  obtain ⟨w9, hp, rfl⟩ := hp
  obtain ⟨b2, b23, b56, g2, hv, rfl, hr⟩ := hp
  refine ⟨_, hv, has_m, CT_post (CT_frL _ (c_X12_run l G A2 I2 F2 a n seed hC.1 (by omega) (by omega) (by omega) hC.2.2.1)) (fun v2 w2 hq => ?_)⟩
  obtain ⟨w8, hq, rfl⟩ := hq
  obtain ⟨cb1, cb3, cb4, hv2, rfl, hr2⟩ := hq
  subst hr2
  exact ⟨hv2, _, _, _, _, _, _, _, _, _, _, rfl, rfl, rfl, (CR_au2 (by decide) (CR_au2 (by decide) (CR_st hC (RI_run hC.1) hr (fun S2 h => (LRb_fu (by decide) (LRb_au (by decide) (LRb_au (by decide) (LRb_au (by decide) h))))) rfl rfl rfl rfl hC.2.2.2.2.2.1 (QNN_cg hC.2.2.2.2.2.2 (n1_run hC.1) rfl))))⟩
set_option maxHeartbeats 1000000 in
theorem pr_act (l : Launch) (G : GT) {ox om : Nat} {w0 : va_W} (hW : CRel G.2.1 ox om w0) (a : Int) (c : Int) (x : Int) (h_a : -2147483648 ≤ a ∧ a < 2147483648) (h_c : -2147483648 ≤ c ∧ c < 2147483648) (h_x : -2147483648 ≤ x ∧ x < 2147483648) : CT l yX11_act cX11_act 5 (some .int) 7 0 0 G [.ref ox, .int (J a), .int (J c), .int (J x)] w0 (fun vo wo => ∃ z : Int, vo = some (.int (J z)) ∧ HasC wo 12 om ∧ CT l yX12_act cX12_act 4 (some .int) 7 0 0 G [.ref om, .int (J a), .int (J c), .int (J x)] wo (fun v2 w2 => v2 = some (.int (J z)) ∧ CRel G.2.1 ox om w2)) := by
  obtain ⟨A, D, T, I, F, Q, P, A2, I2, F2, rfl, rfl, rfl, hC⟩ := hW
  refine CT_post (CT_frR (MW A2 G.2.1 I2 F2) (c_X11_act l G A D T I F Q P (I2 1) a c x hC.1 hC.2.1 (by omega) (by omega) (by omega))) (fun vo wo hp => ?_)
  obtain ⟨w9, hp, rfl⟩ := hp
  obtain ⟨b55, hv, rfl, hr⟩ := hp
  refine ⟨_, hv, has_m, CT_post (CT_frL _ (c_X12_act l G A2 I2 F2 a c x hC.1 (by omega) (by omega))) (fun v2 w2 hq => ?_)⟩
  obtain ⟨w8, hq, rfl⟩ := hq
  obtain ⟨cb9, cg24, cg25, cg26, cg27, hv2, rfl, hr2⟩ := hq
  obtain ⟨rfl, rfl⟩ := hr2
  exact ⟨hv2, _, _, _, _, _, _, _, _, _, _, rfl, rfl, rfl, (CR_fu2 (by decide) (CR_fu2 (by decide) (CR_fu2 (by decide) (CR_act hC hr (actL_len _ _ _)))))⟩
set_option maxHeartbeats 1000000 in
theorem pr_trace (l : Launch) (G : GT) {ox om : Nat} {w0 : va_W} (hW : CRel G.2.1 ox om w0) (i : Int) (h_i : -2147483648 ≤ i ∧ i < 2147483648) : CT l yX11_trace cX11_trace 2 (some .int) 0 0 0 G [.ref ox, .int (J i)] w0 (fun vo wo => ∃ z : Int, vo = some (.int (J z)) ∧ HasC wo 12 om ∧ CT l yX12_trace cX12_trace 2 (some .int) 1 0 0 G [.ref om, .int (J i)] wo (fun v2 w2 => v2 = some (.int (J z)) ∧ CRel G.2.1 ox om w2)) := by
  obtain ⟨A, D, T, I, F, Q, P, A2, I2, F2, rfl, rfl, rfl, hC⟩ := hW
  refine CT_post (CT_frR (MW A2 G.2.1 I2 F2) (c_X11_trace l G A D T I F Q P (I2 1) (F2 24) (I2 9) i hC.1 hC.2.1 (by omega) ⟨hC.2.2.2.2.1.1.1, hC.2.2.2.2.1.2.1, by have := hC.2.2.2.2.1.2.2; omega⟩ hC.2.2.2.2.1.1.2)) (fun vo wo hp => ?_)
  obtain ⟨w9, hp, rfl⟩ := hp
  obtain ⟨hv, rfl⟩ := hp
  refine ⟨_, hv, has_m, CT_post (CT_frL _ (c_X12_trace l G A2 I2 F2 i hC.2.2.2.2.1.2 (by omega))) (fun v2 w2 hq => ?_)⟩
  obtain ⟨w8, hq, rfl⟩ := hq
  obtain ⟨hv2, rfl⟩ := hq
  exact ⟨hv2, _, _, _, _, _, _, _, _, _, _, rfl, rfl, rfl, hC⟩
set_option maxHeartbeats 1000000 in
theorem pr_as (l : Launch) (G : GT) {ox om : Nat} {w0 : va_W} (hW : CRel G.2.1 ox om w0) (a : Int) (k : Int) (h_a : -2147483648 ≤ a ∧ a < 2147483648) (h_k : -2147483648 ≤ k ∧ k < 2147483648) : CT l yX11_as cX11_as 3 (some .int) 1 0 0 G [.ref ox, .int (J a), .int (J k)] w0 (fun vo wo => ∃ z : Int, vo = some (.int (J z)) ∧ HasC wo 12 om ∧ CT l yX12_as cX12_as 3 (some .int) 2 0 0 G [.ref om, .int (J a), .int (J k)] wo (fun v2 w2 => v2 = some (.int (J z)) ∧ CRel G.2.1 ox om w2)) := by
  obtain ⟨A, D, T, I, F, Q, P, A2, I2, F2, rfl, rfl, rfl, hC⟩ := hW
  refine CT_post (CT_frR (MW A2 G.2.1 I2 F2) (c_X11_as l G A D T I F Q P (I2 1) a k hC.1 hC.2.1 (by omega) (by omega))) (fun vo wo hp => ?_)
  obtain ⟨w9, hp, rfl⟩ := hp
  obtain ⟨hv, rfl⟩ := hp
  refine ⟨_, hv, has_m, CT_post (CT_frL _ (c_X12_as l G A2 I2 F2 a k hC.1 (by omega) (by omega))) (fun v2 w2 hq => ?_)⟩
  obtain ⟨w8, hq, rfl⟩ := hq
  obtain ⟨hv2, rfl⟩ := hq
  exact ⟨hv2, _, _, _, _, _, _, _, _, _, _, rfl, rfl, rfl, hC⟩
set_option maxHeartbeats 1000000 in
theorem pr_image (l : Launch) (G : GT) {ox om : Nat} {w0 : va_W} (hW : CRel G.2.1 ox om w0)   : CT l yX11_image cX11_image 1 (some .int) 2 0 0 G [.ref ox] w0 (fun vo wo => ∃ z : Int, vo = some (.int (J z)) ∧ HasC wo 12 om ∧ CT l yX12_image cX12_image 2 (some .int) 0 0 0 G [.ref om] wo (fun v2 w2 => v2 = some (.int (J z)) ∧ CRel G.2.1 ox om w2)) := by
  obtain ⟨A, D, T, I, F, Q, P, A2, I2, F2, rfl, rfl, rfl, hC⟩ := hW
  refine CT_post (CT_frR (MW A2 G.2.1 I2 F2) (c_X11_image l G A D T I F Q P (I2 1) hC.1 hC.2.1 hC.2.2.2.2.2.1 hC.2.2.2.2.2.2)) (fun vo wo hp => ?_)
  obtain ⟨w9, hp, rfl⟩ := hp
  obtain ⟨g0, b25, b27, b28, b29, b30, b31, b32, b34, b36, b37, b38, b40, b41, b42, b43, b44, b45, g11, g12, g13, g14, g15, g16, q33, q35, hv, rfl, hr⟩ := hp
  refine ⟨_, hv, has_m, CT_post (CT_frL _ (c_X12_image l G A2 I2 F2 hC.1)) (fun v2 w2 hq => ?_)⟩
  obtain ⟨w8, hq, rfl⟩ := hq
  obtain ⟨cb2, cg3, hv2, rfl, hr2⟩ := hq
  exact ⟨hv2, _, _, _, _, _, _, _, _, _, _, rfl, rfl, rfl, (CR_image hC (LRb_qu (by decide) (LRb_qu (by decide) (LRb_fu (by decide) (LRb_fu (by decide) (LRb_fu (by decide) (LRb_fu (by decide) (LRb_fu (by decide) (LRb_fu (by decide) (LRb_fu (by decide) (LRb_au (by decide) (LRb_au (by decide) (LRb_au (by decide) (LRb_au (by decide) (LRb_au (by decide) (LRb_au (by decide) (LRb_au (by decide) (LRb_au (by decide) (LRb_au (by decide) (LRb_au (by decide) (LRb_au (by decide) (LRb_au (by decide) (LRb_au (by decide) (LRb_au (by decide) (LRb_au (by decide) (LRb_au (by decide) (LRb_au (by decide) hC.2.1)))))))))))))))))))))))))) hr.1 hr.2.1 hr.2.2.1 hr.2.2.2 rfl hC.2.2.2.2.2.1 rfl hr2.1 hr2.2)⟩
set_option maxHeartbeats 1000000 in
theorem pr_undo (l : Launch) (G : GT) {ox om : Nat} {w0 : va_W} (hW : CRel G.2.1 ox om w0)   : CT l yX11_undo cX11_undo 1 (some .int) 2 0 0 G [.ref ox] w0 (fun vo wo => ∃ z : Int, vo = some (.int (J z)) ∧ HasC wo 12 om ∧ CT l yX12_undo cX12_undo 2 (some .int) 0 0 0 G [.ref om] wo (fun v2 w2 => v2 = some (.int (J z)) ∧ CRel G.2.1 ox om w2)) := by
  obtain ⟨A, D, T, I, F, Q, P, A2, I2, F2, rfl, rfl, rfl, hC⟩ := hW
  obtain ⟨S2, k1, k2, k3, k4, k5⟩ := hC.2.2.2.1
  refine CT_post (CT_frR (MW A2 G.2.1 I2 F2) (c_X11_undo l G A D T I F Q P (I2 1) S2 hC.1 hC.2.1 k1 k2 (by omega) k3 k4)) (fun vo wo hp => ?_)
  obtain ⟨w9, hp, rfl⟩ := hp
  obtain ⟨b2, b4, b5, b6, b7, b8, b9, b11, b13, b14, b15, b17, b18, b19, b20, b21, b22, g1, g2, g3, g4, g5, g6, q10, q12, hv, rfl, hr⟩ := hp
  refine ⟨_, hv, has_m, CT_post (CT_frL _ (c_X12_undo l G A2 I2 F2 hC.1 (by omega))) (fun v2 w2 hq => ?_)⟩
  obtain ⟨w8, hq, rfl⟩ := hq
  obtain ⟨cb1, hv2, rfl, hr2⟩ := hq
  have ez : (if F2 3 = 0 then (-3 : Int) else I2 2 2) = (if F 0 = 0 then -3 else S2 2) := by
    rcases k5 with k5 | k5
    · rw [if_pos k5.1, if_pos k5.2]
    · rw [if_neg (by omega), if_neg (by omega), k5.2.2 2 (by decide) (by decide)]
  rw [ez] at hv2
  have hLb : ∀ S3 : Int → Int, LRb 24 11 G.2.1 S3 I F Q P → LRb 24 11 G.2.1 S3 (au (au (au (au (au (au (au (au (au (au (au (au (au (au (au (au (au I 2 b2) 4 b4) 5 b5) 6 b6) 7 b7) 8 b8) 9 b9) 11 b11) 13 b13) 14 b14) 15 b15) 17 b17) 18 b18) 19 b19) 20 b20) 21 b21) 22 b22) (fu (fu (fu (fu (fu (fu F 1 g1) 2 g2) 3 g3) 4 g4) 5 g5) 6 g6) (qu (qu Q 10 q10) 12 q12) P := fun S3 h => (LRb_qu (by decide) (LRb_qu (by decide) (LRb_fu (by decide) (LRb_fu (by decide) (LRb_fu (by decide) (LRb_fu (by decide) (LRb_fu (by decide) (LRb_fu (by decide) (LRb_au (by decide) (LRb_au (by decide) (LRb_au (by decide) (LRb_au (by decide) (LRb_au (by decide) (LRb_au (by decide) (LRb_au (by decide) (LRb_au (by decide) (LRb_au (by decide) (LRb_au (by decide) (LRb_au (by decide) (LRb_au (by decide) (LRb_au (by decide) (LRb_au (by decide) (LRb_au (by decide) (LRb_au (by decide) (LRb_au (by decide) h)))))))))))))))))))))))))
  refine ⟨hv2, _, _, _, _, _, _, _, _, _, _, rfl, rfl, rfl, ?_⟩
  rcases k5 with k5 | k5
  · have e1 := hr2.1 k5.1
    subst e1
    have h0 := hr.1 k5.2
    exact CR_st hC hC.1 h0.1 hLb rfl rfl rfl rfl (show BY _ 11 from by unfold BY; rw [h0.2.1]; exact hC.2.2.2.2.2.1) (QNN_cg hC.2.2.2.2.2.2 rfl h0.2.2)
  · have e1 := hr2.2 (by omega)
    have h0 := hr.2 (by omega)
    have e2 : ∀ j : Int, 0 ≤ j → j < 965 → cb1 j = S2 j := fun j j0 j1 => by rw [e1 j, if_pos ⟨j0, j1⟩]; exact k5.2.2 j j0 j1
    have e3 : ∀ j : Int, -2147483648 ≤ cb1 j ∧ cb1 j < 2147483648 := fun j => by
      by_cases c : 0 ≤ j ∧ j < 965
      · rw [e2 j c.1 c.2]; exact RI_ii k1 (fun _ => Or.inl rfl) j
      · rw [e1 j, if_neg c]; exact RI_ii hC.1 (fun _ => Or.inl rfl) j
    exact CR_st hC (RI_cong k1 e2 e3) (LRb_cong k1 e2 h0.1) hLb rfl rfl rfl rfl h0.2.1 (QNN_cg h0.2.2 (e2 1 (by decide) (by decide)) rfl)
set_option maxHeartbeats 1000000 in
theorem pr_count (l : Launch) (G : GT) {ox om : Nat} {w0 : va_W} (hW : CRel G.2.1 ox om w0) (w : Int) (h_w : -2147483648 ≤ w ∧ w < 2147483648) : CT l yX11_count cX11_count 2 (some .int) 0 0 0 G [.ref ox, .int (J w)] w0 (fun vo wo => ∃ z : Int, vo = some (.int (J z)) ∧ HasC wo 12 om ∧ CT l yX12_count cX12_count 2 (some .int) 0 0 0 G [.ref om, .int (J w)] wo (fun v2 w2 => v2 = some (.int (J z)) ∧ CRel G.2.1 ox om w2)) := by
  obtain ⟨A, D, T, I, F, Q, P, A2, I2, F2, rfl, rfl, rfl, hC⟩ := hW
  refine CT_post (CT_frR (MW A2 G.2.1 I2 F2) (c_X11_count l G A D T I F Q P (I2 1) (F2 24) w hC.1 hC.2.1 (by omega) hC.2.2.2.2.1.1.1)) (fun vo wo hp => ?_)
  obtain ⟨w9, hp, rfl⟩ := hp
  obtain ⟨hv, rfl⟩ := hp
  refine ⟨_, hv, has_m, CT_post (CT_frL _ (c_X12_count l G A2 I2 F2 w hC.1 (by omega))) (fun v2 w2 hq => ?_)⟩
  obtain ⟨w8, hq, rfl⟩ := hq
  obtain ⟨hv2, rfl⟩ := hq
  exact ⟨hv2, _, _, _, _, _, _, _, _, _, _, rfl, rfl, rfl, hC⟩
