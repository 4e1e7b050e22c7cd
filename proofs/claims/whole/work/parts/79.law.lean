/-! ===== the law: its script, its cases ===== -/
def sc (xs : Nat → Int32) (e : Int) : Int := (xs e.toNat).toInt
theorem sc_in (xs : Nat → Int32) (e : Int) : -2147483648 ≤ sc xs e ∧ sc xs e < 2147483648 := ⟨Int32.le_toInt _, Int32.toInt_lt _⟩
theorem JL_of (x : Int64) : x = JL x.toInt := (Int64.ofInt_toInt x).symm
theorem li_in (x : Int64) : -9223372036854775808 ≤ x.toInt ∧ x.toInt < 9223372036854775808 := ⟨Int64.le_toInt _, Int64.toInt_lt _⟩
section LROW
variable {K : KT} {G : GT} {cc : ByteArray} {own : String} {d mc ms cs ss pc : Nat} {w : va_W} {lv : List (Nat × Value)} {st : List Value}
theorem w_sld (hC : KOK K G cc own d mc ms) {b L : Nat} {xs : Nat → Int32} (hX : va_X b L xs (ks K) (ks K).heap) (hbl : b < (ks K).heap.size) (hbA : ¬ kA K b) {e : Int} (hr : 0 ≤ e ∧ e < (L : Int)) (hL : L ≤ 384) (hd : decode cc pc = .ok (.iaload, 1)) (k : WW K G cs ss w (pc + 1) lv (.int (J (sc xs e)) :: st)) : WW K G cs ss w pc lv (.int (J e) :: .ref b :: st) := fun H locs ls hP hD hS hl => by
  refine va_sld hC.1 hC.2.1 hX hbl hbA hS (J_vp hr.1 hr.2 (by omega)) hd ?_
  rw [J_clamp hr.1 (by omega)]
  have h := k H locs ls hP hD hS hl
  rw [show J (sc xs e) = xs e.toNat from (J_of _).symm] at h
  exact h
theorem w_slen (hC : KOK K G cc own d mc ms) {b L : Nat} {xs : Nat → Int32} (hX : va_X b L xs (ks K) (ks K).heap) (hbl : b < (ks K).heap.size) (hbA : ¬ kA K b) (hd : decode cc pc = .ok (.arraylength, 1)) (k : WW K G cs ss w (pc + 1) lv (.int (J (L : Int)) :: st)) : WW K G cs ss w pc lv (.ref b :: st) := fun H locs ls hP hD hS hl => va_slen hC.1 hC.2.1 hX hbl hbA hS hd (by
  have h := k H locs ls hP hD hS hl
  rw [show J (L : Int) = Int32.ofNat L from Int32.ofInt_eq_ofNat] at h
  exact h)
theorem w_same (hC : KOK K G cc own d mc ms) {x : Int32} {off : Int} {tgt : Nat} (hd : decode cc pc = .ok (.if_icmp .eq off, 3)) (ht : (pc : Int) + off = (tgt : Int)) (k : WW K G cs ss w tgt lv st) : WW K G cs ss w pc lv (.int x :: .int x :: st) := fun H locs ls hP hD hS hl => lv_icmp_eq hC.1 hC.2.1 hd ht (fun _ => k H locs ls hP hD hS hl) (fun c => absurd rfl c)
theorem w_lsame (hC : KOK K G cc own d mc ms) {x : Int64} (hd : decode cc pc = .ok (.lcmp, 1)) (k : WW K G cs ss w (pc + 1) lv (.int 0 :: st)) : WW K G cs ss w pc lv (.long x :: .long x :: st) := fun H locs ls hP hD hS hl => by
  refine W.lcmp hC.1 hC.2.1 hd ?_
  have e : lg_cmp x x = 0 := by
    rw [JL_of x, lg_cmp3 (li_in x) (li_in x)]
    unfold cmp3
    rw [if_neg (Int.lt_irrefl _), if_pos rfl]
    rfl
  rw [e]
  exact k H locs ls hP hD hS hl
theorem w_zero (hC : KOK K G cc own d mc ms) {off : Int} {tgt : Nat} (hd : decode cc pc = .ok (.ifCond .eq off, 3)) (ht : (pc : Int) + off = (tgt : Int)) (k : WW K G cs ss w tgt lv st) : WW K G cs ss w pc lv (.int 0 :: st) := fun H locs ls hP hD hS hl => lv_if_eq hC.1 hC.2.1 hd ht (fun _ => k H locs ls hP hD hS hl) (fun c => absurd rfl c)
end LROW

set_option maxRecDepth 100000 in
set_option maxHeartbeats 4000000 in
theorem lc_name {K : KT} {G : GT} (hC : KOK K G code RL 2000 600000 7302250) {b L : Nat} {xs : Nat → Int32} (hX : va_X b L xs (ks K) (ks K).heap) (hbl : b < (ks K).heap.size) (hbA : ¬ kA K b) (hL : L ≤ 384) {ox om k : Nat} (hk : 6 * (k : Int) + 6 ≤ (L : Int)) {w0 : va_W} (hW : CRel G.2.1 ox om w0) (next : ∀ w2 : va_W, CRel G.2.1 ox om w2 → WW K G (100 + 6 * (k + 1)) (4000 + 126 * (k + 1)) w2 1450 [(3, .int (J (6 * (k : Int)))), (2, .ref om), (1, .ref ox), (0, .ref b)] []) : WW K G (100 + 6 * k) (4000 + 126 * k) w0 192 [(3, .int (J (6 * (k : Int)))), (2, .ref om), (1, .ref ox), (0, .ref b)] [] := by
  obtain ⟨q0, f0, h0⟩ := hW.hx
  refine w_aload_n (pc := 192) hC dL_law_192 2 rfl rfl ?_
  refine w_callV (pc := 193) (As := []) (rest := []) hC dL_law_193 cv_L_13 (pr_name (kl K) G hW ) (by decide) (by omega) (q0 := q0) h0 rfl rfl rfl (Nat.le_of_ble_eq_true rfl) rfl (fun vo wo hv => ?_)
  obtain ⟨z, hv1, ⟨q1, f1, h1⟩, hM⟩ := hv
  rw [hv1]
  show WW K G _ _ wo 196 [(3, .int (J (6 * (k : Int)))), (2, .ref om), (1, .ref ox), (0, .ref b)] [.int (J (z))]
  refine w_aload_n (pc := 196) hC dL_law_196 1 rfl rfl ?_
  refine w_callV (pc := 197) (As := []) (rest := [.int (J (z))]) hC dL_law_197 cv_L_17 hM (by decide) (by omega) (q0 := q1) h1 rfl rfl rfl (Nat.le_of_ble_eq_true rfl) rfl (fun v2 w2 hv => ?_)
  obtain ⟨hv2, hW2⟩ := hv
  rw [hv2]
  show WW K G _ _ w2 200 [(3, .int (J (6 * (k : Int)))), (2, .ref om), (1, .ref ox), (0, .ref b)] [.int (J (z)), .int (J (z))]
  refine w_same (pc := 200) (tgt := 1450) hC dL_law_200 (by decide) ?_
  exact w_up (by omega) (by omega) (next w2 hW2)
set_option maxRecDepth 100000 in
set_option maxHeartbeats 4000000 in
theorem lc_chance {K : KT} {G : GT} (hC : KOK K G code RL 2000 600000 7302250) {b L : Nat} {xs : Nat → Int32} (hX : va_X b L xs (ks K) (ks K).heap) (hbl : b < (ks K).heap.size) (hbA : ¬ kA K b) (hL : L ≤ 384) {ox om k : Nat} (hk : 6 * (k : Int) + 6 ≤ (L : Int)) {w0 : va_W} (hW : CRel G.2.1 ox om w0) (next : ∀ w2 : va_W, CRel G.2.1 ox om w2 → WW K G (100 + 6 * (k + 1)) (4000 + 126 * (k + 1)) w2 1450 [(3, .int (J (6 * (k : Int)))), (2, .ref om), (1, .ref ox), (0, .ref b)] []) : WW K G (100 + 6 * k) (4000 + 126 * k) w0 205 [(3, .int (J (6 * (k : Int)))), (2, .ref om), (1, .ref ox), (0, .ref b)] [] := by
  obtain ⟨q0, f0, h0⟩ := hW.hx
  refine w_aload_n (pc := 205) hC dL_law_205 2 rfl rfl ?_
  refine w_aload_n (pc := 206) hC dL_law_206 3 rfl rfl ?_
  refine w_iload_n (pc := 207) hC dL_law_207 0 rfl rfl ?_
  refine w_iconst (pc := 208) hC dL_law_208 ?_
  refine w_iadd (pc := 209) hC dL_law_209 ?_
  refine w_sld (pc := 210) hC hX hbl hbA (by omega) hL dL_law_210 ?_
  refine w_aload_n (pc := 211) hC dL_law_211 3 rfl rfl ?_
  refine w_iload_n (pc := 212) hC dL_law_212 0 rfl rfl ?_
  refine w_iconst (pc := 213) hC dL_law_213 ?_
  refine w_iadd (pc := 214) hC dL_law_214 ?_
  refine w_sld (pc := 215) hC hX hbl hbA (by omega) hL dL_law_215 ?_
  refine w_aload_n (pc := 216) hC dL_law_216 3 rfl rfl ?_
  refine w_iload_n (pc := 217) hC dL_law_217 0 rfl rfl ?_
  refine w_iconst (pc := 218) hC dL_law_218 ?_
  refine w_iadd (pc := 219) hC dL_law_219 ?_
  refine w_sld (pc := 220) hC hX hbl hbA (by omega) hL dL_law_220 ?_
  refine w_callV (pc := 221) (As := [.int (J (sc xs (6 * (k : Int) + 1))), .int (J (sc xs (6 * (k : Int) + 2))), .int (J (sc xs (6 * (k : Int) + 3)))]) (rest := []) hC dL_law_221 cv_L_18 (pr_chance (kl K) G hW (sc xs (6 * (k : Int) + 1)) (sc xs (6 * (k : Int) + 2)) (sc xs (6 * (k : Int) + 3)) (sc_in _ _) (sc_in _ _) (sc_in _ _)) (by decide) (by omega) (q0 := q0) h0 rfl rfl rfl (Nat.le_of_ble_eq_true rfl) rfl (fun vo wo hv => ?_)
  obtain ⟨z, hv1, ⟨q1, f1, h1⟩, hM⟩ := hv
  rw [hv1]
  show WW K G _ _ wo 224 [(3, .int (J (6 * (k : Int)))), (2, .ref om), (1, .ref ox), (0, .ref b)] [.int (J (z))]
  refine w_aload_n (pc := 224) hC dL_law_224 1 rfl rfl ?_
  refine w_aload_n (pc := 225) hC dL_law_225 3 rfl rfl ?_
  refine w_iload_n (pc := 226) hC dL_law_226 0 rfl rfl ?_
  refine w_iconst (pc := 227) hC dL_law_227 ?_
  refine w_iadd (pc := 228) hC dL_law_228 ?_
  refine w_sld (pc := 229) hC hX hbl hbA (by omega) hL dL_law_229 ?_
  refine w_aload_n (pc := 230) hC dL_law_230 3 rfl rfl ?_
  refine w_iload_n (pc := 231) hC dL_law_231 0 rfl rfl ?_
  refine w_iconst (pc := 232) hC dL_law_232 ?_
  refine w_iadd (pc := 233) hC dL_law_233 ?_
  refine w_sld (pc := 234) hC hX hbl hbA (by omega) hL dL_law_234 ?_
  refine w_aload_n (pc := 235) hC dL_law_235 3 rfl rfl ?_
  refine w_iload_n (pc := 236) hC dL_law_236 0 rfl rfl ?_
  refine w_iconst (pc := 237) hC dL_law_237 ?_
  refine w_iadd (pc := 238) hC dL_law_238 ?_
  refine w_sld (pc := 239) hC hX hbl hbA (by omega) hL dL_law_239 ?_
  refine w_callV (pc := 240) (As := [.int (J (sc xs (6 * (k : Int) + 1))), .int (J (sc xs (6 * (k : Int) + 2))), .int (J (sc xs (6 * (k : Int) + 3)))]) (rest := [.int (J (z))]) hC dL_law_240 cv_L_22 hM (by decide) (by omega) (q0 := q1) h1 rfl rfl rfl (Nat.le_of_ble_eq_true rfl) rfl (fun v2 w2 hv => ?_)
  obtain ⟨hv2, hW2⟩ := hv
  rw [hv2]
  show WW K G _ _ w2 243 [(3, .int (J (6 * (k : Int)))), (2, .ref om), (1, .ref ox), (0, .ref b)] [.int (J (z)), .int (J (z))]
  refine w_same (pc := 243) (tgt := 1450) hC dL_law_243 (by decide) ?_
  exact w_up (by omega) (by omega) (next w2 hW2)
set_option maxRecDepth 100000 in
set_option maxHeartbeats 4000000 in
theorem lc_beats {K : KT} {G : GT} (hC : KOK K G code RL 2000 600000 7302250) {b L : Nat} {xs : Nat → Int32} (hX : va_X b L xs (ks K) (ks K).heap) (hbl : b < (ks K).heap.size) (hbA : ¬ kA K b) (hL : L ≤ 384) {ox om k : Nat} (hk : 6 * (k : Int) + 6 ≤ (L : Int)) {w0 : va_W} (hW : CRel G.2.1 ox om w0) (next : ∀ w2 : va_W, CRel G.2.1 ox om w2 → WW K G (100 + 6 * (k + 1)) (4000 + 126 * (k + 1)) w2 1450 [(3, .int (J (6 * (k : Int)))), (2, .ref om), (1, .ref ox), (0, .ref b)] []) : WW K G (100 + 6 * k) (4000 + 126 * k) w0 248 [(3, .int (J (6 * (k : Int)))), (2, .ref om), (1, .ref ox), (0, .ref b)] [] := by
  obtain ⟨q0, f0, h0⟩ := hW.hx
  refine w_aload_n (pc := 248) hC dL_law_248 2 rfl rfl ?_
  refine w_aload_n (pc := 249) hC dL_law_249 3 rfl rfl ?_
  refine w_iload_n (pc := 250) hC dL_law_250 0 rfl rfl ?_
  refine w_iconst (pc := 251) hC dL_law_251 ?_
  refine w_iadd (pc := 252) hC dL_law_252 ?_
  refine w_sld (pc := 253) hC hX hbl hbA (by omega) hL dL_law_253 ?_
  refine w_aload_n (pc := 254) hC dL_law_254 3 rfl rfl ?_
  refine w_iload_n (pc := 255) hC dL_law_255 0 rfl rfl ?_
  refine w_iconst (pc := 256) hC dL_law_256 ?_
  refine w_iadd (pc := 257) hC dL_law_257 ?_
  refine w_sld (pc := 258) hC hX hbl hbA (by omega) hL dL_law_258 ?_
  refine w_callV (pc := 259) (As := [.int (J (sc xs (6 * (k : Int) + 1))), .int (J (sc xs (6 * (k : Int) + 2)))]) (rest := []) hC dL_law_259 cv_L_23 (pr_beats (kl K) G hW (sc xs (6 * (k : Int) + 1)) (sc xs (6 * (k : Int) + 2)) (sc_in _ _) (sc_in _ _)) (by decide) (by omega) (q0 := q0) h0 rfl rfl rfl (Nat.le_of_ble_eq_true rfl) rfl (fun vo wo hv => ?_)
  obtain ⟨z, hv1, ⟨q1, f1, h1⟩, hM⟩ := hv
  rw [hv1]
  show WW K G _ _ wo 262 [(3, .int (J (6 * (k : Int)))), (2, .ref om), (1, .ref ox), (0, .ref b)] [.int (J (z))]
  refine w_aload_n (pc := 262) hC dL_law_262 1 rfl rfl ?_
  refine w_aload_n (pc := 263) hC dL_law_263 3 rfl rfl ?_
  refine w_iload_n (pc := 264) hC dL_law_264 0 rfl rfl ?_
  refine w_iconst (pc := 265) hC dL_law_265 ?_
  refine w_iadd (pc := 266) hC dL_law_266 ?_
  refine w_sld (pc := 267) hC hX hbl hbA (by omega) hL dL_law_267 ?_
  refine w_aload_n (pc := 268) hC dL_law_268 3 rfl rfl ?_
  refine w_iload_n (pc := 269) hC dL_law_269 0 rfl rfl ?_
  refine w_iconst (pc := 270) hC dL_law_270 ?_
  refine w_iadd (pc := 271) hC dL_law_271 ?_
  refine w_sld (pc := 272) hC hX hbl hbA (by omega) hL dL_law_272 ?_
  refine w_callV (pc := 273) (As := [.int (J (sc xs (6 * (k : Int) + 1))), .int (J (sc xs (6 * (k : Int) + 2)))]) (rest := [.int (J (z))]) hC dL_law_273 cv_L_27 hM (by decide) (by omega) (q0 := q1) h1 rfl rfl rfl (Nat.le_of_ble_eq_true rfl) rfl (fun v2 w2 hv => ?_)
  obtain ⟨hv2, hW2⟩ := hv
  rw [hv2]
  show WW K G _ _ w2 276 [(3, .int (J (6 * (k : Int)))), (2, .ref om), (1, .ref ox), (0, .ref b)] [.int (J (z)), .int (J (z))]
  refine w_same (pc := 276) (tgt := 1450) hC dL_law_276 (by decide) ?_
  exact w_up (by omega) (by omega) (next w2 hW2)
set_option maxRecDepth 100000 in
set_option maxHeartbeats 4000000 in
theorem lc_board {K : KT} {G : GT} (hC : KOK K G code RL 2000 600000 7302250) {b L : Nat} {xs : Nat → Int32} (hX : va_X b L xs (ks K) (ks K).heap) (hbl : b < (ks K).heap.size) (hbA : ¬ kA K b) (hL : L ≤ 384) {ox om k : Nat} (hk : 6 * (k : Int) + 6 ≤ (L : Int)) {w0 : va_W} (hW : CRel G.2.1 ox om w0) (next : ∀ w2 : va_W, CRel G.2.1 ox om w2 → WW K G (100 + 6 * (k + 1)) (4000 + 126 * (k + 1)) w2 1450 [(3, .int (J (6 * (k : Int)))), (2, .ref om), (1, .ref ox), (0, .ref b)] []) : WW K G (100 + 6 * k) (4000 + 126 * k) w0 281 [(3, .int (J (6 * (k : Int)))), (2, .ref om), (1, .ref ox), (0, .ref b)] [] := by
  obtain ⟨q0, f0, h0⟩ := hW.hx
  refine w_aload_n (pc := 281) hC dL_law_281 2 rfl rfl ?_
  refine w_aload_n (pc := 282) hC dL_law_282 3 rfl rfl ?_
  refine w_iload_n (pc := 283) hC dL_law_283 0 rfl rfl ?_
  refine w_iconst (pc := 284) hC dL_law_284 ?_
  refine w_iadd (pc := 285) hC dL_law_285 ?_
  refine w_sld (pc := 286) hC hX hbl hbA (by omega) hL dL_law_286 ?_
  refine w_aload_n (pc := 287) hC dL_law_287 3 rfl rfl ?_
  refine w_iload_n (pc := 288) hC dL_law_288 0 rfl rfl ?_
  refine w_iconst (pc := 289) hC dL_law_289 ?_
  refine w_iadd (pc := 290) hC dL_law_290 ?_
  refine w_sld (pc := 291) hC hX hbl hbA (by omega) hL dL_law_291 ?_
  refine w_callV (pc := 292) (As := [.int (J (sc xs (6 * (k : Int) + 1))), .int (J (sc xs (6 * (k : Int) + 2)))]) (rest := []) hC dL_law_292 cv_L_28 (pr_board (kl K) G hW (sc xs (6 * (k : Int) + 1)) (sc xs (6 * (k : Int) + 2)) (sc_in _ _) (sc_in _ _)) (by decide) (by omega) (q0 := q0) h0 rfl rfl rfl (Nat.le_of_ble_eq_true rfl) rfl (fun vo wo hv => ?_)
  obtain ⟨z, hv1, ⟨q1, f1, h1⟩, hM⟩ := hv
  rw [hv1]
  show WW K G _ _ wo 295 [(3, .int (J (6 * (k : Int)))), (2, .ref om), (1, .ref ox), (0, .ref b)] [.int (J (z))]
  refine w_aload_n (pc := 295) hC dL_law_295 1 rfl rfl ?_
  refine w_aload_n (pc := 296) hC dL_law_296 3 rfl rfl ?_
  refine w_iload_n (pc := 297) hC dL_law_297 0 rfl rfl ?_
  refine w_iconst (pc := 298) hC dL_law_298 ?_
  refine w_iadd (pc := 299) hC dL_law_299 ?_
  refine w_sld (pc := 300) hC hX hbl hbA (by omega) hL dL_law_300 ?_
  refine w_aload_n (pc := 301) hC dL_law_301 3 rfl rfl ?_
  refine w_iload_n (pc := 302) hC dL_law_302 0 rfl rfl ?_
  refine w_iconst (pc := 303) hC dL_law_303 ?_
  refine w_iadd (pc := 304) hC dL_law_304 ?_
  refine w_sld (pc := 305) hC hX hbl hbA (by omega) hL dL_law_305 ?_
  refine w_callV (pc := 306) (As := [.int (J (sc xs (6 * (k : Int) + 1))), .int (J (sc xs (6 * (k : Int) + 2)))]) (rest := [.int (J (z))]) hC dL_law_306 cv_L_31 hM (by decide) (by omega) (q0 := q1) h1 rfl rfl rfl (Nat.le_of_ble_eq_true rfl) rfl (fun v2 w2 hv => ?_)
  obtain ⟨hv2, hW2⟩ := hv
  rw [hv2]
  show WW K G _ _ w2 309 [(3, .int (J (6 * (k : Int)))), (2, .ref om), (1, .ref ox), (0, .ref b)] [.int (J (z)), .int (J (z))]
  refine w_same (pc := 309) (tgt := 1450) hC dL_law_309 (by decide) ?_
  exact w_up (by omega) (by omega) (next w2 hW2)
set_option maxRecDepth 100000 in
set_option maxHeartbeats 4000000 in
theorem lc_hang {K : KT} {G : GT} (hC : KOK K G code RL 2000 600000 7302250) {b L : Nat} {xs : Nat → Int32} (hX : va_X b L xs (ks K) (ks K).heap) (hbl : b < (ks K).heap.size) (hbA : ¬ kA K b) (hL : L ≤ 384) {ox om k : Nat} (hk : 6 * (k : Int) + 6 ≤ (L : Int)) {w0 : va_W} (hW : CRel G.2.1 ox om w0) (next : ∀ w2 : va_W, CRel G.2.1 ox om w2 → WW K G (100 + 6 * (k + 1)) (4000 + 126 * (k + 1)) w2 1450 [(3, .int (J (6 * (k : Int)))), (2, .ref om), (1, .ref ox), (0, .ref b)] []) : WW K G (100 + 6 * k) (4000 + 126 * k) w0 314 [(3, .int (J (6 * (k : Int)))), (2, .ref om), (1, .ref ox), (0, .ref b)] [] := by
  obtain ⟨q0, f0, h0⟩ := hW.hx
  refine w_aload_n (pc := 314) hC dL_law_314 2 rfl rfl ?_
  refine w_aload_n (pc := 315) hC dL_law_315 3 rfl rfl ?_
  refine w_iload_n (pc := 316) hC dL_law_316 0 rfl rfl ?_
  refine w_iconst (pc := 317) hC dL_law_317 ?_
  refine w_iadd (pc := 318) hC dL_law_318 ?_
  refine w_sld (pc := 319) hC hX hbl hbA (by omega) hL dL_law_319 ?_
  refine w_aload_n (pc := 320) hC dL_law_320 3 rfl rfl ?_
  refine w_iload_n (pc := 321) hC dL_law_321 0 rfl rfl ?_
  refine w_iconst (pc := 322) hC dL_law_322 ?_
  refine w_iadd (pc := 323) hC dL_law_323 ?_
  refine w_sld (pc := 324) hC hX hbl hbA (by omega) hL dL_law_324 ?_
  refine w_callV (pc := 325) (As := [.int (J (sc xs (6 * (k : Int) + 1))), .int (J (sc xs (6 * (k : Int) + 2)))]) (rest := []) hC dL_law_325 cv_L_32 (pr_hang (kl K) G hW (sc xs (6 * (k : Int) + 1)) (sc xs (6 * (k : Int) + 2)) (sc_in _ _) (sc_in _ _)) (by decide) (by omega) (q0 := q0) h0 rfl rfl rfl (Nat.le_of_ble_eq_true rfl) rfl (fun vo wo hv => ?_)
  obtain ⟨z, hv1, ⟨q1, f1, h1⟩, hM⟩ := hv
  rw [hv1]
  show WW K G _ _ wo 328 [(3, .int (J (6 * (k : Int)))), (2, .ref om), (1, .ref ox), (0, .ref b)] [.int (J (z))]
  refine w_aload_n (pc := 328) hC dL_law_328 1 rfl rfl ?_
  refine w_aload_n (pc := 329) hC dL_law_329 3 rfl rfl ?_
  refine w_iload_n (pc := 330) hC dL_law_330 0 rfl rfl ?_
  refine w_iconst (pc := 331) hC dL_law_331 ?_
  refine w_iadd (pc := 332) hC dL_law_332 ?_
  refine w_sld (pc := 333) hC hX hbl hbA (by omega) hL dL_law_333 ?_
  refine w_aload_n (pc := 334) hC dL_law_334 3 rfl rfl ?_
  refine w_iload_n (pc := 335) hC dL_law_335 0 rfl rfl ?_
  refine w_iconst (pc := 336) hC dL_law_336 ?_
  refine w_iadd (pc := 337) hC dL_law_337 ?_
  refine w_sld (pc := 338) hC hX hbl hbA (by omega) hL dL_law_338 ?_
  refine w_callV (pc := 339) (As := [.int (J (sc xs (6 * (k : Int) + 1))), .int (J (sc xs (6 * (k : Int) + 2)))]) (rest := [.int (J (z))]) hC dL_law_339 cv_L_35 hM (by decide) (by omega) (q0 := q1) h1 rfl rfl rfl (Nat.le_of_ble_eq_true rfl) rfl (fun v2 w2 hv => ?_)
  obtain ⟨hv2, hW2⟩ := hv
  rw [hv2]
  show WW K G _ _ w2 342 [(3, .int (J (6 * (k : Int)))), (2, .ref om), (1, .ref ox), (0, .ref b)] [.int (J (z)), .int (J (z))]
  refine w_same (pc := 342) (tgt := 1450) hC dL_law_342 (by decide) ?_
  exact w_up (by omega) (by omega) (next w2 hW2)
set_option maxRecDepth 100000 in
set_option maxHeartbeats 4000000 in
theorem lc_far {K : KT} {G : GT} (hC : KOK K G code RL 2000 600000 7302250) {b L : Nat} {xs : Nat → Int32} (hX : va_X b L xs (ks K) (ks K).heap) (hbl : b < (ks K).heap.size) (hbA : ¬ kA K b) (hL : L ≤ 384) {ox om k : Nat} (hk : 6 * (k : Int) + 6 ≤ (L : Int)) {w0 : va_W} (hW : CRel G.2.1 ox om w0) (next : ∀ w2 : va_W, CRel G.2.1 ox om w2 → WW K G (100 + 6 * (k + 1)) (4000 + 126 * (k + 1)) w2 1450 [(3, .int (J (6 * (k : Int)))), (2, .ref om), (1, .ref ox), (0, .ref b)] []) : WW K G (100 + 6 * k) (4000 + 126 * k) w0 347 [(3, .int (J (6 * (k : Int)))), (2, .ref om), (1, .ref ox), (0, .ref b)] [] := by
  obtain ⟨q0, f0, h0⟩ := hW.hx
  refine w_aload_n (pc := 347) hC dL_law_347 2 rfl rfl ?_
  refine w_callV (pc := 348) (As := []) (rest := []) hC dL_law_348 cv_L_36 (pr_far (kl K) G hW ) (by decide) (by omega) (q0 := q0) h0 rfl rfl rfl (Nat.le_of_ble_eq_true rfl) rfl (fun vo wo hv => ?_)
  obtain ⟨z, hv1, ⟨q1, f1, h1⟩, hM⟩ := hv
  rw [hv1]
  show WW K G _ _ wo 351 [(3, .int (J (6 * (k : Int)))), (2, .ref om), (1, .ref ox), (0, .ref b)] [.int (J (z))]
  refine w_aload_n (pc := 351) hC dL_law_351 1 rfl rfl ?_
  refine w_callV (pc := 352) (As := []) (rest := [.int (J (z))]) hC dL_law_352 cv_L_39 hM (by decide) (by omega) (q0 := q1) h1 rfl rfl rfl (Nat.le_of_ble_eq_true rfl) rfl (fun v2 w2 hv => ?_)
  obtain ⟨hv2, hW2⟩ := hv
  rw [hv2]
  show WW K G _ _ w2 355 [(3, .int (J (6 * (k : Int)))), (2, .ref om), (1, .ref ox), (0, .ref b)] [.int (J (z)), .int (J (z))]
  refine w_same (pc := 355) (tgt := 1450) hC dL_law_355 (by decide) ?_
  exact w_up (by omega) (by omega) (next w2 hW2)
set_option maxRecDepth 100000 in
set_option maxHeartbeats 4000000 in
theorem lc_feed {K : KT} {G : GT} (hC : KOK K G code RL 2000 600000 7302250) {b L : Nat} {xs : Nat → Int32} (hX : va_X b L xs (ks K) (ks K).heap) (hbl : b < (ks K).heap.size) (hbA : ¬ kA K b) (hL : L ≤ 384) {ox om k : Nat} (hk : 6 * (k : Int) + 6 ≤ (L : Int)) {w0 : va_W} (hW : CRel G.2.1 ox om w0) (next : ∀ w2 : va_W, CRel G.2.1 ox om w2 → WW K G (100 + 6 * (k + 1)) (4000 + 126 * (k + 1)) w2 1450 [(3, .int (J (6 * (k : Int)))), (2, .ref om), (1, .ref ox), (0, .ref b)] []) : WW K G (100 + 6 * k) (4000 + 126 * k) w0 360 [(3, .int (J (6 * (k : Int)))), (2, .ref om), (1, .ref ox), (0, .ref b)] [] := by
  obtain ⟨q0, f0, h0⟩ := hW.hx
  refine w_aload_n (pc := 360) hC dL_law_360 2 rfl rfl ?_
  refine w_aload_n (pc := 361) hC dL_law_361 3 rfl rfl ?_
  refine w_iload_n (pc := 362) hC dL_law_362 0 rfl rfl ?_
  refine w_iconst (pc := 363) hC dL_law_363 ?_
  refine w_iadd (pc := 364) hC dL_law_364 ?_
  refine w_sld (pc := 365) hC hX hbl hbA (by omega) hL dL_law_365 ?_
  refine w_i2l (pc := 366) hC dL_law_366 (sc_in _ _) ?_
  refine w_bipush (pc := 367) hC dL_law_367 (z := 32) rfl ?_
  refine w_lshl (pc := 369) hC dL_law_369 (by decide) ?_
  refine w_aload_n (pc := 370) hC dL_law_370 3 rfl rfl ?_
  refine w_iload_n (pc := 371) hC dL_law_371 0 rfl rfl ?_
  refine w_iconst (pc := 372) hC dL_law_372 ?_
  refine w_iadd (pc := 373) hC dL_law_373 ?_
  refine w_sld (pc := 374) hC hX hbl hbA (by omega) hL dL_law_374 ?_
  refine w_i2l (pc := 375) hC dL_law_375 (sc_in _ _) ?_
  refine w_ldc2 (pc := 376) hC dL_law_376 (z := 4294967295) tw_6_226 rfl ?_
  refine w_land (pc := 379) hC dL_law_379 (JL_of _) ?_
  refine w_lor (pc := 380) hC dL_law_380 (JL_of _) ?_
  refine w_aload_n (pc := 381) hC dL_law_381 3 rfl rfl ?_
  refine w_iload_n (pc := 382) hC dL_law_382 0 rfl rfl ?_
  refine w_iconst (pc := 383) hC dL_law_383 ?_
  refine w_iadd (pc := 384) hC dL_law_384 ?_
  refine w_sld (pc := 385) hC hX hbl hbA (by omega) hL dL_law_385 ?_
  refine w_callV (pc := 386) (As := [.long (JL ((JL (sc xs (6 * (k : Int) + 1) * 2 ^ (32 : Int).toNat) ||| JL ((JL (sc xs (6 * (k : Int) + 2)) &&& JL (4294967295)).toInt)).toInt)), .int (J (sc xs (6 * (k : Int) + 3)))]) (rest := []) hC dL_law_386 cv_L_42 (pr_feed (kl K) G hW ((JL (sc xs (6 * (k : Int) + 1) * 2 ^ (32 : Int).toNat) ||| JL ((JL (sc xs (6 * (k : Int) + 2)) &&& JL (4294967295)).toInt)).toInt) (sc xs (6 * (k : Int) + 3)) (li_in _) (sc_in _ _)) (by decide) (by omega) (q0 := q0) h0 rfl rfl rfl (Nat.le_of_ble_eq_true rfl) rfl (fun vo wo hv => ?_)
  obtain ⟨z, hv1, ⟨q1, f1, h1⟩, hM⟩ := hv
  rw [hv1]
  show WW K G _ _ wo 389 [(3, .int (J (6 * (k : Int)))), (2, .ref om), (1, .ref ox), (0, .ref b)] [.int (J (z))]
  refine w_aload_n (pc := 389) hC dL_law_389 1 rfl rfl ?_
  refine w_aload_n (pc := 390) hC dL_law_390 3 rfl rfl ?_
  refine w_iload_n (pc := 391) hC dL_law_391 0 rfl rfl ?_
  refine w_iconst (pc := 392) hC dL_law_392 ?_
  refine w_iadd (pc := 393) hC dL_law_393 ?_
  refine w_sld (pc := 394) hC hX hbl hbA (by omega) hL dL_law_394 ?_
  refine w_i2l (pc := 395) hC dL_law_395 (sc_in _ _) ?_
  refine w_bipush (pc := 396) hC dL_law_396 (z := 32) rfl ?_
  refine w_lshl (pc := 398) hC dL_law_398 (by decide) ?_
  refine w_aload_n (pc := 399) hC dL_law_399 3 rfl rfl ?_
  refine w_iload_n (pc := 400) hC dL_law_400 0 rfl rfl ?_
  refine w_iconst (pc := 401) hC dL_law_401 ?_
  refine w_iadd (pc := 402) hC dL_law_402 ?_
  refine w_sld (pc := 403) hC hX hbl hbA (by omega) hL dL_law_403 ?_
  refine w_i2l (pc := 404) hC dL_law_404 (sc_in _ _) ?_
  refine w_ldc2 (pc := 405) hC dL_law_405 (z := 4294967295) tw_6_226 rfl ?_
  refine w_land (pc := 408) hC dL_law_408 (JL_of _) ?_
  refine w_lor (pc := 409) hC dL_law_409 (JL_of _) ?_
  refine w_aload_n (pc := 410) hC dL_law_410 3 rfl rfl ?_
  refine w_iload_n (pc := 411) hC dL_law_411 0 rfl rfl ?_
  refine w_iconst (pc := 412) hC dL_law_412 ?_
  refine w_iadd (pc := 413) hC dL_law_413 ?_
  refine w_sld (pc := 414) hC hX hbl hbA (by omega) hL dL_law_414 ?_
  refine w_callV (pc := 415) (As := [.long (JL ((JL (sc xs (6 * (k : Int) + 1) * 2 ^ (32 : Int).toNat) ||| JL ((JL (sc xs (6 * (k : Int) + 2)) &&& JL (4294967295)).toInt)).toInt)), .int (J (sc xs (6 * (k : Int) + 3)))]) (rest := [.int (J (z))]) hC dL_law_415 cv_L_46 hM (by decide) (by omega) (q0 := q1) h1 rfl rfl rfl (Nat.le_of_ble_eq_true rfl) rfl (fun v2 w2 hv => ?_)
  obtain ⟨hv2, hW2⟩ := hv
  rw [hv2]
  show WW K G _ _ w2 418 [(3, .int (J (6 * (k : Int)))), (2, .ref om), (1, .ref ox), (0, .ref b)] [.int (J (z)), .int (J (z))]
  refine w_same (pc := 418) (tgt := 1450) hC dL_law_418 (by decide) ?_
  exact w_up (by omega) (by omega) (next w2 hW2)
set_option maxRecDepth 100000 in
set_option maxHeartbeats 4000000 in
theorem lc_club {K : KT} {G : GT} (hC : KOK K G code RL 2000 600000 7302250) {b L : Nat} {xs : Nat → Int32} (hX : va_X b L xs (ks K) (ks K).heap) (hbl : b < (ks K).heap.size) (hbA : ¬ kA K b) (hL : L ≤ 384) {ox om k : Nat} (hk : 6 * (k : Int) + 6 ≤ (L : Int)) {w0 : va_W} (hW : CRel G.2.1 ox om w0) (next : ∀ w2 : va_W, CRel G.2.1 ox om w2 → WW K G (100 + 6 * (k + 1)) (4000 + 126 * (k + 1)) w2 1450 [(3, .int (J (6 * (k : Int)))), (2, .ref om), (1, .ref ox), (0, .ref b)] []) : WW K G (100 + 6 * k) (4000 + 126 * k) w0 423 [(3, .int (J (6 * (k : Int)))), (2, .ref om), (1, .ref ox), (0, .ref b)] [] := by
  obtain ⟨q0, f0, h0⟩ := hW.hx
  refine w_aload_n (pc := 423) hC dL_law_423 2 rfl rfl ?_
  refine w_callV (pc := 424) (As := []) (rest := []) hC dL_law_424 cv_L_47 (pr_club (kl K) G hW ) (by decide) (by omega) (q0 := q0) h0 rfl rfl rfl (Nat.le_of_ble_eq_true rfl) rfl (fun vo wo hv => ?_)
  obtain ⟨z, hv1, ⟨q1, f1, h1⟩, hM⟩ := hv
  rw [hv1]
  show WW K G _ _ wo 427 [(3, .int (J (6 * (k : Int)))), (2, .ref om), (1, .ref ox), (0, .ref b)] [.int (J (z))]
  refine w_aload_n (pc := 427) hC dL_law_427 1 rfl rfl ?_
  refine w_callV (pc := 428) (As := []) (rest := [.int (J (z))]) hC dL_law_428 cv_L_50 hM (by decide) (by omega) (q0 := q1) h1 rfl rfl rfl (Nat.le_of_ble_eq_true rfl) rfl (fun v2 w2 hv => ?_)
  obtain ⟨hv2, hW2⟩ := hv
  rw [hv2]
  show WW K G _ _ w2 431 [(3, .int (J (6 * (k : Int)))), (2, .ref om), (1, .ref ox), (0, .ref b)] [.int (J (z)), .int (J (z))]
  refine w_same (pc := 431) (tgt := 1450) hC dL_law_431 (by decide) ?_
  exact w_up (by omega) (by omega) (next w2 hW2)
set_option maxRecDepth 100000 in
set_option maxHeartbeats 4000000 in
theorem lc_may {K : KT} {G : GT} (hC : KOK K G code RL 2000 600000 7302250) {b L : Nat} {xs : Nat → Int32} (hX : va_X b L xs (ks K) (ks K).heap) (hbl : b < (ks K).heap.size) (hbA : ¬ kA K b) (hL : L ≤ 384) {ox om k : Nat} (hk : 6 * (k : Int) + 6 ≤ (L : Int)) {w0 : va_W} (hW : CRel G.2.1 ox om w0) (next : ∀ w2 : va_W, CRel G.2.1 ox om w2 → WW K G (100 + 6 * (k + 1)) (4000 + 126 * (k + 1)) w2 1450 [(3, .int (J (6 * (k : Int)))), (2, .ref om), (1, .ref ox), (0, .ref b)] []) : WW K G (100 + 6 * k) (4000 + 126 * k) w0 436 [(3, .int (J (6 * (k : Int)))), (2, .ref om), (1, .ref ox), (0, .ref b)] [] := by
  obtain ⟨q0, f0, h0⟩ := hW.hx
  refine w_aload_n (pc := 436) hC dL_law_436 2 rfl rfl ?_
  refine w_aload_n (pc := 437) hC dL_law_437 3 rfl rfl ?_
  refine w_iload_n (pc := 438) hC dL_law_438 0 rfl rfl ?_
  refine w_iconst (pc := 439) hC dL_law_439 ?_
  refine w_iadd (pc := 440) hC dL_law_440 ?_
  refine w_sld (pc := 441) hC hX hbl hbA (by omega) hL dL_law_441 ?_
  refine w_aload_n (pc := 442) hC dL_law_442 3 rfl rfl ?_
  refine w_iload_n (pc := 443) hC dL_law_443 0 rfl rfl ?_
  refine w_iconst (pc := 444) hC dL_law_444 ?_
  refine w_iadd (pc := 445) hC dL_law_445 ?_
  refine w_sld (pc := 446) hC hX hbl hbA (by omega) hL dL_law_446 ?_
  refine w_aload_n (pc := 447) hC dL_law_447 3 rfl rfl ?_
  refine w_iload_n (pc := 448) hC dL_law_448 0 rfl rfl ?_
  refine w_iconst (pc := 449) hC dL_law_449 ?_
  refine w_iadd (pc := 450) hC dL_law_450 ?_
  refine w_sld (pc := 451) hC hX hbl hbA (by omega) hL dL_law_451 ?_
  refine w_callV (pc := 452) (As := [.int (J (sc xs (6 * (k : Int) + 1))), .int (J (sc xs (6 * (k : Int) + 2))), .int (J (sc xs (6 * (k : Int) + 3)))]) (rest := []) hC dL_law_452 cv_L_51 (pr_may (kl K) G hW (sc xs (6 * (k : Int) + 1)) (sc xs (6 * (k : Int) + 2)) (sc xs (6 * (k : Int) + 3)) (sc_in _ _) (sc_in _ _) (sc_in _ _)) (by decide) (by omega) (q0 := q0) h0 rfl rfl rfl (Nat.le_of_ble_eq_true rfl) rfl (fun vo wo hv => ?_)
  obtain ⟨z, hv1, ⟨q1, f1, h1⟩, hM⟩ := hv
  rw [hv1]
  show WW K G _ _ wo 455 [(3, .int (J (6 * (k : Int)))), (2, .ref om), (1, .ref ox), (0, .ref b)] [.int (J (z))]
  refine w_aload_n (pc := 455) hC dL_law_455 1 rfl rfl ?_
  refine w_aload_n (pc := 456) hC dL_law_456 3 rfl rfl ?_
  refine w_iload_n (pc := 457) hC dL_law_457 0 rfl rfl ?_
  refine w_iconst (pc := 458) hC dL_law_458 ?_
  refine w_iadd (pc := 459) hC dL_law_459 ?_
  refine w_sld (pc := 460) hC hX hbl hbA (by omega) hL dL_law_460 ?_
  refine w_aload_n (pc := 461) hC dL_law_461 3 rfl rfl ?_
  refine w_iload_n (pc := 462) hC dL_law_462 0 rfl rfl ?_
  refine w_iconst (pc := 463) hC dL_law_463 ?_
  refine w_iadd (pc := 464) hC dL_law_464 ?_
  refine w_sld (pc := 465) hC hX hbl hbA (by omega) hL dL_law_465 ?_
  refine w_aload_n (pc := 466) hC dL_law_466 3 rfl rfl ?_
  refine w_iload_n (pc := 467) hC dL_law_467 0 rfl rfl ?_
  refine w_iconst (pc := 468) hC dL_law_468 ?_
  refine w_iadd (pc := 469) hC dL_law_469 ?_
  refine w_sld (pc := 470) hC hX hbl hbA (by omega) hL dL_law_470 ?_
  refine w_callV (pc := 471) (As := [.int (J (sc xs (6 * (k : Int) + 1))), .int (J (sc xs (6 * (k : Int) + 2))), .int (J (sc xs (6 * (k : Int) + 3)))]) (rest := [.int (J (z))]) hC dL_law_471 cv_L_54 hM (by decide) (by omega) (q0 := q1) h1 rfl rfl rfl (Nat.le_of_ble_eq_true rfl) rfl (fun v2 w2 hv => ?_)
  obtain ⟨hv2, hW2⟩ := hv
  rw [hv2]
  show WW K G _ _ w2 474 [(3, .int (J (6 * (k : Int)))), (2, .ref om), (1, .ref ox), (0, .ref b)] [.int (J (z)), .int (J (z))]
  refine w_same (pc := 474) (tgt := 1450) hC dL_law_474 (by decide) ?_
  exact w_up (by omega) (by omega) (next w2 hW2)
set_option maxRecDepth 100000 in
set_option maxHeartbeats 4000000 in
theorem lc_asker {K : KT} {G : GT} (hC : KOK K G code RL 2000 600000 7302250) {b L : Nat} {xs : Nat → Int32} (hX : va_X b L xs (ks K) (ks K).heap) (hbl : b < (ks K).heap.size) (hbA : ¬ kA K b) (hL : L ≤ 384) {ox om k : Nat} (hk : 6 * (k : Int) + 6 ≤ (L : Int)) {w0 : va_W} (hW : CRel G.2.1 ox om w0) (next : ∀ w2 : va_W, CRel G.2.1 ox om w2 → WW K G (100 + 6 * (k + 1)) (4000 + 126 * (k + 1)) w2 1450 [(3, .int (J (6 * (k : Int)))), (2, .ref om), (1, .ref ox), (0, .ref b)] []) : WW K G (100 + 6 * k) (4000 + 126 * k) w0 479 [(3, .int (J (6 * (k : Int)))), (2, .ref om), (1, .ref ox), (0, .ref b)] [] := by
  obtain ⟨q0, f0, h0⟩ := hW.hx
  refine w_aload_n (pc := 479) hC dL_law_479 2 rfl rfl ?_
  refine w_aload_n (pc := 480) hC dL_law_480 3 rfl rfl ?_
  refine w_iload_n (pc := 481) hC dL_law_481 0 rfl rfl ?_
  refine w_iconst (pc := 482) hC dL_law_482 ?_
  refine w_iadd (pc := 483) hC dL_law_483 ?_
  refine w_sld (pc := 484) hC hX hbl hbA (by omega) hL dL_law_484 ?_
  refine w_aload_n (pc := 485) hC dL_law_485 3 rfl rfl ?_
  refine w_iload_n (pc := 486) hC dL_law_486 0 rfl rfl ?_
  refine w_iconst (pc := 487) hC dL_law_487 ?_
  refine w_iadd (pc := 488) hC dL_law_488 ?_
  refine w_sld (pc := 489) hC hX hbl hbA (by omega) hL dL_law_489 ?_
  refine w_aload_n (pc := 490) hC dL_law_490 3 rfl rfl ?_
  refine w_iload_n (pc := 491) hC dL_law_491 0 rfl rfl ?_
  refine w_iconst (pc := 492) hC dL_law_492 ?_
  refine w_iadd (pc := 493) hC dL_law_493 ?_
  refine w_sld (pc := 494) hC hX hbl hbA (by omega) hL dL_law_494 ?_
  refine w_callV (pc := 495) (As := [.int (J (sc xs (6 * (k : Int) + 1))), .int (J (sc xs (6 * (k : Int) + 2))), .int (J (sc xs (6 * (k : Int) + 3)))]) (rest := []) hC dL_law_495 cv_L_55 (pr_asker (kl K) G hW (sc xs (6 * (k : Int) + 1)) (sc xs (6 * (k : Int) + 2)) (sc xs (6 * (k : Int) + 3)) (sc_in _ _) (sc_in _ _) (sc_in _ _)) (by decide) (by omega) (q0 := q0) h0 rfl rfl rfl (Nat.le_of_ble_eq_true rfl) rfl (fun vo wo hv => ?_)
  obtain ⟨z, hv1, ⟨q1, f1, h1⟩, hM⟩ := hv
  rw [hv1]
  show WW K G _ _ wo 498 [(3, .int (J (6 * (k : Int)))), (2, .ref om), (1, .ref ox), (0, .ref b)] [.int (J (z))]
  refine w_aload_n (pc := 498) hC dL_law_498 1 rfl rfl ?_
  refine w_aload_n (pc := 499) hC dL_law_499 3 rfl rfl ?_
  refine w_iload_n (pc := 500) hC dL_law_500 0 rfl rfl ?_
  refine w_iconst (pc := 501) hC dL_law_501 ?_
  refine w_iadd (pc := 502) hC dL_law_502 ?_
  refine w_sld (pc := 503) hC hX hbl hbA (by omega) hL dL_law_503 ?_
  refine w_aload_n (pc := 504) hC dL_law_504 3 rfl rfl ?_
  refine w_iload_n (pc := 505) hC dL_law_505 0 rfl rfl ?_
  refine w_iconst (pc := 506) hC dL_law_506 ?_
  refine w_iadd (pc := 507) hC dL_law_507 ?_
  refine w_sld (pc := 508) hC hX hbl hbA (by omega) hL dL_law_508 ?_
  refine w_aload_n (pc := 509) hC dL_law_509 3 rfl rfl ?_
  refine w_iload_n (pc := 510) hC dL_law_510 0 rfl rfl ?_
  refine w_iconst (pc := 511) hC dL_law_511 ?_
  refine w_iadd (pc := 512) hC dL_law_512 ?_
  refine w_sld (pc := 513) hC hX hbl hbA (by omega) hL dL_law_513 ?_
  refine w_callV (pc := 514) (As := [.int (J (sc xs (6 * (k : Int) + 1))), .int (J (sc xs (6 * (k : Int) + 2))), .int (J (sc xs (6 * (k : Int) + 3)))]) (rest := [.int (J (z))]) hC dL_law_514 cv_L_58 hM (by decide) (by omega) (q0 := q1) h1 rfl rfl rfl (Nat.le_of_ble_eq_true rfl) rfl (fun v2 w2 hv => ?_)
  obtain ⟨hv2, hW2⟩ := hv
  rw [hv2]
  show WW K G _ _ w2 517 [(3, .int (J (6 * (k : Int)))), (2, .ref om), (1, .ref ox), (0, .ref b)] [.int (J (z)), .int (J (z))]
  refine w_same (pc := 517) (tgt := 1450) hC dL_law_517 (by decide) ?_
  exact w_up (by omega) (by omega) (next w2 hW2)
set_option maxRecDepth 100000 in
set_option maxHeartbeats 4000000 in
theorem lc_asks {K : KT} {G : GT} (hC : KOK K G code RL 2000 600000 7302250) {b L : Nat} {xs : Nat → Int32} (hX : va_X b L xs (ks K) (ks K).heap) (hbl : b < (ks K).heap.size) (hbA : ¬ kA K b) (hL : L ≤ 384) {ox om k : Nat} (hk : 6 * (k : Int) + 6 ≤ (L : Int)) {w0 : va_W} (hW : CRel G.2.1 ox om w0) (next : ∀ w2 : va_W, CRel G.2.1 ox om w2 → WW K G (100 + 6 * (k + 1)) (4000 + 126 * (k + 1)) w2 1450 [(3, .int (J (6 * (k : Int)))), (2, .ref om), (1, .ref ox), (0, .ref b)] []) : WW K G (100 + 6 * k) (4000 + 126 * k) w0 522 [(3, .int (J (6 * (k : Int)))), (2, .ref om), (1, .ref ox), (0, .ref b)] [] := by
  obtain ⟨q0, f0, h0⟩ := hW.hx
  refine w_aload_n (pc := 522) hC dL_law_522 2 rfl rfl ?_
  refine w_aload_n (pc := 523) hC dL_law_523 3 rfl rfl ?_
  refine w_iload_n (pc := 524) hC dL_law_524 0 rfl rfl ?_
  refine w_iconst (pc := 525) hC dL_law_525 ?_
  refine w_iadd (pc := 526) hC dL_law_526 ?_
  refine w_sld (pc := 527) hC hX hbl hbA (by omega) hL dL_law_527 ?_
  refine w_aload_n (pc := 528) hC dL_law_528 3 rfl rfl ?_
  refine w_iload_n (pc := 529) hC dL_law_529 0 rfl rfl ?_
  refine w_iconst (pc := 530) hC dL_law_530 ?_
  refine w_iadd (pc := 531) hC dL_law_531 ?_
  refine w_sld (pc := 532) hC hX hbl hbA (by omega) hL dL_law_532 ?_
  refine w_aload_n (pc := 533) hC dL_law_533 3 rfl rfl ?_
  refine w_iload_n (pc := 534) hC dL_law_534 0 rfl rfl ?_
  refine w_iconst (pc := 535) hC dL_law_535 ?_
  refine w_iadd (pc := 536) hC dL_law_536 ?_
  refine w_sld (pc := 537) hC hX hbl hbA (by omega) hL dL_law_537 ?_
  refine w_callV (pc := 538) (As := [.int (J (sc xs (6 * (k : Int) + 1))), .int (J (sc xs (6 * (k : Int) + 2))), .int (J (sc xs (6 * (k : Int) + 3)))]) (rest := []) hC dL_law_538 cv_L_59 (pr_asks (kl K) G hW (sc xs (6 * (k : Int) + 1)) (sc xs (6 * (k : Int) + 2)) (sc xs (6 * (k : Int) + 3)) (sc_in _ _) (sc_in _ _) (sc_in _ _)) (by decide) (by omega) (q0 := q0) h0 rfl rfl rfl (Nat.le_of_ble_eq_true rfl) rfl (fun vo wo hv => ?_)
  obtain ⟨z, hv1, ⟨q1, f1, h1⟩, hM⟩ := hv
  rw [hv1]
  show WW K G _ _ wo 541 [(3, .int (J (6 * (k : Int)))), (2, .ref om), (1, .ref ox), (0, .ref b)] [.int (J (z))]
  refine w_aload_n (pc := 541) hC dL_law_541 1 rfl rfl ?_
  refine w_aload_n (pc := 542) hC dL_law_542 3 rfl rfl ?_
  refine w_iload_n (pc := 543) hC dL_law_543 0 rfl rfl ?_
  refine w_iconst (pc := 544) hC dL_law_544 ?_
  refine w_iadd (pc := 545) hC dL_law_545 ?_
  refine w_sld (pc := 546) hC hX hbl hbA (by omega) hL dL_law_546 ?_
  refine w_aload_n (pc := 547) hC dL_law_547 3 rfl rfl ?_
  refine w_iload_n (pc := 548) hC dL_law_548 0 rfl rfl ?_
  refine w_iconst (pc := 549) hC dL_law_549 ?_
  refine w_iadd (pc := 550) hC dL_law_550 ?_
  refine w_sld (pc := 551) hC hX hbl hbA (by omega) hL dL_law_551 ?_
  refine w_aload_n (pc := 552) hC dL_law_552 3 rfl rfl ?_
  refine w_iload_n (pc := 553) hC dL_law_553 0 rfl rfl ?_
  refine w_iconst (pc := 554) hC dL_law_554 ?_
  refine w_iadd (pc := 555) hC dL_law_555 ?_
  refine w_sld (pc := 556) hC hX hbl hbA (by omega) hL dL_law_556 ?_
  refine w_callV (pc := 557) (As := [.int (J (sc xs (6 * (k : Int) + 1))), .int (J (sc xs (6 * (k : Int) + 2))), .int (J (sc xs (6 * (k : Int) + 3)))]) (rest := [.int (J (z))]) hC dL_law_557 cv_L_62 hM (by decide) (by omega) (q0 := q1) h1 rfl rfl rfl (Nat.le_of_ble_eq_true rfl) rfl (fun v2 w2 hv => ?_)
  obtain ⟨hv2, hW2⟩ := hv
  rw [hv2]
  show WW K G _ _ w2 560 [(3, .int (J (6 * (k : Int)))), (2, .ref om), (1, .ref ox), (0, .ref b)] [.int (J (z)), .int (J (z))]
  refine w_same (pc := 560) (tgt := 1450) hC dL_law_560 (by decide) ?_
  exact w_up (by omega) (by omega) (next w2 hW2)
set_option maxRecDepth 100000 in
set_option maxHeartbeats 4000000 in
theorem lc_match {K : KT} {G : GT} (hC : KOK K G code RL 2000 600000 7302250) {b L : Nat} {xs : Nat → Int32} (hX : va_X b L xs (ks K) (ks K).heap) (hbl : b < (ks K).heap.size) (hbA : ¬ kA K b) (hL : L ≤ 384) {ox om k : Nat} (hk : 6 * (k : Int) + 6 ≤ (L : Int)) {w0 : va_W} (hW : CRel G.2.1 ox om w0) (next : ∀ w2 : va_W, CRel G.2.1 ox om w2 → WW K G (100 + 6 * (k + 1)) (4000 + 126 * (k + 1)) w2 1450 [(3, .int (J (6 * (k : Int)))), (2, .ref om), (1, .ref ox), (0, .ref b)] []) : WW K G (100 + 6 * k) (4000 + 126 * k) w0 565 [(3, .int (J (6 * (k : Int)))), (2, .ref om), (1, .ref ox), (0, .ref b)] [] := by
  obtain ⟨q0, f0, h0⟩ := hW.hx
  by_cases hz : sc xs (6 * (k : Int) + 4) = 0
  · skip
    refine w_aload_n (pc := 565) hC dL_law_565 2 rfl rfl ?_
    refine w_aload_n (pc := 566) hC dL_law_566 3 rfl rfl ?_
    refine w_iload_n (pc := 567) hC dL_law_567 0 rfl rfl ?_
    refine w_iconst (pc := 568) hC dL_law_568 ?_
    refine w_iadd (pc := 569) hC dL_law_569 ?_
    refine w_sld (pc := 570) hC hX hbl hbA (by omega) hL dL_law_570 ?_
    refine w_aload_n (pc := 571) hC dL_law_571 3 rfl rfl ?_
    refine w_iload_n (pc := 572) hC dL_law_572 0 rfl rfl ?_
    refine w_iconst (pc := 573) hC dL_law_573 ?_
    refine w_iadd (pc := 574) hC dL_law_574 ?_
    refine w_sld (pc := 575) hC hX hbl hbA (by omega) hL dL_law_575 ?_
    refine w_aload_n (pc := 576) hC dL_law_576 3 rfl rfl ?_
    refine w_iload_n (pc := 577) hC dL_law_577 0 rfl rfl ?_
    refine w_iconst (pc := 578) hC dL_law_578 ?_
    refine w_iadd (pc := 579) hC dL_law_579 ?_
    refine w_sld (pc := 580) hC hX hbl hbA (by omega) hL dL_law_580 ?_
    refine w_aload_n (pc := 581) hC dL_law_581 3 rfl rfl ?_
    refine w_iload_n (pc := 582) hC dL_law_582 0 rfl rfl ?_
    refine w_iconst (pc := 583) hC dL_law_583 ?_
    refine w_iadd (pc := 584) hC dL_law_584 ?_
    refine w_sld (pc := 585) hC hX hbl hbA (by omega) hL dL_law_585 ?_
    refine w_if_eq (pc := 586) (tgt := 593) hC dL_law_586 (by decide) (sc_in _ _) (fun h => ?_) (fun h => ?_)
    rotate_left
    · exact absurd hz h
    refine w_iconst (pc := 593) hC dL_law_593 ?_
    refine w_callV (pc := 594) (As := [.int (J (sc xs (6 * (k : Int) + 1))), .int (J (sc xs (6 * (k : Int) + 2))), .int (J (sc xs (6 * (k : Int) + 3))), .int (J (0))]) (rest := []) hC dL_law_594 cv_L_63 (pr_match (kl K) G hW (sc xs (6 * (k : Int) + 1)) (sc xs (6 * (k : Int) + 2)) (sc xs (6 * (k : Int) + 3)) (0) (sc_in _ _) (sc_in _ _) (sc_in _ _) (by decide)) (by decide) (by omega) (q0 := q0) h0 rfl rfl rfl (Nat.le_of_ble_eq_true rfl) rfl (fun vo wo hv => ?_)
    obtain ⟨z, hv1, ⟨q1, f1, h1⟩, hM⟩ := hv
    rw [hv1]
    show WW K G _ _ wo 597 [(3, .int (J (6 * (k : Int)))), (2, .ref om), (1, .ref ox), (0, .ref b)] [.int (J (z))]
    refine w_aload_n (pc := 597) hC dL_law_597 1 rfl rfl ?_
    refine w_aload_n (pc := 598) hC dL_law_598 3 rfl rfl ?_
    refine w_iload_n (pc := 599) hC dL_law_599 0 rfl rfl ?_
    refine w_iconst (pc := 600) hC dL_law_600 ?_
    refine w_iadd (pc := 601) hC dL_law_601 ?_
    refine w_sld (pc := 602) hC hX hbl hbA (by omega) hL dL_law_602 ?_
    refine w_aload_n (pc := 603) hC dL_law_603 3 rfl rfl ?_
    refine w_iload_n (pc := 604) hC dL_law_604 0 rfl rfl ?_
    refine w_iconst (pc := 605) hC dL_law_605 ?_
    refine w_iadd (pc := 606) hC dL_law_606 ?_
    refine w_sld (pc := 607) hC hX hbl hbA (by omega) hL dL_law_607 ?_
    refine w_aload_n (pc := 608) hC dL_law_608 3 rfl rfl ?_
    refine w_iload_n (pc := 609) hC dL_law_609 0 rfl rfl ?_
    refine w_iconst (pc := 610) hC dL_law_610 ?_
    refine w_iadd (pc := 611) hC dL_law_611 ?_
    refine w_sld (pc := 612) hC hX hbl hbA (by omega) hL dL_law_612 ?_
    refine w_aload_n (pc := 613) hC dL_law_613 3 rfl rfl ?_
    refine w_iload_n (pc := 614) hC dL_law_614 0 rfl rfl ?_
    refine w_iconst (pc := 615) hC dL_law_615 ?_
    refine w_iadd (pc := 616) hC dL_law_616 ?_
    refine w_sld (pc := 617) hC hX hbl hbA (by omega) hL dL_law_617 ?_
    refine w_if_eq (pc := 618) (tgt := 625) hC dL_law_618 (by decide) (sc_in _ _) (fun h => ?_) (fun h => ?_)
    rotate_left
    · exact absurd hz h
    refine w_iconst (pc := 625) hC dL_law_625 ?_
    refine w_callV (pc := 626) (As := [.int (J (sc xs (6 * (k : Int) + 1))), .int (J (sc xs (6 * (k : Int) + 2))), .int (J (sc xs (6 * (k : Int) + 3))), .int (J (0))]) (rest := [.int (J (z))]) hC dL_law_626 cv_L_67 hM (by decide) (by omega) (q0 := q1) h1 rfl rfl rfl (Nat.le_of_ble_eq_true rfl) rfl (fun v2 w2 hv => ?_)
    obtain ⟨hv2, hW2⟩ := hv
    rw [hv2]
    show WW K G _ _ w2 629 [(3, .int (J (6 * (k : Int)))), (2, .ref om), (1, .ref ox), (0, .ref b)] [.int (J (z)), .int (J (z))]
    refine w_same (pc := 629) (tgt := 1450) hC dL_law_629 (by decide) ?_
    exact w_up (by omega) (by omega) (next w2 hW2)
  · skip
    refine w_aload_n (pc := 565) hC dL_law_565 2 rfl rfl ?_
    refine w_aload_n (pc := 566) hC dL_law_566 3 rfl rfl ?_
    refine w_iload_n (pc := 567) hC dL_law_567 0 rfl rfl ?_
    refine w_iconst (pc := 568) hC dL_law_568 ?_
    refine w_iadd (pc := 569) hC dL_law_569 ?_
    refine w_sld (pc := 570) hC hX hbl hbA (by omega) hL dL_law_570 ?_
    refine w_aload_n (pc := 571) hC dL_law_571 3 rfl rfl ?_
    refine w_iload_n (pc := 572) hC dL_law_572 0 rfl rfl ?_
    refine w_iconst (pc := 573) hC dL_law_573 ?_
    refine w_iadd (pc := 574) hC dL_law_574 ?_
    refine w_sld (pc := 575) hC hX hbl hbA (by omega) hL dL_law_575 ?_
    refine w_aload_n (pc := 576) hC dL_law_576 3 rfl rfl ?_
    refine w_iload_n (pc := 577) hC dL_law_577 0 rfl rfl ?_
    refine w_iconst (pc := 578) hC dL_law_578 ?_
    refine w_iadd (pc := 579) hC dL_law_579 ?_
    refine w_sld (pc := 580) hC hX hbl hbA (by omega) hL dL_law_580 ?_
    refine w_aload_n (pc := 581) hC dL_law_581 3 rfl rfl ?_
    refine w_iload_n (pc := 582) hC dL_law_582 0 rfl rfl ?_
    refine w_iconst (pc := 583) hC dL_law_583 ?_
    refine w_iadd (pc := 584) hC dL_law_584 ?_
    refine w_sld (pc := 585) hC hX hbl hbA (by omega) hL dL_law_585 ?_
    refine w_if_eq (pc := 586) (tgt := 593) hC dL_law_586 (by decide) (sc_in _ _) (fun h => ?_) (fun h => ?_)
    · exact absurd h hz
    refine w_iconst (pc := 589) hC dL_law_589 ?_
    refine w_goto (pc := 590) (tgt := 594) hC dL_law_590 (by decide) ?_
    refine w_callV (pc := 594) (As := [.int (J (sc xs (6 * (k : Int) + 1))), .int (J (sc xs (6 * (k : Int) + 2))), .int (J (sc xs (6 * (k : Int) + 3))), .int (J (1))]) (rest := []) hC dL_law_594 cv_L_63 (pr_match (kl K) G hW (sc xs (6 * (k : Int) + 1)) (sc xs (6 * (k : Int) + 2)) (sc xs (6 * (k : Int) + 3)) (1) (sc_in _ _) (sc_in _ _) (sc_in _ _) (by decide)) (by decide) (by omega) (q0 := q0) h0 rfl rfl rfl (Nat.le_of_ble_eq_true rfl) rfl (fun vo wo hv => ?_)
    obtain ⟨z, hv1, ⟨q1, f1, h1⟩, hM⟩ := hv
    rw [hv1]
    show WW K G _ _ wo 597 [(3, .int (J (6 * (k : Int)))), (2, .ref om), (1, .ref ox), (0, .ref b)] [.int (J (z))]
    refine w_aload_n (pc := 597) hC dL_law_597 1 rfl rfl ?_
    refine w_aload_n (pc := 598) hC dL_law_598 3 rfl rfl ?_
    refine w_iload_n (pc := 599) hC dL_law_599 0 rfl rfl ?_
    refine w_iconst (pc := 600) hC dL_law_600 ?_
    refine w_iadd (pc := 601) hC dL_law_601 ?_
    refine w_sld (pc := 602) hC hX hbl hbA (by omega) hL dL_law_602 ?_
    refine w_aload_n (pc := 603) hC dL_law_603 3 rfl rfl ?_
    refine w_iload_n (pc := 604) hC dL_law_604 0 rfl rfl ?_
    refine w_iconst (pc := 605) hC dL_law_605 ?_
    refine w_iadd (pc := 606) hC dL_law_606 ?_
    refine w_sld (pc := 607) hC hX hbl hbA (by omega) hL dL_law_607 ?_
    refine w_aload_n (pc := 608) hC dL_law_608 3 rfl rfl ?_
    refine w_iload_n (pc := 609) hC dL_law_609 0 rfl rfl ?_
    refine w_iconst (pc := 610) hC dL_law_610 ?_
    refine w_iadd (pc := 611) hC dL_law_611 ?_
    refine w_sld (pc := 612) hC hX hbl hbA (by omega) hL dL_law_612 ?_
    refine w_aload_n (pc := 613) hC dL_law_613 3 rfl rfl ?_
    refine w_iload_n (pc := 614) hC dL_law_614 0 rfl rfl ?_
    refine w_iconst (pc := 615) hC dL_law_615 ?_
    refine w_iadd (pc := 616) hC dL_law_616 ?_
    refine w_sld (pc := 617) hC hX hbl hbA (by omega) hL dL_law_617 ?_
    refine w_if_eq (pc := 618) (tgt := 625) hC dL_law_618 (by decide) (sc_in _ _) (fun h => ?_) (fun h => ?_)
    · exact absurd h hz
    refine w_iconst (pc := 621) hC dL_law_621 ?_
    refine w_goto (pc := 622) (tgt := 626) hC dL_law_622 (by decide) ?_
    refine w_callV (pc := 626) (As := [.int (J (sc xs (6 * (k : Int) + 1))), .int (J (sc xs (6 * (k : Int) + 2))), .int (J (sc xs (6 * (k : Int) + 3))), .int (J (1))]) (rest := [.int (J (z))]) hC dL_law_626 cv_L_67 hM (by decide) (by omega) (q0 := q1) h1 rfl rfl rfl (Nat.le_of_ble_eq_true rfl) rfl (fun v2 w2 hv => ?_)
    obtain ⟨hv2, hW2⟩ := hv
    rw [hv2]
    show WW K G _ _ w2 629 [(3, .int (J (6 * (k : Int)))), (2, .ref om), (1, .ref ox), (0, .ref b)] [.int (J (z)), .int (J (z))]
    refine w_same (pc := 629) (tgt := 1450) hC dL_law_629 (by decide) ?_
    exact w_up (by omega) (by omega) (next w2 hW2)
set_option maxRecDepth 100000 in
set_option maxHeartbeats 4000000 in
theorem lc_pass {K : KT} {G : GT} (hC : KOK K G code RL 2000 600000 7302250) {b L : Nat} {xs : Nat → Int32} (hX : va_X b L xs (ks K) (ks K).heap) (hbl : b < (ks K).heap.size) (hbA : ¬ kA K b) (hL : L ≤ 384) {ox om k : Nat} (hk : 6 * (k : Int) + 6 ≤ (L : Int)) {w0 : va_W} (hW : CRel G.2.1 ox om w0) (next : ∀ w2 : va_W, CRel G.2.1 ox om w2 → WW K G (100 + 6 * (k + 1)) (4000 + 126 * (k + 1)) w2 1450 [(3, .int (J (6 * (k : Int)))), (2, .ref om), (1, .ref ox), (0, .ref b)] []) : WW K G (100 + 6 * k) (4000 + 126 * k) w0 634 [(3, .int (J (6 * (k : Int)))), (2, .ref om), (1, .ref ox), (0, .ref b)] [] := by
  obtain ⟨q0, f0, h0⟩ := hW.hx
  refine w_aload_n (pc := 634) hC dL_law_634 2 rfl rfl ?_
  refine w_aload_n (pc := 635) hC dL_law_635 3 rfl rfl ?_
  refine w_iload_n (pc := 636) hC dL_law_636 0 rfl rfl ?_
  refine w_iconst (pc := 637) hC dL_law_637 ?_
  refine w_iadd (pc := 638) hC dL_law_638 ?_
  refine w_sld (pc := 639) hC hX hbl hbA (by omega) hL dL_law_639 ?_
  refine w_callV (pc := 640) (As := [.int (J (sc xs (6 * (k : Int) + 1)))]) (rest := []) hC dL_law_640 cv_L_68 (pr_pass (kl K) G hW (sc xs (6 * (k : Int) + 1)) (sc_in _ _)) (by decide) (by omega) (q0 := q0) h0 rfl rfl rfl (Nat.le_of_ble_eq_true rfl) rfl (fun vo wo hv => ?_)
  obtain ⟨z, hv1, ⟨q1, f1, h1⟩, hM⟩ := hv
  rw [hv1]
  show WW K G _ _ wo 643 [(3, .int (J (6 * (k : Int)))), (2, .ref om), (1, .ref ox), (0, .ref b)] [.int (J (z))]
  refine w_aload_n (pc := 643) hC dL_law_643 1 rfl rfl ?_
  refine w_aload_n (pc := 644) hC dL_law_644 3 rfl rfl ?_
  refine w_iload_n (pc := 645) hC dL_law_645 0 rfl rfl ?_
  refine w_iconst (pc := 646) hC dL_law_646 ?_
  refine w_iadd (pc := 647) hC dL_law_647 ?_
  refine w_sld (pc := 648) hC hX hbl hbA (by omega) hL dL_law_648 ?_
  refine w_callV (pc := 649) (As := [.int (J (sc xs (6 * (k : Int) + 1)))]) (rest := [.int (J (z))]) hC dL_law_649 cv_L_72 hM (by decide) (by omega) (q0 := q1) h1 rfl rfl rfl (Nat.le_of_ble_eq_true rfl) rfl (fun v2 w2 hv => ?_)
  obtain ⟨hv2, hW2⟩ := hv
  rw [hv2]
  show WW K G _ _ w2 652 [(3, .int (J (6 * (k : Int)))), (2, .ref om), (1, .ref ox), (0, .ref b)] [.int (J (z)), .int (J (z))]
  refine w_same (pc := 652) (tgt := 1450) hC dL_law_652 (by decide) ?_
  exact w_up (by omega) (by omega) (next w2 hW2)
set_option maxRecDepth 100000 in
set_option maxHeartbeats 4000000 in
theorem lc_share {K : KT} {G : GT} (hC : KOK K G code RL 2000 600000 7302250) {b L : Nat} {xs : Nat → Int32} (hX : va_X b L xs (ks K) (ks K).heap) (hbl : b < (ks K).heap.size) (hbA : ¬ kA K b) (hL : L ≤ 384) {ox om k : Nat} (hk : 6 * (k : Int) + 6 ≤ (L : Int)) {w0 : va_W} (hW : CRel G.2.1 ox om w0) (next : ∀ w2 : va_W, CRel G.2.1 ox om w2 → WW K G (100 + 6 * (k + 1)) (4000 + 126 * (k + 1)) w2 1450 [(3, .int (J (6 * (k : Int)))), (2, .ref om), (1, .ref ox), (0, .ref b)] []) : WW K G (100 + 6 * k) (4000 + 126 * k) w0 657 [(3, .int (J (6 * (k : Int)))), (2, .ref om), (1, .ref ox), (0, .ref b)] [] := by
  obtain ⟨q0, f0, h0⟩ := hW.hx
  refine w_aload_n (pc := 657) hC dL_law_657 2 rfl rfl ?_
  refine w_aload_n (pc := 658) hC dL_law_658 3 rfl rfl ?_
  refine w_iload_n (pc := 659) hC dL_law_659 0 rfl rfl ?_
  refine w_iconst (pc := 660) hC dL_law_660 ?_
  refine w_iadd (pc := 661) hC dL_law_661 ?_
  refine w_sld (pc := 662) hC hX hbl hbA (by omega) hL dL_law_662 ?_
  refine w_aload_n (pc := 663) hC dL_law_663 3 rfl rfl ?_
  refine w_iload_n (pc := 664) hC dL_law_664 0 rfl rfl ?_
  refine w_iconst (pc := 665) hC dL_law_665 ?_
  refine w_iadd (pc := 666) hC dL_law_666 ?_
  refine w_sld (pc := 667) hC hX hbl hbA (by omega) hL dL_law_667 ?_
  refine w_aload_n (pc := 668) hC dL_law_668 3 rfl rfl ?_
  refine w_iload_n (pc := 669) hC dL_law_669 0 rfl rfl ?_
  refine w_iconst (pc := 670) hC dL_law_670 ?_
  refine w_iadd (pc := 671) hC dL_law_671 ?_
  refine w_sld (pc := 672) hC hX hbl hbA (by omega) hL dL_law_672 ?_
  refine w_aload_n (pc := 673) hC dL_law_673 3 rfl rfl ?_
  refine w_iload_n (pc := 674) hC dL_law_674 0 rfl rfl ?_
  refine w_iconst (pc := 675) hC dL_law_675 ?_
  refine w_iadd (pc := 676) hC dL_law_676 ?_
  refine w_sld (pc := 677) hC hX hbl hbA (by omega) hL dL_law_677 ?_
  refine w_aload_n (pc := 678) hC dL_law_678 3 rfl rfl ?_
  refine w_iload_n (pc := 679) hC dL_law_679 0 rfl rfl ?_
  refine w_iconst (pc := 680) hC dL_law_680 ?_
  refine w_iadd (pc := 681) hC dL_law_681 ?_
  refine w_sld (pc := 682) hC hX hbl hbA (by omega) hL dL_law_682 ?_
  refine w_callV (pc := 683) (As := [.int (J (sc xs (6 * (k : Int) + 1))), .int (J (sc xs (6 * (k : Int) + 2))), .int (J (sc xs (6 * (k : Int) + 3))), .int (J (sc xs (6 * (k : Int) + 4))), .int (J (sc xs (6 * (k : Int) + 5)))]) (rest := []) hC dL_law_683 cv_L_73 (pr_share (kl K) G hW (sc xs (6 * (k : Int) + 1)) (sc xs (6 * (k : Int) + 2)) (sc xs (6 * (k : Int) + 3)) (sc xs (6 * (k : Int) + 4)) (sc xs (6 * (k : Int) + 5)) (sc_in _ _) (sc_in _ _) (sc_in _ _) (sc_in _ _) (sc_in _ _)) (by decide) (by omega) (q0 := q0) h0 rfl rfl rfl (Nat.le_of_ble_eq_true rfl) rfl (fun vo wo hv => ?_)
  obtain ⟨z, hv1, ⟨q1, f1, h1⟩, hM⟩ := hv
  rw [hv1]
  show WW K G _ _ wo 686 [(3, .int (J (6 * (k : Int)))), (2, .ref om), (1, .ref ox), (0, .ref b)] [.long (JL (z))]
  refine w_aload_n (pc := 686) hC dL_law_686 1 rfl rfl ?_
  refine w_aload_n (pc := 687) hC dL_law_687 3 rfl rfl ?_
  refine w_iload_n (pc := 688) hC dL_law_688 0 rfl rfl ?_
  refine w_iconst (pc := 689) hC dL_law_689 ?_
  refine w_iadd (pc := 690) hC dL_law_690 ?_
  refine w_sld (pc := 691) hC hX hbl hbA (by omega) hL dL_law_691 ?_
  refine w_aload_n (pc := 692) hC dL_law_692 3 rfl rfl ?_
  refine w_iload_n (pc := 693) hC dL_law_693 0 rfl rfl ?_
  refine w_iconst (pc := 694) hC dL_law_694 ?_
  refine w_iadd (pc := 695) hC dL_law_695 ?_
  refine w_sld (pc := 696) hC hX hbl hbA (by omega) hL dL_law_696 ?_
  refine w_aload_n (pc := 697) hC dL_law_697 3 rfl rfl ?_
  refine w_iload_n (pc := 698) hC dL_law_698 0 rfl rfl ?_
  refine w_iconst (pc := 699) hC dL_law_699 ?_
  refine w_iadd (pc := 700) hC dL_law_700 ?_
  refine w_sld (pc := 701) hC hX hbl hbA (by omega) hL dL_law_701 ?_
  refine w_aload_n (pc := 702) hC dL_law_702 3 rfl rfl ?_
  refine w_iload_n (pc := 703) hC dL_law_703 0 rfl rfl ?_
  refine w_iconst (pc := 704) hC dL_law_704 ?_
  refine w_iadd (pc := 705) hC dL_law_705 ?_
  refine w_sld (pc := 706) hC hX hbl hbA (by omega) hL dL_law_706 ?_
  refine w_aload_n (pc := 707) hC dL_law_707 3 rfl rfl ?_
  refine w_iload_n (pc := 708) hC dL_law_708 0 rfl rfl ?_
  refine w_iconst (pc := 709) hC dL_law_709 ?_
  refine w_iadd (pc := 710) hC dL_law_710 ?_
  refine w_sld (pc := 711) hC hX hbl hbA (by omega) hL dL_law_711 ?_
  refine w_callV (pc := 712) (As := [.int (J (sc xs (6 * (k : Int) + 1))), .int (J (sc xs (6 * (k : Int) + 2))), .int (J (sc xs (6 * (k : Int) + 3))), .int (J (sc xs (6 * (k : Int) + 4))), .int (J (sc xs (6 * (k : Int) + 5)))]) (rest := [.long (JL (z))]) hC dL_law_712 cv_L_77 hM (by decide) (by omega) (q0 := q1) h1 rfl rfl rfl (Nat.le_of_ble_eq_true rfl) rfl (fun v2 w2 hv => ?_)
  obtain ⟨hv2, hW2⟩ := hv
  rw [hv2]
  show WW K G _ _ w2 715 [(3, .int (J (6 * (k : Int)))), (2, .ref om), (1, .ref ox), (0, .ref b)] [.long (JL (z)), .long (JL (z))]
  refine w_lsame (pc := 715) hC dL_law_715 ?_
  refine w_zero (pc := 716) (tgt := 1450) hC dL_law_716 (by decide) ?_
  exact w_up (by omega) (by omega) (next w2 hW2)
set_option maxRecDepth 100000 in
set_option maxHeartbeats 4000000 in
theorem lc_truly {K : KT} {G : GT} (hC : KOK K G code RL 2000 600000 7302250) {b L : Nat} {xs : Nat → Int32} (hX : va_X b L xs (ks K) (ks K).heap) (hbl : b < (ks K).heap.size) (hbA : ¬ kA K b) (hL : L ≤ 384) {ox om k : Nat} (hk : 6 * (k : Int) + 6 ≤ (L : Int)) {w0 : va_W} (hW : CRel G.2.1 ox om w0) (next : ∀ w2 : va_W, CRel G.2.1 ox om w2 → WW K G (100 + 6 * (k + 1)) (4000 + 126 * (k + 1)) w2 1450 [(3, .int (J (6 * (k : Int)))), (2, .ref om), (1, .ref ox), (0, .ref b)] []) : WW K G (100 + 6 * k) (4000 + 126 * k) w0 721 [(3, .int (J (6 * (k : Int)))), (2, .ref om), (1, .ref ox), (0, .ref b)] [] := by
  obtain ⟨q0, f0, h0⟩ := hW.hx
  refine w_aload_n (pc := 721) hC dL_law_721 2 rfl rfl ?_
  refine w_aload_n (pc := 722) hC dL_law_722 3 rfl rfl ?_
  refine w_iload_n (pc := 723) hC dL_law_723 0 rfl rfl ?_
  refine w_iconst (pc := 724) hC dL_law_724 ?_
  refine w_iadd (pc := 725) hC dL_law_725 ?_
  refine w_sld (pc := 726) hC hX hbl hbA (by omega) hL dL_law_726 ?_
  refine w_aload_n (pc := 727) hC dL_law_727 3 rfl rfl ?_
  refine w_iload_n (pc := 728) hC dL_law_728 0 rfl rfl ?_
  refine w_iconst (pc := 729) hC dL_law_729 ?_
  refine w_iadd (pc := 730) hC dL_law_730 ?_
  refine w_sld (pc := 731) hC hX hbl hbA (by omega) hL dL_law_731 ?_
  refine w_aload_n (pc := 732) hC dL_law_732 3 rfl rfl ?_
  refine w_iload_n (pc := 733) hC dL_law_733 0 rfl rfl ?_
  refine w_iconst (pc := 734) hC dL_law_734 ?_
  refine w_iadd (pc := 735) hC dL_law_735 ?_
  refine w_sld (pc := 736) hC hX hbl hbA (by omega) hL dL_law_736 ?_
  refine w_callV (pc := 737) (As := [.int (J (sc xs (6 * (k : Int) + 1))), .int (J (sc xs (6 * (k : Int) + 2))), .int (J (sc xs (6 * (k : Int) + 3)))]) (rest := []) hC dL_law_737 cv_L_78 (pr_truly (kl K) G hW (sc xs (6 * (k : Int) + 1)) (sc xs (6 * (k : Int) + 2)) (sc xs (6 * (k : Int) + 3)) (sc_in _ _) (sc_in _ _) (sc_in _ _)) (by decide) (by omega) (q0 := q0) h0 rfl rfl rfl (Nat.le_of_ble_eq_true rfl) rfl (fun vo wo hv => ?_)
  obtain ⟨z, hv1, ⟨q1, f1, h1⟩, hM⟩ := hv
  rw [hv1]
  show WW K G _ _ wo 740 [(3, .int (J (6 * (k : Int)))), (2, .ref om), (1, .ref ox), (0, .ref b)] [.long (JL (z))]
  refine w_aload_n (pc := 740) hC dL_law_740 1 rfl rfl ?_
  refine w_aload_n (pc := 741) hC dL_law_741 3 rfl rfl ?_
  refine w_iload_n (pc := 742) hC dL_law_742 0 rfl rfl ?_
  refine w_iconst (pc := 743) hC dL_law_743 ?_
  refine w_iadd (pc := 744) hC dL_law_744 ?_
  refine w_sld (pc := 745) hC hX hbl hbA (by omega) hL dL_law_745 ?_
  refine w_aload_n (pc := 746) hC dL_law_746 3 rfl rfl ?_
  refine w_iload_n (pc := 747) hC dL_law_747 0 rfl rfl ?_
  refine w_iconst (pc := 748) hC dL_law_748 ?_
  refine w_iadd (pc := 749) hC dL_law_749 ?_
  refine w_sld (pc := 750) hC hX hbl hbA (by omega) hL dL_law_750 ?_
  refine w_aload_n (pc := 751) hC dL_law_751 3 rfl rfl ?_
  refine w_iload_n (pc := 752) hC dL_law_752 0 rfl rfl ?_
  refine w_iconst (pc := 753) hC dL_law_753 ?_
  refine w_iadd (pc := 754) hC dL_law_754 ?_
  refine w_sld (pc := 755) hC hX hbl hbA (by omega) hL dL_law_755 ?_
  refine w_callV (pc := 756) (As := [.int (J (sc xs (6 * (k : Int) + 1))), .int (J (sc xs (6 * (k : Int) + 2))), .int (J (sc xs (6 * (k : Int) + 3)))]) (rest := [.long (JL (z))]) hC dL_law_756 cv_L_82 hM (by decide) (by omega) (q0 := q1) h1 rfl rfl rfl (Nat.le_of_ble_eq_true rfl) rfl (fun v2 w2 hv => ?_)
  obtain ⟨hv2, hW2⟩ := hv
  rw [hv2]
  show WW K G _ _ w2 759 [(3, .int (J (6 * (k : Int)))), (2, .ref om), (1, .ref ox), (0, .ref b)] [.long (JL (z)), .long (JL (z))]
  refine w_lsame (pc := 759) hC dL_law_759 ?_
  refine w_zero (pc := 760) (tgt := 1450) hC dL_law_760 (by decide) ?_
  exact w_up (by omega) (by omega) (next w2 hW2)
set_option maxRecDepth 100000 in
set_option maxHeartbeats 4000000 in
theorem lc_likely {K : KT} {G : GT} (hC : KOK K G code RL 2000 600000 7302250) {b L : Nat} {xs : Nat → Int32} (hX : va_X b L xs (ks K) (ks K).heap) (hbl : b < (ks K).heap.size) (hbA : ¬ kA K b) (hL : L ≤ 384) {ox om k : Nat} (hk : 6 * (k : Int) + 6 ≤ (L : Int)) {w0 : va_W} (hW : CRel G.2.1 ox om w0) (next : ∀ w2 : va_W, CRel G.2.1 ox om w2 → WW K G (100 + 6 * (k + 1)) (4000 + 126 * (k + 1)) w2 1450 [(3, .int (J (6 * (k : Int)))), (2, .ref om), (1, .ref ox), (0, .ref b)] []) : WW K G (100 + 6 * k) (4000 + 126 * k) w0 765 [(3, .int (J (6 * (k : Int)))), (2, .ref om), (1, .ref ox), (0, .ref b)] [] := by
  obtain ⟨q0, f0, h0⟩ := hW.hx
  refine w_aload_n (pc := 765) hC dL_law_765 2 rfl rfl ?_
  refine w_aload_n (pc := 766) hC dL_law_766 3 rfl rfl ?_
  refine w_iload_n (pc := 767) hC dL_law_767 0 rfl rfl ?_
  refine w_iconst (pc := 768) hC dL_law_768 ?_
  refine w_iadd (pc := 769) hC dL_law_769 ?_
  refine w_sld (pc := 770) hC hX hbl hbA (by omega) hL dL_law_770 ?_
  refine w_aload_n (pc := 771) hC dL_law_771 3 rfl rfl ?_
  refine w_iload_n (pc := 772) hC dL_law_772 0 rfl rfl ?_
  refine w_iconst (pc := 773) hC dL_law_773 ?_
  refine w_iadd (pc := 774) hC dL_law_774 ?_
  refine w_sld (pc := 775) hC hX hbl hbA (by omega) hL dL_law_775 ?_
  refine w_aload_n (pc := 776) hC dL_law_776 3 rfl rfl ?_
  refine w_iload_n (pc := 777) hC dL_law_777 0 rfl rfl ?_
  refine w_iconst (pc := 778) hC dL_law_778 ?_
  refine w_iadd (pc := 779) hC dL_law_779 ?_
  refine w_sld (pc := 780) hC hX hbl hbA (by omega) hL dL_law_780 ?_
  refine w_callV (pc := 781) (As := [.int (J (sc xs (6 * (k : Int) + 1))), .int (J (sc xs (6 * (k : Int) + 2))), .int (J (sc xs (6 * (k : Int) + 3)))]) (rest := []) hC dL_law_781 cv_L_83 (pr_likely (kl K) G hW (sc xs (6 * (k : Int) + 1)) (sc xs (6 * (k : Int) + 2)) (sc xs (6 * (k : Int) + 3)) (sc_in _ _) (sc_in _ _) (sc_in _ _)) (by decide) (by omega) (q0 := q0) h0 rfl rfl rfl (Nat.le_of_ble_eq_true rfl) rfl (fun vo wo hv => ?_)
  obtain ⟨z, hv1, ⟨q1, f1, h1⟩, hM⟩ := hv
  rw [hv1]
  show WW K G _ _ wo 784 [(3, .int (J (6 * (k : Int)))), (2, .ref om), (1, .ref ox), (0, .ref b)] [.int (J (z))]
  refine w_aload_n (pc := 784) hC dL_law_784 1 rfl rfl ?_
  refine w_aload_n (pc := 785) hC dL_law_785 3 rfl rfl ?_
  refine w_iload_n (pc := 786) hC dL_law_786 0 rfl rfl ?_
  refine w_iconst (pc := 787) hC dL_law_787 ?_
  refine w_iadd (pc := 788) hC dL_law_788 ?_
  refine w_sld (pc := 789) hC hX hbl hbA (by omega) hL dL_law_789 ?_
  refine w_aload_n (pc := 790) hC dL_law_790 3 rfl rfl ?_
  refine w_iload_n (pc := 791) hC dL_law_791 0 rfl rfl ?_
  refine w_iconst (pc := 792) hC dL_law_792 ?_
  refine w_iadd (pc := 793) hC dL_law_793 ?_
  refine w_sld (pc := 794) hC hX hbl hbA (by omega) hL dL_law_794 ?_
  refine w_aload_n (pc := 795) hC dL_law_795 3 rfl rfl ?_
  refine w_iload_n (pc := 796) hC dL_law_796 0 rfl rfl ?_
  refine w_iconst (pc := 797) hC dL_law_797 ?_
  refine w_iadd (pc := 798) hC dL_law_798 ?_
  refine w_sld (pc := 799) hC hX hbl hbA (by omega) hL dL_law_799 ?_
  refine w_callV (pc := 800) (As := [.int (J (sc xs (6 * (k : Int) + 1))), .int (J (sc xs (6 * (k : Int) + 2))), .int (J (sc xs (6 * (k : Int) + 3)))]) (rest := [.int (J (z))]) hC dL_law_800 cv_L_86 hM (by decide) (by omega) (q0 := q1) h1 rfl rfl rfl (Nat.le_of_ble_eq_true rfl) rfl (fun v2 w2 hv => ?_)
  obtain ⟨hv2, hW2⟩ := hv
  rw [hv2]
  show WW K G _ _ w2 803 [(3, .int (J (6 * (k : Int)))), (2, .ref om), (1, .ref ox), (0, .ref b)] [.int (J (z)), .int (J (z))]
  refine w_same (pc := 803) (tgt := 1450) hC dL_law_803 (by decide) ?_
  exact w_up (by omega) (by omega) (next w2 hW2)
set_option maxRecDepth 100000 in
set_option maxHeartbeats 4000000 in
theorem lc_mean {K : KT} {G : GT} (hC : KOK K G code RL 2000 600000 7302250) {b L : Nat} {xs : Nat → Int32} (hX : va_X b L xs (ks K) (ks K).heap) (hbl : b < (ks K).heap.size) (hbA : ¬ kA K b) (hL : L ≤ 384) {ox om k : Nat} (hk : 6 * (k : Int) + 6 ≤ (L : Int)) {w0 : va_W} (hW : CRel G.2.1 ox om w0) (next : ∀ w2 : va_W, CRel G.2.1 ox om w2 → WW K G (100 + 6 * (k + 1)) (4000 + 126 * (k + 1)) w2 1450 [(3, .int (J (6 * (k : Int)))), (2, .ref om), (1, .ref ox), (0, .ref b)] []) : WW K G (100 + 6 * k) (4000 + 126 * k) w0 808 [(3, .int (J (6 * (k : Int)))), (2, .ref om), (1, .ref ox), (0, .ref b)] [] := by
  obtain ⟨q0, f0, h0⟩ := hW.hx
  refine w_aload_n (pc := 808) hC dL_law_808 2 rfl rfl ?_
  refine w_aload_n (pc := 809) hC dL_law_809 3 rfl rfl ?_
  refine w_iload_n (pc := 810) hC dL_law_810 0 rfl rfl ?_
  refine w_iconst (pc := 811) hC dL_law_811 ?_
  refine w_iadd (pc := 812) hC dL_law_812 ?_
  refine w_sld (pc := 813) hC hX hbl hbA (by omega) hL dL_law_813 ?_
  refine w_aload_n (pc := 814) hC dL_law_814 3 rfl rfl ?_
  refine w_iload_n (pc := 815) hC dL_law_815 0 rfl rfl ?_
  refine w_iconst (pc := 816) hC dL_law_816 ?_
  refine w_iadd (pc := 817) hC dL_law_817 ?_
  refine w_sld (pc := 818) hC hX hbl hbA (by omega) hL dL_law_818 ?_
  refine w_aload_n (pc := 819) hC dL_law_819 3 rfl rfl ?_
  refine w_iload_n (pc := 820) hC dL_law_820 0 rfl rfl ?_
  refine w_iconst (pc := 821) hC dL_law_821 ?_
  refine w_iadd (pc := 822) hC dL_law_822 ?_
  refine w_sld (pc := 823) hC hX hbl hbA (by omega) hL dL_law_823 ?_
  refine w_aload_n (pc := 824) hC dL_law_824 3 rfl rfl ?_
  refine w_iload_n (pc := 825) hC dL_law_825 0 rfl rfl ?_
  refine w_iconst (pc := 826) hC dL_law_826 ?_
  refine w_iadd (pc := 827) hC dL_law_827 ?_
  refine w_sld (pc := 828) hC hX hbl hbA (by omega) hL dL_law_828 ?_
  refine w_callV (pc := 829) (As := [.int (J (sc xs (6 * (k : Int) + 1))), .int (J (sc xs (6 * (k : Int) + 2))), .int (J (sc xs (6 * (k : Int) + 3))), .int (J (sc xs (6 * (k : Int) + 4)))]) (rest := []) hC dL_law_829 cv_L_87 (pr_mean (kl K) G hW (sc xs (6 * (k : Int) + 1)) (sc xs (6 * (k : Int) + 2)) (sc xs (6 * (k : Int) + 3)) (sc xs (6 * (k : Int) + 4)) (sc_in _ _) (sc_in _ _) (sc_in _ _) (sc_in _ _)) (by decide) (by omega) (q0 := q0) h0 rfl rfl rfl (Nat.le_of_ble_eq_true rfl) rfl (fun vo wo hv => ?_)
  obtain ⟨z, hv1, ⟨q1, f1, h1⟩, hM⟩ := hv
  rw [hv1]
  show WW K G _ _ wo 832 [(3, .int (J (6 * (k : Int)))), (2, .ref om), (1, .ref ox), (0, .ref b)] [.long (JL (z))]
  refine w_aload_n (pc := 832) hC dL_law_832 1 rfl rfl ?_
  refine w_aload_n (pc := 833) hC dL_law_833 3 rfl rfl ?_
  refine w_iload_n (pc := 834) hC dL_law_834 0 rfl rfl ?_
  refine w_iconst (pc := 835) hC dL_law_835 ?_
  refine w_iadd (pc := 836) hC dL_law_836 ?_
  refine w_sld (pc := 837) hC hX hbl hbA (by omega) hL dL_law_837 ?_
  refine w_aload_n (pc := 838) hC dL_law_838 3 rfl rfl ?_
  refine w_iload_n (pc := 839) hC dL_law_839 0 rfl rfl ?_
  refine w_iconst (pc := 840) hC dL_law_840 ?_
  refine w_iadd (pc := 841) hC dL_law_841 ?_
  refine w_sld (pc := 842) hC hX hbl hbA (by omega) hL dL_law_842 ?_
  refine w_aload_n (pc := 843) hC dL_law_843 3 rfl rfl ?_
  refine w_iload_n (pc := 844) hC dL_law_844 0 rfl rfl ?_
  refine w_iconst (pc := 845) hC dL_law_845 ?_
  refine w_iadd (pc := 846) hC dL_law_846 ?_
  refine w_sld (pc := 847) hC hX hbl hbA (by omega) hL dL_law_847 ?_
  refine w_aload_n (pc := 848) hC dL_law_848 3 rfl rfl ?_
  refine w_iload_n (pc := 849) hC dL_law_849 0 rfl rfl ?_
  refine w_iconst (pc := 850) hC dL_law_850 ?_
  refine w_iadd (pc := 851) hC dL_law_851 ?_
  refine w_sld (pc := 852) hC hX hbl hbA (by omega) hL dL_law_852 ?_
  refine w_callV (pc := 853) (As := [.int (J (sc xs (6 * (k : Int) + 1))), .int (J (sc xs (6 * (k : Int) + 2))), .int (J (sc xs (6 * (k : Int) + 3))), .int (J (sc xs (6 * (k : Int) + 4)))]) (rest := [.long (JL (z))]) hC dL_law_853 cv_L_91 hM (by decide) (by omega) (q0 := q1) h1 rfl rfl rfl (Nat.le_of_ble_eq_true rfl) rfl (fun v2 w2 hv => ?_)
  obtain ⟨hv2, hW2⟩ := hv
  rw [hv2]
  show WW K G _ _ w2 856 [(3, .int (J (6 * (k : Int)))), (2, .ref om), (1, .ref ox), (0, .ref b)] [.long (JL (z)), .long (JL (z))]
  refine w_lsame (pc := 856) hC dL_law_856 ?_
  refine w_zero (pc := 857) (tgt := 1450) hC dL_law_857 (by decide) ?_
  exact w_up (by omega) (by omega) (next w2 hW2)
set_option maxRecDepth 100000 in
set_option maxHeartbeats 4000000 in
theorem lc_stuck {K : KT} {G : GT} (hC : KOK K G code RL 2000 600000 7302250) {b L : Nat} {xs : Nat → Int32} (hX : va_X b L xs (ks K) (ks K).heap) (hbl : b < (ks K).heap.size) (hbA : ¬ kA K b) (hL : L ≤ 384) {ox om k : Nat} (hk : 6 * (k : Int) + 6 ≤ (L : Int)) {w0 : va_W} (hW : CRel G.2.1 ox om w0) (next : ∀ w2 : va_W, CRel G.2.1 ox om w2 → WW K G (100 + 6 * (k + 1)) (4000 + 126 * (k + 1)) w2 1450 [(3, .int (J (6 * (k : Int)))), (2, .ref om), (1, .ref ox), (0, .ref b)] []) : WW K G (100 + 6 * k) (4000 + 126 * k) w0 862 [(3, .int (J (6 * (k : Int)))), (2, .ref om), (1, .ref ox), (0, .ref b)] [] := by
  obtain ⟨q0, f0, h0⟩ := hW.hx
  refine w_aload_n (pc := 862) hC dL_law_862 2 rfl rfl ?_
  refine w_aload_n (pc := 863) hC dL_law_863 3 rfl rfl ?_
  refine w_iload_n (pc := 864) hC dL_law_864 0 rfl rfl ?_
  refine w_iconst (pc := 865) hC dL_law_865 ?_
  refine w_iadd (pc := 866) hC dL_law_866 ?_
  refine w_sld (pc := 867) hC hX hbl hbA (by omega) hL dL_law_867 ?_
  refine w_aload_n (pc := 868) hC dL_law_868 3 rfl rfl ?_
  refine w_iload_n (pc := 869) hC dL_law_869 0 rfl rfl ?_
  refine w_iconst (pc := 870) hC dL_law_870 ?_
  refine w_iadd (pc := 871) hC dL_law_871 ?_
  refine w_sld (pc := 872) hC hX hbl hbA (by omega) hL dL_law_872 ?_
  refine w_callV (pc := 873) (As := [.int (J (sc xs (6 * (k : Int) + 1))), .int (J (sc xs (6 * (k : Int) + 2)))]) (rest := []) hC dL_law_873 cv_L_92 (pr_stuck (kl K) G hW (sc xs (6 * (k : Int) + 1)) (sc xs (6 * (k : Int) + 2)) (sc_in _ _) (sc_in _ _)) (by decide) (by omega) (q0 := q0) h0 rfl rfl rfl (Nat.le_of_ble_eq_true rfl) rfl (fun vo wo hv => ?_)
  obtain ⟨z, hv1, ⟨q1, f1, h1⟩, hM⟩ := hv
  rw [hv1]
  show WW K G _ _ wo 876 [(3, .int (J (6 * (k : Int)))), (2, .ref om), (1, .ref ox), (0, .ref b)] [.int (J (z))]
  refine w_aload_n (pc := 876) hC dL_law_876 1 rfl rfl ?_
  refine w_aload_n (pc := 877) hC dL_law_877 3 rfl rfl ?_
  refine w_iload_n (pc := 878) hC dL_law_878 0 rfl rfl ?_
  refine w_iconst (pc := 879) hC dL_law_879 ?_
  refine w_iadd (pc := 880) hC dL_law_880 ?_
  refine w_sld (pc := 881) hC hX hbl hbA (by omega) hL dL_law_881 ?_
  refine w_aload_n (pc := 882) hC dL_law_882 3 rfl rfl ?_
  refine w_iload_n (pc := 883) hC dL_law_883 0 rfl rfl ?_
  refine w_iconst (pc := 884) hC dL_law_884 ?_
  refine w_iadd (pc := 885) hC dL_law_885 ?_
  refine w_sld (pc := 886) hC hX hbl hbA (by omega) hL dL_law_886 ?_
  refine w_callV (pc := 887) (As := [.int (J (sc xs (6 * (k : Int) + 1))), .int (J (sc xs (6 * (k : Int) + 2)))]) (rest := [.int (J (z))]) hC dL_law_887 cv_L_95 hM (by decide) (by omega) (q0 := q1) h1 rfl rfl rfl (Nat.le_of_ble_eq_true rfl) rfl (fun v2 w2 hv => ?_)
  obtain ⟨hv2, hW2⟩ := hv
  rw [hv2]
  show WW K G _ _ w2 890 [(3, .int (J (6 * (k : Int)))), (2, .ref om), (1, .ref ox), (0, .ref b)] [.int (J (z)), .int (J (z))]
  refine w_same (pc := 890) (tgt := 1450) hC dL_law_890 (by decide) ?_
  exact w_up (by omega) (by omega) (next w2 hW2)
set_option maxRecDepth 100000 in
set_option maxHeartbeats 4000000 in
theorem lc_ought {K : KT} {G : GT} (hC : KOK K G code RL 2000 600000 7302250) {b L : Nat} {xs : Nat → Int32} (hX : va_X b L xs (ks K) (ks K).heap) (hbl : b < (ks K).heap.size) (hbA : ¬ kA K b) (hL : L ≤ 384) {ox om k : Nat} (hk : 6 * (k : Int) + 6 ≤ (L : Int)) {w0 : va_W} (hW : CRel G.2.1 ox om w0) (next : ∀ w2 : va_W, CRel G.2.1 ox om w2 → WW K G (100 + 6 * (k + 1)) (4000 + 126 * (k + 1)) w2 1450 [(3, .int (J (6 * (k : Int)))), (2, .ref om), (1, .ref ox), (0, .ref b)] []) : WW K G (100 + 6 * k) (4000 + 126 * k) w0 895 [(3, .int (J (6 * (k : Int)))), (2, .ref om), (1, .ref ox), (0, .ref b)] [] := by
  obtain ⟨q0, f0, h0⟩ := hW.hx
  refine w_aload_n (pc := 895) hC dL_law_895 2 rfl rfl ?_
  refine w_aload_n (pc := 896) hC dL_law_896 3 rfl rfl ?_
  refine w_iload_n (pc := 897) hC dL_law_897 0 rfl rfl ?_
  refine w_iconst (pc := 898) hC dL_law_898 ?_
  refine w_iadd (pc := 899) hC dL_law_899 ?_
  refine w_sld (pc := 900) hC hX hbl hbA (by omega) hL dL_law_900 ?_
  refine w_aload_n (pc := 901) hC dL_law_901 3 rfl rfl ?_
  refine w_iload_n (pc := 902) hC dL_law_902 0 rfl rfl ?_
  refine w_iconst (pc := 903) hC dL_law_903 ?_
  refine w_iadd (pc := 904) hC dL_law_904 ?_
  refine w_sld (pc := 905) hC hX hbl hbA (by omega) hL dL_law_905 ?_
  refine w_aload_n (pc := 906) hC dL_law_906 3 rfl rfl ?_
  refine w_iload_n (pc := 907) hC dL_law_907 0 rfl rfl ?_
  refine w_iconst (pc := 908) hC dL_law_908 ?_
  refine w_iadd (pc := 909) hC dL_law_909 ?_
  refine w_sld (pc := 910) hC hX hbl hbA (by omega) hL dL_law_910 ?_
  refine w_callV (pc := 911) (As := [.int (J (sc xs (6 * (k : Int) + 1))), .int (J (sc xs (6 * (k : Int) + 2))), .int (J (sc xs (6 * (k : Int) + 3)))]) (rest := []) hC dL_law_911 cv_L_96 (pr_ought (kl K) G hW (sc xs (6 * (k : Int) + 1)) (sc xs (6 * (k : Int) + 2)) (sc xs (6 * (k : Int) + 3)) (sc_in _ _) (sc_in _ _) (sc_in _ _)) (by decide) (by omega) (q0 := q0) h0 rfl rfl rfl (Nat.le_of_ble_eq_true rfl) rfl (fun vo wo hv => ?_)
  obtain ⟨z, hv1, ⟨q1, f1, h1⟩, hM⟩ := hv
  rw [hv1]
  show WW K G _ _ wo 914 [(3, .int (J (6 * (k : Int)))), (2, .ref om), (1, .ref ox), (0, .ref b)] [.int (J (z))]
  refine w_aload_n (pc := 914) hC dL_law_914 1 rfl rfl ?_
  refine w_aload_n (pc := 915) hC dL_law_915 3 rfl rfl ?_
  refine w_iload_n (pc := 916) hC dL_law_916 0 rfl rfl ?_
  refine w_iconst (pc := 917) hC dL_law_917 ?_
  refine w_iadd (pc := 918) hC dL_law_918 ?_
  refine w_sld (pc := 919) hC hX hbl hbA (by omega) hL dL_law_919 ?_
  refine w_aload_n (pc := 920) hC dL_law_920 3 rfl rfl ?_
  refine w_iload_n (pc := 921) hC dL_law_921 0 rfl rfl ?_
  refine w_iconst (pc := 922) hC dL_law_922 ?_
  refine w_iadd (pc := 923) hC dL_law_923 ?_
  refine w_sld (pc := 924) hC hX hbl hbA (by omega) hL dL_law_924 ?_
  refine w_aload_n (pc := 925) hC dL_law_925 3 rfl rfl ?_
  refine w_iload_n (pc := 926) hC dL_law_926 0 rfl rfl ?_
  refine w_iconst (pc := 927) hC dL_law_927 ?_
  refine w_iadd (pc := 928) hC dL_law_928 ?_
  refine w_sld (pc := 929) hC hX hbl hbA (by omega) hL dL_law_929 ?_
  refine w_callV (pc := 930) (As := [.int (J (sc xs (6 * (k : Int) + 1))), .int (J (sc xs (6 * (k : Int) + 2))), .int (J (sc xs (6 * (k : Int) + 3)))]) (rest := [.int (J (z))]) hC dL_law_930 cv_L_99 hM (by decide) (by omega) (q0 := q1) h1 rfl rfl rfl (Nat.le_of_ble_eq_true rfl) rfl (fun v2 w2 hv => ?_)
  obtain ⟨hv2, hW2⟩ := hv
  rw [hv2]
  show WW K G _ _ w2 933 [(3, .int (J (6 * (k : Int)))), (2, .ref om), (1, .ref ox), (0, .ref b)] [.int (J (z)), .int (J (z))]
  refine w_same (pc := 933) (tgt := 1450) hC dL_law_933 (by decide) ?_
  exact w_up (by omega) (by omega) (next w2 hW2)
set_option maxRecDepth 100000 in
set_option maxHeartbeats 4000000 in
theorem lc_row {K : KT} {G : GT} (hC : KOK K G code RL 2000 600000 7302250) {b L : Nat} {xs : Nat → Int32} (hX : va_X b L xs (ks K) (ks K).heap) (hbl : b < (ks K).heap.size) (hbA : ¬ kA K b) (hL : L ≤ 384) {ox om k : Nat} (hk : 6 * (k : Int) + 6 ≤ (L : Int)) {w0 : va_W} (hW : CRel G.2.1 ox om w0) (next : ∀ w2 : va_W, CRel G.2.1 ox om w2 → WW K G (100 + 6 * (k + 1)) (4000 + 126 * (k + 1)) w2 1450 [(3, .int (J (6 * (k : Int)))), (2, .ref om), (1, .ref ox), (0, .ref b)] []) : WW K G (100 + 6 * k) (4000 + 126 * k) w0 938 [(3, .int (J (6 * (k : Int)))), (2, .ref om), (1, .ref ox), (0, .ref b)] [] := by
  obtain ⟨q0, f0, h0⟩ := hW.hx
  refine w_aload_n (pc := 938) hC dL_law_938 2 rfl rfl ?_
  refine w_aload_n (pc := 939) hC dL_law_939 3 rfl rfl ?_
  refine w_iload_n (pc := 940) hC dL_law_940 0 rfl rfl ?_
  refine w_iconst (pc := 941) hC dL_law_941 ?_
  refine w_iadd (pc := 942) hC dL_law_942 ?_
  refine w_sld (pc := 943) hC hX hbl hbA (by omega) hL dL_law_943 ?_
  refine w_callV (pc := 944) (As := [.int (J (sc xs (6 * (k : Int) + 1)))]) (rest := []) hC dL_law_944 cv_L_100 (pr_row (kl K) G hW (sc xs (6 * (k : Int) + 1)) (sc_in _ _)) (by decide) (by omega) (q0 := q0) h0 rfl rfl rfl (Nat.le_of_ble_eq_true rfl) rfl (fun vo wo hv => ?_)
  obtain ⟨z, hv1, ⟨q1, f1, h1⟩, hM⟩ := hv
  rw [hv1]
  show WW K G _ _ wo 947 [(3, .int (J (6 * (k : Int)))), (2, .ref om), (1, .ref ox), (0, .ref b)] [.int (J (z))]
  refine w_aload_n (pc := 947) hC dL_law_947 1 rfl rfl ?_
  refine w_aload_n (pc := 948) hC dL_law_948 3 rfl rfl ?_
  refine w_iload_n (pc := 949) hC dL_law_949 0 rfl rfl ?_
  refine w_iconst (pc := 950) hC dL_law_950 ?_
  refine w_iadd (pc := 951) hC dL_law_951 ?_
  refine w_sld (pc := 952) hC hX hbl hbA (by omega) hL dL_law_952 ?_
  refine w_callV (pc := 953) (As := [.int (J (sc xs (6 * (k : Int) + 1)))]) (rest := [.int (J (z))]) hC dL_law_953 cv_L_103 hM (by decide) (by omega) (q0 := q1) h1 rfl rfl rfl (Nat.le_of_ble_eq_true rfl) rfl (fun v2 w2 hv => ?_)
  obtain ⟨hv2, hW2⟩ := hv
  rw [hv2]
  show WW K G _ _ w2 956 [(3, .int (J (6 * (k : Int)))), (2, .ref om), (1, .ref ox), (0, .ref b)] [.int (J (z)), .int (J (z))]
  refine w_same (pc := 956) (tgt := 1450) hC dL_law_956 (by decide) ?_
  exact w_up (by omega) (by omega) (next w2 hW2)
set_option maxRecDepth 100000 in
set_option maxHeartbeats 4000000 in
theorem lc_judged {K : KT} {G : GT} (hC : KOK K G code RL 2000 600000 7302250) {b L : Nat} {xs : Nat → Int32} (hX : va_X b L xs (ks K) (ks K).heap) (hbl : b < (ks K).heap.size) (hbA : ¬ kA K b) (hL : L ≤ 384) {ox om k : Nat} (hk : 6 * (k : Int) + 6 ≤ (L : Int)) {w0 : va_W} (hW : CRel G.2.1 ox om w0) (next : ∀ w2 : va_W, CRel G.2.1 ox om w2 → WW K G (100 + 6 * (k + 1)) (4000 + 126 * (k + 1)) w2 1450 [(3, .int (J (6 * (k : Int)))), (2, .ref om), (1, .ref ox), (0, .ref b)] []) : WW K G (100 + 6 * k) (4000 + 126 * k) w0 961 [(3, .int (J (6 * (k : Int)))), (2, .ref om), (1, .ref ox), (0, .ref b)] [] := by
  obtain ⟨q0, f0, h0⟩ := hW.hx
  refine w_aload_n (pc := 961) hC dL_law_961 2 rfl rfl ?_
  refine w_aload_n (pc := 962) hC dL_law_962 3 rfl rfl ?_
  refine w_iload_n (pc := 963) hC dL_law_963 0 rfl rfl ?_
  refine w_iconst (pc := 964) hC dL_law_964 ?_
  refine w_iadd (pc := 965) hC dL_law_965 ?_
  refine w_sld (pc := 966) hC hX hbl hbA (by omega) hL dL_law_966 ?_
  refine w_aload_n (pc := 967) hC dL_law_967 3 rfl rfl ?_
  refine w_iload_n (pc := 968) hC dL_law_968 0 rfl rfl ?_
  refine w_iconst (pc := 969) hC dL_law_969 ?_
  refine w_iadd (pc := 970) hC dL_law_970 ?_
  refine w_sld (pc := 971) hC hX hbl hbA (by omega) hL dL_law_971 ?_
  refine w_callV (pc := 972) (As := [.int (J (sc xs (6 * (k : Int) + 1))), .int (J (sc xs (6 * (k : Int) + 2)))]) (rest := []) hC dL_law_972 cv_L_104 (pr_judged (kl K) G hW (sc xs (6 * (k : Int) + 1)) (sc xs (6 * (k : Int) + 2)) (sc_in _ _) (sc_in _ _)) (by decide) (by omega) (q0 := q0) h0 rfl rfl rfl (Nat.le_of_ble_eq_true rfl) rfl (fun vo wo hv => ?_)
  obtain ⟨z, hv1, ⟨q1, f1, h1⟩, hM⟩ := hv
  rw [hv1]
  show WW K G _ _ wo 975 [(3, .int (J (6 * (k : Int)))), (2, .ref om), (1, .ref ox), (0, .ref b)] [.int (J (z))]
  refine w_aload_n (pc := 975) hC dL_law_975 1 rfl rfl ?_
  refine w_aload_n (pc := 976) hC dL_law_976 3 rfl rfl ?_
  refine w_iload_n (pc := 977) hC dL_law_977 0 rfl rfl ?_
  refine w_iconst (pc := 978) hC dL_law_978 ?_
  refine w_iadd (pc := 979) hC dL_law_979 ?_
  refine w_sld (pc := 980) hC hX hbl hbA (by omega) hL dL_law_980 ?_
  refine w_aload_n (pc := 981) hC dL_law_981 3 rfl rfl ?_
  refine w_iload_n (pc := 982) hC dL_law_982 0 rfl rfl ?_
  refine w_iconst (pc := 983) hC dL_law_983 ?_
  refine w_iadd (pc := 984) hC dL_law_984 ?_
  refine w_sld (pc := 985) hC hX hbl hbA (by omega) hL dL_law_985 ?_
  refine w_callV (pc := 986) (As := [.int (J (sc xs (6 * (k : Int) + 1))), .int (J (sc xs (6 * (k : Int) + 2)))]) (rest := [.int (J (z))]) hC dL_law_986 cv_L_107 hM (by decide) (by omega) (q0 := q1) h1 rfl rfl rfl (Nat.le_of_ble_eq_true rfl) rfl (fun v2 w2 hv => ?_)
  obtain ⟨hv2, hW2⟩ := hv
  rw [hv2]
  show WW K G _ _ w2 989 [(3, .int (J (6 * (k : Int)))), (2, .ref om), (1, .ref ox), (0, .ref b)] [.int (J (z)), .int (J (z))]
  refine w_same (pc := 989) (tgt := 1450) hC dL_law_989 (by decide) ?_
  exact w_up (by omega) (by omega) (next w2 hW2)
set_option maxRecDepth 100000 in
set_option maxHeartbeats 4000000 in
theorem lc_refuse {K : KT} {G : GT} (hC : KOK K G code RL 2000 600000 7302250) {b L : Nat} {xs : Nat → Int32} (hX : va_X b L xs (ks K) (ks K).heap) (hbl : b < (ks K).heap.size) (hbA : ¬ kA K b) (hL : L ≤ 384) {ox om k : Nat} (hk : 6 * (k : Int) + 6 ≤ (L : Int)) {w0 : va_W} (hW : CRel G.2.1 ox om w0) (next : ∀ w2 : va_W, CRel G.2.1 ox om w2 → WW K G (100 + 6 * (k + 1)) (4000 + 126 * (k + 1)) w2 1450 [(3, .int (J (6 * (k : Int)))), (2, .ref om), (1, .ref ox), (0, .ref b)] []) : WW K G (100 + 6 * k) (4000 + 126 * k) w0 994 [(3, .int (J (6 * (k : Int)))), (2, .ref om), (1, .ref ox), (0, .ref b)] [] := by
  obtain ⟨q0, f0, h0⟩ := hW.hx
  refine w_aload_n (pc := 994) hC dL_law_994 2 rfl rfl ?_
  refine w_aload_n (pc := 995) hC dL_law_995 3 rfl rfl ?_
  refine w_iload_n (pc := 996) hC dL_law_996 0 rfl rfl ?_
  refine w_iconst (pc := 997) hC dL_law_997 ?_
  refine w_iadd (pc := 998) hC dL_law_998 ?_
  refine w_sld (pc := 999) hC hX hbl hbA (by omega) hL dL_law_999 ?_
  refine w_aload_n (pc := 1000) hC dL_law_1000 3 rfl rfl ?_
  refine w_iload_n (pc := 1001) hC dL_law_1001 0 rfl rfl ?_
  refine w_iconst (pc := 1002) hC dL_law_1002 ?_
  refine w_iadd (pc := 1003) hC dL_law_1003 ?_
  refine w_sld (pc := 1004) hC hX hbl hbA (by omega) hL dL_law_1004 ?_
  refine w_aload_n (pc := 1005) hC dL_law_1005 3 rfl rfl ?_
  refine w_iload_n (pc := 1006) hC dL_law_1006 0 rfl rfl ?_
  refine w_iconst (pc := 1007) hC dL_law_1007 ?_
  refine w_iadd (pc := 1008) hC dL_law_1008 ?_
  refine w_sld (pc := 1009) hC hX hbl hbA (by omega) hL dL_law_1009 ?_
  refine w_aload_n (pc := 1010) hC dL_law_1010 3 rfl rfl ?_
  refine w_iload_n (pc := 1011) hC dL_law_1011 0 rfl rfl ?_
  refine w_iconst (pc := 1012) hC dL_law_1012 ?_
  refine w_iadd (pc := 1013) hC dL_law_1013 ?_
  refine w_sld (pc := 1014) hC hX hbl hbA (by omega) hL dL_law_1014 ?_
  refine w_callV (pc := 1015) (As := [.int (J (sc xs (6 * (k : Int) + 1))), .int (J (sc xs (6 * (k : Int) + 2))), .int (J (sc xs (6 * (k : Int) + 3))), .int (J (sc xs (6 * (k : Int) + 4)))]) (rest := []) hC dL_law_1015 cv_L_108 (pr_refuse (kl K) G hW (sc xs (6 * (k : Int) + 1)) (sc xs (6 * (k : Int) + 2)) (sc xs (6 * (k : Int) + 3)) (sc xs (6 * (k : Int) + 4)) (sc_in _ _) (sc_in _ _) (sc_in _ _) (sc_in _ _)) (by decide) (by omega) (q0 := q0) h0 rfl rfl rfl (Nat.le_of_ble_eq_true rfl) rfl (fun vo wo hv => ?_)
  obtain ⟨z, hv1, ⟨q1, f1, h1⟩, hM⟩ := hv
  rw [hv1]
  show WW K G _ _ wo 1018 [(3, .int (J (6 * (k : Int)))), (2, .ref om), (1, .ref ox), (0, .ref b)] [.long (JL (z))]
  refine w_aload_n (pc := 1018) hC dL_law_1018 1 rfl rfl ?_
  refine w_aload_n (pc := 1019) hC dL_law_1019 3 rfl rfl ?_
  refine w_iload_n (pc := 1020) hC dL_law_1020 0 rfl rfl ?_
  refine w_iconst (pc := 1021) hC dL_law_1021 ?_
  refine w_iadd (pc := 1022) hC dL_law_1022 ?_
  refine w_sld (pc := 1023) hC hX hbl hbA (by omega) hL dL_law_1023 ?_
  refine w_aload_n (pc := 1024) hC dL_law_1024 3 rfl rfl ?_
  refine w_iload_n (pc := 1025) hC dL_law_1025 0 rfl rfl ?_
  refine w_iconst (pc := 1026) hC dL_law_1026 ?_
  refine w_iadd (pc := 1027) hC dL_law_1027 ?_
  refine w_sld (pc := 1028) hC hX hbl hbA (by omega) hL dL_law_1028 ?_
  refine w_aload_n (pc := 1029) hC dL_law_1029 3 rfl rfl ?_
  refine w_iload_n (pc := 1030) hC dL_law_1030 0 rfl rfl ?_
  refine w_iconst (pc := 1031) hC dL_law_1031 ?_
  refine w_iadd (pc := 1032) hC dL_law_1032 ?_
  refine w_sld (pc := 1033) hC hX hbl hbA (by omega) hL dL_law_1033 ?_
  refine w_aload_n (pc := 1034) hC dL_law_1034 3 rfl rfl ?_
  refine w_iload_n (pc := 1035) hC dL_law_1035 0 rfl rfl ?_
  refine w_iconst (pc := 1036) hC dL_law_1036 ?_
  refine w_iadd (pc := 1037) hC dL_law_1037 ?_
  refine w_sld (pc := 1038) hC hX hbl hbA (by omega) hL dL_law_1038 ?_
  refine w_callV (pc := 1039) (As := [.int (J (sc xs (6 * (k : Int) + 1))), .int (J (sc xs (6 * (k : Int) + 2))), .int (J (sc xs (6 * (k : Int) + 3))), .int (J (sc xs (6 * (k : Int) + 4)))]) (rest := [.long (JL (z))]) hC dL_law_1039 cv_L_111 hM (by decide) (by omega) (q0 := q1) h1 rfl rfl rfl (Nat.le_of_ble_eq_true rfl) rfl (fun v2 w2 hv => ?_)
  obtain ⟨hv2, hW2⟩ := hv
  rw [hv2]
  show WW K G _ _ w2 1042 [(3, .int (J (6 * (k : Int)))), (2, .ref om), (1, .ref ox), (0, .ref b)] [.long (JL (z)), .long (JL (z))]
  refine w_lsame (pc := 1042) hC dL_law_1042 ?_
  refine w_zero (pc := 1043) (tgt := 1450) hC dL_law_1043 (by decide) ?_
  exact w_up (by omega) (by omega) (next w2 hW2)
set_option maxRecDepth 100000 in
set_option maxHeartbeats 4000000 in
theorem lc_begin {K : KT} {G : GT} (hC : KOK K G code RL 2000 600000 7302250) {b L : Nat} {xs : Nat → Int32} (hX : va_X b L xs (ks K) (ks K).heap) (hbl : b < (ks K).heap.size) (hbA : ¬ kA K b) (hL : L ≤ 384) {ox om k : Nat} (hk : 6 * (k : Int) + 6 ≤ (L : Int)) {w0 : va_W} (hW : CRel G.2.1 ox om w0) (next : ∀ w2 : va_W, CRel G.2.1 ox om w2 → WW K G (100 + 6 * (k + 1)) (4000 + 126 * (k + 1)) w2 1450 [(3, .int (J (6 * (k : Int)))), (2, .ref om), (1, .ref ox), (0, .ref b)] []) : WW K G (100 + 6 * k) (4000 + 126 * k) w0 1048 [(3, .int (J (6 * (k : Int)))), (2, .ref om), (1, .ref ox), (0, .ref b)] [] := by
  obtain ⟨q0, f0, h0⟩ := hW.hx
  refine w_aload_n (pc := 1048) hC dL_law_1048 2 rfl rfl ?_
  refine w_aload_n (pc := 1049) hC dL_law_1049 3 rfl rfl ?_
  refine w_iload_n (pc := 1050) hC dL_law_1050 0 rfl rfl ?_
  refine w_iconst (pc := 1051) hC dL_law_1051 ?_
  refine w_iadd (pc := 1052) hC dL_law_1052 ?_
  refine w_sld (pc := 1053) hC hX hbl hbA (by omega) hL dL_law_1053 ?_
  refine w_aload_n (pc := 1054) hC dL_law_1054 3 rfl rfl ?_
  refine w_iload_n (pc := 1055) hC dL_law_1055 0 rfl rfl ?_
  refine w_iconst (pc := 1056) hC dL_law_1056 ?_
  refine w_iadd (pc := 1057) hC dL_law_1057 ?_
  refine w_sld (pc := 1058) hC hX hbl hbA (by omega) hL dL_law_1058 ?_
  refine w_aload_n (pc := 1059) hC dL_law_1059 3 rfl rfl ?_
  refine w_iload_n (pc := 1060) hC dL_law_1060 0 rfl rfl ?_
  refine w_iconst (pc := 1061) hC dL_law_1061 ?_
  refine w_iadd (pc := 1062) hC dL_law_1062 ?_
  refine w_sld (pc := 1063) hC hX hbl hbA (by omega) hL dL_law_1063 ?_
  refine w_callV (pc := 1064) (As := [.int (J (sc xs (6 * (k : Int) + 1))), .int (J (sc xs (6 * (k : Int) + 2))), .int (J (sc xs (6 * (k : Int) + 3)))]) (rest := []) hC dL_law_1064 cv_L_112 (pr_begin (kl K) G hW (sc xs (6 * (k : Int) + 1)) (sc xs (6 * (k : Int) + 2)) (sc xs (6 * (k : Int) + 3)) (sc_in _ _) (sc_in _ _) (sc_in _ _)) (by decide) (by omega) (q0 := q0) h0 rfl rfl rfl (Nat.le_of_ble_eq_true rfl) rfl (fun vo wo hv => ?_)
  obtain ⟨z, hv1, ⟨q1, f1, h1⟩, hM⟩ := hv
  rw [hv1]
  show WW K G _ _ wo 1067 [(3, .int (J (6 * (k : Int)))), (2, .ref om), (1, .ref ox), (0, .ref b)] [.int (J (z))]
  refine w_aload_n (pc := 1067) hC dL_law_1067 1 rfl rfl ?_
  refine w_aload_n (pc := 1068) hC dL_law_1068 3 rfl rfl ?_
  refine w_iload_n (pc := 1069) hC dL_law_1069 0 rfl rfl ?_
  refine w_iconst (pc := 1070) hC dL_law_1070 ?_
  refine w_iadd (pc := 1071) hC dL_law_1071 ?_
  refine w_sld (pc := 1072) hC hX hbl hbA (by omega) hL dL_law_1072 ?_
  refine w_aload_n (pc := 1073) hC dL_law_1073 3 rfl rfl ?_
  refine w_iload_n (pc := 1074) hC dL_law_1074 0 rfl rfl ?_
  refine w_iconst (pc := 1075) hC dL_law_1075 ?_
  refine w_iadd (pc := 1076) hC dL_law_1076 ?_
  refine w_sld (pc := 1077) hC hX hbl hbA (by omega) hL dL_law_1077 ?_
  refine w_aload_n (pc := 1078) hC dL_law_1078 3 rfl rfl ?_
  refine w_iload_n (pc := 1079) hC dL_law_1079 0 rfl rfl ?_
  refine w_iconst (pc := 1080) hC dL_law_1080 ?_
  refine w_iadd (pc := 1081) hC dL_law_1081 ?_
  refine w_sld (pc := 1082) hC hX hbl hbA (by omega) hL dL_law_1082 ?_
  refine w_callV (pc := 1083) (As := [.int (J (sc xs (6 * (k : Int) + 1))), .int (J (sc xs (6 * (k : Int) + 2))), .int (J (sc xs (6 * (k : Int) + 3)))]) (rest := [.int (J (z))]) hC dL_law_1083 cv_L_115 hM (by decide) (by omega) (q0 := q1) h1 rfl rfl rfl (Nat.le_of_ble_eq_true rfl) rfl (fun v2 w2 hv => ?_)
  obtain ⟨hv2, hW2⟩ := hv
  rw [hv2]
  show WW K G _ _ w2 1086 [(3, .int (J (6 * (k : Int)))), (2, .ref om), (1, .ref ox), (0, .ref b)] [.int (J (z)), .int (J (z))]
  refine w_same (pc := 1086) (tgt := 1450) hC dL_law_1086 (by decide) ?_
  exact w_up (by omega) (by omega) (next w2 hW2)
set_option maxRecDepth 100000 in
set_option maxHeartbeats 4000000 in
theorem lc_best {K : KT} {G : GT} (hC : KOK K G code RL 2000 600000 7302250) {b L : Nat} {xs : Nat → Int32} (hX : va_X b L xs (ks K) (ks K).heap) (hbl : b < (ks K).heap.size) (hbA : ¬ kA K b) (hL : L ≤ 384) {ox om k : Nat} (hk : 6 * (k : Int) + 6 ≤ (L : Int)) {w0 : va_W} (hW : CRel G.2.1 ox om w0) (next : ∀ w2 : va_W, CRel G.2.1 ox om w2 → WW K G (100 + 6 * (k + 1)) (4000 + 126 * (k + 1)) w2 1450 [(3, .int (J (6 * (k : Int)))), (2, .ref om), (1, .ref ox), (0, .ref b)] []) : WW K G (100 + 6 * k) (4000 + 126 * k) w0 1091 [(3, .int (J (6 * (k : Int)))), (2, .ref om), (1, .ref ox), (0, .ref b)] [] := by
  obtain ⟨q0, f0, h0⟩ := hW.hx
  refine w_aload_n (pc := 1091) hC dL_law_1091 2 rfl rfl ?_
  refine w_aload_n (pc := 1092) hC dL_law_1092 3 rfl rfl ?_
  refine w_iload_n (pc := 1093) hC dL_law_1093 0 rfl rfl ?_
  refine w_iconst (pc := 1094) hC dL_law_1094 ?_
  refine w_iadd (pc := 1095) hC dL_law_1095 ?_
  refine w_sld (pc := 1096) hC hX hbl hbA (by omega) hL dL_law_1096 ?_
  refine w_callV (pc := 1097) (As := [.int (J (sc xs (6 * (k : Int) + 1)))]) (rest := []) hC dL_law_1097 cv_L_116 (pr_best (kl K) G hW (sc xs (6 * (k : Int) + 1)) (sc_in _ _)) (by decide) (by omega) (q0 := q0) h0 rfl rfl rfl (Nat.le_of_ble_eq_true rfl) rfl (fun vo wo hv => ?_)
  obtain ⟨z, hv1, ⟨q1, f1, h1⟩, hM⟩ := hv
  rw [hv1]
  show WW K G _ _ wo 1100 [(3, .int (J (6 * (k : Int)))), (2, .ref om), (1, .ref ox), (0, .ref b)] [.int (J (z))]
  refine w_aload_n (pc := 1100) hC dL_law_1100 1 rfl rfl ?_
  refine w_aload_n (pc := 1101) hC dL_law_1101 3 rfl rfl ?_
  refine w_iload_n (pc := 1102) hC dL_law_1102 0 rfl rfl ?_
  refine w_iconst (pc := 1103) hC dL_law_1103 ?_
  refine w_iadd (pc := 1104) hC dL_law_1104 ?_
  refine w_sld (pc := 1105) hC hX hbl hbA (by omega) hL dL_law_1105 ?_
  refine w_callV (pc := 1106) (As := [.int (J (sc xs (6 * (k : Int) + 1)))]) (rest := [.int (J (z))]) hC dL_law_1106 cv_L_119 hM (by decide) (by omega) (q0 := q1) h1 rfl rfl rfl (Nat.le_of_ble_eq_true rfl) rfl (fun v2 w2 hv => ?_)
  obtain ⟨hv2, hW2⟩ := hv
  rw [hv2]
  show WW K G _ _ w2 1109 [(3, .int (J (6 * (k : Int)))), (2, .ref om), (1, .ref ox), (0, .ref b)] [.int (J (z)), .int (J (z))]
  refine w_same (pc := 1109) (tgt := 1450) hC dL_law_1109 (by decide) ?_
  exact w_up (by omega) (by omega) (next w2 hW2)
set_option maxRecDepth 100000 in
set_option maxHeartbeats 4000000 in
theorem lc_round {K : KT} {G : GT} (hC : KOK K G code RL 2000 600000 7302250) {b L : Nat} {xs : Nat → Int32} (hX : va_X b L xs (ks K) (ks K).heap) (hbl : b < (ks K).heap.size) (hbA : ¬ kA K b) (hL : L ≤ 384) {ox om k : Nat} (hk : 6 * (k : Int) + 6 ≤ (L : Int)) {w0 : va_W} (hW : CRel G.2.1 ox om w0) (next : ∀ w2 : va_W, CRel G.2.1 ox om w2 → WW K G (100 + 6 * (k + 1)) (4000 + 126 * (k + 1)) w2 1450 [(3, .int (J (6 * (k : Int)))), (2, .ref om), (1, .ref ox), (0, .ref b)] []) : WW K G (100 + 6 * k) (4000 + 126 * k) w0 1114 [(3, .int (J (6 * (k : Int)))), (2, .ref om), (1, .ref ox), (0, .ref b)] [] := by
  obtain ⟨q0, f0, h0⟩ := hW.hx
  refine w_aload_n (pc := 1114) hC dL_law_1114 2 rfl rfl ?_
  refine w_aload_n (pc := 1115) hC dL_law_1115 3 rfl rfl ?_
  refine w_iload_n (pc := 1116) hC dL_law_1116 0 rfl rfl ?_
  refine w_iconst (pc := 1117) hC dL_law_1117 ?_
  refine w_iadd (pc := 1118) hC dL_law_1118 ?_
  refine w_sld (pc := 1119) hC hX hbl hbA (by omega) hL dL_law_1119 ?_
  refine w_aload_n (pc := 1120) hC dL_law_1120 3 rfl rfl ?_
  refine w_iload_n (pc := 1121) hC dL_law_1121 0 rfl rfl ?_
  refine w_iconst (pc := 1122) hC dL_law_1122 ?_
  refine w_iadd (pc := 1123) hC dL_law_1123 ?_
  refine w_sld (pc := 1124) hC hX hbl hbA (by omega) hL dL_law_1124 ?_
  refine w_callV (pc := 1125) (As := [.int (J (sc xs (6 * (k : Int) + 1))), .int (J (sc xs (6 * (k : Int) + 2)))]) (rest := []) hC dL_law_1125 cv_L_120 (pr_round (kl K) G hW (sc xs (6 * (k : Int) + 1)) (sc xs (6 * (k : Int) + 2)) (sc_in _ _) (sc_in _ _)) (by decide) (by omega) (q0 := q0) h0 rfl rfl rfl (Nat.le_of_ble_eq_true rfl) rfl (fun vo wo hv => ?_)
  obtain ⟨z, hv1, ⟨q1, f1, h1⟩, hM⟩ := hv
  rw [hv1]
  show WW K G _ _ wo 1128 [(3, .int (J (6 * (k : Int)))), (2, .ref om), (1, .ref ox), (0, .ref b)] [.int (J (z))]
  refine w_aload_n (pc := 1128) hC dL_law_1128 1 rfl rfl ?_
  refine w_aload_n (pc := 1129) hC dL_law_1129 3 rfl rfl ?_
  refine w_iload_n (pc := 1130) hC dL_law_1130 0 rfl rfl ?_
  refine w_iconst (pc := 1131) hC dL_law_1131 ?_
  refine w_iadd (pc := 1132) hC dL_law_1132 ?_
  refine w_sld (pc := 1133) hC hX hbl hbA (by omega) hL dL_law_1133 ?_
  refine w_aload_n (pc := 1134) hC dL_law_1134 3 rfl rfl ?_
  refine w_iload_n (pc := 1135) hC dL_law_1135 0 rfl rfl ?_
  refine w_iconst (pc := 1136) hC dL_law_1136 ?_
  refine w_iadd (pc := 1137) hC dL_law_1137 ?_
  refine w_sld (pc := 1138) hC hX hbl hbA (by omega) hL dL_law_1138 ?_
  refine w_callV (pc := 1139) (As := [.int (J (sc xs (6 * (k : Int) + 1))), .int (J (sc xs (6 * (k : Int) + 2)))]) (rest := [.int (J (z))]) hC dL_law_1139 cv_L_123 hM (by decide) (by omega) (q0 := q1) h1 rfl rfl rfl (Nat.le_of_ble_eq_true rfl) rfl (fun v2 w2 hv => ?_)
  obtain ⟨hv2, hW2⟩ := hv
  rw [hv2]
  show WW K G _ _ w2 1142 [(3, .int (J (6 * (k : Int)))), (2, .ref om), (1, .ref ox), (0, .ref b)] [.int (J (z)), .int (J (z))]
  refine w_same (pc := 1142) (tgt := 1450) hC dL_law_1142 (by decide) ?_
  exact w_up (by omega) (by omega) (next w2 hW2)
set_option maxRecDepth 100000 in
set_option maxHeartbeats 4000000 in
theorem lc_sorts {K : KT} {G : GT} (hC : KOK K G code RL 2000 600000 7302250) {b L : Nat} {xs : Nat → Int32} (hX : va_X b L xs (ks K) (ks K).heap) (hbl : b < (ks K).heap.size) (hbA : ¬ kA K b) (hL : L ≤ 384) {ox om k : Nat} (hk : 6 * (k : Int) + 6 ≤ (L : Int)) {w0 : va_W} (hW : CRel G.2.1 ox om w0) (next : ∀ w2 : va_W, CRel G.2.1 ox om w2 → WW K G (100 + 6 * (k + 1)) (4000 + 126 * (k + 1)) w2 1450 [(3, .int (J (6 * (k : Int)))), (2, .ref om), (1, .ref ox), (0, .ref b)] []) : WW K G (100 + 6 * k) (4000 + 126 * k) w0 1147 [(3, .int (J (6 * (k : Int)))), (2, .ref om), (1, .ref ox), (0, .ref b)] [] := by
  obtain ⟨q0, f0, h0⟩ := hW.hx
  refine w_aload_n (pc := 1147) hC dL_law_1147 2 rfl rfl ?_
  refine w_aload_n (pc := 1148) hC dL_law_1148 3 rfl rfl ?_
  refine w_iload_n (pc := 1149) hC dL_law_1149 0 rfl rfl ?_
  refine w_iconst (pc := 1150) hC dL_law_1150 ?_
  refine w_iadd (pc := 1151) hC dL_law_1151 ?_
  refine w_sld (pc := 1152) hC hX hbl hbA (by omega) hL dL_law_1152 ?_
  refine w_callV (pc := 1153) (As := [.int (J (sc xs (6 * (k : Int) + 1)))]) (rest := []) hC dL_law_1153 cv_L_124 (pr_sorts (kl K) G hW (sc xs (6 * (k : Int) + 1)) (sc_in _ _)) (by decide) (by omega) (q0 := q0) h0 rfl rfl rfl (Nat.le_of_ble_eq_true rfl) rfl (fun vo wo hv => ?_)
  obtain ⟨z, hv1, ⟨q1, f1, h1⟩, hM⟩ := hv
  rw [hv1]
  show WW K G _ _ wo 1156 [(3, .int (J (6 * (k : Int)))), (2, .ref om), (1, .ref ox), (0, .ref b)] [.int (J (z))]
  refine w_aload_n (pc := 1156) hC dL_law_1156 1 rfl rfl ?_
  refine w_aload_n (pc := 1157) hC dL_law_1157 3 rfl rfl ?_
  refine w_iload_n (pc := 1158) hC dL_law_1158 0 rfl rfl ?_
  refine w_iconst (pc := 1159) hC dL_law_1159 ?_
  refine w_iadd (pc := 1160) hC dL_law_1160 ?_
  refine w_sld (pc := 1161) hC hX hbl hbA (by omega) hL dL_law_1161 ?_
  refine w_callV (pc := 1162) (As := [.int (J (sc xs (6 * (k : Int) + 1)))]) (rest := [.int (J (z))]) hC dL_law_1162 cv_L_127 hM (by decide) (by omega) (q0 := q1) h1 rfl rfl rfl (Nat.le_of_ble_eq_true rfl) rfl (fun v2 w2 hv => ?_)
  obtain ⟨hv2, hW2⟩ := hv
  rw [hv2]
  show WW K G _ _ w2 1165 [(3, .int (J (6 * (k : Int)))), (2, .ref om), (1, .ref ox), (0, .ref b)] [.int (J (z)), .int (J (z))]
  refine w_same (pc := 1165) (tgt := 1450) hC dL_law_1165 (by decide) ?_
  exact w_up (by omega) (by omega) (next w2 hW2)
set_option maxRecDepth 100000 in
set_option maxHeartbeats 4000000 in
theorem lc_past {K : KT} {G : GT} (hC : KOK K G code RL 2000 600000 7302250) {b L : Nat} {xs : Nat → Int32} (hX : va_X b L xs (ks K) (ks K).heap) (hbl : b < (ks K).heap.size) (hbA : ¬ kA K b) (hL : L ≤ 384) {ox om k : Nat} (hk : 6 * (k : Int) + 6 ≤ (L : Int)) {w0 : va_W} (hW : CRel G.2.1 ox om w0) (next : ∀ w2 : va_W, CRel G.2.1 ox om w2 → WW K G (100 + 6 * (k + 1)) (4000 + 126 * (k + 1)) w2 1450 [(3, .int (J (6 * (k : Int)))), (2, .ref om), (1, .ref ox), (0, .ref b)] []) : WW K G (100 + 6 * k) (4000 + 126 * k) w0 1170 [(3, .int (J (6 * (k : Int)))), (2, .ref om), (1, .ref ox), (0, .ref b)] [] := by
  obtain ⟨q0, f0, h0⟩ := hW.hx
  refine w_aload_n (pc := 1170) hC dL_law_1170 2 rfl rfl ?_
  refine w_aload_n (pc := 1171) hC dL_law_1171 3 rfl rfl ?_
  refine w_iload_n (pc := 1172) hC dL_law_1172 0 rfl rfl ?_
  refine w_iconst (pc := 1173) hC dL_law_1173 ?_
  refine w_iadd (pc := 1174) hC dL_law_1174 ?_
  refine w_sld (pc := 1175) hC hX hbl hbA (by omega) hL dL_law_1175 ?_
  refine w_aload_n (pc := 1176) hC dL_law_1176 3 rfl rfl ?_
  refine w_iload_n (pc := 1177) hC dL_law_1177 0 rfl rfl ?_
  refine w_iconst (pc := 1178) hC dL_law_1178 ?_
  refine w_iadd (pc := 1179) hC dL_law_1179 ?_
  refine w_sld (pc := 1180) hC hX hbl hbA (by omega) hL dL_law_1180 ?_
  refine w_aload_n (pc := 1181) hC dL_law_1181 3 rfl rfl ?_
  refine w_iload_n (pc := 1182) hC dL_law_1182 0 rfl rfl ?_
  refine w_iconst (pc := 1183) hC dL_law_1183 ?_
  refine w_iadd (pc := 1184) hC dL_law_1184 ?_
  refine w_sld (pc := 1185) hC hX hbl hbA (by omega) hL dL_law_1185 ?_
  refine w_callV (pc := 1186) (As := [.int (J (sc xs (6 * (k : Int) + 1))), .int (J (sc xs (6 * (k : Int) + 2))), .int (J (sc xs (6 * (k : Int) + 3)))]) (rest := []) hC dL_law_1186 cv_L_128 (pr_past (kl K) G hW (sc xs (6 * (k : Int) + 1)) (sc xs (6 * (k : Int) + 2)) (sc xs (6 * (k : Int) + 3)) (sc_in _ _) (sc_in _ _) (sc_in _ _)) (by decide) (by omega) (q0 := q0) h0 rfl rfl rfl (Nat.le_of_ble_eq_true rfl) rfl (fun vo wo hv => ?_)
  obtain ⟨z, hv1, ⟨q1, f1, h1⟩, hM⟩ := hv
  rw [hv1]
  show WW K G _ _ wo 1189 [(3, .int (J (6 * (k : Int)))), (2, .ref om), (1, .ref ox), (0, .ref b)] [.int (J (z))]
  refine w_aload_n (pc := 1189) hC dL_law_1189 1 rfl rfl ?_
  refine w_aload_n (pc := 1190) hC dL_law_1190 3 rfl rfl ?_
  refine w_iload_n (pc := 1191) hC dL_law_1191 0 rfl rfl ?_
  refine w_iconst (pc := 1192) hC dL_law_1192 ?_
  refine w_iadd (pc := 1193) hC dL_law_1193 ?_
  refine w_sld (pc := 1194) hC hX hbl hbA (by omega) hL dL_law_1194 ?_
  refine w_aload_n (pc := 1195) hC dL_law_1195 3 rfl rfl ?_
  refine w_iload_n (pc := 1196) hC dL_law_1196 0 rfl rfl ?_
  refine w_iconst (pc := 1197) hC dL_law_1197 ?_
  refine w_iadd (pc := 1198) hC dL_law_1198 ?_
  refine w_sld (pc := 1199) hC hX hbl hbA (by omega) hL dL_law_1199 ?_
  refine w_aload_n (pc := 1200) hC dL_law_1200 3 rfl rfl ?_
  refine w_iload_n (pc := 1201) hC dL_law_1201 0 rfl rfl ?_
  refine w_iconst (pc := 1202) hC dL_law_1202 ?_
  refine w_iadd (pc := 1203) hC dL_law_1203 ?_
  refine w_sld (pc := 1204) hC hX hbl hbA (by omega) hL dL_law_1204 ?_
  refine w_callV (pc := 1205) (As := [.int (J (sc xs (6 * (k : Int) + 1))), .int (J (sc xs (6 * (k : Int) + 2))), .int (J (sc xs (6 * (k : Int) + 3)))]) (rest := [.int (J (z))]) hC dL_law_1205 cv_L_131 hM (by decide) (by omega) (q0 := q1) h1 rfl rfl rfl (Nat.le_of_ble_eq_true rfl) rfl (fun v2 w2 hv => ?_)
  obtain ⟨hv2, hW2⟩ := hv
  rw [hv2]
  show WW K G _ _ w2 1208 [(3, .int (J (6 * (k : Int)))), (2, .ref om), (1, .ref ox), (0, .ref b)] [.int (J (z)), .int (J (z))]
  refine w_same (pc := 1208) (tgt := 1450) hC dL_law_1208 (by decide) ?_
  exact w_up (by omega) (by omega) (next w2 hW2)
set_option maxRecDepth 100000 in
set_option maxHeartbeats 4000000 in
theorem lc_really {K : KT} {G : GT} (hC : KOK K G code RL 2000 600000 7302250) {b L : Nat} {xs : Nat → Int32} (hX : va_X b L xs (ks K) (ks K).heap) (hbl : b < (ks K).heap.size) (hbA : ¬ kA K b) (hL : L ≤ 384) {ox om k : Nat} (hk : 6 * (k : Int) + 6 ≤ (L : Int)) {w0 : va_W} (hW : CRel G.2.1 ox om w0) (next : ∀ w2 : va_W, CRel G.2.1 ox om w2 → WW K G (100 + 6 * (k + 1)) (4000 + 126 * (k + 1)) w2 1450 [(3, .int (J (6 * (k : Int)))), (2, .ref om), (1, .ref ox), (0, .ref b)] []) : WW K G (100 + 6 * k) (4000 + 126 * k) w0 1213 [(3, .int (J (6 * (k : Int)))), (2, .ref om), (1, .ref ox), (0, .ref b)] [] := by
  obtain ⟨q0, f0, h0⟩ := hW.hx
  refine w_aload_n (pc := 1213) hC dL_law_1213 2 rfl rfl ?_
  refine w_aload_n (pc := 1214) hC dL_law_1214 3 rfl rfl ?_
  refine w_iload_n (pc := 1215) hC dL_law_1215 0 rfl rfl ?_
  refine w_iconst (pc := 1216) hC dL_law_1216 ?_
  refine w_iadd (pc := 1217) hC dL_law_1217 ?_
  refine w_sld (pc := 1218) hC hX hbl hbA (by omega) hL dL_law_1218 ?_
  refine w_callV (pc := 1219) (As := [.int (J (sc xs (6 * (k : Int) + 1)))]) (rest := []) hC dL_law_1219 cv_L_132 (pr_really (kl K) G hW (sc xs (6 * (k : Int) + 1)) (sc_in _ _)) (by decide) (by omega) (q0 := q0) h0 rfl rfl rfl (Nat.le_of_ble_eq_true rfl) rfl (fun vo wo hv => ?_)
  obtain ⟨z, hv1, ⟨q1, f1, h1⟩, hM⟩ := hv
  rw [hv1]
  show WW K G _ _ wo 1222 [(3, .int (J (6 * (k : Int)))), (2, .ref om), (1, .ref ox), (0, .ref b)] [.int (J (z))]
  refine w_aload_n (pc := 1222) hC dL_law_1222 1 rfl rfl ?_
  refine w_aload_n (pc := 1223) hC dL_law_1223 3 rfl rfl ?_
  refine w_iload_n (pc := 1224) hC dL_law_1224 0 rfl rfl ?_
  refine w_iconst (pc := 1225) hC dL_law_1225 ?_
  refine w_iadd (pc := 1226) hC dL_law_1226 ?_
  refine w_sld (pc := 1227) hC hX hbl hbA (by omega) hL dL_law_1227 ?_
  refine w_callV (pc := 1228) (As := [.int (J (sc xs (6 * (k : Int) + 1)))]) (rest := [.int (J (z))]) hC dL_law_1228 cv_L_135 hM (by decide) (by omega) (q0 := q1) h1 rfl rfl rfl (Nat.le_of_ble_eq_true rfl) rfl (fun v2 w2 hv => ?_)
  obtain ⟨hv2, hW2⟩ := hv
  rw [hv2]
  show WW K G _ _ w2 1231 [(3, .int (J (6 * (k : Int)))), (2, .ref om), (1, .ref ox), (0, .ref b)] [.int (J (z)), .int (J (z))]
  refine w_same (pc := 1231) (tgt := 1450) hC dL_law_1231 (by decide) ?_
  exact w_up (by omega) (by omega) (next w2 hW2)
set_option maxRecDepth 100000 in
set_option maxHeartbeats 4000000 in
theorem lc_order {K : KT} {G : GT} (hC : KOK K G code RL 2000 600000 7302250) {b L : Nat} {xs : Nat → Int32} (hX : va_X b L xs (ks K) (ks K).heap) (hbl : b < (ks K).heap.size) (hbA : ¬ kA K b) (hL : L ≤ 384) {ox om k : Nat} (hk : 6 * (k : Int) + 6 ≤ (L : Int)) {w0 : va_W} (hW : CRel G.2.1 ox om w0) (next : ∀ w2 : va_W, CRel G.2.1 ox om w2 → WW K G (100 + 6 * (k + 1)) (4000 + 126 * (k + 1)) w2 1450 [(3, .int (J (6 * (k : Int)))), (2, .ref om), (1, .ref ox), (0, .ref b)] []) : WW K G (100 + 6 * k) (4000 + 126 * k) w0 1236 [(3, .int (J (6 * (k : Int)))), (2, .ref om), (1, .ref ox), (0, .ref b)] [] := by
  obtain ⟨q0, f0, h0⟩ := hW.hx
  refine w_aload_n (pc := 1236) hC dL_law_1236 2 rfl rfl ?_
  refine w_aload_n (pc := 1237) hC dL_law_1237 3 rfl rfl ?_
  refine w_iload_n (pc := 1238) hC dL_law_1238 0 rfl rfl ?_
  refine w_iconst (pc := 1239) hC dL_law_1239 ?_
  refine w_iadd (pc := 1240) hC dL_law_1240 ?_
  refine w_sld (pc := 1241) hC hX hbl hbA (by omega) hL dL_law_1241 ?_
  refine w_callV (pc := 1242) (As := [.int (J (sc xs (6 * (k : Int) + 1)))]) (rest := []) hC dL_law_1242 cv_L_136 (pr_order (kl K) G hW (sc xs (6 * (k : Int) + 1)) (sc_in _ _)) (by decide) (by omega) (q0 := q0) h0 rfl rfl rfl (Nat.le_of_ble_eq_true rfl) rfl (fun vo wo hv => ?_)
  obtain ⟨z, hv1, ⟨q1, f1, h1⟩, hM⟩ := hv
  rw [hv1]
  show WW K G _ _ wo 1245 [(3, .int (J (6 * (k : Int)))), (2, .ref om), (1, .ref ox), (0, .ref b)] [.int (J (z))]
  refine w_aload_n (pc := 1245) hC dL_law_1245 1 rfl rfl ?_
  refine w_aload_n (pc := 1246) hC dL_law_1246 3 rfl rfl ?_
  refine w_iload_n (pc := 1247) hC dL_law_1247 0 rfl rfl ?_
  refine w_iconst (pc := 1248) hC dL_law_1248 ?_
  refine w_iadd (pc := 1249) hC dL_law_1249 ?_
  refine w_sld (pc := 1250) hC hX hbl hbA (by omega) hL dL_law_1250 ?_
  refine w_callV (pc := 1251) (As := [.int (J (sc xs (6 * (k : Int) + 1)))]) (rest := [.int (J (z))]) hC dL_law_1251 cv_L_139 hM (by decide) (by omega) (q0 := q1) h1 rfl rfl rfl (Nat.le_of_ble_eq_true rfl) rfl (fun v2 w2 hv => ?_)
  obtain ⟨hv2, hW2⟩ := hv
  rw [hv2]
  show WW K G _ _ w2 1254 [(3, .int (J (6 * (k : Int)))), (2, .ref om), (1, .ref ox), (0, .ref b)] [.int (J (z)), .int (J (z))]
  refine w_same (pc := 1254) (tgt := 1450) hC dL_law_1254 (by decide) ?_
  exact w_up (by omega) (by omega) (next w2 hW2)
set_option maxRecDepth 100000 in
set_option maxHeartbeats 4000000 in
theorem lc_run {K : KT} {G : GT} (hC : KOK K G code RL 2000 600000 7302250) {b L : Nat} {xs : Nat → Int32} (hX : va_X b L xs (ks K) (ks K).heap) (hbl : b < (ks K).heap.size) (hbA : ¬ kA K b) (hL : L ≤ 384) {ox om k : Nat} (hk : 6 * (k : Int) + 6 ≤ (L : Int)) {w0 : va_W} (hW : CRel G.2.1 ox om w0) (next : ∀ w2 : va_W, CRel G.2.1 ox om w2 → WW K G (100 + 6 * (k + 1)) (4000 + 126 * (k + 1)) w2 1450 [(3, .int (J (6 * (k : Int)))), (2, .ref om), (1, .ref ox), (0, .ref b)] []) : WW K G (100 + 6 * k) (4000 + 126 * k) w0 1259 [(3, .int (J (6 * (k : Int)))), (2, .ref om), (1, .ref ox), (0, .ref b)] [] := by
  obtain ⟨q0, f0, h0⟩ := hW.hx
  refine w_aload_n (pc := 1259) hC dL_law_1259 2 rfl rfl ?_
  refine w_aload_n (pc := 1260) hC dL_law_1260 3 rfl rfl ?_
  refine w_iload_n (pc := 1261) hC dL_law_1261 0 rfl rfl ?_
  refine w_iconst (pc := 1262) hC dL_law_1262 ?_
  refine w_iadd (pc := 1263) hC dL_law_1263 ?_
  refine w_sld (pc := 1264) hC hX hbl hbA (by omega) hL dL_law_1264 ?_
  refine w_aload_n (pc := 1265) hC dL_law_1265 3 rfl rfl ?_
  refine w_iload_n (pc := 1266) hC dL_law_1266 0 rfl rfl ?_
  refine w_iconst (pc := 1267) hC dL_law_1267 ?_
  refine w_iadd (pc := 1268) hC dL_law_1268 ?_
  refine w_sld (pc := 1269) hC hX hbl hbA (by omega) hL dL_law_1269 ?_
  refine w_aload_n (pc := 1270) hC dL_law_1270 3 rfl rfl ?_
  refine w_iload_n (pc := 1271) hC dL_law_1271 0 rfl rfl ?_
  refine w_iconst (pc := 1272) hC dL_law_1272 ?_
  refine w_iadd (pc := 1273) hC dL_law_1273 ?_
  refine w_sld (pc := 1274) hC hX hbl hbA (by omega) hL dL_law_1274 ?_
  refine w_callV (pc := 1275) (As := [.int (J (sc xs (6 * (k : Int) + 1))), .int (J (sc xs (6 * (k : Int) + 2))), .int (J (sc xs (6 * (k : Int) + 3)))]) (rest := []) hC dL_law_1275 cv_L_140 (pr_run (kl K) G hW (sc xs (6 * (k : Int) + 1)) (sc xs (6 * (k : Int) + 2)) (sc xs (6 * (k : Int) + 3)) (sc_in _ _) (sc_in _ _) (sc_in _ _)) (by decide) (by omega) (q0 := q0) h0 rfl rfl rfl (Nat.le_of_ble_eq_true rfl) rfl (fun vo wo hv => ?_)
  obtain ⟨z, hv1, ⟨q1, f1, h1⟩, hM⟩ := hv
  rw [hv1]
  show WW K G _ _ wo 1278 [(3, .int (J (6 * (k : Int)))), (2, .ref om), (1, .ref ox), (0, .ref b)] [.int (J (z))]
  refine w_aload_n (pc := 1278) hC dL_law_1278 1 rfl rfl ?_
  refine w_aload_n (pc := 1279) hC dL_law_1279 3 rfl rfl ?_
  refine w_iload_n (pc := 1280) hC dL_law_1280 0 rfl rfl ?_
  refine w_iconst (pc := 1281) hC dL_law_1281 ?_
  refine w_iadd (pc := 1282) hC dL_law_1282 ?_
  refine w_sld (pc := 1283) hC hX hbl hbA (by omega) hL dL_law_1283 ?_
  refine w_aload_n (pc := 1284) hC dL_law_1284 3 rfl rfl ?_
  refine w_iload_n (pc := 1285) hC dL_law_1285 0 rfl rfl ?_
  refine w_iconst (pc := 1286) hC dL_law_1286 ?_
  refine w_iadd (pc := 1287) hC dL_law_1287 ?_
  refine w_sld (pc := 1288) hC hX hbl hbA (by omega) hL dL_law_1288 ?_
  refine w_aload_n (pc := 1289) hC dL_law_1289 3 rfl rfl ?_
  refine w_iload_n (pc := 1290) hC dL_law_1290 0 rfl rfl ?_
  refine w_iconst (pc := 1291) hC dL_law_1291 ?_
  refine w_iadd (pc := 1292) hC dL_law_1292 ?_
  refine w_sld (pc := 1293) hC hX hbl hbA (by omega) hL dL_law_1293 ?_
  refine w_callV (pc := 1294) (As := [.int (J (sc xs (6 * (k : Int) + 1))), .int (J (sc xs (6 * (k : Int) + 2))), .int (J (sc xs (6 * (k : Int) + 3)))]) (rest := [.int (J (z))]) hC dL_law_1294 cv_L_143 hM (by decide) (by omega) (q0 := q1) h1 rfl rfl rfl (Nat.le_of_ble_eq_true rfl) rfl (fun v2 w2 hv => ?_)
  obtain ⟨hv2, hW2⟩ := hv
  rw [hv2]
  show WW K G _ _ w2 1297 [(3, .int (J (6 * (k : Int)))), (2, .ref om), (1, .ref ox), (0, .ref b)] [.int (J (z)), .int (J (z))]
  refine w_same (pc := 1297) (tgt := 1450) hC dL_law_1297 (by decide) ?_
  exact w_up (by omega) (by omega) (next w2 hW2)
set_option maxRecDepth 100000 in
set_option maxHeartbeats 4000000 in
theorem lc_act {K : KT} {G : GT} (hC : KOK K G code RL 2000 600000 7302250) {b L : Nat} {xs : Nat → Int32} (hX : va_X b L xs (ks K) (ks K).heap) (hbl : b < (ks K).heap.size) (hbA : ¬ kA K b) (hL : L ≤ 384) {ox om k : Nat} (hk : 6 * (k : Int) + 6 ≤ (L : Int)) {w0 : va_W} (hW : CRel G.2.1 ox om w0) (next : ∀ w2 : va_W, CRel G.2.1 ox om w2 → WW K G (100 + 6 * (k + 1)) (4000 + 126 * (k + 1)) w2 1450 [(3, .int (J (6 * (k : Int)))), (2, .ref om), (1, .ref ox), (0, .ref b)] []) : WW K G (100 + 6 * k) (4000 + 126 * k) w0 1302 [(3, .int (J (6 * (k : Int)))), (2, .ref om), (1, .ref ox), (0, .ref b)] [] := by
  obtain ⟨q0, f0, h0⟩ := hW.hx
  refine w_aload_n (pc := 1302) hC dL_law_1302 2 rfl rfl ?_
  refine w_aload_n (pc := 1303) hC dL_law_1303 3 rfl rfl ?_
  refine w_iload_n (pc := 1304) hC dL_law_1304 0 rfl rfl ?_
  refine w_iconst (pc := 1305) hC dL_law_1305 ?_
  refine w_iadd (pc := 1306) hC dL_law_1306 ?_
  refine w_sld (pc := 1307) hC hX hbl hbA (by omega) hL dL_law_1307 ?_
  refine w_aload_n (pc := 1308) hC dL_law_1308 3 rfl rfl ?_
  refine w_iload_n (pc := 1309) hC dL_law_1309 0 rfl rfl ?_
  refine w_iconst (pc := 1310) hC dL_law_1310 ?_
  refine w_iadd (pc := 1311) hC dL_law_1311 ?_
  refine w_sld (pc := 1312) hC hX hbl hbA (by omega) hL dL_law_1312 ?_
  refine w_aload_n (pc := 1313) hC dL_law_1313 3 rfl rfl ?_
  refine w_iload_n (pc := 1314) hC dL_law_1314 0 rfl rfl ?_
  refine w_iconst (pc := 1315) hC dL_law_1315 ?_
  refine w_iadd (pc := 1316) hC dL_law_1316 ?_
  refine w_sld (pc := 1317) hC hX hbl hbA (by omega) hL dL_law_1317 ?_
  refine w_callV (pc := 1318) (As := [.int (J (sc xs (6 * (k : Int) + 1))), .int (J (sc xs (6 * (k : Int) + 2))), .int (J (sc xs (6 * (k : Int) + 3)))]) (rest := []) hC dL_law_1318 cv_L_144 (pr_act (kl K) G hW (sc xs (6 * (k : Int) + 1)) (sc xs (6 * (k : Int) + 2)) (sc xs (6 * (k : Int) + 3)) (sc_in _ _) (sc_in _ _) (sc_in _ _)) (by decide) (by omega) (q0 := q0) h0 rfl rfl rfl (Nat.le_of_ble_eq_true rfl) rfl (fun vo wo hv => ?_)
  obtain ⟨z, hv1, ⟨q1, f1, h1⟩, hM⟩ := hv
  rw [hv1]
  show WW K G _ _ wo 1321 [(3, .int (J (6 * (k : Int)))), (2, .ref om), (1, .ref ox), (0, .ref b)] [.int (J (z))]
  refine w_aload_n (pc := 1321) hC dL_law_1321 1 rfl rfl ?_
  refine w_aload_n (pc := 1322) hC dL_law_1322 3 rfl rfl ?_
  refine w_iload_n (pc := 1323) hC dL_law_1323 0 rfl rfl ?_
  refine w_iconst (pc := 1324) hC dL_law_1324 ?_
  refine w_iadd (pc := 1325) hC dL_law_1325 ?_
  refine w_sld (pc := 1326) hC hX hbl hbA (by omega) hL dL_law_1326 ?_
  refine w_aload_n (pc := 1327) hC dL_law_1327 3 rfl rfl ?_
  refine w_iload_n (pc := 1328) hC dL_law_1328 0 rfl rfl ?_
  refine w_iconst (pc := 1329) hC dL_law_1329 ?_
  refine w_iadd (pc := 1330) hC dL_law_1330 ?_
  refine w_sld (pc := 1331) hC hX hbl hbA (by omega) hL dL_law_1331 ?_
  refine w_aload_n (pc := 1332) hC dL_law_1332 3 rfl rfl ?_
  refine w_iload_n (pc := 1333) hC dL_law_1333 0 rfl rfl ?_
  refine w_iconst (pc := 1334) hC dL_law_1334 ?_
  refine w_iadd (pc := 1335) hC dL_law_1335 ?_
  refine w_sld (pc := 1336) hC hX hbl hbA (by omega) hL dL_law_1336 ?_
  refine w_callV (pc := 1337) (As := [.int (J (sc xs (6 * (k : Int) + 1))), .int (J (sc xs (6 * (k : Int) + 2))), .int (J (sc xs (6 * (k : Int) + 3)))]) (rest := [.int (J (z))]) hC dL_law_1337 cv_L_147 hM (by decide) (by omega) (q0 := q1) h1 rfl rfl rfl (Nat.le_of_ble_eq_true rfl) rfl (fun v2 w2 hv => ?_)
  obtain ⟨hv2, hW2⟩ := hv
  rw [hv2]
  show WW K G _ _ w2 1340 [(3, .int (J (6 * (k : Int)))), (2, .ref om), (1, .ref ox), (0, .ref b)] [.int (J (z)), .int (J (z))]
  refine w_same (pc := 1340) (tgt := 1450) hC dL_law_1340 (by decide) ?_
  exact w_up (by omega) (by omega) (next w2 hW2)
set_option maxRecDepth 100000 in
set_option maxHeartbeats 4000000 in
theorem lc_trace {K : KT} {G : GT} (hC : KOK K G code RL 2000 600000 7302250) {b L : Nat} {xs : Nat → Int32} (hX : va_X b L xs (ks K) (ks K).heap) (hbl : b < (ks K).heap.size) (hbA : ¬ kA K b) (hL : L ≤ 384) {ox om k : Nat} (hk : 6 * (k : Int) + 6 ≤ (L : Int)) {w0 : va_W} (hW : CRel G.2.1 ox om w0) (next : ∀ w2 : va_W, CRel G.2.1 ox om w2 → WW K G (100 + 6 * (k + 1)) (4000 + 126 * (k + 1)) w2 1450 [(3, .int (J (6 * (k : Int)))), (2, .ref om), (1, .ref ox), (0, .ref b)] []) : WW K G (100 + 6 * k) (4000 + 126 * k) w0 1345 [(3, .int (J (6 * (k : Int)))), (2, .ref om), (1, .ref ox), (0, .ref b)] [] := by
  obtain ⟨q0, f0, h0⟩ := hW.hx
  refine w_aload_n (pc := 1345) hC dL_law_1345 2 rfl rfl ?_
  refine w_aload_n (pc := 1346) hC dL_law_1346 3 rfl rfl ?_
  refine w_iload_n (pc := 1347) hC dL_law_1347 0 rfl rfl ?_
  refine w_iconst (pc := 1348) hC dL_law_1348 ?_
  refine w_iadd (pc := 1349) hC dL_law_1349 ?_
  refine w_sld (pc := 1350) hC hX hbl hbA (by omega) hL dL_law_1350 ?_
  refine w_callV (pc := 1351) (As := [.int (J (sc xs (6 * (k : Int) + 1)))]) (rest := []) hC dL_law_1351 cv_L_148 (pr_trace (kl K) G hW (sc xs (6 * (k : Int) + 1)) (sc_in _ _)) (by decide) (by omega) (q0 := q0) h0 rfl rfl rfl (Nat.le_of_ble_eq_true rfl) rfl (fun vo wo hv => ?_)
  obtain ⟨z, hv1, ⟨q1, f1, h1⟩, hM⟩ := hv
  rw [hv1]
  show WW K G _ _ wo 1354 [(3, .int (J (6 * (k : Int)))), (2, .ref om), (1, .ref ox), (0, .ref b)] [.int (J (z))]
  refine w_aload_n (pc := 1354) hC dL_law_1354 1 rfl rfl ?_
  refine w_aload_n (pc := 1355) hC dL_law_1355 3 rfl rfl ?_
  refine w_iload_n (pc := 1356) hC dL_law_1356 0 rfl rfl ?_
  refine w_iconst (pc := 1357) hC dL_law_1357 ?_
  refine w_iadd (pc := 1358) hC dL_law_1358 ?_
  refine w_sld (pc := 1359) hC hX hbl hbA (by omega) hL dL_law_1359 ?_
  refine w_callV (pc := 1360) (As := [.int (J (sc xs (6 * (k : Int) + 1)))]) (rest := [.int (J (z))]) hC dL_law_1360 cv_L_151 hM (by decide) (by omega) (q0 := q1) h1 rfl rfl rfl (Nat.le_of_ble_eq_true rfl) rfl (fun v2 w2 hv => ?_)
  obtain ⟨hv2, hW2⟩ := hv
  rw [hv2]
  show WW K G _ _ w2 1363 [(3, .int (J (6 * (k : Int)))), (2, .ref om), (1, .ref ox), (0, .ref b)] [.int (J (z)), .int (J (z))]
  refine w_same (pc := 1363) (tgt := 1450) hC dL_law_1363 (by decide) ?_
  exact w_up (by omega) (by omega) (next w2 hW2)
set_option maxRecDepth 100000 in
set_option maxHeartbeats 4000000 in
theorem lc_as {K : KT} {G : GT} (hC : KOK K G code RL 2000 600000 7302250) {b L : Nat} {xs : Nat → Int32} (hX : va_X b L xs (ks K) (ks K).heap) (hbl : b < (ks K).heap.size) (hbA : ¬ kA K b) (hL : L ≤ 384) {ox om k : Nat} (hk : 6 * (k : Int) + 6 ≤ (L : Int)) {w0 : va_W} (hW : CRel G.2.1 ox om w0) (next : ∀ w2 : va_W, CRel G.2.1 ox om w2 → WW K G (100 + 6 * (k + 1)) (4000 + 126 * (k + 1)) w2 1450 [(3, .int (J (6 * (k : Int)))), (2, .ref om), (1, .ref ox), (0, .ref b)] []) : WW K G (100 + 6 * k) (4000 + 126 * k) w0 1368 [(3, .int (J (6 * (k : Int)))), (2, .ref om), (1, .ref ox), (0, .ref b)] [] := by
  obtain ⟨q0, f0, h0⟩ := hW.hx
  refine w_aload_n (pc := 1368) hC dL_law_1368 2 rfl rfl ?_
  refine w_aload_n (pc := 1369) hC dL_law_1369 3 rfl rfl ?_
  refine w_iload_n (pc := 1370) hC dL_law_1370 0 rfl rfl ?_
  refine w_iconst (pc := 1371) hC dL_law_1371 ?_
  refine w_iadd (pc := 1372) hC dL_law_1372 ?_
  refine w_sld (pc := 1373) hC hX hbl hbA (by omega) hL dL_law_1373 ?_
  refine w_aload_n (pc := 1374) hC dL_law_1374 3 rfl rfl ?_
  refine w_iload_n (pc := 1375) hC dL_law_1375 0 rfl rfl ?_
  refine w_iconst (pc := 1376) hC dL_law_1376 ?_
  refine w_iadd (pc := 1377) hC dL_law_1377 ?_
  refine w_sld (pc := 1378) hC hX hbl hbA (by omega) hL dL_law_1378 ?_
  refine w_callV (pc := 1379) (As := [.int (J (sc xs (6 * (k : Int) + 1))), .int (J (sc xs (6 * (k : Int) + 2)))]) (rest := []) hC dL_law_1379 cv_L_152 (pr_as (kl K) G hW (sc xs (6 * (k : Int) + 1)) (sc xs (6 * (k : Int) + 2)) (sc_in _ _) (sc_in _ _)) (by decide) (by omega) (q0 := q0) h0 rfl rfl rfl (Nat.le_of_ble_eq_true rfl) rfl (fun vo wo hv => ?_)
  obtain ⟨z, hv1, ⟨q1, f1, h1⟩, hM⟩ := hv
  rw [hv1]
  show WW K G _ _ wo 1382 [(3, .int (J (6 * (k : Int)))), (2, .ref om), (1, .ref ox), (0, .ref b)] [.int (J (z))]
  refine w_aload_n (pc := 1382) hC dL_law_1382 1 rfl rfl ?_
  refine w_aload_n (pc := 1383) hC dL_law_1383 3 rfl rfl ?_
  refine w_iload_n (pc := 1384) hC dL_law_1384 0 rfl rfl ?_
  refine w_iconst (pc := 1385) hC dL_law_1385 ?_
  refine w_iadd (pc := 1386) hC dL_law_1386 ?_
  refine w_sld (pc := 1387) hC hX hbl hbA (by omega) hL dL_law_1387 ?_
  refine w_aload_n (pc := 1388) hC dL_law_1388 3 rfl rfl ?_
  refine w_iload_n (pc := 1389) hC dL_law_1389 0 rfl rfl ?_
  refine w_iconst (pc := 1390) hC dL_law_1390 ?_
  refine w_iadd (pc := 1391) hC dL_law_1391 ?_
  refine w_sld (pc := 1392) hC hX hbl hbA (by omega) hL dL_law_1392 ?_
  refine w_callV (pc := 1393) (As := [.int (J (sc xs (6 * (k : Int) + 1))), .int (J (sc xs (6 * (k : Int) + 2)))]) (rest := [.int (J (z))]) hC dL_law_1393 cv_L_155 hM (by decide) (by omega) (q0 := q1) h1 rfl rfl rfl (Nat.le_of_ble_eq_true rfl) rfl (fun v2 w2 hv => ?_)
  obtain ⟨hv2, hW2⟩ := hv
  rw [hv2]
  show WW K G _ _ w2 1396 [(3, .int (J (6 * (k : Int)))), (2, .ref om), (1, .ref ox), (0, .ref b)] [.int (J (z)), .int (J (z))]
  refine w_same (pc := 1396) (tgt := 1450) hC dL_law_1396 (by decide) ?_
  exact w_up (by omega) (by omega) (next w2 hW2)
set_option maxRecDepth 100000 in
set_option maxHeartbeats 4000000 in
theorem lc_image {K : KT} {G : GT} (hC : KOK K G code RL 2000 600000 7302250) {b L : Nat} {xs : Nat → Int32} (hX : va_X b L xs (ks K) (ks K).heap) (hbl : b < (ks K).heap.size) (hbA : ¬ kA K b) (hL : L ≤ 384) {ox om k : Nat} (hk : 6 * (k : Int) + 6 ≤ (L : Int)) {w0 : va_W} (hW : CRel G.2.1 ox om w0) (next : ∀ w2 : va_W, CRel G.2.1 ox om w2 → WW K G (100 + 6 * (k + 1)) (4000 + 126 * (k + 1)) w2 1450 [(3, .int (J (6 * (k : Int)))), (2, .ref om), (1, .ref ox), (0, .ref b)] []) : WW K G (100 + 6 * k) (4000 + 126 * k) w0 1401 [(3, .int (J (6 * (k : Int)))), (2, .ref om), (1, .ref ox), (0, .ref b)] [] := by
  obtain ⟨q0, f0, h0⟩ := hW.hx
  refine w_aload_n (pc := 1401) hC dL_law_1401 2 rfl rfl ?_
  refine w_callV (pc := 1402) (As := []) (rest := []) hC dL_law_1402 cv_L_156 (pr_image (kl K) G hW ) (by decide) (by omega) (q0 := q0) h0 rfl rfl rfl (Nat.le_of_ble_eq_true rfl) rfl (fun vo wo hv => ?_)
  obtain ⟨z, hv1, ⟨q1, f1, h1⟩, hM⟩ := hv
  rw [hv1]
  show WW K G _ _ wo 1405 [(3, .int (J (6 * (k : Int)))), (2, .ref om), (1, .ref ox), (0, .ref b)] [.int (J (z))]
  refine w_aload_n (pc := 1405) hC dL_law_1405 1 rfl rfl ?_
  refine w_callV (pc := 1406) (As := []) (rest := [.int (J (z))]) hC dL_law_1406 cv_L_159 hM (by decide) (by omega) (q0 := q1) h1 rfl rfl rfl (Nat.le_of_ble_eq_true rfl) rfl (fun v2 w2 hv => ?_)
  obtain ⟨hv2, hW2⟩ := hv
  rw [hv2]
  show WW K G _ _ w2 1409 [(3, .int (J (6 * (k : Int)))), (2, .ref om), (1, .ref ox), (0, .ref b)] [.int (J (z)), .int (J (z))]
  refine w_same (pc := 1409) (tgt := 1450) hC dL_law_1409 (by decide) ?_
  exact w_up (by omega) (by omega) (next w2 hW2)
set_option maxRecDepth 100000 in
set_option maxHeartbeats 4000000 in
theorem lc_undo {K : KT} {G : GT} (hC : KOK K G code RL 2000 600000 7302250) {b L : Nat} {xs : Nat → Int32} (hX : va_X b L xs (ks K) (ks K).heap) (hbl : b < (ks K).heap.size) (hbA : ¬ kA K b) (hL : L ≤ 384) {ox om k : Nat} (hk : 6 * (k : Int) + 6 ≤ (L : Int)) {w0 : va_W} (hW : CRel G.2.1 ox om w0) (next : ∀ w2 : va_W, CRel G.2.1 ox om w2 → WW K G (100 + 6 * (k + 1)) (4000 + 126 * (k + 1)) w2 1450 [(3, .int (J (6 * (k : Int)))), (2, .ref om), (1, .ref ox), (0, .ref b)] []) : WW K G (100 + 6 * k) (4000 + 126 * k) w0 1414 [(3, .int (J (6 * (k : Int)))), (2, .ref om), (1, .ref ox), (0, .ref b)] [] := by
  obtain ⟨q0, f0, h0⟩ := hW.hx
  refine w_aload_n (pc := 1414) hC dL_law_1414 2 rfl rfl ?_
  refine w_callV (pc := 1415) (As := []) (rest := []) hC dL_law_1415 cv_L_160 (pr_undo (kl K) G hW ) (by decide) (by omega) (q0 := q0) h0 rfl rfl rfl (Nat.le_of_ble_eq_true rfl) rfl (fun vo wo hv => ?_)
  obtain ⟨z, hv1, ⟨q1, f1, h1⟩, hM⟩ := hv
  rw [hv1]
  show WW K G _ _ wo 1418 [(3, .int (J (6 * (k : Int)))), (2, .ref om), (1, .ref ox), (0, .ref b)] [.int (J (z))]
  refine w_aload_n (pc := 1418) hC dL_law_1418 1 rfl rfl ?_
  refine w_callV (pc := 1419) (As := []) (rest := [.int (J (z))]) hC dL_law_1419 cv_L_163 hM (by decide) (by omega) (q0 := q1) h1 rfl rfl rfl (Nat.le_of_ble_eq_true rfl) rfl (fun v2 w2 hv => ?_)
  obtain ⟨hv2, hW2⟩ := hv
  rw [hv2]
  show WW K G _ _ w2 1422 [(3, .int (J (6 * (k : Int)))), (2, .ref om), (1, .ref ox), (0, .ref b)] [.int (J (z)), .int (J (z))]
  refine w_same (pc := 1422) (tgt := 1450) hC dL_law_1422 (by decide) ?_
  exact w_up (by omega) (by omega) (next w2 hW2)
set_option maxRecDepth 100000 in
set_option maxHeartbeats 4000000 in
theorem lc_count {K : KT} {G : GT} (hC : KOK K G code RL 2000 600000 7302250) {b L : Nat} {xs : Nat → Int32} (hX : va_X b L xs (ks K) (ks K).heap) (hbl : b < (ks K).heap.size) (hbA : ¬ kA K b) (hL : L ≤ 384) {ox om k : Nat} (hk : 6 * (k : Int) + 6 ≤ (L : Int)) {w0 : va_W} (hW : CRel G.2.1 ox om w0) (next : ∀ w2 : va_W, CRel G.2.1 ox om w2 → WW K G (100 + 6 * (k + 1)) (4000 + 126 * (k + 1)) w2 1450 [(3, .int (J (6 * (k : Int)))), (2, .ref om), (1, .ref ox), (0, .ref b)] []) : WW K G (100 + 6 * k) (4000 + 126 * k) w0 1427 [(3, .int (J (6 * (k : Int)))), (2, .ref om), (1, .ref ox), (0, .ref b)] [] := by
  obtain ⟨q0, f0, h0⟩ := hW.hx
  refine w_aload_n (pc := 1427) hC dL_law_1427 2 rfl rfl ?_
  refine w_aload_n (pc := 1428) hC dL_law_1428 3 rfl rfl ?_
  refine w_iload_n (pc := 1429) hC dL_law_1429 0 rfl rfl ?_
  refine w_iconst (pc := 1430) hC dL_law_1430 ?_
  refine w_iadd (pc := 1431) hC dL_law_1431 ?_
  refine w_sld (pc := 1432) hC hX hbl hbA (by omega) hL dL_law_1432 ?_
  refine w_callV (pc := 1433) (As := [.int (J (sc xs (6 * (k : Int) + 1)))]) (rest := []) hC dL_law_1433 cv_L_164 (pr_count (kl K) G hW (sc xs (6 * (k : Int) + 1)) (sc_in _ _)) (by decide) (by omega) (q0 := q0) h0 rfl rfl rfl (Nat.le_of_ble_eq_true rfl) rfl (fun vo wo hv => ?_)
  obtain ⟨z, hv1, ⟨q1, f1, h1⟩, hM⟩ := hv
  rw [hv1]
  show WW K G _ _ wo 1436 [(3, .int (J (6 * (k : Int)))), (2, .ref om), (1, .ref ox), (0, .ref b)] [.int (J (z))]
  refine w_aload_n (pc := 1436) hC dL_law_1436 1 rfl rfl ?_
  refine w_aload_n (pc := 1437) hC dL_law_1437 3 rfl rfl ?_
  refine w_iload_n (pc := 1438) hC dL_law_1438 0 rfl rfl ?_
  refine w_iconst (pc := 1439) hC dL_law_1439 ?_
  refine w_iadd (pc := 1440) hC dL_law_1440 ?_
  refine w_sld (pc := 1441) hC hX hbl hbA (by omega) hL dL_law_1441 ?_
  refine w_callV (pc := 1442) (As := [.int (J (sc xs (6 * (k : Int) + 1)))]) (rest := [.int (J (z))]) hC dL_law_1442 cv_L_167 hM (by decide) (by omega) (q0 := q1) h1 rfl rfl rfl (Nat.le_of_ble_eq_true rfl) rfl (fun v2 w2 hv => ?_)
  obtain ⟨hv2, hW2⟩ := hv
  rw [hv2]
  show WW K G _ _ w2 1445 [(3, .int (J (6 * (k : Int)))), (2, .ref om), (1, .ref ox), (0, .ref b)] [.int (J (z)), .int (J (z))]
  refine w_same (pc := 1445) (tgt := 1450) hC dL_law_1445 (by decide) ?_
  exact w_up (by omega) (by omega) (next w2 hW2)
