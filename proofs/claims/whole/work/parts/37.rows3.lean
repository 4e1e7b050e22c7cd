/-! ===== rows of references ===== -/
section REFR
variable {K : KT} {G : GT} {cc : ByteArray} {own : String} {d mc ms cs ss pc : Nat} {w : va_W} {lv : List (Nat × Value)} {st : List Value}
theorem w_aald (hC : KOK K G cc own d mc ms) {a n t0 : Nat} {f : Nat → Option Nat} {cA : ClassId} {ty : FieldType} {e : Int} (hd : decode cc pc = .ok (.aaload, 1)) (q0 : Nat) (he : w[q0]? = some (a, .inl (cA, n, .inr (.inr (.inr (.inr f)))))) (ht : (TY G.2.1)[t0]? = some (cA, ty)) (hty : ty.isReference = true) (hr : 0 ≤ e ∧ e < (n : Int)) (hn : n ≤ 2000000) (k : WW K G cs ss w (pc + 1) lv (va_rf (f e.toNat) :: st)) : WW K G cs ss w pc lv (.int (J e) :: .ref a :: st) := fun H locs ls hP hD hS hl => by
  have hin := J_vp hr.1 hr.2 hn
  have hcl := J_clamp hr.1 (show e < 2147483648 by omega)
  have hlt : (J e).toNatClampNeg < n := Nat.not_le.mp fun q => hin (Or.inr q)
  refine W.aald (v := va_rf (f e.toNat)) (ty := ty) hC.1 hC.2.1 (hP q0 _ he) ((hC.2.2.2.2.2.1.2 t0 _ ht).1 n (fun j => va_rf (f j))) hty (fun q => by cases q) (by show ¬ (J e < 0 ∨ (arrV _ _ _).slots.size ≤ _); rw [arrV_size]; exact hin) ?_ rfl rfl hd (k H locs ls hP hD hS hl)
  show (arrV _ _ _).slots[_]? = _
  rw [arrV_read _ _ hlt, hcl]
theorem w_ifnullR (hC : KOK K G cc own d mc ms) {x : Nat} {off : Int} (hd : decode cc pc = .ok (.ifnull off, 3)) (k : WW K G cs ss w (pc + 3) lv st) : WW K G cs ss w pc lv (.ref x :: st) := fun H locs ls hP hD hS hl => lv_ifnull hC.1 hC.2.1 hd (k H locs ls hP hD hS hl)
theorem w_ifnullN (hC : KOK K G cc own d mc ms) {off : Int} {tgt : Nat} (hd : decode cc pc = .ok (.ifnull off, 3)) (ht : (pc : Int) + off = (tgt : Int)) (k : WW K G cs ss w tgt lv st) : WW K G cs ss w pc lv (.null :: st) := fun H locs ls hP hD hS hl => lv_ifnullN hC.1 hC.2.1 hd ht (k H locs ls hP hD hS hl)
theorem w_ifnonnullR (hC : KOK K G cc own d mc ms) {x : Nat} {off : Int} {tgt : Nat} (hd : decode cc pc = .ok (.ifnonnull off, 3)) (ht : (pc : Int) + off = (tgt : Int)) (k : WW K G cs ss w tgt lv st) : WW K G cs ss w pc lv (.ref x :: st) := fun H locs ls hP hD hS hl => lv_ifnonnull hC.1 hC.2.1 hd ht (k H locs ls hP hD hS hl)
theorem w_ifnonnullN (hC : KOK K G cc own d mc ms) {off : Int} (hd : decode cc pc = .ok (.ifnonnull off, 3)) (k : WW K G cs ss w (pc + 3) lv st) : WW K G cs ss w pc lv (.null :: st) := fun H locs ls hP hD hS hl => lv_ifnonnullN hC.1 hC.2.1 hd (k H locs ls hP hD hS hl)
theorem w_aret {w0 : va_W} {post : Option Value → va_W → Prop} {o : Option Nat} {rt : FieldType} (hC : KOK K G cc own d mc ms) (hT : RT K G (some rt) w0 cs ss post) (hd : decode cc pc = .ok (.areturn, 1)) (hrt : (∃ n, rt = .object n) ∨ ∃ t, rt = .array t) (hp : post (some (va_rf o)) w) : WW K G cs ss w pc lv [va_rf o] := fun H locs ls hP hD hS hl => by
  rw [hT.2.2]
  refine W.aret (v := va_rf o) hC.1 hC.2.1 hT.1 hrt ?_ (fun t ht hW => ⟨⟨(some (va_rf o)), w, rfl, hp, by rw [ht]; exact hP, va_K.moved hW.alike hC.2.2.2.2.2.1, hT.2.1 ▸ hD⟩, hT.2.1 ▸ hS.F ht⟩) hS.2.2 hd hC.2.2.2.2.2.2.1
  cases o with
  | none => exact Or.inl rfl
  | some x => exact Or.inr ⟨x, rfl⟩
/-- an object of just the elements' class goes into an array -/
theorem w_aastE (hC : KOK K G cc own d mc ms) {a n t0 qk ci v : Nat} {r : vw_C} {vs : List Value} {f : Nat → Option Nat} {cA : ClassId} {e : Int} {w2 : va_W} (hd : decode cc pc = .ok (.aastore, 1)) (q0 : Nat) (he : w[q0]? = some (a, .inl (cA, n, .inr (.inr (.inr (.inr f)))))) (ht : (TY G.2.1)[t0]? = some (cA, .object r.1)) (hv : w[qk]? = some (v, .inr (ci, vs))) (hc : vwCl[ci]? = some r) (hr : 0 ≤ e ∧ e < (n : Int)) (hn : n ≤ 2000000) (hw : w.set q0 (a, .inl (cA, n, .inr (.inr (.inr (.inr (va_up f e.toNat (some v))))))) = w2) (k : WW K G cs ss w2 (pc + 1) lv st) : WW K G cs ss w pc lv (.ref v :: .int (J e) :: .ref a :: st) := fun H locs ls hP hD hS hl => by
  have hcl := J_clamp hr.1 (show e < 2147483648 by omega)
  refine va_astq hC.1 hC.2.1 hC.2.2.2.2.2.1 hP hD hS q0 t0 qk ci he ht hv hc (J_vp hr.1 hr.2 hn) hd (fun H1 locs1 hP1 hD1 hS1 => ?_)
  rw [hcl] at hP1 hD1
  exact k H1 locs1 ls (by rw [← hw]; exact hP1) (by rw [← hw]; exact hD1) hS1 hl
end REFR
