/-! ===== a contract beside other cells ===== -/
theorem va_P_mem {D : va_G} {cl : List vw_C} {ws : va_W} {H : Heap} : va_P D cl ws H ↔ ∀ q ∈ ws, va_at D cl q H := by
  constructor
  · intro h q hq
    obtain ⟨k, hk⟩ := List.getElem?_of_mem hq
    exact h k q hk
  · intro h k q hk
    exact h q (List.mem_of_getElem? hk)
theorem va_D_mem {A : Nat → Prop} {ws : va_W} : va_D A ws ↔ (ws.map Prod.fst).Nodup ∧ ∀ q ∈ ws, A q.1 := by
  constructor
  · intro h
    refine ⟨?_, fun q hq => ?_⟩
    · refine List.pairwise_iff_getElem.mpr fun i j hi hj hij e => ?_
      rw [List.length_map] at hi hj
      rw [List.getElem_map, List.getElem_map] at e
      exact Nat.ne_of_lt hij (h.1 i j _ _ (List.getElem?_eq_getElem hi) (List.getElem?_eq_getElem hj) e)
    · obtain ⟨k, hk⟩ := List.getElem?_of_mem hq
      exact h.2 k q hk
  · intro h
    refine ⟨fun i j p q hi hj e => ?_, fun k q hk => h.2 q (List.mem_of_getElem? hk)⟩
    have hn := List.pairwise_iff_getElem.mp h.1
    obtain ⟨li, ei⟩ := List.getElem?_eq_some_iff.mp hi
    obtain ⟨lj, ej⟩ := List.getElem?_eq_some_iff.mp hj
    rcases Nat.lt_trichotomy i j with c | c | c
    · exact absurd (by rw [List.getElem_map, List.getElem_map, ei, ej]; exact e) (hn i j (by rw [List.length_map]; exact li) (by rw [List.length_map]; exact lj) c)
    · exact c
    · exact absurd (by rw [List.getElem_map, List.getElem_map, ei, ej]; exact e.symm) (hn j i (by rw [List.length_map]; exact lj) (by rw [List.length_map]; exact li) c)
theorem va_A_mem {ws : va_W} {sz q : Nat} : va_A ws sz q ↔ (∃ x ∈ ws, x.1 = q) ∨ sz ≤ q := by
  constructor
  · intro h
    rcases h with ⟨k, e, h⟩ | h
    · exact Or.inl ⟨(q, e), List.mem_of_getElem? h, rfl⟩
    · exact Or.inr h
  · intro h
    rcases h with ⟨x, hx, e⟩ | h
    · obtain ⟨k, hk⟩ := List.getElem?_of_mem hx
      exact Or.inl ⟨k, x.2, by rw [hk, ← e]⟩
    · exact Or.inr h
theorem EV.narrow {G : GT} {A B : Nat → Prop} {U : State} {H : Heap} (h : EV G A U H) (hB : ∀ q, B q → A q) : EV G B U H := ⟨h.1, h.2.1.narrow hB, h.2.2.1, h.2.2.2.1.narrow hB, h.2.2.2.2.narrow hB⟩
theorem CT_fr {l : Launch} {y : MethodName} {cc : ByteArray} {nL : Nat} {ret : Option FieldType} {d mc ms : Nat} {G : GT} {av : List Value} {w1 : va_W} {post : Option Value → va_W → Prop} (w2 w3 : va_W) (h : CT l y cc nL ret d mc ms G av w1 post) : CT l y cc nL ret d mc ms G av (w2 ++ w1 ++ w3) (fun vo wo => ∃ w, post vo w ∧ wo = w2 ++ w ++ w3) := by
  intro sz
  have hin : ∀ q, va_A w1 sz q → va_A (w2 ++ w1 ++ w3) sz q := fun q hq => by
    rcases va_A_mem.mp hq with ⟨x, hx, e⟩ | hq
    · exact va_A_mem.mpr (Or.inl ⟨x, List.mem_append_left _ (List.mem_append_right _ hx), e⟩)
    · exact Or.inr hq
  refine Jvm.Free.MetFree.mono (h sz) (fun a U hp => ?_) (fun p e below s a hk => hk) (fun a U o t hp hq => ?_)
  · obtain ⟨ha, hsz, hP, hK, hD, hE⟩ := hp
    have hP2 := va_P_mem.mp hP
    have hD2 := va_D_mem.mp hD
    rw [List.map_append, List.map_append] at hD2
    exact ⟨ha, hsz, va_P_mem.mpr fun q hq => hP2 q (List.mem_append_left _ (List.mem_append_right _ hq)), hK, va_D_mem.mpr ⟨(List.nodup_append.mp (List.nodup_append.mp hD2.1).1).2.1, fun q _ => trivial⟩, hE.narrow hin⟩
  · obtain ⟨ha, hsz, hP, hK, hD, hE⟩ := hp
    obtain ⟨⟨⟨v, w, ho, hpost, hP1, hK1, hD1⟩, hF⟩, L, hL, hLf⟩ := hq
    have hP2 := va_P_mem.mp hP
    have hD2 := va_D_mem.mp hD
    have hP3 := va_P_mem.mp hP1
    have hD3 := va_D_mem.mp hD1
    rw [List.map_append, List.map_append] at hD2
    have nd := List.nodup_append.mp hD2.1
    have nd2 := List.nodup_append.mp nd.1
    have out2 : ∀ q ∈ w2, ¬ va_A w1 sz q.1 := fun q hq hA => by
      rcases va_A_mem.mp hA with ⟨x, hx, e⟩ | hz
      · exact nd2.2.2 q.1 (List.mem_map.mpr ⟨q, hq, rfl⟩) x.1 (List.mem_map.mpr ⟨x, hx, rfl⟩) e.symm
      · have := (hP2 q (List.mem_append_left _ (List.mem_append_left _ hq))).lt
        omega
    have out3 : ∀ q ∈ w3, ¬ va_A w1 sz q.1 := fun q hq hA => by
      rcases va_A_mem.mp hA with ⟨x, hx, e⟩ | hz
      · exact nd.2.2 x.1 (List.mem_append_right _ (List.mem_map.mpr ⟨x, hx, rfl⟩)) q.1 (List.mem_map.mpr ⟨q, hq, rfl⟩) e
      · have := (hP2 q (List.mem_append_right _ hq)).lt
        omega
    have kp : ∀ q, (q ∈ w2 ∨ q ∈ w3) → va_at G.1 vwCl q t.heap := fun q hq => by
      rcases hq with hq | hq
      · have hq2 := hP2 q (List.mem_append_left _ (List.mem_append_left _ hq))
        exact hq2.kept (hF.2 q.1 hq2.lt (out2 q hq))
      · have hq2 := hP2 q (List.mem_append_right _ hq)
        exact hq2.kept (hF.2 q.1 hq2.lt (out3 q hq))
    refine ⟨⟨⟨v, w2 ++ w ++ w3, ho, ⟨w, hpost, rfl⟩, va_P_mem.mpr fun q hq => ?_, hK1, va_D_mem.mpr ⟨?_, fun q hq => ?_⟩⟩, hF.1, fun q h1 h2 => hF.2 q h1 fun h3 => h2 (hin q h3)⟩, L, hL, fun q hq => hin _ (hLf q hq)⟩
    · rcases List.mem_append.mp hq with hq | hq
      · rcases List.mem_append.mp hq with hq | hq
        · exact kp q (Or.inl hq)
        · exact hP3 q hq
      · exact kp q (Or.inr hq)
    · rw [List.map_append, List.map_append]
      refine List.nodup_append.mpr ⟨List.nodup_append.mpr ⟨nd2.1, hD3.1, fun a ha b hb e => ?_⟩, nd.2.1, fun a ha b hb e => ?_⟩
      · obtain ⟨x, hx, ex⟩ := List.mem_map.mp ha
        obtain ⟨z, hz, ez⟩ := List.mem_map.mp hb
        exact out2 x hx (by rw [ex, e, ← ez]; exact hD3.2 z hz)
      · rcases List.mem_append.mp ha with ha | ha
        · exact nd.2.2 a (List.mem_append_left _ ha) b hb e
        · obtain ⟨x, hx, ex⟩ := List.mem_map.mp ha
          obtain ⟨z, hz, ez⟩ := List.mem_map.mp hb
          exact out3 z hz (by rw [ez, ← e, ← ex]; exact hD3.2 x hx)
    · rcases List.mem_append.mp hq with hq | hq
      · rcases List.mem_append.mp hq with hq2 | hq2
        · exact va_A_mem.mpr (Or.inl ⟨q, List.mem_append_left _ (List.mem_append_left _ hq2), rfl⟩)
        · exact hin _ (hD3.2 q hq2)
      · exact va_A_mem.mpr (Or.inl ⟨q, List.mem_append_right _ hq, rfl⟩)
theorem CT_frL {l : Launch} {y : MethodName} {cc : ByteArray} {nL : Nat} {ret : Option FieldType} {d mc ms : Nat} {G : GT} {av : List Value} {w1 : va_W} {post : Option Value → va_W → Prop} (w2 : va_W) (h : CT l y cc nL ret d mc ms G av w1 post) : CT l y cc nL ret d mc ms G av (w2 ++ w1) (fun vo wo => ∃ w, post vo w ∧ wo = w2 ++ w) := by
  have e := CT_fr w2 [] h
  simp only [List.append_nil] at e
  exact e
theorem CT_frR {l : Launch} {y : MethodName} {cc : ByteArray} {nL : Nat} {ret : Option FieldType} {d mc ms : Nat} {G : GT} {av : List Value} {w1 : va_W} {post : Option Value → va_W → Prop} (w3 : va_W) (h : CT l y cc nL ret d mc ms G av w1 post) : CT l y cc nL ret d mc ms G av (w1 ++ w3) (fun vo wo => ∃ w, post vo w ∧ wo = w ++ w3) := CT_fr [] w3 h
theorem CT_post {l : Launch} {y : MethodName} {cc : ByteArray} {nL : Nat} {ret : Option FieldType} {d mc ms : Nat} {G : GT} {av : List Value} {w1 : va_W} {post post2 : Option Value → va_W → Prop} (h : CT l y cc nL ret d mc ms G av w1 post) (hp : ∀ vo wo, post vo wo → post2 vo wo) : CT l y cc nL ret d mc ms G av w1 post2 := fun sz => Jvm.Free.MetFree.mono (h sz) (fun _ _ hp => hp) (fun _ _ _ _ _ hk => hk) (fun a U o t _ hq => by
  obtain ⟨⟨⟨v, w, ho, hpost, hr⟩, hF⟩, hL⟩ := hq
  exact ⟨⟨⟨v, w, ho, hp v w hpost, hr⟩, hF⟩, hL⟩)
/-- the cells in another order -/
theorem w_pick {K : KT} {G : GT} {cs ss pc : Nat} {w w2 : va_W} {lv : List (Nat × Value)} {st : List Value} (is : List Nat) (hn : va_nd is = true) (hs : is.map (fun i => w[i]?) = w2.map some) (k : WW K G cs ss w2 pc lv st) : WW K G cs ss w pc lv st := fun H locs ls hP hD hS hl => by
  refine k H locs ls (fun j q hj => ?_) (hD.sub is hn hs) hS hl
  have e : (is.map (fun i => w[i]?))[j]? = some (some q) := by rw [hs, List.getElem?_map, hj]; rfl
  rw [List.getElem?_map] at e
  obtain ⟨i, -, hi⟩ := Option.map_eq_some_iff.mp e
  exact hP i q hi
/-! ===== rows: anewarray, multianewarray of six rows of six ints ===== -/
section MROW
variable {K : KT} {G : GT} {cc : ByteArray} {own : String} {d mc ms cs ss pc : Nat} {w : va_W} {lv : List (Nat × Value)} {st : List Value}
theorem w_newA (hC : KOK K G cc own d mc ms) {index t0 : Nat} {n : Int} {C : String} {c0 : ClassId} (hd : decode cc pc = .ok (.anewarray index, 3)) (hl : Cond.classLink own index C ∈ wAll) (hq : C ∈ nAs) (ht : (TY G.2.1)[t0]? = some (c0, .object C)) (hn : 0 ≤ n ∧ n ≤ 2000000) (hcs : cs + 1 ≤ mc ∧ ss + n.toNat ≤ ms) (k : ∀ q : Nat, WW K G (cs + 1) (ss + n.toNat) (w ++ [(q, .inl (c0, n.toNat, .inr (.inr (.inr (.inr (fun _ => none))))))]) (pc + 3) lv (.ref q :: st)) : WW K G cs ss w pc lv (.int (J n) :: st) := fun H locs ls hP hD hS hl2 => by
  have hroom := hC.2.2.2.2.2.2.2.2.2.2.2
  refine va_newq hC.1 hC.2.1 hC.2.2.2.1 (hC.2.2.2.2.1 _ hl) (hC.2.2.2.2.2.2.2.2.1.1.2.2.2.2.2.1 _ hq) hC.2.2.2.2.2.1 hP hD hS hC.2.2.2.2.2.2.2.1 ?_ (J_clamp hn.1 (by omega)) (by omega) (by omega) (by omega) hd ?_
  · intro z
    have := (J_lt (a := n) (b := 0) ⟨by omega, by omega⟩ ⟨by omega, by omega⟩).mp z
    omega
  · intro q cA H1 hK hP1 hD1 hS1
    have e : cA = c0 := by
      have h7 : t0 < (TY G.2.1).length := (List.getElem?_eq_some_iff.mp ht).1
      obtain ⟨k1, p1, a1, a2, a3, a4⟩ := (hK.2 t0 (c0, .object C) (by rw [List.getElem?_append_left h7]; exact ht)).2
      obtain ⟨k2, p2, b1, b2, b3, b4⟩ := (hK.2 (TY G.2.1).length (cA, .object C) (by rw [List.getElem?_append_right (Nat.le_refl _), Nat.sub_self]; rfl)).2
      exact Option.some.inj (b4.symm.trans a4)
    subst e
    exact k q H1 locs ls hP1 hD1 hS1 hl2
end MROW
