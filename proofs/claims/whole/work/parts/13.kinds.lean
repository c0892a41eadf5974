/-! Kinds of contracts, and calls of them out of a method without handlers. -/
abbrev aL (s0 : State) : Addr → Prop := fun q => s0.heap.size ≤ q
/-- reads, and returns -/
abbrev RdM (l : Launch) (s0 : State) (y : MethodName) (rm : Room) (As : List Value) (Pw : Heap → Prop) (post : Option Value → Prop) : Prop :=
  ex_Met l y GW rm (fun a U => a = As.toArray ∧ La s0 U ∧ Pw U.heap) (fun v st t => post v ∧ t.heap = st.heap) (fun _ _ _ => False) 0 0 (fun _ => False)
/-- reads, and returns or throws -/
abbrev ThM (l : Launch) (s0 : State) (y : MethodName) (rm : Room) (As : List Value) (Pw : Heap → Prop) (post : Option Value → Prop) (px : String → Prop) (mc ms : Nat) : Prop :=
  ex_Met l y GW rm (fun a U => a = As.toArray ∧ La s0 U ∧ Pw U.heap) (fun v st t => post v ∧ t.heap = st.heap) (fun E st t => px E ∧ La s0 t ∧ st.heap.size ≤ t.heap.size ∧ ∀ q : Nat, q < st.heap.size → t.heap[q]? = st.heap[q]?) mc ms (aL s0)
/-- changes the world, and returns or throws -/
abbrev WdM (l : Launch) (s0 : State) (D : va_G) (y : MethodName) (rm : Room) (As : List Value) (ws : va_W) (post : Option Value → va_W → Prop) (px : String → va_W → Prop) (mc ms : Nat) : Prop :=
  ex_Met l y GW rm (fun a U => a = As.toArray ∧ Wd s0 D ws U) (fun v _ t => ∃ ws', post v ws' ∧ Wd s0 D ws' t) (fun E _ t => ∃ ws', px E ws' ∧ Wd s0 D ws' t) mc ms (aL s0)
section KindCalls
variable {p : Program} {l : Launch} {e : Env} {R : Room} {s : State} {m : MethodId} {args : Array Value} {below : List Frame} {meth : Method} {c : Code} {H : Heap} {locs : List Loc} {cells slots : Nat} {Q : State → Prop}
variable {cc bytes : ByteArray} {pc nL maxL mc ms mc1 ms1 n index : Nat} {ls : Array Slot} {As rest st0 : List Value} {own C : String} {y : MethodName} {rm : Room} {Ts : List Cond} {b : Addr}
variable {s0 : State} {D : va_G} {ws : va_W} {Pw : Heap → Prop} {post : Option Value → Prop} {px : String → Prop} {postW : Option Value → va_W → Prop} {pxW : String → va_W → Prop} {Qr : Option Value → State → State → Prop} {Qx : String → State → State → Prop}
theorem kd_pre (h0 : La s0 s) (hS : va_S (aL s0) s.heap H locs) (hPw : Pw H) {a : List Value} : PreS s H (fun v U => v = a.toArray ∧ La s0 U ∧ Pw U.heap) a :=
  ⟨fun _ _ _ _ q => q, fun U hU hW => ⟨rfl, la_next h0 (fun _ z => z) hS U hU hW, by rw [hU]; exact hPw⟩⟩
theorem kd_preW (h0 : La s0 s) (hS : va_S (aL s0) s.heap H locs) (hP : va_P D classes ws H) (hD : va_D (aL s0) ws) {a : List Value} : PreS s H (fun v U => v = a.toArray ∧ Wd s0 D ws U) a :=
  ⟨fun _ _ _ _ q => q, fun U hU hW => ⟨rfl, wd_next h0 hS hP hD U hU hW⟩⟩
theorem rd_call {g : JFrame} (hr : ex_Run p l e R s m args below meth c H locs cells slots 0 0 g rest (fun v st t => post v ∧ t.heap = st.heap) (fun _ _ _ => False) (fun _ => False))
    (kk : ∀ v, post v → W p l e R s m args below meth c H locs cells slots Q { g with pc := g.pc + 3, stack := v.toList ++ rest }) : W p l e R s m args below meth c H locs cells slots Q g := pu_call hr kk
theorem th_call (h0 : La s0 s) (hS : va_S (aL s0) s.heap H locs) (htab : c.exceptionTable.toList = tableOf []) (hlocks : meth.locks = false) (hc : cells + mc1 ≤ mc) (hs : slots + ms1 ≤ ms)
    (hr : ex_Run p l e R s m args below meth c H locs cells slots mc1 ms1 (F0 m pc ls st0) rest (fun v st t => post v ∧ t.heap = st.heap) (fun E st t => px E ∧ La s0 t ∧ st.heap.size ≤ t.heap.size ∧ ∀ q : Nat, q < st.heap.size → t.heap[q]? = st.heap[q]?) (aL s0))
    (kx : ∀ E, px E → ∀ t : State, La s0 t → H.size ≤ t.heap.size → (∀ q : Nat, q < H.size → t.heap[q]? = H[q]?) → Qx E s t)
    (kk : ∀ v, post v → ∀ locs : List Loc, va_S (aL s0) s.heap H locs → W p l e R s m args below meth c H locs (cells + mc1) (slots + ms1) (ex_MQ below Qr Qx args s mc ms (aL s0)) (F0 m (pc + 3) ls (v.toList ++ rest))) :
    W p l e R s m args below meth c H locs cells slots (ex_MQ below Qr Qx args s mc ms (aL s0)) (F0 m pc ls st0) := by
  refine ex_call hr (fun v st₀ t H1 L e0 e1 hal hz hL hq => ?_) (fun q E st₀ t H1 L e0 e1 hal hz hL ht hqx => ?_)
  · have eH : H1 = H := by rw [← e1, hq.2, e0]
    subst eH
    refine kk v hq.1 _ ⟨hS.1, hS.2.1, fun z hm => ?_⟩
    rcases List.mem_append.mp hm with q | q
    · exact hS.2.2 z q
    · exact hL z q
  · obtain ⟨hp, hla, hz2, ho⟩ := hqx
    rw [e0] at hz2 ho
    refine ex_out (T0 := t) (fun x hm => by rw [htab] at hm; cases hm) hlocks e1 ht (fun t2 ht2 hW2 => kx E hp t2 ?_ (by rw [ht2, ← e1]; exact hz2) (fun z hzl => by rw [ht2, ← e1]; exact ho z hzl)) (wd_S h0 hS hla e1 hz hL).2.2 hc hs
    exact ⟨State.WarmedH.trans h0.1 hW2, by rw [ht2, ← e1]; exact hla.2.1, fun z hzl => by rw [ht2, ← e1]; exact hla.2.2 z hzl⟩
theorem wd_call (h0 : La s0 s) (hS : va_S (aL s0) s.heap H locs) (htab : c.exceptionTable.toList = tableOf []) (hlocks : meth.locks = false) (hc : cells + mc1 ≤ mc) (hs : slots + ms1 ≤ ms)
    (hr : ex_Run p l e R s m args below meth c H locs cells slots mc1 ms1 (F0 m pc ls st0) rest (fun v _ t => ∃ ws', postW v ws' ∧ Wd s0 D ws' t) (fun E _ t => ∃ ws', pxW E ws' ∧ Wd s0 D ws' t) (aL s0))
    (kx : ∀ E ws', pxW E ws' → ∀ t : State, Wd s0 D ws' t → Qx E s t)
    (kk : ∀ v ws', postW v ws' → ∀ (H : Heap) (locs : List Loc), va_P D classes ws' H → va_D (aL s0) ws' → va_S (aL s0) s.heap H locs → W p l e R s m args below meth c H locs (cells + mc1) (slots + ms1) (ex_MQ below Qr Qx args s mc ms (aL s0)) (F0 m (pc + 3) ls (v.toList ++ rest))) :
    W p l e R s m args below meth c H locs cells slots (ex_MQ below Qr Qx args s mc ms (aL s0)) (F0 m pc ls st0) := by
  refine ex_call hr (fun v st₀ t H1 L e0 e1 hal hz hL hq => ?_) (fun q E st₀ t H1 L e0 e1 hal hz hL ht hqx => ?_)
  · obtain ⟨ws', hp, hla, hP, hD⟩ := hq
    rw [e1] at hP
    exact kk v ws' hp H1 _ hP hD (wd_S h0 hS hla e1 hz hL)
  · obtain ⟨ws', hp, hla, hP, hD⟩ := hqx
    refine ex_out (T0 := t) (fun x hm => by rw [htab] at hm; cases hm) hlocks e1 ht (fun t2 ht2 hW2 => kx E ws' hp t2 ⟨⟨State.WarmedH.trans h0.1 hW2, by rw [ht2, ← e1]; exact hla.2.1, fun z hzl => by rw [ht2, ← e1]; exact hla.2.2 z hzl⟩, by rw [ht2, ← e1]; exact hP, hD⟩) (wd_S h0 hS hla e1 hz hL).2.2 hc hs
/-- the receiver -/
theorem kd_recv {k : Nat → ClassId} {q0 ci : Nat} {q : vw_C} {fs : List Value} (hK : va_K D classes (tysOf k) s) (hP : va_P D classes ws H) (hc : classes[ci]? = some q) (he : ws[q0]? = some (b, .inr (ci, fs))) (hC : q.1 = C) : ∃ cellB : Cell, H[b]? = some cellB ∧ cellB.vm.isStatics = false ∧ s.vm.findClass C = some cellB.cls := by
  obtain ⟨cell, h1, h2, h3⟩ := va_recv hK hP hc he
  exact ⟨cell, h1, h2, by rw [← hC]; exact h3⟩
theorem kd_V {Pc : Array Value → State → Prop} (hp : PreS s H Pc (.ref b :: As)) (hr : ∃ cellB : Cell, H[b]? = some cellB ∧ cellB.vm.isStatics = false ∧ s.vm.findClass C = some cellB.cls) : PreV s H C b Pc As := ⟨hp.1, hr, hp.2⟩
end KindCalls
