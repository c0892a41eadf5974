/-! Rows over the context: throws, ends, calls. -/
section CtxThrow
variable {l : Launch} {s0 : State} {D : va_G} {k : Nat → ClassId} {ws : va_W} {U : State}
theorem cx_own (hC : Cx l s0 D k) (h : La s0 U) {cls : String} {ic : Nat} (hA : ∀ w ∈ Bundle.ownAtoms "LathePieces" ic cls xRE, (goodWord w = true ∧ w ∈ lw_tbl) ∨ w ∈ xSp cls) (hcast : Cond.castable cls cls ∈ lw_tbl) (a : Array Value) :
    ∀ w ∈ Bundle.ownAtoms "LathePieces" ic cls xRE, w.before a U = true := by
  intro w hw
  obtain ⟨-, ⟨a0, h1, h2, h3⟩, -⟩ := id hC
  rcases hA w hw with ⟨g, hm⟩ | hs
  · exact word_at h.1 (good_of_word g) (h1 w hm)
  · have hd : ∀ x : MethodName, Cond.declares x ∈ lw_tbl → (Cond.declares x).before a U = true := fun x hx => va_Nw.use rfl (va_Nw.warmD h.1 (va_Nw.of rfl (h1 _ hx)))
    simp only [xSp, List.mem_cons, List.not_mem_nil, or_false] at hs
    rcases hs with rfl | rfl | rfl | rfl | rfl | rfl | rfl | rfl
    · exact cx_isRef h (h1 _ g_140) (h1 _ (gw_tbl g_4)) h2 a
    · exact cx_isRef h (h1 _ g_142) (h1 _ (gw_tbl g_4)) h3 a
    · exact cx_lays hC h g_140 a
    · exact cx_lays hC h g_142 a
    · exact va_Nw.use rfl (va_Nw.warmC h.1 (va_Nw.of rfl (h1 _ hcast)))
    · exact hd _ g_117
    · exact hd _ g_119
    · exact hd _ g_121
theorem cx_str (hC : Cx l s0 D k) (h : La s0 U) {is : Nat} {text : String} (hm : Cond.stringRef "LathePieces" is text ∈ lw_tbl) : ∃ sa : Nat, vk_R "LathePieces" is text sa U := by
  obtain ⟨-, ⟨a0, h1, -⟩, hK, -⟩ := id hC
  have hfc : s0.vm.findClass "LathePieces" = some (D.1 5) := (hK.1 5 _ rfl).2.1
  obtain ⟨kk, cf, i, a', -, -, -, -, -, hev⟩ := Cond.stringRef_spec hfc (h1 _ hm)
  exact ⟨a', vk_R.warm h.1 ⟨h1 _ hm, hev⟩⟩
end CtxThrow
section CtxRows
variable {p : Program} {l : Launch} {e : Env} {R : Room} {s : State} {m : MethodId} {args : Array Value} {below : List Frame} {meth : Method} {c : Code} {H : Heap} {locs : List Loc} {cells slots : Nat} {Q : State → Prop}
variable {s0 : State} {D : va_G} {k : Nat → ClassId} {ws : va_W} {cc : ByteArray} {pc : Nat} {ls : Array Slot} {rest : List Value} {Qr : Option Value → State → State → Prop} {Qx : String → State → State → Prop} {free : Addr → Prop} {mc ms : Nat}
/-- 'throw new E("text")' in a method of LathePieces that has no handlers -/
theorem tk_throw (hC : Cx l s0 D k) (h0 : La s0 s) (hx : p.tables.exec = Jvm.exec) (hb : c.code = cc) (hown : s.vm.findClass "LathePieces" = some m.cls) {cls text : String} {ic ik is kl : Nat} (hA : ∀ w ∈ Bundle.ownAtoms "LathePieces" ic cls xRE, (goodWord w = true ∧ w ∈ lw_tbl) ∨ w ∈ xSp cls) (hfit : Bundle.fit cls = true)
    (hcast : Cond.castable cls cls ∈ lw_tbl) (hcl : Cond.classLink "LathePieces" ik cls ∈ GW) (hini : Cond.initialized cls ∈ GW) (hstr : Cond.stringRef "LathePieces" is text ∈ lw_tbl) (hS : va_S (fun q : Nat => s0.heap.size ≤ q) s.heap H locs) (hsize : ls.size = c.maxLocals)
    (d0 : decode cc pc = .ok (.new ik, 3)) (d3 : decode cc (pc + 3) = .ok (.dup, 1)) (d4 : kl = 2 ∧ decode cc (pc + 4) = .ok (.ldc is, 2) ∨ kl = 3 ∧ decode cc (pc + 4) = .ok (.ldc_w is, 3)) (d6 : decode cc (pc + 4 + kl) = .ok (.invokespecial ic, 3)) (d9 : decode cc (pc + 4 + kl + 3) = .ok (.athrow, 1))
    (htab : c.exceptionTable.toList = tableOf []) (hlocks : meth.locks = false) (hRframes : 5 < R.frames) (hRlocals : (rest.map fun v => v.category).sum + 82 ≤ R.locals) (hRcells : cells + 1 ≤ R.cells) (hRslots : slots + 6 ≤ R.slots)
    (hq : ∀ t : State, La s0 t → H.size ≤ t.heap.size → (∀ q : Nat, q < H.size → t.heap[q]? = H[q]?) → Qx cls s t) (hc : cells + 1 ≤ mc) (hs : slots + 6 ≤ ms) :
    W p l e R s m args below meth c H locs cells slots (ex_MQ below Qr Qx args s mc ms (fun q => s0.heap.size ≤ q)) (F0 m pc ls rest) := by
  obtain ⟨sa, hsa⟩ := cx_str hC h0 hstr
  have hAs : ∀ U : State, U.vm = s.vm → U.heap = H → La s0 U := fun U hv hh => by
    have hW : s.WarmedH U.vm := by rw [hv]; exact State.WarmedH.refl s
    exact la_next h0 (fun _ z => z) hS U hh hW
  refine ex_throw (names := xRE) hx hb hC.1 hown hfit (by decide +kernel) hsa (fun U hv hh w hw => ?_) hsize d0 d3 d4 d6 d9 (fun x hm => by rw [htab] at hm; cases hm) hlocks hRframes hRlocals hRcells hRslots (fun t hW hz ho => hq t ?_ hz ho) hS.2.2 hc hs
  · have hLa := hAs U hv hh
    rcases List.mem_cons.mp hw with rfl | hw
    · exact cx_gw hC hLa _ _ hcl
    · rcases List.mem_cons.mp hw with rfl | hw
      · exact cx_gw hC hLa _ _ hini
      · exact cx_own hC hLa hA hcast _ w hw
  · refine ⟨State.WarmedH.trans h0.1 hW, Nat.le_trans (Nat.le_trans h0.2.1 hS.1) hz, fun q hl => ?_⟩
    have hql : q < s.heap.size := Nat.lt_of_lt_of_le hl h0.2.1
    rw [ho q (Nat.lt_of_lt_of_le hql hS.1), hS.2.1 q hql (Nat.not_le.mpr hl)]
    exact h0.2.2 q hl
/-! ends -/
theorem re_i {v : Int32} (hx : p.tables.exec = Jvm.exec) (hb : c.code = cc) (hr : meth.sig.returnType = some .int) (hlocks : meth.locks = false) (hq : ∀ t : State, t.heap = H → s.WarmedH t.vm → Qr (some (.int v)) s t) (hf : ∀ z ∈ locs, free z.base) (hc : cells ≤ mc) (hs : slots ≤ ms) (hdg : decode cc pc = .ok (.ireturn, 1)) :
    W p l e R s m args below meth c H locs cells slots (ex_MQ below Qr Qx args s mc ms free) (F0 m pc ls [.int v]) :=
  W.widen hc hs (ex_ret (Qc := fun _ st o t => ∃ v', o = .returned v' ∧ Qr v' st t) (fun v t h => by obtain ⟨v', e, h⟩ := h; cases e; exact h) (W.iret hx hb hr (fun t ht hW => ⟨_, rfl, hq t ht hW⟩) hf hdg))
theorem re_z {v : Int32} (hx : p.tables.exec = Jvm.exec) (hb : c.code = cc) (hr : meth.sig.returnType = some .boolean) (hlocks : meth.locks = false) (hn : v = 0 ∨ v = 1) (hq : ∀ t : State, t.heap = H → s.WarmedH t.vm → Qr (some (.int v)) s t) (hf : ∀ z ∈ locs, free z.base) (hc : cells ≤ mc) (hs : slots ≤ ms) (hdg : decode cc pc = .ok (.ireturn, 1)) :
    W p l e R s m args below meth c H locs cells slots (ex_MQ below Qr Qx args s mc ms free) (F0 m pc ls [.int v]) :=
  W.widen hc hs (ex_ret (Qc := fun _ st o t => ∃ v', o = .returned v' ∧ Qr v' st t) (fun v t h => by obtain ⟨v', e, h⟩ := h; cases e; exact h) (W.zret hx hb hr (by rcases hn with rfl | rfl <;> rfl) (fun t ht hW => ⟨_, rfl, hq t ht hW⟩) hf hdg))
theorem re_l {v : Int64} (hx : p.tables.exec = Jvm.exec) (hb : c.code = cc) (hr : meth.sig.returnType = some .long) (hlocks : meth.locks = false) (hq : ∀ t : State, t.heap = H → s.WarmedH t.vm → Qr (some (.long v)) s t) (hf : ∀ z ∈ locs, free z.base) (hc : cells ≤ mc) (hs : slots ≤ ms) (hdg : decode cc pc = .ok (.lreturn, 1)) :
    W p l e R s m args below meth c H locs cells slots (ex_MQ below Qr Qx args s mc ms free) (F0 m pc ls [.long v]) :=
  W.widen hc hs (ex_ret (Qc := fun _ st o t => ∃ v', o = .returned v' ∧ Qr v' st t) (fun v t h => by obtain ⟨v', e, h⟩ := h; cases e; exact h) (W.lret hx hb hr (fun t ht hW => ⟨_, rfl, hq t ht hW⟩) hf hdg))
theorem re_a {v : Nat} {rt : FieldType} (hx : p.tables.exec = Jvm.exec) (hb : c.code = cc) (hr : meth.sig.returnType = some rt) (hrt : (∃ n, rt = .object n) ∨ ∃ t, rt = .array t) (hlocks : meth.locks = false) (hq : ∀ t : State, t.heap = H → s.WarmedH t.vm → Qr (some (.ref v)) s t) (hf : ∀ z ∈ locs, free z.base) (hc : cells ≤ mc) (hs : slots ≤ ms) (hdg : decode cc pc = .ok (.areturn, 1)) :
    W p l e R s m args below meth c H locs cells slots (ex_MQ below Qr Qx args s mc ms free) (F0 m pc ls [.ref v]) :=
  W.widen hc hs (ex_ret (Qc := fun _ st o t => ∃ v', o = .returned v' ∧ Qr v' st t) (fun v t h => by obtain ⟨v', e, h⟩ := h; cases e; exact h) (W.aret hx hb hr hrt (Or.inr ⟨_, rfl⟩) (fun t ht hW => ⟨_, rfl, hq t ht hW⟩) hf hdg))
theorem re_v (hx : p.tables.exec = Jvm.exec) (hb : c.code = cc) (hr : meth.sig.returnType = none) (hlocks : meth.locks = false) (hq : ∀ t : State, t.heap = H → s.WarmedH t.vm → Qr none s t) (hf : ∀ z ∈ locs, free z.base) (hc : cells ≤ mc) (hs : slots ≤ ms) (hdg : decode cc pc = .ok (.return_, 1)) :
    W p l e R s m args below meth c H locs cells slots (ex_MQ below Qr Qx args s mc ms free) (F0 m pc ls []) :=
  W.widen hc hs (ex_ret (Qc := fun _ st o t => ∃ v', o = .returned v' ∧ Qr v' st t) (fun v t h => by obtain ⟨v', e, h⟩ := h; cases e; exact h) (W.vret hx hb hr (fun t ht hW => ⟨_, rfl, hq t ht hW⟩) hf hdg))
end CtxRows
section CtxCalls
variable {p : Program} {l : Launch} {e : Env} {R : Room} {s : State} {m : MethodId} {args : Array Value} {below : List Frame} {meth : Method} {c : Code} {H : Heap} {locs : List Loc} {cells slots : Nat} {Q : State → Prop}
variable {cc bytes : ByteArray} {pc nL maxL mc ms n index : Nat} {ls : Array Slot} {As rest st0 : List Value} {own : String} {y : MethodName} {ret : Option FieldType} {rm : Room} {Ts : List Cond} {hh : List (Nat × Nat × Nat × Nat)}
theorem cb_code (hG : ∀ w ∈ GW, w.before args s = true) (hcode : Cond.code y bytes maxL ret ∈ GW) (hini : Cond.initialized y.cls ∈ GW) (hl : Cond.methodLink own index y ∈ GW) (hrc : rm.cells = mc) (hrs : rm.slots = ms)
    (hd : y.cls ≠ "java/lang/invoke/MethodHandle" ∧ y.cls ≠ "java/lang/invoke/VarHandle" ∧ (parseMethodDescriptor y.desc).map (fun d => d.parameters.length) = some n) (hR : rm.frames + 1 ≤ R.frames ∧ 8 + (maxL + 11) + rm.locals ≤ R.locals) : ex_CB R s args own index y maxL GW rm mc ms n := by
  obtain ⟨mk, hnamed⟩ := Cond.code_named (hG _ hcode)
  obtain ⟨mY, cY, h1, h2, -, h4, -, -, -, h8⟩ := Cond.code_spec hnamed (hG _ hcode)
  refine ⟨hrc, hrs, hR.1, hR.2, gw_pay hG, ⟨mk, mY, cY, hnamed, h1, h2, h4, ?_⟩, hG _ hini, ⟨hd.1, hd.2.1⟩, hG _ hl⟩
  have h9 := hd.2.2
  rw [h8] at h9
  exact Option.some.inj h9
theorem cb_with (hG : ∀ w ∈ GW, w.before args s = true) (hcode : Cond.codeWith y bytes maxL ret hh ∈ GW) (hini : Cond.initialized y.cls ∈ GW) (hl : Cond.methodLink own index y ∈ GW) (hrc : rm.cells = mc) (hrs : rm.slots = ms)
    (hd : y.cls ≠ "java/lang/invoke/MethodHandle" ∧ y.cls ≠ "java/lang/invoke/VarHandle" ∧ (parseMethodDescriptor y.desc).map (fun d => d.parameters.length) = some n) (hR : rm.frames + 1 ≤ R.frames ∧ 8 + (maxL + 11) + rm.locals ≤ R.locals) : ex_CB R s args own index y maxL GW rm mc ms n := by
  obtain ⟨mk, mY, cY, hnamed, h1, h2, -, h4, -, -, -, h8⟩ := Cond.codeWith_spec (hG _ hcode)
  refine ⟨hrc, hrs, hR.1, hR.2, gw_pay hG, ⟨mk, mY, cY, hnamed, h1, h2, h4, ?_⟩, hG _ hini, ⟨hd.1, hd.2.1⟩, hG _ hl⟩
  have h9 := hd.2.2
  rw [h8] at h9
  exact Option.some.inj h9
/-- a contract of a method that touches no heap -/
abbrev PuM (l : Launch) (y : MethodName) (rm : Room) (As : List Value) (post : Option Value → Prop) : Prop := ex_Met l y GW rm (fun a _ => a = As.toArray) (fun v st t => post v ∧ t.heap = st.heap) (fun _ _ _ => False) 0 0 (fun _ => False)
theorem pu_call {post : Option Value → Prop} {g : JFrame} (hr : ex_Run p l e R s m args below meth c H locs cells slots 0 0 g rest (fun v st t => post v ∧ t.heap = st.heap) (fun _ _ _ => False) (fun _ => False))
    (kk : ∀ v, post v → W p l e R s m args below meth c H locs cells slots Q { g with pc := g.pc + 3, stack := v.toList ++ rest }) : W p l e R s m args below meth c H locs cells slots Q g := by
  refine ex_call hr (fun v st₀ t H1 L e0 e1 hal hz hL hq => ?_) (fun q E st₀ t H1 L e0 e1 hal hz hL ht hqx => hqx.elim)
  have hL0 : L = [] := List.eq_nil_iff_forall_not_mem.mpr fun z hz => hL z hz
  subst hL0
  rw [List.append_nil, ← e1, hq.2, e0]
  exact kk v hq.1
/-- a static call of such a method -/
theorem pu_S {post : Option Value → Prop} (S : CallFix p m c cc nL s args Ts own) (hM : PuM l y rm As post) (cw : ex_CB R s args own index y maxL GW rm 0 0 n) (hst : (Cond.static y).before args s = true)
    (hn : As.length = n) (hsize : ls.size = nL) (hstack : st0 = As.reverse ++ rest) (hW : (rest.map fun v => v.category).sum ≤ 8) (hdg : decode cc pc = .ok (.invokestatic index, 3)) (hf : cells ≤ R.cells ∧ slots ≤ R.slots)
    (kk : ∀ v, post v → W p l e R s m args below meth c H locs cells slots Q (F0 m (pc + 3) ls (v.toList ++ rest))) : W p l e R s m args below meth c H locs cells slots Q (F0 m pc ls st0) :=
  pu_call (ex_runS S hM cw hst ⟨fun _ _ _ _ q => q, fun _ _ _ => rfl⟩ rfl hn hsize hstack (lv_room hW) hdg hf) kk
end CtxCalls

