/-! Calls of a nest mate's private members. -/
section NestCalls
variable {p : Program} {l : Launch} {e : Env} {R : Room} {s : State} {m : MethodId} {args : Array Value} {below : List Frame} {meth : Method} {c : Code} {H : Heap} {locs : List Loc} {cells slots : Nat} {Q : State → Prop}
variable {cc bytes : ByteArray} {pc nL maxL mc ms n index : Nat} {ls : Array Slot} {As rest st0 : List Value} {own host : String} {y : MethodName} {ret : Option FieldType} {rm : Room} {Ts ws : List Cond} {b : Addr} {Pc : Array Value → State → Prop} {Qr : Option Value → State → State → Prop} {Qx : String → State → State → Prop} {free : Addr → Prop} {g : JFrame}
theorem ex_toMet (h : ex_Met l y ws rm Pc Qr (fun _ _ _ => False) mc ms free) : Met l y ws rm Pc (fun _ st o t => ∃ v, o = .returned v ∧ Qr v st t) mc ms free := by
  intro p e ha hc hk s m args below hf happ hP hK
  obtain ⟨n, o, h1, h2, h3, hq, L, hW, hsm, hL⟩ := h p e ha hc hk s m args below hf happ hP hK
  rcases hq with ⟨v, hv, hq⟩ | ⟨q, E, -, -, hx⟩
  · exact ⟨n, o, h1, h2, h3, ⟨v, hv, hq⟩, L, ⟨⟨v, hv⟩, hW, hsm⟩, hL⟩
  · exact hx.elim
theorem ex_ofRun (hr : va_Run p l e R s m args below meth c H locs cells slots mc ms g rest (fun st o t => ∃ v, o = .returned v ∧ Qr v st t) free) : ex_Run p l e R s m args below meth c H locs cells slots mc ms g rest Qr Qx free := by
  intro T hT X
  obtain ⟨v, st₀, t, T', L, h0, X', hL, e1, e2, ⟨v', hv, hq⟩, st⟩ := hr T hT X
  cases hv
  exact ⟨st₀, t, T', L, h0, X', hL, e1, e2, Or.inl ⟨v, hq, st⟩⟩
theorem cn_mk (hG : ∀ w ∈ GW, w.before args s = true) (hcode : Cond.code y bytes maxL ret ∈ GW) (hini : Cond.initialized y.cls ∈ GW) (hl : (Cond.methodLinkNest own index y host).before args s = true) (hrc : rm.cells = mc) (hrs : rm.slots = ms)
    (hd : y.cls ≠ "java/lang/invoke/MethodHandle" ∧ y.cls ≠ "java/lang/invoke/VarHandle" ∧ (parseMethodDescriptor y.desc).map (fun d => d.parameters.length) = some n) (hR : rm.frames + 1 ≤ R.frames ∧ 8 + (maxL + 11) + rm.locals ≤ R.locals) : va_CN R s args own index y host bytes maxL ret GW rm mc ms n := by
  refine ⟨⟨hrc, hrs, hR.1, hR.2, gw_pay hG, hcode⟩, hG _ hcode, hG _ hini, ⟨hd.1, hd.2.1⟩, fun sig h => ?_, hl⟩
  have h2 := hd.2.2
  rw [h] at h2
  exact (Option.some.inj h2).symm
theorem ex_runSN (S : CallFix p m c cc nL s args Ts own) (hM : ex_Met l y GW rm Pc Qr (fun _ _ _ => False) mc ms free) (cw : va_CN R s args own index y host bytes maxL ret GW rm mc ms n) (hst : (Cond.static y).before args s = true) (hp : PreS s H Pc As)
    (hg : g.method = m) (hn : As.length = n) (hsize : g.locals.size = nL) (hstack : g.stack = As.reverse ++ rest) (hW : 2 * g.monitorRoom + (rest.map fun v => v.category).sum ≤ 8) (hdg : decode cc g.pc = .ok (.invokestatic index, 3)) (hf : cells + mc ≤ R.cells ∧ slots + ms ≤ R.slots) :
    ex_Run p l e R s m args below meth c H locs cells slots mc ms g rest Qr Qx free :=
  ex_ofRun (va_runSN S (ex_toMet hM) ⟨cw, hst, trivial⟩ hp hg hn hsize hstack hW hdg hf)
theorem ex_runIN (S : CallFix p m c cc nL s args Ts own) (hM : ex_Met l y GW rm Pc Qr (fun _ _ _ => False) mc ms free) (cw : va_CN R s args own index y host bytes maxL none GW rm mc ms n) (hy1 : y.name = "<init>") (hin : (Cond.instanceMethod y).before args s = true) (hp : PreS s H Pc (.ref b :: As))
    (hg : g.method = m) (hn : As.length = n) (hsize : g.locals.size = nL) (hstack : g.stack = As.reverse ++ .ref b :: rest) (hW : 2 * g.monitorRoom + (rest.map fun v => v.category).sum ≤ 8) (hdg : decode cc g.pc = .ok (.invokespecial index, 3)) (hf : cells + mc ≤ R.cells ∧ slots + ms ≤ R.slots) :
    ex_Run p l e R s m args below meth c H locs cells slots mc ms g rest Qr Qx free :=
  ex_ofRun (va_runIN S (ex_toMet hM) ⟨cw, hy1, hin⟩ hp hg hn hsize hstack hW hdg hf)
theorem cx_nest {s0 U : State} {D : va_G} {k : Nat → ClassId} (hC : Cx l s0 D k) (h : La s0 U) {x : MethodName} (hm : Cond.methodLinkNest own index x host ∈ lw_tbl) (a : Array Value) : (Cond.methodLinkNest own index x host).before a U = true := by
  obtain ⟨-, ⟨a0, h1, -⟩, -⟩ := hC
  exact va_Nw.use rfl (va_Nw.warmM h.1 (va_Nw.of rfl (h1 _ hm)))
/-- a writer that never throws, its throwing end left out -/
theorem wd_sure {s0 : State} {D : va_G} {wl : va_W} {post : Option Value → va_W → Prop} (h : WdM l s0 D y rm As wl post (fun _ _ => False) mc ms) : ex_Met l y GW rm (fun a U => a = As.toArray ∧ Wd s0 D wl U) (fun v _ t => ∃ ws', post v ws' ∧ Wd s0 D ws' t) (fun _ _ _ => False) mc ms (aL s0) := by
  intro p e ha hc hk s m args below hf happ hP hK
  obtain ⟨n, o, h1, h2, h3, hq, hL⟩ := h p e ha hc hk s m args below hf happ hP hK
  refine ⟨n, o, h1, h2, h3, ?_, hL⟩
  rcases hq with hq | ⟨q, E, -, -, ws', hx, -⟩
  · exact Or.inl hq
  · exact hx.elim
end NestCalls
