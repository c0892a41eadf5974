/-! The law's own methods: one call of the class, and what it throws. -/
section LawRows
variable {p : Program} {l : Launch} {e : Env} {R : Room} {s : State} {m : MethodId} {args : Array Value} {below : List Frame} {meth : Method} {c : Code} {H : Heap} {locs : List Loc} {cells slots : Nat} {Q : State → Prop}
variable {cc : ByteArray} {pc mc1 ms1 : Nat} {ls : Array Slot} {rest st0 : List Value} {s0 : State} {D : va_G} {k : Nat → ClassId} {postW : Option Value → va_W → Prop} {pxW : String → va_W → Prop}
theorem wd_callC (h0 : La s0 s) (hS : va_S (aL s0) s.heap H locs) (hr : ex_Run p l e R s m args below meth c H locs cells slots mc1 ms1 (F0 m pc ls st0) rest (fun v _ t => ∃ ws', postW v ws' ∧ Wd s0 D ws' t) (fun E _ t => ∃ ws', pxW E ws' ∧ Wd s0 D ws' t) (aL s0))
    (kx : ∀ E ws', pxW E ws' → ∀ (H : Heap) (locs : List Loc), va_P D classes ws' H → va_D (aL s0) ws' → va_S (aL s0) s.heap H locs → ∀ (q : Addr) (T0 : State), T0.heap = H → ex_Thr E s q T0 → ex_W p l e R s m args below meth c H locs (cells + mc1) (slots + ms1) Q (F0 m pc ls rest) q)
    (kk : ∀ v ws', postW v ws' → ∀ (H : Heap) (locs : List Loc), va_P D classes ws' H → va_D (aL s0) ws' → va_S (aL s0) s.heap H locs → W p l e R s m args below meth c H locs (cells + mc1) (slots + ms1) Q (F0 m (pc + 3) ls (v.toList ++ rest))) :
    W p l e R s m args below meth c H locs cells slots Q (F0 m pc ls st0) := by
  refine ex_call hr (fun v st₀ t H1 L e0 e1 hal hz hL hq => ?_) (fun q E st₀ t H1 L e0 e1 hal hz hL ht hqx => ?_)
  · obtain ⟨ws', hp, hla, hP, hD⟩ := hq
    rw [e1] at hP
    exact kk v ws' hp H1 _ hP hD (wd_S h0 hS hla e1 hz hL)
  · obtain ⟨ws', hp, hla, hP, hD⟩ := hqx
    rw [e1] at hP
    exact kx E ws' hp H1 _ hP hD (wd_S h0 hS hla e1 hz hL) q t e1 ht
theorem ite01 (c : Prop) [Decidable c] : (if c then (1 : Int) else 0) = 0 ∨ (if c then (1 : Int) else 0) = 1 := by
  by_cases h : c
  · exact Or.inr (if_pos h)
  · exact Or.inl (if_neg h)
/-- a number as it fits into 32 bits -/
def tw (z : Int) : Int := (iI z).toInt
theorem tw_rg (z : Int) : In32 (tw z) := ii_rg _
theorem tw_ii (z : Int) : iI (tw z) = iI z := (ii_of _).symm
theorem ri_i2lw (hx : p.tables.exec = Jvm.exec) (hb : c.code = cc) {z : Int} (hdg : decode cc pc = .ok (.i2l, 1)) (k : W p l e R s m args below meth c H locs cells slots Q (F0 m (pc + 1) ls (.long (jJ (tw z)) :: rest))) : W p l e R s m args below meth c H locs cells slots Q (F0 m pc ls (.int (iI z) :: rest)) := by
  rw [← tw_ii z]
  exact ri_i2l hx hb hdg (tw_rg z) k
end LawRows
theorem cx_nc {l : Launch} {s0 U : State} {D : va_G} {k : Nat → ClassId} (hC : Cx l s0 D k) (h : La s0 U) : (va_Nc xIA xIS U ∧ va_Nc xIA xIO U) ∧ (va_Nc xIS xIA U ∧ va_Nc xIS xIO U) ∧ va_Nc xIO xIA U ∧ va_Nc xIO xIS U := by
  obtain ⟨h1, h2, h3, h4, h5, h6⟩ := hC.2.2.2
  exact ⟨⟨h1.moved h.1.alike, h2.moved h.1.alike⟩, ⟨h3.moved h.1.alike, h4.moved h.1.alike⟩, h5.moved h.1.alike, h6.moved h.1.alike⟩
theorem cx_can {l : Launch} {s0 U : State} {D : va_G} {k : Nat → ClassId} (hC : Cx l s0 D k) (h : La s0 U) {A B : String} (hm : Cond.castable A B ∈ lw_tbl) (a : Array Value) : (Cond.castable A B).before a U = true := va_Nw.use rfl (cx_cast hC h hm)
set_option maxHeartbeats 4000000 in
set_option maxRecDepth 100000 in
theorem w_start {l : Launch} {s0 : State} {D : va_G} {k : Nat → ClassId} (hC : Cx l s0 D k) {cx : Nat} {v : Nat → Int} {f : Nat → Int → Int} {wc : va_W} (hI : Iv v f) (hW : Cst k cx v f wc) (wr : va_W) (rd : Int) (hrd : In32 rd) : WdM l s0 D y_L_start { frames := 8, cells := 1, slots := 6, locals := 133 } [.ref cx, .int (iI (rd))] (wc ++ wr) (fun v9 ws' => ∃ (wc' : va_W) (kz : Int), v9 = some (.int (iI (kz))) ∧ ws' = wc' ++ wr ∧ (kz = 0 ∧ (0 ≤ rd ∧ rd ≤ 500) ∧ Cst k cx (vS (vS (vS (vS v 0 0) 1 1) 2 rd) 3 0) f wc' ∧ Iv (vS (vS (vS (vS v 0 0) 1 1) 2 rd) 3 0) f ∨ kz = 1 ∧ ¬ (0 ≤ rd ∧ rd ≤ 500) ∧ Cst k cx v f wc')) (fun _ _ => False) 1 6 := by
  refine ex_ofW (cc := b_L_start) (maxL := 3) (ret := (some .int)) (hh := [(0, 5, 8, 13)]) (by decide +kernel) (Or.inr g_104) ?_
  intro p9 e9 s m9 args9 below9 meth9 c9 s9 B9 hml htab hv
  obtain ⟨rfl, h0, hP, hD⟩ := hv
  have hx := B9.exec
  have hb := B9.bytes
  have hr := B9.returns
  have hG := atoms_spec (ws := GW) B9.pre
  have hown : s.vm.findClass "LathePiecesLaw" = some m9.cls := findClass_of_methodNamed B9.named
  have hlocks := B9.notSynchronized
  have hK := cx_K hC h0
  have hS : va_S (aL s0) s.heap s.heap [] := va_S.rf
  have hnc := cx_nc hC h0
  obtain ⟨fs9, hrc⟩ := hW.recv wr
  have hl := lv_entry ([.ref cx, .int (iI (rd))]) (n := 3) (Nat.le_of_ble_eq_true rfl)
  rw [lg_entry_eq]
  generalize (lg_sl ([.ref cx, .int (iI (rd))]) ++ List.replicate (3 - (lg_sl ([.ref cx, .int (iI (rd))])).length) Slot.unset).toArray = ls at hl ⊢
  replace hl : lv_has ls 3 [(0, .ref cx), (1, .int (iI (rd)))] := hl
  refine lv_aload_n hx hb d_L_start_0 rfl (lv_at hl 0 rfl) ?_
  refine lv_iload_n hx hb d_L_start_1 rfl (lv_at hl 1 rfl) ?_
  refine wd_callC h0 hS (ex_runV (C := "LathePieces") (As := [.int (iI (rd))]) (rest := []) ⟨hx, hb, hml, hown, hG⟩ (o_start hC hI hW wr rd hrd) (cb_code (n := 1) hG g_109 g_1 g_106 rfl rfl (by decide +kernel) ⟨Nat.le_of_ble_eq_true rfl, Nat.le_of_ble_eq_true rfl⟩) (hG _ g_107) (hG _ g_108) (kd_V (kd_preW h0 hS hP hD) (kd_recv hK hP (q0 := 2) (ci := 5) rfl hrc rfl)) rfl rfl hl.1 rfl (lv_room (Nat.le_of_ble_eq_true rfl)) d_L_start_2 ⟨Nat.le_of_ble_eq_true rfl, Nat.le_of_ble_eq_true rfl⟩) (fun E ws9 hE H locs hP hD hS q T0 hT0 hq => ?_) (fun v9 ws9 h9 H locs hP hD hS => ?_)
  · obtain ⟨wc', rfl, hW2, hE⟩ := hE
    obtain ⟨rfl, hc⟩ := hE
    refine ex_catch (name := xIA) hown (tableOf []) ⟨0, 5, 8, 13⟩ (tableOf []) (htab.trans rfl) (fun z hz => nomatch hz) rfl (by decide) (hG _ g_105) (cx_can hC h0 g_115 _) hT0 hq ?_
    refine lv_astore_n (lv' := [(2, .ref q), (0, .ref cx), (1, .int (iI (rd)))]) hx hb d_L_start_8 rfl hl (by decide) rfl (fun ls hl => ?_)
    refine ri_iconst hx hb d_L_start_9 ?_
    exact re_i hx hb hr hlocks (fun t9 ht9 hW9 => ⟨_, ⟨wc', 1, rfl, rfl, Or.inr (⟨rfl, hc, hW2⟩)⟩, wd_next h0 hS hP hD t9 ht9 hW9⟩) hS.2.2 (Nat.le_of_ble_eq_true rfl) (Nat.le_of_ble_eq_true rfl) d_L_start_10
  · obtain ⟨wc', rfl, hc, rfl, hW2, hI2⟩ := h9
    show W _ _ _ _ _ _ _ _ _ _ _ _ _ _ _ (F0 m9 5 ls [])
    refine lv_goto (tgt := 11) hx hb d_L_start_5 (by decide) ?_
    refine ri_iconst hx hb d_L_start_11 ?_
    exact re_i hx hb hr hlocks (fun t9 ht9 hW9 => ⟨_, ⟨wc', 0, rfl, rfl, Or.inl ⟨rfl, hc, hW2, hI2⟩⟩, wd_next h0 hS hP hD t9 ht9 hW9⟩) hS.2.2 (Nat.le_of_ble_eq_true rfl) (Nat.le_of_ble_eq_true rfl) d_L_start_12
set_option maxHeartbeats 4000000 in
set_option maxRecDepth 100000 in
theorem w_line {l : Launch} {s0 : State} {D : va_G} {k : Nat → ClassId} (hC : Cx l s0 D k) {cx : Nat} {v : Nat → Int} {f : Nat → Int → Int} {wc : va_W} (hI : Iv v f) (hW : Cst k cx v f wc) (wr : va_W) (ao : Nat) (o9 : Int → Int) (at9 rd : Int) (hat : In32 at9) (hrd : In32 rd) : WdM l s0 D y_L_line { frames := 9, cells := 3, slots := 18, locals := 155 } [.ref cx, .int (iI (at9)), .int (iI (rd)), .ref ao] (wc ++ ((ao, .inl (k 1, al 1 o9)) :: wr)) (fun v9 ws' => ∃ (wc' : va_W) (o' : Int → Int) (kz : Int), v9 = some (.int (iI (kz))) ∧ ws' = wc' ++ ((ao, .inl (k 1, al 1 o')) :: wr) ∧ (kz = 0 ∧ ((1 ≤ at9 ∧ at9 ≤ 64 ∧ 0 ≤ rd ∧ rd ≤ 500) ∧ (v 1) = 1 ∧ pA (f 4) (v 3) < at9) ∧ o' 0 = tw ((v 3) + 1) ∧ Cst k cx (vS (vS v 0 0) 3 (v 3 + 1)) (fS (fS (fS (fS (fS f 4 (zU (f 4) (v 3) at9)) 5 (zU (f 5) (v 3) rd)) 6 (zU (f 6) (v 3) 0)) 7 (zU (f 7) (v 3) 0)) 8 (zU (f 8) (v 3) 0)) wc' ∧ Iv (vS (vS v 0 0) 3 (v 3 + 1)) (fS (fS (fS (fS (fS f 4 (zU (f 4) (v 3) at9)) 5 (zU (f 5) (v 3) rd)) 6 (zU (f 6) (v 3) 0)) 7 (zU (f 7) (v 3) 0)) 8 (zU (f 8) (v 3) 0)) ∨ kz = 1 ∧ (¬ (1 ≤ at9 ∧ at9 ≤ 64 ∧ 0 ≤ rd ∧ rd ≤ 500) ∨ (v 1) = 1 ∧ at9 ≤ pA (f 4) (v 3)) ∧ Cst k cx v f wc' ∨ kz = 2 ∧ ((1 ≤ at9 ∧ at9 ≤ 64 ∧ 0 ≤ rd ∧ rd ≤ 500) ∧ (v 1) = 0) ∧ Cst k cx v f wc')) (fun _ _ => False) 3 18 := by
  refine ex_ofW (cc := b_L_line) (maxL := 5) (ret := (some .int)) (hh := [(0, 10, 13, 13), (0, 10, 17, 19)]) (by decide +kernel) (Or.inr g_187) ?_
  intro p9 e9 s m9 args9 below9 meth9 c9 s9 B9 hml htab hv
  obtain ⟨rfl, h0, hP, hD⟩ := hv
  have hx := B9.exec
  have hb := B9.bytes
  have hr := B9.returns
  have hG := atoms_spec (ws := GW) B9.pre
  have hown : s.vm.findClass "LathePiecesLaw" = some m9.cls := findClass_of_methodNamed B9.named
  have hlocks := B9.notSynchronized
  have hK := cx_K hC h0
  have hS : va_S (aL s0) s.heap s.heap [] := va_S.rf
  have hnc := cx_nc hC h0
  obtain ⟨fs9, hrc⟩ := hW.recv ((ao, .inl (k 1, al 1 o9)) :: wr)
  have hl := lv_entry ([.ref cx, .int (iI (at9)), .int (iI (rd)), .ref ao]) (n := 5) (Nat.le_of_ble_eq_true rfl)
  rw [lg_entry_eq]
  generalize (lg_sl ([.ref cx, .int (iI (at9)), .int (iI (rd)), .ref ao]) ++ List.replicate (5 - (lg_sl ([.ref cx, .int (iI (at9)), .int (iI (rd)), .ref ao])).length) Slot.unset).toArray = ls at hl ⊢
  replace hl : lv_has ls 5 [(0, .ref cx), (1, .int (iI (at9))), (2, .int (iI (rd))), (3, .ref ao)] := hl
  refine lv_aload_n hx hb d_L_line_0 rfl (lv_at hl 3 rfl) ?_
  refine ri_iconst hx hb d_L_line_1 ?_
  refine lv_aload_n hx hb d_L_line_2 rfl (lv_at hl 0 rfl) ?_
  refine lv_iload_n hx hb d_L_line_3 rfl (lv_at hl 1 rfl) ?_
  refine lv_iload_n hx hb d_L_line_4 rfl (lv_at hl 2 rfl) ?_
  refine wd_callC h0 hS (ex_runV (C := "LathePieces") (As := [.int (iI (at9)), .int (iI (rd))]) (rest := [.int (iI (0)), .ref ao]) ⟨hx, hb, hml, hown, hG⟩ (o_line hC hI hW ((ao, .inl (k 1, al 1 o9)) :: wr) at9 rd hat hrd) (cb_code (n := 2) hG g_192 g_1 g_189 rfl rfl (by decide +kernel) ⟨Nat.le_of_ble_eq_true rfl, Nat.le_of_ble_eq_true rfl⟩) (hG _ g_190) (hG _ g_191) (kd_V (kd_preW h0 hS hP hD) (kd_recv hK hP (q0 := 2) (ci := 5) rfl hrc rfl)) rfl rfl hl.1 rfl (lv_room (Nat.le_of_ble_eq_true rfl)) d_L_line_5 ⟨Nat.le_of_ble_eq_true rfl, Nat.le_of_ble_eq_true rfl⟩) (fun E ws9 hE H locs hP hD hS q T0 hT0 hq => ?_) (fun v9 ws9 h9 H locs hP hD hS => ?_)
  · obtain ⟨wc', rfl, hW2, hE⟩ := hE
    rcases hE with ⟨rfl, hc⟩ | ⟨rfl, hc⟩
    · refine ex_catch (name := xIA) hown (tableOf []) ⟨0, 10, 13, 13⟩ (tableOf [(0, 10, 17, 19)]) (htab.trans rfl) (fun z hz => nomatch hz) rfl (by decide) (hG _ g_105) (cx_can hC h0 g_115 _) hT0 hq ?_
      refine lv_astore (lv' := [(4, .ref q), (0, .ref cx), (1, .int (iI (at9))), (2, .int (iI (rd))), (3, .ref ao)]) hx hb d_L_line_13 hl (by decide) rfl (fun ls hl => ?_)
      refine ri_iconst hx hb d_L_line_15 ?_
      exact re_i hx hb hr hlocks (fun t9 ht9 hW9 => ⟨_, ⟨wc', o9, 1, rfl, rfl, Or.inr (Or.inl ⟨rfl, hc, hW2⟩)⟩, wd_next h0 hS hP hD t9 ht9 hW9⟩) hS.2.2 (Nat.le_of_ble_eq_true rfl) (Nat.le_of_ble_eq_true rfl) d_L_line_16
    · refine ex_catch (name := xIS) hown (tableOf [(0, 10, 13, 13)]) ⟨0, 10, 17, 19⟩ (tableOf []) (htab.trans rfl) (fun z hz => by rw [List.mem_singleton.mp hz]; exact Or.inr ⟨by decide, xIA, hG _ g_105, hnc.2.1.1⟩) rfl (by decide) (hG _ g_188) (cx_can hC h0 g_202 _) hT0 hq ?_
      refine lv_astore (lv' := [(4, .ref q), (0, .ref cx), (1, .int (iI (at9))), (2, .int (iI (rd))), (3, .ref ao)]) hx hb d_L_line_17 hl (by decide) rfl (fun ls hl => ?_)
      refine ri_iconst hx hb d_L_line_19 ?_
      exact re_i hx hb hr hlocks (fun t9 ht9 hW9 => ⟨_, ⟨wc', o9, 2, rfl, rfl, Or.inr (Or.inr (⟨rfl, hc, hW2⟩))⟩, wd_next h0 hS hP hD t9 ht9 hW9⟩) hS.2.2 (Nat.le_of_ble_eq_true rfl) (Nat.le_of_ble_eq_true rfl) d_L_line_20
  · obtain ⟨wc', rfl, hc, rfl, hW2, hI2⟩ := h9
    show W _ _ _ _ _ _ _ _ _ _ _ _ _ _ _ (F0 m9 8 ls [.int (iI ((v 3) + 1)), .int (iI (0)), .ref ao])
    refine ri_i2lw hx hb d_L_line_8 ?_
    replace hP := wl_Pp hP List.perm_middle
    replace hD := wl_Dp hD List.perm_middle
    refine ra_last (v := tw ((v 3) + 1)) hx hb hK hP hD hS 0 rfl (by omega) (by omega) d_L_line_9 (fun H locs hP hD hS => ?_)
    have hP : va_P D classes ((ao, .inl (k 1, al 1 (zU o9 (0) (tw ((v 3) + 1))))) :: (wc' ++ wr)) H := hP
    have hD : va_D (fun q : Nat => s0.heap.size ≤ q) ((ao, .inl (k 1, al 1 (zU o9 (0) (tw ((v 3) + 1))))) :: (wc' ++ wr)) := hD
    replace hP := wl_Pp hP List.perm_middle.symm
    replace hD := wl_Dp hD List.perm_middle.symm
    refine lv_goto (tgt := 21) hx hb d_L_line_10 (by decide) ?_
    refine ri_iconst hx hb d_L_line_21 ?_
    exact re_i hx hb hr hlocks (fun t9 ht9 hW9 => ⟨_, ⟨wc', zU o9 0 (tw ((v 3) + 1)), 0, rfl, rfl, Or.inl ⟨rfl, hc, zU_eq, hW2, hI2⟩⟩, wd_next h0 hS hP hD t9 ht9 hW9⟩) hS.2.2 (Nat.le_of_ble_eq_true rfl) (Nat.le_of_ble_eq_true rfl) d_L_line_22
set_option maxHeartbeats 4000000 in
set_option maxRecDepth 100000 in
theorem w_arc {l : Launch} {s0 : State} {D : va_G} {k : Nat → ClassId} (hC : Cx l s0 D k) {cx : Nat} {v : Nat → Int} {f : Nat → Int → Int} {wc : va_W} (hI : Iv v f) (hW : Cst k cx v f wc) (wr : va_W) (ao : Nat) (o9 : Int → Int) (at9 rd : Int) (hat : In32 at9) (hrd : In32 rd) (xc xh up : Int) (hxc : In32 xc) (hxh : In32 xh) (hup : up = 0 ∨ up = 1) : WdM l s0 D y_L_arc { frames := 9, cells := 5, slots := 30, locals := 158 } [.ref cx, .int (iI (at9)), .int (iI (rd)), .int (iI (xc)), .int (iI (xh)), .int (iI (up)), .ref ao] (wc ++ ((ao, .inl (k 1, al 1 o9)) :: wr)) (fun v9 ws' => ∃ (wc' : va_W) (o' : Int → Int) (kz : Int), v9 = some (.int (iI (kz))) ∧ ws' = wc' ++ ((ao, .inl (k 1, al 1 o')) :: wr) ∧ (kz = 0 ∧ (((1 ≤ at9 ∧ at9 ≤ 64 ∧ 0 ≤ rd ∧ rd ≤ 500) ∧ (-200 ≤ xc ∧ xc ≤ 300) ∧ (-1000 ≤ xh ∧ xh ≤ 1500)) ∧ (v 1) = 1 ∧ pA (f 4) (v 3) < at9) ∧ (arcOk (pA (f 4) (v 3)) (pR (v 2) (f 5) (v 3)) at9 rd xc xh up ∧ o' 0 = 1 ∧ Cst k cx (vS (vS v 0 0) 3 (v 3 + 1)) (fS (fS (fS (fS (fS f 4 (zU (f 4) (v 3) at9)) 5 (zU (f 5) (v 3) rd)) 6 (zU (f 6) (v 3) (if up = 0 then 1 else 2))) 7 (zU (f 7) (v 3) xc)) 8 (zU (f 8) (v 3) xh)) wc' ∧ Iv (vS (vS v 0 0) 3 (v 3 + 1)) (fS (fS (fS (fS (fS f 4 (zU (f 4) (v 3) at9)) 5 (zU (f 5) (v 3) rd)) 6 (zU (f 6) (v 3) (if up = 0 then 1 else 2))) 7 (zU (f 7) (v 3) xc)) 8 (zU (f 8) (v 3) xh)) ∨ ¬ arcOk (pA (f 4) (v 3)) (pR (v 2) (f 5) (v 3)) at9 rd xc xh up ∧ o' 0 = 0 ∧ Cst k cx v f wc') ∨ kz = 1 ∧ (¬ ((1 ≤ at9 ∧ at9 ≤ 64 ∧ 0 ≤ rd ∧ rd ≤ 500) ∧ (-200 ≤ xc ∧ xc ≤ 300) ∧ (-1000 ≤ xh ∧ xh ≤ 1500)) ∨ (v 1) = 1 ∧ at9 ≤ pA (f 4) (v 3)) ∧ Cst k cx v f wc' ∨ kz = 2 ∧ (((1 ≤ at9 ∧ at9 ≤ 64 ∧ 0 ≤ rd ∧ rd ≤ 500) ∧ (-200 ≤ xc ∧ xc ≤ 300) ∧ (-1000 ≤ xh ∧ xh ≤ 1500)) ∧ (v 1) = 0) ∧ Cst k cx v f wc')) (fun _ _ => False) 5 30 := by
  refine ex_ofW (cc := b_L_arc) (maxL := 8) (ret := (some .int)) (hh := [(0, 23, 26, 13), (0, 23, 30, 19)]) (by decide +kernel) (Or.inr g_230) ?_
  intro p9 e9 s m9 args9 below9 meth9 c9 s9 B9 hml htab hv
  obtain ⟨rfl, h0, hP, hD⟩ := hv
  have hx := B9.exec
  have hb := B9.bytes
  have hr := B9.returns
  have hG := atoms_spec (ws := GW) B9.pre
  have hown : s.vm.findClass "LathePiecesLaw" = some m9.cls := findClass_of_methodNamed B9.named
  have hlocks := B9.notSynchronized
  have hK := cx_K hC h0
  have hS : va_S (aL s0) s.heap s.heap [] := va_S.rf
  have hnc := cx_nc hC h0
  obtain ⟨fs9, hrc⟩ := hW.recv ((ao, .inl (k 1, al 1 o9)) :: wr)
  have hl := lv_entry ([.ref cx, .int (iI (at9)), .int (iI (rd)), .int (iI (xc)), .int (iI (xh)), .int (iI (up)), .ref ao]) (n := 8) (Nat.le_of_ble_eq_true rfl)
  rw [lg_entry_eq]
  generalize (lg_sl ([.ref cx, .int (iI (at9)), .int (iI (rd)), .int (iI (xc)), .int (iI (xh)), .int (iI (up)), .ref ao]) ++ List.replicate (8 - (lg_sl ([.ref cx, .int (iI (at9)), .int (iI (rd)), .int (iI (xc)), .int (iI (xh)), .int (iI (up)), .ref ao])).length) Slot.unset).toArray = ls at hl ⊢
  replace hl : lv_has ls 8 [(0, .ref cx), (1, .int (iI (at9))), (2, .int (iI (rd))), (3, .int (iI (xc))), (4, .int (iI (xh))), (5, .int (iI (up))), (6, .ref ao)] := hl
  refine lv_aload hx hb d_L_arc_0 (lv_at hl 6 rfl) ?_
  refine ri_iconst hx hb d_L_arc_2 ?_
  refine lv_aload_n hx hb d_L_arc_3 rfl (lv_at hl 0 rfl) ?_
  refine lv_iload_n hx hb d_L_arc_4 rfl (lv_at hl 1 rfl) ?_
  refine lv_iload_n hx hb d_L_arc_5 rfl (lv_at hl 2 rfl) ?_
  refine lv_iload_n hx hb d_L_arc_6 rfl (lv_at hl 3 rfl) ?_
  refine lv_iload hx hb d_L_arc_7 (lv_at hl 4 rfl) ?_
  refine lv_iload hx hb d_L_arc_9 (lv_at hl 5 rfl) ?_
  refine wd_callC h0 hS (ex_runV (C := "LathePieces") (As := [.int (iI (at9)), .int (iI (rd)), .int (iI (xc)), .int (iI (xh)), .int (iI (up))]) (rest := [.int (iI (0)), .ref ao]) ⟨hx, hb, hml, hown, hG⟩ (o_arc hC hI hW ((ao, .inl (k 1, al 1 o9)) :: wr) at9 rd hat hrd xc xh up hxc hxh hup) (cb_code (n := 5) hG g_234 g_1 g_231 rfl rfl (by decide +kernel) ⟨Nat.le_of_ble_eq_true rfl, Nat.le_of_ble_eq_true rfl⟩) (hG _ g_232) (hG _ g_233) (kd_V (kd_preW h0 hS hP hD) (kd_recv hK hP (q0 := 2) (ci := 5) rfl hrc rfl)) rfl rfl hl.1 rfl (lv_room (Nat.le_of_ble_eq_true rfl)) d_L_arc_11 ⟨Nat.le_of_ble_eq_true rfl, Nat.le_of_ble_eq_true rfl⟩) (fun E ws9 hE H locs hP hD hS q T0 hT0 hq => ?_) (fun v9 ws9 h9 H locs hP hD hS => ?_)
  · obtain ⟨wc', rfl, hW2, hE⟩ := hE
    rcases hE with ⟨rfl, hc⟩ | ⟨rfl, hc⟩
    · refine ex_catch (name := xIA) hown (tableOf []) ⟨0, 23, 26, 13⟩ (tableOf [(0, 23, 30, 19)]) (htab.trans rfl) (fun z hz => nomatch hz) rfl (by decide) (hG _ g_105) (cx_can hC h0 g_115 _) hT0 hq ?_
      refine lv_astore (lv' := [(7, .ref q), (0, .ref cx), (1, .int (iI (at9))), (2, .int (iI (rd))), (3, .int (iI (xc))), (4, .int (iI (xh))), (5, .int (iI (up))), (6, .ref ao)]) hx hb d_L_arc_26 hl (by decide) rfl (fun ls hl => ?_)
      refine ri_iconst hx hb d_L_arc_28 ?_
      exact re_i hx hb hr hlocks (fun t9 ht9 hW9 => ⟨_, ⟨wc', o9, 1, rfl, rfl, Or.inr (Or.inl ⟨rfl, hc, hW2⟩)⟩, wd_next h0 hS hP hD t9 ht9 hW9⟩) hS.2.2 (Nat.le_of_ble_eq_true rfl) (Nat.le_of_ble_eq_true rfl) d_L_arc_29
    · refine ex_catch (name := xIS) hown (tableOf [(0, 23, 26, 13)]) ⟨0, 23, 30, 19⟩ (tableOf []) (htab.trans rfl) (fun z hz => by rw [List.mem_singleton.mp hz]; exact Or.inr ⟨by decide, xIA, hG _ g_105, hnc.2.1.1⟩) rfl (by decide) (hG _ g_188) (cx_can hC h0 g_202 _) hT0 hq ?_
      refine lv_astore (lv' := [(7, .ref q), (0, .ref cx), (1, .int (iI (at9))), (2, .int (iI (rd))), (3, .int (iI (xc))), (4, .int (iI (xh))), (5, .int (iI (up))), (6, .ref ao)]) hx hb d_L_arc_30 hl (by decide) rfl (fun ls hl => ?_)
      refine ri_iconst hx hb d_L_arc_32 ?_
      exact re_i hx hb hr hlocks (fun t9 ht9 hW9 => ⟨_, ⟨wc', o9, 2, rfl, rfl, Or.inr (Or.inr (⟨rfl, hc, hW2⟩))⟩, wd_next h0 hS hP hD t9 ht9 hW9⟩) hS.2.2 (Nat.le_of_ble_eq_true rfl) (Nat.le_of_ble_eq_true rfl) d_L_arc_33
  · obtain ⟨wc', rfl, hc, h9⟩ := h9
    rcases h9 with ⟨hok, rfl, hW2, hI2⟩ | ⟨hok, rfl, hW2⟩
    · show W _ _ _ _ _ _ _ _ _ _ _ _ _ _ _ (F0 m9 14 ls [.int (iI (1)), .int (iI (0)), .ref ao])
      refine ri_if_eq (tgt := 21) hx hb d_L_arc_14 (by decide) (by omega) (fun c14 => ?_) (fun c14 => ?_)
      · exact absurd c14 (by decide)
      · refine ri_lconst (z := 1) hx hb d_L_arc_17 rfl ?_
        refine lv_goto (tgt := 22) hx hb d_L_arc_18 (by decide) ?_
        replace hP := wl_Pp hP List.perm_middle
        replace hD := wl_Dp hD List.perm_middle
        refine ra_last (v := 1) hx hb hK hP hD hS 0 rfl (by omega) (by omega) d_L_arc_22 (fun H locs hP hD hS => ?_)
        have hP : va_P D classes ((ao, .inl (k 1, al 1 (zU o9 (0) (1)))) :: (wc' ++ wr)) H := hP
        have hD : va_D (fun q : Nat => s0.heap.size ≤ q) ((ao, .inl (k 1, al 1 (zU o9 (0) (1)))) :: (wc' ++ wr)) := hD
        replace hP := wl_Pp hP List.perm_middle.symm
        replace hD := wl_Dp hD List.perm_middle.symm
        refine lv_goto (tgt := 34) hx hb d_L_arc_23 (by decide) ?_
        refine ri_iconst hx hb d_L_arc_34 ?_
        exact re_i hx hb hr hlocks (fun t9 ht9 hW9 => ⟨_, ⟨wc', zU o9 0 (1), 0, rfl, rfl, Or.inl ⟨rfl, hc, Or.inl ⟨hok, zU_eq, hW2, hI2⟩⟩⟩, wd_next h0 hS hP hD t9 ht9 hW9⟩) hS.2.2 (Nat.le_of_ble_eq_true rfl) (Nat.le_of_ble_eq_true rfl) d_L_arc_35
    · show W _ _ _ _ _ _ _ _ _ _ _ _ _ _ _ (F0 m9 14 ls [.int (iI (0)), .int (iI (0)), .ref ao])
      refine ri_if_eq (tgt := 21) hx hb d_L_arc_14 (by decide) (by omega) (fun c14 => ?_) (fun c14 => ?_)
      · refine ri_lconst (z := 0) hx hb d_L_arc_21 rfl ?_
        replace hP := wl_Pp hP List.perm_middle
        replace hD := wl_Dp hD List.perm_middle
        refine ra_last (v := 0) hx hb hK hP hD hS 0 rfl (by omega) (by omega) d_L_arc_22 (fun H locs hP hD hS => ?_)
        have hP : va_P D classes ((ao, .inl (k 1, al 1 (zU o9 (0) (0)))) :: (wc' ++ wr)) H := hP
        have hD : va_D (fun q : Nat => s0.heap.size ≤ q) ((ao, .inl (k 1, al 1 (zU o9 (0) (0)))) :: (wc' ++ wr)) := hD
        replace hP := wl_Pp hP List.perm_middle.symm
        replace hD := wl_Dp hD List.perm_middle.symm
        refine lv_goto (tgt := 34) hx hb d_L_arc_23 (by decide) ?_
        refine ri_iconst hx hb d_L_arc_34 ?_
        exact re_i hx hb hr hlocks (fun t9 ht9 hW9 => ⟨_, ⟨wc', zU o9 0 (0), 0, rfl, rfl, Or.inl ⟨rfl, hc, Or.inr ⟨hok, zU_eq, hW2⟩⟩⟩, wd_next h0 hS hP hD t9 ht9 hW9⟩) hS.2.2 (Nat.le_of_ble_eq_true rfl) (Nat.le_of_ble_eq_true rfl) d_L_arc_35
      · exact absurd c14 (by decide)
set_option maxHeartbeats 4000000 in
set_option maxRecDepth 100000 in
theorem w_turn {l : Launch} {s0 : State} {D : va_G} {k : Nat → ClassId} (hC : Cx l s0 D k) {cx : Nat} {v : Nat → Int} {f : Nat → Int → Int} {wc : va_W} (hI : Iv v f) (hW : Cst k cx v f wc) (wr : va_W) (ao : Nat) (o9 : Int → Int)  : WdM l s0 D y_L_turn { frames := 7, cells := 2, slots := 69, locals := 155 } [.ref cx, .ref ao] (wc ++ ((ao, .inl (k 1, al 1 o9)) :: wr)) (fun v9 ws' => ∃ (wc' : va_W) (o' : Int → Int) (kz : Int), v9 = some (.int (iI (kz))) ∧ ws' = wc' ++ ((ao, .inl (k 1, al 1 o')) :: wr) ∧ (kz = 0 ∧ ((v 9) < 6 ∧ ¬ (v 3) = 0) ∧ o' 0 = tw (v 9) ∧ (∀ g12 : Int → Int, (g12 (65 * v 9) = v 2 ∧ (∀ j : Int, j < 65 * v 9 → g12 j = f 12 j) ∧ ∀ w x : Int, 0 ≤ w → w < v 3 → pA (f 4) w < x → x ≤ f 4 w → g12 (65 * v 9 + x) = wyF (v 2) (f 4) (f 5) (f 6) (f 7) (f 8) w x) → Cst k cx (vS (vS v 0 0) 9 (v 9 + 1)) (fS (fS (fS f 10 (zU (f 10) (v 9) (pA (f 4) (v 3)))) 11 (zU (f 11) (v 9) (v 3))) 12 g12) wc' ∧ Iv (vS (vS v 0 0) 9 (v 9 + 1)) (fS (fS (fS f 10 (zU (f 10) (v 9) (pA (f 4) (v 3)))) 11 (zU (f 11) (v 9) (v 3))) 12 g12)) ∨ kz = 1 ∧ ¬ ((v 9) < 6 ∧ ¬ (v 3) = 0) ∧ Cst k cx v f wc')) (fun _ _ => False) 2 69 := by
  refine ex_ofW (cc := b_L_turn) (maxL := 3) (ret := (some .int)) (hh := [(0, 8, 11, 19)]) (by decide +kernel) (Or.inr g_257) ?_
  intro p9 e9 s m9 args9 below9 meth9 c9 s9 B9 hml htab hv
  obtain ⟨rfl, h0, hP, hD⟩ := hv
  have hx := B9.exec
  have hb := B9.bytes
  have hr := B9.returns
  have hG := atoms_spec (ws := GW) B9.pre
  have hown : s.vm.findClass "LathePiecesLaw" = some m9.cls := findClass_of_methodNamed B9.named
  have hlocks := B9.notSynchronized
  have hK := cx_K hC h0
  have hS : va_S (aL s0) s.heap s.heap [] := va_S.rf
  have hnc := cx_nc hC h0
  obtain ⟨fs9, hrc⟩ := hW.recv ((ao, .inl (k 1, al 1 o9)) :: wr)
  have hl := lv_entry ([.ref cx, .ref ao]) (n := 3) (Nat.le_of_ble_eq_true rfl)
  rw [lg_entry_eq]
  generalize (lg_sl ([.ref cx, .ref ao]) ++ List.replicate (3 - (lg_sl ([.ref cx, .ref ao])).length) Slot.unset).toArray = ls at hl ⊢
  replace hl : lv_has ls 3 [(0, .ref cx), (1, .ref ao)] := hl
  refine lv_aload_n hx hb d_L_turn_0 rfl (lv_at hl 1 rfl) ?_
  refine ri_iconst hx hb d_L_turn_1 ?_
  refine lv_aload_n hx hb d_L_turn_2 rfl (lv_at hl 0 rfl) ?_
  refine wd_callC h0 hS (ex_runV (C := "LathePieces") (As := []) (rest := [.int (iI (0)), .ref ao]) ⟨hx, hb, hml, hown, hG⟩ (o_turn hC hI hW ((ao, .inl (k 1, al 1 o9)) :: wr) ) (cb_code (n := 0) hG g_261 g_1 g_258 rfl rfl (by decide +kernel) ⟨Nat.le_of_ble_eq_true rfl, Nat.le_of_ble_eq_true rfl⟩) (hG _ g_259) (hG _ g_260) (kd_V (kd_preW h0 hS hP hD) (kd_recv hK hP (q0 := 2) (ci := 5) rfl hrc rfl)) rfl rfl hl.1 rfl (lv_room (Nat.le_of_ble_eq_true rfl)) d_L_turn_3 ⟨Nat.le_of_ble_eq_true rfl, Nat.le_of_ble_eq_true rfl⟩) (fun E ws9 hE H locs hP hD hS q T0 hT0 hq => ?_) (fun v9 ws9 h9 H locs hP hD hS => ?_)
  · obtain ⟨wc', rfl, hW2, hE⟩ := hE
    obtain ⟨rfl, hc⟩ := hE
    refine ex_catch (name := xIS) hown (tableOf []) ⟨0, 8, 11, 19⟩ (tableOf []) (htab.trans rfl) (fun z hz => nomatch hz) rfl (by decide) (hG _ g_188) (cx_can hC h0 g_202 _) hT0 hq ?_
    refine lv_astore_n (lv' := [(2, .ref q), (0, .ref cx), (1, .ref ao)]) hx hb d_L_turn_11 rfl hl (by decide) rfl (fun ls hl => ?_)
    refine ri_iconst hx hb d_L_turn_12 ?_
    exact re_i hx hb hr hlocks (fun t9 ht9 hW9 => ⟨_, ⟨wc', o9, 1, rfl, rfl, Or.inr (⟨rfl, hc, hW2⟩)⟩, wd_next h0 hS hP hD t9 ht9 hW9⟩) hS.2.2 (Nat.le_of_ble_eq_true rfl) (Nat.le_of_ble_eq_true rfl) d_L_turn_13
  · obtain ⟨wc', rfl, hc, rfl, hW2⟩ := h9
    show W _ _ _ _ _ _ _ _ _ _ _ _ _ _ _ (F0 m9 6 ls [.int (iI (v 9)), .int (iI (0)), .ref ao])
    refine ri_i2lw hx hb d_L_turn_6 ?_
    replace hP := wl_Pp hP List.perm_middle
    replace hD := wl_Dp hD List.perm_middle
    refine ra_last (v := tw (v 9)) hx hb hK hP hD hS 0 rfl (by omega) (by omega) d_L_turn_7 (fun H locs hP hD hS => ?_)
    have hP : va_P D classes ((ao, .inl (k 1, al 1 (zU o9 (0) (tw (v 9))))) :: (wc' ++ wr)) H := hP
    have hD : va_D (fun q : Nat => s0.heap.size ≤ q) ((ao, .inl (k 1, al 1 (zU o9 (0) (tw (v 9))))) :: (wc' ++ wr)) := hD
    replace hP := wl_Pp hP List.perm_middle.symm
    replace hD := wl_Dp hD List.perm_middle.symm
    refine lv_goto (tgt := 14) hx hb d_L_turn_8 (by decide) ?_
    refine ri_iconst hx hb d_L_turn_14 ?_
    exact re_i hx hb hr hlocks (fun t9 ht9 hW9 => ⟨_, ⟨wc', zU o9 0 (tw (v 9)), 0, rfl, rfl, Or.inl ⟨rfl, hc, zU_eq, hW2⟩⟩, wd_next h0 hS hP hD t9 ht9 hW9⟩) hS.2.2 (Nat.le_of_ble_eq_true rfl) (Nat.le_of_ble_eq_true rfl) d_L_turn_15
set_option maxHeartbeats 4000000 in
set_option maxRecDepth 100000 in
theorem w_radius {l : Launch} {s0 : State} {D : va_G} {k : Nat → ClassId} (hC : Cx l s0 D k) {cx : Nat} {v : Nat → Int} {f : Nat → Int → Int} {wc : va_W} (hI : Iv v f) (hW : Cst k cx v f wc) (wr : va_W) (ao : Nat) (o9 : Int → Int) (p x : Int) (hp : In32 p) (hx9 : In32 x) : WdM l s0 D y_L_radius { frames := 9, cells := 2, slots := 12, locals := 157 } [.ref cx, .int (iI (p)), .int (iI (x)), .ref ao] (wc ++ ((ao, .inl (k 1, al 1 o9)) :: wr)) (fun v9 ws' => ∃ (wc' : va_W) (o' : Int → Int) (kz : Int), v9 = some (.int (iI (kz))) ∧ ws' = wc' ++ ((ao, .inl (k 1, al 1 o')) :: wr) ∧ (kz = 0 ∧ (0 ≤ p ∧ p < (v 9) ∧ 0 ≤ x ∧ x ≤ (f 10) p) ∧ o' 0 = tw ((f 12) (65 * p + x)) ∧ Cst k cx v f wc' ∧ Iv v f ∨ kz = 1 ∧ ¬ (0 ≤ p ∧ p < (v 9) ∧ 0 ≤ x ∧ x ≤ (f 10) p) ∧ Cst k cx v f wc')) (fun _ _ => False) 2 12 := by
  refine ex_ofW (cc := b_L_radius) (maxL := 5) (ret := (some .int)) (hh := [(0, 10, 13, 32)]) (by decide +kernel) (Or.inr g_302) ?_
  intro p9 e9 s m9 args9 below9 meth9 c9 s9 B9 hml htab hv
  obtain ⟨rfl, h0, hP, hD⟩ := hv
  have hx := B9.exec
  have hb := B9.bytes
  have hr := B9.returns
  have hG := atoms_spec (ws := GW) B9.pre
  have hown : s.vm.findClass "LathePiecesLaw" = some m9.cls := findClass_of_methodNamed B9.named
  have hlocks := B9.notSynchronized
  have hK := cx_K hC h0
  have hS : va_S (aL s0) s.heap s.heap [] := va_S.rf
  have hnc := cx_nc hC h0
  obtain ⟨fs9, hrc⟩ := hW.recv ((ao, .inl (k 1, al 1 o9)) :: wr)
  have hl := lv_entry ([.ref cx, .int (iI (p)), .int (iI (x)), .ref ao]) (n := 5) (Nat.le_of_ble_eq_true rfl)
  rw [lg_entry_eq]
  generalize (lg_sl ([.ref cx, .int (iI (p)), .int (iI (x)), .ref ao]) ++ List.replicate (5 - (lg_sl ([.ref cx, .int (iI (p)), .int (iI (x)), .ref ao])).length) Slot.unset).toArray = ls at hl ⊢
  replace hl : lv_has ls 5 [(0, .ref cx), (1, .int (iI (p))), (2, .int (iI (x))), (3, .ref ao)] := hl
  refine lv_aload_n hx hb d_L_radius_0 rfl (lv_at hl 3 rfl) ?_
  refine ri_iconst hx hb d_L_radius_1 ?_
  refine lv_aload_n hx hb d_L_radius_2 rfl (lv_at hl 0 rfl) ?_
  refine lv_iload_n hx hb d_L_radius_3 rfl (lv_at hl 1 rfl) ?_
  refine lv_iload_n hx hb d_L_radius_4 rfl (lv_at hl 2 rfl) ?_
  refine wd_callC h0 hS (ex_runV (C := "LathePieces") (As := [.int (iI (p)), .int (iI (x))]) (rest := [.int (iI (0)), .ref ao]) ⟨hx, hb, hml, hown, hG⟩ (o_radius hC hI hW ((ao, .inl (k 1, al 1 o9)) :: wr) p x hp hx9) (cb_code (n := 2) hG g_307 g_1 g_304 rfl rfl (by decide +kernel) ⟨Nat.le_of_ble_eq_true rfl, Nat.le_of_ble_eq_true rfl⟩) (hG _ g_305) (hG _ g_306) (kd_V (kd_preW h0 hS hP hD) (kd_recv hK hP (q0 := 2) (ci := 5) rfl hrc rfl)) rfl rfl hl.1 rfl (lv_room (Nat.le_of_ble_eq_true rfl)) d_L_radius_5 ⟨Nat.le_of_ble_eq_true rfl, Nat.le_of_ble_eq_true rfl⟩) (fun E ws9 hE H locs hP hD hS q T0 hT0 hq => ?_) (fun v9 ws9 h9 H locs hP hD hS => ?_)
  · obtain ⟨wc', rfl, hW2, hE⟩ := hE
    obtain ⟨rfl, hc⟩ := hE
    refine ex_catch (name := xIO) hown (tableOf []) ⟨0, 10, 13, 32⟩ (tableOf []) (htab.trans rfl) (fun z hz => nomatch hz) rfl (by decide) (hG _ g_303) (cx_can hC h0 g_318 _) hT0 hq ?_
    refine lv_astore (lv' := [(4, .ref q), (0, .ref cx), (1, .int (iI (p))), (2, .int (iI (x))), (3, .ref ao)]) hx hb d_L_radius_13 hl (by decide) rfl (fun ls hl => ?_)
    refine ri_iconst hx hb d_L_radius_15 ?_
    exact re_i hx hb hr hlocks (fun t9 ht9 hW9 => ⟨_, ⟨wc', o9, 1, rfl, rfl, Or.inr (⟨rfl, hc, hW2⟩)⟩, wd_next h0 hS hP hD t9 ht9 hW9⟩) hS.2.2 (Nat.le_of_ble_eq_true rfl) (Nat.le_of_ble_eq_true rfl) d_L_radius_16
  · obtain ⟨wc', rfl, hc, rfl, hW2, hI2⟩ := h9
    show W _ _ _ _ _ _ _ _ _ _ _ _ _ _ _ (F0 m9 8 ls [.int (iI ((f 12) (65 * p + x))), .int (iI (0)), .ref ao])
    refine ri_i2lw hx hb d_L_radius_8 ?_
    replace hP := wl_Pp hP List.perm_middle
    replace hD := wl_Dp hD List.perm_middle
    refine ra_last (v := tw ((f 12) (65 * p + x))) hx hb hK hP hD hS 0 rfl (by omega) (by omega) d_L_radius_9 (fun H locs hP hD hS => ?_)
    have hP : va_P D classes ((ao, .inl (k 1, al 1 (zU o9 (0) (tw ((f 12) (65 * p + x)))))) :: (wc' ++ wr)) H := hP
    have hD : va_D (fun q : Nat => s0.heap.size ≤ q) ((ao, .inl (k 1, al 1 (zU o9 (0) (tw ((f 12) (65 * p + x)))))) :: (wc' ++ wr)) := hD
    replace hP := wl_Pp hP List.perm_middle.symm
    replace hD := wl_Dp hD List.perm_middle.symm
    refine lv_goto (tgt := 17) hx hb d_L_radius_10 (by decide) ?_
    refine ri_iconst hx hb d_L_radius_17 ?_
    exact re_i hx hb hr hlocks (fun t9 ht9 hW9 => ⟨_, ⟨wc', zU o9 0 (tw ((f 12) (65 * p + x))), 0, rfl, rfl, Or.inl ⟨rfl, hc, zU_eq, hW2, hI2⟩⟩, wd_next h0 hS hP hD t9 ht9 hW9⟩) hS.2.2 (Nat.le_of_ble_eq_true rfl) (Nat.le_of_ble_eq_true rfl) d_L_radius_18
set_option maxHeartbeats 4000000 in
set_option maxRecDepth 100000 in
theorem w_about {l : Launch} {s0 : State} {D : va_G} {k : Nat → ClassId} (hC : Cx l s0 D k) {cx : Nat} {v : Nat → Int} {f : Nat → Int → Int} {wc : va_W} (hI : Iv v f) (hW : Cst k cx v f wc) (wr : va_W) (ao : Nat) (o9 : Int → Int) (p wh : Int) (hp : In32 p) (hwh : In32 wh) : WdM l s0 D y_L_about { frames := 8, cells := 2, slots := 12, locals := 135 } [.ref cx, .int (iI (p)), .int (iI (wh)), .ref ao] (wc ++ ((ao, .inl (k 1, al 1 o9)) :: wr)) (fun v9 ws' => ∃ (wc' : va_W) (o' : Int → Int) (kz : Int), v9 = some (.int (iI (kz))) ∧ ws' = wc' ++ ((ao, .inl (k 1, al 1 o')) :: wr) ∧ (kz = 0 ∧ (0 ≤ p ∧ p < (v 9) ∧ 0 ≤ wh ∧ wh ≤ 2) ∧ o' 0 = tw (if wh = 0 then (f 10) p else if wh = 1 then (itF max (fun j => (f 12) (65 * p + j)) 0 0 (((f 10) p).toNat + 1) + 3) else (f 11) p) ∧ Cst k cx v f wc' ∧ Iv v f ∨ kz = 1 ∧ ¬ (0 ≤ p ∧ p < (v 9) ∧ 0 ≤ wh ∧ wh ≤ 2) ∧ Cst k cx v f wc')) (fun _ _ => False) 2 12 := by
  refine ex_ofW (cc := b_L_about) (maxL := 5) (ret := (some .int)) (hh := [(0, 10, 13, 32)]) (by decide +kernel) (Or.inr g_335) ?_
  intro p9 e9 s m9 args9 below9 meth9 c9 s9 B9 hml htab hv
  obtain ⟨rfl, h0, hP, hD⟩ := hv
  have hx := B9.exec
  have hb := B9.bytes
  have hr := B9.returns
  have hG := atoms_spec (ws := GW) B9.pre
  have hown : s.vm.findClass "LathePiecesLaw" = some m9.cls := findClass_of_methodNamed B9.named
  have hlocks := B9.notSynchronized
  have hK := cx_K hC h0
  have hS : va_S (aL s0) s.heap s.heap [] := va_S.rf
  have hnc := cx_nc hC h0
  obtain ⟨fs9, hrc⟩ := hW.recv ((ao, .inl (k 1, al 1 o9)) :: wr)
  have hl := lv_entry ([.ref cx, .int (iI (p)), .int (iI (wh)), .ref ao]) (n := 5) (Nat.le_of_ble_eq_true rfl)
  rw [lg_entry_eq]
  generalize (lg_sl ([.ref cx, .int (iI (p)), .int (iI (wh)), .ref ao]) ++ List.replicate (5 - (lg_sl ([.ref cx, .int (iI (p)), .int (iI (wh)), .ref ao])).length) Slot.unset).toArray = ls at hl ⊢
  replace hl : lv_has ls 5 [(0, .ref cx), (1, .int (iI (p))), (2, .int (iI (wh))), (3, .ref ao)] := hl
  refine lv_aload_n hx hb d_L_about_0 rfl (lv_at hl 3 rfl) ?_
  refine ri_iconst hx hb d_L_about_1 ?_
  refine lv_aload_n hx hb d_L_about_2 rfl (lv_at hl 0 rfl) ?_
  refine lv_iload_n hx hb d_L_about_3 rfl (lv_at hl 1 rfl) ?_
  refine lv_iload_n hx hb d_L_about_4 rfl (lv_at hl 2 rfl) ?_
  refine wd_callC h0 hS (ex_runV (C := "LathePieces") (As := [.int (iI (p)), .int (iI (wh))]) (rest := [.int (iI (0)), .ref ao]) ⟨hx, hb, hml, hown, hG⟩ (o_about hC hI hW ((ao, .inl (k 1, al 1 o9)) :: wr) p wh hp hwh) (cb_code (n := 2) hG g_339 g_1 g_336 rfl rfl (by decide +kernel) ⟨Nat.le_of_ble_eq_true rfl, Nat.le_of_ble_eq_true rfl⟩) (hG _ g_337) (hG _ g_338) (kd_V (kd_preW h0 hS hP hD) (kd_recv hK hP (q0 := 2) (ci := 5) rfl hrc rfl)) rfl rfl hl.1 rfl (lv_room (Nat.le_of_ble_eq_true rfl)) d_L_about_5 ⟨Nat.le_of_ble_eq_true rfl, Nat.le_of_ble_eq_true rfl⟩) (fun E ws9 hE H locs hP hD hS q T0 hT0 hq => ?_) (fun v9 ws9 h9 H locs hP hD hS => ?_)
  · obtain ⟨wc', rfl, hW2, hE⟩ := hE
    obtain ⟨rfl, hc⟩ := hE
    refine ex_catch (name := xIO) hown (tableOf []) ⟨0, 10, 13, 32⟩ (tableOf []) (htab.trans rfl) (fun z hz => nomatch hz) rfl (by decide) (hG _ g_303) (cx_can hC h0 g_318 _) hT0 hq ?_
    refine lv_astore (lv' := [(4, .ref q), (0, .ref cx), (1, .int (iI (p))), (2, .int (iI (wh))), (3, .ref ao)]) hx hb d_L_about_13 hl (by decide) rfl (fun ls hl => ?_)
    refine ri_iconst hx hb d_L_about_15 ?_
    exact re_i hx hb hr hlocks (fun t9 ht9 hW9 => ⟨_, ⟨wc', o9, 1, rfl, rfl, Or.inr (⟨rfl, hc, hW2⟩)⟩, wd_next h0 hS hP hD t9 ht9 hW9⟩) hS.2.2 (Nat.le_of_ble_eq_true rfl) (Nat.le_of_ble_eq_true rfl) d_L_about_16
  · obtain ⟨wc', rfl, hc, rfl, hW2, hI2⟩ := h9
    show W _ _ _ _ _ _ _ _ _ _ _ _ _ _ _ (F0 m9 8 ls [.int (iI (if wh = 0 then (f 10) p else if wh = 1 then (itF max (fun j => (f 12) (65 * p + j)) 0 0 (((f 10) p).toNat + 1) + 3) else (f 11) p)), .int (iI (0)), .ref ao])
    refine ri_i2lw hx hb d_L_about_8 ?_
    replace hP := wl_Pp hP List.perm_middle
    replace hD := wl_Dp hD List.perm_middle
    refine ra_last (v := tw (if wh = 0 then (f 10) p else if wh = 1 then (itF max (fun j => (f 12) (65 * p + j)) 0 0 (((f 10) p).toNat + 1) + 3) else (f 11) p)) hx hb hK hP hD hS 0 rfl (by omega) (by omega) d_L_about_9 (fun H locs hP hD hS => ?_)
    have hP : va_P D classes ((ao, .inl (k 1, al 1 (zU o9 (0) (tw (if wh = 0 then (f 10) p else if wh = 1 then (itF max (fun j => (f 12) (65 * p + j)) 0 0 (((f 10) p).toNat + 1) + 3) else (f 11) p))))) :: (wc' ++ wr)) H := hP
    have hD : va_D (fun q : Nat => s0.heap.size ≤ q) ((ao, .inl (k 1, al 1 (zU o9 (0) (tw (if wh = 0 then (f 10) p else if wh = 1 then (itF max (fun j => (f 12) (65 * p + j)) 0 0 (((f 10) p).toNat + 1) + 3) else (f 11) p))))) :: (wc' ++ wr)) := hD
    replace hP := wl_Pp hP List.perm_middle.symm
    replace hD := wl_Dp hD List.perm_middle.symm
    refine lv_goto (tgt := 17) hx hb d_L_about_10 (by decide) ?_
    refine ri_iconst hx hb d_L_about_17 ?_
    exact re_i hx hb hr hlocks (fun t9 ht9 hW9 => ⟨_, ⟨wc', zU o9 0 (tw (if wh = 0 then (f 10) p else if wh = 1 then (itF max (fun j => (f 12) (65 * p + j)) 0 0 (((f 10) p).toNat + 1) + 3) else (f 11) p)), 0, rfl, rfl, Or.inl ⟨rfl, hc, zU_eq, hW2, hI2⟩⟩, wd_next h0 hS hP hD t9 ht9 hW9⟩) hS.2.2 (Nat.le_of_ble_eq_true rfl) (Nat.le_of_ble_eq_true rfl) d_L_about_18
set_option maxHeartbeats 4000000 in
set_option maxRecDepth 100000 in
theorem w_tool {l : Launch} {s0 : State} {D : va_G} {k : Nat → ClassId} (hC : Cx l s0 D k) {cx : Nat} {v : Nat → Int} {f : Nat → Int → Int} {wc : va_W} (hI : Iv v f) (hW : Cst k cx v f wc) (wr : va_W) (ao : Nat) (o9 : Int → Int) (n9 : Int) (hn9 : In32 n9) : WdM l s0 D y_L_tool { frames := 8, cells := 3, slots := 20, locals := 133 } [.ref cx, .int (iI (n9)), .ref ao] (wc ++ ((ao, .inl (k 1, al 1 o9)) :: wr)) (fun v9 ws' => ∃ (wc' : va_W) (o' : Int → Int) (kz : Int), v9 = some (.int (iI (kz))) ∧ ws' = wc' ++ ((ao, .inl (k 1, al 1 o')) :: wr) ∧ (kz = 0 ∧ ((0 ≤ n9 ∧ n9 ≤ 12) ∧ (v 13) < 6) ∧ o' 0 = tw ((v 13)) ∧ Cst k cx (vS (vS v 0 0) 13 (v 13 + 1)) (fS f 14 (zU (f 14) (v 13) n9)) wc' ∧ Iv (vS (vS v 0 0) 13 (v 13 + 1)) (fS f 14 (zU (f 14) (v 13) n9)) ∨ kz = 1 ∧ ¬ (0 ≤ n9 ∧ n9 ≤ 12) ∧ Cst k cx v f wc' ∨ kz = 2 ∧ ((0 ≤ n9 ∧ n9 ≤ 12) ∧ ¬ (v 13) < 6) ∧ Cst k cx v f wc')) (fun _ _ => False) 3 20 := by
  refine ex_ofW (cc := b_L_tool) (maxL := 4) (ret := (some .int)) (hh := [(0, 9, 12, 13), (0, 9, 15, 19)]) (by decide +kernel) (Or.inr g_343) ?_
  intro p9 e9 s m9 args9 below9 meth9 c9 s9 B9 hml htab hv
  obtain ⟨rfl, h0, hP, hD⟩ := hv
  have hx := B9.exec
  have hb := B9.bytes
  have hr := B9.returns
  have hG := atoms_spec (ws := GW) B9.pre
  have hown : s.vm.findClass "LathePiecesLaw" = some m9.cls := findClass_of_methodNamed B9.named
  have hlocks := B9.notSynchronized
  have hK := cx_K hC h0
  have hS : va_S (aL s0) s.heap s.heap [] := va_S.rf
  have hnc := cx_nc hC h0
  obtain ⟨fs9, hrc⟩ := hW.recv ((ao, .inl (k 1, al 1 o9)) :: wr)
  have hl := lv_entry ([.ref cx, .int (iI (n9)), .ref ao]) (n := 4) (Nat.le_of_ble_eq_true rfl)
  rw [lg_entry_eq]
  generalize (lg_sl ([.ref cx, .int (iI (n9)), .ref ao]) ++ List.replicate (4 - (lg_sl ([.ref cx, .int (iI (n9)), .ref ao])).length) Slot.unset).toArray = ls at hl ⊢
  replace hl : lv_has ls 4 [(0, .ref cx), (1, .int (iI (n9))), (2, .ref ao)] := hl
  refine lv_aload_n hx hb d_L_tool_0 rfl (lv_at hl 2 rfl) ?_
  refine ri_iconst hx hb d_L_tool_1 ?_
  refine lv_aload_n hx hb d_L_tool_2 rfl (lv_at hl 0 rfl) ?_
  refine lv_iload_n hx hb d_L_tool_3 rfl (lv_at hl 1 rfl) ?_
  refine wd_callC h0 hS (ex_runV (C := "LathePieces") (As := [.int (iI (n9))]) (rest := [.int (iI (0)), .ref ao]) ⟨hx, hb, hml, hown, hG⟩ (o_tool hC hI hW ((ao, .inl (k 1, al 1 o9)) :: wr) n9 hn9) (cb_code (n := 1) hG g_347 g_1 g_344 rfl rfl (by decide +kernel) ⟨Nat.le_of_ble_eq_true rfl, Nat.le_of_ble_eq_true rfl⟩) (hG _ g_345) (hG _ g_346) (kd_V (kd_preW h0 hS hP hD) (kd_recv hK hP (q0 := 2) (ci := 5) rfl hrc rfl)) rfl rfl hl.1 rfl (lv_room (Nat.le_of_ble_eq_true rfl)) d_L_tool_4 ⟨Nat.le_of_ble_eq_true rfl, Nat.le_of_ble_eq_true rfl⟩) (fun E ws9 hE H locs hP hD hS q T0 hT0 hq => ?_) (fun v9 ws9 h9 H locs hP hD hS => ?_)
  · obtain ⟨wc', rfl, hW2, hE⟩ := hE
    rcases hE with ⟨rfl, hc⟩ | ⟨rfl, hc⟩
    · refine ex_catch (name := xIA) hown (tableOf []) ⟨0, 9, 12, 13⟩ (tableOf [(0, 9, 15, 19)]) (htab.trans rfl) (fun z hz => nomatch hz) rfl (by decide) (hG _ g_105) (cx_can hC h0 g_115 _) hT0 hq ?_
      refine lv_astore_n (lv' := [(3, .ref q), (0, .ref cx), (1, .int (iI (n9))), (2, .ref ao)]) hx hb d_L_tool_12 rfl hl (by decide) rfl (fun ls hl => ?_)
      refine ri_iconst hx hb d_L_tool_13 ?_
      exact re_i hx hb hr hlocks (fun t9 ht9 hW9 => ⟨_, ⟨wc', o9, 1, rfl, rfl, Or.inr (Or.inl ⟨rfl, hc, hW2⟩)⟩, wd_next h0 hS hP hD t9 ht9 hW9⟩) hS.2.2 (Nat.le_of_ble_eq_true rfl) (Nat.le_of_ble_eq_true rfl) d_L_tool_14
    · refine ex_catch (name := xIS) hown (tableOf [(0, 9, 12, 13)]) ⟨0, 9, 15, 19⟩ (tableOf []) (htab.trans rfl) (fun z hz => by rw [List.mem_singleton.mp hz]; exact Or.inr ⟨by decide, xIA, hG _ g_105, hnc.2.1.1⟩) rfl (by decide) (hG _ g_188) (cx_can hC h0 g_202 _) hT0 hq ?_
      refine lv_astore_n (lv' := [(3, .ref q), (0, .ref cx), (1, .int (iI (n9))), (2, .ref ao)]) hx hb d_L_tool_15 rfl hl (by decide) rfl (fun ls hl => ?_)
      refine ri_iconst hx hb d_L_tool_16 ?_
      exact re_i hx hb hr hlocks (fun t9 ht9 hW9 => ⟨_, ⟨wc', o9, 2, rfl, rfl, Or.inr (Or.inr (⟨rfl, hc, hW2⟩))⟩, wd_next h0 hS hP hD t9 ht9 hW9⟩) hS.2.2 (Nat.le_of_ble_eq_true rfl) (Nat.le_of_ble_eq_true rfl) d_L_tool_17
  · obtain ⟨wc', rfl, hc, rfl, hW2, hI2⟩ := h9
    show W _ _ _ _ _ _ _ _ _ _ _ _ _ _ _ (F0 m9 7 ls [.int (iI ((v 13))), .int (iI (0)), .ref ao])
    refine ri_i2lw hx hb d_L_tool_7 ?_
    replace hP := wl_Pp hP List.perm_middle
    replace hD := wl_Dp hD List.perm_middle
    refine ra_last (v := tw ((v 13))) hx hb hK hP hD hS 0 rfl (by omega) (by omega) d_L_tool_8 (fun H locs hP hD hS => ?_)
    have hP : va_P D classes ((ao, .inl (k 1, al 1 (zU o9 (0) (tw ((v 13)))))) :: (wc' ++ wr)) H := hP
    have hD : va_D (fun q : Nat => s0.heap.size ≤ q) ((ao, .inl (k 1, al 1 (zU o9 (0) (tw ((v 13)))))) :: (wc' ++ wr)) := hD
    replace hP := wl_Pp hP List.perm_middle.symm
    replace hD := wl_Dp hD List.perm_middle.symm
    refine lv_goto (tgt := 18) hx hb d_L_tool_9 (by decide) ?_
    refine ri_iconst hx hb d_L_tool_18 ?_
    exact re_i hx hb hr hlocks (fun t9 ht9 hW9 => ⟨_, ⟨wc', zU o9 0 (tw ((v 13))), 0, rfl, rfl, Or.inl ⟨rfl, hc, zU_eq, hW2, hI2⟩⟩, wd_next h0 hS hP hD t9 ht9 hW9⟩) hS.2.2 (Nat.le_of_ble_eq_true rfl) (Nat.le_of_ble_eq_true rfl) d_L_tool_19
set_option maxHeartbeats 4000000 in
set_option maxRecDepth 100000 in
theorem w_reached {l : Launch} {s0 : State} {D : va_G} {k : Nat → ClassId} (hC : Cx l s0 D k) {cx : Nat} {v : Nat → Int} {f : Nat → Int → Int} {wc : va_W} (hI : Iv v f) (hW : Cst k cx v f wc) (wr : va_W) (ao : Nat) (o9 : Int → Int) (p t : Int) (hp : In32 p) (ht : In32 t) (x : Int) (hx9 : In32 x) : WdM l s0 D y_L_reached { frames := 9, cells := 6, slots := 149, locals := 162 } [.ref cx, .int (iI (p)), .int (iI (t)), .int (iI (x)), .ref ao] (wc ++ ((ao, .inl (k 1, al 1 o9)) :: wr)) (fun v9 ws' => ∃ (wc' : va_W) (o' : Int → Int) (kz : Int), v9 = some (.int (iI (kz))) ∧ ws' = wc' ++ ((ao, .inl (k 1, al 1 o')) :: wr) ∧ (kz = 0 ∧ (0 ≤ p ∧ p < (v 9) ∧ 0 ≤ t ∧ t < (v 13) ∧ 0 ≤ x ∧ x ≤ (f 10) p) ∧ o' 0 = tw ((loA (fun j => (f 12) (65 * p + j)) (htF ((f 14) t).toNat) ((f 14) t).toNat ((f 10) p).toNat) x) ∧ Cst k cx v f wc' ∧ Iv v f ∨ kz = 1 ∧ ¬ (0 ≤ p ∧ p < (v 9) ∧ 0 ≤ t ∧ t < (v 13) ∧ 0 ≤ x ∧ x ≤ (f 10) p) ∧ Cst k cx v f wc')) (fun _ _ => False) 6 149 := by
  refine ex_ofW (cc := b_L_reached) (maxL := 6) (ret := (some .int)) (hh := [(0, 12, 15, 32)]) (by decide +kernel) (Or.inr g_362) ?_
  intro p9 e9 s m9 args9 below9 meth9 c9 s9 B9 hml htab hv
  obtain ⟨rfl, h0, hP, hD⟩ := hv
  have hx := B9.exec
  have hb := B9.bytes
  have hr := B9.returns
  have hG := atoms_spec (ws := GW) B9.pre
  have hown : s.vm.findClass "LathePiecesLaw" = some m9.cls := findClass_of_methodNamed B9.named
  have hlocks := B9.notSynchronized
  have hK := cx_K hC h0
  have hS : va_S (aL s0) s.heap s.heap [] := va_S.rf
  have hnc := cx_nc hC h0
  obtain ⟨fs9, hrc⟩ := hW.recv ((ao, .inl (k 1, al 1 o9)) :: wr)
  have hl := lv_entry ([.ref cx, .int (iI (p)), .int (iI (t)), .int (iI (x)), .ref ao]) (n := 6) (Nat.le_of_ble_eq_true rfl)
  rw [lg_entry_eq]
  generalize (lg_sl ([.ref cx, .int (iI (p)), .int (iI (t)), .int (iI (x)), .ref ao]) ++ List.replicate (6 - (lg_sl ([.ref cx, .int (iI (p)), .int (iI (t)), .int (iI (x)), .ref ao])).length) Slot.unset).toArray = ls at hl ⊢
  replace hl : lv_has ls 6 [(0, .ref cx), (1, .int (iI (p))), (2, .int (iI (t))), (3, .int (iI (x))), (4, .ref ao)] := hl
  refine lv_aload hx hb d_L_reached_0 (lv_at hl 4 rfl) ?_
  refine ri_iconst hx hb d_L_reached_2 ?_
  refine lv_aload_n hx hb d_L_reached_3 rfl (lv_at hl 0 rfl) ?_
  refine lv_iload_n hx hb d_L_reached_4 rfl (lv_at hl 1 rfl) ?_
  refine lv_iload_n hx hb d_L_reached_5 rfl (lv_at hl 2 rfl) ?_
  refine lv_iload_n hx hb d_L_reached_6 rfl (lv_at hl 3 rfl) ?_
  refine wd_callC h0 hS (ex_runV (C := "LathePieces") (As := [.int (iI (p)), .int (iI (t)), .int (iI (x))]) (rest := [.int (iI (0)), .ref ao]) ⟨hx, hb, hml, hown, hG⟩ (o_reached hC hI hW ((ao, .inl (k 1, al 1 o9)) :: wr) p t hp ht x hx9) (cb_code (n := 3) hG g_366 g_1 g_363 rfl rfl (by decide +kernel) ⟨Nat.le_of_ble_eq_true rfl, Nat.le_of_ble_eq_true rfl⟩) (hG _ g_364) (hG _ g_365) (kd_V (kd_preW h0 hS hP hD) (kd_recv hK hP (q0 := 2) (ci := 5) rfl hrc rfl)) rfl rfl hl.1 rfl (lv_room (Nat.le_of_ble_eq_true rfl)) d_L_reached_7 ⟨Nat.le_of_ble_eq_true rfl, Nat.le_of_ble_eq_true rfl⟩) (fun E ws9 hE H locs hP hD hS q T0 hT0 hq => ?_) (fun v9 ws9 h9 H locs hP hD hS => ?_)
  · obtain ⟨wc', rfl, hW2, hE⟩ := hE
    obtain ⟨rfl, hc⟩ := hE
    refine ex_catch (name := xIO) hown (tableOf []) ⟨0, 12, 15, 32⟩ (tableOf []) (htab.trans rfl) (fun z hz => nomatch hz) rfl (by decide) (hG _ g_303) (cx_can hC h0 g_318 _) hT0 hq ?_
    refine lv_astore (lv' := [(5, .ref q), (0, .ref cx), (1, .int (iI (p))), (2, .int (iI (t))), (3, .int (iI (x))), (4, .ref ao)]) hx hb d_L_reached_15 hl (by decide) rfl (fun ls hl => ?_)
    refine ri_iconst hx hb d_L_reached_17 ?_
    exact re_i hx hb hr hlocks (fun t9 ht9 hW9 => ⟨_, ⟨wc', o9, 1, rfl, rfl, Or.inr (⟨rfl, hc, hW2⟩)⟩, wd_next h0 hS hP hD t9 ht9 hW9⟩) hS.2.2 (Nat.le_of_ble_eq_true rfl) (Nat.le_of_ble_eq_true rfl) d_L_reached_18
  · obtain ⟨wc', rfl, hc, rfl, hW2, hI2⟩ := h9
    show W _ _ _ _ _ _ _ _ _ _ _ _ _ _ _ (F0 m9 10 ls [.int (iI ((loA (fun j => (f 12) (65 * p + j)) (htF ((f 14) t).toNat) ((f 14) t).toNat ((f 10) p).toNat) x)), .int (iI (0)), .ref ao])
    refine ri_i2lw hx hb d_L_reached_10 ?_
    replace hP := wl_Pp hP List.perm_middle
    replace hD := wl_Dp hD List.perm_middle
    refine ra_last (v := tw ((loA (fun j => (f 12) (65 * p + j)) (htF ((f 14) t).toNat) ((f 14) t).toNat ((f 10) p).toNat) x)) hx hb hK hP hD hS 0 rfl (by omega) (by omega) d_L_reached_11 (fun H locs hP hD hS => ?_)
    have hP : va_P D classes ((ao, .inl (k 1, al 1 (zU o9 (0) (tw ((loA (fun j => (f 12) (65 * p + j)) (htF ((f 14) t).toNat) ((f 14) t).toNat ((f 10) p).toNat) x))))) :: (wc' ++ wr)) H := hP
    have hD : va_D (fun q : Nat => s0.heap.size ≤ q) ((ao, .inl (k 1, al 1 (zU o9 (0) (tw ((loA (fun j => (f 12) (65 * p + j)) (htF ((f 14) t).toNat) ((f 14) t).toNat ((f 10) p).toNat) x))))) :: (wc' ++ wr)) := hD
    replace hP := wl_Pp hP List.perm_middle.symm
    replace hD := wl_Dp hD List.perm_middle.symm
    refine lv_goto (tgt := 19) hx hb d_L_reached_12 (by decide) ?_
    refine ri_iconst hx hb d_L_reached_19 ?_
    exact re_i hx hb hr hlocks (fun t9 ht9 hW9 => ⟨_, ⟨wc', zU o9 0 (tw ((loA (fun j => (f 12) (65 * p + j)) (htF ((f 14) t).toNat) ((f 14) t).toNat ((f 10) p).toNat) x)), 0, rfl, rfl, Or.inl ⟨rfl, hc, zU_eq, hW2, hI2⟩⟩, wd_next h0 hS hP hD t9 ht9 hW9⟩) hS.2.2 (Nat.le_of_ble_eq_true rfl) (Nat.le_of_ble_eq_true rfl) d_L_reached_20
set_option maxHeartbeats 4000000 in
set_option maxRecDepth 100000 in
theorem w_left {l : Launch} {s0 : State} {D : va_G} {k : Nat → ClassId} (hC : Cx l s0 D k) {cx : Nat} {v : Nat → Int} {f : Nat → Int → Int} {wc : va_W} (hI : Iv v f) (hW : Cst k cx v f wc) (wr : va_W) (ao : Nat) (o9 : Int → Int) (p t : Int) (hp : In32 p) (ht : In32 t) : WdM l s0 D y_L_left { frames := 9, cells := 6, slots := 149, locals := 160 } [.ref cx, .int (iI (p)), .int (iI (t)), .ref ao] (wc ++ ((ao, .inl (k 1, al 1 o9)) :: wr)) (fun v9 ws' => ∃ (wc' : va_W) (o' : Int → Int) (kz : Int), v9 = some (.int (iI (kz))) ∧ ws' = wc' ++ ((ao, .inl (k 1, al 1 o')) :: wr) ∧ (kz = 0 ∧ (0 ≤ p ∧ p < (v 9) ∧ 0 ≤ t ∧ t < (v 13)) ∧ o' 0 = tw (cnF (fun j => decide ((f 12) (65 * p + j) < (loA (fun j => (f 12) (65 * p + j)) (htF ((f 14) t).toNat) ((f 14) t).toNat ((f 10) p).toNat) j)) 0 (((f 10) p).toNat + 1)) ∧ Cst k cx v f wc' ∧ Iv v f ∨ kz = 1 ∧ ¬ (0 ≤ p ∧ p < (v 9) ∧ 0 ≤ t ∧ t < (v 13)) ∧ Cst k cx v f wc')) (fun _ _ => False) 6 149 := by
  refine ex_ofW (cc := b_L_left) (maxL := 5) (ret := (some .int)) (hh := [(0, 10, 13, 32)]) (by decide +kernel) (Or.inr g_399) ?_
  intro p9 e9 s m9 args9 below9 meth9 c9 s9 B9 hml htab hv
  obtain ⟨rfl, h0, hP, hD⟩ := hv
  have hx := B9.exec
  have hb := B9.bytes
  have hr := B9.returns
  have hG := atoms_spec (ws := GW) B9.pre
  have hown : s.vm.findClass "LathePiecesLaw" = some m9.cls := findClass_of_methodNamed B9.named
  have hlocks := B9.notSynchronized
  have hK := cx_K hC h0
  have hS : va_S (aL s0) s.heap s.heap [] := va_S.rf
  have hnc := cx_nc hC h0
  obtain ⟨fs9, hrc⟩ := hW.recv ((ao, .inl (k 1, al 1 o9)) :: wr)
  have hl := lv_entry ([.ref cx, .int (iI (p)), .int (iI (t)), .ref ao]) (n := 5) (Nat.le_of_ble_eq_true rfl)
  rw [lg_entry_eq]
  generalize (lg_sl ([.ref cx, .int (iI (p)), .int (iI (t)), .ref ao]) ++ List.replicate (5 - (lg_sl ([.ref cx, .int (iI (p)), .int (iI (t)), .ref ao])).length) Slot.unset).toArray = ls at hl ⊢
  replace hl : lv_has ls 5 [(0, .ref cx), (1, .int (iI (p))), (2, .int (iI (t))), (3, .ref ao)] := hl
  refine lv_aload_n hx hb d_L_left_0 rfl (lv_at hl 3 rfl) ?_
  refine ri_iconst hx hb d_L_left_1 ?_
  refine lv_aload_n hx hb d_L_left_2 rfl (lv_at hl 0 rfl) ?_
  refine lv_iload_n hx hb d_L_left_3 rfl (lv_at hl 1 rfl) ?_
  refine lv_iload_n hx hb d_L_left_4 rfl (lv_at hl 2 rfl) ?_
  refine wd_callC h0 hS (ex_runV (C := "LathePieces") (As := [.int (iI (p)), .int (iI (t))]) (rest := [.int (iI (0)), .ref ao]) ⟨hx, hb, hml, hown, hG⟩ (o_left hC hI hW ((ao, .inl (k 1, al 1 o9)) :: wr) p t hp ht) (cb_code (n := 2) hG g_403 g_1 g_400 rfl rfl (by decide +kernel) ⟨Nat.le_of_ble_eq_true rfl, Nat.le_of_ble_eq_true rfl⟩) (hG _ g_401) (hG _ g_402) (kd_V (kd_preW h0 hS hP hD) (kd_recv hK hP (q0 := 2) (ci := 5) rfl hrc rfl)) rfl rfl hl.1 rfl (lv_room (Nat.le_of_ble_eq_true rfl)) d_L_left_5 ⟨Nat.le_of_ble_eq_true rfl, Nat.le_of_ble_eq_true rfl⟩) (fun E ws9 hE H locs hP hD hS q T0 hT0 hq => ?_) (fun v9 ws9 h9 H locs hP hD hS => ?_)
  · obtain ⟨wc', rfl, hW2, hE⟩ := hE
    obtain ⟨rfl, hc⟩ := hE
    refine ex_catch (name := xIO) hown (tableOf []) ⟨0, 10, 13, 32⟩ (tableOf []) (htab.trans rfl) (fun z hz => nomatch hz) rfl (by decide) (hG _ g_303) (cx_can hC h0 g_318 _) hT0 hq ?_
    refine lv_astore (lv' := [(4, .ref q), (0, .ref cx), (1, .int (iI (p))), (2, .int (iI (t))), (3, .ref ao)]) hx hb d_L_left_13 hl (by decide) rfl (fun ls hl => ?_)
    refine ri_iconst hx hb d_L_left_15 ?_
    exact re_i hx hb hr hlocks (fun t9 ht9 hW9 => ⟨_, ⟨wc', o9, 1, rfl, rfl, Or.inr (⟨rfl, hc, hW2⟩)⟩, wd_next h0 hS hP hD t9 ht9 hW9⟩) hS.2.2 (Nat.le_of_ble_eq_true rfl) (Nat.le_of_ble_eq_true rfl) d_L_left_16
  · obtain ⟨wc', rfl, hc, rfl, hW2, hI2⟩ := h9
    show W _ _ _ _ _ _ _ _ _ _ _ _ _ _ _ (F0 m9 8 ls [.int (iI (cnF (fun j => decide ((f 12) (65 * p + j) < (loA (fun j => (f 12) (65 * p + j)) (htF ((f 14) t).toNat) ((f 14) t).toNat ((f 10) p).toNat) j)) 0 (((f 10) p).toNat + 1))), .int (iI (0)), .ref ao])
    refine ri_i2lw hx hb d_L_left_8 ?_
    replace hP := wl_Pp hP List.perm_middle
    replace hD := wl_Dp hD List.perm_middle
    refine ra_last (v := tw (cnF (fun j => decide ((f 12) (65 * p + j) < (loA (fun j => (f 12) (65 * p + j)) (htF ((f 14) t).toNat) ((f 14) t).toNat ((f 10) p).toNat) j)) 0 (((f 10) p).toNat + 1))) hx hb hK hP hD hS 0 rfl (by omega) (by omega) d_L_left_9 (fun H locs hP hD hS => ?_)
    have hP : va_P D classes ((ao, .inl (k 1, al 1 (zU o9 (0) (tw (cnF (fun j => decide ((f 12) (65 * p + j) < (loA (fun j => (f 12) (65 * p + j)) (htF ((f 14) t).toNat) ((f 14) t).toNat ((f 10) p).toNat) j)) 0 (((f 10) p).toNat + 1)))))) :: (wc' ++ wr)) H := hP
    have hD : va_D (fun q : Nat => s0.heap.size ≤ q) ((ao, .inl (k 1, al 1 (zU o9 (0) (tw (cnF (fun j => decide ((f 12) (65 * p + j) < (loA (fun j => (f 12) (65 * p + j)) (htF ((f 14) t).toNat) ((f 14) t).toNat ((f 10) p).toNat) j)) 0 (((f 10) p).toNat + 1)))))) :: (wc' ++ wr)) := hD
    replace hP := wl_Pp hP List.perm_middle.symm
    replace hD := wl_Dp hD List.perm_middle.symm
    refine lv_goto (tgt := 17) hx hb d_L_left_10 (by decide) ?_
    refine ri_iconst hx hb d_L_left_17 ?_
    exact re_i hx hb hr hlocks (fun t9 ht9 hW9 => ⟨_, ⟨wc', zU o9 0 (tw (cnF (fun j => decide ((f 12) (65 * p + j) < (loA (fun j => (f 12) (65 * p + j)) (htF ((f 14) t).toNat) ((f 14) t).toNat ((f 10) p).toNat) j)) 0 (((f 10) p).toNat + 1))), 0, rfl, rfl, Or.inl ⟨rfl, hc, zU_eq, hW2, hI2⟩⟩, wd_next h0 hS hP hD t9 ht9 hW9⟩) hS.2.2 (Nat.le_of_ble_eq_true rfl) (Nat.le_of_ble_eq_true rfl) d_L_left_18
set_option maxHeartbeats 4000000 in
set_option maxRecDepth 100000 in
theorem w_passes {l : Launch} {s0 : State} {D : va_G} {k : Nat → ClassId} (hC : Cx l s0 D k) {cx : Nat} {v : Nat → Int} {f : Nat → Int → Int} {wc : va_W} (hI : Iv v f) (hW : Cst k cx v f wc) (wr : va_W) (ao : Nat) (o9 : Int → Int) (p t : Int) (hp : In32 p) (ht : In32 t) (dp sk : Int) (hdp : In32 dp) (hsk : In32 sk) : WdM l s0 D y_L_passes { frames := 9, cells := 8, slots := 161, locals := 163 } [.ref cx, .int (iI (p)), .int (iI (t)), .int (iI (dp)), .int (iI (sk)), .ref ao] (wc ++ ((ao, .inl (k 1, al 1 o9)) :: wr)) (fun v9 ws' => ∃ (wc' : va_W) (o' : Int → Int) (kz : Int), v9 = some (.int (iI (kz))) ∧ ws' = wc' ++ ((ao, .inl (k 1, al 1 o')) :: wr) ∧ (kz = 0 ∧ ((0 ≤ p ∧ p < (v 9) ∧ 0 ≤ t ∧ t < (v 13)) ∧ (1 ≤ dp ∧ dp ≤ 100 ∧ 0 ≤ sk ∧ sk ≤ 50)) ∧ o' 0 = tw (((itF max (fun j => (f 12) (65 * p + j)) 0 0 (((f 10) p).toNat + 1) + 3) - itF min (fun j => min ((loA (fun j => (f 12) (65 * p + j)) (htF ((f 14) t).toNat) ((f 14) t).toNat ((f 10) p).toNat) j + sk) (itF max (fun j => (f 12) (65 * p + j)) 0 0 (((f 10) p).toNat + 1) + 3)) (itF max (fun j => (f 12) (65 * p + j)) 0 0 (((f 10) p).toNat + 1) + 3) 0 (((f 10) p).toNat + 1) + dp - 1).tdiv dp) ∧ Cst k cx v f wc' ∧ Iv v f ∨ kz = 1 ∧ ¬ (0 ≤ p ∧ p < (v 9) ∧ 0 ≤ t ∧ t < (v 13)) ∧ Cst k cx v f wc' ∨ kz = 2 ∧ ((0 ≤ p ∧ p < (v 9) ∧ 0 ≤ t ∧ t < (v 13)) ∧ ¬ (1 ≤ dp ∧ dp ≤ 100 ∧ 0 ≤ sk ∧ sk ≤ 50)) ∧ Cst k cx v f wc')) (fun _ _ => False) 8 161 := by
  refine ex_ofW (cc := b_L_passes) (maxL := 7) (ret := (some .int)) (hh := [(0, 14, 17, 32), (0, 14, 21, 13)]) (by decide +kernel) (Or.inr g_410) ?_
  intro p9 e9 s m9 args9 below9 meth9 c9 s9 B9 hml htab hv
  obtain ⟨rfl, h0, hP, hD⟩ := hv
  have hx := B9.exec
  have hb := B9.bytes
  have hr := B9.returns
  have hG := atoms_spec (ws := GW) B9.pre
  have hown : s.vm.findClass "LathePiecesLaw" = some m9.cls := findClass_of_methodNamed B9.named
  have hlocks := B9.notSynchronized
  have hK := cx_K hC h0
  have hS : va_S (aL s0) s.heap s.heap [] := va_S.rf
  have hnc := cx_nc hC h0
  obtain ⟨fs9, hrc⟩ := hW.recv ((ao, .inl (k 1, al 1 o9)) :: wr)
  have hl := lv_entry ([.ref cx, .int (iI (p)), .int (iI (t)), .int (iI (dp)), .int (iI (sk)), .ref ao]) (n := 7) (Nat.le_of_ble_eq_true rfl)
  rw [lg_entry_eq]
  generalize (lg_sl ([.ref cx, .int (iI (p)), .int (iI (t)), .int (iI (dp)), .int (iI (sk)), .ref ao]) ++ List.replicate (7 - (lg_sl ([.ref cx, .int (iI (p)), .int (iI (t)), .int (iI (dp)), .int (iI (sk)), .ref ao])).length) Slot.unset).toArray = ls at hl ⊢
  replace hl : lv_has ls 7 [(0, .ref cx), (1, .int (iI (p))), (2, .int (iI (t))), (3, .int (iI (dp))), (4, .int (iI (sk))), (5, .ref ao)] := hl
  refine lv_aload hx hb d_L_passes_0 (lv_at hl 5 rfl) ?_
  refine ri_iconst hx hb d_L_passes_2 ?_
  refine lv_aload_n hx hb d_L_passes_3 rfl (lv_at hl 0 rfl) ?_
  refine lv_iload_n hx hb d_L_passes_4 rfl (lv_at hl 1 rfl) ?_
  refine lv_iload_n hx hb d_L_passes_5 rfl (lv_at hl 2 rfl) ?_
  refine lv_iload_n hx hb d_L_passes_6 rfl (lv_at hl 3 rfl) ?_
  refine lv_iload hx hb d_L_passes_7 (lv_at hl 4 rfl) ?_
  refine wd_callC h0 hS (ex_runV (C := "LathePieces") (As := [.int (iI (p)), .int (iI (t)), .int (iI (dp)), .int (iI (sk))]) (rest := [.int (iI (0)), .ref ao]) ⟨hx, hb, hml, hown, hG⟩ (o_passes hC hI hW ((ao, .inl (k 1, al 1 o9)) :: wr) p t hp ht dp sk hdp hsk) (cb_code (n := 4) hG g_414 g_1 g_411 rfl rfl (by decide +kernel) ⟨Nat.le_of_ble_eq_true rfl, Nat.le_of_ble_eq_true rfl⟩) (hG _ g_412) (hG _ g_413) (kd_V (kd_preW h0 hS hP hD) (kd_recv hK hP (q0 := 2) (ci := 5) rfl hrc rfl)) rfl rfl hl.1 rfl (lv_room (Nat.le_of_ble_eq_true rfl)) d_L_passes_9 ⟨Nat.le_of_ble_eq_true rfl, Nat.le_of_ble_eq_true rfl⟩) (fun E ws9 hE H locs hP hD hS q T0 hT0 hq => ?_) (fun v9 ws9 h9 H locs hP hD hS => ?_)
  · obtain ⟨wc', rfl, hW2, hE⟩ := hE
    rcases hE with ⟨rfl, hc⟩ | ⟨rfl, hc⟩
    · refine ex_catch (name := xIO) hown (tableOf []) ⟨0, 14, 17, 32⟩ (tableOf [(0, 14, 21, 13)]) (htab.trans rfl) (fun z hz => nomatch hz) rfl (by decide) (hG _ g_303) (cx_can hC h0 g_318 _) hT0 hq ?_
      refine lv_astore (lv' := [(6, .ref q), (0, .ref cx), (1, .int (iI (p))), (2, .int (iI (t))), (3, .int (iI (dp))), (4, .int (iI (sk))), (5, .ref ao)]) hx hb d_L_passes_17 hl (by decide) rfl (fun ls hl => ?_)
      refine ri_iconst hx hb d_L_passes_19 ?_
      exact re_i hx hb hr hlocks (fun t9 ht9 hW9 => ⟨_, ⟨wc', o9, 1, rfl, rfl, Or.inr (Or.inl ⟨rfl, hc, hW2⟩)⟩, wd_next h0 hS hP hD t9 ht9 hW9⟩) hS.2.2 (Nat.le_of_ble_eq_true rfl) (Nat.le_of_ble_eq_true rfl) d_L_passes_20
    · refine ex_catch (name := xIA) hown (tableOf [(0, 14, 17, 32)]) ⟨0, 14, 21, 13⟩ (tableOf []) (htab.trans rfl) (fun z hz => by rw [List.mem_singleton.mp hz]; exact Or.inr ⟨by decide, xIO, hG _ g_303, hnc.1.2⟩) rfl (by decide) (hG _ g_105) (cx_can hC h0 g_115 _) hT0 hq ?_
      refine lv_astore (lv' := [(6, .ref q), (0, .ref cx), (1, .int (iI (p))), (2, .int (iI (t))), (3, .int (iI (dp))), (4, .int (iI (sk))), (5, .ref ao)]) hx hb d_L_passes_21 hl (by decide) rfl (fun ls hl => ?_)
      refine ri_iconst hx hb d_L_passes_23 ?_
      exact re_i hx hb hr hlocks (fun t9 ht9 hW9 => ⟨_, ⟨wc', o9, 2, rfl, rfl, Or.inr (Or.inr (⟨rfl, hc, hW2⟩))⟩, wd_next h0 hS hP hD t9 ht9 hW9⟩) hS.2.2 (Nat.le_of_ble_eq_true rfl) (Nat.le_of_ble_eq_true rfl) d_L_passes_24
  · obtain ⟨wc', rfl, hc, rfl, hW2, hI2⟩ := h9
    show W _ _ _ _ _ _ _ _ _ _ _ _ _ _ _ (F0 m9 12 ls [.int (iI (((itF max (fun j => (f 12) (65 * p + j)) 0 0 (((f 10) p).toNat + 1) + 3) - itF min (fun j => min ((loA (fun j => (f 12) (65 * p + j)) (htF ((f 14) t).toNat) ((f 14) t).toNat ((f 10) p).toNat) j + sk) (itF max (fun j => (f 12) (65 * p + j)) 0 0 (((f 10) p).toNat + 1) + 3)) (itF max (fun j => (f 12) (65 * p + j)) 0 0 (((f 10) p).toNat + 1) + 3) 0 (((f 10) p).toNat + 1) + dp - 1).tdiv dp)), .int (iI (0)), .ref ao])
    refine ri_i2lw hx hb d_L_passes_12 ?_
    replace hP := wl_Pp hP List.perm_middle
    replace hD := wl_Dp hD List.perm_middle
    refine ra_last (v := tw (((itF max (fun j => (f 12) (65 * p + j)) 0 0 (((f 10) p).toNat + 1) + 3) - itF min (fun j => min ((loA (fun j => (f 12) (65 * p + j)) (htF ((f 14) t).toNat) ((f 14) t).toNat ((f 10) p).toNat) j + sk) (itF max (fun j => (f 12) (65 * p + j)) 0 0 (((f 10) p).toNat + 1) + 3)) (itF max (fun j => (f 12) (65 * p + j)) 0 0 (((f 10) p).toNat + 1) + 3) 0 (((f 10) p).toNat + 1) + dp - 1).tdiv dp)) hx hb hK hP hD hS 0 rfl (by omega) (by omega) d_L_passes_13 (fun H locs hP hD hS => ?_)
    have hP : va_P D classes ((ao, .inl (k 1, al 1 (zU o9 (0) (tw (((itF max (fun j => (f 12) (65 * p + j)) 0 0 (((f 10) p).toNat + 1) + 3) - itF min (fun j => min ((loA (fun j => (f 12) (65 * p + j)) (htF ((f 14) t).toNat) ((f 14) t).toNat ((f 10) p).toNat) j + sk) (itF max (fun j => (f 12) (65 * p + j)) 0 0 (((f 10) p).toNat + 1) + 3)) (itF max (fun j => (f 12) (65 * p + j)) 0 0 (((f 10) p).toNat + 1) + 3) 0 (((f 10) p).toNat + 1) + dp - 1).tdiv dp))))) :: (wc' ++ wr)) H := hP
    have hD : va_D (fun q : Nat => s0.heap.size ≤ q) ((ao, .inl (k 1, al 1 (zU o9 (0) (tw (((itF max (fun j => (f 12) (65 * p + j)) 0 0 (((f 10) p).toNat + 1) + 3) - itF min (fun j => min ((loA (fun j => (f 12) (65 * p + j)) (htF ((f 14) t).toNat) ((f 14) t).toNat ((f 10) p).toNat) j + sk) (itF max (fun j => (f 12) (65 * p + j)) 0 0 (((f 10) p).toNat + 1) + 3)) (itF max (fun j => (f 12) (65 * p + j)) 0 0 (((f 10) p).toNat + 1) + 3) 0 (((f 10) p).toNat + 1) + dp - 1).tdiv dp))))) :: (wc' ++ wr)) := hD
    replace hP := wl_Pp hP List.perm_middle.symm
    replace hD := wl_Dp hD List.perm_middle.symm
    refine lv_goto (tgt := 25) hx hb d_L_passes_14 (by decide) ?_
    refine ri_iconst hx hb d_L_passes_25 ?_
    exact re_i hx hb hr hlocks (fun t9 ht9 hW9 => ⟨_, ⟨wc', zU o9 0 (tw (((itF max (fun j => (f 12) (65 * p + j)) 0 0 (((f 10) p).toNat + 1) + 3) - itF min (fun j => min ((loA (fun j => (f 12) (65 * p + j)) (htF ((f 14) t).toNat) ((f 14) t).toNat ((f 10) p).toNat) j + sk) (itF max (fun j => (f 12) (65 * p + j)) 0 0 (((f 10) p).toNat + 1) + 3)) (itF max (fun j => (f 12) (65 * p + j)) 0 0 (((f 10) p).toNat + 1) + 3) 0 (((f 10) p).toNat + 1) + dp - 1).tdiv dp)), 0, rfl, rfl, Or.inl ⟨rfl, hc, zU_eq, hW2, hI2⟩⟩, wd_next h0 hS hP hD t9 ht9 hW9⟩) hS.2.2 (Nat.le_of_ble_eq_true rfl) (Nat.le_of_ble_eq_true rfl) d_L_passes_26
set_option maxHeartbeats 4000000 in
set_option maxRecDepth 100000 in
theorem w_cut {l : Launch} {s0 : State} {D : va_G} {k : Nat → ClassId} (hC : Cx l s0 D k) {cx : Nat} {v : Nat → Int} {f : Nat → Int → Int} {wc : va_W} (hI : Iv v f) (hW : Cst k cx v f wc) (wr : va_W) (ao : Nat) (o9 : Int → Int) (p t : Int) (hp : In32 p) (ht : In32 t) (dp sk : Int) (hdp : In32 dp) (hsk : In32 sk) (kk : Int) (hkk : In32 kk) : WdM l s0 D y_L_cut { frames := 9, cells := 9, slots := 167, locals := 165 } [.ref cx, .int (iI (p)), .int (iI (t)), .int (iI (dp)), .int (iI (sk)), .int (iI (kk)), .ref ao] (wc ++ ((ao, .inl (k 1, al 1 o9)) :: wr)) (fun v9 ws' => ∃ (wc' : va_W) (o' : Int → Int) (kz : Int), v9 = some (.int (iI (kz))) ∧ ws' = wc' ++ ((ao, .inl (k 1, al 1 o')) :: wr) ∧ (kz = 0 ∧ ((0 ≤ p ∧ p < (v 9) ∧ 0 ≤ t ∧ t < (v 13)) ∧ ((1 ≤ dp ∧ dp ≤ 100 ∧ 0 ≤ sk ∧ sk ≤ 50) ∧ 1 ≤ kk)) ∧ o' 0 = tw (cnF (fun j => decide (min ((loA (fun j => (f 12) (65 * p + j)) (htF ((f 14) t).toNat) ((f 14) t).toNat ((f 10) p).toNat) j + sk) (itF max (fun j => (f 12) (65 * p + j)) 0 0 (((f 10) p).toNat + 1) + 3) < (itF max (fun j => (f 12) (65 * p + j)) 0 0 (((f 10) p).toNat + 1) + 3) - (kk - 1) * dp)) 0 (((f 10) p).toNat + 1)) ∧ Cst k cx v f wc' ∧ Iv v f ∨ kz = 1 ∧ ¬ (0 ≤ p ∧ p < (v 9) ∧ 0 ≤ t ∧ t < (v 13)) ∧ Cst k cx v f wc' ∨ kz = 2 ∧ ((0 ≤ p ∧ p < (v 9) ∧ 0 ≤ t ∧ t < (v 13)) ∧ ¬ ((1 ≤ dp ∧ dp ≤ 100 ∧ 0 ≤ sk ∧ sk ≤ 50) ∧ 1 ≤ kk)) ∧ Cst k cx v f wc')) (fun _ _ => False) 9 167 := by
  refine ex_ofW (cc := b_L_cut) (maxL := 8) (ret := (some .int)) (hh := [(0, 16, 19, 32), (0, 16, 23, 13)]) (by decide +kernel) (Or.inr g_428) ?_
  intro p9 e9 s m9 args9 below9 meth9 c9 s9 B9 hml htab hv
  obtain ⟨rfl, h0, hP, hD⟩ := hv
  have hx := B9.exec
  have hb := B9.bytes
  have hr := B9.returns
  have hG := atoms_spec (ws := GW) B9.pre
  have hown : s.vm.findClass "LathePiecesLaw" = some m9.cls := findClass_of_methodNamed B9.named
  have hlocks := B9.notSynchronized
  have hK := cx_K hC h0
  have hS : va_S (aL s0) s.heap s.heap [] := va_S.rf
  have hnc := cx_nc hC h0
  obtain ⟨fs9, hrc⟩ := hW.recv ((ao, .inl (k 1, al 1 o9)) :: wr)
  have hl := lv_entry ([.ref cx, .int (iI (p)), .int (iI (t)), .int (iI (dp)), .int (iI (sk)), .int (iI (kk)), .ref ao]) (n := 8) (Nat.le_of_ble_eq_true rfl)
  rw [lg_entry_eq]
  generalize (lg_sl ([.ref cx, .int (iI (p)), .int (iI (t)), .int (iI (dp)), .int (iI (sk)), .int (iI (kk)), .ref ao]) ++ List.replicate (8 - (lg_sl ([.ref cx, .int (iI (p)), .int (iI (t)), .int (iI (dp)), .int (iI (sk)), .int (iI (kk)), .ref ao])).length) Slot.unset).toArray = ls at hl ⊢
  replace hl : lv_has ls 8 [(0, .ref cx), (1, .int (iI (p))), (2, .int (iI (t))), (3, .int (iI (dp))), (4, .int (iI (sk))), (5, .int (iI (kk))), (6, .ref ao)] := hl
  refine lv_aload hx hb d_L_cut_0 (lv_at hl 6 rfl) ?_
  refine ri_iconst hx hb d_L_cut_2 ?_
  refine lv_aload_n hx hb d_L_cut_3 rfl (lv_at hl 0 rfl) ?_
  refine lv_iload_n hx hb d_L_cut_4 rfl (lv_at hl 1 rfl) ?_
  refine lv_iload_n hx hb d_L_cut_5 rfl (lv_at hl 2 rfl) ?_
  refine lv_iload_n hx hb d_L_cut_6 rfl (lv_at hl 3 rfl) ?_
  refine lv_iload hx hb d_L_cut_7 (lv_at hl 4 rfl) ?_
  refine lv_iload hx hb d_L_cut_9 (lv_at hl 5 rfl) ?_
  refine wd_callC h0 hS (ex_runV (C := "LathePieces") (As := [.int (iI (p)), .int (iI (t)), .int (iI (dp)), .int (iI (sk)), .int (iI (kk))]) (rest := [.int (iI (0)), .ref ao]) ⟨hx, hb, hml, hown, hG⟩ (o_cut hC hI hW ((ao, .inl (k 1, al 1 o9)) :: wr) p t hp ht dp sk hdp hsk kk hkk) (cb_code (n := 5) hG g_432 g_1 g_429 rfl rfl (by decide +kernel) ⟨Nat.le_of_ble_eq_true rfl, Nat.le_of_ble_eq_true rfl⟩) (hG _ g_430) (hG _ g_431) (kd_V (kd_preW h0 hS hP hD) (kd_recv hK hP (q0 := 2) (ci := 5) rfl hrc rfl)) rfl rfl hl.1 rfl (lv_room (Nat.le_of_ble_eq_true rfl)) d_L_cut_11 ⟨Nat.le_of_ble_eq_true rfl, Nat.le_of_ble_eq_true rfl⟩) (fun E ws9 hE H locs hP hD hS q T0 hT0 hq => ?_) (fun v9 ws9 h9 H locs hP hD hS => ?_)
  · obtain ⟨wc', rfl, hW2, hE⟩ := hE
    rcases hE with ⟨rfl, hc⟩ | ⟨rfl, hc⟩
    · refine ex_catch (name := xIO) hown (tableOf []) ⟨0, 16, 19, 32⟩ (tableOf [(0, 16, 23, 13)]) (htab.trans rfl) (fun z hz => nomatch hz) rfl (by decide) (hG _ g_303) (cx_can hC h0 g_318 _) hT0 hq ?_
      refine lv_astore (lv' := [(7, .ref q), (0, .ref cx), (1, .int (iI (p))), (2, .int (iI (t))), (3, .int (iI (dp))), (4, .int (iI (sk))), (5, .int (iI (kk))), (6, .ref ao)]) hx hb d_L_cut_19 hl (by decide) rfl (fun ls hl => ?_)
      refine ri_iconst hx hb d_L_cut_21 ?_
      exact re_i hx hb hr hlocks (fun t9 ht9 hW9 => ⟨_, ⟨wc', o9, 1, rfl, rfl, Or.inr (Or.inl ⟨rfl, hc, hW2⟩)⟩, wd_next h0 hS hP hD t9 ht9 hW9⟩) hS.2.2 (Nat.le_of_ble_eq_true rfl) (Nat.le_of_ble_eq_true rfl) d_L_cut_22
    · refine ex_catch (name := xIA) hown (tableOf [(0, 16, 19, 32)]) ⟨0, 16, 23, 13⟩ (tableOf []) (htab.trans rfl) (fun z hz => by rw [List.mem_singleton.mp hz]; exact Or.inr ⟨by decide, xIO, hG _ g_303, hnc.1.2⟩) rfl (by decide) (hG _ g_105) (cx_can hC h0 g_115 _) hT0 hq ?_
      refine lv_astore (lv' := [(7, .ref q), (0, .ref cx), (1, .int (iI (p))), (2, .int (iI (t))), (3, .int (iI (dp))), (4, .int (iI (sk))), (5, .int (iI (kk))), (6, .ref ao)]) hx hb d_L_cut_23 hl (by decide) rfl (fun ls hl => ?_)
      refine ri_iconst hx hb d_L_cut_25 ?_
      exact re_i hx hb hr hlocks (fun t9 ht9 hW9 => ⟨_, ⟨wc', o9, 2, rfl, rfl, Or.inr (Or.inr (⟨rfl, hc, hW2⟩))⟩, wd_next h0 hS hP hD t9 ht9 hW9⟩) hS.2.2 (Nat.le_of_ble_eq_true rfl) (Nat.le_of_ble_eq_true rfl) d_L_cut_26
  · obtain ⟨wc', rfl, hc, rfl, hW2, hI2⟩ := h9
    show W _ _ _ _ _ _ _ _ _ _ _ _ _ _ _ (F0 m9 14 ls [.int (iI (cnF (fun j => decide (min ((loA (fun j => (f 12) (65 * p + j)) (htF ((f 14) t).toNat) ((f 14) t).toNat ((f 10) p).toNat) j + sk) (itF max (fun j => (f 12) (65 * p + j)) 0 0 (((f 10) p).toNat + 1) + 3) < (itF max (fun j => (f 12) (65 * p + j)) 0 0 (((f 10) p).toNat + 1) + 3) - (kk - 1) * dp)) 0 (((f 10) p).toNat + 1))), .int (iI (0)), .ref ao])
    refine ri_i2lw hx hb d_L_cut_14 ?_
    replace hP := wl_Pp hP List.perm_middle
    replace hD := wl_Dp hD List.perm_middle
    refine ra_last (v := tw (cnF (fun j => decide (min ((loA (fun j => (f 12) (65 * p + j)) (htF ((f 14) t).toNat) ((f 14) t).toNat ((f 10) p).toNat) j + sk) (itF max (fun j => (f 12) (65 * p + j)) 0 0 (((f 10) p).toNat + 1) + 3) < (itF max (fun j => (f 12) (65 * p + j)) 0 0 (((f 10) p).toNat + 1) + 3) - (kk - 1) * dp)) 0 (((f 10) p).toNat + 1))) hx hb hK hP hD hS 0 rfl (by omega) (by omega) d_L_cut_15 (fun H locs hP hD hS => ?_)
    have hP : va_P D classes ((ao, .inl (k 1, al 1 (zU o9 (0) (tw (cnF (fun j => decide (min ((loA (fun j => (f 12) (65 * p + j)) (htF ((f 14) t).toNat) ((f 14) t).toNat ((f 10) p).toNat) j + sk) (itF max (fun j => (f 12) (65 * p + j)) 0 0 (((f 10) p).toNat + 1) + 3) < (itF max (fun j => (f 12) (65 * p + j)) 0 0 (((f 10) p).toNat + 1) + 3) - (kk - 1) * dp)) 0 (((f 10) p).toNat + 1)))))) :: (wc' ++ wr)) H := hP
    have hD : va_D (fun q : Nat => s0.heap.size ≤ q) ((ao, .inl (k 1, al 1 (zU o9 (0) (tw (cnF (fun j => decide (min ((loA (fun j => (f 12) (65 * p + j)) (htF ((f 14) t).toNat) ((f 14) t).toNat ((f 10) p).toNat) j + sk) (itF max (fun j => (f 12) (65 * p + j)) 0 0 (((f 10) p).toNat + 1) + 3) < (itF max (fun j => (f 12) (65 * p + j)) 0 0 (((f 10) p).toNat + 1) + 3) - (kk - 1) * dp)) 0 (((f 10) p).toNat + 1)))))) :: (wc' ++ wr)) := hD
    replace hP := wl_Pp hP List.perm_middle.symm
    replace hD := wl_Dp hD List.perm_middle.symm
    refine lv_goto (tgt := 27) hx hb d_L_cut_16 (by decide) ?_
    refine ri_iconst hx hb d_L_cut_27 ?_
    exact re_i hx hb hr hlocks (fun t9 ht9 hW9 => ⟨_, ⟨wc', zU o9 0 (tw (cnF (fun j => decide (min ((loA (fun j => (f 12) (65 * p + j)) (htF ((f 14) t).toNat) ((f 14) t).toNat ((f 10) p).toNat) j + sk) (itF max (fun j => (f 12) (65 * p + j)) 0 0 (((f 10) p).toNat + 1) + 3) < (itF max (fun j => (f 12) (65 * p + j)) 0 0 (((f 10) p).toNat + 1) + 3) - (kk - 1) * dp)) 0 (((f 10) p).toNat + 1))), 0, rfl, rfl, Or.inl ⟨rfl, hc, zU_eq, hW2, hI2⟩⟩, wd_next h0 hS hP hD t9 ht9 hW9⟩) hS.2.2 (Nat.le_of_ble_eq_true rfl) (Nat.le_of_ble_eq_true rfl) d_L_cut_28
set_option maxHeartbeats 4000000 in
set_option maxRecDepth 100000 in
theorem w_steady {l : Launch} {s0 : State} {D : va_G} {k : Nat → ClassId} (hC : Cx l s0 D k) {cx : Nat} {v : Nat → Int} {f : Nat → Int → Int} {wc : va_W} (hI : Iv v f) (hW : Cst k cx v f wc) (wr : va_W) (ao : Nat) (o9 : Int → Int) (p sp kk : Int) (hp : In32 p) (hsp : In32 sp) (hkk : In32 kk) : WdM l s0 D y_L_steady { frames := 8, cells := 4, slots := 24, locals := 139 } [.ref cx, .int (iI (p)), .int (iI (sp)), .int (iI (kk)), .ref ao] (wc ++ ((ao, .inl (k 1, al 1 o9)) :: wr)) (fun v9 ws' => ∃ (wc' : va_W) (o' : Int → Int) (kz : Int), v9 = some (.int (iI (kz))) ∧ ws' = wc' ++ ((ao, .inl (k 1, al 1 o')) :: wr) ∧ (kz = 0 ∧ ((0 ≤ p ∧ p < (v 9)) ∧ ((1 ≤ sp ∧ sp ≤ 500) ∧ 0 ≤ kk) ∧ stF (fun j => (f 12) (65 * p + j)) sp ((f 10) p).toNat (kk.toNat + 1) < (f 10) p) ∧ o' 0 = tw (stF (fun j => (f 12) (65 * p + j)) sp ((f 10) p).toNat (kk.toNat + 1)) ∧ Cst k cx v f wc' ∧ Iv v f ∨ kz = 1 ∧ ¬ (0 ≤ p ∧ p < (v 9)) ∧ Cst k cx v f wc' ∨ kz = 2 ∧ ((0 ≤ p ∧ p < (v 9)) ∧ ¬ ((1 ≤ sp ∧ sp ≤ 500) ∧ 0 ≤ kk)) ∧ Cst k cx v f wc' ∨ kz = 3 ∧ ((0 ≤ p ∧ p < (v 9)) ∧ ((1 ≤ sp ∧ sp ≤ 500) ∧ 0 ≤ kk) ∧ ¬ stF (fun j => (f 12) (65 * p + j)) sp ((f 10) p).toNat (kk.toNat + 1) < (f 10) p) ∧ Cst k cx v f wc')) (fun _ _ => False) 4 24 := by
  refine ex_ofW (cc := b_L_steady) (maxL := 6) (ret := (some .int)) (hh := [(0, 12, 15, 32), (0, 12, 19, 13), (0, 12, 23, 19)]) (by decide +kernel) (Or.inr g_443) ?_
  intro p9 e9 s m9 args9 below9 meth9 c9 s9 B9 hml htab hv
  obtain ⟨rfl, h0, hP, hD⟩ := hv
  have hx := B9.exec
  have hb := B9.bytes
  have hr := B9.returns
  have hG := atoms_spec (ws := GW) B9.pre
  have hown : s.vm.findClass "LathePiecesLaw" = some m9.cls := findClass_of_methodNamed B9.named
  have hlocks := B9.notSynchronized
  have hK := cx_K hC h0
  have hS : va_S (aL s0) s.heap s.heap [] := va_S.rf
  have hnc := cx_nc hC h0
  obtain ⟨fs9, hrc⟩ := hW.recv ((ao, .inl (k 1, al 1 o9)) :: wr)
  have hl := lv_entry ([.ref cx, .int (iI (p)), .int (iI (sp)), .int (iI (kk)), .ref ao]) (n := 6) (Nat.le_of_ble_eq_true rfl)
  rw [lg_entry_eq]
  generalize (lg_sl ([.ref cx, .int (iI (p)), .int (iI (sp)), .int (iI (kk)), .ref ao]) ++ List.replicate (6 - (lg_sl ([.ref cx, .int (iI (p)), .int (iI (sp)), .int (iI (kk)), .ref ao])).length) Slot.unset).toArray = ls at hl ⊢
  replace hl : lv_has ls 6 [(0, .ref cx), (1, .int (iI (p))), (2, .int (iI (sp))), (3, .int (iI (kk))), (4, .ref ao)] := hl
  refine lv_aload hx hb d_L_steady_0 (lv_at hl 4 rfl) ?_
  refine ri_iconst hx hb d_L_steady_2 ?_
  refine lv_aload_n hx hb d_L_steady_3 rfl (lv_at hl 0 rfl) ?_
  refine lv_iload_n hx hb d_L_steady_4 rfl (lv_at hl 1 rfl) ?_
  refine lv_iload_n hx hb d_L_steady_5 rfl (lv_at hl 2 rfl) ?_
  refine lv_iload_n hx hb d_L_steady_6 rfl (lv_at hl 3 rfl) ?_
  refine wd_callC h0 hS (ex_runV (C := "LathePieces") (As := [.int (iI (p)), .int (iI (sp)), .int (iI (kk))]) (rest := [.int (iI (0)), .ref ao]) ⟨hx, hb, hml, hown, hG⟩ (o_steady hC hI hW ((ao, .inl (k 1, al 1 o9)) :: wr) p sp kk hp hsp hkk) (cb_code (n := 3) hG g_447 g_1 g_444 rfl rfl (by decide +kernel) ⟨Nat.le_of_ble_eq_true rfl, Nat.le_of_ble_eq_true rfl⟩) (hG _ g_445) (hG _ g_446) (kd_V (kd_preW h0 hS hP hD) (kd_recv hK hP (q0 := 2) (ci := 5) rfl hrc rfl)) rfl rfl hl.1 rfl (lv_room (Nat.le_of_ble_eq_true rfl)) d_L_steady_7 ⟨Nat.le_of_ble_eq_true rfl, Nat.le_of_ble_eq_true rfl⟩) (fun E ws9 hE H locs hP hD hS q T0 hT0 hq => ?_) (fun v9 ws9 h9 H locs hP hD hS => ?_)
  · obtain ⟨wc', rfl, hW2, hE⟩ := hE
    rcases hE with ⟨rfl, hc⟩ | ⟨rfl, hc⟩ | ⟨rfl, hc⟩
    · refine ex_catch (name := xIO) hown (tableOf []) ⟨0, 12, 15, 32⟩ (tableOf [(0, 12, 19, 13), (0, 12, 23, 19)]) (htab.trans rfl) (fun z hz => nomatch hz) rfl (by decide) (hG _ g_303) (cx_can hC h0 g_318 _) hT0 hq ?_
      refine lv_astore (lv' := [(5, .ref q), (0, .ref cx), (1, .int (iI (p))), (2, .int (iI (sp))), (3, .int (iI (kk))), (4, .ref ao)]) hx hb d_L_steady_15 hl (by decide) rfl (fun ls hl => ?_)
      refine ri_iconst hx hb d_L_steady_17 ?_
      exact re_i hx hb hr hlocks (fun t9 ht9 hW9 => ⟨_, ⟨wc', o9, 1, rfl, rfl, Or.inr (Or.inl ⟨rfl, hc, hW2⟩)⟩, wd_next h0 hS hP hD t9 ht9 hW9⟩) hS.2.2 (Nat.le_of_ble_eq_true rfl) (Nat.le_of_ble_eq_true rfl) d_L_steady_18
    · refine ex_catch (name := xIA) hown (tableOf [(0, 12, 15, 32)]) ⟨0, 12, 19, 13⟩ (tableOf [(0, 12, 23, 19)]) (htab.trans rfl) (fun z hz => by rw [List.mem_singleton.mp hz]; exact Or.inr ⟨by decide, xIO, hG _ g_303, hnc.1.2⟩) rfl (by decide) (hG _ g_105) (cx_can hC h0 g_115 _) hT0 hq ?_
      refine lv_astore (lv' := [(5, .ref q), (0, .ref cx), (1, .int (iI (p))), (2, .int (iI (sp))), (3, .int (iI (kk))), (4, .ref ao)]) hx hb d_L_steady_19 hl (by decide) rfl (fun ls hl => ?_)
      refine ri_iconst hx hb d_L_steady_21 ?_
      exact re_i hx hb hr hlocks (fun t9 ht9 hW9 => ⟨_, ⟨wc', o9, 2, rfl, rfl, Or.inr (Or.inr (Or.inl ⟨rfl, hc, hW2⟩))⟩, wd_next h0 hS hP hD t9 ht9 hW9⟩) hS.2.2 (Nat.le_of_ble_eq_true rfl) (Nat.le_of_ble_eq_true rfl) d_L_steady_22
    · refine ex_catch (name := xIS) hown (tableOf [(0, 12, 15, 32), (0, 12, 19, 13)]) ⟨0, 12, 23, 19⟩ (tableOf []) (htab.trans rfl) (fun z hz => by rcases List.mem_cons.mp hz with rfl | hz; exact Or.inr ⟨by decide, xIO, hG _ g_303, hnc.2.1.2⟩; rw [List.mem_singleton.mp hz]; exact Or.inr ⟨by decide, xIA, hG _ g_105, hnc.2.1.1⟩) rfl (by decide) (hG _ g_188) (cx_can hC h0 g_202 _) hT0 hq ?_
      refine lv_astore (lv' := [(5, .ref q), (0, .ref cx), (1, .int (iI (p))), (2, .int (iI (sp))), (3, .int (iI (kk))), (4, .ref ao)]) hx hb d_L_steady_23 hl (by decide) rfl (fun ls hl => ?_)
      refine ri_iconst hx hb d_L_steady_25 ?_
      exact re_i hx hb hr hlocks (fun t9 ht9 hW9 => ⟨_, ⟨wc', o9, 3, rfl, rfl, Or.inr (Or.inr (Or.inr (⟨rfl, hc, hW2⟩)))⟩, wd_next h0 hS hP hD t9 ht9 hW9⟩) hS.2.2 (Nat.le_of_ble_eq_true rfl) (Nat.le_of_ble_eq_true rfl) d_L_steady_26
  · obtain ⟨wc', rfl, hc, rfl, hW2, hI2⟩ := h9
    show W _ _ _ _ _ _ _ _ _ _ _ _ _ _ _ (F0 m9 10 ls [.int (iI (stF (fun j => (f 12) (65 * p + j)) sp ((f 10) p).toNat (kk.toNat + 1))), .int (iI (0)), .ref ao])
    refine ri_i2lw hx hb d_L_steady_10 ?_
    replace hP := wl_Pp hP List.perm_middle
    replace hD := wl_Dp hD List.perm_middle
    refine ra_last (v := tw (stF (fun j => (f 12) (65 * p + j)) sp ((f 10) p).toNat (kk.toNat + 1))) hx hb hK hP hD hS 0 rfl (by omega) (by omega) d_L_steady_11 (fun H locs hP hD hS => ?_)
    have hP : va_P D classes ((ao, .inl (k 1, al 1 (zU o9 (0) (tw (stF (fun j => (f 12) (65 * p + j)) sp ((f 10) p).toNat (kk.toNat + 1)))))) :: (wc' ++ wr)) H := hP
    have hD : va_D (fun q : Nat => s0.heap.size ≤ q) ((ao, .inl (k 1, al 1 (zU o9 (0) (tw (stF (fun j => (f 12) (65 * p + j)) sp ((f 10) p).toNat (kk.toNat + 1)))))) :: (wc' ++ wr)) := hD
    replace hP := wl_Pp hP List.perm_middle.symm
    replace hD := wl_Dp hD List.perm_middle.symm
    refine lv_goto (tgt := 27) hx hb d_L_steady_12 (by decide) ?_
    refine ri_iconst hx hb d_L_steady_27 ?_
    exact re_i hx hb hr hlocks (fun t9 ht9 hW9 => ⟨_, ⟨wc', zU o9 0 (tw (stF (fun j => (f 12) (65 * p + j)) sp ((f 10) p).toNat (kk.toNat + 1))), 0, rfl, rfl, Or.inl ⟨rfl, hc, zU_eq, hW2, hI2⟩⟩, wd_next h0 hS hP hD t9 ht9 hW9⟩) hS.2.2 (Nat.le_of_ble_eq_true rfl) (Nat.le_of_ble_eq_true rfl) d_L_steady_28
set_option maxHeartbeats 4000000 in
set_option maxRecDepth 100000 in
theorem w_volume {l : Launch} {s0 : State} {D : va_G} {k : Nat → ClassId} (hC : Cx l s0 D k) {cx : Nat} {v : Nat → Int} {f : Nat → Int → Int} {wc : va_W} (hI : Iv v f) (hW : Cst k cx v f wc) (wr : va_W) (ao : Nat) (o9 : Int → Int) (p up : Int) (hp : In32 p) (hup : In32 up) : WdM l s0 D y_L_volume { frames := 8, cells := 1, slots := 6, locals := 136 } [.ref cx, .int (iI (p)), .int (iI (up)), .ref ao] (wc ++ ((ao, .inl (k 1, al 1 o9)) :: wr)) (fun v9 ws' => ∃ (wc' : va_W) (o' : Int → Int) (kz : Int), v9 = some (.int (iI (kz))) ∧ ws' = wc' ++ ((ao, .inl (k 1, al 1 o')) :: wr) ∧ (kz = 0 ∧ (0 ≤ p ∧ p < (v 9)) ∧ o' 0 = (if up = 0 then (itF (fun a b => a + b) (sqF (fun j => (f 12) (65 * p + j)) up) 0 1 ((f 10) p).toNat * 314159).tdiv 100000 else (itF (fun a b => a + b) (sqF (fun j => (f 12) (65 * p + j)) up) 0 1 ((f 10) p).toNat * 314160).tdiv 100000 + 1) ∧ Cst k cx v f wc' ∧ Iv v f ∨ kz = 1 ∧ ¬ (0 ≤ p ∧ p < (v 9)) ∧ Cst k cx v f wc')) (fun _ _ => False) 1 6 := by
  refine ex_ofW (cc := b_L_volume) (maxL := 5) (ret := (some .int)) (hh := [(0, 9, 12, 32)]) (by decide +kernel) (Or.inr g_457) ?_
  intro p9 e9 s m9 args9 below9 meth9 c9 s9 B9 hml htab hv
  obtain ⟨rfl, h0, hP, hD⟩ := hv
  have hx := B9.exec
  have hb := B9.bytes
  have hr := B9.returns
  have hG := atoms_spec (ws := GW) B9.pre
  have hown : s.vm.findClass "LathePiecesLaw" = some m9.cls := findClass_of_methodNamed B9.named
  have hlocks := B9.notSynchronized
  have hK := cx_K hC h0
  have hS : va_S (aL s0) s.heap s.heap [] := va_S.rf
  have hnc := cx_nc hC h0
  obtain ⟨fs9, hrc⟩ := hW.recv ((ao, .inl (k 1, al 1 o9)) :: wr)
  have hl := lv_entry ([.ref cx, .int (iI (p)), .int (iI (up)), .ref ao]) (n := 5) (Nat.le_of_ble_eq_true rfl)
  rw [lg_entry_eq]
  generalize (lg_sl ([.ref cx, .int (iI (p)), .int (iI (up)), .ref ao]) ++ List.replicate (5 - (lg_sl ([.ref cx, .int (iI (p)), .int (iI (up)), .ref ao])).length) Slot.unset).toArray = ls at hl ⊢
  replace hl : lv_has ls 5 [(0, .ref cx), (1, .int (iI (p))), (2, .int (iI (up))), (3, .ref ao)] := hl
  refine lv_aload_n hx hb d_L_volume_0 rfl (lv_at hl 3 rfl) ?_
  refine ri_iconst hx hb d_L_volume_1 ?_
  refine lv_aload_n hx hb d_L_volume_2 rfl (lv_at hl 0 rfl) ?_
  refine lv_iload_n hx hb d_L_volume_3 rfl (lv_at hl 1 rfl) ?_
  refine lv_iload_n hx hb d_L_volume_4 rfl (lv_at hl 2 rfl) ?_
  refine wd_callC h0 hS (ex_runV (C := "LathePieces") (As := [.int (iI (p)), .int (iI (up))]) (rest := [.int (iI (0)), .ref ao]) ⟨hx, hb, hml, hown, hG⟩ (o_volume hC hI hW ((ao, .inl (k 1, al 1 o9)) :: wr) p up hp hup) (cb_code (n := 2) hG g_461 g_1 g_458 rfl rfl (by decide +kernel) ⟨Nat.le_of_ble_eq_true rfl, Nat.le_of_ble_eq_true rfl⟩) (hG _ g_459) (hG _ g_460) (kd_V (kd_preW h0 hS hP hD) (kd_recv hK hP (q0 := 2) (ci := 5) rfl hrc rfl)) rfl rfl hl.1 rfl (lv_room (Nat.le_of_ble_eq_true rfl)) d_L_volume_5 ⟨Nat.le_of_ble_eq_true rfl, Nat.le_of_ble_eq_true rfl⟩) (fun E ws9 hE H locs hP hD hS q T0 hT0 hq => ?_) (fun v9 ws9 h9 H locs hP hD hS => ?_)
  · obtain ⟨wc', rfl, hW2, hE⟩ := hE
    obtain ⟨rfl, hc⟩ := hE
    refine ex_catch (name := xIO) hown (tableOf []) ⟨0, 9, 12, 32⟩ (tableOf []) (htab.trans rfl) (fun z hz => nomatch hz) rfl (by decide) (hG _ g_303) (cx_can hC h0 g_318 _) hT0 hq ?_
    refine lv_astore (lv' := [(4, .ref q), (0, .ref cx), (1, .int (iI (p))), (2, .int (iI (up))), (3, .ref ao)]) hx hb d_L_volume_12 hl (by decide) rfl (fun ls hl => ?_)
    refine ri_iconst hx hb d_L_volume_14 ?_
    exact re_i hx hb hr hlocks (fun t9 ht9 hW9 => ⟨_, ⟨wc', o9, 1, rfl, rfl, Or.inr (⟨rfl, hc, hW2⟩)⟩, wd_next h0 hS hP hD t9 ht9 hW9⟩) hS.2.2 (Nat.le_of_ble_eq_true rfl) (Nat.le_of_ble_eq_true rfl) d_L_volume_15
  · obtain ⟨wc', rfl, hc, rfl, hW2, hI2⟩ := h9
    show W _ _ _ _ _ _ _ _ _ _ _ _ _ _ _ (F0 m9 8 ls [.long (jJ (if up = 0 then (itF (fun a b => a + b) (sqF (fun j => (f 12) (65 * p + j)) up) 0 1 ((f 10) p).toNat * 314159).tdiv 100000 else (itF (fun a b => a + b) (sqF (fun j => (f 12) (65 * p + j)) up) 0 1 ((f 10) p).toNat * 314160).tdiv 100000 + 1)), .int (iI (0)), .ref ao])
    replace hP := wl_Pp hP List.perm_middle
    replace hD := wl_Dp hD List.perm_middle
    refine ra_last (v := if up = 0 then (itF (fun a b => a + b) (sqF (fun j => (f 12) (65 * p + j)) up) 0 1 ((f 10) p).toNat * 314159).tdiv 100000 else (itF (fun a b => a + b) (sqF (fun j => (f 12) (65 * p + j)) up) 0 1 ((f 10) p).toNat * 314160).tdiv 100000 + 1) hx hb hK hP hD hS 0 rfl (by omega) (by omega) d_L_volume_8 (fun H locs hP hD hS => ?_)
    have hP : va_P D classes ((ao, .inl (k 1, al 1 (zU o9 (0) (if up = 0 then (itF (fun a b => a + b) (sqF (fun j => (f 12) (65 * p + j)) up) 0 1 ((f 10) p).toNat * 314159).tdiv 100000 else (itF (fun a b => a + b) (sqF (fun j => (f 12) (65 * p + j)) up) 0 1 ((f 10) p).toNat * 314160).tdiv 100000 + 1)))) :: (wc' ++ wr)) H := hP
    have hD : va_D (fun q : Nat => s0.heap.size ≤ q) ((ao, .inl (k 1, al 1 (zU o9 (0) (if up = 0 then (itF (fun a b => a + b) (sqF (fun j => (f 12) (65 * p + j)) up) 0 1 ((f 10) p).toNat * 314159).tdiv 100000 else (itF (fun a b => a + b) (sqF (fun j => (f 12) (65 * p + j)) up) 0 1 ((f 10) p).toNat * 314160).tdiv 100000 + 1)))) :: (wc' ++ wr)) := hD
    replace hP := wl_Pp hP List.perm_middle.symm
    replace hD := wl_Dp hD List.perm_middle.symm
    refine lv_goto (tgt := 16) hx hb d_L_volume_9 (by decide) ?_
    refine ri_iconst hx hb d_L_volume_16 ?_
    exact re_i hx hb hr hlocks (fun t9 ht9 hW9 => ⟨_, ⟨wc', zU o9 0 (if up = 0 then (itF (fun a b => a + b) (sqF (fun j => (f 12) (65 * p + j)) up) 0 1 ((f 10) p).toNat * 314159).tdiv 100000 else (itF (fun a b => a + b) (sqF (fun j => (f 12) (65 * p + j)) up) 0 1 ((f 10) p).toNat * 314160).tdiv 100000 + 1), 0, rfl, rfl, Or.inl ⟨rfl, hc, zU_eq, hW2, hI2⟩⟩, wd_next h0 hS hP hD t9 ht9 hW9⟩) hS.2.2 (Nat.le_of_ble_eq_true rfl) (Nat.le_of_ble_eq_true rfl) d_L_volume_17
set_option maxHeartbeats 4000000 in
set_option maxRecDepth 100000 in
theorem w_hollow {l : Launch} {s0 : State} {D : va_G} {k : Nat → ClassId} (hC : Cx l s0 D k) {cx : Nat} {v : Nat → Int} {f : Nat → Int → Int} {wc : va_W} (hI : Iv v f) (hW : Cst k cx v f wc) (wr : va_W) (ao : Nat) (o9 : Int → Int) (p wl9 br : Int) (hp : In32 p) (hwl : In32 wl9) (hbr9 : In32 br) : WdM l s0 D y_L_hollow { frames := 8, cells := 3, slots := 18, locals := 136 } [.ref cx, .int (iI (p)), .int (iI (wl9)), .int (iI (br)), .ref ao] (wc ++ ((ao, .inl (k 1, al 1 o9)) :: wr)) (fun v9 ws' => ∃ (wc' : va_W) (o' : Int → Int) (kz : Int), v9 = some (.int (iI (kz))) ∧ ws' = wc' ++ ((ao, .inl (k 1, al 1 o')) :: wr) ∧ (kz = 0 ∧ ((0 ≤ p ∧ p < (v 9)) ∧ ((1 ≤ wl9 ∧ wl9 ≤ 100) ∧ (0 ≤ br ∧ br ≤ 100))) ∧ o' 0 = tw (hoF (fun j => (f 12) (65 * p + j)) (wl9 + br) (((f 10) p).toNat + 1)) ∧ Cst k cx v f wc' ∧ Iv v f ∨ kz = 1 ∧ ¬ (0 ≤ p ∧ p < (v 9)) ∧ Cst k cx v f wc' ∨ kz = 2 ∧ ((0 ≤ p ∧ p < (v 9)) ∧ ¬ ((1 ≤ wl9 ∧ wl9 ≤ 100) ∧ (0 ≤ br ∧ br ≤ 100))) ∧ Cst k cx v f wc')) (fun _ _ => False) 3 18 := by
  refine ex_ofW (cc := b_L_hollow) (maxL := 6) (ret := (some .int)) (hh := [(0, 12, 15, 32), (0, 12, 19, 13)]) (by decide +kernel) (Or.inr g_471) ?_
  intro p9 e9 s m9 args9 below9 meth9 c9 s9 B9 hml htab hv
  obtain ⟨rfl, h0, hP, hD⟩ := hv
  have hx := B9.exec
  have hb := B9.bytes
  have hr := B9.returns
  have hG := atoms_spec (ws := GW) B9.pre
  have hown : s.vm.findClass "LathePiecesLaw" = some m9.cls := findClass_of_methodNamed B9.named
  have hlocks := B9.notSynchronized
  have hK := cx_K hC h0
  have hS : va_S (aL s0) s.heap s.heap [] := va_S.rf
  have hnc := cx_nc hC h0
  obtain ⟨fs9, hrc⟩ := hW.recv ((ao, .inl (k 1, al 1 o9)) :: wr)
  have hl := lv_entry ([.ref cx, .int (iI (p)), .int (iI (wl9)), .int (iI (br)), .ref ao]) (n := 6) (Nat.le_of_ble_eq_true rfl)
  rw [lg_entry_eq]
  generalize (lg_sl ([.ref cx, .int (iI (p)), .int (iI (wl9)), .int (iI (br)), .ref ao]) ++ List.replicate (6 - (lg_sl ([.ref cx, .int (iI (p)), .int (iI (wl9)), .int (iI (br)), .ref ao])).length) Slot.unset).toArray = ls at hl ⊢
  replace hl : lv_has ls 6 [(0, .ref cx), (1, .int (iI (p))), (2, .int (iI (wl9))), (3, .int (iI (br))), (4, .ref ao)] := hl
  refine lv_aload hx hb d_L_hollow_0 (lv_at hl 4 rfl) ?_
  refine ri_iconst hx hb d_L_hollow_2 ?_
  refine lv_aload_n hx hb d_L_hollow_3 rfl (lv_at hl 0 rfl) ?_
  refine lv_iload_n hx hb d_L_hollow_4 rfl (lv_at hl 1 rfl) ?_
  refine lv_iload_n hx hb d_L_hollow_5 rfl (lv_at hl 2 rfl) ?_
  refine lv_iload_n hx hb d_L_hollow_6 rfl (lv_at hl 3 rfl) ?_
  refine wd_callC h0 hS (ex_runV (C := "LathePieces") (As := [.int (iI (p)), .int (iI (wl9)), .int (iI (br))]) (rest := [.int (iI (0)), .ref ao]) ⟨hx, hb, hml, hown, hG⟩ (o_hollow hC hI hW ((ao, .inl (k 1, al 1 o9)) :: wr) p wl9 br hp hwl hbr9) (cb_code (n := 3) hG g_475 g_1 g_472 rfl rfl (by decide +kernel) ⟨Nat.le_of_ble_eq_true rfl, Nat.le_of_ble_eq_true rfl⟩) (hG _ g_473) (hG _ g_474) (kd_V (kd_preW h0 hS hP hD) (kd_recv hK hP (q0 := 2) (ci := 5) rfl hrc rfl)) rfl rfl hl.1 rfl (lv_room (Nat.le_of_ble_eq_true rfl)) d_L_hollow_7 ⟨Nat.le_of_ble_eq_true rfl, Nat.le_of_ble_eq_true rfl⟩) (fun E ws9 hE H locs hP hD hS q T0 hT0 hq => ?_) (fun v9 ws9 h9 H locs hP hD hS => ?_)
  · obtain ⟨wc', rfl, hW2, hE⟩ := hE
    rcases hE with ⟨rfl, hc⟩ | ⟨rfl, hc⟩
    · refine ex_catch (name := xIO) hown (tableOf []) ⟨0, 12, 15, 32⟩ (tableOf [(0, 12, 19, 13)]) (htab.trans rfl) (fun z hz => nomatch hz) rfl (by decide) (hG _ g_303) (cx_can hC h0 g_318 _) hT0 hq ?_
      refine lv_astore (lv' := [(5, .ref q), (0, .ref cx), (1, .int (iI (p))), (2, .int (iI (wl9))), (3, .int (iI (br))), (4, .ref ao)]) hx hb d_L_hollow_15 hl (by decide) rfl (fun ls hl => ?_)
      refine ri_iconst hx hb d_L_hollow_17 ?_
      exact re_i hx hb hr hlocks (fun t9 ht9 hW9 => ⟨_, ⟨wc', o9, 1, rfl, rfl, Or.inr (Or.inl ⟨rfl, hc, hW2⟩)⟩, wd_next h0 hS hP hD t9 ht9 hW9⟩) hS.2.2 (Nat.le_of_ble_eq_true rfl) (Nat.le_of_ble_eq_true rfl) d_L_hollow_18
    · refine ex_catch (name := xIA) hown (tableOf [(0, 12, 15, 32)]) ⟨0, 12, 19, 13⟩ (tableOf []) (htab.trans rfl) (fun z hz => by rw [List.mem_singleton.mp hz]; exact Or.inr ⟨by decide, xIO, hG _ g_303, hnc.1.2⟩) rfl (by decide) (hG _ g_105) (cx_can hC h0 g_115 _) hT0 hq ?_
      refine lv_astore (lv' := [(5, .ref q), (0, .ref cx), (1, .int (iI (p))), (2, .int (iI (wl9))), (3, .int (iI (br))), (4, .ref ao)]) hx hb d_L_hollow_19 hl (by decide) rfl (fun ls hl => ?_)
      refine ri_iconst hx hb d_L_hollow_21 ?_
      exact re_i hx hb hr hlocks (fun t9 ht9 hW9 => ⟨_, ⟨wc', o9, 2, rfl, rfl, Or.inr (Or.inr (⟨rfl, hc, hW2⟩))⟩, wd_next h0 hS hP hD t9 ht9 hW9⟩) hS.2.2 (Nat.le_of_ble_eq_true rfl) (Nat.le_of_ble_eq_true rfl) d_L_hollow_22
  · obtain ⟨wc', rfl, hc, rfl, hW2, hI2⟩ := h9
    show W _ _ _ _ _ _ _ _ _ _ _ _ _ _ _ (F0 m9 10 ls [.int (iI (hoF (fun j => (f 12) (65 * p + j)) (wl9 + br) (((f 10) p).toNat + 1))), .int (iI (0)), .ref ao])
    refine ri_i2lw hx hb d_L_hollow_10 ?_
    replace hP := wl_Pp hP List.perm_middle
    replace hD := wl_Dp hD List.perm_middle
    refine ra_last (v := tw (hoF (fun j => (f 12) (65 * p + j)) (wl9 + br) (((f 10) p).toNat + 1))) hx hb hK hP hD hS 0 rfl (by omega) (by omega) d_L_hollow_11 (fun H locs hP hD hS => ?_)
    have hP : va_P D classes ((ao, .inl (k 1, al 1 (zU o9 (0) (tw (hoF (fun j => (f 12) (65 * p + j)) (wl9 + br) (((f 10) p).toNat + 1)))))) :: (wc' ++ wr)) H := hP
    have hD : va_D (fun q : Nat => s0.heap.size ≤ q) ((ao, .inl (k 1, al 1 (zU o9 (0) (tw (hoF (fun j => (f 12) (65 * p + j)) (wl9 + br) (((f 10) p).toNat + 1)))))) :: (wc' ++ wr)) := hD
    replace hP := wl_Pp hP List.perm_middle.symm
    replace hD := wl_Dp hD List.perm_middle.symm
    refine lv_goto (tgt := 23) hx hb d_L_hollow_12 (by decide) ?_
    refine ri_iconst hx hb d_L_hollow_23 ?_
    exact re_i hx hb hr hlocks (fun t9 ht9 hW9 => ⟨_, ⟨wc', zU o9 0 (tw (hoF (fun j => (f 12) (65 * p + j)) (wl9 + br) (((f 10) p).toNat + 1))), 0, rfl, rfl, Or.inl ⟨rfl, hc, zU_eq, hW2, hI2⟩⟩, wd_next h0 hS hP hD t9 ht9 hW9⟩) hS.2.2 (Nat.le_of_ble_eq_true rfl) (Nat.le_of_ble_eq_true rfl) d_L_hollow_24
set_option maxHeartbeats 4000000 in
set_option maxRecDepth 100000 in
theorem w_copy {l : Launch} {s0 : State} {D : va_G} {k : Nat → ClassId} (hC : Cx l s0 D k) {cx : Nat} {v : Nat → Int} {f : Nat → Int → Int} {wc : va_W} (hI : Iv v f) (hW : Cst k cx v f wc) (wr : va_W) (ao : Nat) (o9 : Int → Int) (p p2 : Int) (hp : In32 p) (hp2 : In32 p2) : WdM l s0 D y_L_copy { frames := 8, cells := 2, slots := 12, locals := 134 } [.ref cx, .int (iI (p)), .int (iI (p2)), .ref ao] (wc ++ ((ao, .inl (k 1, al 1 o9)) :: wr)) (fun v9 ws' => ∃ (wc' : va_W) (o' : Int → Int) (kz : Int), v9 = some (.int (iI (kz))) ∧ ws' = wc' ++ ((ao, .inl (k 1, al 1 o')) :: wr) ∧ (kz = 0 ∧ (0 ≤ p ∧ p < (v 9) ∧ 0 ≤ p2 ∧ p2 < (v 9)) ∧ o' 0 = tw (itF max (fun j => (((f 12) (65 * p + j) - (f 12) (65 * p2 + j)).natAbs : Int)) 0 0 (min ((f 10) p).toNat ((f 10) p2).toNat + 1)) ∧ Cst k cx v f wc' ∧ Iv v f ∨ kz = 1 ∧ ¬ (0 ≤ p ∧ p < (v 9) ∧ 0 ≤ p2 ∧ p2 < (v 9)) ∧ Cst k cx v f wc')) (fun _ _ => False) 2 12 := by
  refine ex_ofW (cc := b_L_copy) (maxL := 5) (ret := (some .int)) (hh := [(0, 10, 13, 32)]) (by decide +kernel) (Or.inr g_482) ?_
  intro p9 e9 s m9 args9 below9 meth9 c9 s9 B9 hml htab hv
  obtain ⟨rfl, h0, hP, hD⟩ := hv
  have hx := B9.exec
  have hb := B9.bytes
  have hr := B9.returns
  have hG := atoms_spec (ws := GW) B9.pre
  have hown : s.vm.findClass "LathePiecesLaw" = some m9.cls := findClass_of_methodNamed B9.named
  have hlocks := B9.notSynchronized
  have hK := cx_K hC h0
  have hS : va_S (aL s0) s.heap s.heap [] := va_S.rf
  have hnc := cx_nc hC h0
  obtain ⟨fs9, hrc⟩ := hW.recv ((ao, .inl (k 1, al 1 o9)) :: wr)
  have hl := lv_entry ([.ref cx, .int (iI (p)), .int (iI (p2)), .ref ao]) (n := 5) (Nat.le_of_ble_eq_true rfl)
  rw [lg_entry_eq]
  generalize (lg_sl ([.ref cx, .int (iI (p)), .int (iI (p2)), .ref ao]) ++ List.replicate (5 - (lg_sl ([.ref cx, .int (iI (p)), .int (iI (p2)), .ref ao])).length) Slot.unset).toArray = ls at hl ⊢
  replace hl : lv_has ls 5 [(0, .ref cx), (1, .int (iI (p))), (2, .int (iI (p2))), (3, .ref ao)] := hl
  refine lv_aload_n hx hb d_L_copy_0 rfl (lv_at hl 3 rfl) ?_
  refine ri_iconst hx hb d_L_copy_1 ?_
  refine lv_aload_n hx hb d_L_copy_2 rfl (lv_at hl 0 rfl) ?_
  refine lv_iload_n hx hb d_L_copy_3 rfl (lv_at hl 1 rfl) ?_
  refine lv_iload_n hx hb d_L_copy_4 rfl (lv_at hl 2 rfl) ?_
  refine wd_callC h0 hS (ex_runV (C := "LathePieces") (As := [.int (iI (p)), .int (iI (p2))]) (rest := [.int (iI (0)), .ref ao]) ⟨hx, hb, hml, hown, hG⟩ (o_copy hC hI hW ((ao, .inl (k 1, al 1 o9)) :: wr) p p2 hp hp2) (cb_code (n := 2) hG g_486 g_1 g_483 rfl rfl (by decide +kernel) ⟨Nat.le_of_ble_eq_true rfl, Nat.le_of_ble_eq_true rfl⟩) (hG _ g_484) (hG _ g_485) (kd_V (kd_preW h0 hS hP hD) (kd_recv hK hP (q0 := 2) (ci := 5) rfl hrc rfl)) rfl rfl hl.1 rfl (lv_room (Nat.le_of_ble_eq_true rfl)) d_L_copy_5 ⟨Nat.le_of_ble_eq_true rfl, Nat.le_of_ble_eq_true rfl⟩) (fun E ws9 hE H locs hP hD hS q T0 hT0 hq => ?_) (fun v9 ws9 h9 H locs hP hD hS => ?_)
  · obtain ⟨wc', rfl, hW2, hE⟩ := hE
    obtain ⟨rfl, hc⟩ := hE
    refine ex_catch (name := xIO) hown (tableOf []) ⟨0, 10, 13, 32⟩ (tableOf []) (htab.trans rfl) (fun z hz => nomatch hz) rfl (by decide) (hG _ g_303) (cx_can hC h0 g_318 _) hT0 hq ?_
    refine lv_astore (lv' := [(4, .ref q), (0, .ref cx), (1, .int (iI (p))), (2, .int (iI (p2))), (3, .ref ao)]) hx hb d_L_copy_13 hl (by decide) rfl (fun ls hl => ?_)
    refine ri_iconst hx hb d_L_copy_15 ?_
    exact re_i hx hb hr hlocks (fun t9 ht9 hW9 => ⟨_, ⟨wc', o9, 1, rfl, rfl, Or.inr (⟨rfl, hc, hW2⟩)⟩, wd_next h0 hS hP hD t9 ht9 hW9⟩) hS.2.2 (Nat.le_of_ble_eq_true rfl) (Nat.le_of_ble_eq_true rfl) d_L_copy_16
  · obtain ⟨wc', rfl, hc, rfl, hW2, hI2⟩ := h9
    show W _ _ _ _ _ _ _ _ _ _ _ _ _ _ _ (F0 m9 8 ls [.int (iI (itF max (fun j => (((f 12) (65 * p + j) - (f 12) (65 * p2 + j)).natAbs : Int)) 0 0 (min ((f 10) p).toNat ((f 10) p2).toNat + 1))), .int (iI (0)), .ref ao])
    refine ri_i2lw hx hb d_L_copy_8 ?_
    replace hP := wl_Pp hP List.perm_middle
    replace hD := wl_Dp hD List.perm_middle
    refine ra_last (v := tw (itF max (fun j => (((f 12) (65 * p + j) - (f 12) (65 * p2 + j)).natAbs : Int)) 0 0 (min ((f 10) p).toNat ((f 10) p2).toNat + 1))) hx hb hK hP hD hS 0 rfl (by omega) (by omega) d_L_copy_9 (fun H locs hP hD hS => ?_)
    have hP : va_P D classes ((ao, .inl (k 1, al 1 (zU o9 (0) (tw (itF max (fun j => (((f 12) (65 * p + j) - (f 12) (65 * p2 + j)).natAbs : Int)) 0 0 (min ((f 10) p).toNat ((f 10) p2).toNat + 1)))))) :: (wc' ++ wr)) H := hP
    have hD : va_D (fun q : Nat => s0.heap.size ≤ q) ((ao, .inl (k 1, al 1 (zU o9 (0) (tw (itF max (fun j => (((f 12) (65 * p + j) - (f 12) (65 * p2 + j)).natAbs : Int)) 0 0 (min ((f 10) p).toNat ((f 10) p2).toNat + 1)))))) :: (wc' ++ wr)) := hD
    replace hP := wl_Pp hP List.perm_middle.symm
    replace hD := wl_Dp hD List.perm_middle.symm
    refine lv_goto (tgt := 17) hx hb d_L_copy_10 (by decide) ?_
    refine ri_iconst hx hb d_L_copy_17 ?_
    exact re_i hx hb hr hlocks (fun t9 ht9 hW9 => ⟨_, ⟨wc', zU o9 0 (tw (itF max (fun j => (((f 12) (65 * p + j) - (f 12) (65 * p2 + j)).natAbs : Int)) 0 0 (min ((f 10) p).toNat ((f 10) p2).toNat + 1))), 0, rfl, rfl, Or.inl ⟨rfl, hc, zU_eq, hW2, hI2⟩⟩, wd_next h0 hS hP hD t9 ht9 hW9⟩) hS.2.2 (Nat.le_of_ble_eq_true rfl) (Nat.le_of_ble_eq_true rfl) d_L_copy_18
set_option maxHeartbeats 4000000 in
set_option maxRecDepth 100000 in
theorem w_ring {l : Launch} {s0 : State} {D : va_G} {k : Nat → ClassId} (hC : Cx l s0 D k) {cx : Nat} {v : Nat → Int} {f : Nat → Int → Int} {wc : va_W} (hI : Iv v f) (hW : Cst k cx v f wc) (wr : va_W) (ao : Nat) (o9 : Int → Int)  : WdM l s0 D y_L_ring { frames := 7, cells := 4, slots := 42, locals := 110 } [.ref cx, .ref ao] (wc ++ ((ao, .inl (k 1, al 1 o9)) :: wr)) (fun v9 ws' => ∃ (wc' : va_W) (o' : Int → Int) (kz : Int), v9 = some (.int (iI (kz))) ∧ ws' = wc' ++ ((ao, .inl (k 1, al 1 o')) :: wr) ∧ (kz = 0 ∧ (v 17) < 6 ∧ o' 0 = tw ((v 17)) ∧ Cst k cx (vS (vS v 0 0) 17 (v 17 + 1)) f wc' ∧ Iv (vS (vS v 0 0) 17 (v 17 + 1)) f ∨ kz = 1 ∧ ¬ (v 17) < 6 ∧ Cst k cx v f wc')) (fun _ _ => False) 4 42 := by
  refine ex_ofW (cc := b_L_ring) (maxL := 3) (ret := (some .int)) (hh := [(0, 8, 11, 19)]) (by decide +kernel) (Or.inr g_494) ?_
  intro p9 e9 s m9 args9 below9 meth9 c9 s9 B9 hml htab hv
  obtain ⟨rfl, h0, hP, hD⟩ := hv
  have hx := B9.exec
  have hb := B9.bytes
  have hr := B9.returns
  have hG := atoms_spec (ws := GW) B9.pre
  have hown : s.vm.findClass "LathePiecesLaw" = some m9.cls := findClass_of_methodNamed B9.named
  have hlocks := B9.notSynchronized
  have hK := cx_K hC h0
  have hS : va_S (aL s0) s.heap s.heap [] := va_S.rf
  have hnc := cx_nc hC h0
  obtain ⟨fs9, hrc⟩ := hW.recv ((ao, .inl (k 1, al 1 o9)) :: wr)
  have hl := lv_entry ([.ref cx, .ref ao]) (n := 3) (Nat.le_of_ble_eq_true rfl)
  rw [lg_entry_eq]
  generalize (lg_sl ([.ref cx, .ref ao]) ++ List.replicate (3 - (lg_sl ([.ref cx, .ref ao])).length) Slot.unset).toArray = ls at hl ⊢
  replace hl : lv_has ls 3 [(0, .ref cx), (1, .ref ao)] := hl
  refine lv_aload_n hx hb d_L_ring_0 rfl (lv_at hl 1 rfl) ?_
  refine ri_iconst hx hb d_L_ring_1 ?_
  refine lv_aload_n hx hb d_L_ring_2 rfl (lv_at hl 0 rfl) ?_
  refine wd_callC h0 hS (ex_runV (C := "LathePieces") (As := []) (rest := [.int (iI (0)), .ref ao]) ⟨hx, hb, hml, hown, hG⟩ (o_ring hC hI hW ((ao, .inl (k 1, al 1 o9)) :: wr) ) (cb_code (n := 0) hG g_498 g_1 g_495 rfl rfl (by decide +kernel) ⟨Nat.le_of_ble_eq_true rfl, Nat.le_of_ble_eq_true rfl⟩) (hG _ g_496) (hG _ g_497) (kd_V (kd_preW h0 hS hP hD) (kd_recv hK hP (q0 := 2) (ci := 5) rfl hrc rfl)) rfl rfl hl.1 rfl (lv_room (Nat.le_of_ble_eq_true rfl)) d_L_ring_3 ⟨Nat.le_of_ble_eq_true rfl, Nat.le_of_ble_eq_true rfl⟩) (fun E ws9 hE H locs hP hD hS q T0 hT0 hq => ?_) (fun v9 ws9 h9 H locs hP hD hS => ?_)
  · obtain ⟨wc', rfl, hW2, hE⟩ := hE
    obtain ⟨rfl, hc⟩ := hE
    refine ex_catch (name := xIS) hown (tableOf []) ⟨0, 8, 11, 19⟩ (tableOf []) (htab.trans rfl) (fun z hz => nomatch hz) rfl (by decide) (hG _ g_188) (cx_can hC h0 g_202 _) hT0 hq ?_
    refine lv_astore_n (lv' := [(2, .ref q), (0, .ref cx), (1, .ref ao)]) hx hb d_L_ring_11 rfl hl (by decide) rfl (fun ls hl => ?_)
    refine ri_iconst hx hb d_L_ring_12 ?_
    exact re_i hx hb hr hlocks (fun t9 ht9 hW9 => ⟨_, ⟨wc', o9, 1, rfl, rfl, Or.inr (⟨rfl, hc, hW2⟩)⟩, wd_next h0 hS hP hD t9 ht9 hW9⟩) hS.2.2 (Nat.le_of_ble_eq_true rfl) (Nat.le_of_ble_eq_true rfl) d_L_ring_13
  · obtain ⟨wc', rfl, hc, rfl, hW2, hI2⟩ := h9
    show W _ _ _ _ _ _ _ _ _ _ _ _ _ _ _ (F0 m9 6 ls [.int (iI ((v 17))), .int (iI (0)), .ref ao])
    refine ri_i2lw hx hb d_L_ring_6 ?_
    replace hP := wl_Pp hP List.perm_middle
    replace hD := wl_Dp hD List.perm_middle
    refine ra_last (v := tw ((v 17))) hx hb hK hP hD hS 0 rfl (by omega) (by omega) d_L_ring_7 (fun H locs hP hD hS => ?_)
    have hP : va_P D classes ((ao, .inl (k 1, al 1 (zU o9 (0) (tw ((v 17)))))) :: (wc' ++ wr)) H := hP
    have hD : va_D (fun q : Nat => s0.heap.size ≤ q) ((ao, .inl (k 1, al 1 (zU o9 (0) (tw ((v 17)))))) :: (wc' ++ wr)) := hD
    replace hP := wl_Pp hP List.perm_middle.symm
    replace hD := wl_Dp hD List.perm_middle.symm
    refine lv_goto (tgt := 14) hx hb d_L_ring_8 (by decide) ?_
    refine ri_iconst hx hb d_L_ring_14 ?_
    exact re_i hx hb hr hlocks (fun t9 ht9 hW9 => ⟨_, ⟨wc', zU o9 0 (tw ((v 17))), 0, rfl, rfl, Or.inl ⟨rfl, hc, zU_eq, hW2, hI2⟩⟩, wd_next h0 hS hP hD t9 ht9 hW9⟩) hS.2.2 (Nat.le_of_ble_eq_true rfl) (Nat.le_of_ble_eq_true rfl) d_L_ring_15
set_option maxHeartbeats 4000000 in
set_option maxRecDepth 100000 in
theorem w_wedge {l : Launch} {s0 : State} {D : va_G} {k : Nat → ClassId} (hC : Cx l s0 D k) {cx : Nat} {v : Nat → Int} {f : Nat → Int → Int} {wc : va_W} (hI : Iv v f) (hW : Cst k cx v f wc) (wr : va_W) (ao : Nat) (o9 : Int → Int) (p ab be : Int) (hp : In32 p) (hab : In32 ab) (hbe : In32 be) : WdM l s0 D y_L_wedge { frames := 8, cells := 4, slots := 24, locals := 136 } [.ref cx, .int (iI (p)), .int (iI (ab)), .int (iI (be)), .ref ao] (wc ++ ((ao, .inl (k 1, al 1 o9)) :: wr)) (fun v9 ws' => ∃ (wc' : va_W) (o' : Int → Int) (kz : Int), v9 = some (.int (iI (kz))) ∧ ws' = wc' ++ ((ao, .inl (k 1, al 1 o')) :: wr) ∧ (kz = 0 ∧ ((0 ≤ p ∧ p < (v 17)) ∧ ((1 ≤ ab ∧ ab ≤ 3600) ∧ (1 ≤ be ∧ be ≤ 12)) ∧ (f 18) p < 16) ∧ o' 0 = tw ((f 18) p + 1) ∧ Cst k cx (vS v 0 0) (fS (fS (fS f 18 (zU (f 18) p (f 18 p + 1))) 19 (zU (f 19) (16 * p + f 18 p) ab)) 20 (zU (f 20) (16 * p + f 18 p) be)) wc' ∧ Iv (vS v 0 0) (fS (fS (fS f 18 (zU (f 18) p (f 18 p + 1))) 19 (zU (f 19) (16 * p + f 18 p) ab)) 20 (zU (f 20) (16 * p + f 18 p) be)) ∨ kz = 1 ∧ ¬ (0 ≤ p ∧ p < (v 17)) ∧ Cst k cx v f wc' ∨ kz = 2 ∧ ((0 ≤ p ∧ p < (v 17)) ∧ ¬ ((1 ≤ ab ∧ ab ≤ 3600) ∧ (1 ≤ be ∧ be ≤ 12))) ∧ Cst k cx v f wc' ∨ kz = 3 ∧ ((0 ≤ p ∧ p < (v 17)) ∧ ((1 ≤ ab ∧ ab ≤ 3600) ∧ (1 ≤ be ∧ be ≤ 12)) ∧ ¬ (f 18) p < 16) ∧ Cst k cx v f wc')) (fun _ _ => False) 4 24 := by
  refine ex_ofW (cc := b_L_wedge) (maxL := 6) (ret := (some .int)) (hh := [(0, 12, 15, 32), (0, 12, 19, 13), (0, 12, 23, 19)]) (by decide +kernel) (Or.inr g_523) ?_
  intro p9 e9 s m9 args9 below9 meth9 c9 s9 B9 hml htab hv
  obtain ⟨rfl, h0, hP, hD⟩ := hv
  have hx := B9.exec
  have hb := B9.bytes
  have hr := B9.returns
  have hG := atoms_spec (ws := GW) B9.pre
  have hown : s.vm.findClass "LathePiecesLaw" = some m9.cls := findClass_of_methodNamed B9.named
  have hlocks := B9.notSynchronized
  have hK := cx_K hC h0
  have hS : va_S (aL s0) s.heap s.heap [] := va_S.rf
  have hnc := cx_nc hC h0
  obtain ⟨fs9, hrc⟩ := hW.recv ((ao, .inl (k 1, al 1 o9)) :: wr)
  have hl := lv_entry ([.ref cx, .int (iI (p)), .int (iI (ab)), .int (iI (be)), .ref ao]) (n := 6) (Nat.le_of_ble_eq_true rfl)
  rw [lg_entry_eq]
  generalize (lg_sl ([.ref cx, .int (iI (p)), .int (iI (ab)), .int (iI (be)), .ref ao]) ++ List.replicate (6 - (lg_sl ([.ref cx, .int (iI (p)), .int (iI (ab)), .int (iI (be)), .ref ao])).length) Slot.unset).toArray = ls at hl ⊢
  replace hl : lv_has ls 6 [(0, .ref cx), (1, .int (iI (p))), (2, .int (iI (ab))), (3, .int (iI (be))), (4, .ref ao)] := hl
  refine lv_aload hx hb d_L_wedge_0 (lv_at hl 4 rfl) ?_
  refine ri_iconst hx hb d_L_wedge_2 ?_
  refine lv_aload_n hx hb d_L_wedge_3 rfl (lv_at hl 0 rfl) ?_
  refine lv_iload_n hx hb d_L_wedge_4 rfl (lv_at hl 1 rfl) ?_
  refine lv_iload_n hx hb d_L_wedge_5 rfl (lv_at hl 2 rfl) ?_
  refine lv_iload_n hx hb d_L_wedge_6 rfl (lv_at hl 3 rfl) ?_
  refine wd_callC h0 hS (ex_runV (C := "LathePieces") (As := [.int (iI (p)), .int (iI (ab)), .int (iI (be))]) (rest := [.int (iI (0)), .ref ao]) ⟨hx, hb, hml, hown, hG⟩ (o_wedge hC hI hW ((ao, .inl (k 1, al 1 o9)) :: wr) p ab be hp hab hbe) (cb_code (n := 3) hG g_527 g_1 g_524 rfl rfl (by decide +kernel) ⟨Nat.le_of_ble_eq_true rfl, Nat.le_of_ble_eq_true rfl⟩) (hG _ g_525) (hG _ g_526) (kd_V (kd_preW h0 hS hP hD) (kd_recv hK hP (q0 := 2) (ci := 5) rfl hrc rfl)) rfl rfl hl.1 rfl (lv_room (Nat.le_of_ble_eq_true rfl)) d_L_wedge_7 ⟨Nat.le_of_ble_eq_true rfl, Nat.le_of_ble_eq_true rfl⟩) (fun E ws9 hE H locs hP hD hS q T0 hT0 hq => ?_) (fun v9 ws9 h9 H locs hP hD hS => ?_)
  · obtain ⟨wc', rfl, hW2, hE⟩ := hE
    rcases hE with ⟨rfl, hc⟩ | ⟨rfl, hc⟩ | ⟨rfl, hc⟩
    · refine ex_catch (name := xIO) hown (tableOf []) ⟨0, 12, 15, 32⟩ (tableOf [(0, 12, 19, 13), (0, 12, 23, 19)]) (htab.trans rfl) (fun z hz => nomatch hz) rfl (by decide) (hG _ g_303) (cx_can hC h0 g_318 _) hT0 hq ?_
      refine lv_astore (lv' := [(5, .ref q), (0, .ref cx), (1, .int (iI (p))), (2, .int (iI (ab))), (3, .int (iI (be))), (4, .ref ao)]) hx hb d_L_wedge_15 hl (by decide) rfl (fun ls hl => ?_)
      refine ri_iconst hx hb d_L_wedge_17 ?_
      exact re_i hx hb hr hlocks (fun t9 ht9 hW9 => ⟨_, ⟨wc', o9, 1, rfl, rfl, Or.inr (Or.inl ⟨rfl, hc, hW2⟩)⟩, wd_next h0 hS hP hD t9 ht9 hW9⟩) hS.2.2 (Nat.le_of_ble_eq_true rfl) (Nat.le_of_ble_eq_true rfl) d_L_wedge_18
    · refine ex_catch (name := xIA) hown (tableOf [(0, 12, 15, 32)]) ⟨0, 12, 19, 13⟩ (tableOf [(0, 12, 23, 19)]) (htab.trans rfl) (fun z hz => by rw [List.mem_singleton.mp hz]; exact Or.inr ⟨by decide, xIO, hG _ g_303, hnc.1.2⟩) rfl (by decide) (hG _ g_105) (cx_can hC h0 g_115 _) hT0 hq ?_
      refine lv_astore (lv' := [(5, .ref q), (0, .ref cx), (1, .int (iI (p))), (2, .int (iI (ab))), (3, .int (iI (be))), (4, .ref ao)]) hx hb d_L_wedge_19 hl (by decide) rfl (fun ls hl => ?_)
      refine ri_iconst hx hb d_L_wedge_21 ?_
      exact re_i hx hb hr hlocks (fun t9 ht9 hW9 => ⟨_, ⟨wc', o9, 2, rfl, rfl, Or.inr (Or.inr (Or.inl ⟨rfl, hc, hW2⟩))⟩, wd_next h0 hS hP hD t9 ht9 hW9⟩) hS.2.2 (Nat.le_of_ble_eq_true rfl) (Nat.le_of_ble_eq_true rfl) d_L_wedge_22
    · refine ex_catch (name := xIS) hown (tableOf [(0, 12, 15, 32), (0, 12, 19, 13)]) ⟨0, 12, 23, 19⟩ (tableOf []) (htab.trans rfl) (fun z hz => by rcases List.mem_cons.mp hz with rfl | hz; exact Or.inr ⟨by decide, xIO, hG _ g_303, hnc.2.1.2⟩; rw [List.mem_singleton.mp hz]; exact Or.inr ⟨by decide, xIA, hG _ g_105, hnc.2.1.1⟩) rfl (by decide) (hG _ g_188) (cx_can hC h0 g_202 _) hT0 hq ?_
      refine lv_astore (lv' := [(5, .ref q), (0, .ref cx), (1, .int (iI (p))), (2, .int (iI (ab))), (3, .int (iI (be))), (4, .ref ao)]) hx hb d_L_wedge_23 hl (by decide) rfl (fun ls hl => ?_)
      refine ri_iconst hx hb d_L_wedge_25 ?_
      exact re_i hx hb hr hlocks (fun t9 ht9 hW9 => ⟨_, ⟨wc', o9, 3, rfl, rfl, Or.inr (Or.inr (Or.inr (⟨rfl, hc, hW2⟩)))⟩, wd_next h0 hS hP hD t9 ht9 hW9⟩) hS.2.2 (Nat.le_of_ble_eq_true rfl) (Nat.le_of_ble_eq_true rfl) d_L_wedge_26
  · obtain ⟨wc', rfl, hc, rfl, hW2, hI2⟩ := h9
    show W _ _ _ _ _ _ _ _ _ _ _ _ _ _ _ (F0 m9 10 ls [.int (iI ((f 18) p + 1)), .int (iI (0)), .ref ao])
    refine ri_i2lw hx hb d_L_wedge_10 ?_
    replace hP := wl_Pp hP List.perm_middle
    replace hD := wl_Dp hD List.perm_middle
    refine ra_last (v := tw ((f 18) p + 1)) hx hb hK hP hD hS 0 rfl (by omega) (by omega) d_L_wedge_11 (fun H locs hP hD hS => ?_)
    have hP : va_P D classes ((ao, .inl (k 1, al 1 (zU o9 (0) (tw ((f 18) p + 1))))) :: (wc' ++ wr)) H := hP
    have hD : va_D (fun q : Nat => s0.heap.size ≤ q) ((ao, .inl (k 1, al 1 (zU o9 (0) (tw ((f 18) p + 1))))) :: (wc' ++ wr)) := hD
    replace hP := wl_Pp hP List.perm_middle.symm
    replace hD := wl_Dp hD List.perm_middle.symm
    refine lv_goto (tgt := 27) hx hb d_L_wedge_12 (by decide) ?_
    refine ri_iconst hx hb d_L_wedge_27 ?_
    exact re_i hx hb hr hlocks (fun t9 ht9 hW9 => ⟨_, ⟨wc', zU o9 0 (tw ((f 18) p + 1)), 0, rfl, rfl, Or.inl ⟨rfl, hc, zU_eq, hW2, hI2⟩⟩, wd_next h0 hS hP hD t9 ht9 hW9⟩) hS.2.2 (Nat.le_of_ble_eq_true rfl) (Nat.le_of_ble_eq_true rfl) d_L_wedge_28
set_option maxHeartbeats 4000000 in
set_option maxRecDepth 100000 in
theorem w_mitre {l : Launch} {s0 : State} {D : va_G} {k : Nat → ClassId} (hC : Cx l s0 D k) {cx : Nat} {v : Nat → Int} {f : Nat → Int → Int} {wc : va_W} (hI : Iv v f) (hW : Cst k cx v f wc) (wr : va_W) (ao : Nat) (o9 : Int → Int) (p x pt : Int) (hp : In32 p) (hx9 : In32 x) (hpt : In32 pt) : WdM l s0 D y_L_mitre { frames := 8, cells := 3, slots := 18, locals := 136 } [.ref cx, .int (iI (p)), .int (iI (x)), .int (iI (pt)), .ref ao] (wc ++ ((ao, .inl (k 1, al 1 o9)) :: wr)) (fun v9 ws' => ∃ (wc' : va_W) (o' : Int → Int) (kz : Int), v9 = some (.int (iI (kz))) ∧ ws' = wc' ++ ((ao, .inl (k 1, al 1 o')) :: wr) ∧ (kz = 0 ∧ (0 ≤ p ∧ p < (v 17) ∧ 0 ≤ x ∧ x < (f 18) p ∧ (pt = 0 ∨ pt = 1)) ∧ o' 0 = (frP ((f 19) (16 * p + x)) (2 * (f 20) (16 * p + x)) pt) ∧ Cst k cx v f wc' ∧ Iv v f ∨ kz = 1 ∧ ¬ (0 ≤ p ∧ p < (v 17) ∧ 0 ≤ x ∧ x < (f 18) p ∧ (pt = 0 ∨ pt = 1)) ∧ Cst k cx v f wc')) (fun _ _ => False) 3 18 := by
  refine ex_ofW (cc := b_L_mitre) (maxL := 6) (ret := (some .int)) (hh := [(0, 11, 14, 32)]) (by decide +kernel) (Or.inr g_540) ?_
  intro p9 e9 s m9 args9 below9 meth9 c9 s9 B9 hml htab hv
  obtain ⟨rfl, h0, hP, hD⟩ := hv
  have hx := B9.exec
  have hb := B9.bytes
  have hr := B9.returns
  have hG := atoms_spec (ws := GW) B9.pre
  have hown : s.vm.findClass "LathePiecesLaw" = some m9.cls := findClass_of_methodNamed B9.named
  have hlocks := B9.notSynchronized
  have hK := cx_K hC h0
  have hS : va_S (aL s0) s.heap s.heap [] := va_S.rf
  have hnc := cx_nc hC h0
  obtain ⟨fs9, hrc⟩ := hW.recv ((ao, .inl (k 1, al 1 o9)) :: wr)
  have hl := lv_entry ([.ref cx, .int (iI (p)), .int (iI (x)), .int (iI (pt)), .ref ao]) (n := 6) (Nat.le_of_ble_eq_true rfl)
  rw [lg_entry_eq]
  generalize (lg_sl ([.ref cx, .int (iI (p)), .int (iI (x)), .int (iI (pt)), .ref ao]) ++ List.replicate (6 - (lg_sl ([.ref cx, .int (iI (p)), .int (iI (x)), .int (iI (pt)), .ref ao])).length) Slot.unset).toArray = ls at hl ⊢
  replace hl : lv_has ls 6 [(0, .ref cx), (1, .int (iI (p))), (2, .int (iI (x))), (3, .int (iI (pt))), (4, .ref ao)] := hl
  refine lv_aload hx hb d_L_mitre_0 (lv_at hl 4 rfl) ?_
  refine ri_iconst hx hb d_L_mitre_2 ?_
  refine lv_aload_n hx hb d_L_mitre_3 rfl (lv_at hl 0 rfl) ?_
  refine lv_iload_n hx hb d_L_mitre_4 rfl (lv_at hl 1 rfl) ?_
  refine lv_iload_n hx hb d_L_mitre_5 rfl (lv_at hl 2 rfl) ?_
  refine lv_iload_n hx hb d_L_mitre_6 rfl (lv_at hl 3 rfl) ?_
  refine wd_callC h0 hS (ex_runV (C := "LathePieces") (As := [.int (iI (p)), .int (iI (x)), .int (iI (pt))]) (rest := [.int (iI (0)), .ref ao]) ⟨hx, hb, hml, hown, hG⟩ (o_mitre hC hI hW ((ao, .inl (k 1, al 1 o9)) :: wr) p x pt hp hx9 hpt) (cb_code (n := 3) hG g_544 g_1 g_541 rfl rfl (by decide +kernel) ⟨Nat.le_of_ble_eq_true rfl, Nat.le_of_ble_eq_true rfl⟩) (hG _ g_542) (hG _ g_543) (kd_V (kd_preW h0 hS hP hD) (kd_recv hK hP (q0 := 2) (ci := 5) rfl hrc rfl)) rfl rfl hl.1 rfl (lv_room (Nat.le_of_ble_eq_true rfl)) d_L_mitre_7 ⟨Nat.le_of_ble_eq_true rfl, Nat.le_of_ble_eq_true rfl⟩) (fun E ws9 hE H locs hP hD hS q T0 hT0 hq => ?_) (fun v9 ws9 h9 H locs hP hD hS => ?_)
  · obtain ⟨wc', rfl, hW2, hE⟩ := hE
    obtain ⟨rfl, hc⟩ := hE
    refine ex_catch (name := xIO) hown (tableOf []) ⟨0, 11, 14, 32⟩ (tableOf []) (htab.trans rfl) (fun z hz => nomatch hz) rfl (by decide) (hG _ g_303) (cx_can hC h0 g_318 _) hT0 hq ?_
    refine lv_astore (lv' := [(5, .ref q), (0, .ref cx), (1, .int (iI (p))), (2, .int (iI (x))), (3, .int (iI (pt))), (4, .ref ao)]) hx hb d_L_mitre_14 hl (by decide) rfl (fun ls hl => ?_)
    refine ri_iconst hx hb d_L_mitre_16 ?_
    exact re_i hx hb hr hlocks (fun t9 ht9 hW9 => ⟨_, ⟨wc', o9, 1, rfl, rfl, Or.inr (⟨rfl, hc, hW2⟩)⟩, wd_next h0 hS hP hD t9 ht9 hW9⟩) hS.2.2 (Nat.le_of_ble_eq_true rfl) (Nat.le_of_ble_eq_true rfl) d_L_mitre_17
  · obtain ⟨wc', rfl, hc, rfl, hW2, hI2⟩ := h9
    show W _ _ _ _ _ _ _ _ _ _ _ _ _ _ _ (F0 m9 10 ls [.long (jJ (frP ((f 19) (16 * p + x)) (2 * (f 20) (16 * p + x)) pt)), .int (iI (0)), .ref ao])
    replace hP := wl_Pp hP List.perm_middle
    replace hD := wl_Dp hD List.perm_middle
    refine ra_last (v := frP ((f 19) (16 * p + x)) (2 * (f 20) (16 * p + x)) pt) hx hb hK hP hD hS 0 rfl (by omega) (by omega) d_L_mitre_10 (fun H locs hP hD hS => ?_)
    have hP : va_P D classes ((ao, .inl (k 1, al 1 (zU o9 (0) (frP ((f 19) (16 * p + x)) (2 * (f 20) (16 * p + x)) pt)))) :: (wc' ++ wr)) H := hP
    have hD : va_D (fun q : Nat => s0.heap.size ≤ q) ((ao, .inl (k 1, al 1 (zU o9 (0) (frP ((f 19) (16 * p + x)) (2 * (f 20) (16 * p + x)) pt)))) :: (wc' ++ wr)) := hD
    replace hP := wl_Pp hP List.perm_middle.symm
    replace hD := wl_Dp hD List.perm_middle.symm
    refine lv_goto (tgt := 18) hx hb d_L_mitre_11 (by decide) ?_
    refine ri_iconst hx hb d_L_mitre_18 ?_
    exact re_i hx hb hr hlocks (fun t9 ht9 hW9 => ⟨_, ⟨wc', zU o9 0 (frP ((f 19) (16 * p + x)) (2 * (f 20) (16 * p + x)) pt), 0, rfl, rfl, Or.inl ⟨rfl, hc, zU_eq, hW2, hI2⟩⟩, wd_next h0 hS hP hD t9 ht9 hW9⟩) hS.2.2 (Nat.le_of_ble_eq_true rfl) (Nat.le_of_ble_eq_true rfl) d_L_mitre_19
set_option maxHeartbeats 4000000 in
set_option maxRecDepth 100000 in
theorem w_gap {l : Launch} {s0 : State} {D : va_G} {k : Nat → ClassId} (hC : Cx l s0 D k) {cx : Nat} {v : Nat → Int} {f : Nat → Int → Int} {wc : va_W} (hI : Iv v f) (hW : Cst k cx v f wc) (wr : va_W) (ao : Nat) (o9 : Int → Int) (p pt : Int) (hp : In32 p) (hpt : In32 pt) : WdM l s0 D y_L_gap { frames := 8, cells := 2, slots := 12, locals := 135 } [.ref cx, .int (iI (p)), .int (iI (pt)), .ref ao] (wc ++ ((ao, .inl (k 1, al 1 o9)) :: wr)) (fun v9 ws' => ∃ (wc' : va_W) (o' : Int → Int) (kz : Int), v9 = some (.int (iI (kz))) ∧ ws' = wc' ++ ((ao, .inl (k 1, al 1 o')) :: wr) ∧ (kz = 0 ∧ (0 ≤ p ∧ p < (v 17) ∧ (pt = 0 ∨ pt = 1)) ∧ o' 0 = (frP (9979200 - smF (fun j => (f 19) (16 * p + j)) (fun j => (f 20) (16 * p + j)) ((f 18) p).toNat) 27720 pt) ∧ Cst k cx v f wc' ∧ Iv v f ∨ kz = 1 ∧ ¬ (0 ≤ p ∧ p < (v 17) ∧ (pt = 0 ∨ pt = 1)) ∧ Cst k cx v f wc')) (fun _ _ => False) 2 12 := by
  refine ex_ofW (cc := b_L_gap) (maxL := 5) (ret := (some .int)) (hh := [(0, 9, 12, 32)]) (by decide +kernel) (Or.inr g_562) ?_
  intro p9 e9 s m9 args9 below9 meth9 c9 s9 B9 hml htab hv
  obtain ⟨rfl, h0, hP, hD⟩ := hv
  have hx := B9.exec
  have hb := B9.bytes
  have hr := B9.returns
  have hG := atoms_spec (ws := GW) B9.pre
  have hown : s.vm.findClass "LathePiecesLaw" = some m9.cls := findClass_of_methodNamed B9.named
  have hlocks := B9.notSynchronized
  have hK := cx_K hC h0
  have hS : va_S (aL s0) s.heap s.heap [] := va_S.rf
  have hnc := cx_nc hC h0
  obtain ⟨fs9, hrc⟩ := hW.recv ((ao, .inl (k 1, al 1 o9)) :: wr)
  have hl := lv_entry ([.ref cx, .int (iI (p)), .int (iI (pt)), .ref ao]) (n := 5) (Nat.le_of_ble_eq_true rfl)
  rw [lg_entry_eq]
  generalize (lg_sl ([.ref cx, .int (iI (p)), .int (iI (pt)), .ref ao]) ++ List.replicate (5 - (lg_sl ([.ref cx, .int (iI (p)), .int (iI (pt)), .ref ao])).length) Slot.unset).toArray = ls at hl ⊢
  replace hl : lv_has ls 5 [(0, .ref cx), (1, .int (iI (p))), (2, .int (iI (pt))), (3, .ref ao)] := hl
  refine lv_aload_n hx hb d_L_gap_0 rfl (lv_at hl 3 rfl) ?_
  refine ri_iconst hx hb d_L_gap_1 ?_
  refine lv_aload_n hx hb d_L_gap_2 rfl (lv_at hl 0 rfl) ?_
  refine lv_iload_n hx hb d_L_gap_3 rfl (lv_at hl 1 rfl) ?_
  refine lv_iload_n hx hb d_L_gap_4 rfl (lv_at hl 2 rfl) ?_
  refine wd_callC h0 hS (ex_runV (C := "LathePieces") (As := [.int (iI (p)), .int (iI (pt))]) (rest := [.int (iI (0)), .ref ao]) ⟨hx, hb, hml, hown, hG⟩ (o_gap hC hI hW ((ao, .inl (k 1, al 1 o9)) :: wr) p pt hp hpt) (cb_code (n := 2) hG g_566 g_1 g_563 rfl rfl (by decide +kernel) ⟨Nat.le_of_ble_eq_true rfl, Nat.le_of_ble_eq_true rfl⟩) (hG _ g_564) (hG _ g_565) (kd_V (kd_preW h0 hS hP hD) (kd_recv hK hP (q0 := 2) (ci := 5) rfl hrc rfl)) rfl rfl hl.1 rfl (lv_room (Nat.le_of_ble_eq_true rfl)) d_L_gap_5 ⟨Nat.le_of_ble_eq_true rfl, Nat.le_of_ble_eq_true rfl⟩) (fun E ws9 hE H locs hP hD hS q T0 hT0 hq => ?_) (fun v9 ws9 h9 H locs hP hD hS => ?_)
  · obtain ⟨wc', rfl, hW2, hE⟩ := hE
    obtain ⟨rfl, hc⟩ := hE
    refine ex_catch (name := xIO) hown (tableOf []) ⟨0, 9, 12, 32⟩ (tableOf []) (htab.trans rfl) (fun z hz => nomatch hz) rfl (by decide) (hG _ g_303) (cx_can hC h0 g_318 _) hT0 hq ?_
    refine lv_astore (lv' := [(4, .ref q), (0, .ref cx), (1, .int (iI (p))), (2, .int (iI (pt))), (3, .ref ao)]) hx hb d_L_gap_12 hl (by decide) rfl (fun ls hl => ?_)
    refine ri_iconst hx hb d_L_gap_14 ?_
    exact re_i hx hb hr hlocks (fun t9 ht9 hW9 => ⟨_, ⟨wc', o9, 1, rfl, rfl, Or.inr (⟨rfl, hc, hW2⟩)⟩, wd_next h0 hS hP hD t9 ht9 hW9⟩) hS.2.2 (Nat.le_of_ble_eq_true rfl) (Nat.le_of_ble_eq_true rfl) d_L_gap_15
  · obtain ⟨wc', rfl, hc, rfl, hW2, hI2⟩ := h9
    show W _ _ _ _ _ _ _ _ _ _ _ _ _ _ _ (F0 m9 8 ls [.long (jJ (frP (9979200 - smF (fun j => (f 19) (16 * p + j)) (fun j => (f 20) (16 * p + j)) ((f 18) p).toNat) 27720 pt)), .int (iI (0)), .ref ao])
    replace hP := wl_Pp hP List.perm_middle
    replace hD := wl_Dp hD List.perm_middle
    refine ra_last (v := frP (9979200 - smF (fun j => (f 19) (16 * p + j)) (fun j => (f 20) (16 * p + j)) ((f 18) p).toNat) 27720 pt) hx hb hK hP hD hS 0 rfl (by omega) (by omega) d_L_gap_8 (fun H locs hP hD hS => ?_)
    have hP : va_P D classes ((ao, .inl (k 1, al 1 (zU o9 (0) (frP (9979200 - smF (fun j => (f 19) (16 * p + j)) (fun j => (f 20) (16 * p + j)) ((f 18) p).toNat) 27720 pt)))) :: (wc' ++ wr)) H := hP
    have hD : va_D (fun q : Nat => s0.heap.size ≤ q) ((ao, .inl (k 1, al 1 (zU o9 (0) (frP (9979200 - smF (fun j => (f 19) (16 * p + j)) (fun j => (f 20) (16 * p + j)) ((f 18) p).toNat) 27720 pt)))) :: (wc' ++ wr)) := hD
    replace hP := wl_Pp hP List.perm_middle.symm
    replace hD := wl_Dp hD List.perm_middle.symm
    refine lv_goto (tgt := 16) hx hb d_L_gap_9 (by decide) ?_
    refine ri_iconst hx hb d_L_gap_16 ?_
    exact re_i hx hb hr hlocks (fun t9 ht9 hW9 => ⟨_, ⟨wc', zU o9 0 (frP (9979200 - smF (fun j => (f 19) (16 * p + j)) (fun j => (f 20) (16 * p + j)) ((f 18) p).toNat) 27720 pt), 0, rfl, rfl, Or.inl ⟨rfl, hc, zU_eq, hW2, hI2⟩⟩, wd_next h0 hS hP hD t9 ht9 hW9⟩) hS.2.2 (Nat.le_of_ble_eq_true rfl) (Nat.le_of_ble_eq_true rfl) d_L_gap_17
set_option maxHeartbeats 4000000 in
set_option maxRecDepth 100000 in
theorem w_closes {l : Launch} {s0 : State} {D : va_G} {k : Nat → ClassId} (hC : Cx l s0 D k) {cx : Nat} {v : Nat → Int} {f : Nat → Int → Int} {wc : va_W} (hI : Iv v f) (hW : Cst k cx v f wc) (wr : va_W) (ao : Nat) (o9 : Int → Int) (p : Int) (hp : In32 p) : WdM l s0 D y_L_closes { frames := 8, cells := 1, slots := 6, locals := 133 } [.ref cx, .int (iI (p)), .ref ao] (wc ++ ((ao, .inl (k 1, al 1 o9)) :: wr)) (fun v9 ws' => ∃ (wc' : va_W) (o' : Int → Int) (kz : Int), v9 = some (.int (iI (kz))) ∧ ws' = wc' ++ ((ao, .inl (k 1, al 1 o')) :: wr) ∧ (kz = 0 ∧ (0 ≤ p ∧ p < (v 17)) ∧ o' 0 = (if 9979200 - smF (fun j => (f 19) (16 * p + j)) (fun j => (f 20) (16 * p + j)) ((f 18) p).toNat = 0 then 1 else 0) ∧ Cst k cx v f wc' ∧ Iv v f ∨ kz = 1 ∧ ¬ (0 ≤ p ∧ p < (v 17)) ∧ Cst k cx v f wc')) (fun _ _ => False) 1 6 := by
  refine ex_ofW (cc := b_L_closes) (maxL := 4) (ret := (some .int)) (hh := [(0, 16, 19, 32)]) (by decide +kernel) (Or.inr g_575) ?_
  intro p9 e9 s m9 args9 below9 meth9 c9 s9 B9 hml htab hv
  obtain ⟨rfl, h0, hP, hD⟩ := hv
  have hx := B9.exec
  have hb := B9.bytes
  have hr := B9.returns
  have hG := atoms_spec (ws := GW) B9.pre
  have hown : s.vm.findClass "LathePiecesLaw" = some m9.cls := findClass_of_methodNamed B9.named
  have hlocks := B9.notSynchronized
  have hK := cx_K hC h0
  have hS : va_S (aL s0) s.heap s.heap [] := va_S.rf
  have hnc := cx_nc hC h0
  obtain ⟨fs9, hrc⟩ := hW.recv ((ao, .inl (k 1, al 1 o9)) :: wr)
  have hl := lv_entry ([.ref cx, .int (iI (p)), .ref ao]) (n := 4) (Nat.le_of_ble_eq_true rfl)
  rw [lg_entry_eq]
  generalize (lg_sl ([.ref cx, .int (iI (p)), .ref ao]) ++ List.replicate (4 - (lg_sl ([.ref cx, .int (iI (p)), .ref ao])).length) Slot.unset).toArray = ls at hl ⊢
  replace hl : lv_has ls 4 [(0, .ref cx), (1, .int (iI (p))), (2, .ref ao)] := hl
  refine lv_aload_n hx hb d_L_closes_0 rfl (lv_at hl 2 rfl) ?_
  refine ri_iconst hx hb d_L_closes_1 ?_
  refine lv_aload_n hx hb d_L_closes_2 rfl (lv_at hl 0 rfl) ?_
  refine lv_iload_n hx hb d_L_closes_3 rfl (lv_at hl 1 rfl) ?_
  refine wd_callC h0 hS (ex_runV (C := "LathePieces") (As := [.int (iI (p))]) (rest := [.int (iI (0)), .ref ao]) ⟨hx, hb, hml, hown, hG⟩ (o_closes hC hI hW ((ao, .inl (k 1, al 1 o9)) :: wr) p hp) (cb_code (n := 1) hG g_579 g_1 g_576 rfl rfl (by decide +kernel) ⟨Nat.le_of_ble_eq_true rfl, Nat.le_of_ble_eq_true rfl⟩) (hG _ g_577) (hG _ g_578) (kd_V (kd_preW h0 hS hP hD) (kd_recv hK hP (q0 := 2) (ci := 5) rfl hrc rfl)) rfl rfl hl.1 rfl (lv_room (Nat.le_of_ble_eq_true rfl)) d_L_closes_4 ⟨Nat.le_of_ble_eq_true rfl, Nat.le_of_ble_eq_true rfl⟩) (fun E ws9 hE H locs hP hD hS q T0 hT0 hq => ?_) (fun v9 ws9 h9 H locs hP hD hS => ?_)
  · obtain ⟨wc', rfl, hW2, hE⟩ := hE
    obtain ⟨rfl, hc⟩ := hE
    refine ex_catch (name := xIO) hown (tableOf []) ⟨0, 16, 19, 32⟩ (tableOf []) (htab.trans rfl) (fun z hz => nomatch hz) rfl (by decide) (hG _ g_303) (cx_can hC h0 g_318 _) hT0 hq ?_
    refine lv_astore_n (lv' := [(3, .ref q), (0, .ref cx), (1, .int (iI (p))), (2, .ref ao)]) hx hb d_L_closes_19 rfl hl (by decide) rfl (fun ls hl => ?_)
    refine ri_iconst hx hb d_L_closes_20 ?_
    exact re_i hx hb hr hlocks (fun t9 ht9 hW9 => ⟨_, ⟨wc', o9, 1, rfl, rfl, Or.inr (⟨rfl, hc, hW2⟩)⟩, wd_next h0 hS hP hD t9 ht9 hW9⟩) hS.2.2 (Nat.le_of_ble_eq_true rfl) (Nat.le_of_ble_eq_true rfl) d_L_closes_21
  · obtain ⟨wc', rfl, hc, rfl, hW2, hI2⟩ := h9
    show W _ _ _ _ _ _ _ _ _ _ _ _ _ _ _ (F0 m9 7 ls [.int (iI (if 9979200 - smF (fun j => (f 19) (16 * p + j)) (fun j => (f 20) (16 * p + j)) ((f 18) p).toNat = 0 then 1 else 0)), .int (iI (0)), .ref ao])
    have hz2 : (if 9979200 - smF (fun j => (f 19) (16 * p + j)) (fun j => (f 20) (16 * p + j)) ((f 18) p).toNat = 0 then 1 else 0 : Int) = 0 ∨ (if 9979200 - smF (fun j => (f 19) (16 * p + j)) (fun j => (f 20) (16 * p + j)) ((f 18) p).toNat = 0 then 1 else 0 : Int) = 1 := ite01 _
    refine ri_if_eq (tgt := 14) hx hb d_L_closes_7 (by decide) (by rcases hz2 with h | h <;> rw [h] <;> decide) (fun c7 => ?_) (fun c7 => ?_)
    · refine ri_lconst (z := 0) hx hb d_L_closes_14 rfl ?_
      refine tp_l (y := jJ (if 9979200 - smF (fun j => (f 19) (16 * p + j)) (fun j => (f 20) (16 * p + j)) ((f 18) p).toNat = 0 then 1 else 0)) (congrArg jJ (show (0 : Int) = (if 9979200 - smF (fun j => (f 19) (16 * p + j)) (fun j => (f 20) (16 * p + j)) ((f 18) p).toNat = 0 then 1 else 0) from c7.symm)) ?_
      replace hP := wl_Pp hP List.perm_middle
      replace hD := wl_Dp hD List.perm_middle
      refine ra_last (v := if 9979200 - smF (fun j => (f 19) (16 * p + j)) (fun j => (f 20) (16 * p + j)) ((f 18) p).toNat = 0 then 1 else 0) hx hb hK hP hD hS 0 rfl (by omega) (by omega) d_L_closes_15 (fun H locs hP hD hS => ?_)
      have hP : va_P D classes ((ao, .inl (k 1, al 1 (zU o9 (0) (if 9979200 - smF (fun j => (f 19) (16 * p + j)) (fun j => (f 20) (16 * p + j)) ((f 18) p).toNat = 0 then 1 else 0)))) :: (wc' ++ wr)) H := hP
      have hD : va_D (fun q : Nat => s0.heap.size ≤ q) ((ao, .inl (k 1, al 1 (zU o9 (0) (if 9979200 - smF (fun j => (f 19) (16 * p + j)) (fun j => (f 20) (16 * p + j)) ((f 18) p).toNat = 0 then 1 else 0)))) :: (wc' ++ wr)) := hD
      replace hP := wl_Pp hP List.perm_middle.symm
      replace hD := wl_Dp hD List.perm_middle.symm
      refine lv_goto (tgt := 22) hx hb d_L_closes_16 (by decide) ?_
      refine ri_iconst hx hb d_L_closes_22 ?_
      exact re_i hx hb hr hlocks (fun t9 ht9 hW9 => ⟨_, ⟨wc', zU o9 0 ((if 9979200 - smF (fun j => (f 19) (16 * p + j)) (fun j => (f 20) (16 * p + j)) ((f 18) p).toNat = 0 then 1 else 0)), 0, rfl, rfl, Or.inl ⟨rfl, hc, zU_eq, hW2, hI2⟩⟩, wd_next h0 hS hP hD t9 ht9 hW9⟩) hS.2.2 (Nat.le_of_ble_eq_true rfl) (Nat.le_of_ble_eq_true rfl) d_L_closes_23
    · refine ri_lconst (z := 1) hx hb d_L_closes_10 rfl ?_
      refine lv_goto (tgt := 15) hx hb d_L_closes_11 (by decide) ?_
      refine tp_l (y := jJ (if 9979200 - smF (fun j => (f 19) (16 * p + j)) (fun j => (f 20) (16 * p + j)) ((f 18) p).toNat = 0 then 1 else 0)) (congrArg jJ (show (1 : Int) = (if 9979200 - smF (fun j => (f 19) (16 * p + j)) (fun j => (f 20) (16 * p + j)) ((f 18) p).toNat = 0 then 1 else 0) from (hz2.resolve_left c7).symm)) ?_
      replace hP := wl_Pp hP List.perm_middle
      replace hD := wl_Dp hD List.perm_middle
      refine ra_last (v := if 9979200 - smF (fun j => (f 19) (16 * p + j)) (fun j => (f 20) (16 * p + j)) ((f 18) p).toNat = 0 then 1 else 0) hx hb hK hP hD hS 0 rfl (by omega) (by omega) d_L_closes_15 (fun H locs hP hD hS => ?_)
      have hP : va_P D classes ((ao, .inl (k 1, al 1 (zU o9 (0) (if 9979200 - smF (fun j => (f 19) (16 * p + j)) (fun j => (f 20) (16 * p + j)) ((f 18) p).toNat = 0 then 1 else 0)))) :: (wc' ++ wr)) H := hP
      have hD : va_D (fun q : Nat => s0.heap.size ≤ q) ((ao, .inl (k 1, al 1 (zU o9 (0) (if 9979200 - smF (fun j => (f 19) (16 * p + j)) (fun j => (f 20) (16 * p + j)) ((f 18) p).toNat = 0 then 1 else 0)))) :: (wc' ++ wr)) := hD
      replace hP := wl_Pp hP List.perm_middle.symm
      replace hD := wl_Dp hD List.perm_middle.symm
      refine lv_goto (tgt := 22) hx hb d_L_closes_16 (by decide) ?_
      refine ri_iconst hx hb d_L_closes_22 ?_
      exact re_i hx hb hr hlocks (fun t9 ht9 hW9 => ⟨_, ⟨wc', zU o9 0 ((if 9979200 - smF (fun j => (f 19) (16 * p + j)) (fun j => (f 20) (16 * p + j)) ((f 18) p).toNat = 0 then 1 else 0)), 0, rfl, rfl, Or.inl ⟨rfl, hc, zU_eq, hW2, hI2⟩⟩, wd_next h0 hS hP hD t9 ht9 hW9⟩) hS.2.2 (Nat.le_of_ble_eq_true rfl) (Nat.le_of_ble_eq_true rfl) d_L_closes_23
set_option maxHeartbeats 4000000 in
set_option maxRecDepth 100000 in
theorem w_flute {l : Launch} {s0 : State} {D : va_G} {k : Nat → ClassId} (hC : Cx l s0 D k) {cx : Nat} {v : Nat → Int} {f : Nat → Int → Int} {wc : va_W} (hI : Iv v f) (hW : Cst k cx v f wc) (wr : va_W) (ao : Nat) (o9 : Int → Int) (n9 kk pt : Int) (hn9 : In32 n9) (hkk : In32 kk) (hpt : In32 pt) : WdM l s0 D y_L_flute { frames := 8, cells := 3, slots := 18, locals := 135 } [.ref cx, .int (iI (n9)), .int (iI (kk)), .int (iI (pt)), .ref ao] (wc ++ ((ao, .inl (k 1, al 1 o9)) :: wr)) (fun v9 ws' => ∃ (wc' : va_W) (o' : Int → Int) (kz : Int), v9 = some (.int (iI (kz))) ∧ ws' = wc' ++ ((ao, .inl (k 1, al 1 o')) :: wr) ∧ (kz = 0 ∧ ((pt = 0 ∨ pt = 1) ∧ ((1 ≤ n9 ∧ n9 ≤ 1000) ∧ 0 ≤ kk ∧ kk < n9)) ∧ o' 0 = (frP (kk * 360) n9 pt) ∧ Cst k cx v f wc' ∧ Iv v f ∨ kz = 1 ∧ ¬ (pt = 0 ∨ pt = 1) ∧ Cst k cx v f wc' ∨ kz = 2 ∧ ((pt = 0 ∨ pt = 1) ∧ ¬ ((1 ≤ n9 ∧ n9 ≤ 1000) ∧ 0 ≤ kk ∧ kk < n9)) ∧ Cst k cx v f wc')) (fun _ _ => False) 3 18 := by
  refine ex_ofW (cc := b_L_flute) (maxL := 6) (ret := (some .int)) (hh := [(0, 11, 14, 32), (0, 11, 18, 13)]) (by decide +kernel) (Or.inr g_582) ?_
  intro p9 e9 s m9 args9 below9 meth9 c9 s9 B9 hml htab hv
  obtain ⟨rfl, h0, hP, hD⟩ := hv
  have hx := B9.exec
  have hb := B9.bytes
  have hr := B9.returns
  have hG := atoms_spec (ws := GW) B9.pre
  have hown : s.vm.findClass "LathePiecesLaw" = some m9.cls := findClass_of_methodNamed B9.named
  have hlocks := B9.notSynchronized
  have hK := cx_K hC h0
  have hS : va_S (aL s0) s.heap s.heap [] := va_S.rf
  have hnc := cx_nc hC h0
  obtain ⟨fs9, hrc⟩ := hW.recv ((ao, .inl (k 1, al 1 o9)) :: wr)
  have hl := lv_entry ([.ref cx, .int (iI (n9)), .int (iI (kk)), .int (iI (pt)), .ref ao]) (n := 6) (Nat.le_of_ble_eq_true rfl)
  rw [lg_entry_eq]
  generalize (lg_sl ([.ref cx, .int (iI (n9)), .int (iI (kk)), .int (iI (pt)), .ref ao]) ++ List.replicate (6 - (lg_sl ([.ref cx, .int (iI (n9)), .int (iI (kk)), .int (iI (pt)), .ref ao])).length) Slot.unset).toArray = ls at hl ⊢
  replace hl : lv_has ls 6 [(0, .ref cx), (1, .int (iI (n9))), (2, .int (iI (kk))), (3, .int (iI (pt))), (4, .ref ao)] := hl
  refine lv_aload hx hb d_L_flute_0 (lv_at hl 4 rfl) ?_
  refine ri_iconst hx hb d_L_flute_2 ?_
  refine lv_aload_n hx hb d_L_flute_3 rfl (lv_at hl 0 rfl) ?_
  refine lv_iload_n hx hb d_L_flute_4 rfl (lv_at hl 1 rfl) ?_
  refine lv_iload_n hx hb d_L_flute_5 rfl (lv_at hl 2 rfl) ?_
  refine lv_iload_n hx hb d_L_flute_6 rfl (lv_at hl 3 rfl) ?_
  refine wd_callC h0 hS (ex_runV (C := "LathePieces") (As := [.int (iI (n9)), .int (iI (kk)), .int (iI (pt))]) (rest := [.int (iI (0)), .ref ao]) ⟨hx, hb, hml, hown, hG⟩ (o_flute hC hI hW ((ao, .inl (k 1, al 1 o9)) :: wr) n9 kk pt hn9 hkk hpt) (cb_code (n := 3) hG g_586 g_1 g_583 rfl rfl (by decide +kernel) ⟨Nat.le_of_ble_eq_true rfl, Nat.le_of_ble_eq_true rfl⟩) (hG _ g_584) (hG _ g_585) (kd_V (kd_preW h0 hS hP hD) (kd_recv hK hP (q0 := 2) (ci := 5) rfl hrc rfl)) rfl rfl hl.1 rfl (lv_room (Nat.le_of_ble_eq_true rfl)) d_L_flute_7 ⟨Nat.le_of_ble_eq_true rfl, Nat.le_of_ble_eq_true rfl⟩) (fun E ws9 hE H locs hP hD hS q T0 hT0 hq => ?_) (fun v9 ws9 h9 H locs hP hD hS => ?_)
  · obtain ⟨wc', rfl, hW2, hE⟩ := hE
    rcases hE with ⟨rfl, hc⟩ | ⟨rfl, hc⟩
    · refine ex_catch (name := xIO) hown (tableOf []) ⟨0, 11, 14, 32⟩ (tableOf [(0, 11, 18, 13)]) (htab.trans rfl) (fun z hz => nomatch hz) rfl (by decide) (hG _ g_303) (cx_can hC h0 g_318 _) hT0 hq ?_
      refine lv_astore (lv' := [(5, .ref q), (0, .ref cx), (1, .int (iI (n9))), (2, .int (iI (kk))), (3, .int (iI (pt))), (4, .ref ao)]) hx hb d_L_flute_14 hl (by decide) rfl (fun ls hl => ?_)
      refine ri_iconst hx hb d_L_flute_16 ?_
      exact re_i hx hb hr hlocks (fun t9 ht9 hW9 => ⟨_, ⟨wc', o9, 1, rfl, rfl, Or.inr (Or.inl ⟨rfl, hc, hW2⟩)⟩, wd_next h0 hS hP hD t9 ht9 hW9⟩) hS.2.2 (Nat.le_of_ble_eq_true rfl) (Nat.le_of_ble_eq_true rfl) d_L_flute_17
    · refine ex_catch (name := xIA) hown (tableOf [(0, 11, 14, 32)]) ⟨0, 11, 18, 13⟩ (tableOf []) (htab.trans rfl) (fun z hz => by rw [List.mem_singleton.mp hz]; exact Or.inr ⟨by decide, xIO, hG _ g_303, hnc.1.2⟩) rfl (by decide) (hG _ g_105) (cx_can hC h0 g_115 _) hT0 hq ?_
      refine lv_astore (lv' := [(5, .ref q), (0, .ref cx), (1, .int (iI (n9))), (2, .int (iI (kk))), (3, .int (iI (pt))), (4, .ref ao)]) hx hb d_L_flute_18 hl (by decide) rfl (fun ls hl => ?_)
      refine ri_iconst hx hb d_L_flute_20 ?_
      exact re_i hx hb hr hlocks (fun t9 ht9 hW9 => ⟨_, ⟨wc', o9, 2, rfl, rfl, Or.inr (Or.inr (⟨rfl, hc, hW2⟩))⟩, wd_next h0 hS hP hD t9 ht9 hW9⟩) hS.2.2 (Nat.le_of_ble_eq_true rfl) (Nat.le_of_ble_eq_true rfl) d_L_flute_21
  · obtain ⟨wc', rfl, hc, rfl, hW2, hI2⟩ := h9
    show W _ _ _ _ _ _ _ _ _ _ _ _ _ _ _ (F0 m9 10 ls [.long (jJ (frP (kk * 360) n9 pt)), .int (iI (0)), .ref ao])
    replace hP := wl_Pp hP List.perm_middle
    replace hD := wl_Dp hD List.perm_middle
    refine ra_last (v := frP (kk * 360) n9 pt) hx hb hK hP hD hS 0 rfl (by omega) (by omega) d_L_flute_10 (fun H locs hP hD hS => ?_)
    have hP : va_P D classes ((ao, .inl (k 1, al 1 (zU o9 (0) (frP (kk * 360) n9 pt)))) :: (wc' ++ wr)) H := hP
    have hD : va_D (fun q : Nat => s0.heap.size ≤ q) ((ao, .inl (k 1, al 1 (zU o9 (0) (frP (kk * 360) n9 pt)))) :: (wc' ++ wr)) := hD
    replace hP := wl_Pp hP List.perm_middle.symm
    replace hD := wl_Dp hD List.perm_middle.symm
    refine lv_goto (tgt := 22) hx hb d_L_flute_11 (by decide) ?_
    refine ri_iconst hx hb d_L_flute_22 ?_
    exact re_i hx hb hr hlocks (fun t9 ht9 hW9 => ⟨_, ⟨wc', zU o9 0 (frP (kk * 360) n9 pt), 0, rfl, rfl, Or.inl ⟨rfl, hc, zU_eq, hW2, hI2⟩⟩, wd_next h0 hS hP hD t9 ht9 hW9⟩) hS.2.2 (Nat.le_of_ble_eq_true rfl) (Nat.le_of_ble_eq_true rfl) d_L_flute_23
set_option maxHeartbeats 4000000 in
set_option maxRecDepth 100000 in
theorem w_thread {l : Launch} {s0 : State} {D : va_G} {k : Nat → ClassId} (hC : Cx l s0 D k) {cx : Nat} {v : Nat → Int} {f : Nat → Int → Int} {wc : va_W} (hI : Iv v f) (hW : Cst k cx v f wc) (wr : va_W) (ab be : Int) (hab : In32 ab) (hbe : In32 be) : WdM l s0 D y_L_thread { frames := 8, cells := 2, slots := 12, locals := 134 } [.ref cx, .int (iI (ab)), .int (iI (be))] (wc ++ wr) (fun v9 ws' => ∃ (wc' : va_W) (kz : Int), v9 = some (.int (iI (kz))) ∧ ws' = wc' ++ wr ∧ (kz = 0 ∧ ((1 ≤ ab ∧ ab ≤ 1000) ∧ (1 ≤ be ∧ be ≤ 1000)) ∧ Cst k cx (vS (vS (vS v 0 0) 21 ab) 22 be) f wc' ∧ Iv (vS (vS (vS v 0 0) 21 ab) 22 be) f ∨ kz = 1 ∧ ¬ ((1 ≤ ab ∧ ab ≤ 1000) ∧ (1 ≤ be ∧ be ≤ 1000)) ∧ Cst k cx v f wc')) (fun _ _ => False) 2 12 := by
  refine ex_ofW (cc := b_L_thread) (maxL := 4) (ret := (some .int)) (hh := [(0, 6, 9, 13)]) (by decide +kernel) (Or.inr g_590) ?_
  intro p9 e9 s m9 args9 below9 meth9 c9 s9 B9 hml htab hv
  obtain ⟨rfl, h0, hP, hD⟩ := hv
  have hx := B9.exec
  have hb := B9.bytes
  have hr := B9.returns
  have hG := atoms_spec (ws := GW) B9.pre
  have hown : s.vm.findClass "LathePiecesLaw" = some m9.cls := findClass_of_methodNamed B9.named
  have hlocks := B9.notSynchronized
  have hK := cx_K hC h0
  have hS : va_S (aL s0) s.heap s.heap [] := va_S.rf
  have hnc := cx_nc hC h0
  obtain ⟨fs9, hrc⟩ := hW.recv wr
  have hl := lv_entry ([.ref cx, .int (iI (ab)), .int (iI (be))]) (n := 4) (Nat.le_of_ble_eq_true rfl)
  rw [lg_entry_eq]
  generalize (lg_sl ([.ref cx, .int (iI (ab)), .int (iI (be))]) ++ List.replicate (4 - (lg_sl ([.ref cx, .int (iI (ab)), .int (iI (be))])).length) Slot.unset).toArray = ls at hl ⊢
  replace hl : lv_has ls 4 [(0, .ref cx), (1, .int (iI (ab))), (2, .int (iI (be)))] := hl
  refine lv_aload_n hx hb d_L_thread_0 rfl (lv_at hl 0 rfl) ?_
  refine lv_iload_n hx hb d_L_thread_1 rfl (lv_at hl 1 rfl) ?_
  refine lv_iload_n hx hb d_L_thread_2 rfl (lv_at hl 2 rfl) ?_
  refine wd_callC h0 hS (ex_runV (C := "LathePieces") (As := [.int (iI (ab)), .int (iI (be))]) (rest := []) ⟨hx, hb, hml, hown, hG⟩ (o_thread hC hI hW wr ab be hab hbe) (cb_code (n := 2) hG g_594 g_1 g_591 rfl rfl (by decide +kernel) ⟨Nat.le_of_ble_eq_true rfl, Nat.le_of_ble_eq_true rfl⟩) (hG _ g_592) (hG _ g_593) (kd_V (kd_preW h0 hS hP hD) (kd_recv hK hP (q0 := 2) (ci := 5) rfl hrc rfl)) rfl rfl hl.1 rfl (lv_room (Nat.le_of_ble_eq_true rfl)) d_L_thread_3 ⟨Nat.le_of_ble_eq_true rfl, Nat.le_of_ble_eq_true rfl⟩) (fun E ws9 hE H locs hP hD hS q T0 hT0 hq => ?_) (fun v9 ws9 h9 H locs hP hD hS => ?_)
  · obtain ⟨wc', rfl, hW2, hE⟩ := hE
    obtain ⟨rfl, hc⟩ := hE
    refine ex_catch (name := xIA) hown (tableOf []) ⟨0, 6, 9, 13⟩ (tableOf []) (htab.trans rfl) (fun z hz => nomatch hz) rfl (by decide) (hG _ g_105) (cx_can hC h0 g_115 _) hT0 hq ?_
    refine lv_astore_n (lv' := [(3, .ref q), (0, .ref cx), (1, .int (iI (ab))), (2, .int (iI (be)))]) hx hb d_L_thread_9 rfl hl (by decide) rfl (fun ls hl => ?_)
    refine ri_iconst hx hb d_L_thread_10 ?_
    exact re_i hx hb hr hlocks (fun t9 ht9 hW9 => ⟨_, ⟨wc', 1, rfl, rfl, Or.inr (⟨rfl, hc, hW2⟩)⟩, wd_next h0 hS hP hD t9 ht9 hW9⟩) hS.2.2 (Nat.le_of_ble_eq_true rfl) (Nat.le_of_ble_eq_true rfl) d_L_thread_11
  · obtain ⟨wc', rfl, hc, rfl, hW2, hI2⟩ := h9
    show W _ _ _ _ _ _ _ _ _ _ _ _ _ _ _ (F0 m9 6 ls [])
    refine lv_goto (tgt := 12) hx hb d_L_thread_6 (by decide) ?_
    refine ri_iconst hx hb d_L_thread_12 ?_
    exact re_i hx hb hr hlocks (fun t9 ht9 hW9 => ⟨_, ⟨wc', 0, rfl, rfl, Or.inl ⟨rfl, hc, hW2, hI2⟩⟩, wd_next h0 hS hP hD t9 ht9 hW9⟩) hS.2.2 (Nat.le_of_ble_eq_true rfl) (Nat.le_of_ble_eq_true rfl) d_L_thread_13
set_option maxHeartbeats 4000000 in
set_option maxRecDepth 100000 in
theorem w_threadAt {l : Launch} {s0 : State} {D : va_G} {k : Nat → ClassId} (hC : Cx l s0 D k) {cx : Nat} {v : Nat → Int} {f : Nat → Int → Int} {wc : va_W} (hI : Iv v f) (hW : Cst k cx v f wc) (wr : va_W) (ao : Nat) (o9 : Int → Int) (kk pt : Int) (hkk : In32 kk) (hpt : In32 pt) : WdM l s0 D y_L_threadAt { frames := 8, cells := 3, slots := 18, locals := 134 } [.ref cx, .int (iI (kk)), .int (iI (pt)), .ref ao] (wc ++ ((ao, .inl (k 1, al 1 o9)) :: wr)) (fun v9 ws' => ∃ (wc' : va_W) (o' : Int → Int) (kz : Int), v9 = some (.int (iI (kz))) ∧ ws' = wc' ++ ((ao, .inl (k 1, al 1 o')) :: wr) ∧ (kz = 0 ∧ ((pt = 0 ∨ pt = 1) ∧ (0 ≤ kk ∧ kk ≤ 100000) ∧ ¬ (v 22) = 0) ∧ o' 0 = (frP (kk * (v 21)) (v 22) pt) ∧ Cst k cx v f wc' ∧ Iv v f ∨ kz = 1 ∧ ¬ (pt = 0 ∨ pt = 1) ∧ Cst k cx v f wc' ∨ kz = 2 ∧ ((pt = 0 ∨ pt = 1) ∧ ¬ (0 ≤ kk ∧ kk ≤ 100000)) ∧ Cst k cx v f wc' ∨ kz = 3 ∧ ((pt = 0 ∨ pt = 1) ∧ (0 ≤ kk ∧ kk ≤ 100000) ∧ (v 22) = 0) ∧ Cst k cx v f wc')) (fun _ _ => False) 3 18 := by
  refine ex_ofW (cc := b_L_threadAt) (maxL := 5) (ret := (some .int)) (hh := [(0, 9, 12, 32), (0, 9, 16, 13), (0, 9, 20, 19)]) (by decide +kernel) (Or.inr g_597) ?_
  intro p9 e9 s m9 args9 below9 meth9 c9 s9 B9 hml htab hv
  obtain ⟨rfl, h0, hP, hD⟩ := hv
  have hx := B9.exec
  have hb := B9.bytes
  have hr := B9.returns
  have hG := atoms_spec (ws := GW) B9.pre
  have hown : s.vm.findClass "LathePiecesLaw" = some m9.cls := findClass_of_methodNamed B9.named
  have hlocks := B9.notSynchronized
  have hK := cx_K hC h0
  have hS : va_S (aL s0) s.heap s.heap [] := va_S.rf
  have hnc := cx_nc hC h0
  obtain ⟨fs9, hrc⟩ := hW.recv ((ao, .inl (k 1, al 1 o9)) :: wr)
  have hl := lv_entry ([.ref cx, .int (iI (kk)), .int (iI (pt)), .ref ao]) (n := 5) (Nat.le_of_ble_eq_true rfl)
  rw [lg_entry_eq]
  generalize (lg_sl ([.ref cx, .int (iI (kk)), .int (iI (pt)), .ref ao]) ++ List.replicate (5 - (lg_sl ([.ref cx, .int (iI (kk)), .int (iI (pt)), .ref ao])).length) Slot.unset).toArray = ls at hl ⊢
  replace hl : lv_has ls 5 [(0, .ref cx), (1, .int (iI (kk))), (2, .int (iI (pt))), (3, .ref ao)] := hl
  refine lv_aload_n hx hb d_L_threadAt_0 rfl (lv_at hl 3 rfl) ?_
  refine ri_iconst hx hb d_L_threadAt_1 ?_
  refine lv_aload_n hx hb d_L_threadAt_2 rfl (lv_at hl 0 rfl) ?_
  refine lv_iload_n hx hb d_L_threadAt_3 rfl (lv_at hl 1 rfl) ?_
  refine lv_iload_n hx hb d_L_threadAt_4 rfl (lv_at hl 2 rfl) ?_
  refine wd_callC h0 hS (ex_runV (C := "LathePieces") (As := [.int (iI (kk)), .int (iI (pt))]) (rest := [.int (iI (0)), .ref ao]) ⟨hx, hb, hml, hown, hG⟩ (o_threadAt hC hI hW ((ao, .inl (k 1, al 1 o9)) :: wr) kk pt hkk hpt) (cb_code (n := 2) hG g_601 g_1 g_598 rfl rfl (by decide +kernel) ⟨Nat.le_of_ble_eq_true rfl, Nat.le_of_ble_eq_true rfl⟩) (hG _ g_599) (hG _ g_600) (kd_V (kd_preW h0 hS hP hD) (kd_recv hK hP (q0 := 2) (ci := 5) rfl hrc rfl)) rfl rfl hl.1 rfl (lv_room (Nat.le_of_ble_eq_true rfl)) d_L_threadAt_5 ⟨Nat.le_of_ble_eq_true rfl, Nat.le_of_ble_eq_true rfl⟩) (fun E ws9 hE H locs hP hD hS q T0 hT0 hq => ?_) (fun v9 ws9 h9 H locs hP hD hS => ?_)
  · obtain ⟨wc', rfl, hW2, hE⟩ := hE
    rcases hE with ⟨rfl, hc⟩ | ⟨rfl, hc⟩ | ⟨rfl, hc⟩
    · refine ex_catch (name := xIO) hown (tableOf []) ⟨0, 9, 12, 32⟩ (tableOf [(0, 9, 16, 13), (0, 9, 20, 19)]) (htab.trans rfl) (fun z hz => nomatch hz) rfl (by decide) (hG _ g_303) (cx_can hC h0 g_318 _) hT0 hq ?_
      refine lv_astore (lv' := [(4, .ref q), (0, .ref cx), (1, .int (iI (kk))), (2, .int (iI (pt))), (3, .ref ao)]) hx hb d_L_threadAt_12 hl (by decide) rfl (fun ls hl => ?_)
      refine ri_iconst hx hb d_L_threadAt_14 ?_
      exact re_i hx hb hr hlocks (fun t9 ht9 hW9 => ⟨_, ⟨wc', o9, 1, rfl, rfl, Or.inr (Or.inl ⟨rfl, hc, hW2⟩)⟩, wd_next h0 hS hP hD t9 ht9 hW9⟩) hS.2.2 (Nat.le_of_ble_eq_true rfl) (Nat.le_of_ble_eq_true rfl) d_L_threadAt_15
    · refine ex_catch (name := xIA) hown (tableOf [(0, 9, 12, 32)]) ⟨0, 9, 16, 13⟩ (tableOf [(0, 9, 20, 19)]) (htab.trans rfl) (fun z hz => by rw [List.mem_singleton.mp hz]; exact Or.inr ⟨by decide, xIO, hG _ g_303, hnc.1.2⟩) rfl (by decide) (hG _ g_105) (cx_can hC h0 g_115 _) hT0 hq ?_
      refine lv_astore (lv' := [(4, .ref q), (0, .ref cx), (1, .int (iI (kk))), (2, .int (iI (pt))), (3, .ref ao)]) hx hb d_L_threadAt_16 hl (by decide) rfl (fun ls hl => ?_)
      refine ri_iconst hx hb d_L_threadAt_18 ?_
      exact re_i hx hb hr hlocks (fun t9 ht9 hW9 => ⟨_, ⟨wc', o9, 2, rfl, rfl, Or.inr (Or.inr (Or.inl ⟨rfl, hc, hW2⟩))⟩, wd_next h0 hS hP hD t9 ht9 hW9⟩) hS.2.2 (Nat.le_of_ble_eq_true rfl) (Nat.le_of_ble_eq_true rfl) d_L_threadAt_19
    · refine ex_catch (name := xIS) hown (tableOf [(0, 9, 12, 32), (0, 9, 16, 13)]) ⟨0, 9, 20, 19⟩ (tableOf []) (htab.trans rfl) (fun z hz => by rcases List.mem_cons.mp hz with rfl | hz; exact Or.inr ⟨by decide, xIO, hG _ g_303, hnc.2.1.2⟩; rw [List.mem_singleton.mp hz]; exact Or.inr ⟨by decide, xIA, hG _ g_105, hnc.2.1.1⟩) rfl (by decide) (hG _ g_188) (cx_can hC h0 g_202 _) hT0 hq ?_
      refine lv_astore (lv' := [(4, .ref q), (0, .ref cx), (1, .int (iI (kk))), (2, .int (iI (pt))), (3, .ref ao)]) hx hb d_L_threadAt_20 hl (by decide) rfl (fun ls hl => ?_)
      refine ri_iconst hx hb d_L_threadAt_22 ?_
      exact re_i hx hb hr hlocks (fun t9 ht9 hW9 => ⟨_, ⟨wc', o9, 3, rfl, rfl, Or.inr (Or.inr (Or.inr (⟨rfl, hc, hW2⟩)))⟩, wd_next h0 hS hP hD t9 ht9 hW9⟩) hS.2.2 (Nat.le_of_ble_eq_true rfl) (Nat.le_of_ble_eq_true rfl) d_L_threadAt_23
  · obtain ⟨wc', rfl, hc, rfl, hW2, hI2⟩ := h9
    show W _ _ _ _ _ _ _ _ _ _ _ _ _ _ _ (F0 m9 8 ls [.long (jJ (frP (kk * (v 21)) (v 22) pt)), .int (iI (0)), .ref ao])
    replace hP := wl_Pp hP List.perm_middle
    replace hD := wl_Dp hD List.perm_middle
    refine ra_last (v := frP (kk * (v 21)) (v 22) pt) hx hb hK hP hD hS 0 rfl (by omega) (by omega) d_L_threadAt_8 (fun H locs hP hD hS => ?_)
    have hP : va_P D classes ((ao, .inl (k 1, al 1 (zU o9 (0) (frP (kk * (v 21)) (v 22) pt)))) :: (wc' ++ wr)) H := hP
    have hD : va_D (fun q : Nat => s0.heap.size ≤ q) ((ao, .inl (k 1, al 1 (zU o9 (0) (frP (kk * (v 21)) (v 22) pt)))) :: (wc' ++ wr)) := hD
    replace hP := wl_Pp hP List.perm_middle.symm
    replace hD := wl_Dp hD List.perm_middle.symm
    refine lv_goto (tgt := 24) hx hb d_L_threadAt_9 (by decide) ?_
    refine ri_iconst hx hb d_L_threadAt_24 ?_
    exact re_i hx hb hr hlocks (fun t9 ht9 hW9 => ⟨_, ⟨wc', zU o9 0 (frP (kk * (v 21)) (v 22) pt), 0, rfl, rfl, Or.inl ⟨rfl, hc, zU_eq, hW2, hI2⟩⟩, wd_next h0 hS hP hD t9 ht9 hW9⟩) hS.2.2 (Nat.le_of_ble_eq_true rfl) (Nat.le_of_ble_eq_true rfl) d_L_threadAt_25
set_option maxHeartbeats 4000000 in
set_option maxRecDepth 100000 in
theorem w_row {l : Launch} {s0 : State} {D : va_G} {k : Nat → ClassId} (hC : Cx l s0 D k) {cx : Nat} {v : Nat → Int} {f : Nat → Int → Int} {wc : va_W} (hI : Iv v f) (hW : Cst k cx v f wc) (wr : va_W) (ao : Nat) (o9 : Int → Int) (rd tu : Int) (hrd : In32 rd) (htu : In32 tu) : WdM l s0 D y_L_row { frames := 8, cells := 3, slots := 18, locals := 134 } [.ref cx, .int (iI (rd)), .int (iI (tu)), .ref ao] (wc ++ ((ao, .inl (k 1, al 1 o9)) :: wr)) (fun v9 ws' => ∃ (wc' : va_W) (o' : Int → Int) (kz : Int), v9 = some (.int (iI (kz))) ∧ ws' = wc' ++ ((ao, .inl (k 1, al 1 o')) :: wr) ∧ (kz = 0 ∧ (((1 ≤ rd ∧ rd ≤ 500) ∧ (1 ≤ tu ∧ tu ≤ 10000) ∧ ((v 23) = 0 ∨ (f 24) ((v 23) - 1) < rd)) ∧ (v 23) < 8) ∧ o' 0 = tw ((v 23) + 1) ∧ Cst k cx (vS (vS v 0 0) 23 (v 23 + 1)) (fS (fS f 24 (zU (f 24) (v 23) rd)) 25 (zU (f 25) (v 23) tu)) wc' ∧ Iv (vS (vS v 0 0) 23 (v 23 + 1)) (fS (fS f 24 (zU (f 24) (v 23) rd)) 25 (zU (f 25) (v 23) tu)) ∨ kz = 1 ∧ ¬ ((1 ≤ rd ∧ rd ≤ 500) ∧ (1 ≤ tu ∧ tu ≤ 10000) ∧ ((v 23) = 0 ∨ (f 24) ((v 23) - 1) < rd)) ∧ Cst k cx v f wc' ∨ kz = 2 ∧ (((1 ≤ rd ∧ rd ≤ 500) ∧ (1 ≤ tu ∧ tu ≤ 10000) ∧ ((v 23) = 0 ∨ (f 24) ((v 23) - 1) < rd)) ∧ ¬ (v 23) < 8) ∧ Cst k cx v f wc')) (fun _ _ => False) 3 18 := by
  refine ex_ofW (cc := b_L_row) (maxL := 5) (ret := (some .int)) (hh := [(0, 10, 13, 13), (0, 10, 17, 19)]) (by decide +kernel) (Or.inr g_606) ?_
  intro p9 e9 s m9 args9 below9 meth9 c9 s9 B9 hml htab hv
  obtain ⟨rfl, h0, hP, hD⟩ := hv
  have hx := B9.exec
  have hb := B9.bytes
  have hr := B9.returns
  have hG := atoms_spec (ws := GW) B9.pre
  have hown : s.vm.findClass "LathePiecesLaw" = some m9.cls := findClass_of_methodNamed B9.named
  have hlocks := B9.notSynchronized
  have hK := cx_K hC h0
  have hS : va_S (aL s0) s.heap s.heap [] := va_S.rf
  have hnc := cx_nc hC h0
  obtain ⟨fs9, hrc⟩ := hW.recv ((ao, .inl (k 1, al 1 o9)) :: wr)
  have hl := lv_entry ([.ref cx, .int (iI (rd)), .int (iI (tu)), .ref ao]) (n := 5) (Nat.le_of_ble_eq_true rfl)
  rw [lg_entry_eq]
  generalize (lg_sl ([.ref cx, .int (iI (rd)), .int (iI (tu)), .ref ao]) ++ List.replicate (5 - (lg_sl ([.ref cx, .int (iI (rd)), .int (iI (tu)), .ref ao])).length) Slot.unset).toArray = ls at hl ⊢
  replace hl : lv_has ls 5 [(0, .ref cx), (1, .int (iI (rd))), (2, .int (iI (tu))), (3, .ref ao)] := hl
  refine lv_aload_n hx hb d_L_row_0 rfl (lv_at hl 3 rfl) ?_
  refine ri_iconst hx hb d_L_row_1 ?_
  refine lv_aload_n hx hb d_L_row_2 rfl (lv_at hl 0 rfl) ?_
  refine lv_iload_n hx hb d_L_row_3 rfl (lv_at hl 1 rfl) ?_
  refine lv_iload_n hx hb d_L_row_4 rfl (lv_at hl 2 rfl) ?_
  refine wd_callC h0 hS (ex_runV (C := "LathePieces") (As := [.int (iI (rd)), .int (iI (tu))]) (rest := [.int (iI (0)), .ref ao]) ⟨hx, hb, hml, hown, hG⟩ (o_row hC hI hW ((ao, .inl (k 1, al 1 o9)) :: wr) rd tu hrd htu) (cb_code (n := 2) hG g_610 g_1 g_607 rfl rfl (by decide +kernel) ⟨Nat.le_of_ble_eq_true rfl, Nat.le_of_ble_eq_true rfl⟩) (hG _ g_608) (hG _ g_609) (kd_V (kd_preW h0 hS hP hD) (kd_recv hK hP (q0 := 2) (ci := 5) rfl hrc rfl)) rfl rfl hl.1 rfl (lv_room (Nat.le_of_ble_eq_true rfl)) d_L_row_5 ⟨Nat.le_of_ble_eq_true rfl, Nat.le_of_ble_eq_true rfl⟩) (fun E ws9 hE H locs hP hD hS q T0 hT0 hq => ?_) (fun v9 ws9 h9 H locs hP hD hS => ?_)
  · obtain ⟨wc', rfl, hW2, hE⟩ := hE
    rcases hE with ⟨rfl, hc⟩ | ⟨rfl, hc⟩
    · refine ex_catch (name := xIA) hown (tableOf []) ⟨0, 10, 13, 13⟩ (tableOf [(0, 10, 17, 19)]) (htab.trans rfl) (fun z hz => nomatch hz) rfl (by decide) (hG _ g_105) (cx_can hC h0 g_115 _) hT0 hq ?_
      refine lv_astore (lv' := [(4, .ref q), (0, .ref cx), (1, .int (iI (rd))), (2, .int (iI (tu))), (3, .ref ao)]) hx hb d_L_row_13 hl (by decide) rfl (fun ls hl => ?_)
      refine ri_iconst hx hb d_L_row_15 ?_
      exact re_i hx hb hr hlocks (fun t9 ht9 hW9 => ⟨_, ⟨wc', o9, 1, rfl, rfl, Or.inr (Or.inl ⟨rfl, hc, hW2⟩)⟩, wd_next h0 hS hP hD t9 ht9 hW9⟩) hS.2.2 (Nat.le_of_ble_eq_true rfl) (Nat.le_of_ble_eq_true rfl) d_L_row_16
    · refine ex_catch (name := xIS) hown (tableOf [(0, 10, 13, 13)]) ⟨0, 10, 17, 19⟩ (tableOf []) (htab.trans rfl) (fun z hz => by rw [List.mem_singleton.mp hz]; exact Or.inr ⟨by decide, xIA, hG _ g_105, hnc.2.1.1⟩) rfl (by decide) (hG _ g_188) (cx_can hC h0 g_202 _) hT0 hq ?_
      refine lv_astore (lv' := [(4, .ref q), (0, .ref cx), (1, .int (iI (rd))), (2, .int (iI (tu))), (3, .ref ao)]) hx hb d_L_row_17 hl (by decide) rfl (fun ls hl => ?_)
      refine ri_iconst hx hb d_L_row_19 ?_
      exact re_i hx hb hr hlocks (fun t9 ht9 hW9 => ⟨_, ⟨wc', o9, 2, rfl, rfl, Or.inr (Or.inr (⟨rfl, hc, hW2⟩))⟩, wd_next h0 hS hP hD t9 ht9 hW9⟩) hS.2.2 (Nat.le_of_ble_eq_true rfl) (Nat.le_of_ble_eq_true rfl) d_L_row_20
  · obtain ⟨wc', rfl, hc, rfl, hW2, hI2⟩ := h9
    show W _ _ _ _ _ _ _ _ _ _ _ _ _ _ _ (F0 m9 8 ls [.int (iI ((v 23) + 1)), .int (iI (0)), .ref ao])
    refine ri_i2lw hx hb d_L_row_8 ?_
    replace hP := wl_Pp hP List.perm_middle
    replace hD := wl_Dp hD List.perm_middle
    refine ra_last (v := tw ((v 23) + 1)) hx hb hK hP hD hS 0 rfl (by omega) (by omega) d_L_row_9 (fun H locs hP hD hS => ?_)
    have hP : va_P D classes ((ao, .inl (k 1, al 1 (zU o9 (0) (tw ((v 23) + 1))))) :: (wc' ++ wr)) H := hP
    have hD : va_D (fun q : Nat => s0.heap.size ≤ q) ((ao, .inl (k 1, al 1 (zU o9 (0) (tw ((v 23) + 1))))) :: (wc' ++ wr)) := hD
    replace hP := wl_Pp hP List.perm_middle.symm
    replace hD := wl_Dp hD List.perm_middle.symm
    refine lv_goto (tgt := 21) hx hb d_L_row_10 (by decide) ?_
    refine ri_iconst hx hb d_L_row_21 ?_
    exact re_i hx hb hr hlocks (fun t9 ht9 hW9 => ⟨_, ⟨wc', zU o9 0 (tw ((v 23) + 1)), 0, rfl, rfl, Or.inl ⟨rfl, hc, zU_eq, hW2, hI2⟩⟩, wd_next h0 hS hP hD t9 ht9 hW9⟩) hS.2.2 (Nat.le_of_ble_eq_true rfl) (Nat.le_of_ble_eq_true rfl) d_L_row_22
set_option maxHeartbeats 4000000 in
set_option maxRecDepth 100000 in
theorem w_speed {l : Launch} {s0 : State} {D : va_G} {k : Nat → ClassId} (hC : Cx l s0 D k) {cx : Nat} {v : Nat → Int} {f : Nat → Int → Int} {wc : va_W} (hI : Iv v f) (hW : Cst k cx v f wc) (wr : va_W) (ao : Nat) (o9 : Int → Int) (p x : Int) (hp : In32 p) (hx9 : In32 x) : WdM l s0 D y_L_speed { frames := 9, cells := 3, slots := 18, locals := 159 } [.ref cx, .int (iI (p)), .int (iI (x)), .ref ao] (wc ++ ((ao, .inl (k 1, al 1 o9)) :: wr)) (fun v9 ws' => ∃ (wc' : va_W) (o' : Int → Int) (kz : Int), v9 = some (.int (iI (kz))) ∧ ws' = wc' ++ ((ao, .inl (k 1, al 1 o')) :: wr) ∧ (kz = 0 ∧ ((0 ≤ p ∧ p < (v 9) ∧ 0 ≤ x ∧ x ≤ (f 10) p) ∧ ¬ (v 23) = 0) ∧ o' 0 = tw ((f 25) (min (spF (f 24) ((f 12) (65 * p + x)) (v 23).toNat) ((v 23) - 1))) ∧ Cst k cx v f wc' ∧ Iv v f ∨ kz = 1 ∧ ¬ (0 ≤ p ∧ p < (v 9) ∧ 0 ≤ x ∧ x ≤ (f 10) p) ∧ Cst k cx v f wc' ∨ kz = 2 ∧ ((0 ≤ p ∧ p < (v 9) ∧ 0 ≤ x ∧ x ≤ (f 10) p) ∧ (v 23) = 0) ∧ Cst k cx v f wc')) (fun _ _ => False) 3 18 := by
  refine ex_ofW (cc := b_L_speed) (maxL := 5) (ret := (some .int)) (hh := [(0, 10, 13, 32), (0, 10, 17, 19)]) (by decide +kernel) (Or.inr g_615) ?_
  intro p9 e9 s m9 args9 below9 meth9 c9 s9 B9 hml htab hv
  obtain ⟨rfl, h0, hP, hD⟩ := hv
  have hx := B9.exec
  have hb := B9.bytes
  have hr := B9.returns
  have hG := atoms_spec (ws := GW) B9.pre
  have hown : s.vm.findClass "LathePiecesLaw" = some m9.cls := findClass_of_methodNamed B9.named
  have hlocks := B9.notSynchronized
  have hK := cx_K hC h0
  have hS : va_S (aL s0) s.heap s.heap [] := va_S.rf
  have hnc := cx_nc hC h0
  obtain ⟨fs9, hrc⟩ := hW.recv ((ao, .inl (k 1, al 1 o9)) :: wr)
  have hl := lv_entry ([.ref cx, .int (iI (p)), .int (iI (x)), .ref ao]) (n := 5) (Nat.le_of_ble_eq_true rfl)
  rw [lg_entry_eq]
  generalize (lg_sl ([.ref cx, .int (iI (p)), .int (iI (x)), .ref ao]) ++ List.replicate (5 - (lg_sl ([.ref cx, .int (iI (p)), .int (iI (x)), .ref ao])).length) Slot.unset).toArray = ls at hl ⊢
  replace hl : lv_has ls 5 [(0, .ref cx), (1, .int (iI (p))), (2, .int (iI (x))), (3, .ref ao)] := hl
  refine lv_aload_n hx hb d_L_speed_0 rfl (lv_at hl 3 rfl) ?_
  refine ri_iconst hx hb d_L_speed_1 ?_
  refine lv_aload_n hx hb d_L_speed_2 rfl (lv_at hl 0 rfl) ?_
  refine lv_iload_n hx hb d_L_speed_3 rfl (lv_at hl 1 rfl) ?_
  refine lv_iload_n hx hb d_L_speed_4 rfl (lv_at hl 2 rfl) ?_
  refine wd_callC h0 hS (ex_runV (C := "LathePieces") (As := [.int (iI (p)), .int (iI (x))]) (rest := [.int (iI (0)), .ref ao]) ⟨hx, hb, hml, hown, hG⟩ (o_speed hC hI hW ((ao, .inl (k 1, al 1 o9)) :: wr) p x hp hx9) (cb_code (n := 2) hG g_619 g_1 g_616 rfl rfl (by decide +kernel) ⟨Nat.le_of_ble_eq_true rfl, Nat.le_of_ble_eq_true rfl⟩) (hG _ g_617) (hG _ g_618) (kd_V (kd_preW h0 hS hP hD) (kd_recv hK hP (q0 := 2) (ci := 5) rfl hrc rfl)) rfl rfl hl.1 rfl (lv_room (Nat.le_of_ble_eq_true rfl)) d_L_speed_5 ⟨Nat.le_of_ble_eq_true rfl, Nat.le_of_ble_eq_true rfl⟩) (fun E ws9 hE H locs hP hD hS q T0 hT0 hq => ?_) (fun v9 ws9 h9 H locs hP hD hS => ?_)
  · obtain ⟨wc', rfl, hW2, hE⟩ := hE
    rcases hE with ⟨rfl, hc⟩ | ⟨rfl, hc⟩
    · refine ex_catch (name := xIO) hown (tableOf []) ⟨0, 10, 13, 32⟩ (tableOf [(0, 10, 17, 19)]) (htab.trans rfl) (fun z hz => nomatch hz) rfl (by decide) (hG _ g_303) (cx_can hC h0 g_318 _) hT0 hq ?_
      refine lv_astore (lv' := [(4, .ref q), (0, .ref cx), (1, .int (iI (p))), (2, .int (iI (x))), (3, .ref ao)]) hx hb d_L_speed_13 hl (by decide) rfl (fun ls hl => ?_)
      refine ri_iconst hx hb d_L_speed_15 ?_
      exact re_i hx hb hr hlocks (fun t9 ht9 hW9 => ⟨_, ⟨wc', o9, 1, rfl, rfl, Or.inr (Or.inl ⟨rfl, hc, hW2⟩)⟩, wd_next h0 hS hP hD t9 ht9 hW9⟩) hS.2.2 (Nat.le_of_ble_eq_true rfl) (Nat.le_of_ble_eq_true rfl) d_L_speed_16
    · refine ex_catch (name := xIS) hown (tableOf [(0, 10, 13, 32)]) ⟨0, 10, 17, 19⟩ (tableOf []) (htab.trans rfl) (fun z hz => by rw [List.mem_singleton.mp hz]; exact Or.inr ⟨by decide, xIO, hG _ g_303, hnc.2.1.2⟩) rfl (by decide) (hG _ g_188) (cx_can hC h0 g_202 _) hT0 hq ?_
      refine lv_astore (lv' := [(4, .ref q), (0, .ref cx), (1, .int (iI (p))), (2, .int (iI (x))), (3, .ref ao)]) hx hb d_L_speed_17 hl (by decide) rfl (fun ls hl => ?_)
      refine ri_iconst hx hb d_L_speed_19 ?_
      exact re_i hx hb hr hlocks (fun t9 ht9 hW9 => ⟨_, ⟨wc', o9, 2, rfl, rfl, Or.inr (Or.inr (⟨rfl, hc, hW2⟩))⟩, wd_next h0 hS hP hD t9 ht9 hW9⟩) hS.2.2 (Nat.le_of_ble_eq_true rfl) (Nat.le_of_ble_eq_true rfl) d_L_speed_20
  · obtain ⟨wc', rfl, hc, rfl, hW2, hI2⟩ := h9
    show W _ _ _ _ _ _ _ _ _ _ _ _ _ _ _ (F0 m9 8 ls [.int (iI ((f 25) (min (spF (f 24) ((f 12) (65 * p + x)) (v 23).toNat) ((v 23) - 1)))), .int (iI (0)), .ref ao])
    refine ri_i2lw hx hb d_L_speed_8 ?_
    replace hP := wl_Pp hP List.perm_middle
    replace hD := wl_Dp hD List.perm_middle
    refine ra_last (v := tw ((f 25) (min (spF (f 24) ((f 12) (65 * p + x)) (v 23).toNat) ((v 23) - 1)))) hx hb hK hP hD hS 0 rfl (by omega) (by omega) d_L_speed_9 (fun H locs hP hD hS => ?_)
    have hP : va_P D classes ((ao, .inl (k 1, al 1 (zU o9 (0) (tw ((f 25) (min (spF (f 24) ((f 12) (65 * p + x)) (v 23).toNat) ((v 23) - 1))))))) :: (wc' ++ wr)) H := hP
    have hD : va_D (fun q : Nat => s0.heap.size ≤ q) ((ao, .inl (k 1, al 1 (zU o9 (0) (tw ((f 25) (min (spF (f 24) ((f 12) (65 * p + x)) (v 23).toNat) ((v 23) - 1))))))) :: (wc' ++ wr)) := hD
    replace hP := wl_Pp hP List.perm_middle.symm
    replace hD := wl_Dp hD List.perm_middle.symm
    refine lv_goto (tgt := 21) hx hb d_L_speed_10 (by decide) ?_
    refine ri_iconst hx hb d_L_speed_21 ?_
    exact re_i hx hb hr hlocks (fun t9 ht9 hW9 => ⟨_, ⟨wc', zU o9 0 (tw ((f 25) (min (spF (f 24) ((f 12) (65 * p + x)) (v 23).toNat) ((v 23) - 1)))), 0, rfl, rfl, Or.inl ⟨rfl, hc, zU_eq, hW2, hI2⟩⟩, wd_next h0 hS hP hD t9 ht9 hW9⟩) hS.2.2 (Nat.le_of_ble_eq_true rfl) (Nat.le_of_ble_eq_true rfl) d_L_speed_22
