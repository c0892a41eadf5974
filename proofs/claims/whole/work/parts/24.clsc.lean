set_option maxHeartbeats 4000000 in
set_option maxRecDepth 100000 in
theorem c_C_start {l : Launch} {s0 : State} {D : va_G} {k : Nat → ClassId} (hC : Cx l s0 D k) (cx cf cp cn ce cg cu ct cr : Nat) (np nt ng nr ia ib bg la lr wy : Int) (pr ru rt : Int → Int) (gp gn rq gg : Int → Option Nat) (tl : va_W) (rd : Int) (hrd : In32 rd) : WdM l s0 D y_C_start { frames := 7, cells := 1, slots := 6, locals := 112 } [.ref cx, .int (iI (rd))] ((cf, .inr (2, [.ref cr, .int (iI (bg)), .int (iI (la)), .int (iI (lr)), .int (iI (wy))])) :: (cr, .inl (k 0, ai 65 pr)) :: (cx, .inr (5, [.ref cf, .ref cp, .int (iI (np)), .ref cn, .int (iI (nt)), .ref ce, .ref cg, .int (iI (ng)), .ref cu, .ref ct, .int (iI (nr)), .int (iI (ia)), .int (iI (ib))])) :: (cp, .inl (k 2, aq 6 gp)) :: (cn, .inl (k 3, aq 6 gn)) :: (ce, .inl (k 4, aq 36 rq)) :: (cg, .inl (k 5, aq 6 gg)) :: (cu, .inl (k 0, ai 8 ru)) :: (ct, .inl (k 0, ai 8 rt)) :: tl) (fun v ws' => v = none ∧ (0 ≤ rd ∧ rd ≤ 500) ∧ ws' = ((cf, .inr (2, [.ref cr, .int (iI (1)), .int (iI (0)), .int (iI (rd)), .int (iI (0))])) :: (cr, .inl (k 0, ai 65 (zU pr (0) (rd)))) :: (cx, .inr (5, [.ref cf, .ref cp, .int (iI (np)), .ref cn, .int (iI (nt)), .ref ce, .ref cg, .int (iI (ng)), .ref cu, .ref ct, .int (iI (nr)), .int (iI (ia)), .int (iI (ib))])) :: (cp, .inl (k 2, aq 6 gp)) :: (cn, .inl (k 3, aq 6 gn)) :: (ce, .inl (k 4, aq 36 rq)) :: (cg, .inl (k 5, aq 6 gg)) :: (cu, .inl (k 0, ai 8 ru)) :: (ct, .inl (k 0, ai 8 rt)) :: tl)) (fun E ws' => ws' = ((cf, .inr (2, [.ref cr, .int (iI (bg)), .int (iI (la)), .int (iI (lr)), .int (iI (wy))])) :: (cr, .inl (k 0, ai 65 pr)) :: (cx, .inr (5, [.ref cf, .ref cp, .int (iI (np)), .ref cn, .int (iI (nt)), .ref ce, .ref cg, .int (iI (ng)), .ref cu, .ref ct, .int (iI (nr)), .int (iI (ia)), .int (iI (ib))])) :: (cp, .inl (k 2, aq 6 gp)) :: (cn, .inl (k 3, aq 6 gn)) :: (ce, .inl (k 4, aq 36 rq)) :: (cg, .inl (k 5, aq 6 gg)) :: (cu, .inl (k 0, ai 8 ru)) :: (ct, .inl (k 0, ai 8 rt)) :: tl) ∧ E = xIA ∧ ¬ (0 ≤ rd ∧ rd ≤ 500)) 1 6 := by
  refine ex_ofW (cc := b_C_start) (maxL := 2) (ret := none) (hh := []) (by decide +kernel) (Or.inl ⟨g_109, rfl⟩) ?_
  intro p9 e9 s m9 args9 below9 meth9 c9 s9 B9 hml htab hv
  obtain ⟨rfl, h0, hP, hD⟩ := hv
  have hx := B9.exec
  have hb := B9.bytes
  have hr := B9.returns
  have hG := atoms_spec (ws := GW) B9.pre
  have hown : s.vm.findClass "LathePieces" = some m9.cls := findClass_of_methodNamed B9.named
  have hlocks := B9.notSynchronized
  have hK := cx_K hC h0
  have hS : va_S (aL s0) s.heap s.heap [] := va_S.rf
  have hA : ∀ q : Nat, s.heap.size ≤ q → aL s0 q := fun q h => Nat.le_trans h0.2.1 h
  have hl := lv_entry ([.ref cx, .int (iI (rd))]) (n := 2) (Nat.le_of_ble_eq_true rfl)
  rw [lg_entry_eq]
  generalize (lg_sl ([.ref cx, .int (iI (rd))]) ++ List.replicate (2 - (lg_sl ([.ref cx, .int (iI (rd))])).length) Slot.unset).toArray = ls at hl ⊢
  replace hl : lv_has ls 2 [(0, .ref cx), (1, .int (iI (rd)))] := hl
  refine lv_iload_n hx hb d_C_start_0 rfl (lv_at hl 1 rfl) ?_
  refine ri_iconst hx hb d_C_start_1 ?_
  refine ri_sipush hx hb d_C_start_2 (by decide) ?_
  refine th_call h0 hS htab hlocks (Nat.le_of_ble_eq_true rfl) (Nat.le_of_ble_eq_true rfl) (ex_runS (As := [.int (iI (rd)), .int (iI (0)), .int (iI (500))]) (rest := []) ⟨hx, hb, hml, hown, hG⟩ (c_C_checkNumber hC (rd) (0) (500) (by omega) (by omega) (by omega)) (cb_code (n := 3) hG g_112 g_1 g_110 rfl rfl (by decide +kernel) ⟨Nat.le_of_ble_eq_true rfl, Nat.le_of_ble_eq_true rfl⟩) (hG _ g_111) ⟨fun _ _ _ _ q => q, fun U hU hW => ⟨rfl, la_next h0 (fun _ z => z) hS U hU hW, trivial⟩⟩ rfl rfl hl.1 rfl (lv_room (Nat.le_of_ble_eq_true rfl)) d_C_start_5 ⟨Nat.le_of_ble_eq_true rfl, Nat.le_of_ble_eq_true rfl⟩) (fun E hE t hla hz ho => ⟨_, ⟨rfl, hE.1, hE.2⟩, hla, wl_Pk hP ho, hD⟩) (fun v9 h9 locs hS => ?_)
  obtain ⟨rfl, q1, q2⟩ := h9
  show W _ _ _ _ _ _ _ _ _ _ _ _ _ _ _ (F0 m9 8 ls [])
  refine lv_aload_n hx hb d_C_start_8 rfl (lv_at hl 0 rfl) ?_
  refine va_get (D := D) (ci := 5) (v := .ref cf) (C := R_C) (T := F_C) (N := 13) hx hb hG in_C hown hK hP 2 rfl rfl 0 (by decide) (hG _ g_62) (fun _ h9 => h9) rfl d_C_start_9 ?_
  refine lv_iload_n hx hb d_C_start_12 rfl (lv_at hl 1 rfl) ?_
  refine wd_call h0 hS htab hlocks (Nat.le_of_ble_eq_true rfl) (Nat.le_of_ble_eq_true rfl) (ex_runV (C := "LathePieces$Profile") (As := [.int (iI (rd))]) (rest := []) ⟨hx, hb, hml, hown, hG⟩ (c_F_begin hC cf cr bg la lr wy pr ((cx, .inr (5, [.ref cf, .ref cp, .int (iI (np)), .ref cn, .int (iI (nt)), .ref ce, .ref cg, .int (iI (ng)), .ref cu, .ref ct, .int (iI (nr)), .int (iI (ia)), .int (iI (ib))])) :: (cp, .inl (k 2, aq 6 gp)) :: (cn, .inl (k 3, aq 6 gn)) :: (ce, .inl (k 4, aq 36 rq)) :: (cg, .inl (k 5, aq 6 gg)) :: (cu, .inl (k 0, ai 8 ru)) :: (ct, .inl (k 0, ai 8 rt)) :: tl) rd) (cb_code (n := 1) hG g_184 g_2 g_181 rfl rfl (by decide +kernel) ⟨Nat.le_of_ble_eq_true rfl, Nat.le_of_ble_eq_true rfl⟩) (hG _ g_182) (hG _ g_183) (kd_V (kd_preW h0 hS hP hD) (kd_recv hK hP (q0 := 0) (ci := 2) rfl rfl rfl)) rfl rfl hl.1 rfl (lv_room (Nat.le_of_ble_eq_true rfl)) d_C_start_13 ⟨Nat.le_of_ble_eq_true rfl, Nat.le_of_ble_eq_true rfl⟩) (fun E ws9 hE t hwd => hE.elim) (fun v9 ws9 h9 H locs hP hD hS => ?_)
  obtain ⟨rfl, rfl⟩ := h9
  show W _ _ _ _ _ _ _ _ _ _ _ _ _ _ _ (F0 m9 16 ls [])
  exact re_v hx hb hr hlocks (fun t ht hW => ⟨_, ⟨rfl, ⟨q1, q2⟩, rfl⟩, wd_next h0 hS hP hD t ht hW⟩) hS.2.2 (Nat.le_of_ble_eq_true rfl) (Nat.le_of_ble_eq_true rfl) d_C_start_16

set_option maxHeartbeats 4000000 in
set_option maxRecDepth 100000 in
theorem c_C_line {l : Launch} {s0 : State} {D : va_G} {k : Nat → ClassId} (hC : Cx l s0 D k) (cx cf cp cn ce cg cu ct cr : Nat) (np nt ng nr ia ib bg la lr wy : Int) (pr ru rt : Int → Int) (gp gn rq gg : Int → Option Nat) (tl : va_W) (hbg : bg = 0 ∨ bg = 1) (hla : 0 ≤ la ∧ la ≤ 64) (hlr : 0 ≤ lr ∧ lr ≤ 500) (at9 rd : Int) (hat : In32 at9) (hrd : In32 rd) : WdM l s0 D y_C_line { frames := 8, cells := 3, slots := 18, locals := 133 } [.ref cx, .int (iI (at9)), .int (iI (rd))] ((cf, .inr (2, [.ref cr, .int (iI (bg)), .int (iI (la)), .int (iI (lr)), .int (iI (wy))])) :: (cr, .inl (k 0, ai 65 pr)) :: (cx, .inr (5, [.ref cf, .ref cp, .int (iI (np)), .ref cn, .int (iI (nt)), .ref ce, .ref cg, .int (iI (ng)), .ref cu, .ref ct, .int (iI (nr)), .int (iI (ia)), .int (iI (ib))])) :: (cp, .inl (k 2, aq 6 gp)) :: (cn, .inl (k 3, aq 6 gn)) :: (ce, .inl (k 4, aq 36 rq)) :: (cg, .inl (k 5, aq 6 gg)) :: (cu, .inl (k 0, ai 8 ru)) :: (ct, .inl (k 0, ai 8 rt)) :: tl) (fun v ws' => v = some (.int (iI (wy + 1))) ∧ (1 ≤ at9 ∧ at9 ≤ 64 ∧ 0 ≤ rd ∧ rd ≤ 500) ∧ bg = 1 ∧ la < at9 ∧ ws' = ((cf, .inr (2, [.ref cr, .int (iI (bg)), .int (iI (at9)), .int (iI (rd)), .int (iI (wy + 1))])) :: (cr, .inl (k 0, ai 65 (seqF pr (fun x => lr + ((x - la) * (rd - lr)) / (at9 - la)) (la + 1) (at9 - la).toNat))) :: (cx, .inr (5, [.ref cf, .ref cp, .int (iI (np)), .ref cn, .int (iI (nt)), .ref ce, .ref cg, .int (iI (ng)), .ref cu, .ref ct, .int (iI (nr)), .int (iI (ia)), .int (iI (ib))])) :: (cp, .inl (k 2, aq 6 gp)) :: (cn, .inl (k 3, aq 6 gn)) :: (ce, .inl (k 4, aq 36 rq)) :: (cg, .inl (k 5, aq 6 gg)) :: (cu, .inl (k 0, ai 8 ru)) :: (ct, .inl (k 0, ai 8 rt)) :: tl)) (fun E ws' => ws' = ((cf, .inr (2, [.ref cr, .int (iI (bg)), .int (iI (la)), .int (iI (lr)), .int (iI (wy))])) :: (cr, .inl (k 0, ai 65 pr)) :: (cx, .inr (5, [.ref cf, .ref cp, .int (iI (np)), .ref cn, .int (iI (nt)), .ref ce, .ref cg, .int (iI (ng)), .ref cu, .ref ct, .int (iI (nr)), .int (iI (ia)), .int (iI (ib))])) :: (cp, .inl (k 2, aq 6 gp)) :: (cn, .inl (k 3, aq 6 gn)) :: (ce, .inl (k 4, aq 36 rq)) :: (cg, .inl (k 5, aq 6 gg)) :: (cu, .inl (k 0, ai 8 ru)) :: (ct, .inl (k 0, ai 8 rt)) :: tl) ∧ (E = xIA ∧ (¬ (1 ≤ at9 ∧ at9 ≤ 64 ∧ 0 ≤ rd ∧ rd ≤ 500) ∨ bg = 1 ∧ at9 ≤ la) ∨ E = xIS ∧ (1 ≤ at9 ∧ at9 ≤ 64 ∧ 0 ≤ rd ∧ rd ≤ 500) ∧ bg = 0)) 3 18 := by
  refine ex_ofW (cc := b_C_line) (maxL := 3) (ret := (some .int)) (hh := []) (by decide +kernel) (Or.inl ⟨g_192, rfl⟩) ?_
  intro p9 e9 s m9 args9 below9 meth9 c9 s9 B9 hml htab hv
  obtain ⟨rfl, h0, hP, hD⟩ := hv
  have hx := B9.exec
  have hb := B9.bytes
  have hr := B9.returns
  have hG := atoms_spec (ws := GW) B9.pre
  have hown : s.vm.findClass "LathePieces" = some m9.cls := findClass_of_methodNamed B9.named
  have hlocks := B9.notSynchronized
  have hK := cx_K hC h0
  have hS : va_S (aL s0) s.heap s.heap [] := va_S.rf
  have hA : ∀ q : Nat, s.heap.size ≤ q → aL s0 q := fun q h => Nat.le_trans h0.2.1 h
  have hl := lv_entry ([.ref cx, .int (iI (at9)), .int (iI (rd))]) (n := 3) (Nat.le_of_ble_eq_true rfl)
  rw [lg_entry_eq]
  generalize (lg_sl ([.ref cx, .int (iI (at9)), .int (iI (rd))]) ++ List.replicate (3 - (lg_sl ([.ref cx, .int (iI (at9)), .int (iI (rd))])).length) Slot.unset).toArray = ls at hl ⊢
  replace hl : lv_has ls 3 [(0, .ref cx), (1, .int (iI (at9))), (2, .int (iI (rd)))] := hl
  refine lv_iload_n hx hb d_C_line_0 rfl (lv_at hl 1 rfl) ?_
  refine lv_iload_n hx hb d_C_line_1 rfl (lv_at hl 2 rfl) ?_
  refine th_call h0 hS htab hlocks (Nat.le_of_ble_eq_true rfl) (Nat.le_of_ble_eq_true rfl) (ex_runS (As := [.int (iI (at9)), .int (iI (rd))]) (rest := []) ⟨hx, hb, hml, hown, hG⟩ (c_C_checkWayEnd hC at9 rd hat hrd) (cb_code (n := 2) hG g_195 g_1 g_193 rfl rfl (by decide +kernel) ⟨Nat.le_of_ble_eq_true rfl, Nat.le_of_ble_eq_true rfl⟩) (hG _ g_194) ⟨fun _ _ _ _ q => q, fun U hU hW => ⟨rfl, la_next h0 (fun _ z => z) hS U hU hW, trivial⟩⟩ rfl rfl hl.1 rfl (lv_room (Nat.le_of_ble_eq_true rfl)) d_C_line_2 ⟨Nat.le_of_ble_eq_true rfl, Nat.le_of_ble_eq_true rfl⟩) (fun E hE t hla hz ho => ⟨_, ⟨rfl, Or.inl ⟨hE.1, Or.inl hE.2⟩⟩, hla, wl_Pk hP ho, hD⟩) (fun v9 h9 locs hS => ?_)
  obtain ⟨rfl, q1⟩ := h9
  show W _ _ _ _ _ _ _ _ _ _ _ _ _ _ _ (F0 m9 5 ls [])
  refine lv_aload_n hx hb d_C_line_5 rfl (lv_at hl 0 rfl) ?_
  refine lv_iload_n hx hb d_C_line_6 rfl (lv_at hl 1 rfl) ?_
  refine th_call h0 hS htab hlocks (Nat.le_of_ble_eq_true rfl) (Nat.le_of_ble_eq_true rfl) (ex_runV (C := "LathePieces") (As := [.int (iI (at9))]) (rest := []) ⟨hx, hb, hml, hown, hG⟩ (c_C_checkBehindLast hC cx cf cp cn ce cg cu ct np nt ng nr ia ib cr bg la lr wy at9 hbg hla hat) (cb_code (n := 1) hG g_199 g_1 g_196 rfl rfl (by decide +kernel) ⟨Nat.le_of_ble_eq_true rfl, Nat.le_of_ble_eq_true rfl⟩) (hG _ g_198) (hG _ gs_C_checkBehindLast) (kd_V ⟨fun _ _ _ _ q => q, fun U hU hW => ⟨rfl, la_next h0 (fun _ z => z) hS U hU hW, (by show va_P D classes _ U.heap; rw [hU]; exact (va_P.sub hP [0, 2] rfl))⟩⟩ (kd_recv hK hP (q0 := 2) (ci := 5) rfl rfl rfl)) rfl rfl hl.1 rfl (lv_room (Nat.le_of_ble_eq_true rfl)) d_C_line_7 ⟨Nat.le_of_ble_eq_true rfl, Nat.le_of_ble_eq_true rfl⟩) (fun E hE t hla hz ho => ⟨_, ⟨rfl, hE.elim (fun h => Or.inr ⟨h.1, q1, h.2⟩) (fun h => Or.inl ⟨h.1, Or.inr ⟨h.2.1, h.2.2⟩⟩)⟩, hla, wl_Pk hP ho, hD⟩) (fun v9 h9 locs hS => ?_)
  obtain ⟨rfl, q2, q3⟩ := h9
  show W _ _ _ _ _ _ _ _ _ _ _ _ _ _ _ (F0 m9 10 ls [])
  refine lv_aload_n hx hb d_C_line_10 rfl (lv_at hl 0 rfl) ?_
  refine va_get (D := D) (ci := 5) (v := .ref cf) (C := R_C) (T := F_C) (N := 13) hx hb hG in_C hown hK hP 2 rfl rfl 0 (by decide) (hG _ g_62) (fun _ h9 => h9) rfl d_C_line_11 ?_
  refine lv_iload_n hx hb d_C_line_14 rfl (lv_at hl 1 rfl) ?_
  refine lv_iload_n hx hb d_C_line_15 rfl (lv_at hl 2 rfl) ?_
  refine wd_call h0 hS htab hlocks (Nat.le_of_ble_eq_true rfl) (Nat.le_of_ble_eq_true rfl) (ex_runV (C := "LathePieces$Profile") (As := [.int (iI (at9)), .int (iI (rd))]) (rest := []) ⟨hx, hb, hml, hown, hG⟩ (c_F_addLine hC cf cr bg la lr wy pr ((cx, .inr (5, [.ref cf, .ref cp, .int (iI (np)), .ref cn, .int (iI (nt)), .ref ce, .ref cg, .int (iI (ng)), .ref cu, .ref ct, .int (iI (nr)), .int (iI (ia)), .int (iI (ib))])) :: (cp, .inl (k 2, aq 6 gp)) :: (cn, .inl (k 3, aq 6 gn)) :: (ce, .inl (k 4, aq 36 rq)) :: (cg, .inl (k 5, aq 6 gg)) :: (cu, .inl (k 0, ai 8 ru)) :: (ct, .inl (k 0, ai 8 rt)) :: tl) at9 rd (by omega) hlr (by omega)) (cb_code (n := 2) hG g_220 g_2 g_217 rfl rfl (by decide +kernel) ⟨Nat.le_of_ble_eq_true rfl, Nat.le_of_ble_eq_true rfl⟩) (hG _ g_218) (hG _ g_219) (kd_V (kd_preW h0 hS hP hD) (kd_recv hK hP (q0 := 0) (ci := 2) rfl rfl rfl)) rfl rfl hl.1 rfl (lv_room (Nat.le_of_ble_eq_true rfl)) d_C_line_16 ⟨Nat.le_of_ble_eq_true rfl, Nat.le_of_ble_eq_true rfl⟩) (fun E ws9 hE t hwd => hE.elim) (fun v9 ws9 h9 H locs hP hD hS => ?_)
  obtain ⟨rfl, rfl⟩ := h9
  show W _ _ _ _ _ _ _ _ _ _ _ _ _ _ _ (F0 m9 19 ls [])
  refine lv_aload_n hx hb d_C_line_19 rfl (lv_at hl 0 rfl) ?_
  refine va_get (D := D) (ci := 5) (v := .ref cf) (C := R_C) (T := F_C) (N := 13) hx hb hG in_C hown hK hP 2 rfl rfl 0 (by decide) (hG _ g_62) (fun _ h9 => h9) rfl d_C_line_20 ?_
  refine va_get (D := D) (ci := 2) (v := .int (iI (wy + 1))) (C := R_F) (T := F_F) (N := 5) hx hb hG in_F hown hK hP 0 rfl rfl 4 (by decide) (hG _ g_41) (fun _ h9 => h9) rfl d_C_line_23 ?_
  exact re_i hx hb hr hlocks (fun t ht hW => ⟨_, ⟨rfl, q1, q2, q3, rfl⟩, wd_next h0 hS hP hD t ht hW⟩) hS.2.2 (Nat.le_of_ble_eq_true rfl) (Nat.le_of_ble_eq_true rfl) d_C_line_26

set_option maxHeartbeats 4000000 in
set_option maxRecDepth 100000 in
theorem c_C_arc {l : Launch} {s0 : State} {D : va_G} {k : Nat → ClassId} (hC : Cx l s0 D k) (cx cf cp cn ce cg cu ct cr : Nat) (np nt ng nr ia ib bg la lr wy : Int) (pr ru rt : Int → Int) (gp gn rq gg : Int → Option Nat) (tl : va_W) (hbg : bg = 0 ∨ bg = 1) (hla : 0 ≤ la ∧ la ≤ 64) (hlr : 0 ≤ lr ∧ lr ≤ 500) (at9 rd : Int) (hat : In32 at9) (hrd : In32 rd) (xc xh up : Int) (hxc : In32 xc) (hxh : In32 xh) (hup : In32 up) : WdM l s0 D y_C_arc { frames := 8, cells := 5, slots := 30, locals := 133 } [.ref cx, .int (iI (at9)), .int (iI (rd)), .int (iI (xc)), .int (iI (xh)), .int (iI (up))] ((cf, .inr (2, [.ref cr, .int (iI (bg)), .int (iI (la)), .int (iI (lr)), .int (iI (wy))])) :: (cr, .inl (k 0, ai 65 pr)) :: (cx, .inr (5, [.ref cf, .ref cp, .int (iI (np)), .ref cn, .int (iI (nt)), .ref ce, .ref cg, .int (iI (ng)), .ref cu, .ref ct, .int (iI (nr)), .int (iI (ia)), .int (iI (ib))])) :: (cp, .inl (k 2, aq 6 gp)) :: (cn, .inl (k 3, aq 6 gn)) :: (ce, .inl (k 4, aq 36 rq)) :: (cg, .inl (k 5, aq 6 gg)) :: (cu, .inl (k 0, ai 8 ru)) :: (ct, .inl (k 0, ai 8 rt)) :: tl) (fun v ws' => ((1 ≤ at9 ∧ at9 ≤ 64 ∧ 0 ≤ rd ∧ rd ≤ 500) ∧ (-200 ≤ xc ∧ xc ≤ 300) ∧ (-1000 ≤ xh ∧ xh ≤ 1500)) ∧ bg = 1 ∧ la < at9 ∧ (v = some (.int (iI (1))) ∧ arcOk la lr at9 rd xc xh up ∧ ws' = ((cf, .inr (2, [.ref cr, .int (iI (bg)), .int (iI (at9)), .int (iI (rd)), .int (iI (wy + 1))])) :: (cr, .inl (k 0, ai 65 (seqF pr (arcF ((la - xc) * (la - xc) + (lr - xh) * (lr - xh)) xc xh up) (la + 1) (at9 - la).toNat))) :: (cx, .inr (5, [.ref cf, .ref cp, .int (iI (np)), .ref cn, .int (iI (nt)), .ref ce, .ref cg, .int (iI (ng)), .ref cu, .ref ct, .int (iI (nr)), .int (iI (ia)), .int (iI (ib))])) :: (cp, .inl (k 2, aq 6 gp)) :: (cn, .inl (k 3, aq 6 gn)) :: (ce, .inl (k 4, aq 36 rq)) :: (cg, .inl (k 5, aq 6 gg)) :: (cu, .inl (k 0, ai 8 ru)) :: (ct, .inl (k 0, ai 8 rt)) :: tl) ∨ v = some (.int (iI (0))) ∧ ¬ arcOk la lr at9 rd xc xh up ∧ ws' = ((cf, .inr (2, [.ref cr, .int (iI (bg)), .int (iI (la)), .int (iI (lr)), .int (iI (wy))])) :: (cr, .inl (k 0, ai 65 pr)) :: (cx, .inr (5, [.ref cf, .ref cp, .int (iI (np)), .ref cn, .int (iI (nt)), .ref ce, .ref cg, .int (iI (ng)), .ref cu, .ref ct, .int (iI (nr)), .int (iI (ia)), .int (iI (ib))])) :: (cp, .inl (k 2, aq 6 gp)) :: (cn, .inl (k 3, aq 6 gn)) :: (ce, .inl (k 4, aq 36 rq)) :: (cg, .inl (k 5, aq 6 gg)) :: (cu, .inl (k 0, ai 8 ru)) :: (ct, .inl (k 0, ai 8 rt)) :: tl))) (fun E ws' => ws' = ((cf, .inr (2, [.ref cr, .int (iI (bg)), .int (iI (la)), .int (iI (lr)), .int (iI (wy))])) :: (cr, .inl (k 0, ai 65 pr)) :: (cx, .inr (5, [.ref cf, .ref cp, .int (iI (np)), .ref cn, .int (iI (nt)), .ref ce, .ref cg, .int (iI (ng)), .ref cu, .ref ct, .int (iI (nr)), .int (iI (ia)), .int (iI (ib))])) :: (cp, .inl (k 2, aq 6 gp)) :: (cn, .inl (k 3, aq 6 gn)) :: (ce, .inl (k 4, aq 36 rq)) :: (cg, .inl (k 5, aq 6 gg)) :: (cu, .inl (k 0, ai 8 ru)) :: (ct, .inl (k 0, ai 8 rt)) :: tl) ∧ (E = xIA ∧ (¬ ((1 ≤ at9 ∧ at9 ≤ 64 ∧ 0 ≤ rd ∧ rd ≤ 500) ∧ (-200 ≤ xc ∧ xc ≤ 300) ∧ (-1000 ≤ xh ∧ xh ≤ 1500)) ∨ bg = 1 ∧ at9 ≤ la) ∨ E = xIS ∧ ((1 ≤ at9 ∧ at9 ≤ 64 ∧ 0 ≤ rd ∧ rd ≤ 500) ∧ (-200 ≤ xc ∧ xc ≤ 300) ∧ (-1000 ≤ xh ∧ xh ≤ 1500)) ∧ bg = 0)) 5 30 := by
  refine ex_ofW (cc := b_C_arc) (maxL := 6) (ret := (some .boolean)) (hh := []) (by decide +kernel) (Or.inl ⟨g_234, rfl⟩) ?_
  intro p9 e9 s m9 args9 below9 meth9 c9 s9 B9 hml htab hv
  obtain ⟨rfl, h0, hP, hD⟩ := hv
  have hx := B9.exec
  have hb := B9.bytes
  have hr := B9.returns
  have hG := atoms_spec (ws := GW) B9.pre
  have hown : s.vm.findClass "LathePieces" = some m9.cls := findClass_of_methodNamed B9.named
  have hlocks := B9.notSynchronized
  have hK := cx_K hC h0
  have hS : va_S (aL s0) s.heap s.heap [] := va_S.rf
  have hA : ∀ q : Nat, s.heap.size ≤ q → aL s0 q := fun q h => Nat.le_trans h0.2.1 h
  have hl := lv_entry ([.ref cx, .int (iI (at9)), .int (iI (rd)), .int (iI (xc)), .int (iI (xh)), .int (iI (up))]) (n := 6) (Nat.le_of_ble_eq_true rfl)
  rw [lg_entry_eq]
  generalize (lg_sl ([.ref cx, .int (iI (at9)), .int (iI (rd)), .int (iI (xc)), .int (iI (xh)), .int (iI (up))]) ++ List.replicate (6 - (lg_sl ([.ref cx, .int (iI (at9)), .int (iI (rd)), .int (iI (xc)), .int (iI (xh)), .int (iI (up))])).length) Slot.unset).toArray = ls at hl ⊢
  replace hl : lv_has ls 6 [(0, .ref cx), (1, .int (iI (at9))), (2, .int (iI (rd))), (3, .int (iI (xc))), (4, .int (iI (xh))), (5, .int (iI (up)))] := hl
  refine lv_iload_n hx hb d_C_arc_0 rfl (lv_at hl 1 rfl) ?_
  refine lv_iload_n hx hb d_C_arc_1 rfl (lv_at hl 2 rfl) ?_
  refine th_call h0 hS htab hlocks (Nat.le_of_ble_eq_true rfl) (Nat.le_of_ble_eq_true rfl) (ex_runS (As := [.int (iI (at9)), .int (iI (rd))]) (rest := []) ⟨hx, hb, hml, hown, hG⟩ (c_C_checkWayEnd hC at9 rd hat hrd) (cb_code (n := 2) hG g_195 g_1 g_193 rfl rfl (by decide +kernel) ⟨Nat.le_of_ble_eq_true rfl, Nat.le_of_ble_eq_true rfl⟩) (hG _ g_194) ⟨fun _ _ _ _ q => q, fun U hU hW => ⟨rfl, la_next h0 (fun _ z => z) hS U hU hW, trivial⟩⟩ rfl rfl hl.1 rfl (lv_room (Nat.le_of_ble_eq_true rfl)) d_C_arc_2 ⟨Nat.le_of_ble_eq_true rfl, Nat.le_of_ble_eq_true rfl⟩) (fun E hE t hla hz ho => ⟨_, ⟨rfl, Or.inl ⟨hE.1, Or.inl (fun h => hE.2 h.1)⟩⟩, hla, wl_Pk hP ho, hD⟩) (fun v9 h9 locs hS => ?_)
  obtain ⟨rfl, q1⟩ := h9
  show W _ _ _ _ _ _ _ _ _ _ _ _ _ _ _ (F0 m9 5 ls [])
  refine lv_iload_n hx hb d_C_arc_5 rfl (lv_at hl 3 rfl) ?_
  refine ri_sipush hx hb d_C_arc_6 (by decide) ?_
  refine ri_sipush hx hb d_C_arc_9 (by decide) ?_
  refine th_call h0 hS htab hlocks (Nat.le_of_ble_eq_true rfl) (Nat.le_of_ble_eq_true rfl) (ex_runS (As := [.int (iI (xc)), .int (iI (-200)), .int (iI (300))]) (rest := []) ⟨hx, hb, hml, hown, hG⟩ (c_C_checkNumber hC (xc) (-200) (300) (by omega) (by omega) (by omega)) (cb_code (n := 3) hG g_112 g_1 g_110 rfl rfl (by decide +kernel) ⟨Nat.le_of_ble_eq_true rfl, Nat.le_of_ble_eq_true rfl⟩) (hG _ g_111) ⟨fun _ _ _ _ q => q, fun U hU hW => ⟨rfl, la_next h0 (fun _ z => z) hS U hU hW, trivial⟩⟩ rfl rfl hl.1 rfl (lv_room (Nat.le_of_ble_eq_true rfl)) d_C_arc_12 ⟨Nat.le_of_ble_eq_true rfl, Nat.le_of_ble_eq_true rfl⟩) (fun E hE t hla hz ho => ⟨_, ⟨rfl, Or.inl ⟨hE.1, Or.inl (fun h => hE.2 h.2.1)⟩⟩, hla, wl_Pk hP ho, hD⟩) (fun v9 h9 locs hS => ?_)
  obtain ⟨rfl, u1, u2⟩ := h9
  show W _ _ _ _ _ _ _ _ _ _ _ _ _ _ _ (F0 m9 15 ls [])
  refine lv_iload hx hb d_C_arc_15 (lv_at hl 4 rfl) ?_
  refine ri_sipush hx hb d_C_arc_17 (by decide) ?_
  refine ri_sipush hx hb d_C_arc_20 (by decide) ?_
  refine th_call h0 hS htab hlocks (Nat.le_of_ble_eq_true rfl) (Nat.le_of_ble_eq_true rfl) (ex_runS (As := [.int (iI (xh)), .int (iI (-1000)), .int (iI (1500))]) (rest := []) ⟨hx, hb, hml, hown, hG⟩ (c_C_checkNumber hC (xh) (-1000) (1500) (by omega) (by omega) (by omega)) (cb_code (n := 3) hG g_112 g_1 g_110 rfl rfl (by decide +kernel) ⟨Nat.le_of_ble_eq_true rfl, Nat.le_of_ble_eq_true rfl⟩) (hG _ g_111) ⟨fun _ _ _ _ q => q, fun U hU hW => ⟨rfl, la_next h0 (fun _ z => z) hS U hU hW, trivial⟩⟩ rfl rfl hl.1 rfl (lv_room (Nat.le_of_ble_eq_true rfl)) d_C_arc_23 ⟨Nat.le_of_ble_eq_true rfl, Nat.le_of_ble_eq_true rfl⟩) (fun E hE t hla hz ho => ⟨_, ⟨rfl, Or.inl ⟨hE.1, Or.inl (fun h => hE.2 h.2.2)⟩⟩, hla, wl_Pk hP ho, hD⟩) (fun v9 h9 locs hS => ?_)
  obtain ⟨rfl, z1, z2⟩ := h9
  show W _ _ _ _ _ _ _ _ _ _ _ _ _ _ _ (F0 m9 26 ls [])
  refine lv_aload_n hx hb d_C_arc_26 rfl (lv_at hl 0 rfl) ?_
  refine lv_iload_n hx hb d_C_arc_27 rfl (lv_at hl 1 rfl) ?_
  refine th_call h0 hS htab hlocks (Nat.le_of_ble_eq_true rfl) (Nat.le_of_ble_eq_true rfl) (ex_runV (C := "LathePieces") (As := [.int (iI (at9))]) (rest := []) ⟨hx, hb, hml, hown, hG⟩ (c_C_checkBehindLast hC cx cf cp cn ce cg cu ct np nt ng nr ia ib cr bg la lr wy at9 hbg hla hat) (cb_code (n := 1) hG g_199 g_1 g_196 rfl rfl (by decide +kernel) ⟨Nat.le_of_ble_eq_true rfl, Nat.le_of_ble_eq_true rfl⟩) (hG _ g_198) (hG _ gs_C_checkBehindLast) (kd_V ⟨fun _ _ _ _ q => q, fun U hU hW => ⟨rfl, la_next h0 (fun _ z => z) hS U hU hW, (by show va_P D classes _ U.heap; rw [hU]; exact (va_P.sub hP [0, 2] rfl))⟩⟩ (kd_recv hK hP (q0 := 2) (ci := 5) rfl rfl rfl)) rfl rfl hl.1 rfl (lv_room (Nat.le_of_ble_eq_true rfl)) d_C_arc_28 ⟨Nat.le_of_ble_eq_true rfl, Nat.le_of_ble_eq_true rfl⟩) (fun E hE t hla hz ho => ⟨_, ⟨rfl, hE.elim (fun h => Or.inr ⟨h.1, ⟨q1, ⟨u1, u2⟩, z1, z2⟩, h.2⟩) (fun h => Or.inl ⟨h.1, Or.inr ⟨h.2.1, h.2.2⟩⟩)⟩, hla, wl_Pk hP ho, hD⟩) (fun v9 h9 locs hS => ?_)
  obtain ⟨rfl, q2, q3⟩ := h9
  show W _ _ _ _ _ _ _ _ _ _ _ _ _ _ _ (F0 m9 31 ls [])
  refine lv_aload_n hx hb d_C_arc_31 rfl (lv_at hl 0 rfl) ?_
  refine va_get (D := D) (ci := 5) (v := .ref cf) (C := R_C) (T := F_C) (N := 13) hx hb hG in_C hown hK hP 2 rfl rfl 0 (by decide) (hG _ g_62) (fun _ h9 => h9) rfl d_C_arc_32 ?_
  refine lv_iload_n hx hb d_C_arc_35 rfl (lv_at hl 1 rfl) ?_
  refine lv_iload_n hx hb d_C_arc_36 rfl (lv_at hl 2 rfl) ?_
  refine lv_iload_n hx hb d_C_arc_37 rfl (lv_at hl 3 rfl) ?_
  refine lv_iload hx hb d_C_arc_38 (lv_at hl 4 rfl) ?_
  refine lv_iload hx hb d_C_arc_40 (lv_at hl 5 rfl) ?_
  have hkeep := hP
  refine rd_call (ex_runV (C := "LathePieces$Profile") (As := [.int (iI (at9)), .int (iI (rd)), .int (iI (xc)), .int (iI (xh)), .int (iI (up))]) (rest := []) ⟨hx, hb, hml, hown, hG⟩ (c_F_arcFits hC cf cr bg la lr wy at9 rd xc xh up (by omega) hlr (by omega) ⟨u1, u2⟩ ⟨z1, z2⟩ hup) (cb_code (n := 5) hG g_238 g_2 g_235 rfl rfl (by decide +kernel) ⟨Nat.le_of_ble_eq_true rfl, Nat.le_of_ble_eq_true rfl⟩) (hG _ g_236) (hG _ g_237) (kd_V ⟨fun _ _ _ _ q => q, fun U hU hW => ⟨rfl, la_next h0 (fun _ z => z) hS U hU hW, (by show va_P D classes _ U.heap; rw [hU]; exact (va_P.sub hP [0] rfl))⟩⟩ (kd_recv hK hP (q0 := 0) (ci := 2) rfl rfl rfl)) rfl rfl hl.1 rfl (lv_room (Nat.le_of_ble_eq_true rfl)) d_C_arc_42 ⟨Nat.le_of_ble_eq_true rfl, Nat.le_of_ble_eq_true rfl⟩) (fun v9 h9 => ?_)
  rcases h9 with ⟨rfl, hok⟩ | ⟨rfl, hok⟩
  · show W _ _ _ _ _ _ _ _ _ _ _ _ _ _ _ (F0 m9 45 ls [.int (iI (1))])
    refine ri_if_ne (tgt := 50) hx hb d_C_arc_45 (by decide) (by omega) (fun c45 => ?_) (fun c45 => ?_)
    · refine lv_aload_n hx hb d_C_arc_50 rfl (lv_at hl 0 rfl) ?_
      refine va_get (D := D) (ci := 5) (v := .ref cf) (C := R_C) (T := F_C) (N := 13) hx hb hG in_C hown hK hP 2 rfl rfl 0 (by decide) (hG _ g_62) (fun _ h9 => h9) rfl d_C_arc_51 ?_
      refine lv_iload_n hx hb d_C_arc_54 rfl (lv_at hl 1 rfl) ?_
      refine lv_iload_n hx hb d_C_arc_55 rfl (lv_at hl 2 rfl) ?_
      refine lv_iload_n hx hb d_C_arc_56 rfl (lv_at hl 3 rfl) ?_
      refine lv_iload hx hb d_C_arc_57 (lv_at hl 4 rfl) ?_
      refine lv_iload hx hb d_C_arc_59 (lv_at hl 5 rfl) ?_
      refine wd_call h0 hS htab hlocks (Nat.le_of_ble_eq_true rfl) (Nat.le_of_ble_eq_true rfl) (ex_runV (C := "LathePieces$Profile") (As := [.int (iI (at9)), .int (iI (rd)), .int (iI (xc)), .int (iI (xh)), .int (iI (up))]) (rest := []) ⟨hx, hb, hml, hown, hG⟩ (c_F_addArc hC cf cr bg la lr wy pr ((cx, .inr (5, [.ref cf, .ref cp, .int (iI (np)), .ref cn, .int (iI (nt)), .ref ce, .ref cg, .int (iI (ng)), .ref cu, .ref ct, .int (iI (nr)), .int (iI (ia)), .int (iI (ib))])) :: (cp, .inl (k 2, aq 6 gp)) :: (cn, .inl (k 3, aq 6 gn)) :: (ce, .inl (k 4, aq 36 rq)) :: (cg, .inl (k 5, aq 6 gg)) :: (cu, .inl (k 0, ai 8 ru)) :: (ct, .inl (k 0, ai 8 rt)) :: tl) at9 rd xc xh up (by omega) hlr (by omega) ⟨u1, u2⟩ ⟨z1, z2⟩ hup hok) (cb_code (n := 5) hG g_245 g_2 g_242 rfl rfl (by decide +kernel) ⟨Nat.le_of_ble_eq_true rfl, Nat.le_of_ble_eq_true rfl⟩) (hG _ g_243) (hG _ g_244) (kd_V (kd_preW h0 hS hP hD) (kd_recv hK hP (q0 := 0) (ci := 2) rfl rfl rfl)) rfl rfl hl.1 rfl (lv_room (Nat.le_of_ble_eq_true rfl)) d_C_arc_61 ⟨Nat.le_of_ble_eq_true rfl, Nat.le_of_ble_eq_true rfl⟩) (fun E ws9 hE t hwd => hE.elim) (fun v9 ws9 h9 H locs hP hD hS => ?_)
      obtain ⟨rfl, rfl⟩ := h9
      show W _ _ _ _ _ _ _ _ _ _ _ _ _ _ _ (F0 m9 64 ls [])
      refine ri_iconst hx hb d_C_arc_64 ?_
      exact re_z hx hb hr hlocks (Or.inr rfl) (fun t ht hW => ⟨_, ⟨⟨q1, ⟨u1, u2⟩, z1, z2⟩, q2, q3, Or.inl ⟨rfl, hok, rfl⟩⟩, wd_next h0 hS hP hD t ht hW⟩) hS.2.2 (Nat.le_of_ble_eq_true rfl) (Nat.le_of_ble_eq_true rfl) d_C_arc_65
    · exact absurd c45 (by decide)
  · show W _ _ _ _ _ _ _ _ _ _ _ _ _ _ _ (F0 m9 45 ls [.int (iI (0))])
    refine ri_if_ne (tgt := 50) hx hb d_C_arc_45 (by decide) (by omega) (fun c45 => ?_) (fun c45 => ?_)
    · exact absurd c45 (by decide)
    · refine ri_iconst hx hb d_C_arc_48 ?_
      exact re_z hx hb hr hlocks (Or.inl rfl) (fun t ht hW => ⟨_, ⟨⟨q1, ⟨u1, u2⟩, z1, z2⟩, q2, q3, Or.inr ⟨rfl, hok, rfl⟩⟩, wd_next h0 hS hP hD t ht hW⟩) hS.2.2 (Nat.le_of_ble_eq_true rfl) (Nat.le_of_ble_eq_true rfl) d_C_arc_49

set_option maxHeartbeats 4000000 in
set_option maxRecDepth 100000 in
theorem c_C_turn {l : Launch} {s0 : State} {D : va_G} {k : Nat → ClassId} (hC : Cx l s0 D k) (cx cf cp cn ce cg cu ct cr : Nat) (np nt ng nr ia ib bg lr wy : Int) (pr ru rt : Int → Int) (gp gn rq gg : Int → Option Nat) (tl : va_W) (L : Nat) (hL : L ≤ 64) (hrr : ∀ j : Int, 0 ≤ j → j ≤ L → 0 ≤ pr j ∧ pr j ≤ 500) (hnp : 0 ≤ np ∧ np ≤ 6) (hwy : 0 ≤ wy ∧ wy ≤ 64) : WdM l s0 D y_C_turn { frames := 6, cells := 2, slots := 69, locals := 135 } [.ref cx] ((cf, .inr (2, [.ref cr, .int (iI (bg)), .int (iI ((L : Int))), .int (iI (lr)), .int (iI (wy))])) :: (cr, .inl (k 0, ai 65 pr)) :: (cx, .inr (5, [.ref cf, .ref cp, .int (iI (np)), .ref cn, .int (iI (nt)), .ref ce, .ref cg, .int (iI (ng)), .ref cu, .ref ct, .int (iI (nr)), .int (iI (ia)), .int (iI (ib))])) :: (cp, .inl (k 2, aq 6 gp)) :: (cn, .inl (k 3, aq 6 gn)) :: (ce, .inl (k 4, aq 36 rq)) :: (cg, .inl (k 5, aq 6 gg)) :: (cu, .inl (k 0, ai 8 ru)) :: (ct, .inl (k 0, ai 8 rt)) :: tl) (fun v ws' => np < 6 ∧ ¬ wy = 0 ∧ ∃ (q6 q5 : Nat) (r' : Int → Int), v = some (.int (iI (np))) ∧ (∀ j : Int, 0 ≤ j → j < ((L + 1 : Nat) : Int) → r' j = pr j) ∧ ws' = ((q6, .inl (k 0, ai (L + 1) r')) :: (q5, .inr (1, [.ref q6, .int (iI ((L : Int))), .int (iI (itF max r' 0 0 (L + 1) + 3)), .int (iI (wy))])) :: (cf, .inr (2, [.ref cr, .int (iI (bg)), .int (iI ((L : Int))), .int (iI (lr)), .int (iI (wy))])) :: (cr, .inl (k 0, ai 65 pr)) :: (cx, .inr (5, [.ref cf, .ref cp, .int (iI (np + 1)), .ref cn, .int (iI (nt)), .ref ce, .ref cg, .int (iI (ng)), .ref cu, .ref ct, .int (iI (nr)), .int (iI (ia)), .int (iI (ib))])) :: (cp, .inl (k 2, aq 6 (zU gp (np) (some q5)))) :: (cn, .inl (k 3, aq 6 gn)) :: (ce, .inl (k 4, aq 36 rq)) :: (cg, .inl (k 5, aq 6 gg)) :: (cu, .inl (k 0, ai 8 ru)) :: (ct, .inl (k 0, ai 8 rt)) :: tl)) (fun E ws' => ws' = ((cf, .inr (2, [.ref cr, .int (iI (bg)), .int (iI ((L : Int))), .int (iI (lr)), .int (iI (wy))])) :: (cr, .inl (k 0, ai 65 pr)) :: (cx, .inr (5, [.ref cf, .ref cp, .int (iI (np)), .ref cn, .int (iI (nt)), .ref ce, .ref cg, .int (iI (ng)), .ref cu, .ref ct, .int (iI (nr)), .int (iI (ia)), .int (iI (ib))])) :: (cp, .inl (k 2, aq 6 gp)) :: (cn, .inl (k 3, aq 6 gn)) :: (ce, .inl (k 4, aq 36 rq)) :: (cg, .inl (k 5, aq 6 gg)) :: (cu, .inl (k 0, ai 8 ru)) :: (ct, .inl (k 0, ai 8 rt)) :: tl) ∧ E = xIS ∧ ¬ (np < 6 ∧ ¬ wy = 0)) 2 69 := by
  refine ex_ofW (cc := b_C_turn) (maxL := 1) (ret := (some .int)) (hh := []) (by decide +kernel) (Or.inl ⟨g_261, rfl⟩) ?_
  intro p9 e9 s m9 args9 below9 meth9 c9 s9 B9 hml htab hv
  obtain ⟨rfl, h0, hP, hD⟩ := hv
  have hx := B9.exec
  have hb := B9.bytes
  have hr := B9.returns
  have hG := atoms_spec (ws := GW) B9.pre
  have hown : s.vm.findClass "LathePieces" = some m9.cls := findClass_of_methodNamed B9.named
  have hlocks := B9.notSynchronized
  have hK := cx_K hC h0
  have hS : va_S (aL s0) s.heap s.heap [] := va_S.rf
  have hA : ∀ q : Nat, s.heap.size ≤ q → aL s0 q := fun q h => Nat.le_trans h0.2.1 h
  have hl := lv_entry ([.ref cx]) (n := 1) (Nat.le_of_ble_eq_true rfl)
  rw [lg_entry_eq]
  generalize (lg_sl ([.ref cx]) ++ List.replicate (1 - (lg_sl ([.ref cx])).length) Slot.unset).toArray = ls at hl ⊢
  replace hl : lv_has ls 1 [(0, .ref cx)] := hl
  refine lv_aload_n hx hb d_C_turn_0 rfl (lv_at hl 0 rfl) ?_
  refine va_get (D := D) (ci := 5) (v := .int (iI (np))) (C := R_C) (T := F_C) (N := 13) hx hb hG in_C hown hK hP 2 rfl rfl 2 (by decide) (hG _ g_64) (fun _ h9 => h9) rfl d_C_turn_1 ?_
  refine ri_bipush hx hb d_C_turn_4 (by decide) ?_
  refine ri_icmp_ge (tgt := 19) hx hb d_C_turn_6 (by decide) (by omega) (by omega) (fun c6 => ?_) (fun c6 => ?_)
  · exact tk_throw (kl := 2) hC h0 hx hb hown xA_IS (by decide +kernel) g_202 g_200 g_8 g_262 hS (hl.1.trans hml.symm) d_C_turn_19 d_C_turn_22 (Or.inl ⟨rfl, d_C_turn_23⟩) d_C_turn_25 d_C_turn_28 htab hlocks (Nat.le_of_ble_eq_true rfl) (Nat.le_of_ble_eq_true rfl) (Nat.le_of_ble_eq_true rfl) (Nat.le_of_ble_eq_true rfl) (fun t hla hz ho => ⟨_, ⟨rfl, rfl, by omega⟩, hla, wl_Pk hP ho, hD⟩) (Nat.le_of_ble_eq_true rfl) (Nat.le_of_ble_eq_true rfl)
  · refine lv_aload_n hx hb d_C_turn_9 rfl (lv_at hl 0 rfl) ?_
    refine va_get (D := D) (ci := 5) (v := .ref cf) (C := R_C) (T := F_C) (N := 13) hx hb hG in_C hown hK hP 2 rfl rfl 0 (by decide) (hG _ g_62) (fun _ h9 => h9) rfl d_C_turn_10 ?_
    refine va_get (D := D) (ci := 2) (v := .int (iI (wy))) (C := R_F) (T := F_F) (N := 5) hx hb hG in_F hown hK hP 0 rfl rfl 4 (by decide) (hG _ g_41) (fun _ h9 => h9) rfl d_C_turn_13 ?_
    refine ri_if_ne (tgt := 29) hx hb d_C_turn_16 (by decide) (by omega) (fun c16 => ?_) (fun c16 => ?_)
    · refine lv_aload_n hx hb d_C_turn_29 rfl (lv_at hl 0 rfl) ?_
      refine va_get (D := D) (ci := 5) (v := .ref cp) (C := R_C) (T := F_C) (N := 13) hx hb hG in_C hown hK hP 2 rfl rfl 1 (by decide) (hG _ g_63) (fun _ h9 => h9) rfl d_C_turn_30 ?_
      refine lv_aload_n hx hb d_C_turn_33 rfl (lv_at hl 0 rfl) ?_
      refine va_get (D := D) (ci := 5) (v := .int (iI (np))) (C := R_C) (T := F_C) (N := 13) hx hb hG in_C hown hK hP 2 rfl rfl 2 (by decide) (hG _ g_64) (fun _ h9 => h9) rfl d_C_turn_34 ?_
      refine ra_new (ci := 1) (fs := [.null, .int (iI (0)), .int (iI (0)), .int (iI (0))]) (C := R_P) (T := F_P) (N := 4) hx hb hG in_P t_P t_P_ok hown g_54 g_263 g_10 hK hP hD hS hA rfl (fun j hj => by rcases (show j = 0 ∨ j = 1 ∨ j = 2 ∨ j = 3 by omega) with rfl | rfl | rfl | rfl <;> rfl) (Nat.le_of_ble_eq_true rfl) (Nat.le_of_ble_eq_true rfl) d_C_turn_37 (fun q5 H hP hD hS => ?_)
      refine lv_dup hx hb d_C_turn_40 rfl ?_
      refine lv_aload_n hx hb d_C_turn_41 rfl (lv_at hl 0 rfl) ?_
      refine va_get (D := D) (ci := 5) (v := .ref cf) (C := R_C) (T := F_C) (N := 13) hx hb hG in_C hown hK hP 3 rfl rfl 0 (by decide) (hG _ g_62) (fun _ h9 => h9) rfl d_C_turn_42 ?_
      refine wd_call (pxW := fun _ _ => False) h0 hS htab hlocks (Nat.le_of_ble_eq_true rfl) (Nat.le_of_ble_eq_true rfl) (ex_runI (As := [.ref cf]) (rest := [.ref q5, .int (iI (np)), .ref cp]) (b := q5) ⟨hx, hb, hml, hown, hG⟩ (c_P_init hC q5 cf cr L bg lr wy pr ((cx, .inr (5, [.ref cf, .ref cp, .int (iI (np)), .ref cn, .int (iI (nt)), .ref ce, .ref cg, .int (iI (ng)), .ref cu, .ref ct, .int (iI (nr)), .int (iI (ia)), .int (iI (ib))])) :: (cp, .inl (k 2, aq 6 gp)) :: (cn, .inl (k 3, aq 6 gn)) :: (ce, .inl (k 4, aq 36 rq)) :: (cg, .inl (k 5, aq 6 gg)) :: (cu, .inl (k 0, ai 8 ru)) :: (ct, .inl (k 0, ai 8 rt)) :: tl) hL hrr) (cb_code (n := 1) hG g_266 g_10 g_264 rfl rfl (by decide +kernel) ⟨Nat.le_of_ble_eq_true rfl, Nat.le_of_ble_eq_true rfl⟩) (hG _ g_265) rfl (hG _ g_266) (kd_preW h0 hS hP hD) rfl rfl hl.1 rfl (lv_room (Nat.le_of_ble_eq_true rfl)) d_C_turn_45 ⟨Nat.le_of_ble_eq_true rfl, Nat.le_of_ble_eq_true rfl⟩) (fun E ws9 hE t hwd => hE.elim) (fun v9 ws9 h9 H locs hP hD hS => ?_)
      obtain ⟨q6, r', rfl, hcp, rfl⟩ := h9
      show W _ _ _ _ _ _ _ _ _ _ _ _ _ _ _ (F0 m9 48 ls [.ref q5, .int (iI (np)), .ref cp])
      refine ra_ast hx hb hK hP hD hS 5 2 1 1 rfl rfl rfl rfl (by omega) (by decide) d_C_turn_48 (fun H locs hP hD hS => ?_)
      have hP : va_P D classes ((q6, .inl (k 0, ai (L + 1) r')) :: (q5, .inr (1, [.ref q6, .int (iI ((L : Int))), .int (iI (itF max r' 0 0 (L + 1) + 3)), .int (iI (wy))])) :: (cf, .inr (2, [.ref cr, .int (iI (bg)), .int (iI ((L : Int))), .int (iI (lr)), .int (iI (wy))])) :: (cr, .inl (k 0, ai 65 pr)) :: (cx, .inr (5, [.ref cf, .ref cp, .int (iI (np)), .ref cn, .int (iI (nt)), .ref ce, .ref cg, .int (iI (ng)), .ref cu, .ref ct, .int (iI (nr)), .int (iI (ia)), .int (iI (ib))])) :: (cp, .inl (k 2, aq 6 (zU gp (np) (some q5)))) :: (cn, .inl (k 3, aq 6 gn)) :: (ce, .inl (k 4, aq 36 rq)) :: (cg, .inl (k 5, aq 6 gg)) :: (cu, .inl (k 0, ai 8 ru)) :: (ct, .inl (k 0, ai 8 rt)) :: tl) H := hP
      have hD : va_D (fun q : Nat => s0.heap.size ≤ q) ((q6, .inl (k 0, ai (L + 1) r')) :: (q5, .inr (1, [.ref q6, .int (iI ((L : Int))), .int (iI (itF max r' 0 0 (L + 1) + 3)), .int (iI (wy))])) :: (cf, .inr (2, [.ref cr, .int (iI (bg)), .int (iI ((L : Int))), .int (iI (lr)), .int (iI (wy))])) :: (cr, .inl (k 0, ai 65 pr)) :: (cx, .inr (5, [.ref cf, .ref cp, .int (iI (np)), .ref cn, .int (iI (nt)), .ref ce, .ref cg, .int (iI (ng)), .ref cu, .ref ct, .int (iI (nr)), .int (iI (ia)), .int (iI (ib))])) :: (cp, .inl (k 2, aq 6 (zU gp (np) (some q5)))) :: (cn, .inl (k 3, aq 6 gn)) :: (ce, .inl (k 4, aq 36 rq)) :: (cg, .inl (k 5, aq 6 gg)) :: (cu, .inl (k 0, ai 8 ru)) :: (ct, .inl (k 0, ai 8 rt)) :: tl) := hD
      refine lv_aload_n hx hb d_C_turn_49 rfl (lv_at hl 0 rfl) ?_
      refine lv_dup hx hb d_C_turn_50 rfl ?_
      refine va_get (D := D) (ci := 5) (v := .int (iI (np))) (C := R_C) (T := F_C) (N := 13) hx hb hG in_C hown hK hP 4 rfl rfl 2 (by decide) (hG _ g_64) (fun _ h9 => h9) rfl d_C_turn_51 ?_
      refine ri_iconst hx hb d_C_turn_54 ?_
      refine ri_iadd hx hb d_C_turn_55 ?_
      refine va_put (D := D) (ci := 5) (v := .int (iI (np + 1))) (ty := .int) (C := R_C) (T := F_C) (N := 13) hx hb hG in_C t_C t_C_ok n_C hown hK hP hD hS 4 rfl rfl 2 (by decide) (hG _ g_64) (fun _ h9 => h9) rfl (by decide +kernel) rfl rfl (Nat.le_of_ble_eq_true rfl) d_C_turn_56 (fun H locs hP hD hS => ?_)
      have hP : va_P D classes ((q6, .inl (k 0, ai (L + 1) r')) :: (q5, .inr (1, [.ref q6, .int (iI ((L : Int))), .int (iI (itF max r' 0 0 (L + 1) + 3)), .int (iI (wy))])) :: (cf, .inr (2, [.ref cr, .int (iI (bg)), .int (iI ((L : Int))), .int (iI (lr)), .int (iI (wy))])) :: (cr, .inl (k 0, ai 65 pr)) :: (cx, .inr (5, [.ref cf, .ref cp, .int (iI (np + 1)), .ref cn, .int (iI (nt)), .ref ce, .ref cg, .int (iI (ng)), .ref cu, .ref ct, .int (iI (nr)), .int (iI (ia)), .int (iI (ib))])) :: (cp, .inl (k 2, aq 6 (zU gp (np) (some q5)))) :: (cn, .inl (k 3, aq 6 gn)) :: (ce, .inl (k 4, aq 36 rq)) :: (cg, .inl (k 5, aq 6 gg)) :: (cu, .inl (k 0, ai 8 ru)) :: (ct, .inl (k 0, ai 8 rt)) :: tl) H := hP
      have hD : va_D (fun q : Nat => s0.heap.size ≤ q) ((q6, .inl (k 0, ai (L + 1) r')) :: (q5, .inr (1, [.ref q6, .int (iI ((L : Int))), .int (iI (itF max r' 0 0 (L + 1) + 3)), .int (iI (wy))])) :: (cf, .inr (2, [.ref cr, .int (iI (bg)), .int (iI ((L : Int))), .int (iI (lr)), .int (iI (wy))])) :: (cr, .inl (k 0, ai 65 pr)) :: (cx, .inr (5, [.ref cf, .ref cp, .int (iI (np + 1)), .ref cn, .int (iI (nt)), .ref ce, .ref cg, .int (iI (ng)), .ref cu, .ref ct, .int (iI (nr)), .int (iI (ia)), .int (iI (ib))])) :: (cp, .inl (k 2, aq 6 (zU gp (np) (some q5)))) :: (cn, .inl (k 3, aq 6 gn)) :: (ce, .inl (k 4, aq 36 rq)) :: (cg, .inl (k 5, aq 6 gg)) :: (cu, .inl (k 0, ai 8 ru)) :: (ct, .inl (k 0, ai 8 rt)) :: tl) := hD
      refine lv_aload_n hx hb d_C_turn_59 rfl (lv_at hl 0 rfl) ?_
      refine va_get (D := D) (ci := 5) (v := .int (iI (np + 1))) (C := R_C) (T := F_C) (N := 13) hx hb hG in_C hown hK hP 4 rfl rfl 2 (by decide) (hG _ g_64) (fun _ h9 => h9) rfl d_C_turn_60 ?_
      refine ri_iconst hx hb d_C_turn_63 ?_
      refine ri_isub hx hb d_C_turn_64 ?_
      refine tp_i (congrArg iI (show (np + 1) - 1 = np from by omega)) ?_
      exact re_i hx hb hr hlocks (fun t ht hW => ⟨_, ⟨by omega, by omega, q6, q5, r', rfl, hcp, rfl⟩, wd_next h0 hS hP hD t ht hW⟩) hS.2.2 (Nat.le_of_ble_eq_true rfl) (Nat.le_of_ble_eq_true rfl) d_C_turn_65
    · exact tk_throw (kl := 2) hC h0 hx hb hown xA_IS (by decide +kernel) g_202 g_200 g_8 g_262 hS (hl.1.trans hml.symm) d_C_turn_19 d_C_turn_22 (Or.inl ⟨rfl, d_C_turn_23⟩) d_C_turn_25 d_C_turn_28 htab hlocks (Nat.le_of_ble_eq_true rfl) (Nat.le_of_ble_eq_true rfl) (Nat.le_of_ble_eq_true rfl) (Nat.le_of_ble_eq_true rfl) (fun t hla hz ho => ⟨_, ⟨rfl, rfl, by omega⟩, hla, wl_Pk hP ho, hD⟩) (Nat.le_of_ble_eq_true rfl) (Nat.le_of_ble_eq_true rfl)

set_option maxHeartbeats 4000000 in
set_option maxRecDepth 100000 in
theorem c_C_tool {l : Launch} {s0 : State} {D : va_G} {k : Nat → ClassId} (hC : Cx l s0 D k) (cx cf cp cn ce cg cu ct cr : Nat) (np nt ng nr ia ib bg la lr wy : Int) (pr ru rt : Int → Int) (gp gn rq gg : Int → Option Nat) (tl : va_W) (hnt : 0 ≤ nt ∧ nt ≤ 6) (n9 : Nat) (hn9 : n9 ≤ 12) : WdM l s0 D y_C_tool { frames := 7, cells := 3, slots := 20, locals := 112 } [.ref cx, .int (iI ((n9 : Int)))] ((cf, .inr (2, [.ref cr, .int (iI (bg)), .int (iI (la)), .int (iI (lr)), .int (iI (wy))])) :: (cr, .inl (k 0, ai 65 pr)) :: (cx, .inr (5, [.ref cf, .ref cp, .int (iI (np)), .ref cn, .int (iI (nt)), .ref ce, .ref cg, .int (iI (ng)), .ref cu, .ref ct, .int (iI (nr)), .int (iI (ia)), .int (iI (ib))])) :: (cp, .inl (k 2, aq 6 gp)) :: (cn, .inl (k 3, aq 6 gn)) :: (ce, .inl (k 4, aq 36 rq)) :: (cg, .inl (k 5, aq 6 gg)) :: (cu, .inl (k 0, ai 8 ru)) :: (ct, .inl (k 0, ai 8 rt)) :: tl) (fun v ws' => nt < 6 ∧ ∃ q6 q5 : Nat, v = some (.int (iI (nt))) ∧ ws' = ((q6, .inl (k 0, ai (n9 + 1) (htF n9))) :: (q5, .inr (0, [.ref q6])) :: (cf, .inr (2, [.ref cr, .int (iI (bg)), .int (iI (la)), .int (iI (lr)), .int (iI (wy))])) :: (cr, .inl (k 0, ai 65 pr)) :: (cx, .inr (5, [.ref cf, .ref cp, .int (iI (np)), .ref cn, .int (iI (nt + 1)), .ref ce, .ref cg, .int (iI (ng)), .ref cu, .ref ct, .int (iI (nr)), .int (iI (ia)), .int (iI (ib))])) :: (cp, .inl (k 2, aq 6 gp)) :: (cn, .inl (k 3, aq 6 (zU gn (nt) (some q5)))) :: (ce, .inl (k 4, aq 36 rq)) :: (cg, .inl (k 5, aq 6 gg)) :: (cu, .inl (k 0, ai 8 ru)) :: (ct, .inl (k 0, ai 8 rt)) :: tl)) (fun E ws' => ws' = ((cf, .inr (2, [.ref cr, .int (iI (bg)), .int (iI (la)), .int (iI (lr)), .int (iI (wy))])) :: (cr, .inl (k 0, ai 65 pr)) :: (cx, .inr (5, [.ref cf, .ref cp, .int (iI (np)), .ref cn, .int (iI (nt)), .ref ce, .ref cg, .int (iI (ng)), .ref cu, .ref ct, .int (iI (nr)), .int (iI (ia)), .int (iI (ib))])) :: (cp, .inl (k 2, aq 6 gp)) :: (cn, .inl (k 3, aq 6 gn)) :: (ce, .inl (k 4, aq 36 rq)) :: (cg, .inl (k 5, aq 6 gg)) :: (cu, .inl (k 0, ai 8 ru)) :: (ct, .inl (k 0, ai 8 rt)) :: tl) ∧ E = xIS ∧ ¬ nt < 6) 3 20 := by
  refine ex_ofW (cc := b_C_tool) (maxL := 2) (ret := (some .int)) (hh := []) (by decide +kernel) (Or.inl ⟨g_347, rfl⟩) ?_
  intro p9 e9 s m9 args9 below9 meth9 c9 s9 B9 hml htab hv
  obtain ⟨rfl, h0, hP, hD⟩ := hv
  have hx := B9.exec
  have hb := B9.bytes
  have hr := B9.returns
  have hG := atoms_spec (ws := GW) B9.pre
  have hown : s.vm.findClass "LathePieces" = some m9.cls := findClass_of_methodNamed B9.named
  have hlocks := B9.notSynchronized
  have hK := cx_K hC h0
  have hS : va_S (aL s0) s.heap s.heap [] := va_S.rf
  have hA : ∀ q : Nat, s.heap.size ≤ q → aL s0 q := fun q h => Nat.le_trans h0.2.1 h
  have hl := lv_entry ([.ref cx, .int (iI ((n9 : Int)))]) (n := 2) (Nat.le_of_ble_eq_true rfl)
  rw [lg_entry_eq]
  generalize (lg_sl ([.ref cx, .int (iI ((n9 : Int)))]) ++ List.replicate (2 - (lg_sl ([.ref cx, .int (iI ((n9 : Int)))])).length) Slot.unset).toArray = ls at hl ⊢
  replace hl : lv_has ls 2 [(0, .ref cx), (1, .int (iI ((n9 : Int))))] := hl
  refine lv_iload_n hx hb d_C_tool_0 rfl (lv_at hl 1 rfl) ?_
  refine ri_iconst hx hb d_C_tool_1 ?_
  refine ri_bipush hx hb d_C_tool_2 (by decide) ?_
  refine th_call h0 hS htab hlocks (Nat.le_of_ble_eq_true rfl) (Nat.le_of_ble_eq_true rfl) (ex_runS (As := [.int (iI ((n9 : Int))), .int (iI (0)), .int (iI (12))]) (rest := []) ⟨hx, hb, hml, hown, hG⟩ (c_C_checkNumber hC ((n9 : Int)) (0) (12) (by omega) (by omega) (by omega)) (cb_code (n := 3) hG g_112 g_1 g_110 rfl rfl (by decide +kernel) ⟨Nat.le_of_ble_eq_true rfl, Nat.le_of_ble_eq_true rfl⟩) (hG _ g_111) ⟨fun _ _ _ _ q => q, fun U hU hW => ⟨rfl, la_next h0 (fun _ z => z) hS U hU hW, trivial⟩⟩ rfl rfl hl.1 rfl (lv_room (Nat.le_of_ble_eq_true rfl)) d_C_tool_4 ⟨Nat.le_of_ble_eq_true rfl, Nat.le_of_ble_eq_true rfl⟩) (fun E hE t hla hz ho => False.elim (hE.2 ⟨by omega, by omega⟩)) (fun v9 h9 locs hS => ?_)
  obtain ⟨rfl, q1, q2⟩ := h9
  show W _ _ _ _ _ _ _ _ _ _ _ _ _ _ _ (F0 m9 7 ls [])
  refine lv_aload_n hx hb d_C_tool_7 rfl (lv_at hl 0 rfl) ?_
  refine va_get (D := D) (ci := 5) (v := .int (iI (nt))) (C := R_C) (T := F_C) (N := 13) hx hb hG in_C hown hK hP 2 rfl rfl 4 (by decide) (hG _ g_66) (fun _ h9 => h9) rfl d_C_tool_8 ?_
  refine ri_bipush hx hb d_C_tool_11 (by decide) ?_
  refine ri_icmp_lt (tgt := 26) hx hb d_C_tool_13 (by decide) (by omega) (by omega) (fun c13 => ?_) (fun c13 => ?_)
  · refine lv_aload_n hx hb d_C_tool_26 rfl (lv_at hl 0 rfl) ?_
    refine va_get (D := D) (ci := 5) (v := .ref cn) (C := R_C) (T := F_C) (N := 13) hx hb hG in_C hown hK hP 2 rfl rfl 3 (by decide) (hG _ g_65) (fun _ h9 => h9) rfl d_C_tool_27 ?_
    refine lv_aload_n hx hb d_C_tool_30 rfl (lv_at hl 0 rfl) ?_
    refine va_get (D := D) (ci := 5) (v := .int (iI (nt))) (C := R_C) (T := F_C) (N := 13) hx hb hG in_C hown hK hP 2 rfl rfl 4 (by decide) (hG _ g_66) (fun _ h9 => h9) rfl d_C_tool_31 ?_
    refine ra_new (ci := 0) (fs := [.null]) (C := R_N) (T := F_N) (N := 1) hx hb hG in_N t_N t_N_ok hown g_56 g_349 g_14 hK hP hD hS hA rfl (fun j hj => by rcases (show j = 0 by omega) with rfl <;> rfl) (Nat.le_of_ble_eq_true rfl) (Nat.le_of_ble_eq_true rfl) d_C_tool_34 (fun q5 H hP hD hS => ?_)
    refine lv_dup hx hb d_C_tool_37 rfl ?_
    refine lv_iload_n hx hb d_C_tool_38 rfl (lv_at hl 1 rfl) ?_
    refine wd_call (pxW := fun _ _ => False) h0 hS htab hlocks (Nat.le_of_ble_eq_true rfl) (Nat.le_of_ble_eq_true rfl) (ex_runI (As := [.int (iI ((n9 : Int)))]) (rest := [.ref q5, .int (iI (nt)), .ref cn]) (b := q5) ⟨hx, hb, hml, hown, hG⟩ (c_N_init hC q5 n9 ((cf, .inr (2, [.ref cr, .int (iI (bg)), .int (iI (la)), .int (iI (lr)), .int (iI (wy))])) :: (cr, .inl (k 0, ai 65 pr)) :: (cx, .inr (5, [.ref cf, .ref cp, .int (iI (np)), .ref cn, .int (iI (nt)), .ref ce, .ref cg, .int (iI (ng)), .ref cu, .ref ct, .int (iI (nr)), .int (iI (ia)), .int (iI (ib))])) :: (cp, .inl (k 2, aq 6 gp)) :: (cn, .inl (k 3, aq 6 gn)) :: (ce, .inl (k 4, aq 36 rq)) :: (cg, .inl (k 5, aq 6 gg)) :: (cu, .inl (k 0, ai 8 ru)) :: (ct, .inl (k 0, ai 8 rt)) :: tl) hn9) (cb_code (n := 1) hG g_352 g_14 g_350 rfl rfl (by decide +kernel) ⟨Nat.le_of_ble_eq_true rfl, Nat.le_of_ble_eq_true rfl⟩) (hG _ g_351) rfl (hG _ g_352) (kd_preW h0 hS hP hD) rfl rfl hl.1 rfl (lv_room (Nat.le_of_ble_eq_true rfl)) d_C_tool_39 ⟨Nat.le_of_ble_eq_true rfl, Nat.le_of_ble_eq_true rfl⟩) (fun E ws9 hE t hwd => hE.elim) (fun v9 ws9 h9 H locs hP hD hS => ?_)
    obtain ⟨q6, rfl, rfl⟩ := h9
    show W _ _ _ _ _ _ _ _ _ _ _ _ _ _ _ (F0 m9 42 ls [.ref q5, .int (iI (nt)), .ref cn])
    refine ra_ast hx hb hK hP hD hS 6 3 1 0 rfl rfl rfl rfl (by omega) (by decide) d_C_tool_42 (fun H locs hP hD hS => ?_)
    have hP : va_P D classes ((q6, .inl (k 0, ai (n9 + 1) (seqF (fun _ => 0) (fun d => isq ((n9 : Int) * n9 - d * d)) 0 (n9 + 1)))) :: (q5, .inr (0, [.ref q6])) :: (cf, .inr (2, [.ref cr, .int (iI (bg)), .int (iI (la)), .int (iI (lr)), .int (iI (wy))])) :: (cr, .inl (k 0, ai 65 pr)) :: (cx, .inr (5, [.ref cf, .ref cp, .int (iI (np)), .ref cn, .int (iI (nt)), .ref ce, .ref cg, .int (iI (ng)), .ref cu, .ref ct, .int (iI (nr)), .int (iI (ia)), .int (iI (ib))])) :: (cp, .inl (k 2, aq 6 gp)) :: (cn, .inl (k 3, aq 6 (zU gn (nt) (some q5)))) :: (ce, .inl (k 4, aq 36 rq)) :: (cg, .inl (k 5, aq 6 gg)) :: (cu, .inl (k 0, ai 8 ru)) :: (ct, .inl (k 0, ai 8 rt)) :: tl) H := hP
    have hD : va_D (fun q : Nat => s0.heap.size ≤ q) ((q6, .inl (k 0, ai (n9 + 1) (seqF (fun _ => 0) (fun d => isq ((n9 : Int) * n9 - d * d)) 0 (n9 + 1)))) :: (q5, .inr (0, [.ref q6])) :: (cf, .inr (2, [.ref cr, .int (iI (bg)), .int (iI (la)), .int (iI (lr)), .int (iI (wy))])) :: (cr, .inl (k 0, ai 65 pr)) :: (cx, .inr (5, [.ref cf, .ref cp, .int (iI (np)), .ref cn, .int (iI (nt)), .ref ce, .ref cg, .int (iI (ng)), .ref cu, .ref ct, .int (iI (nr)), .int (iI (ia)), .int (iI (ib))])) :: (cp, .inl (k 2, aq 6 gp)) :: (cn, .inl (k 3, aq 6 (zU gn (nt) (some q5)))) :: (ce, .inl (k 4, aq 36 rq)) :: (cg, .inl (k 5, aq 6 gg)) :: (cu, .inl (k 0, ai 8 ru)) :: (ct, .inl (k 0, ai 8 rt)) :: tl) := hD
    refine lv_aload_n hx hb d_C_tool_43 rfl (lv_at hl 0 rfl) ?_
    refine lv_dup hx hb d_C_tool_44 rfl ?_
    refine va_get (D := D) (ci := 5) (v := .int (iI (nt))) (C := R_C) (T := F_C) (N := 13) hx hb hG in_C hown hK hP 4 rfl rfl 4 (by decide) (hG _ g_66) (fun _ h9 => h9) rfl d_C_tool_45 ?_
    refine ri_iconst hx hb d_C_tool_48 ?_
    refine ri_iadd hx hb d_C_tool_49 ?_
    refine va_put (D := D) (ci := 5) (v := .int (iI (nt + 1))) (ty := .int) (C := R_C) (T := F_C) (N := 13) hx hb hG in_C t_C t_C_ok n_C hown hK hP hD hS 4 rfl rfl 4 (by decide) (hG _ g_66) (fun _ h9 => h9) rfl (by decide +kernel) rfl rfl (Nat.le_of_ble_eq_true rfl) d_C_tool_50 (fun H locs hP hD hS => ?_)
    have hP : va_P D classes ((q6, .inl (k 0, ai (n9 + 1) (seqF (fun _ => 0) (fun d => isq ((n9 : Int) * n9 - d * d)) 0 (n9 + 1)))) :: (q5, .inr (0, [.ref q6])) :: (cf, .inr (2, [.ref cr, .int (iI (bg)), .int (iI (la)), .int (iI (lr)), .int (iI (wy))])) :: (cr, .inl (k 0, ai 65 pr)) :: (cx, .inr (5, [.ref cf, .ref cp, .int (iI (np)), .ref cn, .int (iI (nt + 1)), .ref ce, .ref cg, .int (iI (ng)), .ref cu, .ref ct, .int (iI (nr)), .int (iI (ia)), .int (iI (ib))])) :: (cp, .inl (k 2, aq 6 gp)) :: (cn, .inl (k 3, aq 6 (zU gn (nt) (some q5)))) :: (ce, .inl (k 4, aq 36 rq)) :: (cg, .inl (k 5, aq 6 gg)) :: (cu, .inl (k 0, ai 8 ru)) :: (ct, .inl (k 0, ai 8 rt)) :: tl) H := hP
    have hD : va_D (fun q : Nat => s0.heap.size ≤ q) ((q6, .inl (k 0, ai (n9 + 1) (seqF (fun _ => 0) (fun d => isq ((n9 : Int) * n9 - d * d)) 0 (n9 + 1)))) :: (q5, .inr (0, [.ref q6])) :: (cf, .inr (2, [.ref cr, .int (iI (bg)), .int (iI (la)), .int (iI (lr)), .int (iI (wy))])) :: (cr, .inl (k 0, ai 65 pr)) :: (cx, .inr (5, [.ref cf, .ref cp, .int (iI (np)), .ref cn, .int (iI (nt + 1)), .ref ce, .ref cg, .int (iI (ng)), .ref cu, .ref ct, .int (iI (nr)), .int (iI (ia)), .int (iI (ib))])) :: (cp, .inl (k 2, aq 6 gp)) :: (cn, .inl (k 3, aq 6 (zU gn (nt) (some q5)))) :: (ce, .inl (k 4, aq 36 rq)) :: (cg, .inl (k 5, aq 6 gg)) :: (cu, .inl (k 0, ai 8 ru)) :: (ct, .inl (k 0, ai 8 rt)) :: tl) := hD
    refine lv_aload_n hx hb d_C_tool_53 rfl (lv_at hl 0 rfl) ?_
    refine va_get (D := D) (ci := 5) (v := .int (iI (nt + 1))) (C := R_C) (T := F_C) (N := 13) hx hb hG in_C hown hK hP 4 rfl rfl 4 (by decide) (hG _ g_66) (fun _ h9 => h9) rfl d_C_tool_54 ?_
    refine ri_iconst hx hb d_C_tool_57 ?_
    refine ri_isub hx hb d_C_tool_58 ?_
    refine tp_i (congrArg iI (show (nt + 1) - 1 = nt from by omega)) ?_
    exact re_i hx hb hr hlocks (fun t ht hW => ⟨_, ⟨by omega, q6, q5, rfl, rfl⟩, wd_next h0 hS hP hD t ht hW⟩) hS.2.2 (Nat.le_of_ble_eq_true rfl) (Nat.le_of_ble_eq_true rfl) d_C_tool_59
  · exact tk_throw (kl := 2) hC h0 hx hb hown xA_IS (by decide +kernel) g_202 g_200 g_8 g_348 hS (hl.1.trans hml.symm) d_C_tool_16 d_C_tool_19 (Or.inl ⟨rfl, d_C_tool_20⟩) d_C_tool_22 d_C_tool_25 htab hlocks (Nat.le_of_ble_eq_true rfl) (Nat.le_of_ble_eq_true rfl) (Nat.le_of_ble_eq_true rfl) (Nat.le_of_ble_eq_true rfl) (fun t hla hz ho => ⟨_, ⟨rfl, rfl, by omega⟩, hla, wl_Pk hP ho, hD⟩) (Nat.le_of_ble_eq_true rfl) (Nat.le_of_ble_eq_true rfl)

set_option maxHeartbeats 4000000 in
set_option maxRecDepth 100000 in
theorem c_C_toolBad {l : Launch} {s0 : State} {D : va_G} {k : Nat → ClassId} (hC : Cx l s0 D k) (cx cf cp cn ce cg cu ct cr : Nat) (np nt ng nr ia ib bg la lr wy : Int) (pr ru rt : Int → Int) (gp gn rq gg : Int → Option Nat) (tl : va_W) (z : Int) (hz9 : In32 z) (hbad : ¬ (0 ≤ z ∧ z ≤ 12)) : WdM l s0 D y_C_tool { frames := 7, cells := 3, slots := 20, locals := 112 } [.ref cx, .int (iI (z))] ((cf, .inr (2, [.ref cr, .int (iI (bg)), .int (iI (la)), .int (iI (lr)), .int (iI (wy))])) :: (cr, .inl (k 0, ai 65 pr)) :: (cx, .inr (5, [.ref cf, .ref cp, .int (iI (np)), .ref cn, .int (iI (nt)), .ref ce, .ref cg, .int (iI (ng)), .ref cu, .ref ct, .int (iI (nr)), .int (iI (ia)), .int (iI (ib))])) :: (cp, .inl (k 2, aq 6 gp)) :: (cn, .inl (k 3, aq 6 gn)) :: (ce, .inl (k 4, aq 36 rq)) :: (cg, .inl (k 5, aq 6 gg)) :: (cu, .inl (k 0, ai 8 ru)) :: (ct, .inl (k 0, ai 8 rt)) :: tl) (fun v ws' => False) (fun E ws' => ws' = ((cf, .inr (2, [.ref cr, .int (iI (bg)), .int (iI (la)), .int (iI (lr)), .int (iI (wy))])) :: (cr, .inl (k 0, ai 65 pr)) :: (cx, .inr (5, [.ref cf, .ref cp, .int (iI (np)), .ref cn, .int (iI (nt)), .ref ce, .ref cg, .int (iI (ng)), .ref cu, .ref ct, .int (iI (nr)), .int (iI (ia)), .int (iI (ib))])) :: (cp, .inl (k 2, aq 6 gp)) :: (cn, .inl (k 3, aq 6 gn)) :: (ce, .inl (k 4, aq 36 rq)) :: (cg, .inl (k 5, aq 6 gg)) :: (cu, .inl (k 0, ai 8 ru)) :: (ct, .inl (k 0, ai 8 rt)) :: tl) ∧ E = xIA) 3 20 := by
  refine ex_ofW (cc := b_C_tool) (maxL := 2) (ret := (some .int)) (hh := []) (by decide +kernel) (Or.inl ⟨g_347, rfl⟩) ?_
  intro p9 e9 s m9 args9 below9 meth9 c9 s9 B9 hml htab hv
  obtain ⟨rfl, h0, hP, hD⟩ := hv
  have hx := B9.exec
  have hb := B9.bytes
  have hr := B9.returns
  have hG := atoms_spec (ws := GW) B9.pre
  have hown : s.vm.findClass "LathePieces" = some m9.cls := findClass_of_methodNamed B9.named
  have hlocks := B9.notSynchronized
  have hK := cx_K hC h0
  have hS : va_S (aL s0) s.heap s.heap [] := va_S.rf
  have hA : ∀ q : Nat, s.heap.size ≤ q → aL s0 q := fun q h => Nat.le_trans h0.2.1 h
  have hl := lv_entry ([.ref cx, .int (iI (z))]) (n := 2) (Nat.le_of_ble_eq_true rfl)
  rw [lg_entry_eq]
  generalize (lg_sl ([.ref cx, .int (iI (z))]) ++ List.replicate (2 - (lg_sl ([.ref cx, .int (iI (z))])).length) Slot.unset).toArray = ls at hl ⊢
  replace hl : lv_has ls 2 [(0, .ref cx), (1, .int (iI (z)))] := hl
  refine lv_iload_n hx hb d_C_tool_0 rfl (lv_at hl 1 rfl) ?_
  refine ri_iconst hx hb d_C_tool_1 ?_
  refine ri_bipush hx hb d_C_tool_2 (by decide) ?_
  refine th_call h0 hS htab hlocks (Nat.le_of_ble_eq_true rfl) (Nat.le_of_ble_eq_true rfl) (ex_runS (As := [.int (iI (z)), .int (iI (0)), .int (iI (12))]) (rest := []) ⟨hx, hb, hml, hown, hG⟩ (c_C_checkNumber hC (z) (0) (12) (by omega) (by omega) (by omega)) (cb_code (n := 3) hG g_112 g_1 g_110 rfl rfl (by decide +kernel) ⟨Nat.le_of_ble_eq_true rfl, Nat.le_of_ble_eq_true rfl⟩) (hG _ g_111) ⟨fun _ _ _ _ q => q, fun U hU hW => ⟨rfl, la_next h0 (fun _ z => z) hS U hU hW, trivial⟩⟩ rfl rfl hl.1 rfl (lv_room (Nat.le_of_ble_eq_true rfl)) d_C_tool_4 ⟨Nat.le_of_ble_eq_true rfl, Nat.le_of_ble_eq_true rfl⟩) (fun E hE t hla hz ho => ⟨_, ⟨rfl, hE.1⟩, hla, wl_Pk hP ho, hD⟩) (fun v9 h9 locs hS => ?_)
  obtain ⟨rfl, q1, q2⟩ := h9
  show W _ _ _ _ _ _ _ _ _ _ _ _ _ _ _ (F0 m9 7 ls [])
  exact absurd ⟨q1, q2⟩ hbad

set_option maxHeartbeats 4000000 in
set_option maxRecDepth 100000 in
theorem c_C_thread {l : Launch} {s0 : State} {D : va_G} {k : Nat → ClassId} (hC : Cx l s0 D k) (cx cf cp cn ce cg cu ct cr : Nat) (np nt ng nr ia ib bg la lr wy : Int) (pr ru rt : Int → Int) (gp gn rq gg : Int → Option Nat) (tl : va_W) (ab be : Int) (hab : In32 ab) (hbe : In32 be) : WdM l s0 D y_C_thread { frames := 7, cells := 2, slots := 12, locals := 112 } [.ref cx, .int (iI (ab)), .int (iI (be))] ((cf, .inr (2, [.ref cr, .int (iI (bg)), .int (iI (la)), .int (iI (lr)), .int (iI (wy))])) :: (cr, .inl (k 0, ai 65 pr)) :: (cx, .inr (5, [.ref cf, .ref cp, .int (iI (np)), .ref cn, .int (iI (nt)), .ref ce, .ref cg, .int (iI (ng)), .ref cu, .ref ct, .int (iI (nr)), .int (iI (ia)), .int (iI (ib))])) :: (cp, .inl (k 2, aq 6 gp)) :: (cn, .inl (k 3, aq 6 gn)) :: (ce, .inl (k 4, aq 36 rq)) :: (cg, .inl (k 5, aq 6 gg)) :: (cu, .inl (k 0, ai 8 ru)) :: (ct, .inl (k 0, ai 8 rt)) :: tl) (fun v ws' => v = none ∧ (1 ≤ ab ∧ ab ≤ 1000) ∧ (1 ≤ be ∧ be ≤ 1000) ∧ ws' = ((cf, .inr (2, [.ref cr, .int (iI (bg)), .int (iI (la)), .int (iI (lr)), .int (iI (wy))])) :: (cr, .inl (k 0, ai 65 pr)) :: (cx, .inr (5, [.ref cf, .ref cp, .int (iI (np)), .ref cn, .int (iI (nt)), .ref ce, .ref cg, .int (iI (ng)), .ref cu, .ref ct, .int (iI (nr)), .int (iI (ab)), .int (iI (be))])) :: (cp, .inl (k 2, aq 6 gp)) :: (cn, .inl (k 3, aq 6 gn)) :: (ce, .inl (k 4, aq 36 rq)) :: (cg, .inl (k 5, aq 6 gg)) :: (cu, .inl (k 0, ai 8 ru)) :: (ct, .inl (k 0, ai 8 rt)) :: tl)) (fun E ws' => ws' = ((cf, .inr (2, [.ref cr, .int (iI (bg)), .int (iI (la)), .int (iI (lr)), .int (iI (wy))])) :: (cr, .inl (k 0, ai 65 pr)) :: (cx, .inr (5, [.ref cf, .ref cp, .int (iI (np)), .ref cn, .int (iI (nt)), .ref ce, .ref cg, .int (iI (ng)), .ref cu, .ref ct, .int (iI (nr)), .int (iI (ia)), .int (iI (ib))])) :: (cp, .inl (k 2, aq 6 gp)) :: (cn, .inl (k 3, aq 6 gn)) :: (ce, .inl (k 4, aq 36 rq)) :: (cg, .inl (k 5, aq 6 gg)) :: (cu, .inl (k 0, ai 8 ru)) :: (ct, .inl (k 0, ai 8 rt)) :: tl) ∧ E = xIA ∧ ¬ ((1 ≤ ab ∧ ab ≤ 1000) ∧ (1 ≤ be ∧ be ≤ 1000))) 2 12 := by
  refine ex_ofW (cc := b_C_thread) (maxL := 3) (ret := none) (hh := []) (by decide +kernel) (Or.inl ⟨g_594, rfl⟩) ?_
  intro p9 e9 s m9 args9 below9 meth9 c9 s9 B9 hml htab hv
  obtain ⟨rfl, h0, hP, hD⟩ := hv
  have hx := B9.exec
  have hb := B9.bytes
  have hr := B9.returns
  have hG := atoms_spec (ws := GW) B9.pre
  have hown : s.vm.findClass "LathePieces" = some m9.cls := findClass_of_methodNamed B9.named
  have hlocks := B9.notSynchronized
  have hK := cx_K hC h0
  have hS : va_S (aL s0) s.heap s.heap [] := va_S.rf
  have hA : ∀ q : Nat, s.heap.size ≤ q → aL s0 q := fun q h => Nat.le_trans h0.2.1 h
  have hl := lv_entry ([.ref cx, .int (iI (ab)), .int (iI (be))]) (n := 3) (Nat.le_of_ble_eq_true rfl)
  rw [lg_entry_eq]
  generalize (lg_sl ([.ref cx, .int (iI (ab)), .int (iI (be))]) ++ List.replicate (3 - (lg_sl ([.ref cx, .int (iI (ab)), .int (iI (be))])).length) Slot.unset).toArray = ls at hl ⊢
  replace hl : lv_has ls 3 [(0, .ref cx), (1, .int (iI (ab))), (2, .int (iI (be)))] := hl
  refine lv_iload_n hx hb d_C_thread_0 rfl (lv_at hl 1 rfl) ?_
  refine ri_iconst hx hb d_C_thread_1 ?_
  refine ri_sipush hx hb d_C_thread_2 (by decide) ?_
  refine th_call h0 hS htab hlocks (Nat.le_of_ble_eq_true rfl) (Nat.le_of_ble_eq_true rfl) (ex_runS (As := [.int (iI (ab)), .int (iI (1)), .int (iI (1000))]) (rest := []) ⟨hx, hb, hml, hown, hG⟩ (c_C_checkNumber hC (ab) (1) (1000) (by omega) (by omega) (by omega)) (cb_code (n := 3) hG g_112 g_1 g_110 rfl rfl (by decide +kernel) ⟨Nat.le_of_ble_eq_true rfl, Nat.le_of_ble_eq_true rfl⟩) (hG _ g_111) ⟨fun _ _ _ _ q => q, fun U hU hW => ⟨rfl, la_next h0 (fun _ z => z) hS U hU hW, trivial⟩⟩ rfl rfl hl.1 rfl (lv_room (Nat.le_of_ble_eq_true rfl)) d_C_thread_5 ⟨Nat.le_of_ble_eq_true rfl, Nat.le_of_ble_eq_true rfl⟩) (fun E hE t hla hz ho => ⟨_, ⟨rfl, hE.1, fun h => hE.2 h.1⟩, hla, wl_Pk hP ho, hD⟩) (fun v9 h9 locs hS => ?_)
  obtain ⟨rfl, u1, u2⟩ := h9
  show W _ _ _ _ _ _ _ _ _ _ _ _ _ _ _ (F0 m9 8 ls [])
  refine lv_iload_n hx hb d_C_thread_8 rfl (lv_at hl 2 rfl) ?_
  refine ri_iconst hx hb d_C_thread_9 ?_
  refine ri_sipush hx hb d_C_thread_10 (by decide) ?_
  refine th_call h0 hS htab hlocks (Nat.le_of_ble_eq_true rfl) (Nat.le_of_ble_eq_true rfl) (ex_runS (As := [.int (iI (be)), .int (iI (1)), .int (iI (1000))]) (rest := []) ⟨hx, hb, hml, hown, hG⟩ (c_C_checkNumber hC (be) (1) (1000) (by omega) (by omega) (by omega)) (cb_code (n := 3) hG g_112 g_1 g_110 rfl rfl (by decide +kernel) ⟨Nat.le_of_ble_eq_true rfl, Nat.le_of_ble_eq_true rfl⟩) (hG _ g_111) ⟨fun _ _ _ _ q => q, fun U hU hW => ⟨rfl, la_next h0 (fun _ z => z) hS U hU hW, trivial⟩⟩ rfl rfl hl.1 rfl (lv_room (Nat.le_of_ble_eq_true rfl)) d_C_thread_13 ⟨Nat.le_of_ble_eq_true rfl, Nat.le_of_ble_eq_true rfl⟩) (fun E hE t hla hz ho => ⟨_, ⟨rfl, hE.1, fun h => hE.2 h.2⟩, hla, wl_Pk hP ho, hD⟩) (fun v9 h9 locs hS => ?_)
  obtain ⟨rfl, z1, z2⟩ := h9
  show W _ _ _ _ _ _ _ _ _ _ _ _ _ _ _ (F0 m9 16 ls [])
  refine lv_aload_n hx hb d_C_thread_16 rfl (lv_at hl 0 rfl) ?_
  refine lv_iload_n hx hb d_C_thread_17 rfl (lv_at hl 1 rfl) ?_
  refine va_put (D := D) (ci := 5) (v := .int (iI (ab))) (ty := .int) (C := R_C) (T := F_C) (N := 13) hx hb hG in_C t_C t_C_ok n_C hown hK hP hD hS 2 rfl rfl 11 (by decide) (hG _ g_73) (fun _ h9 => h9) rfl (by decide +kernel) rfl rfl (Nat.le_of_ble_eq_true rfl) d_C_thread_18 (fun H locs hP hD hS => ?_)
  have hP : va_P D classes ((cf, .inr (2, [.ref cr, .int (iI (bg)), .int (iI (la)), .int (iI (lr)), .int (iI (wy))])) :: (cr, .inl (k 0, ai 65 pr)) :: (cx, .inr (5, [.ref cf, .ref cp, .int (iI (np)), .ref cn, .int (iI (nt)), .ref ce, .ref cg, .int (iI (ng)), .ref cu, .ref ct, .int (iI (nr)), .int (iI (ab)), .int (iI (ib))])) :: (cp, .inl (k 2, aq 6 gp)) :: (cn, .inl (k 3, aq 6 gn)) :: (ce, .inl (k 4, aq 36 rq)) :: (cg, .inl (k 5, aq 6 gg)) :: (cu, .inl (k 0, ai 8 ru)) :: (ct, .inl (k 0, ai 8 rt)) :: tl) H := hP
  have hD : va_D (fun q : Nat => s0.heap.size ≤ q) ((cf, .inr (2, [.ref cr, .int (iI (bg)), .int (iI (la)), .int (iI (lr)), .int (iI (wy))])) :: (cr, .inl (k 0, ai 65 pr)) :: (cx, .inr (5, [.ref cf, .ref cp, .int (iI (np)), .ref cn, .int (iI (nt)), .ref ce, .ref cg, .int (iI (ng)), .ref cu, .ref ct, .int (iI (nr)), .int (iI (ab)), .int (iI (ib))])) :: (cp, .inl (k 2, aq 6 gp)) :: (cn, .inl (k 3, aq 6 gn)) :: (ce, .inl (k 4, aq 36 rq)) :: (cg, .inl (k 5, aq 6 gg)) :: (cu, .inl (k 0, ai 8 ru)) :: (ct, .inl (k 0, ai 8 rt)) :: tl) := hD
  refine lv_aload_n hx hb d_C_thread_21 rfl (lv_at hl 0 rfl) ?_
  refine lv_iload_n hx hb d_C_thread_22 rfl (lv_at hl 2 rfl) ?_
  refine va_put (D := D) (ci := 5) (v := .int (iI (be))) (ty := .int) (C := R_C) (T := F_C) (N := 13) hx hb hG in_C t_C t_C_ok n_C hown hK hP hD hS 2 rfl rfl 12 (by decide) (hG _ g_74) (fun _ h9 => h9) rfl (by decide +kernel) rfl rfl (Nat.le_of_ble_eq_true rfl) d_C_thread_23 (fun H locs hP hD hS => ?_)
  have hP : va_P D classes ((cf, .inr (2, [.ref cr, .int (iI (bg)), .int (iI (la)), .int (iI (lr)), .int (iI (wy))])) :: (cr, .inl (k 0, ai 65 pr)) :: (cx, .inr (5, [.ref cf, .ref cp, .int (iI (np)), .ref cn, .int (iI (nt)), .ref ce, .ref cg, .int (iI (ng)), .ref cu, .ref ct, .int (iI (nr)), .int (iI (ab)), .int (iI (be))])) :: (cp, .inl (k 2, aq 6 gp)) :: (cn, .inl (k 3, aq 6 gn)) :: (ce, .inl (k 4, aq 36 rq)) :: (cg, .inl (k 5, aq 6 gg)) :: (cu, .inl (k 0, ai 8 ru)) :: (ct, .inl (k 0, ai 8 rt)) :: tl) H := hP
  have hD : va_D (fun q : Nat => s0.heap.size ≤ q) ((cf, .inr (2, [.ref cr, .int (iI (bg)), .int (iI (la)), .int (iI (lr)), .int (iI (wy))])) :: (cr, .inl (k 0, ai 65 pr)) :: (cx, .inr (5, [.ref cf, .ref cp, .int (iI (np)), .ref cn, .int (iI (nt)), .ref ce, .ref cg, .int (iI (ng)), .ref cu, .ref ct, .int (iI (nr)), .int (iI (ab)), .int (iI (be))])) :: (cp, .inl (k 2, aq 6 gp)) :: (cn, .inl (k 3, aq 6 gn)) :: (ce, .inl (k 4, aq 36 rq)) :: (cg, .inl (k 5, aq 6 gg)) :: (cu, .inl (k 0, ai 8 ru)) :: (ct, .inl (k 0, ai 8 rt)) :: tl) := hD
  exact re_v hx hb hr hlocks (fun t ht hW => ⟨_, ⟨rfl, ⟨u1, u2⟩, ⟨z1, z2⟩, rfl⟩, wd_next h0 hS hP hD t ht hW⟩) hS.2.2 (Nat.le_of_ble_eq_true rfl) (Nat.le_of_ble_eq_true rfl) d_C_thread_26

set_option maxHeartbeats 4000000 in
set_option maxRecDepth 100000 in
theorem c_C_row {l : Launch} {s0 : State} {D : va_G} {k : Nat → ClassId} (hC : Cx l s0 D k) (cx cf cp cn ce cg cu ct cr : Nat) (np nt ng nr ia ib bg la lr wy : Int) (pr ru rt : Int → Int) (gp gn rq gg : Int → Option Nat) (tl : va_W) (hnr : 0 ≤ nr ∧ nr ≤ 8) (hrr9 : ∀ j : Int, 0 ≤ j → j < nr → 1 ≤ ru j ∧ ru j ≤ 500) (rd tu : Int) (hrd : In32 rd) (htu : In32 tu) : WdM l s0 D y_C_row { frames := 7, cells := 3, slots := 18, locals := 112 } [.ref cx, .int (iI (rd)), .int (iI (tu))] ((cf, .inr (2, [.ref cr, .int (iI (bg)), .int (iI (la)), .int (iI (lr)), .int (iI (wy))])) :: (cr, .inl (k 0, ai 65 pr)) :: (cx, .inr (5, [.ref cf, .ref cp, .int (iI (np)), .ref cn, .int (iI (nt)), .ref ce, .ref cg, .int (iI (ng)), .ref cu, .ref ct, .int (iI (nr)), .int (iI (ia)), .int (iI (ib))])) :: (cp, .inl (k 2, aq 6 gp)) :: (cn, .inl (k 3, aq 6 gn)) :: (ce, .inl (k 4, aq 36 rq)) :: (cg, .inl (k 5, aq 6 gg)) :: (cu, .inl (k 0, ai 8 ru)) :: (ct, .inl (k 0, ai 8 rt)) :: tl) (fun v ws' => v = some (.int (iI (nr + 1))) ∧ ((1 ≤ rd ∧ rd ≤ 500) ∧ (1 ≤ tu ∧ tu ≤ 10000) ∧ (nr = 0 ∨ ru (nr - 1) < rd)) ∧ nr < 8 ∧ ws' = ((cf, .inr (2, [.ref cr, .int (iI (bg)), .int (iI (la)), .int (iI (lr)), .int (iI (wy))])) :: (cr, .inl (k 0, ai 65 pr)) :: (cx, .inr (5, [.ref cf, .ref cp, .int (iI (np)), .ref cn, .int (iI (nt)), .ref ce, .ref cg, .int (iI (ng)), .ref cu, .ref ct, .int (iI (nr + 1)), .int (iI (ia)), .int (iI (ib))])) :: (cp, .inl (k 2, aq 6 gp)) :: (cn, .inl (k 3, aq 6 gn)) :: (ce, .inl (k 4, aq 36 rq)) :: (cg, .inl (k 5, aq 6 gg)) :: (cu, .inl (k 0, ai 8 (zU ru (nr) (rd)))) :: (ct, .inl (k 0, ai 8 (zU rt (nr) (tu)))) :: tl)) (fun E ws' => ws' = ((cf, .inr (2, [.ref cr, .int (iI (bg)), .int (iI (la)), .int (iI (lr)), .int (iI (wy))])) :: (cr, .inl (k 0, ai 65 pr)) :: (cx, .inr (5, [.ref cf, .ref cp, .int (iI (np)), .ref cn, .int (iI (nt)), .ref ce, .ref cg, .int (iI (ng)), .ref cu, .ref ct, .int (iI (nr)), .int (iI (ia)), .int (iI (ib))])) :: (cp, .inl (k 2, aq 6 gp)) :: (cn, .inl (k 3, aq 6 gn)) :: (ce, .inl (k 4, aq 36 rq)) :: (cg, .inl (k 5, aq 6 gg)) :: (cu, .inl (k 0, ai 8 ru)) :: (ct, .inl (k 0, ai 8 rt)) :: tl) ∧ (E = xIA ∧ ¬ ((1 ≤ rd ∧ rd ≤ 500) ∧ (1 ≤ tu ∧ tu ≤ 10000) ∧ (nr = 0 ∨ ru (nr - 1) < rd)) ∨ E = xIS ∧ ((1 ≤ rd ∧ rd ≤ 500) ∧ (1 ≤ tu ∧ tu ≤ 10000) ∧ (nr = 0 ∨ ru (nr - 1) < rd)) ∧ ¬ nr < 8)) 3 18 := by
  refine ex_ofW (cc := b_C_row) (maxL := 3) (ret := (some .int)) (hh := []) (by decide +kernel) (Or.inl ⟨g_610, rfl⟩) ?_
  intro p9 e9 s m9 args9 below9 meth9 c9 s9 B9 hml htab hv
  obtain ⟨rfl, h0, hP, hD⟩ := hv
  have hx := B9.exec
  have hb := B9.bytes
  have hr := B9.returns
  have hG := atoms_spec (ws := GW) B9.pre
  have hown : s.vm.findClass "LathePieces" = some m9.cls := findClass_of_methodNamed B9.named
  have hlocks := B9.notSynchronized
  have hK := cx_K hC h0
  have hS : va_S (aL s0) s.heap s.heap [] := va_S.rf
  have hA : ∀ q : Nat, s.heap.size ≤ q → aL s0 q := fun q h => Nat.le_trans h0.2.1 h
  have hl := lv_entry ([.ref cx, .int (iI (rd)), .int (iI (tu))]) (n := 3) (Nat.le_of_ble_eq_true rfl)
  rw [lg_entry_eq]
  generalize (lg_sl ([.ref cx, .int (iI (rd)), .int (iI (tu))]) ++ List.replicate (3 - (lg_sl ([.ref cx, .int (iI (rd)), .int (iI (tu))])).length) Slot.unset).toArray = ls at hl ⊢
  replace hl : lv_has ls 3 [(0, .ref cx), (1, .int (iI (rd))), (2, .int (iI (tu)))] := hl
  refine lv_iload_n hx hb d_C_row_0 rfl (lv_at hl 1 rfl) ?_
  refine ri_iconst hx hb d_C_row_1 ?_
  refine ri_sipush hx hb d_C_row_2 (by decide) ?_
  refine th_call h0 hS htab hlocks (Nat.le_of_ble_eq_true rfl) (Nat.le_of_ble_eq_true rfl) (ex_runS (As := [.int (iI (rd)), .int (iI (1)), .int (iI (500))]) (rest := []) ⟨hx, hb, hml, hown, hG⟩ (c_C_checkNumber hC (rd) (1) (500) (by omega) (by omega) (by omega)) (cb_code (n := 3) hG g_112 g_1 g_110 rfl rfl (by decide +kernel) ⟨Nat.le_of_ble_eq_true rfl, Nat.le_of_ble_eq_true rfl⟩) (hG _ g_111) ⟨fun _ _ _ _ q => q, fun U hU hW => ⟨rfl, la_next h0 (fun _ z => z) hS U hU hW, trivial⟩⟩ rfl rfl hl.1 rfl (lv_room (Nat.le_of_ble_eq_true rfl)) d_C_row_5 ⟨Nat.le_of_ble_eq_true rfl, Nat.le_of_ble_eq_true rfl⟩) (fun E hE t hla hz ho => ⟨_, ⟨rfl, Or.inl ⟨hE.1, fun h => hE.2 h.1⟩⟩, hla, wl_Pk hP ho, hD⟩) (fun v9 h9 locs hS => ?_)
  obtain ⟨rfl, u1, u2⟩ := h9
  show W _ _ _ _ _ _ _ _ _ _ _ _ _ _ _ (F0 m9 8 ls [])
  refine lv_iload_n hx hb d_C_row_8 rfl (lv_at hl 2 rfl) ?_
  refine ri_iconst hx hb d_C_row_9 ?_
  refine ri_sipush hx hb d_C_row_10 (by decide) ?_
  refine th_call h0 hS htab hlocks (Nat.le_of_ble_eq_true rfl) (Nat.le_of_ble_eq_true rfl) (ex_runS (As := [.int (iI (tu)), .int (iI (1)), .int (iI (10000))]) (rest := []) ⟨hx, hb, hml, hown, hG⟩ (c_C_checkNumber hC (tu) (1) (10000) (by omega) (by omega) (by omega)) (cb_code (n := 3) hG g_112 g_1 g_110 rfl rfl (by decide +kernel) ⟨Nat.le_of_ble_eq_true rfl, Nat.le_of_ble_eq_true rfl⟩) (hG _ g_111) ⟨fun _ _ _ _ q => q, fun U hU hW => ⟨rfl, la_next h0 (fun _ z => z) hS U hU hW, trivial⟩⟩ rfl rfl hl.1 rfl (lv_room (Nat.le_of_ble_eq_true rfl)) d_C_row_13 ⟨Nat.le_of_ble_eq_true rfl, Nat.le_of_ble_eq_true rfl⟩) (fun E hE t hla hz ho => ⟨_, ⟨rfl, Or.inl ⟨hE.1, fun h => hE.2 h.2.1⟩⟩, hla, wl_Pk hP ho, hD⟩) (fun v9 h9 locs hS => ?_)
  obtain ⟨rfl, z1, z2⟩ := h9
  show W _ _ _ _ _ _ _ _ _ _ _ _ _ _ _ (F0 m9 16 ls [])
  refine lv_aload_n hx hb d_C_row_16 rfl (lv_at hl 0 rfl) ?_
  refine va_get (D := D) (ci := 5) (v := .int (iI (nr))) (C := R_C) (T := F_C) (N := 13) hx hb hG in_C hown hK hP 2 rfl rfl 10 (by decide) (hG _ g_72) (fun _ h9 => h9) rfl d_C_row_17 ?_
  refine ri_if_le (tgt := 48) hx hb d_C_row_20 (by decide) (by omega) (fun c20 => ?_) (fun c20 => ?_)
  · refine lv_aload_n hx hb d_C_row_48 rfl (lv_at hl 0 rfl) ?_
    refine va_get (D := D) (ci := 5) (v := .int (iI (nr))) (C := R_C) (T := F_C) (N := 13) hx hb hG in_C hown hK hP 2 rfl rfl 10 (by decide) (hG _ g_72) (fun _ h9 => h9) rfl d_C_row_49 ?_
    refine ri_bipush hx hb d_C_row_52 (by decide) ?_
    refine ri_icmp_lt (tgt := 67) hx hb d_C_row_54 (by decide) (by omega) (by omega) (fun c54 => ?_) (fun c54 => ?_)
    · refine lv_aload_n hx hb d_C_row_67 rfl (lv_at hl 0 rfl) ?_
      refine va_get (D := D) (ci := 5) (v := .ref cu) (C := R_C) (T := F_C) (N := 13) hx hb hG in_C hown hK hP 2 rfl rfl 8 (by decide) (hG _ g_70) (fun _ h9 => h9) rfl d_C_row_68 ?_
      refine lv_aload_n hx hb d_C_row_71 rfl (lv_at hl 0 rfl) ?_
      refine va_get (D := D) (ci := 5) (v := .int (iI (nr))) (C := R_C) (T := F_C) (N := 13) hx hb hG in_C hown hK hP 2 rfl rfl 10 (by decide) (hG _ g_72) (fun _ h9 => h9) rfl d_C_row_72 ?_
      refine lv_iload_n hx hb d_C_row_75 rfl (lv_at hl 1 rfl) ?_
      refine ra_iast (v := rd) hx hb hK hP hD hS 7 rfl (by omega) (by omega) d_C_row_76 (fun H locs hP hD hS => ?_)
      have hP : va_P D classes ((cf, .inr (2, [.ref cr, .int (iI (bg)), .int (iI (la)), .int (iI (lr)), .int (iI (wy))])) :: (cr, .inl (k 0, ai 65 pr)) :: (cx, .inr (5, [.ref cf, .ref cp, .int (iI (np)), .ref cn, .int (iI (nt)), .ref ce, .ref cg, .int (iI (ng)), .ref cu, .ref ct, .int (iI (nr)), .int (iI (ia)), .int (iI (ib))])) :: (cp, .inl (k 2, aq 6 gp)) :: (cn, .inl (k 3, aq 6 gn)) :: (ce, .inl (k 4, aq 36 rq)) :: (cg, .inl (k 5, aq 6 gg)) :: (cu, .inl (k 0, ai 8 (zU ru (nr) (rd)))) :: (ct, .inl (k 0, ai 8 rt)) :: tl) H := hP
      have hD : va_D (fun q : Nat => s0.heap.size ≤ q) ((cf, .inr (2, [.ref cr, .int (iI (bg)), .int (iI (la)), .int (iI (lr)), .int (iI (wy))])) :: (cr, .inl (k 0, ai 65 pr)) :: (cx, .inr (5, [.ref cf, .ref cp, .int (iI (np)), .ref cn, .int (iI (nt)), .ref ce, .ref cg, .int (iI (ng)), .ref cu, .ref ct, .int (iI (nr)), .int (iI (ia)), .int (iI (ib))])) :: (cp, .inl (k 2, aq 6 gp)) :: (cn, .inl (k 3, aq 6 gn)) :: (ce, .inl (k 4, aq 36 rq)) :: (cg, .inl (k 5, aq 6 gg)) :: (cu, .inl (k 0, ai 8 (zU ru (nr) (rd)))) :: (ct, .inl (k 0, ai 8 rt)) :: tl) := hD
      refine lv_aload_n hx hb d_C_row_77 rfl (lv_at hl 0 rfl) ?_
      refine va_get (D := D) (ci := 5) (v := .ref ct) (C := R_C) (T := F_C) (N := 13) hx hb hG in_C hown hK hP 2 rfl rfl 9 (by decide) (hG _ g_71) (fun _ h9 => h9) rfl d_C_row_78 ?_
      refine lv_aload_n hx hb d_C_row_81 rfl (lv_at hl 0 rfl) ?_
      refine va_get (D := D) (ci := 5) (v := .int (iI (nr))) (C := R_C) (T := F_C) (N := 13) hx hb hG in_C hown hK hP 2 rfl rfl 10 (by decide) (hG _ g_72) (fun _ h9 => h9) rfl d_C_row_82 ?_
      refine lv_iload_n hx hb d_C_row_85 rfl (lv_at hl 2 rfl) ?_
      refine ra_iast (v := tu) hx hb hK hP hD hS 8 rfl (by omega) (by omega) d_C_row_86 (fun H locs hP hD hS => ?_)
      have hP : va_P D classes ((cf, .inr (2, [.ref cr, .int (iI (bg)), .int (iI (la)), .int (iI (lr)), .int (iI (wy))])) :: (cr, .inl (k 0, ai 65 pr)) :: (cx, .inr (5, [.ref cf, .ref cp, .int (iI (np)), .ref cn, .int (iI (nt)), .ref ce, .ref cg, .int (iI (ng)), .ref cu, .ref ct, .int (iI (nr)), .int (iI (ia)), .int (iI (ib))])) :: (cp, .inl (k 2, aq 6 gp)) :: (cn, .inl (k 3, aq 6 gn)) :: (ce, .inl (k 4, aq 36 rq)) :: (cg, .inl (k 5, aq 6 gg)) :: (cu, .inl (k 0, ai 8 (zU ru (nr) (rd)))) :: (ct, .inl (k 0, ai 8 (zU rt (nr) (tu)))) :: tl) H := hP
      have hD : va_D (fun q : Nat => s0.heap.size ≤ q) ((cf, .inr (2, [.ref cr, .int (iI (bg)), .int (iI (la)), .int (iI (lr)), .int (iI (wy))])) :: (cr, .inl (k 0, ai 65 pr)) :: (cx, .inr (5, [.ref cf, .ref cp, .int (iI (np)), .ref cn, .int (iI (nt)), .ref ce, .ref cg, .int (iI (ng)), .ref cu, .ref ct, .int (iI (nr)), .int (iI (ia)), .int (iI (ib))])) :: (cp, .inl (k 2, aq 6 gp)) :: (cn, .inl (k 3, aq 6 gn)) :: (ce, .inl (k 4, aq 36 rq)) :: (cg, .inl (k 5, aq 6 gg)) :: (cu, .inl (k 0, ai 8 (zU ru (nr) (rd)))) :: (ct, .inl (k 0, ai 8 (zU rt (nr) (tu)))) :: tl) := hD
      refine lv_aload_n hx hb d_C_row_87 rfl (lv_at hl 0 rfl) ?_
      refine lv_dup hx hb d_C_row_88 rfl ?_
      refine va_get (D := D) (ci := 5) (v := .int (iI (nr))) (C := R_C) (T := F_C) (N := 13) hx hb hG in_C hown hK hP 2 rfl rfl 10 (by decide) (hG _ g_72) (fun _ h9 => h9) rfl d_C_row_89 ?_
      refine ri_iconst hx hb d_C_row_92 ?_
      refine ri_iadd hx hb d_C_row_93 ?_
      refine va_put (D := D) (ci := 5) (v := .int (iI (nr + 1))) (ty := .int) (C := R_C) (T := F_C) (N := 13) hx hb hG in_C t_C t_C_ok n_C hown hK hP hD hS 2 rfl rfl 10 (by decide) (hG _ g_72) (fun _ h9 => h9) rfl (by decide +kernel) rfl rfl (Nat.le_of_ble_eq_true rfl) d_C_row_94 (fun H locs hP hD hS => ?_)
      have hP : va_P D classes ((cf, .inr (2, [.ref cr, .int (iI (bg)), .int (iI (la)), .int (iI (lr)), .int (iI (wy))])) :: (cr, .inl (k 0, ai 65 pr)) :: (cx, .inr (5, [.ref cf, .ref cp, .int (iI (np)), .ref cn, .int (iI (nt)), .ref ce, .ref cg, .int (iI (ng)), .ref cu, .ref ct, .int (iI (nr + 1)), .int (iI (ia)), .int (iI (ib))])) :: (cp, .inl (k 2, aq 6 gp)) :: (cn, .inl (k 3, aq 6 gn)) :: (ce, .inl (k 4, aq 36 rq)) :: (cg, .inl (k 5, aq 6 gg)) :: (cu, .inl (k 0, ai 8 (zU ru (nr) (rd)))) :: (ct, .inl (k 0, ai 8 (zU rt (nr) (tu)))) :: tl) H := hP
      have hD : va_D (fun q : Nat => s0.heap.size ≤ q) ((cf, .inr (2, [.ref cr, .int (iI (bg)), .int (iI (la)), .int (iI (lr)), .int (iI (wy))])) :: (cr, .inl (k 0, ai 65 pr)) :: (cx, .inr (5, [.ref cf, .ref cp, .int (iI (np)), .ref cn, .int (iI (nt)), .ref ce, .ref cg, .int (iI (ng)), .ref cu, .ref ct, .int (iI (nr + 1)), .int (iI (ia)), .int (iI (ib))])) :: (cp, .inl (k 2, aq 6 gp)) :: (cn, .inl (k 3, aq 6 gn)) :: (ce, .inl (k 4, aq 36 rq)) :: (cg, .inl (k 5, aq 6 gg)) :: (cu, .inl (k 0, ai 8 (zU ru (nr) (rd)))) :: (ct, .inl (k 0, ai 8 (zU rt (nr) (tu)))) :: tl) := hD
      refine lv_aload_n hx hb d_C_row_97 rfl (lv_at hl 0 rfl) ?_
      refine va_get (D := D) (ci := 5) (v := .int (iI (nr + 1))) (C := R_C) (T := F_C) (N := 13) hx hb hG in_C hown hK hP 2 rfl rfl 10 (by decide) (hG _ g_72) (fun _ h9 => h9) rfl d_C_row_98 ?_
      exact re_i hx hb hr hlocks (fun t ht hW => ⟨_, ⟨rfl, ⟨⟨u1, u2⟩, ⟨z1, z2⟩, by omega⟩, by omega, rfl⟩, wd_next h0 hS hP hD t ht hW⟩) hS.2.2 (Nat.le_of_ble_eq_true rfl) (Nat.le_of_ble_eq_true rfl) d_C_row_101
    · exact tk_throw (kl := 2) hC h0 hx hb hown xA_IS (by decide +kernel) g_202 g_200 g_8 g_612 hS (hl.1.trans hml.symm) d_C_row_57 d_C_row_60 (Or.inl ⟨rfl, d_C_row_61⟩) d_C_row_63 d_C_row_66 htab hlocks (Nat.le_of_ble_eq_true rfl) (Nat.le_of_ble_eq_true rfl) (Nat.le_of_ble_eq_true rfl) (Nat.le_of_ble_eq_true rfl) (fun t hla hz ho => ⟨_, ⟨rfl, Or.inr ⟨rfl, ⟨⟨u1, u2⟩, ⟨z1, z2⟩, by omega⟩, by omega⟩⟩, hla, wl_Pk hP ho, hD⟩) (Nat.le_of_ble_eq_true rfl) (Nat.le_of_ble_eq_true rfl)
  · have h7 := hrr9 (nr - 1) (by omega) (by omega)
    refine lv_iload_n hx hb d_C_row_23 rfl (lv_at hl 1 rfl) ?_
    refine lv_aload_n hx hb d_C_row_24 rfl (lv_at hl 0 rfl) ?_
    refine va_get (D := D) (ci := 5) (v := .ref cu) (C := R_C) (T := F_C) (N := 13) hx hb hG in_C hown hK hP 2 rfl rfl 8 (by decide) (hG _ g_70) (fun _ h9 => h9) rfl d_C_row_25 ?_
    refine lv_aload_n hx hb d_C_row_28 rfl (lv_at hl 0 rfl) ?_
    refine va_get (D := D) (ci := 5) (v := .int (iI (nr))) (C := R_C) (T := F_C) (N := 13) hx hb hG in_C hown hK hP 2 rfl rfl 10 (by decide) (hG _ g_72) (fun _ h9 => h9) rfl d_C_row_29 ?_
    refine ri_iconst hx hb d_C_row_32 ?_
    refine ri_isub hx hb d_C_row_33 ?_
    refine ra_iald hx hb hK hP 7 rfl (by omega) (by omega) d_C_row_34 ?_
    refine ri_icmp_gt (tgt := 48) hx hb d_C_row_35 (by decide) (by omega) (by omega) (fun c35 => ?_) (fun c35 => ?_)
    · refine lv_aload_n hx hb d_C_row_48 rfl (lv_at hl 0 rfl) ?_
      refine va_get (D := D) (ci := 5) (v := .int (iI (nr))) (C := R_C) (T := F_C) (N := 13) hx hb hG in_C hown hK hP 2 rfl rfl 10 (by decide) (hG _ g_72) (fun _ h9 => h9) rfl d_C_row_49 ?_
      refine ri_bipush hx hb d_C_row_52 (by decide) ?_
      refine ri_icmp_lt (tgt := 67) hx hb d_C_row_54 (by decide) (by omega) (by omega) (fun c54 => ?_) (fun c54 => ?_)
      · refine lv_aload_n hx hb d_C_row_67 rfl (lv_at hl 0 rfl) ?_
        refine va_get (D := D) (ci := 5) (v := .ref cu) (C := R_C) (T := F_C) (N := 13) hx hb hG in_C hown hK hP 2 rfl rfl 8 (by decide) (hG _ g_70) (fun _ h9 => h9) rfl d_C_row_68 ?_
        refine lv_aload_n hx hb d_C_row_71 rfl (lv_at hl 0 rfl) ?_
        refine va_get (D := D) (ci := 5) (v := .int (iI (nr))) (C := R_C) (T := F_C) (N := 13) hx hb hG in_C hown hK hP 2 rfl rfl 10 (by decide) (hG _ g_72) (fun _ h9 => h9) rfl d_C_row_72 ?_
        refine lv_iload_n hx hb d_C_row_75 rfl (lv_at hl 1 rfl) ?_
        refine ra_iast (v := rd) hx hb hK hP hD hS 7 rfl (by omega) (by omega) d_C_row_76 (fun H locs hP hD hS => ?_)
        have hP : va_P D classes ((cf, .inr (2, [.ref cr, .int (iI (bg)), .int (iI (la)), .int (iI (lr)), .int (iI (wy))])) :: (cr, .inl (k 0, ai 65 pr)) :: (cx, .inr (5, [.ref cf, .ref cp, .int (iI (np)), .ref cn, .int (iI (nt)), .ref ce, .ref cg, .int (iI (ng)), .ref cu, .ref ct, .int (iI (nr)), .int (iI (ia)), .int (iI (ib))])) :: (cp, .inl (k 2, aq 6 gp)) :: (cn, .inl (k 3, aq 6 gn)) :: (ce, .inl (k 4, aq 36 rq)) :: (cg, .inl (k 5, aq 6 gg)) :: (cu, .inl (k 0, ai 8 (zU ru (nr) (rd)))) :: (ct, .inl (k 0, ai 8 rt)) :: tl) H := hP
        have hD : va_D (fun q : Nat => s0.heap.size ≤ q) ((cf, .inr (2, [.ref cr, .int (iI (bg)), .int (iI (la)), .int (iI (lr)), .int (iI (wy))])) :: (cr, .inl (k 0, ai 65 pr)) :: (cx, .inr (5, [.ref cf, .ref cp, .int (iI (np)), .ref cn, .int (iI (nt)), .ref ce, .ref cg, .int (iI (ng)), .ref cu, .ref ct, .int (iI (nr)), .int (iI (ia)), .int (iI (ib))])) :: (cp, .inl (k 2, aq 6 gp)) :: (cn, .inl (k 3, aq 6 gn)) :: (ce, .inl (k 4, aq 36 rq)) :: (cg, .inl (k 5, aq 6 gg)) :: (cu, .inl (k 0, ai 8 (zU ru (nr) (rd)))) :: (ct, .inl (k 0, ai 8 rt)) :: tl) := hD
        refine lv_aload_n hx hb d_C_row_77 rfl (lv_at hl 0 rfl) ?_
        refine va_get (D := D) (ci := 5) (v := .ref ct) (C := R_C) (T := F_C) (N := 13) hx hb hG in_C hown hK hP 2 rfl rfl 9 (by decide) (hG _ g_71) (fun _ h9 => h9) rfl d_C_row_78 ?_
        refine lv_aload_n hx hb d_C_row_81 rfl (lv_at hl 0 rfl) ?_
        refine va_get (D := D) (ci := 5) (v := .int (iI (nr))) (C := R_C) (T := F_C) (N := 13) hx hb hG in_C hown hK hP 2 rfl rfl 10 (by decide) (hG _ g_72) (fun _ h9 => h9) rfl d_C_row_82 ?_
        refine lv_iload_n hx hb d_C_row_85 rfl (lv_at hl 2 rfl) ?_
        refine ra_iast (v := tu) hx hb hK hP hD hS 8 rfl (by omega) (by omega) d_C_row_86 (fun H locs hP hD hS => ?_)
        have hP : va_P D classes ((cf, .inr (2, [.ref cr, .int (iI (bg)), .int (iI (la)), .int (iI (lr)), .int (iI (wy))])) :: (cr, .inl (k 0, ai 65 pr)) :: (cx, .inr (5, [.ref cf, .ref cp, .int (iI (np)), .ref cn, .int (iI (nt)), .ref ce, .ref cg, .int (iI (ng)), .ref cu, .ref ct, .int (iI (nr)), .int (iI (ia)), .int (iI (ib))])) :: (cp, .inl (k 2, aq 6 gp)) :: (cn, .inl (k 3, aq 6 gn)) :: (ce, .inl (k 4, aq 36 rq)) :: (cg, .inl (k 5, aq 6 gg)) :: (cu, .inl (k 0, ai 8 (zU ru (nr) (rd)))) :: (ct, .inl (k 0, ai 8 (zU rt (nr) (tu)))) :: tl) H := hP
        have hD : va_D (fun q : Nat => s0.heap.size ≤ q) ((cf, .inr (2, [.ref cr, .int (iI (bg)), .int (iI (la)), .int (iI (lr)), .int (iI (wy))])) :: (cr, .inl (k 0, ai 65 pr)) :: (cx, .inr (5, [.ref cf, .ref cp, .int (iI (np)), .ref cn, .int (iI (nt)), .ref ce, .ref cg, .int (iI (ng)), .ref cu, .ref ct, .int (iI (nr)), .int (iI (ia)), .int (iI (ib))])) :: (cp, .inl (k 2, aq 6 gp)) :: (cn, .inl (k 3, aq 6 gn)) :: (ce, .inl (k 4, aq 36 rq)) :: (cg, .inl (k 5, aq 6 gg)) :: (cu, .inl (k 0, ai 8 (zU ru (nr) (rd)))) :: (ct, .inl (k 0, ai 8 (zU rt (nr) (tu)))) :: tl) := hD
        refine lv_aload_n hx hb d_C_row_87 rfl (lv_at hl 0 rfl) ?_
        refine lv_dup hx hb d_C_row_88 rfl ?_
        refine va_get (D := D) (ci := 5) (v := .int (iI (nr))) (C := R_C) (T := F_C) (N := 13) hx hb hG in_C hown hK hP 2 rfl rfl 10 (by decide) (hG _ g_72) (fun _ h9 => h9) rfl d_C_row_89 ?_
        refine ri_iconst hx hb d_C_row_92 ?_
        refine ri_iadd hx hb d_C_row_93 ?_
        refine va_put (D := D) (ci := 5) (v := .int (iI (nr + 1))) (ty := .int) (C := R_C) (T := F_C) (N := 13) hx hb hG in_C t_C t_C_ok n_C hown hK hP hD hS 2 rfl rfl 10 (by decide) (hG _ g_72) (fun _ h9 => h9) rfl (by decide +kernel) rfl rfl (Nat.le_of_ble_eq_true rfl) d_C_row_94 (fun H locs hP hD hS => ?_)
        have hP : va_P D classes ((cf, .inr (2, [.ref cr, .int (iI (bg)), .int (iI (la)), .int (iI (lr)), .int (iI (wy))])) :: (cr, .inl (k 0, ai 65 pr)) :: (cx, .inr (5, [.ref cf, .ref cp, .int (iI (np)), .ref cn, .int (iI (nt)), .ref ce, .ref cg, .int (iI (ng)), .ref cu, .ref ct, .int (iI (nr + 1)), .int (iI (ia)), .int (iI (ib))])) :: (cp, .inl (k 2, aq 6 gp)) :: (cn, .inl (k 3, aq 6 gn)) :: (ce, .inl (k 4, aq 36 rq)) :: (cg, .inl (k 5, aq 6 gg)) :: (cu, .inl (k 0, ai 8 (zU ru (nr) (rd)))) :: (ct, .inl (k 0, ai 8 (zU rt (nr) (tu)))) :: tl) H := hP
        have hD : va_D (fun q : Nat => s0.heap.size ≤ q) ((cf, .inr (2, [.ref cr, .int (iI (bg)), .int (iI (la)), .int (iI (lr)), .int (iI (wy))])) :: (cr, .inl (k 0, ai 65 pr)) :: (cx, .inr (5, [.ref cf, .ref cp, .int (iI (np)), .ref cn, .int (iI (nt)), .ref ce, .ref cg, .int (iI (ng)), .ref cu, .ref ct, .int (iI (nr + 1)), .int (iI (ia)), .int (iI (ib))])) :: (cp, .inl (k 2, aq 6 gp)) :: (cn, .inl (k 3, aq 6 gn)) :: (ce, .inl (k 4, aq 36 rq)) :: (cg, .inl (k 5, aq 6 gg)) :: (cu, .inl (k 0, ai 8 (zU ru (nr) (rd)))) :: (ct, .inl (k 0, ai 8 (zU rt (nr) (tu)))) :: tl) := hD
        refine lv_aload_n hx hb d_C_row_97 rfl (lv_at hl 0 rfl) ?_
        refine va_get (D := D) (ci := 5) (v := .int (iI (nr + 1))) (C := R_C) (T := F_C) (N := 13) hx hb hG in_C hown hK hP 2 rfl rfl 10 (by decide) (hG _ g_72) (fun _ h9 => h9) rfl d_C_row_98 ?_
        exact re_i hx hb hr hlocks (fun t ht hW => ⟨_, ⟨rfl, ⟨⟨u1, u2⟩, ⟨z1, z2⟩, by omega⟩, by omega, rfl⟩, wd_next h0 hS hP hD t ht hW⟩) hS.2.2 (Nat.le_of_ble_eq_true rfl) (Nat.le_of_ble_eq_true rfl) d_C_row_101
      · exact tk_throw (kl := 2) hC h0 hx hb hown xA_IS (by decide +kernel) g_202 g_200 g_8 g_612 hS (hl.1.trans hml.symm) d_C_row_57 d_C_row_60 (Or.inl ⟨rfl, d_C_row_61⟩) d_C_row_63 d_C_row_66 htab hlocks (Nat.le_of_ble_eq_true rfl) (Nat.le_of_ble_eq_true rfl) (Nat.le_of_ble_eq_true rfl) (Nat.le_of_ble_eq_true rfl) (fun t hla hz ho => ⟨_, ⟨rfl, Or.inr ⟨rfl, ⟨⟨u1, u2⟩, ⟨z1, z2⟩, by omega⟩, by omega⟩⟩, hla, wl_Pk hP ho, hD⟩) (Nat.le_of_ble_eq_true rfl) (Nat.le_of_ble_eq_true rfl)
    · exact tk_throw (kl := 2) hC h0 hx hb hown xA_IA (by decide +kernel) g_115 g_113 g_7 g_611 hS (hl.1.trans hml.symm) d_C_row_38 d_C_row_41 (Or.inl ⟨rfl, d_C_row_42⟩) d_C_row_44 d_C_row_47 htab hlocks (Nat.le_of_ble_eq_true rfl) (Nat.le_of_ble_eq_true rfl) (Nat.le_of_ble_eq_true rfl) (Nat.le_of_ble_eq_true rfl) (fun t hla hz ho => ⟨_, ⟨rfl, Or.inl ⟨rfl, by omega⟩⟩, hla, wl_Pk hP ho, hD⟩) (Nat.le_of_ble_eq_true rfl) (Nat.le_of_ble_eq_true rfl)

set_option maxHeartbeats 4000000 in
set_option maxRecDepth 100000 in
theorem c_C_ring {l : Launch} {s0 : State} {D : va_G} {k : Nat → ClassId} (hC : Cx l s0 D k) (cx cf cp cn ce cg cu ct cr : Nat) (np nt ng nr ia ib bg la lr wy : Int) (pr ru rt : Int → Int) (gp gn rq gg : Int → Option Nat) (tl : va_W) (hng : 0 ≤ ng ∧ ng ≤ 6) : WdM l s0 D y_C_ring { frames := 6, cells := 4, slots := 42, locals := 90 } [.ref cx] ((cf, .inr (2, [.ref cr, .int (iI (bg)), .int (iI (la)), .int (iI (lr)), .int (iI (wy))])) :: (cr, .inl (k 0, ai 65 pr)) :: (cx, .inr (5, [.ref cf, .ref cp, .int (iI (np)), .ref cn, .int (iI (nt)), .ref ce, .ref cg, .int (iI (ng)), .ref cu, .ref ct, .int (iI (nr)), .int (iI (ia)), .int (iI (ib))])) :: (cp, .inl (k 2, aq 6 gp)) :: (cn, .inl (k 3, aq 6 gn)) :: (ce, .inl (k 4, aq 36 rq)) :: (cg, .inl (k 5, aq 6 gg)) :: (cu, .inl (k 0, ai 8 ru)) :: (ct, .inl (k 0, ai 8 rt)) :: tl) (fun v ws' => ng < 6 ∧ ∃ q7 q6 q5 : Nat, v = some (.int (iI (ng))) ∧ ws' = ((q7, .inl (k 0, ai 16 (fun _ => 0))) :: (q6, .inl (k 0, ai 16 (fun _ => 0))) :: (q5, .inr (4, [.ref q6, .ref q7, .int (iI (0)), .long (jJ (0))])) :: (cf, .inr (2, [.ref cr, .int (iI (bg)), .int (iI (la)), .int (iI (lr)), .int (iI (wy))])) :: (cr, .inl (k 0, ai 65 pr)) :: (cx, .inr (5, [.ref cf, .ref cp, .int (iI (np)), .ref cn, .int (iI (nt)), .ref ce, .ref cg, .int (iI (ng + 1)), .ref cu, .ref ct, .int (iI (nr)), .int (iI (ia)), .int (iI (ib))])) :: (cp, .inl (k 2, aq 6 gp)) :: (cn, .inl (k 3, aq 6 gn)) :: (ce, .inl (k 4, aq 36 rq)) :: (cg, .inl (k 5, aq 6 (zU gg (ng) (some q5)))) :: (cu, .inl (k 0, ai 8 ru)) :: (ct, .inl (k 0, ai 8 rt)) :: tl)) (fun E ws' => ws' = ((cf, .inr (2, [.ref cr, .int (iI (bg)), .int (iI (la)), .int (iI (lr)), .int (iI (wy))])) :: (cr, .inl (k 0, ai 65 pr)) :: (cx, .inr (5, [.ref cf, .ref cp, .int (iI (np)), .ref cn, .int (iI (nt)), .ref ce, .ref cg, .int (iI (ng)), .ref cu, .ref ct, .int (iI (nr)), .int (iI (ia)), .int (iI (ib))])) :: (cp, .inl (k 2, aq 6 gp)) :: (cn, .inl (k 3, aq 6 gn)) :: (ce, .inl (k 4, aq 36 rq)) :: (cg, .inl (k 5, aq 6 gg)) :: (cu, .inl (k 0, ai 8 ru)) :: (ct, .inl (k 0, ai 8 rt)) :: tl) ∧ E = xIS ∧ ¬ ng < 6) 4 42 := by
  refine ex_ofW (cc := b_C_ring) (maxL := 1) (ret := (some .int)) (hh := []) (by decide +kernel) (Or.inl ⟨g_498, rfl⟩) ?_
  intro p9 e9 s m9 args9 below9 meth9 c9 s9 B9 hml htab hv
  obtain ⟨rfl, h0, hP, hD⟩ := hv
  have hx := B9.exec
  have hb := B9.bytes
  have hr := B9.returns
  have hG := atoms_spec (ws := GW) B9.pre
  have hown : s.vm.findClass "LathePieces" = some m9.cls := findClass_of_methodNamed B9.named
  have hlocks := B9.notSynchronized
  have hK := cx_K hC h0
  have hS : va_S (aL s0) s.heap s.heap [] := va_S.rf
  have hA : ∀ q : Nat, s.heap.size ≤ q → aL s0 q := fun q h => Nat.le_trans h0.2.1 h
  have hl := lv_entry ([.ref cx]) (n := 1) (Nat.le_of_ble_eq_true rfl)
  rw [lg_entry_eq]
  generalize (lg_sl ([.ref cx]) ++ List.replicate (1 - (lg_sl ([.ref cx])).length) Slot.unset).toArray = ls at hl ⊢
  replace hl : lv_has ls 1 [(0, .ref cx)] := hl
  refine lv_aload_n hx hb d_C_ring_0 rfl (lv_at hl 0 rfl) ?_
  refine va_get (D := D) (ci := 5) (v := .int (iI (ng))) (C := R_C) (T := F_C) (N := 13) hx hb hG in_C hown hK hP 2 rfl rfl 7 (by decide) (hG _ g_69) (fun _ h9 => h9) rfl d_C_ring_1 ?_
  refine ri_bipush hx hb d_C_ring_4 (by decide) ?_
  refine ri_icmp_lt (tgt := 19) hx hb d_C_ring_6 (by decide) (by omega) (by omega) (fun c6 => ?_) (fun c6 => ?_)
  · refine lv_aload_n hx hb d_C_ring_19 rfl (lv_at hl 0 rfl) ?_
    refine va_get (D := D) (ci := 5) (v := .ref cg) (C := R_C) (T := F_C) (N := 13) hx hb hG in_C hown hK hP 2 rfl rfl 6 (by decide) (hG _ g_68) (fun _ h9 => h9) rfl d_C_ring_20 ?_
    refine lv_aload_n hx hb d_C_ring_23 rfl (lv_at hl 0 rfl) ?_
    refine va_get (D := D) (ci := 5) (v := .int (iI (ng))) (C := R_C) (T := F_C) (N := 13) hx hb hG in_C hown hK hP 2 rfl rfl 7 (by decide) (hG _ g_69) (fun _ h9 => h9) rfl d_C_ring_24 ?_
    refine ra_new (ci := 4) (fs := [.null, .null, .int (iI (0)), .long (jJ (0))]) (C := R_G) (T := F_G) (N := 4) hx hb hG in_G t_G t_G_ok hown g_60 g_500 g_16 hK hP hD hS hA rfl (fun j hj => by rcases (show j = 0 ∨ j = 1 ∨ j = 2 ∨ j = 3 by omega) with rfl | rfl | rfl | rfl <;> rfl) (Nat.le_of_ble_eq_true rfl) (Nat.le_of_ble_eq_true rfl) d_C_ring_27 (fun q5 H hP hD hS => ?_)
    refine lv_dup hx hb d_C_ring_30 rfl ?_
    refine wd_call (pxW := fun _ _ => False) h0 hS htab hlocks (Nat.le_of_ble_eq_true rfl) (Nat.le_of_ble_eq_true rfl) (ex_runIN (As := []) (rest := [.ref q5, .int (iI (ng)), .ref cg]) (b := q5) ⟨hx, hb, hml, hown, hG⟩ (wd_sure (c_G_init hC q5 ((cf, .inr (2, [.ref cr, .int (iI (bg)), .int (iI (la)), .int (iI (lr)), .int (iI (wy))])) :: (cr, .inl (k 0, ai 65 pr)) :: (cx, .inr (5, [.ref cf, .ref cp, .int (iI (np)), .ref cn, .int (iI (nt)), .ref ce, .ref cg, .int (iI (ng)), .ref cu, .ref ct, .int (iI (nr)), .int (iI (ia)), .int (iI (ib))])) :: (cp, .inl (k 2, aq 6 gp)) :: (cn, .inl (k 3, aq 6 gn)) :: (ce, .inl (k 4, aq 36 rq)) :: (cg, .inl (k 5, aq 6 gg)) :: (cu, .inl (k 0, ai 8 ru)) :: (ct, .inl (k 0, ai 8 rt)) :: tl))) (cn_mk (n := 0) hG g_503 g_16 (cx_nest hC h0 g_501 _) rfl rfl (by decide +kernel) ⟨Nat.le_of_ble_eq_true rfl, Nat.le_of_ble_eq_true rfl⟩) rfl (hG _ g_502) (kd_preW h0 hS hP hD) rfl rfl hl.1 rfl (lv_room (Nat.le_of_ble_eq_true rfl)) d_C_ring_31 ⟨Nat.le_of_ble_eq_true rfl, Nat.le_of_ble_eq_true rfl⟩) (fun E ws9 hE t hwd => hE.elim) (fun v9 ws9 h9 H locs hP hD hS => ?_)
    obtain ⟨q6, q7, rfl, rfl⟩ := h9
    show W _ _ _ _ _ _ _ _ _ _ _ _ _ _ _ (F0 m9 34 ls [.ref q5, .int (iI (ng)), .ref cg])
    refine ra_ast hx hb hK hP hD hS 9 5 2 4 rfl rfl rfl rfl (by omega) (by decide) d_C_ring_34 (fun H locs hP hD hS => ?_)
    have hP : va_P D classes ((q7, .inl (k 0, ai 16 (fun _ => 0))) :: (q6, .inl (k 0, ai 16 (fun _ => 0))) :: (q5, .inr (4, [.ref q6, .ref q7, .int (iI (0)), .long (jJ (0))])) :: (cf, .inr (2, [.ref cr, .int (iI (bg)), .int (iI (la)), .int (iI (lr)), .int (iI (wy))])) :: (cr, .inl (k 0, ai 65 pr)) :: (cx, .inr (5, [.ref cf, .ref cp, .int (iI (np)), .ref cn, .int (iI (nt)), .ref ce, .ref cg, .int (iI (ng)), .ref cu, .ref ct, .int (iI (nr)), .int (iI (ia)), .int (iI (ib))])) :: (cp, .inl (k 2, aq 6 gp)) :: (cn, .inl (k 3, aq 6 gn)) :: (ce, .inl (k 4, aq 36 rq)) :: (cg, .inl (k 5, aq 6 (zU gg (ng) (some q5)))) :: (cu, .inl (k 0, ai 8 ru)) :: (ct, .inl (k 0, ai 8 rt)) :: tl) H := hP
    have hD : va_D (fun q : Nat => s0.heap.size ≤ q) ((q7, .inl (k 0, ai 16 (fun _ => 0))) :: (q6, .inl (k 0, ai 16 (fun _ => 0))) :: (q5, .inr (4, [.ref q6, .ref q7, .int (iI (0)), .long (jJ (0))])) :: (cf, .inr (2, [.ref cr, .int (iI (bg)), .int (iI (la)), .int (iI (lr)), .int (iI (wy))])) :: (cr, .inl (k 0, ai 65 pr)) :: (cx, .inr (5, [.ref cf, .ref cp, .int (iI (np)), .ref cn, .int (iI (nt)), .ref ce, .ref cg, .int (iI (ng)), .ref cu, .ref ct, .int (iI (nr)), .int (iI (ia)), .int (iI (ib))])) :: (cp, .inl (k 2, aq 6 gp)) :: (cn, .inl (k 3, aq 6 gn)) :: (ce, .inl (k 4, aq 36 rq)) :: (cg, .inl (k 5, aq 6 (zU gg (ng) (some q5)))) :: (cu, .inl (k 0, ai 8 ru)) :: (ct, .inl (k 0, ai 8 rt)) :: tl) := hD
    refine lv_aload_n hx hb d_C_ring_35 rfl (lv_at hl 0 rfl) ?_
    refine lv_dup hx hb d_C_ring_36 rfl ?_
    refine va_get (D := D) (ci := 5) (v := .int (iI (ng))) (C := R_C) (T := F_C) (N := 13) hx hb hG in_C hown hK hP 5 rfl rfl 7 (by decide) (hG _ g_69) (fun _ h9 => h9) rfl d_C_ring_37 ?_
    refine ri_iconst hx hb d_C_ring_40 ?_
    refine ri_iadd hx hb d_C_ring_41 ?_
    refine va_put (D := D) (ci := 5) (v := .int (iI (ng + 1))) (ty := .int) (C := R_C) (T := F_C) (N := 13) hx hb hG in_C t_C t_C_ok n_C hown hK hP hD hS 5 rfl rfl 7 (by decide) (hG _ g_69) (fun _ h9 => h9) rfl (by decide +kernel) rfl rfl (Nat.le_of_ble_eq_true rfl) d_C_ring_42 (fun H locs hP hD hS => ?_)
    have hP : va_P D classes ((q7, .inl (k 0, ai 16 (fun _ => 0))) :: (q6, .inl (k 0, ai 16 (fun _ => 0))) :: (q5, .inr (4, [.ref q6, .ref q7, .int (iI (0)), .long (jJ (0))])) :: (cf, .inr (2, [.ref cr, .int (iI (bg)), .int (iI (la)), .int (iI (lr)), .int (iI (wy))])) :: (cr, .inl (k 0, ai 65 pr)) :: (cx, .inr (5, [.ref cf, .ref cp, .int (iI (np)), .ref cn, .int (iI (nt)), .ref ce, .ref cg, .int (iI (ng + 1)), .ref cu, .ref ct, .int (iI (nr)), .int (iI (ia)), .int (iI (ib))])) :: (cp, .inl (k 2, aq 6 gp)) :: (cn, .inl (k 3, aq 6 gn)) :: (ce, .inl (k 4, aq 36 rq)) :: (cg, .inl (k 5, aq 6 (zU gg (ng) (some q5)))) :: (cu, .inl (k 0, ai 8 ru)) :: (ct, .inl (k 0, ai 8 rt)) :: tl) H := hP
    have hD : va_D (fun q : Nat => s0.heap.size ≤ q) ((q7, .inl (k 0, ai 16 (fun _ => 0))) :: (q6, .inl (k 0, ai 16 (fun _ => 0))) :: (q5, .inr (4, [.ref q6, .ref q7, .int (iI (0)), .long (jJ (0))])) :: (cf, .inr (2, [.ref cr, .int (iI (bg)), .int (iI (la)), .int (iI (lr)), .int (iI (wy))])) :: (cr, .inl (k 0, ai 65 pr)) :: (cx, .inr (5, [.ref cf, .ref cp, .int (iI (np)), .ref cn, .int (iI (nt)), .ref ce, .ref cg, .int (iI (ng + 1)), .ref cu, .ref ct, .int (iI (nr)), .int (iI (ia)), .int (iI (ib))])) :: (cp, .inl (k 2, aq 6 gp)) :: (cn, .inl (k 3, aq 6 gn)) :: (ce, .inl (k 4, aq 36 rq)) :: (cg, .inl (k 5, aq 6 (zU gg (ng) (some q5)))) :: (cu, .inl (k 0, ai 8 ru)) :: (ct, .inl (k 0, ai 8 rt)) :: tl) := hD
    refine lv_aload_n hx hb d_C_ring_45 rfl (lv_at hl 0 rfl) ?_
    refine va_get (D := D) (ci := 5) (v := .int (iI (ng + 1))) (C := R_C) (T := F_C) (N := 13) hx hb hG in_C hown hK hP 5 rfl rfl 7 (by decide) (hG _ g_69) (fun _ h9 => h9) rfl d_C_ring_46 ?_
    refine ri_iconst hx hb d_C_ring_49 ?_
    refine ri_isub hx hb d_C_ring_50 ?_
    refine tp_i (congrArg iI (show (ng + 1) - 1 = ng from by omega)) ?_
    exact re_i hx hb hr hlocks (fun t ht hW => ⟨_, ⟨by omega, q7, q6, q5, rfl, rfl⟩, wd_next h0 hS hP hD t ht hW⟩) hS.2.2 (Nat.le_of_ble_eq_true rfl) (Nat.le_of_ble_eq_true rfl) d_C_ring_51
  · exact tk_throw (kl := 2) hC h0 hx hb hown xA_IS (by decide +kernel) g_202 g_200 g_8 g_499 hS (hl.1.trans hml.symm) d_C_ring_9 d_C_ring_12 (Or.inl ⟨rfl, d_C_ring_13⟩) d_C_ring_15 d_C_ring_18 htab hlocks (Nat.le_of_ble_eq_true rfl) (Nat.le_of_ble_eq_true rfl) (Nat.le_of_ble_eq_true rfl) (Nat.le_of_ble_eq_true rfl) (fun t hla hz ho => ⟨_, ⟨rfl, rfl, by omega⟩, hla, wl_Pk hP ho, hD⟩) (Nat.le_of_ble_eq_true rfl) (Nat.le_of_ble_eq_true rfl)

set_option maxHeartbeats 4000000 in
set_option maxRecDepth 100000 in
theorem c_C_wedge {l : Launch} {s0 : State} {D : va_G} {k : Nat → ClassId} (hC : Cx l s0 D k) (cx cf cp cn ce cg cu ct cr : Nat) (np nt ng nr ia ib bg la lr wy : Int) (pr ru rt : Int → Int) (gp gn rq : Int → Option Nat) (tl : va_W) (ga : Int → Nat) (hng : 0 ≤ ng ∧ ng ≤ 6) (p ab be : Int) (hp : In32 p) (hab : In32 ab) (hbe : In32 be) (a1 a2 : Nat) (cw sm : Int) (gx gy : Int → Int) (hcw : 0 ≤ cw ∧ cw ≤ 16) (hp9 : 0 ≤ p ∧ p < ng) : WdM l s0 D y_C_wedge { frames := 7, cells := 4, slots := 24, locals := 112 } [.ref cx, .int (iI (p)), .int (iI (ab)), .int (iI (be))] (((ga p), .inr (4, [.ref a1, .ref a2, .int (iI (cw)), .long (jJ (sm))])) :: (a1, .inl (k 0, ai 16 gx)) :: (a2, .inl (k 0, ai 16 gy)) :: (cf, .inr (2, [.ref cr, .int (iI (bg)), .int (iI (la)), .int (iI (lr)), .int (iI (wy))])) :: (cr, .inl (k 0, ai 65 pr)) :: (cx, .inr (5, [.ref cf, .ref cp, .int (iI (np)), .ref cn, .int (iI (nt)), .ref ce, .ref cg, .int (iI (ng)), .ref cu, .ref ct, .int (iI (nr)), .int (iI (ia)), .int (iI (ib))])) :: (cp, .inl (k 2, aq 6 gp)) :: (cn, .inl (k 3, aq 6 gn)) :: (ce, .inl (k 4, aq 36 rq)) :: (cg, .inl (k 5, aq 6 (gQ ng ga))) :: (cu, .inl (k 0, ai 8 ru)) :: (ct, .inl (k 0, ai 8 rt)) :: tl) (fun v ws' => v = some (.int (iI (cw + 1))) ∧ ((1 ≤ ab ∧ ab ≤ 3600) ∧ (1 ≤ be ∧ be ≤ 12)) ∧ cw < 16 ∧ ws' = (((ga p), .inr (4, [.ref a1, .ref a2, .int (iI (cw + 1)), .long (jJ (sm + (ab * (27720 / be))))])) :: (a1, .inl (k 0, ai 16 (zU gx (cw) (ab)))) :: (a2, .inl (k 0, ai 16 (zU gy (cw) (be)))) :: (cf, .inr (2, [.ref cr, .int (iI (bg)), .int (iI (la)), .int (iI (lr)), .int (iI (wy))])) :: (cr, .inl (k 0, ai 65 pr)) :: (cx, .inr (5, [.ref cf, .ref cp, .int (iI (np)), .ref cn, .int (iI (nt)), .ref ce, .ref cg, .int (iI (ng)), .ref cu, .ref ct, .int (iI (nr)), .int (iI (ia)), .int (iI (ib))])) :: (cp, .inl (k 2, aq 6 gp)) :: (cn, .inl (k 3, aq 6 gn)) :: (ce, .inl (k 4, aq 36 rq)) :: (cg, .inl (k 5, aq 6 (gQ ng ga))) :: (cu, .inl (k 0, ai 8 ru)) :: (ct, .inl (k 0, ai 8 rt)) :: tl)) (fun E ws' => ws' = (((ga p), .inr (4, [.ref a1, .ref a2, .int (iI (cw)), .long (jJ (sm))])) :: (a1, .inl (k 0, ai 16 gx)) :: (a2, .inl (k 0, ai 16 gy)) :: (cf, .inr (2, [.ref cr, .int (iI (bg)), .int (iI (la)), .int (iI (lr)), .int (iI (wy))])) :: (cr, .inl (k 0, ai 65 pr)) :: (cx, .inr (5, [.ref cf, .ref cp, .int (iI (np)), .ref cn, .int (iI (nt)), .ref ce, .ref cg, .int (iI (ng)), .ref cu, .ref ct, .int (iI (nr)), .int (iI (ia)), .int (iI (ib))])) :: (cp, .inl (k 2, aq 6 gp)) :: (cn, .inl (k 3, aq 6 gn)) :: (ce, .inl (k 4, aq 36 rq)) :: (cg, .inl (k 5, aq 6 (gQ ng ga))) :: (cu, .inl (k 0, ai 8 ru)) :: (ct, .inl (k 0, ai 8 rt)) :: tl) ∧ (E = xIA ∧ ¬ ((1 ≤ ab ∧ ab ≤ 3600) ∧ (1 ≤ be ∧ be ≤ 12)) ∨ E = xIS ∧ ((1 ≤ ab ∧ ab ≤ 3600) ∧ (1 ≤ be ∧ be ≤ 12)) ∧ ¬ cw < 16)) 4 24 := by
  refine ex_ofW (cc := b_C_wedge) (maxL := 5) (ret := (some .int)) (hh := []) (by decide +kernel) (Or.inl ⟨g_527, rfl⟩) ?_
  intro p9 e9 s m9 args9 below9 meth9 c9 s9 B9 hml htab hv
  obtain ⟨rfl, h0, hP, hD⟩ := hv
  have hx := B9.exec
  have hb := B9.bytes
  have hr := B9.returns
  have hG := atoms_spec (ws := GW) B9.pre
  have hown : s.vm.findClass "LathePieces" = some m9.cls := findClass_of_methodNamed B9.named
  have hlocks := B9.notSynchronized
  have hK := cx_K hC h0
  have hS : va_S (aL s0) s.heap s.heap [] := va_S.rf
  have hA : ∀ q : Nat, s.heap.size ≤ q → aL s0 q := fun q h => Nat.le_trans h0.2.1 h
  have hl := lv_entry ([.ref cx, .int (iI (p)), .int (iI (ab)), .int (iI (be))]) (n := 5) (Nat.le_of_ble_eq_true rfl)
  rw [lg_entry_eq]
  generalize (lg_sl ([.ref cx, .int (iI (p)), .int (iI (ab)), .int (iI (be))]) ++ List.replicate (5 - (lg_sl ([.ref cx, .int (iI (p)), .int (iI (ab)), .int (iI (be))])).length) Slot.unset).toArray = ls at hl ⊢
  replace hl : lv_has ls 5 [(0, .ref cx), (1, .int (iI (p))), (2, .int (iI (ab))), (3, .int (iI (be)))] := hl
  refine lv_aload_n hx hb d_C_wedge_0 rfl (lv_at hl 0 rfl) ?_
  refine lv_iload_n hx hb d_C_wedge_1 rfl (lv_at hl 1 rfl) ?_
  refine th_call h0 hS htab hlocks (Nat.le_of_ble_eq_true rfl) (Nat.le_of_ble_eq_true rfl) (ex_runV (C := "LathePieces") (As := [.int (iI (p))]) (rest := []) ⟨hx, hb, hml, hown, hG⟩ (c_C_ringAt hC cx cf cp cn ce cg cu ct np nt ng nr ia ib ga p hp hng) (cb_code (n := 1) hG g_531 g_1 g_528 rfl rfl (by decide +kernel) ⟨Nat.le_of_ble_eq_true rfl, Nat.le_of_ble_eq_true rfl⟩) (hG _ g_530) (hG _ gs_C_ringAt) (kd_V ⟨fun _ _ _ _ q => q, fun U hU hW => ⟨rfl, la_next h0 (fun _ z => z) hS U hU hW, (by show va_P D classes _ U.heap; rw [hU]; exact (va_P.sub hP [5, 9] rfl))⟩⟩ (kd_recv hK hP (q0 := 5) (ci := 5) rfl rfl rfl)) rfl rfl hl.1 rfl (lv_room (Nat.le_of_ble_eq_true rfl)) d_C_wedge_2 ⟨Nat.le_of_ble_eq_true rfl, Nat.le_of_ble_eq_true rfl⟩) (fun E hE t hla hz ho => False.elim (hE.2 hp9)) (fun v9 h9 locs hS => ?_)
  obtain ⟨q1, q2, rfl⟩ := h9
  show W _ _ _ _ _ _ _ _ _ _ _ _ _ _ _ (F0 m9 5 ls [.ref (ga p)])
  refine lv_astore (lv' := [(4, .ref (ga p)), (0, .ref cx), (1, .int (iI (p))), (2, .int (iI (ab))), (3, .int (iI (be)))]) hx hb d_C_wedge_5 hl (by decide) rfl (fun ls hl => ?_)
  refine lv_iload_n hx hb d_C_wedge_7 rfl (lv_at hl 3 rfl) ?_
  refine ri_iconst hx hb d_C_wedge_8 ?_
  refine ri_sipush hx hb d_C_wedge_9 (by decide) ?_
  refine th_call h0 hS htab hlocks (Nat.le_of_ble_eq_true rfl) (Nat.le_of_ble_eq_true rfl) (ex_runS (As := [.int (iI (ab)), .int (iI (1)), .int (iI (3600))]) (rest := []) ⟨hx, hb, hml, hown, hG⟩ (c_C_checkNumber hC (ab) (1) (3600) (by omega) (by omega) (by omega)) (cb_code (n := 3) hG g_112 g_1 g_110 rfl rfl (by decide +kernel) ⟨Nat.le_of_ble_eq_true rfl, Nat.le_of_ble_eq_true rfl⟩) (hG _ g_111) ⟨fun _ _ _ _ q => q, fun U hU hW => ⟨rfl, la_next h0 (fun _ z => z) hS U hU hW, trivial⟩⟩ rfl rfl hl.1 rfl (lv_room (Nat.le_of_ble_eq_true rfl)) d_C_wedge_12 ⟨Nat.le_of_ble_eq_true rfl, Nat.le_of_ble_eq_true rfl⟩) (fun E hE t hla hz ho => ⟨_, ⟨rfl, Or.inl ⟨hE.1, fun h => hE.2 h.1⟩⟩, hla, wl_Pk hP ho, hD⟩) (fun v9 h9 locs hS => ?_)
  obtain ⟨rfl, u1, u2⟩ := h9
  show W _ _ _ _ _ _ _ _ _ _ _ _ _ _ _ (F0 m9 15 ls [])
  refine lv_iload_n hx hb d_C_wedge_15 rfl (lv_at hl 4 rfl) ?_
  refine ri_iconst hx hb d_C_wedge_16 ?_
  refine ri_bipush hx hb d_C_wedge_17 (by decide) ?_
  refine th_call h0 hS htab hlocks (Nat.le_of_ble_eq_true rfl) (Nat.le_of_ble_eq_true rfl) (ex_runS (As := [.int (iI (be)), .int (iI (1)), .int (iI (12))]) (rest := []) ⟨hx, hb, hml, hown, hG⟩ (c_C_checkNumber hC (be) (1) (12) (by omega) (by omega) (by omega)) (cb_code (n := 3) hG g_112 g_1 g_110 rfl rfl (by decide +kernel) ⟨Nat.le_of_ble_eq_true rfl, Nat.le_of_ble_eq_true rfl⟩) (hG _ g_111) ⟨fun _ _ _ _ q => q, fun U hU hW => ⟨rfl, la_next h0 (fun _ z => z) hS U hU hW, trivial⟩⟩ rfl rfl hl.1 rfl (lv_room (Nat.le_of_ble_eq_true rfl)) d_C_wedge_19 ⟨Nat.le_of_ble_eq_true rfl, Nat.le_of_ble_eq_true rfl⟩) (fun E hE t hla hz ho => ⟨_, ⟨rfl, Or.inl ⟨hE.1, fun h => hE.2 h.2⟩⟩, hla, wl_Pk hP ho, hD⟩) (fun v9 h9 locs hS => ?_)
  obtain ⟨rfl, z1, z2⟩ := h9
  show W _ _ _ _ _ _ _ _ _ _ _ _ _ _ _ (F0 m9 22 ls [])
  refine lv_aload hx hb d_C_wedge_22 (lv_at hl 0 rfl) ?_
  refine va_get (D := D) (ci := 4) (v := .int (iI (cw))) (C := R_G) (T := F_G) (N := 4) hx hb hG in_G hown hK hP 0 rfl rfl 2 (by decide) (hG _ g_510) (fun _ h9 => h9) rfl d_C_wedge_24 ?_
  refine ri_bipush hx hb d_C_wedge_27 (by decide) ?_
  refine ri_icmp_lt (tgt := 42) hx hb d_C_wedge_29 (by decide) (by omega) (by omega) (fun c29 => ?_) (fun c29 => ?_)
  · refine lv_aload hx hb d_C_wedge_42 (lv_at hl 0 rfl) ?_
    refine lv_iload_n hx hb d_C_wedge_44 rfl (lv_at hl 3 rfl) ?_
    refine lv_iload_n hx hb d_C_wedge_45 rfl (lv_at hl 4 rfl) ?_
    refine wd_call h0 hS htab hlocks (Nat.le_of_ble_eq_true rfl) (Nat.le_of_ble_eq_true rfl) (ex_runV (C := "LathePieces$Ring") (As := [.int (iI (ab)), .int (iI (be))]) (rest := []) ⟨hx, hb, hml, hown, hG⟩ (c_G_addWedge hC (ga p) a1 a2 cw sm gx gy ((cf, .inr (2, [.ref cr, .int (iI (bg)), .int (iI (la)), .int (iI (lr)), .int (iI (wy))])) :: (cr, .inl (k 0, ai 65 pr)) :: (cx, .inr (5, [.ref cf, .ref cp, .int (iI (np)), .ref cn, .int (iI (nt)), .ref ce, .ref cg, .int (iI (ng)), .ref cu, .ref ct, .int (iI (nr)), .int (iI (ia)), .int (iI (ib))])) :: (cp, .inl (k 2, aq 6 gp)) :: (cn, .inl (k 3, aq 6 gn)) :: (ce, .inl (k 4, aq 36 rq)) :: (cg, .inl (k 5, aq 6 (gQ ng ga))) :: (cu, .inl (k 0, ai 8 ru)) :: (ct, .inl (k 0, ai 8 rt)) :: tl) ab be (by omega) ⟨u1, u2⟩ ⟨z1, z2⟩) (cb_code (n := 2) hG g_537 g_16 g_534 rfl rfl (by decide +kernel) ⟨Nat.le_of_ble_eq_true rfl, Nat.le_of_ble_eq_true rfl⟩) (hG _ g_535) (hG _ g_536) (kd_V (kd_preW h0 hS hP hD) (kd_recv hK hP (q0 := 0) (ci := 4) rfl rfl rfl)) rfl rfl hl.1 rfl (lv_room (Nat.le_of_ble_eq_true rfl)) d_C_wedge_46 ⟨Nat.le_of_ble_eq_true rfl, Nat.le_of_ble_eq_true rfl⟩) (fun E ws9 hE t hwd => hE.elim) (fun v9 ws9 h9 H locs hP hD hS => ?_)
    obtain ⟨rfl, rfl⟩ := h9
    show W _ _ _ _ _ _ _ _ _ _ _ _ _ _ _ (F0 m9 49 ls [])
    refine lv_aload hx hb d_C_wedge_49 (lv_at hl 0 rfl) ?_
    refine va_get (D := D) (ci := 4) (v := .int (iI (cw + 1))) (C := R_G) (T := F_G) (N := 4) hx hb hG in_G hown hK hP 0 rfl rfl 2 (by decide) (hG _ g_510) (fun _ h9 => h9) rfl d_C_wedge_51 ?_
    exact re_i hx hb hr hlocks (fun t ht hW => ⟨_, ⟨rfl, ⟨⟨u1, u2⟩, z1, z2⟩, by omega, rfl⟩, wd_next h0 hS hP hD t ht hW⟩) hS.2.2 (Nat.le_of_ble_eq_true rfl) (Nat.le_of_ble_eq_true rfl) d_C_wedge_54
  · exact tk_throw (kl := 2) hC h0 hx hb hown xA_IS (by decide +kernel) g_202 g_200 g_8 g_533 hS (hl.1.trans hml.symm) d_C_wedge_32 d_C_wedge_35 (Or.inl ⟨rfl, d_C_wedge_36⟩) d_C_wedge_38 d_C_wedge_41 htab hlocks (Nat.le_of_ble_eq_true rfl) (Nat.le_of_ble_eq_true rfl) (Nat.le_of_ble_eq_true rfl) (Nat.le_of_ble_eq_true rfl) (fun t hla hz ho => ⟨_, ⟨rfl, Or.inr ⟨rfl, ⟨⟨u1, u2⟩, z1, z2⟩, by omega⟩⟩, hla, wl_Pk hP ho, hD⟩) (Nat.le_of_ble_eq_true rfl) (Nat.le_of_ble_eq_true rfl)

set_option maxHeartbeats 4000000 in
set_option maxRecDepth 100000 in
theorem c_C_wedgeBad {l : Launch} {s0 : State} {D : va_G} {k : Nat → ClassId} (hC : Cx l s0 D k) (cx cf cp cn ce cg cu ct cr : Nat) (np nt ng nr ia ib bg la lr wy : Int) (pr ru rt : Int → Int) (gp gn rq : Int → Option Nat) (tl : va_W) (ga : Int → Nat) (hng : 0 ≤ ng ∧ ng ≤ 6) (p ab be : Int) (hp : In32 p) (hab : In32 ab) (hbe : In32 be) (hp9 : ¬ (0 ≤ p ∧ p < ng)) : WdM l s0 D y_C_wedge { frames := 7, cells := 4, slots := 24, locals := 112 } [.ref cx, .int (iI (p)), .int (iI (ab)), .int (iI (be))] ((cf, .inr (2, [.ref cr, .int (iI (bg)), .int (iI (la)), .int (iI (lr)), .int (iI (wy))])) :: (cr, .inl (k 0, ai 65 pr)) :: (cx, .inr (5, [.ref cf, .ref cp, .int (iI (np)), .ref cn, .int (iI (nt)), .ref ce, .ref cg, .int (iI (ng)), .ref cu, .ref ct, .int (iI (nr)), .int (iI (ia)), .int (iI (ib))])) :: (cp, .inl (k 2, aq 6 gp)) :: (cn, .inl (k 3, aq 6 gn)) :: (ce, .inl (k 4, aq 36 rq)) :: (cg, .inl (k 5, aq 6 (gQ ng ga))) :: (cu, .inl (k 0, ai 8 ru)) :: (ct, .inl (k 0, ai 8 rt)) :: tl) (fun v ws' => False) (fun E ws' => ws' = ((cf, .inr (2, [.ref cr, .int (iI (bg)), .int (iI (la)), .int (iI (lr)), .int (iI (wy))])) :: (cr, .inl (k 0, ai 65 pr)) :: (cx, .inr (5, [.ref cf, .ref cp, .int (iI (np)), .ref cn, .int (iI (nt)), .ref ce, .ref cg, .int (iI (ng)), .ref cu, .ref ct, .int (iI (nr)), .int (iI (ia)), .int (iI (ib))])) :: (cp, .inl (k 2, aq 6 gp)) :: (cn, .inl (k 3, aq 6 gn)) :: (ce, .inl (k 4, aq 36 rq)) :: (cg, .inl (k 5, aq 6 (gQ ng ga))) :: (cu, .inl (k 0, ai 8 ru)) :: (ct, .inl (k 0, ai 8 rt)) :: tl) ∧ E = xIO) 4 24 := by
  refine ex_ofW (cc := b_C_wedge) (maxL := 5) (ret := (some .int)) (hh := []) (by decide +kernel) (Or.inl ⟨g_527, rfl⟩) ?_
  intro p9 e9 s m9 args9 below9 meth9 c9 s9 B9 hml htab hv
  obtain ⟨rfl, h0, hP, hD⟩ := hv
  have hx := B9.exec
  have hb := B9.bytes
  have hr := B9.returns
  have hG := atoms_spec (ws := GW) B9.pre
  have hown : s.vm.findClass "LathePieces" = some m9.cls := findClass_of_methodNamed B9.named
  have hlocks := B9.notSynchronized
  have hK := cx_K hC h0
  have hS : va_S (aL s0) s.heap s.heap [] := va_S.rf
  have hA : ∀ q : Nat, s.heap.size ≤ q → aL s0 q := fun q h => Nat.le_trans h0.2.1 h
  have hl := lv_entry ([.ref cx, .int (iI (p)), .int (iI (ab)), .int (iI (be))]) (n := 5) (Nat.le_of_ble_eq_true rfl)
  rw [lg_entry_eq]
  generalize (lg_sl ([.ref cx, .int (iI (p)), .int (iI (ab)), .int (iI (be))]) ++ List.replicate (5 - (lg_sl ([.ref cx, .int (iI (p)), .int (iI (ab)), .int (iI (be))])).length) Slot.unset).toArray = ls at hl ⊢
  replace hl : lv_has ls 5 [(0, .ref cx), (1, .int (iI (p))), (2, .int (iI (ab))), (3, .int (iI (be)))] := hl
  refine lv_aload_n hx hb d_C_wedge_0 rfl (lv_at hl 0 rfl) ?_
  refine lv_iload_n hx hb d_C_wedge_1 rfl (lv_at hl 1 rfl) ?_
  refine th_call h0 hS htab hlocks (Nat.le_of_ble_eq_true rfl) (Nat.le_of_ble_eq_true rfl) (ex_runV (C := "LathePieces") (As := [.int (iI (p))]) (rest := []) ⟨hx, hb, hml, hown, hG⟩ (c_C_ringAt hC cx cf cp cn ce cg cu ct np nt ng nr ia ib ga p hp hng) (cb_code (n := 1) hG g_531 g_1 g_528 rfl rfl (by decide +kernel) ⟨Nat.le_of_ble_eq_true rfl, Nat.le_of_ble_eq_true rfl⟩) (hG _ g_530) (hG _ gs_C_ringAt) (kd_V ⟨fun _ _ _ _ q => q, fun U hU hW => ⟨rfl, la_next h0 (fun _ z => z) hS U hU hW, (by show va_P D classes _ U.heap; rw [hU]; exact (va_P.sub hP [2, 6] rfl))⟩⟩ (kd_recv hK hP (q0 := 2) (ci := 5) rfl rfl rfl)) rfl rfl hl.1 rfl (lv_room (Nat.le_of_ble_eq_true rfl)) d_C_wedge_2 ⟨Nat.le_of_ble_eq_true rfl, Nat.le_of_ble_eq_true rfl⟩) (fun E hE t hla hz ho => ⟨_, ⟨rfl, hE.1⟩, hla, wl_Pk hP ho, hD⟩) (fun v9 h9 locs hS => ?_)
  obtain ⟨q1, q2, rfl⟩ := h9
  show W _ _ _ _ _ _ _ _ _ _ _ _ _ _ _ (F0 m9 5 ls [.ref (ga p)])
  exact absurd ⟨q1, q2⟩ hp9

theorem mm_app {rs tl wn : va_W} (hrs : ∀ q ∈ rs, q ∈ tl) {q : Nat × va_E} (h : q ∈ wn ++ rs) : q ∈ wn ++ tl := (List.mem_append.mp h).elim (fun g => List.mem_append_left _ g) (fun g => List.mem_append_right _ (hrs _ g))
theorem liA_rg {r hh : Int → Int} {n L : Nat} (hr : ∀ j : Int, 0 ≤ j → j ≤ L → 0 ≤ r j ∧ r j ≤ 500) (hh9 : ∀ j : Int, 0 ≤ j → j ≤ n → 0 ≤ hh j ∧ hh j ≤ 12) (j : Int) (h1 : 0 ≤ j) (h2 : j ≤ L) : 0 ≤ liA r hh n L j ∧ liA r hh n L j ≤ 512 := by
  rw [liA, seqF_in (by omega)]
  exact liF_rg (by omega) hr hh9
theorem loA_rg {r hh : Int → Int} {n L : Nat} (hr : ∀ j : Int, 0 ≤ j → j ≤ L → 0 ≤ r j ∧ r j ≤ 500) (hh9 : ∀ j : Int, 0 ≤ j → j ≤ n → 0 ≤ hh j ∧ hh j ≤ 12) (j : Int) (h1 : 0 ≤ j) (h2 : j ≤ L) : -12 ≤ loA r hh n L j ∧ loA r hh n L j ≤ 512 := by
  rw [loA, seqF_in (by omega)]
  exact loF_rg (by omega) ⟨h1, h2⟩ (liA_rg hr hh9) hh9
set_option maxHeartbeats 4000000 in
set_option maxRecDepth 100000 in
theorem c_C_reached {l : Launch} {s0 : State} {D : va_G} {k : Nat → ClassId} (hC : Cx l s0 D k) (cx cf cp cn ce cg cu ct cr : Nat) (np nt ng nr ia ib bg la lr wy : Int) (pr ru rt : Int → Int) (gg : Int → Option Nat) (pa pq : Int → Nat) (ln bl wm : Int → Int) (pf : Int → Int → Int) (rs tl : va_W) (hpc : PcOk k np pa pq ln bl wm pf rs) (hrs : ∀ q ∈ rs, q ∈ tl) (hnp : 0 ≤ np ∧ np ≤ 6) (na nq : Int → Nat) (no : Int → Int) (hno : NoOk k nt na nq no rs) (hnt : 0 ≤ nt ∧ nt ≤ 6) (rq : Int → Option Nat) (hrq : RqOk k np nt rq ln no pf rs) (p t : Int) (hp : In32 p) (ht : In32 t) (x : Int) (hx9 : In32 x) : WdM l s0 D y_C_reached { frames := 8, cells := 6, slots := 149, locals := 138 } [.ref cx, .int (iI (p)), .int (iI (t)), .int (iI (x))] ((cf, .inr (2, [.ref cr, .int (iI (bg)), .int (iI (la)), .int (iI (lr)), .int (iI (wy))])) :: (cr, .inl (k 0, ai 65 pr)) :: (cx, .inr (5, [.ref cf, .ref cp, .int (iI (np)), .ref cn, .int (iI (nt)), .ref ce, .ref cg, .int (iI (ng)), .ref cu, .ref ct, .int (iI (nr)), .int (iI (ia)), .int (iI (ib))])) :: (cp, .inl (k 2, aq 6 (gQ np pa))) :: (cn, .inl (k 3, aq 6 (gQ nt na))) :: (ce, .inl (k 4, aq 36 rq)) :: (cg, .inl (k 5, aq 6 gg)) :: (cu, .inl (k 0, ai 8 ru)) :: (ct, .inl (k 0, ai 8 rt)) :: tl) (fun v ws' => (0 ≤ p ∧ p < np ∧ 0 ≤ t ∧ t < nt ∧ 0 ≤ x ∧ x ≤ ln p) ∧ v = some (.int (iI ((loA (pf p) (htF (no t).toNat) (no t).toNat (ln p).toNat) x))) ∧ ∃ (wn : va_W) (rq' : Int → Option Nat), ws' = ((cf, .inr (2, [.ref cr, .int (iI (bg)), .int (iI (la)), .int (iI (lr)), .int (iI (wy))])) :: (cr, .inl (k 0, ai 65 pr)) :: (cx, .inr (5, [.ref cf, .ref cp, .int (iI (np)), .ref cn, .int (iI (nt)), .ref ce, .ref cg, .int (iI (ng)), .ref cu, .ref ct, .int (iI (nr)), .int (iI (ia)), .int (iI (ib))])) :: (cp, .inl (k 2, aq 6 (gQ np pa))) :: (cn, .inl (k 3, aq 6 (gQ nt na))) :: (ce, .inl (k 4, aq 36 rq')) :: (cg, .inl (k 5, aq 6 gg)) :: (cu, .inl (k 0, ai 8 ru)) :: (ct, .inl (k 0, ai 8 rt)) :: (wn ++ tl)) ∧ RqOk k np nt rq' ln no pf (wn ++ rs)) (fun E ws' => E = xIO ∧ ¬ (0 ≤ p ∧ p < np ∧ 0 ≤ t ∧ t < nt ∧ 0 ≤ x ∧ x ≤ ln p) ∧ ∃ (wn : va_W) (rq' : Int → Option Nat), ws' = ((cf, .inr (2, [.ref cr, .int (iI (bg)), .int (iI (la)), .int (iI (lr)), .int (iI (wy))])) :: (cr, .inl (k 0, ai 65 pr)) :: (cx, .inr (5, [.ref cf, .ref cp, .int (iI (np)), .ref cn, .int (iI (nt)), .ref ce, .ref cg, .int (iI (ng)), .ref cu, .ref ct, .int (iI (nr)), .int (iI (ia)), .int (iI (ib))])) :: (cp, .inl (k 2, aq 6 (gQ np pa))) :: (cn, .inl (k 3, aq 6 (gQ nt na))) :: (ce, .inl (k 4, aq 36 rq')) :: (cg, .inl (k 5, aq 6 gg)) :: (cu, .inl (k 0, ai 8 ru)) :: (ct, .inl (k 0, ai 8 rt)) :: (wn ++ tl)) ∧ RqOk k np nt rq' ln no pf (wn ++ rs)) 6 149 := by
  refine ex_ofW (cc := b_C_reached) (maxL := 5) (ret := (some .int)) (hh := []) (by decide +kernel) (Or.inl ⟨g_366, rfl⟩) ?_
  intro p9 e9 s m9 args9 below9 meth9 c9 s9 B9 hml htab hv
  obtain ⟨rfl, h0, hP, hD⟩ := hv
  have hx := B9.exec
  have hb := B9.bytes
  have hr := B9.returns
  have hG := atoms_spec (ws := GW) B9.pre
  have hown : s.vm.findClass "LathePieces" = some m9.cls := findClass_of_methodNamed B9.named
  have hlocks := B9.notSynchronized
  have hK := cx_K hC h0
  have hS : va_S (aL s0) s.heap s.heap [] := va_S.rf
  have hA : ∀ q : Nat, s.heap.size ≤ q → aL s0 q := fun q h => Nat.le_trans h0.2.1 h
  have hl := lv_entry ([.ref cx, .int (iI (p)), .int (iI (t)), .int (iI (x))]) (n := 5) (Nat.le_of_ble_eq_true rfl)
  rw [lg_entry_eq]
  generalize (lg_sl ([.ref cx, .int (iI (p)), .int (iI (t)), .int (iI (x))]) ++ List.replicate (5 - (lg_sl ([.ref cx, .int (iI (p)), .int (iI (t)), .int (iI (x))])).length) Slot.unset).toArray = ls at hl ⊢
  replace hl : lv_has ls 5 [(0, .ref cx), (1, .int (iI (p))), (2, .int (iI (t))), (3, .int (iI (x)))] := hl
  refine lv_aload_n hx hb d_C_reached_0 rfl (lv_at hl 0 rfl) ?_
  refine lv_iload_n hx hb d_C_reached_1 rfl (lv_at hl 1 rfl) ?_
  refine lv_iload_n hx hb d_C_reached_2 rfl (lv_at hl 2 rfl) ?_
  refine wd_call h0 hS htab hlocks (Nat.le_of_ble_eq_true rfl) (Nat.le_of_ble_eq_true rfl) (ex_runV (C := "LathePieces") (As := [.int (iI (p)), .int (iI (t))]) (rest := []) ⟨hx, hb, hml, hown, hG⟩ (c_C_reachOf hC cx cf cp cn ce cg cu ct cr np nt ng nr ia ib bg la lr wy pr ru rt gg pa pq ln bl wm pf rs tl hpc hrs hnp na nq no hno hnt rq hrq p t hp ht) (cb_code (n := 2) hG g_370 g_1 g_367 rfl rfl (by decide +kernel) ⟨Nat.le_of_ble_eq_true rfl, Nat.le_of_ble_eq_true rfl⟩) (hG _ g_369) (hG _ gs_C_reachOf) (kd_V (kd_preW h0 hS hP hD) (kd_recv hK hP (q0 := 2) (ci := 5) rfl rfl rfl)) rfl rfl hl.1 rfl (lv_room (Nat.le_of_ble_eq_true rfl)) d_C_reached_3 ⟨Nat.le_of_ble_eq_true rfl, Nat.le_of_ble_eq_true rfl⟩) (fun E ws9 hE t hwd => ⟨_, ⟨hE.2.1, fun q => hE.2.2 ⟨q.1, q.2.1, q.2.2.1, q.2.2.2.1⟩, ⟨[], rq, hE.1, hrq⟩⟩, hwd⟩) (fun v9 ws9 h9 H locs hP hD hS => ?_)
  obtain ⟨q1, q2, q3, q4, a, b, wn, rq', rfl, rfl, hrq2, hm1, hm2⟩ := h9
  show W _ _ _ _ _ _ _ _ _ _ _ _ _ _ _ (F0 m9 6 ls [.ref a])
  have hrs2 : ∀ q ∈ rs, q ∈ wn ++ tl := fun q h => List.mem_append_right _ (hrs q h)
  obtain ⟨i1, i2, L, hL, hL64, hpr, hbl, hbr, e1, e2⟩ := pc_get hpc hrs2 q1 q2
  obtain ⟨j1, j2, N, hN, hN12, d1, d2⟩ := no_get hno hrs2 q3 q4
  have gL : (ln p).toNat = L := by omega
  have gN : (no t).toNat = N := by omega
  obtain ⟨i3, e3⟩ := List.getElem?_of_mem (mm_app hrs hm1)
  obtain ⟨i4, e4⟩ := List.getElem?_of_mem (mm_app hrs hm2)
  rw [gL, gN] at e4
  have hlw := loA_rg (n := N) (L := L) hpr (htF_rg hN12)
  refine lv_astore (lv' := [(4, .ref a), (0, .ref cx), (1, .int (iI (p))), (2, .int (iI (t))), (3, .int (iI (x)))]) hx hb d_C_reached_6 hl (by decide) rfl (fun ls hl => ?_)
  refine lv_iload_n hx hb d_C_reached_8 rfl (lv_at hl 4 rfl) ?_
  refine ri_if_lt (tgt := 22) hx hb d_C_reached_9 (by decide) (by omega) (fun c9 => ?_) (fun c9 => ?_)
  · exact tk_throw (kl := 2) hC h0 hx hb hown xA_IO (by decide +kernel) g_318 g_316 g_13 g_332 hS (hl.1.trans hml.symm) d_C_reached_22 d_C_reached_25 (Or.inl ⟨rfl, d_C_reached_26⟩) d_C_reached_28 d_C_reached_31 htab hlocks (Nat.le_of_ble_eq_true rfl) (Nat.le_of_ble_eq_true rfl) (Nat.le_of_ble_eq_true rfl) (Nat.le_of_ble_eq_true rfl) (fun t hla hz ho => ⟨_, ⟨rfl, by omega, ⟨wn, rq', rfl, hrq2⟩⟩, hla, wl_Pk hP ho, hD⟩) (Nat.le_of_ble_eq_true rfl) (Nat.le_of_ble_eq_true rfl)
  · refine lv_iload_n hx hb d_C_reached_12 rfl (lv_at hl 4 rfl) ?_
    refine lv_aload hx hb d_C_reached_13 (lv_at hl 0 rfl) ?_
    refine va_get (D := D) (ci := 3) (v := .ref b) (C := R_R) (T := F_R) (N := 1) hx hb hG in_R hown hK hP (i3 + 9) e3 rfl 0 (by decide) (hG _ g_393) (fun _ h9 => h9) rfl d_C_reached_15 ?_
    refine ra_alen (z := (L + 1)) hx hb hK hP (i4 + 9) 0 e4 rfl rfl d_C_reached_18 ?_
    refine ri_icmp_lt (tgt := 32) hx hb d_C_reached_19 (by decide) (by omega) (by omega) (fun c19 => ?_) (fun c19 => ?_)
    · refine lv_aload hx hb d_C_reached_32 (lv_at hl 0 rfl) ?_
      refine va_get (D := D) (ci := 3) (v := .ref b) (C := R_R) (T := F_R) (N := 1) hx hb hG in_R hown hK hP (i3 + 9) e3 rfl 0 (by decide) (hG _ g_393) (fun _ h9 => h9) rfl d_C_reached_34 ?_
      refine lv_iload_n hx hb d_C_reached_37 rfl (lv_at hl 4 rfl) ?_
      refine ra_iald hx hb hK hP (i4 + 9) e4 (by omega) (by omega) d_C_reached_38 ?_
      exact re_i hx hb hr hlocks (fun t ht hW => ⟨_, ⟨⟨q1, q2, q3, q4, by omega, by omega⟩, by rw [gL, gN], ⟨wn, rq', rfl, hrq2⟩⟩, wd_next h0 hS hP hD t ht hW⟩) hS.2.2 (Nat.le_of_ble_eq_true rfl) (Nat.le_of_ble_eq_true rfl) d_C_reached_39
    · exact tk_throw (kl := 2) hC h0 hx hb hown xA_IO (by decide +kernel) g_318 g_316 g_13 g_332 hS (hl.1.trans hml.symm) d_C_reached_22 d_C_reached_25 (Or.inl ⟨rfl, d_C_reached_26⟩) d_C_reached_28 d_C_reached_31 htab hlocks (Nat.le_of_ble_eq_true rfl) (Nat.le_of_ble_eq_true rfl) (Nat.le_of_ble_eq_true rfl) (Nat.le_of_ble_eq_true rfl) (fun t hla hz ho => ⟨_, ⟨rfl, by omega, ⟨wn, rq', rfl, hrq2⟩⟩, hla, wl_Pk hP ho, hD⟩) (Nat.le_of_ble_eq_true rfl) (Nat.le_of_ble_eq_true rfl)

set_option maxHeartbeats 4000000 in
set_option maxRecDepth 100000 in
theorem c_C_left {l : Launch} {s0 : State} {D : va_G} {k : Nat → ClassId} (hC : Cx l s0 D k) (cx cf cp cn ce cg cu ct cr : Nat) (np nt ng nr ia ib bg la lr wy : Int) (pr ru rt : Int → Int) (gg : Int → Option Nat) (pa pq : Int → Nat) (ln bl wm : Int → Int) (pf : Int → Int → Int) (rs tl : va_W) (hpc : PcOk k np pa pq ln bl wm pf rs) (hrs : ∀ q ∈ rs, q ∈ tl) (hnp : 0 ≤ np ∧ np ≤ 6) (na nq : Int → Nat) (no : Int → Int) (hno : NoOk k nt na nq no rs) (hnt : 0 ≤ nt ∧ nt ≤ 6) (rq : Int → Option Nat) (hrq : RqOk k np nt rq ln no pf rs) (p t : Int) (hp : In32 p) (ht : In32 t) : WdM l s0 D y_C_left { frames := 8, cells := 6, slots := 149, locals := 138 } [.ref cx, .int (iI (p)), .int (iI (t))] ((cf, .inr (2, [.ref cr, .int (iI (bg)), .int (iI (la)), .int (iI (lr)), .int (iI (wy))])) :: (cr, .inl (k 0, ai 65 pr)) :: (cx, .inr (5, [.ref cf, .ref cp, .int (iI (np)), .ref cn, .int (iI (nt)), .ref ce, .ref cg, .int (iI (ng)), .ref cu, .ref ct, .int (iI (nr)), .int (iI (ia)), .int (iI (ib))])) :: (cp, .inl (k 2, aq 6 (gQ np pa))) :: (cn, .inl (k 3, aq 6 (gQ nt na))) :: (ce, .inl (k 4, aq 36 rq)) :: (cg, .inl (k 5, aq 6 gg)) :: (cu, .inl (k 0, ai 8 ru)) :: (ct, .inl (k 0, ai 8 rt)) :: tl) (fun v ws' => (0 ≤ p ∧ p < np ∧ 0 ≤ t ∧ t < nt) ∧ v = some (.int (iI (cnF (fun j => decide (pf p j < (loA (pf p) (htF (no t).toNat) (no t).toNat (ln p).toNat) j)) 0 ((ln p).toNat + 1)))) ∧ ∃ (wn : va_W) (rq' : Int → Option Nat), ws' = ((cf, .inr (2, [.ref cr, .int (iI (bg)), .int (iI (la)), .int (iI (lr)), .int (iI (wy))])) :: (cr, .inl (k 0, ai 65 pr)) :: (cx, .inr (5, [.ref cf, .ref cp, .int (iI (np)), .ref cn, .int (iI (nt)), .ref ce, .ref cg, .int (iI (ng)), .ref cu, .ref ct, .int (iI (nr)), .int (iI (ia)), .int (iI (ib))])) :: (cp, .inl (k 2, aq 6 (gQ np pa))) :: (cn, .inl (k 3, aq 6 (gQ nt na))) :: (ce, .inl (k 4, aq 36 rq')) :: (cg, .inl (k 5, aq 6 gg)) :: (cu, .inl (k 0, ai 8 ru)) :: (ct, .inl (k 0, ai 8 rt)) :: (wn ++ tl)) ∧ RqOk k np nt rq' ln no pf (wn ++ rs)) (fun E ws' => E = xIO ∧ ¬ (0 ≤ p ∧ p < np ∧ 0 ≤ t ∧ t < nt) ∧ ∃ (wn : va_W) (rq' : Int → Option Nat), ws' = ((cf, .inr (2, [.ref cr, .int (iI (bg)), .int (iI (la)), .int (iI (lr)), .int (iI (wy))])) :: (cr, .inl (k 0, ai 65 pr)) :: (cx, .inr (5, [.ref cf, .ref cp, .int (iI (np)), .ref cn, .int (iI (nt)), .ref ce, .ref cg, .int (iI (ng)), .ref cu, .ref ct, .int (iI (nr)), .int (iI (ia)), .int (iI (ib))])) :: (cp, .inl (k 2, aq 6 (gQ np pa))) :: (cn, .inl (k 3, aq 6 (gQ nt na))) :: (ce, .inl (k 4, aq 36 rq')) :: (cg, .inl (k 5, aq 6 gg)) :: (cu, .inl (k 0, ai 8 ru)) :: (ct, .inl (k 0, ai 8 rt)) :: (wn ++ tl)) ∧ RqOk k np nt rq' ln no pf (wn ++ rs)) 6 149 := by
  refine ex_ofW (cc := b_C_left) (maxL := 3) (ret := (some .int)) (hh := []) (by decide +kernel) (Or.inl ⟨g_403, rfl⟩) ?_
  intro p9 e9 s m9 args9 below9 meth9 c9 s9 B9 hml htab hv
  obtain ⟨rfl, h0, hP, hD⟩ := hv
  have hx := B9.exec
  have hb := B9.bytes
  have hr := B9.returns
  have hG := atoms_spec (ws := GW) B9.pre
  have hown : s.vm.findClass "LathePieces" = some m9.cls := findClass_of_methodNamed B9.named
  have hlocks := B9.notSynchronized
  have hK := cx_K hC h0
  have hS : va_S (aL s0) s.heap s.heap [] := va_S.rf
  have hA : ∀ q : Nat, s.heap.size ≤ q → aL s0 q := fun q h => Nat.le_trans h0.2.1 h
  have hl := lv_entry ([.ref cx, .int (iI (p)), .int (iI (t))]) (n := 3) (Nat.le_of_ble_eq_true rfl)
  rw [lg_entry_eq]
  generalize (lg_sl ([.ref cx, .int (iI (p)), .int (iI (t))]) ++ List.replicate (3 - (lg_sl ([.ref cx, .int (iI (p)), .int (iI (t))])).length) Slot.unset).toArray = ls at hl ⊢
  replace hl : lv_has ls 3 [(0, .ref cx), (1, .int (iI (p))), (2, .int (iI (t)))] := hl
  refine lv_aload_n hx hb d_C_left_0 rfl (lv_at hl 0 rfl) ?_
  refine lv_iload_n hx hb d_C_left_1 rfl (lv_at hl 1 rfl) ?_
  refine lv_iload_n hx hb d_C_left_2 rfl (lv_at hl 2 rfl) ?_
  refine wd_call h0 hS htab hlocks (Nat.le_of_ble_eq_true rfl) (Nat.le_of_ble_eq_true rfl) (ex_runV (C := "LathePieces") (As := [.int (iI (p)), .int (iI (t))]) (rest := []) ⟨hx, hb, hml, hown, hG⟩ (c_C_reachOf hC cx cf cp cn ce cg cu ct cr np nt ng nr ia ib bg la lr wy pr ru rt gg pa pq ln bl wm pf rs tl hpc hrs hnp na nq no hno hnt rq hrq p t hp ht) (cb_code (n := 2) hG g_370 g_1 g_367 rfl rfl (by decide +kernel) ⟨Nat.le_of_ble_eq_true rfl, Nat.le_of_ble_eq_true rfl⟩) (hG _ g_369) (hG _ gs_C_reachOf) (kd_V (kd_preW h0 hS hP hD) (kd_recv hK hP (q0 := 2) (ci := 5) rfl rfl rfl)) rfl rfl hl.1 rfl (lv_room (Nat.le_of_ble_eq_true rfl)) d_C_left_3 ⟨Nat.le_of_ble_eq_true rfl, Nat.le_of_ble_eq_true rfl⟩) (fun E ws9 hE t hwd => ⟨_, ⟨hE.2.1, hE.2.2, ⟨[], rq, hE.1, hrq⟩⟩, hwd⟩) (fun v9 ws9 h9 H locs hP hD hS => ?_)
  obtain ⟨q1, q2, q3, q4, a, b, wn, rq', rfl, rfl, hrq2, hm1, hm2⟩ := h9
  show W _ _ _ _ _ _ _ _ _ _ _ _ _ _ _ (F0 m9 6 ls [.ref a])
  have hrs2 : ∀ q ∈ rs, q ∈ wn ++ tl := fun q h => List.mem_append_right _ (hrs q h)
  obtain ⟨i1, i2, L, hL, hL64, hpr, hbl, hbr, e1, e2⟩ := pc_get hpc hrs2 q1 q2
  obtain ⟨j1, j2, N, hN, hN12, d1, d2⟩ := no_get hno hrs2 q3 q4
  have gL : (ln p).toNat = L := by omega
  have gN : (no t).toNat = N := by omega
  obtain ⟨i3, e3⟩ := List.getElem?_of_mem (mm_app hrs hm1)
  obtain ⟨i4, e4⟩ := List.getElem?_of_mem (mm_app hrs hm2)
  rw [gL, gN] at e4
  have hlw := loA_rg (n := N) (L := L) hpr (htF_rg hN12)
  refine lv_aload_n hx hb d_C_left_6 rfl (lv_at hl 0 rfl) ?_
  refine lv_iload_n hx hb d_C_left_7 rfl (lv_at hl 1 rfl) ?_
  refine th_call h0 hS htab hlocks (Nat.le_of_ble_eq_true rfl) (Nat.le_of_ble_eq_true rfl) (ex_runV (C := "LathePieces") (As := [.int (iI (p))]) (rest := [.ref a]) ⟨hx, hb, hml, hown, hG⟩ (c_C_pieceAt hC cx cf cp cn ce cg cu ct np nt ng nr ia ib pa p hp hnp) (cb_code (n := 1) hG g_315 g_1 g_312 rfl rfl (by decide +kernel) ⟨Nat.le_of_ble_eq_true rfl, Nat.le_of_ble_eq_true rfl⟩) (hG _ g_314) (hG _ gs_C_pieceAt) (kd_V ⟨fun _ _ _ _ q => q, fun U hU hW => ⟨rfl, la_next h0 (fun _ z => z) hS U hU hW, (by show va_P D classes _ U.heap; rw [hU]; exact (va_P.sub hP [2, 3] rfl))⟩⟩ (kd_recv hK hP (q0 := 2) (ci := 5) rfl rfl rfl)) rfl rfl hl.1 rfl (lv_room (Nat.le_of_ble_eq_true rfl)) d_C_left_8 ⟨Nat.le_of_ble_eq_true rfl, Nat.le_of_ble_eq_true rfl⟩) (fun E hE t hla hz ho => False.elim (hE.2 ⟨q1, q2⟩)) (fun v9 h9 locs hS => ?_)
  obtain ⟨q5, q6, rfl⟩ := h9
  show W _ _ _ _ _ _ _ _ _ _ _ _ _ _ _ (F0 m9 11 ls [.ref (pa p), .ref a])
  refine va_get (D := D) (ci := 1) (v := .ref (pq p)) (C := R_P) (T := F_P) (N := 4) hx hb hG in_P hown hK hP (i1 + 9) e1 rfl 0 (by decide) (hG _ g_284) (fun _ h9 => h9) rfl d_C_left_11 ?_
  refine rd_call (ex_runV (C := "LathePieces$Reach") (As := [.ref (pq p)]) (rest := []) ⟨hx, hb, hml, hown, hG⟩ (c_R_placesAbove hC a b L (loA (pf p) (htF N) N L) hL64 hlw (pq p) (pf p) hpr) (cb_code (n := 1) hG g_407 g_15 g_404 rfl rfl (by decide +kernel) ⟨Nat.le_of_ble_eq_true rfl, Nat.le_of_ble_eq_true rfl⟩) (hG _ g_405) (hG _ g_406) (kd_V ⟨fun _ _ _ _ q => q, fun U hU hW => ⟨rfl, la_next h0 (fun _ z => z) hS U hU hW, (by show va_P D classes _ U.heap; rw [hU]; exact (wl_P3 hP (a := i3 + 9) (b := i4 + 9) (c := i2 + 9) e3 e4 e2))⟩⟩ (kd_recv hK hP (q0 := (i3 + 9)) (ci := 3) rfl e3 rfl)) rfl rfl hl.1 rfl (lv_room (Nat.le_of_ble_eq_true rfl)) d_C_left_14 ⟨Nat.le_of_ble_eq_true rfl, Nat.le_of_ble_eq_true rfl⟩) (fun v9 h9 => ?_)
  obtain rfl := h9
  show W _ _ _ _ _ _ _ _ _ _ _ _ _ _ _ (F0 m9 17 ls [.int (iI (cnF (fun j => decide (pf p j < (loA (pf p) (htF N) N L) j)) 0 (L + 1)))])
  exact re_i hx hb hr hlocks (fun t ht hW => ⟨_, ⟨⟨q1, q2, q3, q4⟩, by rw [gL, gN], ⟨wn, rq', rfl, hrq2⟩⟩, wd_next h0 hS hP hD t ht hW⟩) hS.2.2 (Nat.le_of_ble_eq_true rfl) (Nat.le_of_ble_eq_true rfl) d_C_left_17

set_option maxHeartbeats 4000000 in
set_option maxRecDepth 100000 in
theorem c_C_passes {l : Launch} {s0 : State} {D : va_G} {k : Nat → ClassId} (hC : Cx l s0 D k) (cx cf cp cn ce cg cu ct cr : Nat) (np nt ng nr ia ib bg la lr wy : Int) (pr ru rt : Int → Int) (gg : Int → Option Nat) (pa pq : Int → Nat) (ln bl wm : Int → Int) (pf : Int → Int → Int) (rs tl : va_W) (hpc : PcOk k np pa pq ln bl wm pf rs) (hrs : ∀ q ∈ rs, q ∈ tl) (hnp : 0 ≤ np ∧ np ≤ 6) (na nq : Int → Nat) (no : Int → Int) (hno : NoOk k nt na nq no rs) (hnt : 0 ≤ nt ∧ nt ≤ 6) (rq : Int → Option Nat) (hrq : RqOk k np nt rq ln no pf rs) (p t : Int) (hp : In32 p) (ht : In32 t) (dp sk : Int) (hdp : In32 dp) (hsk : In32 sk) : WdM l s0 D y_C_passes { frames := 8, cells := 8, slots := 161, locals := 138 } [.ref cx, .int (iI (p)), .int (iI (t)), .int (iI (dp)), .int (iI (sk))] ((cf, .inr (2, [.ref cr, .int (iI (bg)), .int (iI (la)), .int (iI (lr)), .int (iI (wy))])) :: (cr, .inl (k 0, ai 65 pr)) :: (cx, .inr (5, [.ref cf, .ref cp, .int (iI (np)), .ref cn, .int (iI (nt)), .ref ce, .ref cg, .int (iI (ng)), .ref cu, .ref ct, .int (iI (nr)), .int (iI (ia)), .int (iI (ib))])) :: (cp, .inl (k 2, aq 6 (gQ np pa))) :: (cn, .inl (k 3, aq 6 (gQ nt na))) :: (ce, .inl (k 4, aq 36 rq)) :: (cg, .inl (k 5, aq 6 gg)) :: (cu, .inl (k 0, ai 8 ru)) :: (ct, .inl (k 0, ai 8 rt)) :: tl) (fun v ws' => (0 ≤ p ∧ p < np ∧ 0 ≤ t ∧ t < nt) ∧ (1 ≤ dp ∧ dp ≤ 100 ∧ 0 ≤ sk ∧ sk ≤ 50) ∧ v = some (.int (iI ((bl p - itF min (fun j => min ((loA (pf p) (htF (no t).toNat) (no t).toNat (ln p).toNat) j + sk) (bl p)) (bl p) 0 ((ln p).toNat + 1) + dp - 1).tdiv dp))) ∧ ∃ (wn : va_W) (rq' : Int → Option Nat), ws' = ((cf, .inr (2, [.ref cr, .int (iI (bg)), .int (iI (la)), .int (iI (lr)), .int (iI (wy))])) :: (cr, .inl (k 0, ai 65 pr)) :: (cx, .inr (5, [.ref cf, .ref cp, .int (iI (np)), .ref cn, .int (iI (nt)), .ref ce, .ref cg, .int (iI (ng)), .ref cu, .ref ct, .int (iI (nr)), .int (iI (ia)), .int (iI (ib))])) :: (cp, .inl (k 2, aq 6 (gQ np pa))) :: (cn, .inl (k 3, aq 6 (gQ nt na))) :: (ce, .inl (k 4, aq 36 rq')) :: (cg, .inl (k 5, aq 6 gg)) :: (cu, .inl (k 0, ai 8 ru)) :: (ct, .inl (k 0, ai 8 rt)) :: (wn ++ tl)) ∧ RqOk k np nt rq' ln no pf (wn ++ rs)) (fun E ws' => (E = xIO ∧ ¬ (0 ≤ p ∧ p < np ∧ 0 ≤ t ∧ t < nt) ∨ E = xIA ∧ (0 ≤ p ∧ p < np ∧ 0 ≤ t ∧ t < nt) ∧ ¬ (1 ≤ dp ∧ dp ≤ 100 ∧ 0 ≤ sk ∧ sk ≤ 50)) ∧ ∃ (wn : va_W) (rq' : Int → Option Nat), ws' = ((cf, .inr (2, [.ref cr, .int (iI (bg)), .int (iI (la)), .int (iI (lr)), .int (iI (wy))])) :: (cr, .inl (k 0, ai 65 pr)) :: (cx, .inr (5, [.ref cf, .ref cp, .int (iI (np)), .ref cn, .int (iI (nt)), .ref ce, .ref cg, .int (iI (ng)), .ref cu, .ref ct, .int (iI (nr)), .int (iI (ia)), .int (iI (ib))])) :: (cp, .inl (k 2, aq 6 (gQ np pa))) :: (cn, .inl (k 3, aq 6 (gQ nt na))) :: (ce, .inl (k 4, aq 36 rq')) :: (cg, .inl (k 5, aq 6 gg)) :: (cu, .inl (k 0, ai 8 ru)) :: (ct, .inl (k 0, ai 8 rt)) :: (wn ++ tl)) ∧ RqOk k np nt rq' ln no pf (wn ++ rs)) 8 161 := by
  refine ex_ofW (cc := b_C_passes) (maxL := 6) (ret := (some .int)) (hh := []) (by decide +kernel) (Or.inl ⟨g_414, rfl⟩) ?_
  intro p9 e9 s m9 args9 below9 meth9 c9 s9 B9 hml htab hv
  obtain ⟨rfl, h0, hP, hD⟩ := hv
  have hx := B9.exec
  have hb := B9.bytes
  have hr := B9.returns
  have hG := atoms_spec (ws := GW) B9.pre
  have hown : s.vm.findClass "LathePieces" = some m9.cls := findClass_of_methodNamed B9.named
  have hlocks := B9.notSynchronized
  have hK := cx_K hC h0
  have hS : va_S (aL s0) s.heap s.heap [] := va_S.rf
  have hA : ∀ q : Nat, s.heap.size ≤ q → aL s0 q := fun q h => Nat.le_trans h0.2.1 h
  have hl := lv_entry ([.ref cx, .int (iI (p)), .int (iI (t)), .int (iI (dp)), .int (iI (sk))]) (n := 6) (Nat.le_of_ble_eq_true rfl)
  rw [lg_entry_eq]
  generalize (lg_sl ([.ref cx, .int (iI (p)), .int (iI (t)), .int (iI (dp)), .int (iI (sk))]) ++ List.replicate (6 - (lg_sl ([.ref cx, .int (iI (p)), .int (iI (t)), .int (iI (dp)), .int (iI (sk))])).length) Slot.unset).toArray = ls at hl ⊢
  replace hl : lv_has ls 6 [(0, .ref cx), (1, .int (iI (p))), (2, .int (iI (t))), (3, .int (iI (dp))), (4, .int (iI (sk)))] := hl
  refine lv_aload_n hx hb d_C_passes_0 rfl (lv_at hl 0 rfl) ?_
  refine lv_iload_n hx hb d_C_passes_1 rfl (lv_at hl 1 rfl) ?_
  refine lv_iload_n hx hb d_C_passes_2 rfl (lv_at hl 2 rfl) ?_
  refine wd_call h0 hS htab hlocks (Nat.le_of_ble_eq_true rfl) (Nat.le_of_ble_eq_true rfl) (ex_runV (C := "LathePieces") (As := [.int (iI (p)), .int (iI (t))]) (rest := []) ⟨hx, hb, hml, hown, hG⟩ (c_C_reachOf hC cx cf cp cn ce cg cu ct cr np nt ng nr ia ib bg la lr wy pr ru rt gg pa pq ln bl wm pf rs tl hpc hrs hnp na nq no hno hnt rq hrq p t hp ht) (cb_code (n := 2) hG g_370 g_1 g_367 rfl rfl (by decide +kernel) ⟨Nat.le_of_ble_eq_true rfl, Nat.le_of_ble_eq_true rfl⟩) (hG _ g_369) (hG _ gs_C_reachOf) (kd_V (kd_preW h0 hS hP hD) (kd_recv hK hP (q0 := 2) (ci := 5) rfl rfl rfl)) rfl rfl hl.1 rfl (lv_room (Nat.le_of_ble_eq_true rfl)) d_C_passes_3 ⟨Nat.le_of_ble_eq_true rfl, Nat.le_of_ble_eq_true rfl⟩) (fun E ws9 hE t hwd => ⟨_, ⟨Or.inl ⟨hE.2.1, hE.2.2⟩, ⟨[], rq, hE.1, hrq⟩⟩, hwd⟩) (fun v9 ws9 h9 H locs hP hD hS => ?_)
  obtain ⟨q1, q2, q3, q4, a, b, wn, rq', rfl, rfl, hrq2, hm1, hm2⟩ := h9
  show W _ _ _ _ _ _ _ _ _ _ _ _ _ _ _ (F0 m9 6 ls [.ref a])
  have hrs2 : ∀ q ∈ rs, q ∈ wn ++ tl := fun q h => List.mem_append_right _ (hrs q h)
  obtain ⟨i1, i2, L, hL, hL64, hpr, hbl, hbr, e1, e2⟩ := pc_get hpc hrs2 q1 q2
  obtain ⟨j1, j2, N, hN, hN12, d1, d2⟩ := no_get hno hrs2 q3 q4
  have gL : (ln p).toNat = L := by omega
  have gN : (no t).toNat = N := by omega
  obtain ⟨i3, e3⟩ := List.getElem?_of_mem (mm_app hrs hm1)
  obtain ⟨i4, e4⟩ := List.getElem?_of_mem (mm_app hrs hm2)
  rw [gL, gN] at e4
  have hlw := loA_rg (n := N) (L := L) hpr (htF_rg hN12)
  refine lv_astore (lv' := [(5, .ref a), (0, .ref cx), (1, .int (iI (p))), (2, .int (iI (t))), (3, .int (iI (dp))), (4, .int (iI (sk)))]) hx hb d_C_passes_6 hl (by decide) rfl (fun ls hl => ?_)
  refine lv_iload_n hx hb d_C_passes_8 rfl (lv_at hl 4 rfl) ?_
  refine lv_iload hx hb d_C_passes_9 (lv_at hl 5 rfl) ?_
  refine th_call h0 hS htab hlocks (Nat.le_of_ble_eq_true rfl) (Nat.le_of_ble_eq_true rfl) (ex_runS (As := [.int (iI (dp)), .int (iI (sk))]) (rest := []) ⟨hx, hb, hml, hown, hG⟩ (c_C_checkRough hC dp sk hdp hsk) (cb_code (n := 2) hG g_417 g_1 g_415 rfl rfl (by decide +kernel) ⟨Nat.le_of_ble_eq_true rfl, Nat.le_of_ble_eq_true rfl⟩) (hG _ g_416) ⟨fun _ _ _ _ q => q, fun U hU hW => ⟨rfl, la_next h0 (fun _ z => z) hS U hU hW, trivial⟩⟩ rfl rfl hl.1 rfl (lv_room (Nat.le_of_ble_eq_true rfl)) d_C_passes_11 ⟨Nat.le_of_ble_eq_true rfl, Nat.le_of_ble_eq_true rfl⟩) (fun E hE t hla hz ho => ⟨_, ⟨Or.inr ⟨hE.1, ⟨q1, q2, q3, q4⟩, hE.2⟩, ⟨wn, rq', rfl, hrq2⟩⟩, hla, wl_Pk hP ho, hD⟩) (fun v9 h9 locs hS => ?_)
  obtain ⟨rfl, u1⟩ := h9
  show W _ _ _ _ _ _ _ _ _ _ _ _ _ _ _ (F0 m9 14 ls [])
  refine lv_aload hx hb d_C_passes_14 (lv_at hl 0 rfl) ?_
  refine lv_aload_n hx hb d_C_passes_16 rfl (lv_at hl 1 rfl) ?_
  refine lv_iload_n hx hb d_C_passes_17 rfl (lv_at hl 2 rfl) ?_
  refine th_call h0 hS htab hlocks (Nat.le_of_ble_eq_true rfl) (Nat.le_of_ble_eq_true rfl) (ex_runV (C := "LathePieces") (As := [.int (iI (p))]) (rest := [.ref a]) ⟨hx, hb, hml, hown, hG⟩ (c_C_pieceAt hC cx cf cp cn ce cg cu ct np nt ng nr ia ib pa p hp hnp) (cb_code (n := 1) hG g_315 g_1 g_312 rfl rfl (by decide +kernel) ⟨Nat.le_of_ble_eq_true rfl, Nat.le_of_ble_eq_true rfl⟩) (hG _ g_314) (hG _ gs_C_pieceAt) (kd_V ⟨fun _ _ _ _ q => q, fun U hU hW => ⟨rfl, la_next h0 (fun _ z => z) hS U hU hW, (by show va_P D classes _ U.heap; rw [hU]; exact (va_P.sub hP [2, 3] rfl))⟩⟩ (kd_recv hK hP (q0 := 2) (ci := 5) rfl rfl rfl)) rfl rfl hl.1 rfl (lv_room (Nat.le_of_ble_eq_true rfl)) d_C_passes_18 ⟨Nat.le_of_ble_eq_true rfl, Nat.le_of_ble_eq_true rfl⟩) (fun E hE t hla hz ho => False.elim (hE.2 ⟨q1, q2⟩)) (fun v9 h9 locs hS => ?_)
  obtain ⟨q5, q6, rfl⟩ := h9
  show W _ _ _ _ _ _ _ _ _ _ _ _ _ _ _ (F0 m9 21 ls [.ref (pa p), .ref a])
  refine va_get (D := D) (ci := 1) (v := .int (iI (bl p))) (C := R_P) (T := F_P) (N := 4) hx hb hG in_P hown hK hP (i1 + 9) e1 rfl 2 (by decide) (hG _ g_288) (fun _ h9 => h9) rfl d_C_passes_21 ?_
  refine lv_iload_n hx hb d_C_passes_24 rfl (lv_at hl 4 rfl) ?_
  refine lv_iload hx hb d_C_passes_25 (lv_at hl 5 rfl) ?_
  refine rd_call (ex_runV (C := "LathePieces$Reach") (As := [.int (iI (bl p)), .int (iI (dp)), .int (iI (sk))]) (rest := []) ⟨hx, hb, hml, hown, hG⟩ (c_R_passCount hC a b L (loA (pf p) (htF N) N L) hL64 hlw (bl p) dp sk (by omega) (by omega) (by omega)) (cb_code (n := 3) hG g_421 g_15 g_418 rfl rfl (by decide +kernel) ⟨Nat.le_of_ble_eq_true rfl, Nat.le_of_ble_eq_true rfl⟩) (hG _ g_419) (hG _ g_420) (kd_V ⟨fun _ _ _ _ q => q, fun U hU hW => ⟨rfl, la_next h0 (fun _ z => z) hS U hU hW, (by show va_P D classes _ U.heap; rw [hU]; exact (wl_P2 hP (a := i3 + 9) (b := i4 + 9) e3 e4))⟩⟩ (kd_recv hK hP (q0 := (i3 + 9)) (ci := 3) rfl e3 rfl)) rfl rfl hl.1 rfl (lv_room (Nat.le_of_ble_eq_true rfl)) d_C_passes_27 ⟨Nat.le_of_ble_eq_true rfl, Nat.le_of_ble_eq_true rfl⟩) (fun v9 h9 => ?_)
  obtain rfl := h9
  show W _ _ _ _ _ _ _ _ _ _ _ _ _ _ _ (F0 m9 30 ls [.int (iI ((bl p - itF min (fun j => min ((loA (pf p) (htF N) N L) j + sk) (bl p)) (bl p) 0 (L + 1) + dp - 1).tdiv dp))])
  exact re_i hx hb hr hlocks (fun t ht hW => ⟨_, ⟨⟨q1, q2, q3, q4⟩, u1, by rw [gL, gN], ⟨wn, rq', rfl, hrq2⟩⟩, wd_next h0 hS hP hD t ht hW⟩) hS.2.2 (Nat.le_of_ble_eq_true rfl) (Nat.le_of_ble_eq_true rfl) d_C_passes_30

set_option maxHeartbeats 4000000 in
set_option maxRecDepth 100000 in
theorem c_C_cut {l : Launch} {s0 : State} {D : va_G} {k : Nat → ClassId} (hC : Cx l s0 D k) (cx cf cp cn ce cg cu ct cr : Nat) (np nt ng nr ia ib bg la lr wy : Int) (pr ru rt : Int → Int) (gg : Int → Option Nat) (pa pq : Int → Nat) (ln bl wm : Int → Int) (pf : Int → Int → Int) (rs tl : va_W) (hpc : PcOk k np pa pq ln bl wm pf rs) (hrs : ∀ q ∈ rs, q ∈ tl) (hnp : 0 ≤ np ∧ np ≤ 6) (na nq : Int → Nat) (no : Int → Int) (hno : NoOk k nt na nq no rs) (hnt : 0 ≤ nt ∧ nt ≤ 6) (rq : Int → Option Nat) (hrq : RqOk k np nt rq ln no pf rs) (p t : Int) (hp : In32 p) (ht : In32 t) (dp sk : Int) (hdp : In32 dp) (hsk : In32 sk) (kk : Int) (hkk : In32 kk) : WdM l s0 D y_C_cut { frames := 8, cells := 9, slots := 167, locals := 138 } [.ref cx, .int (iI (p)), .int (iI (t)), .int (iI (dp)), .int (iI (sk)), .int (iI (kk))] ((cf, .inr (2, [.ref cr, .int (iI (bg)), .int (iI (la)), .int (iI (lr)), .int (iI (wy))])) :: (cr, .inl (k 0, ai 65 pr)) :: (cx, .inr (5, [.ref cf, .ref cp, .int (iI (np)), .ref cn, .int (iI (nt)), .ref ce, .ref cg, .int (iI (ng)), .ref cu, .ref ct, .int (iI (nr)), .int (iI (ia)), .int (iI (ib))])) :: (cp, .inl (k 2, aq 6 (gQ np pa))) :: (cn, .inl (k 3, aq 6 (gQ nt na))) :: (ce, .inl (k 4, aq 36 rq)) :: (cg, .inl (k 5, aq 6 gg)) :: (cu, .inl (k 0, ai 8 ru)) :: (ct, .inl (k 0, ai 8 rt)) :: tl) (fun v ws' => (0 ≤ p ∧ p < np ∧ 0 ≤ t ∧ t < nt) ∧ ((1 ≤ dp ∧ dp ≤ 100 ∧ 0 ≤ sk ∧ sk ≤ 50) ∧ 1 ≤ kk) ∧ v = some (.int (iI (cnF (fun j => decide (min ((loA (pf p) (htF (no t).toNat) (no t).toNat (ln p).toNat) j + sk) (bl p) < bl p - (kk - 1) * dp)) 0 ((ln p).toNat + 1)))) ∧ ∃ (wn : va_W) (rq' : Int → Option Nat), ws' = ((cf, .inr (2, [.ref cr, .int (iI (bg)), .int (iI (la)), .int (iI (lr)), .int (iI (wy))])) :: (cr, .inl (k 0, ai 65 pr)) :: (cx, .inr (5, [.ref cf, .ref cp, .int (iI (np)), .ref cn, .int (iI (nt)), .ref ce, .ref cg, .int (iI (ng)), .ref cu, .ref ct, .int (iI (nr)), .int (iI (ia)), .int (iI (ib))])) :: (cp, .inl (k 2, aq 6 (gQ np pa))) :: (cn, .inl (k 3, aq 6 (gQ nt na))) :: (ce, .inl (k 4, aq 36 rq')) :: (cg, .inl (k 5, aq 6 gg)) :: (cu, .inl (k 0, ai 8 ru)) :: (ct, .inl (k 0, ai 8 rt)) :: (wn ++ tl)) ∧ RqOk k np nt rq' ln no pf (wn ++ rs)) (fun E ws' => (E = xIO ∧ ¬ (0 ≤ p ∧ p < np ∧ 0 ≤ t ∧ t < nt) ∨ E = xIA ∧ (0 ≤ p ∧ p < np ∧ 0 ≤ t ∧ t < nt) ∧ ¬ ((1 ≤ dp ∧ dp ≤ 100 ∧ 0 ≤ sk ∧ sk ≤ 50) ∧ 1 ≤ kk)) ∧ ∃ (wn : va_W) (rq' : Int → Option Nat), ws' = ((cf, .inr (2, [.ref cr, .int (iI (bg)), .int (iI (la)), .int (iI (lr)), .int (iI (wy))])) :: (cr, .inl (k 0, ai 65 pr)) :: (cx, .inr (5, [.ref cf, .ref cp, .int (iI (np)), .ref cn, .int (iI (nt)), .ref ce, .ref cg, .int (iI (ng)), .ref cu, .ref ct, .int (iI (nr)), .int (iI (ia)), .int (iI (ib))])) :: (cp, .inl (k 2, aq 6 (gQ np pa))) :: (cn, .inl (k 3, aq 6 (gQ nt na))) :: (ce, .inl (k 4, aq 36 rq')) :: (cg, .inl (k 5, aq 6 gg)) :: (cu, .inl (k 0, ai 8 ru)) :: (ct, .inl (k 0, ai 8 rt)) :: (wn ++ tl)) ∧ RqOk k np nt rq' ln no pf (wn ++ rs)) 9 167 := by
  refine ex_ofW (cc := b_C_cut) (maxL := 8) (ret := (some .int)) (hh := []) (by decide +kernel) (Or.inl ⟨g_432, rfl⟩) ?_
  intro p9 e9 s m9 args9 below9 meth9 c9 s9 B9 hml htab hv
  obtain ⟨rfl, h0, hP, hD⟩ := hv
  have hx := B9.exec
  have hb := B9.bytes
  have hr := B9.returns
  have hG := atoms_spec (ws := GW) B9.pre
  have hown : s.vm.findClass "LathePieces" = some m9.cls := findClass_of_methodNamed B9.named
  have hlocks := B9.notSynchronized
  have hK := cx_K hC h0
  have hS : va_S (aL s0) s.heap s.heap [] := va_S.rf
  have hA : ∀ q : Nat, s.heap.size ≤ q → aL s0 q := fun q h => Nat.le_trans h0.2.1 h
  have hl := lv_entry ([.ref cx, .int (iI (p)), .int (iI (t)), .int (iI (dp)), .int (iI (sk)), .int (iI (kk))]) (n := 8) (Nat.le_of_ble_eq_true rfl)
  rw [lg_entry_eq]
  generalize (lg_sl ([.ref cx, .int (iI (p)), .int (iI (t)), .int (iI (dp)), .int (iI (sk)), .int (iI (kk))]) ++ List.replicate (8 - (lg_sl ([.ref cx, .int (iI (p)), .int (iI (t)), .int (iI (dp)), .int (iI (sk)), .int (iI (kk))])).length) Slot.unset).toArray = ls at hl ⊢
  replace hl : lv_has ls 8 [(0, .ref cx), (1, .int (iI (p))), (2, .int (iI (t))), (3, .int (iI (dp))), (4, .int (iI (sk))), (5, .int (iI (kk)))] := hl
  refine lv_aload_n hx hb d_C_cut_0 rfl (lv_at hl 0 rfl) ?_
  refine lv_iload_n hx hb d_C_cut_1 rfl (lv_at hl 1 rfl) ?_
  refine lv_iload_n hx hb d_C_cut_2 rfl (lv_at hl 2 rfl) ?_
  refine wd_call h0 hS htab hlocks (Nat.le_of_ble_eq_true rfl) (Nat.le_of_ble_eq_true rfl) (ex_runV (C := "LathePieces") (As := [.int (iI (p)), .int (iI (t))]) (rest := []) ⟨hx, hb, hml, hown, hG⟩ (c_C_reachOf hC cx cf cp cn ce cg cu ct cr np nt ng nr ia ib bg la lr wy pr ru rt gg pa pq ln bl wm pf rs tl hpc hrs hnp na nq no hno hnt rq hrq p t hp ht) (cb_code (n := 2) hG g_370 g_1 g_367 rfl rfl (by decide +kernel) ⟨Nat.le_of_ble_eq_true rfl, Nat.le_of_ble_eq_true rfl⟩) (hG _ g_369) (hG _ gs_C_reachOf) (kd_V (kd_preW h0 hS hP hD) (kd_recv hK hP (q0 := 2) (ci := 5) rfl rfl rfl)) rfl rfl hl.1 rfl (lv_room (Nat.le_of_ble_eq_true rfl)) d_C_cut_3 ⟨Nat.le_of_ble_eq_true rfl, Nat.le_of_ble_eq_true rfl⟩) (fun E ws9 hE t hwd => ⟨_, ⟨Or.inl ⟨hE.2.1, hE.2.2⟩, ⟨[], rq, hE.1, hrq⟩⟩, hwd⟩) (fun v9 ws9 h9 H locs hP hD hS => ?_)
  obtain ⟨q1, q2, q3, q4, a, b, wn, rq', rfl, rfl, hrq2, hm1, hm2⟩ := h9
  show W _ _ _ _ _ _ _ _ _ _ _ _ _ _ _ (F0 m9 6 ls [.ref a])
  have hrs2 : ∀ q ∈ rs, q ∈ wn ++ tl := fun q h => List.mem_append_right _ (hrs q h)
  obtain ⟨i1, i2, L, hL, hL64, hpr, hbl, hbr, e1, e2⟩ := pc_get hpc hrs2 q1 q2
  obtain ⟨j1, j2, N, hN, hN12, d1, d2⟩ := no_get hno hrs2 q3 q4
  have gL : (ln p).toNat = L := by omega
  have gN : (no t).toNat = N := by omega
  obtain ⟨i3, e3⟩ := List.getElem?_of_mem (mm_app hrs hm1)
  obtain ⟨i4, e4⟩ := List.getElem?_of_mem (mm_app hrs hm2)
  rw [gL, gN] at e4
  have hlw := loA_rg (n := N) (L := L) hpr (htF_rg hN12)
  refine lv_astore (lv' := [(6, .ref a), (0, .ref cx), (1, .int (iI (p))), (2, .int (iI (t))), (3, .int (iI (dp))), (4, .int (iI (sk))), (5, .int (iI (kk)))]) hx hb d_C_cut_6 hl (by decide) rfl (fun ls hl => ?_)
  refine lv_iload_n hx hb d_C_cut_8 rfl (lv_at hl 4 rfl) ?_
  refine lv_iload hx hb d_C_cut_9 (lv_at hl 5 rfl) ?_
  refine th_call h0 hS htab hlocks (Nat.le_of_ble_eq_true rfl) (Nat.le_of_ble_eq_true rfl) (ex_runS (As := [.int (iI (dp)), .int (iI (sk))]) (rest := []) ⟨hx, hb, hml, hown, hG⟩ (c_C_checkRough hC dp sk hdp hsk) (cb_code (n := 2) hG g_417 g_1 g_415 rfl rfl (by decide +kernel) ⟨Nat.le_of_ble_eq_true rfl, Nat.le_of_ble_eq_true rfl⟩) (hG _ g_416) ⟨fun _ _ _ _ q => q, fun U hU hW => ⟨rfl, la_next h0 (fun _ z => z) hS U hU hW, trivial⟩⟩ rfl rfl hl.1 rfl (lv_room (Nat.le_of_ble_eq_true rfl)) d_C_cut_11 ⟨Nat.le_of_ble_eq_true rfl, Nat.le_of_ble_eq_true rfl⟩) (fun E hE t hla hz ho => ⟨_, ⟨Or.inr ⟨hE.1, ⟨q1, q2, q3, q4⟩, fun h => hE.2 h.1⟩, ⟨wn, rq', rfl, hrq2⟩⟩, hla, wl_Pk hP ho, hD⟩) (fun v9 h9 locs hS => ?_)
  obtain ⟨rfl, u1⟩ := h9
  show W _ _ _ _ _ _ _ _ _ _ _ _ _ _ _ (F0 m9 14 ls [])
  refine lv_iload hx hb d_C_cut_14 (lv_at hl 6 rfl) ?_
  refine ri_iconst hx hb d_C_cut_16 ?_
  refine th_call h0 hS htab hlocks (Nat.le_of_ble_eq_true rfl) (Nat.le_of_ble_eq_true rfl) (ex_runS (As := [.int (iI (kk)), .int (iI (1))]) (rest := []) ⟨hx, hb, hml, hown, hG⟩ (c_C_checkNotBelow hC (kk) (1) (by omega) (by omega)) (cb_code (n := 2) hG g_435 g_1 g_433 rfl rfl (by decide +kernel) ⟨Nat.le_of_ble_eq_true rfl, Nat.le_of_ble_eq_true rfl⟩) (hG _ g_434) ⟨fun _ _ _ _ q => q, fun U hU hW => ⟨rfl, la_next h0 (fun _ z => z) hS U hU hW, trivial⟩⟩ rfl rfl hl.1 rfl (lv_room (Nat.le_of_ble_eq_true rfl)) d_C_cut_17 ⟨Nat.le_of_ble_eq_true rfl, Nat.le_of_ble_eq_true rfl⟩) (fun E hE t hla hz ho => ⟨_, ⟨Or.inr ⟨hE.1, ⟨q1, q2, q3, q4⟩, by omega⟩, ⟨wn, rq', rfl, hrq2⟩⟩, hla, wl_Pk hP ho, hD⟩) (fun v9 h9 locs hS => ?_)
  obtain ⟨rfl, z1⟩ := h9
  show W _ _ _ _ _ _ _ _ _ _ _ _ _ _ _ (F0 m9 20 ls [])
  refine lv_aload_n hx hb d_C_cut_20 rfl (lv_at hl 1 rfl) ?_
  refine lv_iload_n hx hb d_C_cut_21 rfl (lv_at hl 2 rfl) ?_
  refine th_call h0 hS htab hlocks (Nat.le_of_ble_eq_true rfl) (Nat.le_of_ble_eq_true rfl) (ex_runV (C := "LathePieces") (As := [.int (iI (p))]) (rest := []) ⟨hx, hb, hml, hown, hG⟩ (c_C_pieceAt hC cx cf cp cn ce cg cu ct np nt ng nr ia ib pa p hp hnp) (cb_code (n := 1) hG g_315 g_1 g_312 rfl rfl (by decide +kernel) ⟨Nat.le_of_ble_eq_true rfl, Nat.le_of_ble_eq_true rfl⟩) (hG _ g_314) (hG _ gs_C_pieceAt) (kd_V ⟨fun _ _ _ _ q => q, fun U hU hW => ⟨rfl, la_next h0 (fun _ z => z) hS U hU hW, (by show va_P D classes _ U.heap; rw [hU]; exact (va_P.sub hP [2, 3] rfl))⟩⟩ (kd_recv hK hP (q0 := 2) (ci := 5) rfl rfl rfl)) rfl rfl hl.1 rfl (lv_room (Nat.le_of_ble_eq_true rfl)) d_C_cut_22 ⟨Nat.le_of_ble_eq_true rfl, Nat.le_of_ble_eq_true rfl⟩) (fun E hE t hla hz ho => False.elim (hE.2 ⟨q1, q2⟩)) (fun v9 h9 locs hS => ?_)
  obtain ⟨q5, q6, rfl⟩ := h9
  show W _ _ _ _ _ _ _ _ _ _ _ _ _ _ _ (F0 m9 25 ls [.ref (pa p)])
  have h7 : 0 ≤ (kk - 1) * dp ∧ (kk - 1) * dp ≤ 2147483647 * 100 := ⟨Int.mul_nonneg (by omega) (by omega), Int.mul_le_mul (by omega) (by omega) (by omega) (by decide)⟩
  refine va_get (D := D) (ci := 1) (v := .int (iI (bl p))) (C := R_P) (T := F_P) (N := 4) hx hb hG in_P hown hK hP (i1 + 9) e1 rfl 2 (by decide) (hG _ g_288) (fun _ h9 => h9) rfl d_C_cut_25 ?_
  refine lv_istore (lv' := [(7, .int (iI (bl p))), (6, .ref a), (0, .ref cx), (1, .int (iI (p))), (2, .int (iI (t))), (3, .int (iI (dp))), (4, .int (iI (sk))), (5, .int (iI (kk)))]) hx hb d_C_cut_28 hl (by decide) rfl (fun ls hl => ?_)
  refine lv_aload hx hb d_C_cut_30 (lv_at hl 1 rfl) ?_
  refine lv_iload hx hb d_C_cut_32 (lv_at hl 0 rfl) ?_
  refine lv_iload hx hb d_C_cut_34 (lv_at hl 6 rfl) ?_
  refine lv_iload hx hb d_C_cut_36 (lv_at hl 0 rfl) ?_
  refine ri_i2l hx hb d_C_cut_38 (by omega) ?_
  refine lv_iload hx hb d_C_cut_39 (lv_at hl 7 rfl) ?_
  refine ri_i2l hx hb d_C_cut_41 (by omega) ?_
  refine ri_lconst (z := 1) hx hb d_C_cut_42 rfl ?_
  refine ri_lsub hx hb d_C_cut_43 ?_
  refine lv_iload_n hx hb d_C_cut_44 rfl (lv_at hl 5 rfl) ?_
  refine ri_i2l hx hb d_C_cut_45 (by omega) ?_
  refine ri_lmul hx hb d_C_cut_46 ?_
  refine ri_lsub hx hb d_C_cut_47 ?_
  refine rd_call (ex_runV (C := "LathePieces$Reach") (As := [.int (iI (bl p)), .int (iI (sk)), .long (jJ ((bl p) - ((kk - 1) * dp)))]) (rest := []) ⟨hx, hb, hml, hown, hG⟩ (c_R_placesCut hC a b L (loA (pf p) (htF N) N L) hL64 hlw (bl p) sk (bl p - (kk - 1) * dp) (by omega) (by omega) (by omega)) (cb_code (n := 3) hG g_440 g_15 g_437 rfl rfl (by decide +kernel) ⟨Nat.le_of_ble_eq_true rfl, Nat.le_of_ble_eq_true rfl⟩) (hG _ g_438) (hG _ g_439) (kd_V ⟨fun _ _ _ _ q => q, fun U hU hW => ⟨rfl, la_next h0 (fun _ z => z) hS U hU hW, (by show va_P D classes _ U.heap; rw [hU]; exact (wl_P2 hP (a := i3 + 9) (b := i4 + 9) e3 e4))⟩⟩ (kd_recv hK hP (q0 := (i3 + 9)) (ci := 3) rfl e3 rfl)) rfl rfl hl.1 rfl (lv_room (Nat.le_of_ble_eq_true rfl)) d_C_cut_48 ⟨Nat.le_of_ble_eq_true rfl, Nat.le_of_ble_eq_true rfl⟩) (fun v9 h9 => ?_)
  obtain rfl := h9
  show W _ _ _ _ _ _ _ _ _ _ _ _ _ _ _ (F0 m9 51 ls [.int (iI (cnF (fun j => decide (min ((loA (pf p) (htF N) N L) j + sk) (bl p) < bl p - (kk - 1) * dp)) 0 (L + 1)))])
  exact re_i hx hb hr hlocks (fun t ht hW => ⟨_, ⟨⟨q1, q2, q3, q4⟩, ⟨u1, z1⟩, by rw [gL, gN], ⟨wn, rq', rfl, hrq2⟩⟩, wd_next h0 hS hP hD t ht hW⟩) hS.2.2 (Nat.le_of_ble_eq_true rfl) (Nat.le_of_ble_eq_true rfl) d_C_cut_51

set_option maxHeartbeats 4000000 in
set_option maxRecDepth 100000 in
theorem c_C_init {l : Launch} {s0 : State} {D : va_G} {k : Nat → ClassId} (hC : Cx l s0 D k) (cx : Nat) (wr : va_W) : WdM l s0 D y_C_init { frames := 2, cells := 8, slots := 140, locals := 40 } [.ref cx] ((cx, .inr (5, [.null, .null, .int (iI (0)), .null, .int (iI (0)), .null, .null, .int (iI (0)), .null, .null, .int (iI (0)), .int (iI (0)), .int (iI (0))])) :: wr) (fun v ws' => ∃ cf cr cp cn ce cg cu ct : Nat, v = none ∧ ws' = ((ct, .inl (k 0, ai 8 (fun _ => 0))) :: (cu, .inl (k 0, ai 8 (fun _ => 0))) :: (cg, .inl (k 5, aq 6 (fun _ => none))) :: (ce, .inl (k 4, aq 36 (fun _ => none))) :: (cn, .inl (k 3, aq 6 (fun _ => none))) :: (cp, .inl (k 2, aq 6 (fun _ => none))) :: (cr, .inl (k 0, ai 65 (fun _ => 0))) :: (cf, .inr (2, [.ref cr, .int (iI (0)), .int (iI (0)), .int (iI (0)), .int (iI (0))])) :: (cx, .inr (5, [.ref cf, .ref cp, .int (iI (0)), .ref cn, .int (iI (0)), .ref ce, .ref cg, .int (iI (0)), .ref cu, .ref ct, .int (iI (0)), .int (iI (0)), .int (iI (0))])) :: wr)) (fun E ws' => False) 8 140 := by
  refine ex_ofW (cc := b_C_init) (maxL := 1) (ret := none) (hh := []) (by decide +kernel) (Or.inl ⟨g_21, rfl⟩) ?_
  intro p9 e9 s m9 args9 below9 meth9 c9 s9 B9 hml htab hv
  obtain ⟨rfl, h0, hP, hD⟩ := hv
  have hx := B9.exec
  have hb := B9.bytes
  have hr := B9.returns
  have hG := atoms_spec (ws := GW) B9.pre
  have hown : s.vm.findClass "LathePieces" = some m9.cls := findClass_of_methodNamed B9.named
  have hlocks := B9.notSynchronized
  have hin9 : meth9.name = "<init>" := (name_of_methodNamed B9.named B9.method).1
  have hK := cx_K hC h0
  have hS : va_S (aL s0) s.heap s.heap [] := va_S.rf
  have hA : ∀ q : Nat, s.heap.size ≤ q → aL s0 q := fun q h => Nat.le_trans h0.2.1 h
  have hl := lv_entry ([.ref cx]) (n := 1) (Nat.le_of_ble_eq_true rfl)
  rw [lg_entry_eq]
  generalize (lg_sl ([.ref cx]) ++ List.replicate (1 - (lg_sl ([.ref cx])).length) Slot.unset).toArray = ls at hl ⊢
  replace hl : lv_has ls 1 [(0, .ref cx)] := hl
  refine lv_aload_n hx hb d_C_init_0 rfl (lv_at hl 0 rfl) ?_
  refine W.objInit hx hb hown (hG _ g_22) (hG _ g_23) (hG _ g_24) rfl (by rw [hml]; exact hl.1) rfl d_C_init_1 (Nat.le_of_ble_eq_true rfl) (Nat.le_of_ble_eq_true rfl) ?_
  refine W.eq (g2 := F0 m9 4 ls []) rfl ?_
  refine lv_aload_n hx hb d_C_init_4 rfl (lv_at hl 0 rfl) ?_
  refine ra_new (ci := 2) (fs := [.null, .int (iI (0)), .int (iI (0)), .int (iI (0)), .int (iI (0))]) (C := R_F) (T := F_F) (N := 5) hx hb hG in_F t_F t_F_ok hown g_25 g_26 g_2 hK hP hD hS hA rfl (fun j hj => by rcases (show j = 0 ∨ j = 1 ∨ j = 2 ∨ j = 3 ∨ j = 4 by omega) with rfl | rfl | rfl | rfl | rfl <;> rfl) (Nat.le_of_ble_eq_true rfl) (Nat.le_of_ble_eq_true rfl) d_C_init_5 (fun q1 H hP hD hS => ?_)
  refine lv_dup hx hb d_C_init_8 rfl ?_
  refine wd_call (pxW := fun _ _ => False) h0 hS htab hlocks (Nat.le_of_ble_eq_true rfl) (Nat.le_of_ble_eq_true rfl) (ex_runIN (As := []) (rest := [.ref q1, .ref cx]) (b := q1) ⟨hx, hb, hml, hown, hG⟩ (wd_sure (c_F_init hC q1 ((cx, .inr (5, [.null, .null, .int (iI (0)), .null, .int (iI (0)), .null, .null, .int (iI (0)), .null, .null, .int (iI (0)), .int (iI (0)), .int (iI (0))])) :: wr))) (cn_mk (n := 0) hG g_29 g_2 (cx_nest hC h0 g_27 _) rfl rfl (by decide +kernel) ⟨Nat.le_of_ble_eq_true rfl, Nat.le_of_ble_eq_true rfl⟩) rfl (hG _ g_28) (kd_preW h0 hS hP hD) rfl rfl hl.1 rfl (lv_room (Nat.le_of_ble_eq_true rfl)) d_C_init_9 ⟨Nat.le_of_ble_eq_true rfl, Nat.le_of_ble_eq_true rfl⟩) (fun E ws9 hE t hwd => hE.elim) (fun v9 ws9 h9 H locs hP hD hS => ?_)
  obtain ⟨q2, rfl, rfl⟩ := h9
  show W _ _ _ _ _ _ _ _ _ _ _ _ _ _ _ (F0 m9 12 ls [.ref q1, .ref cx])
  refine va_putF (D := D) (ci := 5) (v := .ref q1) (ty := .object "LathePieces$Profile") (C := R_C) (T := F_C) (N := 13) hx hb hG in_C t_C t_C_ok n_C hown hK hP hD hS 2 rfl rfl 0 (by decide) (hG _ g_62) (fun _ h9 => h9) rfl hin9 rfl (by decide +kernel) rfl rfl (Nat.le_of_ble_eq_true rfl) d_C_init_12 (fun H locs hP hD hS => ?_)
  have hP : va_P D classes ((q2, .inl (k 0, ai 65 (fun _ => 0))) :: (q1, .inr (2, [.ref q2, .int (iI (0)), .int (iI (0)), .int (iI (0)), .int (iI (0))])) :: (cx, .inr (5, [.ref q1, .null, .int (iI (0)), .null, .int (iI (0)), .null, .null, .int (iI (0)), .null, .null, .int (iI (0)), .int (iI (0)), .int (iI (0))])) :: wr) H := hP
  have hD : va_D (fun q : Nat => s0.heap.size ≤ q) ((q2, .inl (k 0, ai 65 (fun _ => 0))) :: (q1, .inr (2, [.ref q2, .int (iI (0)), .int (iI (0)), .int (iI (0)), .int (iI (0))])) :: (cx, .inr (5, [.ref q1, .null, .int (iI (0)), .null, .int (iI (0)), .null, .null, .int (iI (0)), .null, .null, .int (iI (0)), .int (iI (0)), .int (iI (0))])) :: wr) := hD
  refine lv_aload_n hx hb d_C_init_15 rfl (lv_at hl 0 rfl) ?_
  refine ri_bipush hx hb d_C_init_16 (by decide) ?_
  refine ra_newq (t0 := 2) (N := 6) hx hb hG hown g_54 (cx_AO hC h0 g_55) hK hP hD hS hA rfl rfl (by decide) (Nat.le_of_ble_eq_true rfl) (Nat.le_of_ble_eq_true rfl) d_C_init_18 (fun q3 H hP hD hS => ?_)
  refine va_putF (D := D) (ci := 5) (v := .ref q3) (ty := .array (.object "LathePieces$Piece")) (C := R_C) (T := F_C) (N := 13) hx hb hG in_C t_C t_C_ok n_C hown hK hP hD hS 3 rfl rfl 1 (by decide) (hG _ g_63) (fun _ h9 => h9) rfl hin9 rfl (by decide +kernel) rfl rfl (Nat.le_of_ble_eq_true rfl) d_C_init_21 (fun H locs hP hD hS => ?_)
  have hP : va_P D classes ((q3, .inl (k 2, aq 6 (fun _ => none))) :: (q2, .inl (k 0, ai 65 (fun _ => 0))) :: (q1, .inr (2, [.ref q2, .int (iI (0)), .int (iI (0)), .int (iI (0)), .int (iI (0))])) :: (cx, .inr (5, [.ref q1, .ref q3, .int (iI (0)), .null, .int (iI (0)), .null, .null, .int (iI (0)), .null, .null, .int (iI (0)), .int (iI (0)), .int (iI (0))])) :: wr) H := hP
  have hD : va_D (fun q : Nat => s0.heap.size ≤ q) ((q3, .inl (k 2, aq 6 (fun _ => none))) :: (q2, .inl (k 0, ai 65 (fun _ => 0))) :: (q1, .inr (2, [.ref q2, .int (iI (0)), .int (iI (0)), .int (iI (0)), .int (iI (0))])) :: (cx, .inr (5, [.ref q1, .ref q3, .int (iI (0)), .null, .int (iI (0)), .null, .null, .int (iI (0)), .null, .null, .int (iI (0)), .int (iI (0)), .int (iI (0))])) :: wr) := hD
  refine lv_aload_n hx hb d_C_init_24 rfl (lv_at hl 0 rfl) ?_
  refine ri_bipush hx hb d_C_init_25 (by decide) ?_
  refine ra_newq (t0 := 3) (N := 6) hx hb hG hown g_56 (cx_AO hC h0 g_57) hK hP hD hS hA rfl rfl (by decide) (Nat.le_of_ble_eq_true rfl) (Nat.le_of_ble_eq_true rfl) d_C_init_27 (fun q4 H hP hD hS => ?_)
  refine va_putF (D := D) (ci := 5) (v := .ref q4) (ty := .array (.object "LathePieces$Nose")) (C := R_C) (T := F_C) (N := 13) hx hb hG in_C t_C t_C_ok n_C hown hK hP hD hS 4 rfl rfl 3 (by decide) (hG _ g_65) (fun _ h9 => h9) rfl hin9 rfl (by decide +kernel) rfl rfl (Nat.le_of_ble_eq_true rfl) d_C_init_30 (fun H locs hP hD hS => ?_)
  have hP : va_P D classes ((q4, .inl (k 3, aq 6 (fun _ => none))) :: (q3, .inl (k 2, aq 6 (fun _ => none))) :: (q2, .inl (k 0, ai 65 (fun _ => 0))) :: (q1, .inr (2, [.ref q2, .int (iI (0)), .int (iI (0)), .int (iI (0)), .int (iI (0))])) :: (cx, .inr (5, [.ref q1, .ref q3, .int (iI (0)), .ref q4, .int (iI (0)), .null, .null, .int (iI (0)), .null, .null, .int (iI (0)), .int (iI (0)), .int (iI (0))])) :: wr) H := hP
  have hD : va_D (fun q : Nat => s0.heap.size ≤ q) ((q4, .inl (k 3, aq 6 (fun _ => none))) :: (q3, .inl (k 2, aq 6 (fun _ => none))) :: (q2, .inl (k 0, ai 65 (fun _ => 0))) :: (q1, .inr (2, [.ref q2, .int (iI (0)), .int (iI (0)), .int (iI (0)), .int (iI (0))])) :: (cx, .inr (5, [.ref q1, .ref q3, .int (iI (0)), .ref q4, .int (iI (0)), .null, .null, .int (iI (0)), .null, .null, .int (iI (0)), .int (iI (0)), .int (iI (0))])) :: wr) := hD
  refine lv_aload_n hx hb d_C_init_33 rfl (lv_at hl 0 rfl) ?_
  refine ri_bipush hx hb d_C_init_34 (by decide) ?_
  refine ra_newq (t0 := 4) (N := 36) hx hb hG hown g_58 (cx_AO hC h0 g_59) hK hP hD hS hA rfl rfl (by decide) (Nat.le_of_ble_eq_true rfl) (Nat.le_of_ble_eq_true rfl) d_C_init_36 (fun q5 H hP hD hS => ?_)
  refine va_putF (D := D) (ci := 5) (v := .ref q5) (ty := .array (.object "LathePieces$Reach")) (C := R_C) (T := F_C) (N := 13) hx hb hG in_C t_C t_C_ok n_C hown hK hP hD hS 5 rfl rfl 5 (by decide) (hG _ g_67) (fun _ h9 => h9) rfl hin9 rfl (by decide +kernel) rfl rfl (Nat.le_of_ble_eq_true rfl) d_C_init_39 (fun H locs hP hD hS => ?_)
  have hP : va_P D classes ((q5, .inl (k 4, aq 36 (fun _ => none))) :: (q4, .inl (k 3, aq 6 (fun _ => none))) :: (q3, .inl (k 2, aq 6 (fun _ => none))) :: (q2, .inl (k 0, ai 65 (fun _ => 0))) :: (q1, .inr (2, [.ref q2, .int (iI (0)), .int (iI (0)), .int (iI (0)), .int (iI (0))])) :: (cx, .inr (5, [.ref q1, .ref q3, .int (iI (0)), .ref q4, .int (iI (0)), .ref q5, .null, .int (iI (0)), .null, .null, .int (iI (0)), .int (iI (0)), .int (iI (0))])) :: wr) H := hP
  have hD : va_D (fun q : Nat => s0.heap.size ≤ q) ((q5, .inl (k 4, aq 36 (fun _ => none))) :: (q4, .inl (k 3, aq 6 (fun _ => none))) :: (q3, .inl (k 2, aq 6 (fun _ => none))) :: (q2, .inl (k 0, ai 65 (fun _ => 0))) :: (q1, .inr (2, [.ref q2, .int (iI (0)), .int (iI (0)), .int (iI (0)), .int (iI (0))])) :: (cx, .inr (5, [.ref q1, .ref q3, .int (iI (0)), .ref q4, .int (iI (0)), .ref q5, .null, .int (iI (0)), .null, .null, .int (iI (0)), .int (iI (0)), .int (iI (0))])) :: wr) := hD
  refine lv_aload_n hx hb d_C_init_42 rfl (lv_at hl 0 rfl) ?_
  refine ri_bipush hx hb d_C_init_43 (by decide) ?_
  refine ra_newq (t0 := 5) (N := 6) hx hb hG hown g_60 (cx_AO hC h0 g_61) hK hP hD hS hA rfl rfl (by decide) (Nat.le_of_ble_eq_true rfl) (Nat.le_of_ble_eq_true rfl) d_C_init_45 (fun q6 H hP hD hS => ?_)
  refine va_putF (D := D) (ci := 5) (v := .ref q6) (ty := .array (.object "LathePieces$Ring")) (C := R_C) (T := F_C) (N := 13) hx hb hG in_C t_C t_C_ok n_C hown hK hP hD hS 6 rfl rfl 6 (by decide) (hG _ g_68) (fun _ h9 => h9) rfl hin9 rfl (by decide +kernel) rfl rfl (Nat.le_of_ble_eq_true rfl) d_C_init_48 (fun H locs hP hD hS => ?_)
  have hP : va_P D classes ((q6, .inl (k 5, aq 6 (fun _ => none))) :: (q5, .inl (k 4, aq 36 (fun _ => none))) :: (q4, .inl (k 3, aq 6 (fun _ => none))) :: (q3, .inl (k 2, aq 6 (fun _ => none))) :: (q2, .inl (k 0, ai 65 (fun _ => 0))) :: (q1, .inr (2, [.ref q2, .int (iI (0)), .int (iI (0)), .int (iI (0)), .int (iI (0))])) :: (cx, .inr (5, [.ref q1, .ref q3, .int (iI (0)), .ref q4, .int (iI (0)), .ref q5, .ref q6, .int (iI (0)), .null, .null, .int (iI (0)), .int (iI (0)), .int (iI (0))])) :: wr) H := hP
  have hD : va_D (fun q : Nat => s0.heap.size ≤ q) ((q6, .inl (k 5, aq 6 (fun _ => none))) :: (q5, .inl (k 4, aq 36 (fun _ => none))) :: (q4, .inl (k 3, aq 6 (fun _ => none))) :: (q3, .inl (k 2, aq 6 (fun _ => none))) :: (q2, .inl (k 0, ai 65 (fun _ => 0))) :: (q1, .inr (2, [.ref q2, .int (iI (0)), .int (iI (0)), .int (iI (0)), .int (iI (0))])) :: (cx, .inr (5, [.ref q1, .ref q3, .int (iI (0)), .ref q4, .int (iI (0)), .ref q5, .ref q6, .int (iI (0)), .null, .null, .int (iI (0)), .int (iI (0)), .int (iI (0))])) :: wr) := hD
  refine lv_aload_n hx hb d_C_init_51 rfl (lv_at hl 0 rfl) ?_
  refine ri_bipush hx hb d_C_init_52 (by decide) ?_
  refine ra_newi (N := 8) hx hb hG g_53 hK hP hD hS hA rfl (by omega) (Nat.le_of_ble_eq_true rfl) (Nat.le_of_ble_eq_true rfl) d_C_init_54 (fun q7 H hP hD hS => ?_)
  refine va_putF (D := D) (ci := 5) (v := .ref q7) (ty := .array .int) (C := R_C) (T := F_C) (N := 13) hx hb hG in_C t_C t_C_ok n_C hown hK hP hD hS 7 rfl rfl 8 (by decide) (hG _ g_70) (fun _ h9 => h9) rfl hin9 rfl (by decide +kernel) rfl rfl (Nat.le_of_ble_eq_true rfl) d_C_init_56 (fun H locs hP hD hS => ?_)
  have hP : va_P D classes ((q7, .inl (k 0, ai 8 (fun _ => 0))) :: (q6, .inl (k 5, aq 6 (fun _ => none))) :: (q5, .inl (k 4, aq 36 (fun _ => none))) :: (q4, .inl (k 3, aq 6 (fun _ => none))) :: (q3, .inl (k 2, aq 6 (fun _ => none))) :: (q2, .inl (k 0, ai 65 (fun _ => 0))) :: (q1, .inr (2, [.ref q2, .int (iI (0)), .int (iI (0)), .int (iI (0)), .int (iI (0))])) :: (cx, .inr (5, [.ref q1, .ref q3, .int (iI (0)), .ref q4, .int (iI (0)), .ref q5, .ref q6, .int (iI (0)), .ref q7, .null, .int (iI (0)), .int (iI (0)), .int (iI (0))])) :: wr) H := hP
  have hD : va_D (fun q : Nat => s0.heap.size ≤ q) ((q7, .inl (k 0, ai 8 (fun _ => 0))) :: (q6, .inl (k 5, aq 6 (fun _ => none))) :: (q5, .inl (k 4, aq 36 (fun _ => none))) :: (q4, .inl (k 3, aq 6 (fun _ => none))) :: (q3, .inl (k 2, aq 6 (fun _ => none))) :: (q2, .inl (k 0, ai 65 (fun _ => 0))) :: (q1, .inr (2, [.ref q2, .int (iI (0)), .int (iI (0)), .int (iI (0)), .int (iI (0))])) :: (cx, .inr (5, [.ref q1, .ref q3, .int (iI (0)), .ref q4, .int (iI (0)), .ref q5, .ref q6, .int (iI (0)), .ref q7, .null, .int (iI (0)), .int (iI (0)), .int (iI (0))])) :: wr) := hD
  refine lv_aload_n hx hb d_C_init_59 rfl (lv_at hl 0 rfl) ?_
  refine ri_bipush hx hb d_C_init_60 (by decide) ?_
  refine ra_newi (N := 8) hx hb hG g_53 hK hP hD hS hA rfl (by omega) (Nat.le_of_ble_eq_true rfl) (Nat.le_of_ble_eq_true rfl) d_C_init_62 (fun q8 H hP hD hS => ?_)
  refine va_putF (D := D) (ci := 5) (v := .ref q8) (ty := .array .int) (C := R_C) (T := F_C) (N := 13) hx hb hG in_C t_C t_C_ok n_C hown hK hP hD hS 8 rfl rfl 9 (by decide) (hG _ g_71) (fun _ h9 => h9) rfl hin9 rfl (by decide +kernel) rfl rfl (Nat.le_of_ble_eq_true rfl) d_C_init_64 (fun H locs hP hD hS => ?_)
  have hP : va_P D classes ((q8, .inl (k 0, ai 8 (fun _ => 0))) :: (q7, .inl (k 0, ai 8 (fun _ => 0))) :: (q6, .inl (k 5, aq 6 (fun _ => none))) :: (q5, .inl (k 4, aq 36 (fun _ => none))) :: (q4, .inl (k 3, aq 6 (fun _ => none))) :: (q3, .inl (k 2, aq 6 (fun _ => none))) :: (q2, .inl (k 0, ai 65 (fun _ => 0))) :: (q1, .inr (2, [.ref q2, .int (iI (0)), .int (iI (0)), .int (iI (0)), .int (iI (0))])) :: (cx, .inr (5, [.ref q1, .ref q3, .int (iI (0)), .ref q4, .int (iI (0)), .ref q5, .ref q6, .int (iI (0)), .ref q7, .ref q8, .int (iI (0)), .int (iI (0)), .int (iI (0))])) :: wr) H := hP
  have hD : va_D (fun q : Nat => s0.heap.size ≤ q) ((q8, .inl (k 0, ai 8 (fun _ => 0))) :: (q7, .inl (k 0, ai 8 (fun _ => 0))) :: (q6, .inl (k 5, aq 6 (fun _ => none))) :: (q5, .inl (k 4, aq 36 (fun _ => none))) :: (q4, .inl (k 3, aq 6 (fun _ => none))) :: (q3, .inl (k 2, aq 6 (fun _ => none))) :: (q2, .inl (k 0, ai 65 (fun _ => 0))) :: (q1, .inr (2, [.ref q2, .int (iI (0)), .int (iI (0)), .int (iI (0)), .int (iI (0))])) :: (cx, .inr (5, [.ref q1, .ref q3, .int (iI (0)), .ref q4, .int (iI (0)), .ref q5, .ref q6, .int (iI (0)), .ref q7, .ref q8, .int (iI (0)), .int (iI (0)), .int (iI (0))])) :: wr) := hD
  exact re_v hx hb hr hlocks (fun t ht hW => ⟨_, ⟨q1, q2, q3, q4, q5, q6, q7, q8, rfl, rfl⟩, wd_next h0 hS hP hD t ht hW⟩) hS.2.2 (Nat.le_of_ble_eq_true rfl) (Nat.le_of_ble_eq_true rfl) d_C_init_67

