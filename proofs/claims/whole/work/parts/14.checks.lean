set_option maxHeartbeats 4000000 in
set_option maxRecDepth 100000 in
theorem c_C_checkNumber {l : Launch} {s0 : State} {D : va_G} {k : Nat → ClassId} (hC : Cx l s0 D k) (a b u : Int) (ha : In32 a) (hb9 : In32 b) (hu : In32 u) : ThM l s0 y_C_checkNumber { frames := 6, cells := 1, slots := 6, locals := 90 } [.int (iI (a)), .int (iI (b)), .int (iI (u))] (fun _ => True) (fun v => v = none ∧ b ≤ a ∧ a ≤ u) (fun E => E = xIA ∧ ¬ (b ≤ a ∧ a ≤ u)) 1 6 := by
  refine ex_ofW (cc := b_C_checkNumber) (maxL := 3) (ret := none) (hh := []) (by decide +kernel) (Or.inl ⟨g_112, rfl⟩) ?_
  intro p9 e9 s m9 args9 below9 meth9 c9 s9 B9 hml htab hv
  obtain ⟨rfl, h0, hP⟩ := hv
  have hx := B9.exec
  have hb := B9.bytes
  have hr := B9.returns
  have hG := atoms_spec (ws := GW) B9.pre
  have hown : s.vm.findClass "LathePieces" = some m9.cls := findClass_of_methodNamed B9.named
  have hlocks := B9.notSynchronized
  have hK := cx_K hC h0
  have hS : va_S (aL s0) s.heap s.heap [] := va_S.rf
  have hl := lv_entry ([.int (iI (a)), .int (iI (b)), .int (iI (u))]) (n := 3) (Nat.le_of_ble_eq_true rfl)
  rw [lg_entry_eq]
  generalize (lg_sl ([.int (iI (a)), .int (iI (b)), .int (iI (u))]) ++ List.replicate (3 - (lg_sl ([.int (iI (a)), .int (iI (b)), .int (iI (u))])).length) Slot.unset).toArray = ls at hl ⊢
  replace hl : lv_has ls 3 [(0, .int (iI (a))), (1, .int (iI (b))), (2, .int (iI (u)))] := hl
  refine lv_iload_n hx hb d_C_checkNumber_0 rfl (lv_at hl 0 rfl) ?_
  refine lv_iload_n hx hb d_C_checkNumber_1 rfl (lv_at hl 1 rfl) ?_
  refine ri_icmp_lt (tgt := 10) hx hb d_C_checkNumber_2 (by decide) (by omega) (by omega) (fun c2 => ?_) (fun c2 => ?_)
  · exact tk_throw (kl := 3) hC h0 hx hb hown xA_IA (by decide +kernel) g_115 g_113 g_7 g_154 hS (hl.1.trans hml.symm) d_C_checkNumber_10 d_C_checkNumber_13 (Or.inr ⟨rfl, d_C_checkNumber_14⟩) d_C_checkNumber_17 d_C_checkNumber_20 htab hlocks (Nat.le_of_ble_eq_true rfl) (Nat.le_of_ble_eq_true rfl) (Nat.le_of_ble_eq_true rfl) (Nat.le_of_ble_eq_true rfl) (fun t hla hz ho => ⟨⟨rfl, by omega⟩, hla, hz, ho⟩) (Nat.le_of_ble_eq_true rfl) (Nat.le_of_ble_eq_true rfl)
  · refine lv_iload_n hx hb d_C_checkNumber_5 rfl (lv_at hl 0 rfl) ?_
    refine lv_iload_n hx hb d_C_checkNumber_6 rfl (lv_at hl 2 rfl) ?_
    refine ri_icmp_le (tgt := 21) hx hb d_C_checkNumber_7 (by decide) (by omega) (by omega) (fun c7 => ?_) (fun c7 => ?_)
    · exact re_v hx hb hr hlocks (fun t ht hW => ⟨⟨rfl, by omega, by omega⟩, ht⟩) hS.2.2 (Nat.le_of_ble_eq_true rfl) (Nat.le_of_ble_eq_true rfl) d_C_checkNumber_21
    · exact tk_throw (kl := 3) hC h0 hx hb hown xA_IA (by decide +kernel) g_115 g_113 g_7 g_154 hS (hl.1.trans hml.symm) d_C_checkNumber_10 d_C_checkNumber_13 (Or.inr ⟨rfl, d_C_checkNumber_14⟩) d_C_checkNumber_17 d_C_checkNumber_20 htab hlocks (Nat.le_of_ble_eq_true rfl) (Nat.le_of_ble_eq_true rfl) (Nat.le_of_ble_eq_true rfl) (Nat.le_of_ble_eq_true rfl) (fun t hla hz ho => ⟨⟨rfl, by omega⟩, hla, hz, ho⟩) (Nat.le_of_ble_eq_true rfl) (Nat.le_of_ble_eq_true rfl)

set_option maxHeartbeats 4000000 in
set_option maxRecDepth 100000 in
theorem c_C_checkNotBelow {l : Launch} {s0 : State} {D : va_G} {k : Nat → ClassId} (hC : Cx l s0 D k) (a b : Int) (ha : In32 a) (hb9 : In32 b) : ThM l s0 y_C_checkNotBelow { frames := 6, cells := 1, slots := 6, locals := 90 } [.int (iI (a)), .int (iI (b))] (fun _ => True) (fun v => v = none ∧ b ≤ a) (fun E => E = xIA ∧ ¬ b ≤ a) 1 6 := by
  refine ex_ofW (cc := b_C_checkNotBelow) (maxL := 2) (ret := none) (hh := []) (by decide +kernel) (Or.inl ⟨g_435, rfl⟩) ?_
  intro p9 e9 s m9 args9 below9 meth9 c9 s9 B9 hml htab hv
  obtain ⟨rfl, h0, hP⟩ := hv
  have hx := B9.exec
  have hb := B9.bytes
  have hr := B9.returns
  have hG := atoms_spec (ws := GW) B9.pre
  have hown : s.vm.findClass "LathePieces" = some m9.cls := findClass_of_methodNamed B9.named
  have hlocks := B9.notSynchronized
  have hK := cx_K hC h0
  have hS : va_S (aL s0) s.heap s.heap [] := va_S.rf
  have hl := lv_entry ([.int (iI (a)), .int (iI (b))]) (n := 2) (Nat.le_of_ble_eq_true rfl)
  rw [lg_entry_eq]
  generalize (lg_sl ([.int (iI (a)), .int (iI (b))]) ++ List.replicate (2 - (lg_sl ([.int (iI (a)), .int (iI (b))])).length) Slot.unset).toArray = ls at hl ⊢
  replace hl : lv_has ls 2 [(0, .int (iI (a))), (1, .int (iI (b)))] := hl
  refine lv_iload_n hx hb d_C_checkNotBelow_0 rfl (lv_at hl 0 rfl) ?_
  refine lv_iload_n hx hb d_C_checkNotBelow_1 rfl (lv_at hl 1 rfl) ?_
  refine ri_icmp_ge (tgt := 16) hx hb d_C_checkNotBelow_2 (by decide) (by omega) (by omega) (fun c2 => ?_) (fun c2 => ?_)
  · exact re_v hx hb hr hlocks (fun t ht hW => ⟨⟨rfl, by omega⟩, ht⟩) hS.2.2 (Nat.le_of_ble_eq_true rfl) (Nat.le_of_ble_eq_true rfl) d_C_checkNotBelow_16
  · exact tk_throw (kl := 3) hC h0 hx hb hown xA_IA (by decide +kernel) g_115 g_113 g_7 g_436 hS (hl.1.trans hml.symm) d_C_checkNotBelow_5 d_C_checkNotBelow_8 (Or.inr ⟨rfl, d_C_checkNotBelow_9⟩) d_C_checkNotBelow_12 d_C_checkNotBelow_15 htab hlocks (Nat.le_of_ble_eq_true rfl) (Nat.le_of_ble_eq_true rfl) (Nat.le_of_ble_eq_true rfl) (Nat.le_of_ble_eq_true rfl) (fun t hla hz ho => ⟨⟨rfl, by omega⟩, hla, hz, ho⟩) (Nat.le_of_ble_eq_true rfl) (Nat.le_of_ble_eq_true rfl)

set_option maxHeartbeats 4000000 in
set_option maxRecDepth 100000 in
theorem c_C_checkPart {l : Launch} {s0 : State} {D : va_G} {k : Nat → ClassId} (hC : Cx l s0 D k) (a : Int) (ha : In32 a) : ThM l s0 y_C_checkPart { frames := 6, cells := 1, slots := 6, locals := 90 } [.int (iI (a))] (fun _ => True) (fun v => v = none ∧ (a = 0 ∨ a = 1)) (fun E => E = xIO ∧ ¬ (a = 0 ∨ a = 1)) 1 6 := by
  refine ex_ofW (cc := b_C_checkPart) (maxL := 1) (ret := none) (hh := []) (by decide +kernel) (Or.inl ⟨g_548, rfl⟩) ?_
  intro p9 e9 s m9 args9 below9 meth9 c9 s9 B9 hml htab hv
  obtain ⟨rfl, h0, hP⟩ := hv
  have hx := B9.exec
  have hb := B9.bytes
  have hr := B9.returns
  have hG := atoms_spec (ws := GW) B9.pre
  have hown : s.vm.findClass "LathePieces" = some m9.cls := findClass_of_methodNamed B9.named
  have hlocks := B9.notSynchronized
  have hK := cx_K hC h0
  have hS : va_S (aL s0) s.heap s.heap [] := va_S.rf
  have hl := lv_entry ([.int (iI (a))]) (n := 1) (Nat.le_of_ble_eq_true rfl)
  rw [lg_entry_eq]
  generalize (lg_sl ([.int (iI (a))]) ++ List.replicate (1 - (lg_sl ([.int (iI (a))])).length) Slot.unset).toArray = ls at hl ⊢
  replace hl : lv_has ls 1 [(0, .int (iI (a)))] := hl
  refine lv_iload_n hx hb d_C_checkPart_0 rfl (lv_at hl 0 rfl) ?_
  refine ri_if_eq (tgt := 20) hx hb d_C_checkPart_1 (by decide) (by omega) (fun c1 => ?_) (fun c1 => ?_)
  · exact re_v hx hb hr hlocks (fun t ht hW => ⟨⟨rfl, by omega⟩, ht⟩) hS.2.2 (Nat.le_of_ble_eq_true rfl) (Nat.le_of_ble_eq_true rfl) d_C_checkPart_20
  · refine lv_iload_n hx hb d_C_checkPart_4 rfl (lv_at hl 0 rfl) ?_
    refine ri_iconst hx hb d_C_checkPart_5 ?_
    refine ri_icmp_eq (tgt := 20) hx hb d_C_checkPart_6 (by decide) (by omega) (by omega) (fun c6 => ?_) (fun c6 => ?_)
    · exact re_v hx hb hr hlocks (fun t ht hW => ⟨⟨rfl, by omega⟩, ht⟩) hS.2.2 (Nat.le_of_ble_eq_true rfl) (Nat.le_of_ble_eq_true rfl) d_C_checkPart_20
    · exact tk_throw (kl := 3) hC h0 hx hb hown xA_IO (by decide +kernel) g_318 g_316 g_13 g_549 hS (hl.1.trans hml.symm) d_C_checkPart_9 d_C_checkPart_12 (Or.inr ⟨rfl, d_C_checkPart_13⟩) d_C_checkPart_16 d_C_checkPart_19 htab hlocks (Nat.le_of_ble_eq_true rfl) (Nat.le_of_ble_eq_true rfl) (Nat.le_of_ble_eq_true rfl) (Nat.le_of_ble_eq_true rfl) (fun t hla hz ho => ⟨⟨rfl, by omega⟩, hla, hz, ho⟩) (Nat.le_of_ble_eq_true rfl) (Nat.le_of_ble_eq_true rfl)

set_option maxHeartbeats 4000000 in
set_option maxRecDepth 100000 in
theorem c_C_checkWayEnd {l : Launch} {s0 : State} {D : va_G} {k : Nat → ClassId} (hC : Cx l s0 D k) (a b : Int) (ha : In32 a) (hb9 : In32 b) : ThM l s0 y_C_checkWayEnd { frames := 7, cells := 2, slots := 12, locals := 112 } [.int (iI (a)), .int (iI (b))] (fun _ => True) (fun v => v = none ∧ (1 ≤ a ∧ a ≤ 64 ∧ 0 ≤ b ∧ b ≤ 500)) (fun E => E = xIA ∧ ¬ (1 ≤ a ∧ a ≤ 64 ∧ 0 ≤ b ∧ b ≤ 500)) 2 12 := by
  refine ex_ofW (cc := b_C_checkWayEnd) (maxL := 2) (ret := none) (hh := []) (by decide +kernel) (Or.inl ⟨g_195, rfl⟩) ?_
  intro p9 e9 s m9 args9 below9 meth9 c9 s9 B9 hml htab hv
  obtain ⟨rfl, h0, hP⟩ := hv
  have hx := B9.exec
  have hb := B9.bytes
  have hr := B9.returns
  have hG := atoms_spec (ws := GW) B9.pre
  have hown : s.vm.findClass "LathePieces" = some m9.cls := findClass_of_methodNamed B9.named
  have hlocks := B9.notSynchronized
  have hK := cx_K hC h0
  have hS : va_S (aL s0) s.heap s.heap [] := va_S.rf
  have hl := lv_entry ([.int (iI (a)), .int (iI (b))]) (n := 2) (Nat.le_of_ble_eq_true rfl)
  rw [lg_entry_eq]
  generalize (lg_sl ([.int (iI (a)), .int (iI (b))]) ++ List.replicate (2 - (lg_sl ([.int (iI (a)), .int (iI (b))])).length) Slot.unset).toArray = ls at hl ⊢
  replace hl : lv_has ls 2 [(0, .int (iI (a))), (1, .int (iI (b)))] := hl
  refine lv_iload_n hx hb d_C_checkWayEnd_0 rfl (lv_at hl 0 rfl) ?_
  refine ri_iconst hx hb d_C_checkWayEnd_1 ?_
  refine ri_bipush hx hb d_C_checkWayEnd_2 (by decide) ?_
  refine th_call h0 hS htab hlocks (Nat.le_of_ble_eq_true rfl) (Nat.le_of_ble_eq_true rfl) (ex_runS (As := [.int (iI (a)), .int (iI (1)), .int (iI (64))]) (rest := []) ⟨hx, hb, hml, hown, hG⟩ (c_C_checkNumber hC a 1 64 ha (by decide) (by decide)) (cb_code (n := 3) hG g_112 g_1 g_110 rfl rfl (by decide +kernel) ⟨Nat.le_of_ble_eq_true rfl, Nat.le_of_ble_eq_true rfl⟩) (hG _ g_111) ⟨fun _ _ _ _ q => q, fun U hU hW => ⟨rfl, la_next h0 (fun _ z => z) hS U hU hW, trivial⟩⟩ rfl rfl hl.1 rfl (lv_room (Nat.le_of_ble_eq_true rfl)) d_C_checkWayEnd_4 ⟨Nat.le_of_ble_eq_true rfl, Nat.le_of_ble_eq_true rfl⟩) (fun E hE t hla hz ho => ⟨⟨hE.1, fun q => hE.2 ⟨by omega, by omega⟩⟩, hla, hz, ho⟩) (fun v9 h9 locs hS => ?_)
  obtain ⟨rfl, q1, q2⟩ := h9
  show W _ _ _ _ _ _ _ _ _ _ _ _ _ _ _ (F0 m9 7 ls [])
  refine lv_iload_n hx hb d_C_checkWayEnd_7 rfl (lv_at hl 1 rfl) ?_
  refine ri_iconst hx hb d_C_checkWayEnd_8 ?_
  refine ri_sipush hx hb d_C_checkWayEnd_9 (by decide) ?_
  refine th_call h0 hS htab hlocks (Nat.le_of_ble_eq_true rfl) (Nat.le_of_ble_eq_true rfl) (ex_runS (As := [.int (iI (b)), .int (iI (0)), .int (iI (500))]) (rest := []) ⟨hx, hb, hml, hown, hG⟩ (c_C_checkNumber hC b 0 500 hb9 (by decide) (by decide)) (cb_code (n := 3) hG g_112 g_1 g_110 rfl rfl (by decide +kernel) ⟨Nat.le_of_ble_eq_true rfl, Nat.le_of_ble_eq_true rfl⟩) (hG _ g_111) ⟨fun _ _ _ _ q => q, fun U hU hW => ⟨rfl, la_next h0 (fun _ z => z) hS U hU hW, trivial⟩⟩ rfl rfl hl.1 rfl (lv_room (Nat.le_of_ble_eq_true rfl)) d_C_checkWayEnd_12 ⟨Nat.le_of_ble_eq_true rfl, Nat.le_of_ble_eq_true rfl⟩) (fun E hE t hla hz ho => ⟨⟨hE.1, fun q => hE.2 ⟨by omega, by omega⟩⟩, hla, hz, ho⟩) (fun v9 h9 locs hS => ?_)
  obtain ⟨rfl, q3, q4⟩ := h9
  show W _ _ _ _ _ _ _ _ _ _ _ _ _ _ _ (F0 m9 15 ls [])
  exact re_v hx hb hr hlocks (fun t ht hW => ⟨⟨rfl, by omega⟩, ht⟩) hS.2.2 (Nat.le_of_ble_eq_true rfl) (Nat.le_of_ble_eq_true rfl) d_C_checkWayEnd_15

set_option maxHeartbeats 4000000 in
set_option maxRecDepth 100000 in
theorem c_C_checkRough {l : Launch} {s0 : State} {D : va_G} {k : Nat → ClassId} (hC : Cx l s0 D k) (a b : Int) (ha : In32 a) (hb9 : In32 b) : ThM l s0 y_C_checkRough { frames := 7, cells := 2, slots := 12, locals := 112 } [.int (iI (a)), .int (iI (b))] (fun _ => True) (fun v => v = none ∧ (1 ≤ a ∧ a ≤ 100 ∧ 0 ≤ b ∧ b ≤ 50)) (fun E => E = xIA ∧ ¬ (1 ≤ a ∧ a ≤ 100 ∧ 0 ≤ b ∧ b ≤ 50)) 2 12 := by
  refine ex_ofW (cc := b_C_checkRough) (maxL := 2) (ret := none) (hh := []) (by decide +kernel) (Or.inl ⟨g_417, rfl⟩) ?_
  intro p9 e9 s m9 args9 below9 meth9 c9 s9 B9 hml htab hv
  obtain ⟨rfl, h0, hP⟩ := hv
  have hx := B9.exec
  have hb := B9.bytes
  have hr := B9.returns
  have hG := atoms_spec (ws := GW) B9.pre
  have hown : s.vm.findClass "LathePieces" = some m9.cls := findClass_of_methodNamed B9.named
  have hlocks := B9.notSynchronized
  have hK := cx_K hC h0
  have hS : va_S (aL s0) s.heap s.heap [] := va_S.rf
  have hl := lv_entry ([.int (iI (a)), .int (iI (b))]) (n := 2) (Nat.le_of_ble_eq_true rfl)
  rw [lg_entry_eq]
  generalize (lg_sl ([.int (iI (a)), .int (iI (b))]) ++ List.replicate (2 - (lg_sl ([.int (iI (a)), .int (iI (b))])).length) Slot.unset).toArray = ls at hl ⊢
  replace hl : lv_has ls 2 [(0, .int (iI (a))), (1, .int (iI (b)))] := hl
  refine lv_iload_n hx hb d_C_checkRough_0 rfl (lv_at hl 0 rfl) ?_
  refine ri_iconst hx hb d_C_checkRough_1 ?_
  refine ri_bipush hx hb d_C_checkRough_2 (by decide) ?_
  refine th_call h0 hS htab hlocks (Nat.le_of_ble_eq_true rfl) (Nat.le_of_ble_eq_true rfl) (ex_runS (As := [.int (iI (a)), .int (iI (1)), .int (iI (100))]) (rest := []) ⟨hx, hb, hml, hown, hG⟩ (c_C_checkNumber hC a 1 100 ha (by decide) (by decide)) (cb_code (n := 3) hG g_112 g_1 g_110 rfl rfl (by decide +kernel) ⟨Nat.le_of_ble_eq_true rfl, Nat.le_of_ble_eq_true rfl⟩) (hG _ g_111) ⟨fun _ _ _ _ q => q, fun U hU hW => ⟨rfl, la_next h0 (fun _ z => z) hS U hU hW, trivial⟩⟩ rfl rfl hl.1 rfl (lv_room (Nat.le_of_ble_eq_true rfl)) d_C_checkRough_4 ⟨Nat.le_of_ble_eq_true rfl, Nat.le_of_ble_eq_true rfl⟩) (fun E hE t hla hz ho => ⟨⟨hE.1, fun q => hE.2 ⟨by omega, by omega⟩⟩, hla, hz, ho⟩) (fun v9 h9 locs hS => ?_)
  obtain ⟨rfl, q1, q2⟩ := h9
  show W _ _ _ _ _ _ _ _ _ _ _ _ _ _ _ (F0 m9 7 ls [])
  refine lv_iload_n hx hb d_C_checkRough_7 rfl (lv_at hl 1 rfl) ?_
  refine ri_iconst hx hb d_C_checkRough_8 ?_
  refine ri_bipush hx hb d_C_checkRough_9 (by decide) ?_
  refine th_call h0 hS htab hlocks (Nat.le_of_ble_eq_true rfl) (Nat.le_of_ble_eq_true rfl) (ex_runS (As := [.int (iI (b)), .int (iI (0)), .int (iI (50))]) (rest := []) ⟨hx, hb, hml, hown, hG⟩ (c_C_checkNumber hC b 0 50 hb9 (by decide) (by decide)) (cb_code (n := 3) hG g_112 g_1 g_110 rfl rfl (by decide +kernel) ⟨Nat.le_of_ble_eq_true rfl, Nat.le_of_ble_eq_true rfl⟩) (hG _ g_111) ⟨fun _ _ _ _ q => q, fun U hU hW => ⟨rfl, la_next h0 (fun _ z => z) hS U hU hW, trivial⟩⟩ rfl rfl hl.1 rfl (lv_room (Nat.le_of_ble_eq_true rfl)) d_C_checkRough_11 ⟨Nat.le_of_ble_eq_true rfl, Nat.le_of_ble_eq_true rfl⟩) (fun E hE t hla hz ho => ⟨⟨hE.1, fun q => hE.2 ⟨by omega, by omega⟩⟩, hla, hz, ho⟩) (fun v9 h9 locs hS => ?_)
  obtain ⟨rfl, q3, q4⟩ := h9
  show W _ _ _ _ _ _ _ _ _ _ _ _ _ _ _ (F0 m9 14 ls [])
  exact re_v hx hb hr hlocks (fun t ht hW => ⟨⟨rfl, by omega⟩, ht⟩) hS.2.2 (Nat.le_of_ble_eq_true rfl) (Nat.le_of_ble_eq_true rfl) d_C_checkRough_14

