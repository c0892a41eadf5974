set_option maxHeartbeats 4000000 in
set_option maxRecDepth 100000 in
theorem c_M_lastAt {l : Launch} {s0 : State} {D : va_G} {k : Nat → ClassId} (hC : Cx l s0 D k) (a4 : Nat) (wy : Int) (f4 : Int → Int) (am : Nat) (fs : List Value) (h3 : fs[3]? = some (.int (iI (wy)))) (h4 : fs[4]? = some (.ref a4)) (hwy : 0 ≤ wy ∧ wy ≤ 64) : RdM l s0 y_M_lastAt { frames := 0, cells := 0, slots := 0, locals := 0 } [.ref am] (fun H => va_P D classes ([(am, .inr (6, fs)), (a4, .inl (k 0, ai 64 f4))]) H) (fun v => v = some (.int (iI (if wy = 0 then 0 else f4 (wy - 1))))) := by
  refine ex_ofW (cc := b_M_lastAt) (maxL := 1) (ret := (some .int)) (hh := []) (by decide +kernel) (Or.inl ⟨g_730, rfl⟩) ?_
  intro p9 e9 s m9 args9 below9 meth9 c9 s9 B9 hml htab hv
  obtain ⟨rfl, h0, hP⟩ := hv
  have hx := B9.exec
  have hb := B9.bytes
  have hr := B9.returns
  have hG := atoms_spec (ws := GW) B9.pre
  have hown : s.vm.findClass "LathePiecesModel" = some m9.cls := findClass_of_methodNamed B9.named
  have hlocks := B9.notSynchronized
  have hK := cx_K hC h0
  have hS : va_S (aL s0) s.heap s.heap [] := va_S.rf
  have hl := lv_entry ([.ref am]) (n := 1) (Nat.le_of_ble_eq_true rfl)
  rw [lg_entry_eq]
  generalize (lg_sl ([.ref am]) ++ List.replicate (1 - (lg_sl ([.ref am])).length) Slot.unset).toArray = ls at hl ⊢
  replace hl : lv_has ls 1 [(0, .ref am)] := hl
  refine lv_aload_n hx hb d_M_lastAt_0 rfl (lv_at hl 0 rfl) ?_
  refine va_get (D := D) (ci := 6) (v := .int (iI (wy))) (C := R_M) (T := F_M) (N := 26) hx hb hG in_M hown hK hP 0 rfl rfl 3 (by decide) (hG _ g_630) (fun _ h9 => h9) h3 d_M_lastAt_1 ?_
  refine ri_if_ne (tgt := 11) hx hb d_M_lastAt_4 (by decide) (by omega) (fun c4 => ?_) (fun c4 => ?_)
  · refine lv_aload_n hx hb d_M_lastAt_11 rfl (lv_at hl 0 rfl) ?_
    refine va_get (D := D) (ci := 6) (v := .ref a4) (C := R_M) (T := F_M) (N := 26) hx hb hG in_M hown hK hP 0 rfl rfl 4 (by decide) (hG _ g_631) (fun _ h9 => h9) h4 d_M_lastAt_12 ?_
    refine lv_aload_n hx hb d_M_lastAt_15 rfl (lv_at hl 0 rfl) ?_
    refine va_get (D := D) (ci := 6) (v := .int (iI (wy))) (C := R_M) (T := F_M) (N := 26) hx hb hG in_M hown hK hP 0 rfl rfl 3 (by decide) (hG _ g_630) (fun _ h9 => h9) h3 d_M_lastAt_16 ?_
    refine ri_iconst hx hb d_M_lastAt_19 ?_
    refine ri_isub hx hb d_M_lastAt_20 ?_
    refine ra_iald hx hb hK hP 1 rfl (by omega) (by omega) d_M_lastAt_21 ?_
    exact re_i hx hb hr hlocks (fun t ht hW => ⟨by rw [if_neg (by omega)], ht⟩) (fun z hz => nomatch hz) (Nat.le_of_ble_eq_true rfl) (Nat.le_of_ble_eq_true rfl) d_M_lastAt_22
  · refine ri_iconst hx hb d_M_lastAt_7 ?_
    refine lv_goto (tgt := 22) hx hb d_M_lastAt_8 (by decide) ?_
    exact re_i hx hb hr hlocks (fun t ht hW => ⟨by rw [if_pos (by omega)], ht⟩) (fun z hz => nomatch hz) (Nat.le_of_ble_eq_true rfl) (Nat.le_of_ble_eq_true rfl) d_M_lastAt_22

set_option maxHeartbeats 4000000 in
set_option maxRecDepth 100000 in
theorem c_M_lastRadius {l : Launch} {s0 : State} {D : va_G} {k : Nat → ClassId} (hC : Cx l s0 D k) (a5 : Nat) (fi wy : Int) (f5 : Int → Int) (am : Nat) (fs : List Value) (h2 : fs[2]? = some (.int (iI (fi)))) (h3 : fs[3]? = some (.int (iI (wy)))) (h5 : fs[5]? = some (.ref a5)) (hwy : 0 ≤ wy ∧ wy ≤ 64) : RdM l s0 y_M_lastRadius { frames := 0, cells := 0, slots := 0, locals := 0 } [.ref am] (fun H => va_P D classes ([(am, .inr (6, fs)), (a5, .inl (k 0, ai 64 f5))]) H) (fun v => v = some (.int (iI (if wy = 0 then fi else f5 (wy - 1))))) := by
  refine ex_ofW (cc := b_M_lastRadius) (maxL := 1) (ret := (some .int)) (hh := []) (by decide +kernel) (Or.inl ⟨g_746, rfl⟩) ?_
  intro p9 e9 s m9 args9 below9 meth9 c9 s9 B9 hml htab hv
  obtain ⟨rfl, h0, hP⟩ := hv
  have hx := B9.exec
  have hb := B9.bytes
  have hr := B9.returns
  have hG := atoms_spec (ws := GW) B9.pre
  have hown : s.vm.findClass "LathePiecesModel" = some m9.cls := findClass_of_methodNamed B9.named
  have hlocks := B9.notSynchronized
  have hK := cx_K hC h0
  have hS : va_S (aL s0) s.heap s.heap [] := va_S.rf
  have hl := lv_entry ([.ref am]) (n := 1) (Nat.le_of_ble_eq_true rfl)
  rw [lg_entry_eq]
  generalize (lg_sl ([.ref am]) ++ List.replicate (1 - (lg_sl ([.ref am])).length) Slot.unset).toArray = ls at hl ⊢
  replace hl : lv_has ls 1 [(0, .ref am)] := hl
  refine lv_aload_n hx hb d_M_lastRadius_0 rfl (lv_at hl 0 rfl) ?_
  refine va_get (D := D) (ci := 6) (v := .int (iI (wy))) (C := R_M) (T := F_M) (N := 26) hx hb hG in_M hown hK hP 0 rfl rfl 3 (by decide) (hG _ g_630) (fun _ h9 => h9) h3 d_M_lastRadius_1 ?_
  refine ri_if_ne (tgt := 14) hx hb d_M_lastRadius_4 (by decide) (by omega) (fun c4 => ?_) (fun c4 => ?_)
  · refine lv_aload_n hx hb d_M_lastRadius_14 rfl (lv_at hl 0 rfl) ?_
    refine va_get (D := D) (ci := 6) (v := .ref a5) (C := R_M) (T := F_M) (N := 26) hx hb hG in_M hown hK hP 0 rfl rfl 5 (by decide) (hG _ g_632) (fun _ h9 => h9) h5 d_M_lastRadius_15 ?_
    refine lv_aload_n hx hb d_M_lastRadius_18 rfl (lv_at hl 0 rfl) ?_
    refine va_get (D := D) (ci := 6) (v := .int (iI (wy))) (C := R_M) (T := F_M) (N := 26) hx hb hG in_M hown hK hP 0 rfl rfl 3 (by decide) (hG _ g_630) (fun _ h9 => h9) h3 d_M_lastRadius_19 ?_
    refine ri_iconst hx hb d_M_lastRadius_22 ?_
    refine ri_isub hx hb d_M_lastRadius_23 ?_
    refine ra_iald hx hb hK hP 1 rfl (by omega) (by omega) d_M_lastRadius_24 ?_
    exact re_i hx hb hr hlocks (fun t ht hW => ⟨by rw [if_neg (by omega)], ht⟩) (fun z hz => nomatch hz) (Nat.le_of_ble_eq_true rfl) (Nat.le_of_ble_eq_true rfl) d_M_lastRadius_25
  · refine lv_aload_n hx hb d_M_lastRadius_7 rfl (lv_at hl 0 rfl) ?_
    refine va_get (D := D) (ci := 6) (v := .int (iI (fi))) (C := R_M) (T := F_M) (N := 26) hx hb hG in_M hown hK hP 0 rfl rfl 2 (by decide) (hG _ g_629) (fun _ h9 => h9) h2 d_M_lastRadius_8 ?_
    refine lv_goto (tgt := 25) hx hb d_M_lastRadius_11 (by decide) ?_
    exact re_i hx hb hr hlocks (fun t ht hW => ⟨by rw [if_pos (by omega)], ht⟩) (fun z hz => nomatch hz) (Nat.le_of_ble_eq_true rfl) (Nat.le_of_ble_eq_true rfl) d_M_lastRadius_25

set_option maxHeartbeats 4000000 in
set_option maxRecDepth 100000 in
theorem c_M_isPiece {l : Launch} {s0 : State} {D : va_G} {k : Nat → ClassId} (hC : Cx l s0 D k) (np : Int) (am : Nat) (fs : List Value) (h9 : fs[9]? = some (.int (iI (np)))) (hnp : 0 ≤ np ∧ np ≤ 6) (p : Int) (hp : In32 p) : RdM l s0 y_M_isPiece { frames := 1, cells := 0, slots := 0, locals := 25 } [.ref am, .int (iI (p))] (fun H => va_P D classes ([(am, .inr (6, fs))]) H) (fun v => (v = some (.int (iI (1))) ∧ (0 ≤ p ∧ p < np) ∨ v = some (.int (iI (0))) ∧ ¬ (0 ≤ p ∧ p < np))) := by
  refine ex_ofW (cc := b_M_isPiece) (maxL := 2) (ret := (some .boolean)) (hh := []) (by decide +kernel) (Or.inl ⟨g_772, rfl⟩) ?_
  intro p9 e9 s m9 args9 below9 meth9 c9 s9 B9 hml htab hv
  obtain ⟨rfl, h0, hP⟩ := hv
  have hx := B9.exec
  have hb := B9.bytes
  have hr := B9.returns
  have hG := atoms_spec (ws := GW) B9.pre
  have hown : s.vm.findClass "LathePiecesModel" = some m9.cls := findClass_of_methodNamed B9.named
  have hlocks := B9.notSynchronized
  have hK := cx_K hC h0
  have hS : va_S (aL s0) s.heap s.heap [] := va_S.rf
  have hl := lv_entry ([.ref am, .int (iI (p))]) (n := 2) (Nat.le_of_ble_eq_true rfl)
  rw [lg_entry_eq]
  generalize (lg_sl ([.ref am, .int (iI (p))]) ++ List.replicate (2 - (lg_sl ([.ref am, .int (iI (p))])).length) Slot.unset).toArray = ls at hl ⊢
  replace hl : lv_has ls 2 [(0, .ref am), (1, .int (iI (p)))] := hl
  refine lv_iload_n hx hb d_M_isPiece_0 rfl (lv_at hl 1 rfl) ?_
  refine ri_i2l hx hb d_M_isPiece_1 (by omega) ?_
  refine ri_lconst (z := 0) hx hb d_M_isPiece_2 rfl ?_
  refine lv_aload_n hx hb d_M_isPiece_3 rfl (lv_at hl 0 rfl) ?_
  refine va_get (D := D) (ci := 6) (v := .int (iI (np))) (C := R_M) (T := F_M) (N := 26) hx hb hG in_M hown hK hP 0 rfl rfl 9 (by decide) (hG _ g_636) (fun _ h9 => h9) h9 d_M_isPiece_4 ?_
  refine ri_iconst hx hb d_M_isPiece_7 ?_
  refine ri_isub hx hb d_M_isPiece_8 ?_
  refine ri_i2l hx hb d_M_isPiece_9 (by omega) ?_
  refine rd_call (ex_runS (As := [.long (jJ (p)), .long (jJ (0)), .long (jJ (np - 1))]) (rest := []) ⟨hx, hb, hml, hown, hG⟩ (c_M_in l (p) (0) (np - 1) (by omega) (by omega) (by omega)) (cb_code (n := 3) hG g_717 g_3 g_715 rfl rfl (by decide +kernel) ⟨Nat.le_of_ble_eq_true rfl, Nat.le_of_ble_eq_true rfl⟩) (hG _ g_716) ⟨fun _ _ _ _ q => q, fun _ _ _ => rfl⟩ rfl rfl hl.1 rfl (lv_room (Nat.le_of_ble_eq_true rfl)) d_M_isPiece_10 ⟨Nat.le_of_ble_eq_true rfl, Nat.le_of_ble_eq_true rfl⟩) (fun v9 h9 => ?_)
  obtain rfl := h9
  show W _ _ _ _ _ _ _ _ _ _ _ _ _ _ _ (F0 m9 13 ls [.int (iI ((if 0 ≤ p ∧ p ≤ np - 1 then 1 else 0)))])
  by_cases n13 : 0 ≤ p ∧ p ≤ np - 1
  · refine tp_i (congrArg iI (show (if 0 ≤ p ∧ p ≤ np - 1 then 1 else 0) = 1 from if_pos n13)) ?_
    exact re_z hx hb hr hlocks (Or.inr rfl) (fun t ht hW => ⟨Or.inl ⟨rfl, by omega⟩, ht⟩) (fun z hz => nomatch hz) (Nat.le_of_ble_eq_true rfl) (Nat.le_of_ble_eq_true rfl) d_M_isPiece_13
  · refine tp_i (congrArg iI (show (if 0 ≤ p ∧ p ≤ np - 1 then 1 else 0) = 0 from if_neg n13)) ?_
    exact re_z hx hb hr hlocks (Or.inl rfl) (fun t ht hW => ⟨Or.inr ⟨rfl, by omega⟩, ht⟩) (fun z hz => nomatch hz) (Nat.le_of_ble_eq_true rfl) (Nat.le_of_ble_eq_true rfl) d_M_isPiece_13

set_option maxHeartbeats 4000000 in
set_option maxRecDepth 100000 in
theorem c_M_hasPlace {l : Launch} {s0 : State} {D : va_G} {k : Nat → ClassId} (hC : Cx l s0 D k) (a10 : Nat) (np : Int) (f10 : Int → Int) (am : Nat) (fs : List Value) (h9 : fs[9]? = some (.int (iI (np)))) (h10 : fs[10]? = some (.ref a10)) (hnp : 0 ≤ np ∧ np ≤ 6) (hf10 : ∀ i : Int, 0 ≤ i → i < np → 0 ≤ f10 i ∧ f10 i ≤ 64) (p x : Int) (hp : In32 p) (hx9 : In32 x) : RdM l s0 y_M_hasPlace { frames := 2, cells := 0, slots := 0, locals := 46 } [.ref am, .int (iI (p)), .int (iI (x))] (fun H => va_P D classes ([(am, .inr (6, fs)), (a10, .inl (k 0, ai 6 f10))]) H) (fun v => (v = some (.int (iI (1))) ∧ (0 ≤ p ∧ p < np ∧ 0 ≤ x ∧ x ≤ f10 p) ∨ v = some (.int (iI (0))) ∧ ¬ (0 ≤ p ∧ p < np ∧ 0 ≤ x ∧ x ≤ f10 p))) := by
  refine ex_ofW (cc := b_M_hasPlace) (maxL := 3) (ret := (some .boolean)) (hh := []) (by decide +kernel) (Or.inl ⟨g_768, rfl⟩) ?_
  intro p9 e9 s m9 args9 below9 meth9 c9 s9 B9 hml htab hv
  obtain ⟨rfl, h0, hP⟩ := hv
  have hx := B9.exec
  have hb := B9.bytes
  have hr := B9.returns
  have hG := atoms_spec (ws := GW) B9.pre
  have hown : s.vm.findClass "LathePiecesModel" = some m9.cls := findClass_of_methodNamed B9.named
  have hlocks := B9.notSynchronized
  have hK := cx_K hC h0
  have hS : va_S (aL s0) s.heap s.heap [] := va_S.rf
  have hl := lv_entry ([.ref am, .int (iI (p)), .int (iI (x))]) (n := 3) (Nat.le_of_ble_eq_true rfl)
  rw [lg_entry_eq]
  generalize (lg_sl ([.ref am, .int (iI (p)), .int (iI (x))]) ++ List.replicate (3 - (lg_sl ([.ref am, .int (iI (p)), .int (iI (x))])).length) Slot.unset).toArray = ls at hl ⊢
  replace hl : lv_has ls 3 [(0, .ref am), (1, .int (iI (p))), (2, .int (iI (x)))] := hl
  refine lv_aload_n hx hb d_M_hasPlace_0 rfl (lv_at hl 0 rfl) ?_
  refine lv_iload_n hx hb d_M_hasPlace_1 rfl (lv_at hl 1 rfl) ?_
  refine rd_call (ex_runV (C := "LathePiecesModel") (As := [.int (iI (p))]) (rest := []) ⟨hx, hb, hml, hown, hG⟩ (c_M_isPiece hC np am fs h9 hnp p hp) (cb_code (n := 1) hG g_772 g_3 g_769 rfl rfl (by decide +kernel) ⟨Nat.le_of_ble_eq_true rfl, Nat.le_of_ble_eq_true rfl⟩) (hG _ g_771) (hG _ gs_M_isPiece) (kd_V ⟨fun _ _ _ _ q => q, fun U hU hW => ⟨rfl, la_next h0 (fun _ z => z) hS U hU hW, (by show va_P D classes _ U.heap; rw [hU]; exact (va_P.sub hP [0] rfl))⟩⟩ (kd_recv hK hP (q0 := 0) (ci := 6) rfl rfl rfl)) rfl rfl hl.1 rfl (lv_room (Nat.le_of_ble_eq_true rfl)) d_M_hasPlace_2 ⟨Nat.le_of_ble_eq_true rfl, Nat.le_of_ble_eq_true rfl⟩) (fun v9 h9 => ?_)
  rcases h9 with ⟨rfl, n5⟩ | ⟨rfl, n5⟩
  · show W _ _ _ _ _ _ _ _ _ _ _ _ _ _ _ (F0 m9 5 ls [.int (iI (1))])
    refine ri_if_eq (tgt := 28) hx hb d_M_hasPlace_5 (by decide) (by omega) (fun c5 => ?_) (fun c5 => ?_)
    · exact absurd c5 (by decide)
    · have h7 := hf10 p (by omega) (by omega)
      refine lv_iload_n hx hb d_M_hasPlace_8 rfl (lv_at hl 2 rfl) ?_
      refine ri_i2l hx hb d_M_hasPlace_9 (by omega) ?_
      refine ri_lconst (z := 0) hx hb d_M_hasPlace_10 rfl ?_
      refine lv_aload_n hx hb d_M_hasPlace_11 rfl (lv_at hl 0 rfl) ?_
      refine va_get (D := D) (ci := 6) (v := .ref a10) (C := R_M) (T := F_M) (N := 26) hx hb hG in_M hown hK hP 0 rfl rfl 10 (by decide) (hG _ g_637) (fun _ h9 => h9) h10 d_M_hasPlace_12 ?_
      refine lv_iload_n hx hb d_M_hasPlace_15 rfl (lv_at hl 1 rfl) ?_
      refine ra_iald hx hb hK hP 1 rfl (by omega) (by omega) d_M_hasPlace_16 ?_
      refine ri_i2l hx hb d_M_hasPlace_17 (by omega) ?_
      refine rd_call (ex_runS (As := [.long (jJ (x)), .long (jJ (0)), .long (jJ (f10 (p)))]) (rest := []) ⟨hx, hb, hml, hown, hG⟩ (c_M_in l (x) (0) (f10 (p)) (by omega) (by omega) (by omega)) (cb_code (n := 3) hG g_717 g_3 g_715 rfl rfl (by decide +kernel) ⟨Nat.le_of_ble_eq_true rfl, Nat.le_of_ble_eq_true rfl⟩) (hG _ g_716) ⟨fun _ _ _ _ q => q, fun _ _ _ => rfl⟩ rfl rfl hl.1 rfl (lv_room (Nat.le_of_ble_eq_true rfl)) d_M_hasPlace_18 ⟨Nat.le_of_ble_eq_true rfl, Nat.le_of_ble_eq_true rfl⟩) (fun v9 h9 => ?_)
      obtain rfl := h9
      show W _ _ _ _ _ _ _ _ _ _ _ _ _ _ _ (F0 m9 21 ls [.int (iI ((if 0 ≤ x ∧ x ≤ f10 (p) then 1 else 0)))])
      by_cases n21 : 0 ≤ x ∧ x ≤ f10 (p)
      · refine tp_i (congrArg iI (show (if 0 ≤ x ∧ x ≤ f10 (p) then 1 else 0) = 1 from if_pos n21)) ?_
        refine ri_if_eq (tgt := 28) hx hb d_M_hasPlace_21 (by decide) (by omega) (fun c21 => ?_) (fun c21 => ?_)
        · exact absurd c21 (by decide)
        · refine ri_iconst hx hb d_M_hasPlace_24 ?_
          refine lv_goto (tgt := 29) hx hb d_M_hasPlace_25 (by decide) ?_
          exact re_z hx hb hr hlocks (Or.inr rfl) (fun t ht hW => ⟨Or.inl ⟨rfl, by omega⟩, ht⟩) (fun z hz => nomatch hz) (Nat.le_of_ble_eq_true rfl) (Nat.le_of_ble_eq_true rfl) d_M_hasPlace_29
      · refine tp_i (congrArg iI (show (if 0 ≤ x ∧ x ≤ f10 (p) then 1 else 0) = 0 from if_neg n21)) ?_
        refine ri_if_eq (tgt := 28) hx hb d_M_hasPlace_21 (by decide) (by omega) (fun c21 => ?_) (fun c21 => ?_)
        · refine ri_iconst hx hb d_M_hasPlace_28 ?_
          exact re_z hx hb hr hlocks (Or.inl rfl) (fun t ht hW => ⟨Or.inr ⟨rfl, by omega⟩, ht⟩) (fun z hz => nomatch hz) (Nat.le_of_ble_eq_true rfl) (Nat.le_of_ble_eq_true rfl) d_M_hasPlace_29
        · exact absurd c21 (by decide)
  · show W _ _ _ _ _ _ _ _ _ _ _ _ _ _ _ (F0 m9 5 ls [.int (iI (0))])
    refine ri_if_eq (tgt := 28) hx hb d_M_hasPlace_5 (by decide) (by omega) (fun c5 => ?_) (fun c5 => ?_)
    · refine ri_iconst hx hb d_M_hasPlace_28 ?_
      exact re_z hx hb hr hlocks (Or.inl rfl) (fun t ht hW => ⟨Or.inr ⟨rfl, by omega⟩, ht⟩) (fun z hz => nomatch hz) (Nat.le_of_ble_eq_true rfl) (Nat.le_of_ble_eq_true rfl) d_M_hasPlace_29
    · exact absurd c5 (by decide)

set_option maxHeartbeats 4000000 in
set_option maxRecDepth 100000 in
theorem c_M_blank {l : Launch} {s0 : State} {D : va_G} {k : Nat → ClassId} (hC : Cx l s0 D k) (a10 a12 : Nat) (f10 f12 : Int → Int) (am : Nat) (fs : List Value) (h10 : fs[10]? = some (.ref a10)) (h12 : fs[12]? = some (.ref a12)) (p : Int) (L : Nat) (hp : 0 ≤ p ∧ p < 6) (hL : f10 p = L) (hL64 : L ≤ 64) (hrr : ∀ j : Int, 0 ≤ j → j ≤ L → 0 ≤ f12 (65 * p + j) ∧ f12 (65 * p + j) ≤ 500) : RdM l s0 y_M_blank { frames := 0, cells := 0, slots := 0, locals := 0 } [.ref am, .int (iI (p))] (fun H => va_P D classes ([(am, .inr (6, fs)), (a10, .inl (k 0, ai 6 f10)), (a12, .inl (k 0, ai 390 f12))]) H) (fun v => v = some (.int (iI (itF max (fun j => f12 (65 * p + j)) 0 0 (L + 1) + 3)))) := by
  refine ex_ofW (cc := b_M_blank) (maxL := 4) (ret := (some .int)) (hh := []) (by decide +kernel) (Or.inl ⟨g_781, rfl⟩) ?_
  intro p9 e9 s m9 args9 below9 meth9 c9 s9 B9 hml htab hv
  obtain ⟨rfl, h0, hP⟩ := hv
  have hx := B9.exec
  have hb := B9.bytes
  have hr := B9.returns
  have hG := atoms_spec (ws := GW) B9.pre
  have hown : s.vm.findClass "LathePiecesModel" = some m9.cls := findClass_of_methodNamed B9.named
  have hlocks := B9.notSynchronized
  have hK := cx_K hC h0
  have hS : va_S (aL s0) s.heap s.heap [] := va_S.rf
  have hl := lv_entry ([.ref am, .int (iI (p))]) (n := 4) (Nat.le_of_ble_eq_true rfl)
  rw [lg_entry_eq]
  generalize (lg_sl ([.ref am, .int (iI (p))]) ++ List.replicate (4 - (lg_sl ([.ref am, .int (iI (p))])).length) Slot.unset).toArray = ls at hl ⊢
  replace hl : lv_has ls 4 [(0, .ref am), (1, .int (iI (p)))] := hl
  refine ri_iconst hx hb d_M_blank_0 ?_
  refine lv_istore_n (lv' := [(2, .int (iI (0))), (0, .ref am), (1, .int (iI (p)))]) hx hb d_M_blank_1 rfl hl (by decide) rfl (fun ls hl => ?_)
  refine ri_iconst hx hb d_M_blank_2 ?_
  refine lv_istore_n (lv' := [(3, .int (iI (0))), (2, .int (iI (0))), (0, .ref am), (1, .int (iI (p)))]) hx hb d_M_blank_3 rfl hl (by decide) rfl (fun ls hl => ?_)
  replace hl : lv_has ls 4 [(3, .int (iI (0 + ((0 : Nat) : Int)))), (2, .int (iI (itF max (fun j => f12 (65 * p + j)) 0 0 0))), (0, .ref am), (1, .int (iI (p)))] := hl
  obtain ⟨κ, ν, hinv, hl1⟩ : ∃ (κ : Nat) (ν : Nat), (ν + κ = L + 1) ∧ lv_has ls 4 [(0, .ref am), (1, .int (iI (p))), (2, .int (iI (itF max (fun j => f12 (65 * p + j)) 0 0 ν))), (3, .int (iI (0 + (ν : Int))))] := ⟨L + 1, 0, (by omega), lv_sub hl [2, 3, 1, 0] rfl⟩
  clear hl
  have hl := hl1
  clear hl1
  induction κ generalizing ν ls with
  | zero =>
    obtain h1 := hinv
    have q2 : 0 ≤ itF max (fun j => f12 (65 * p + j)) 0 0 ν ∧ itF max (fun j => f12 (65 * p + j)) 0 0 ν ≤ 500 := itF_max ν (by omega) (fun j g1 g2 => (hrr j (by omega) (by omega)).2)
    refine lv_iload_n hx hb d_M_blank_4 rfl (lv_at hl 3 rfl) ?_
    refine lv_aload_n hx hb d_M_blank_5 rfl (lv_at hl 0 rfl) ?_
    refine va_get (D := D) (ci := 6) (v := .ref a10) (C := R_M) (T := F_M) (N := 26) hx hb hG in_M hown hK hP 0 rfl rfl 10 (by decide) (hG _ g_637) (fun _ h9 => h9) h10 d_M_blank_6 ?_
    refine lv_iload_n hx hb d_M_blank_9 rfl (lv_at hl 1 rfl) ?_
    refine ra_iald hx hb hK hP 1 rfl (by omega) (by omega) d_M_blank_10 ?_
    refine ri_icmp_gt (tgt := 51) hx hb d_M_blank_11 (by decide) (by omega) (by omega) (fun c11 => ?_) (fun c11 => ?_)
    · refine lv_iload_n hx hb d_M_blank_51 rfl (lv_at hl 2 rfl) ?_
      refine ri_iconst hx hb d_M_blank_52 ?_
      refine ri_iadd hx hb d_M_blank_53 ?_
      exact re_i hx hb hr hlocks (fun t ht hW => ⟨by rw [show L + 1 = ν by omega], ht⟩) (fun z hz => nomatch hz) (Nat.le_of_ble_eq_true rfl) (Nat.le_of_ble_eq_true rfl) d_M_blank_54
    · exact absurd c11 (by omega)
  | succ κ ih =>
    obtain h1 := hinv
    have q2 : 0 ≤ itF max (fun j => f12 (65 * p + j)) 0 0 ν ∧ itF max (fun j => f12 (65 * p + j)) 0 0 ν ≤ 500 := itF_max ν (by omega) (fun j g1 g2 => (hrr j (by omega) (by omega)).2)
    refine lv_iload_n hx hb d_M_blank_4 rfl (lv_at hl 3 rfl) ?_
    refine lv_aload_n hx hb d_M_blank_5 rfl (lv_at hl 0 rfl) ?_
    refine va_get (D := D) (ci := 6) (v := .ref a10) (C := R_M) (T := F_M) (N := 26) hx hb hG in_M hown hK hP 0 rfl rfl 10 (by decide) (hG _ g_637) (fun _ h9 => h9) h10 d_M_blank_6 ?_
    refine lv_iload_n hx hb d_M_blank_9 rfl (lv_at hl 1 rfl) ?_
    refine ra_iald hx hb hK hP 1 rfl (by omega) (by omega) d_M_blank_10 ?_
    refine ri_icmp_gt (tgt := 51) hx hb d_M_blank_11 (by decide) (by omega) (by omega) (fun c11 => ?_) (fun c11 => ?_)
    · exact absurd c11 (by omega)
    · have q3 := hrr (0 + ν) (by omega) (by omega)
      have q4 := itF_s max (fun j => f12 (65 * p + j)) 0 0 ν
      refine lv_aload_n hx hb d_M_blank_14 rfl (lv_at hl 0 rfl) ?_
      refine va_get (D := D) (ci := 6) (v := .ref a12) (C := R_M) (T := F_M) (N := 26) hx hb hG in_M hown hK hP 0 rfl rfl 12 (by decide) (hG _ g_639) (fun _ h9 => h9) h12 d_M_blank_15 ?_
      refine ri_bipush hx hb d_M_blank_18 (by decide) ?_
      refine lv_iload_n hx hb d_M_blank_20 rfl (lv_at hl 1 rfl) ?_
      refine ri_imul hx hb d_M_blank_21 ?_
      refine lv_iload_n hx hb d_M_blank_22 rfl (lv_at hl 3 rfl) ?_
      refine ri_iadd hx hb d_M_blank_23 ?_
      refine ra_iald hx hb hK hP 2 rfl (by omega) (by omega) d_M_blank_24 ?_
      refine lv_iload_n hx hb d_M_blank_25 rfl (lv_at hl 2 rfl) ?_
      refine ri_icmp_le (tgt := 43) hx hb d_M_blank_26 (by decide) (by omega) (by omega) (fun c26 => ?_) (fun c26 => ?_)
      · refine lv_iload_n hx hb d_M_blank_43 rfl (lv_at hl 2 rfl) ?_
        refine tp_i (congrArg iI (show itF max (fun j => f12 (65 * p + j)) 0 0 ν = itF max (fun j => f12 (65 * p + j)) 0 0 (ν + 1) from by rw [q4]; omega)) ?_
        refine lv_istore_n (lv' := [(2, .int (iI (itF max (fun j => f12 (65 * p + j)) 0 0 (ν + 1)))), (0, .ref am), (1, .int (iI (p))), (3, .int (iI (0 + (ν : Int))))]) hx hb d_M_blank_44 rfl hl (by decide) rfl (fun ls hl => ?_)
        refine lv_iinc (v := iI (0 + ((ν + 1 : Nat) : Int))) (lv' := [(3, .int (iI (0 + ((ν + 1 : Nat) : Int)))), (2, .int (iI (itF max (fun j => f12 (65 * p + j)) 0 0 (ν + 1)))), (0, .ref am), (1, .int (iI (p)))]) hx hb d_M_blank_45 hl (k := 3) rfl ((ii_add _ _).trans (congrArg iI (by omega))) (by decide) rfl (fun ls hl => ?_)
        refine lv_goto (tgt := 4) hx hb d_M_blank_48 (by decide) ?_
        exact ih ls (ν + 1) (by omega) (lv_sub hl [2, 3, 1, 0] rfl)
      · refine lv_aload_n hx hb d_M_blank_29 rfl (lv_at hl 0 rfl) ?_
        refine va_get (D := D) (ci := 6) (v := .ref a12) (C := R_M) (T := F_M) (N := 26) hx hb hG in_M hown hK hP 0 rfl rfl 12 (by decide) (hG _ g_639) (fun _ h9 => h9) h12 d_M_blank_30 ?_
        refine ri_bipush hx hb d_M_blank_33 (by decide) ?_
        refine lv_iload_n hx hb d_M_blank_35 rfl (lv_at hl 1 rfl) ?_
        refine ri_imul hx hb d_M_blank_36 ?_
        refine lv_iload_n hx hb d_M_blank_37 rfl (lv_at hl 3 rfl) ?_
        refine ri_iadd hx hb d_M_blank_38 ?_
        refine ra_iald hx hb hK hP 2 rfl (by omega) (by omega) d_M_blank_39 ?_
        refine lv_goto (tgt := 44) hx hb d_M_blank_40 (by decide) ?_
        refine tp_i (congrArg iI (show f12 ((65 * p) + (0 + (ν : Int))) = itF max (fun j => f12 (65 * p + j)) 0 0 (ν + 1) from by rw [q4]; omega)) ?_
        refine lv_istore_n (lv' := [(2, .int (iI (itF max (fun j => f12 (65 * p + j)) 0 0 (ν + 1)))), (0, .ref am), (1, .int (iI (p))), (3, .int (iI (0 + (ν : Int))))]) hx hb d_M_blank_44 rfl hl (by decide) rfl (fun ls hl => ?_)
        refine lv_iinc (v := iI (0 + ((ν + 1 : Nat) : Int))) (lv' := [(3, .int (iI (0 + ((ν + 1 : Nat) : Int)))), (2, .int (iI (itF max (fun j => f12 (65 * p + j)) 0 0 (ν + 1)))), (0, .ref am), (1, .int (iI (p)))]) hx hb d_M_blank_45 hl (k := 3) rfl ((ii_add _ _).trans (congrArg iI (by omega))) (by decide) rfl (fun ls hl => ?_)
        refine lv_goto (tgt := 4) hx hb d_M_blank_48 (by decide) ?_
        exact ih ls (ν + 1) (by omega) (lv_sub hl [2, 3, 1, 0] rfl)

set_option maxHeartbeats 4000000 in
set_option maxRecDepth 100000 in
theorem c_M_nextHeld {l : Launch} {s0 : State} {D : va_G} {k : Nat → ClassId} (hC : Cx l s0 D k) (a10 a12 : Nat) (f10 f12 : Int → Int) (am : Nat) (fs : List Value) (h10 : fs[10]? = some (.ref a10)) (h12 : fs[12]? = some (.ref a12)) (p : Int) (L : Nat) (hp : 0 ≤ p ∧ p < 6) (hL : f10 p = L) (hL64 : L ≤ 64) (hrr : ∀ j : Int, 0 ≤ j → j ≤ L → 0 ≤ f12 (65 * p + j) ∧ f12 (65 * p + j) ≤ 500) (sp p0 : Int) (hsp : 1 ≤ sp ∧ sp ≤ 500) (hp0 : 0 ≤ p0 ∧ p0 ≤ L) : RdM l s0 y_M_nextHeld { frames := 0, cells := 0, slots := 0, locals := 0 } [.ref am, .int (iI (p)), .int (iI (sp)), .int (iI (p0))] (fun H => va_P D classes ([(am, .inr (6, fs)), (a10, .inl (k 0, ai 6 f10)), (a12, .inl (k 0, ai 390 f12))]) H) (fun v => v = some (.int (iI (nhF (fun j => f12 (65 * p + j)) sp p0 (L - p0).toNat)))) := by
  refine ex_ofW (cc := b_M_nextHeld) (maxL := 8) (ret := (some .int)) (hh := []) (by decide +kernel) (Or.inl ⟨g_824, rfl⟩) ?_
  intro p9 e9 s m9 args9 below9 meth9 c9 s9 B9 hml htab hv
  obtain ⟨rfl, h0, hP⟩ := hv
  have hx := B9.exec
  have hb := B9.bytes
  have hr := B9.returns
  have hG := atoms_spec (ws := GW) B9.pre
  have hown : s.vm.findClass "LathePiecesModel" = some m9.cls := findClass_of_methodNamed B9.named
  have hlocks := B9.notSynchronized
  have hK := cx_K hC h0
  have hS : va_S (aL s0) s.heap s.heap [] := va_S.rf
  have hl := lv_entry ([.ref am, .int (iI (p)), .int (iI (sp)), .int (iI (p0))]) (n := 8) (Nat.le_of_ble_eq_true rfl)
  rw [lg_entry_eq]
  generalize (lg_sl ([.ref am, .int (iI (p)), .int (iI (sp)), .int (iI (p0))]) ++ List.replicate (8 - (lg_sl ([.ref am, .int (iI (p)), .int (iI (sp)), .int (iI (p0))])).length) Slot.unset).toArray = ls at hl ⊢
  replace hl : lv_has ls 8 [(0, .ref am), (1, .int (iI (p))), (2, .int (iI (sp))), (3, .int (iI (p0)))] := hl
  refine lv_iload_n hx hb d_M_nextHeld_0 rfl (lv_at hl 3 rfl) ?_
  refine ri_iconst hx hb d_M_nextHeld_1 ?_
  refine ri_iadd hx hb d_M_nextHeld_2 ?_
  refine lv_istore (lv' := [(4, .int (iI (p0 + 1))), (0, .ref am), (1, .int (iI (p))), (2, .int (iI (sp))), (3, .int (iI (p0)))]) hx hb d_M_nextHeld_3 hl (by decide) rfl (fun ls hl => ?_)
  refine lv_aload_n hx hb d_M_nextHeld_5 rfl (lv_at hl 1 rfl) ?_
  refine va_get (D := D) (ci := 6) (v := .ref a12) (C := R_M) (T := F_M) (N := 26) hx hb hG in_M hown hK hP 0 rfl rfl 12 (by decide) (hG _ g_639) (fun _ h9 => h9) h12 d_M_nextHeld_6 ?_
  refine ri_bipush hx hb d_M_nextHeld_9 (by decide) ?_
  refine lv_iload_n hx hb d_M_nextHeld_11 rfl (lv_at hl 2 rfl) ?_
  refine ri_imul hx hb d_M_nextHeld_12 ?_
  refine lv_iload_n hx hb d_M_nextHeld_13 rfl (lv_at hl 4 rfl) ?_
  refine ri_iadd hx hb d_M_nextHeld_14 ?_
  have q0 := hrr p0 hp0.1 hp0.2
  refine ra_iald hx hb hK hP 2 rfl (by omega) (by omega) d_M_nextHeld_15 ?_
  refine lv_istore (lv' := [(5, .int (iI (f12 ((65 * p) + p0)))), (4, .int (iI (p0 + 1))), (0, .ref am), (1, .int (iI (p))), (2, .int (iI (sp))), (3, .int (iI (p0)))]) hx hb d_M_nextHeld_16 hl (by decide) rfl (fun ls hl => ?_)
  refine lv_iload_n hx hb d_M_nextHeld_18 rfl (lv_at hl 5 rfl) ?_
  refine ri_iconst hx hb d_M_nextHeld_19 ?_
  refine ri_iadd hx hb d_M_nextHeld_20 ?_
  refine lv_istore (lv' := [(6, .int (iI (p0 + 1))), (5, .int (iI (f12 ((65 * p) + p0)))), (4, .int (iI (p0 + 1))), (0, .ref am), (1, .int (iI (p))), (2, .int (iI (sp))), (3, .int (iI (p0)))]) hx hb d_M_nextHeld_21 hl (by decide) rfl (fun ls hl => ?_)
  have e0 : p0 + 1 = p0 + 1 + ((0 : Nat) : Int) := by omega
  replace hl : lv_has ls 8 [(6, .int (iI (p0 + 1 + ((0 : Nat) : Int)))), (5, .int (iI (lmF (fun j => f12 (65 * p + j)) p0 0))), (4, .int (iI (nhF (fun j => f12 (65 * p + j)) sp p0 0))), (0, .ref am), (1, .int (iI (p))), (2, .int (iI (sp))), (3, .int (iI (p0)))] := by rw [← e0]; exact hl
  obtain ⟨κ, ν, hinv, hl1⟩ : ∃ (κ : Nat) (ν : Nat), ((ν : Int) + κ = L - p0) ∧ lv_has ls 8 [(0, .ref am), (1, .int (iI (p))), (2, .int (iI (sp))), (3, .int (iI (p0))), (4, .int (iI (nhF (fun j => f12 (65 * p + j)) sp p0 ν))), (5, .int (iI (lmF (fun j => f12 (65 * p + j)) p0 ν))), (6, .int (iI (p0 + 1 + (ν : Int))))] := ⟨(L - p0).toNat, 0, (by omega), lv_sub hl [3, 4, 5, 6, 2, 1, 0] rfl⟩
  clear hl
  have hl := hl1
  clear hl1
  induction κ generalizing ν ls with
  | zero =>
    obtain h1 := hinv
    refine lv_iload hx hb d_M_nextHeld_23 (lv_at hl 6 rfl) ?_
    refine lv_aload_n hx hb d_M_nextHeld_25 rfl (lv_at hl 0 rfl) ?_
    refine va_get (D := D) (ci := 6) (v := .ref a10) (C := R_M) (T := F_M) (N := 26) hx hb hG in_M hown hK hP 0 rfl rfl 10 (by decide) (hG _ g_637) (fun _ h9 => h9) h10 d_M_nextHeld_26 ?_
    refine lv_iload_n hx hb d_M_nextHeld_29 rfl (lv_at hl 1 rfl) ?_
    refine ra_iald hx hb hK hP 1 rfl (by omega) (by omega) d_M_nextHeld_30 ?_
    refine ri_icmp_gt (tgt := 90) hx hb d_M_nextHeld_31 (by decide) (by omega) (by omega) (fun c31 => ?_) (fun c31 => ?_)
    · refine lv_iload hx hb d_M_nextHeld_90 (lv_at hl 4 rfl) ?_
      exact re_i hx hb hr hlocks (fun t ht hW => ⟨by rw [show (L - p0).toNat = ν by omega], ht⟩) (fun z hz => nomatch hz) (Nat.le_of_ble_eq_true rfl) (Nat.le_of_ble_eq_true rfl) d_M_nextHeld_92
    · exact absurd c31 (by omega)
  | succ κ ih =>
    obtain h1 := hinv
    refine lv_iload hx hb d_M_nextHeld_23 (lv_at hl 6 rfl) ?_
    refine lv_aload_n hx hb d_M_nextHeld_25 rfl (lv_at hl 0 rfl) ?_
    refine va_get (D := D) (ci := 6) (v := .ref a10) (C := R_M) (T := F_M) (N := 26) hx hb hG in_M hown hK hP 0 rfl rfl 10 (by decide) (hG _ g_637) (fun _ h9 => h9) h10 d_M_nextHeld_26 ?_
    refine lv_iload_n hx hb d_M_nextHeld_29 rfl (lv_at hl 1 rfl) ?_
    refine ra_iald hx hb hK hP 1 rfl (by omega) (by omega) d_M_nextHeld_30 ?_
    refine ri_icmp_gt (tgt := 90) hx hb d_M_nextHeld_31 (by decide) (by omega) (by omega) (fun c31 => ?_) (fun c31 => ?_)
    · exact absurd c31 (by omega)
    · have q1 := hrr (p0 + 1 + ν) (by omega) (by omega)
      have q2 : 0 ≤ lmF (fun j => f12 (65 * p + j)) p0 ν ∧ lmF (fun j => f12 (65 * p + j)) p0 ν ≤ 500 := itF_min ν ⟨q0.1, q0.2⟩ (fun j g1 g2 => (hrr j (by omega) (by omega)).1)
      have q3 : ((ν : Int) + 1) * sp ≤ 64 * 500 := Int.mul_le_mul (by omega) (by omega) (by omega) (by decide)
      have q4 : 0 ≤ ((ν : Int) + 1) * sp := Int.mul_nonneg (by omega) (by omega)
      have q5 : (p0 + 1 + ν - p0) * sp = ((ν : Int) + 1) * sp := by rw [show p0 + 1 + ν - p0 = (ν : Int) + 1 by omega]
      have q6 : lmF (fun j => f12 (65 * p + j)) p0 (ν + 1) = min (lmF (fun j => f12 (65 * p + j)) p0 ν) (f12 (65 * p + (p0 + 1 + ν))) := rfl
      refine lv_aload_n hx hb d_M_nextHeld_34 rfl (lv_at hl 0 rfl) ?_
      refine va_get (D := D) (ci := 6) (v := .ref a12) (C := R_M) (T := F_M) (N := 26) hx hb hG in_M hown hK hP 0 rfl rfl 12 (by decide) (hG _ g_639) (fun _ h9 => h9) h12 d_M_nextHeld_35 ?_
      refine ri_bipush hx hb d_M_nextHeld_38 (by decide) ?_
      refine lv_iload_n hx hb d_M_nextHeld_40 rfl (lv_at hl 1 rfl) ?_
      refine ri_imul hx hb d_M_nextHeld_41 ?_
      refine lv_iload hx hb d_M_nextHeld_42 (lv_at hl 6 rfl) ?_
      refine ri_iadd hx hb d_M_nextHeld_44 ?_
      refine ra_iald hx hb hK hP 2 rfl (by omega) (by omega) d_M_nextHeld_45 ?_
      refine lv_istore (lv' := [(7, .int (iI (f12 ((65 * p) + (p0 + 1 + (ν : Int)))))), (0, .ref am), (1, .int (iI (p))), (2, .int (iI (sp))), (3, .int (iI (p0))), (4, .int (iI (nhF (fun j => f12 (65 * p + j)) sp p0 ν))), (5, .int (iI (lmF (fun j => f12 (65 * p + j)) p0 ν))), (6, .int (iI (p0 + 1 + (ν : Int))))]) hx hb d_M_nextHeld_46 hl (by decide) rfl (fun ls hl => ?_)
      refine lv_iload hx hb d_M_nextHeld_48 (lv_at hl 0 rfl) ?_
      refine lv_iload hx hb d_M_nextHeld_50 (lv_at hl 6 rfl) ?_
      refine ri_icmp_ge (tgt := 60) hx hb d_M_nextHeld_52 (by decide) (by omega) (by omega) (fun c52 => ?_) (fun c52 => ?_)
      · refine lv_iload hx hb d_M_nextHeld_60 (lv_at hl 6 rfl) ?_
        refine tp_i (congrArg iI (show lmF (fun j => f12 (65 * p + j)) p0 ν = lmF (fun j => f12 (65 * p + j)) p0 (ν + 1) from by rw [q6]; omega)) ?_
        refine lv_istore (lv' := [(5, .int (iI (lmF (fun j => f12 (65 * p + j)) p0 (ν + 1)))), (7, .int (iI (f12 ((65 * p) + (p0 + 1 + (ν : Int)))))), (0, .ref am), (1, .int (iI (p))), (2, .int (iI (sp))), (3, .int (iI (p0))), (4, .int (iI (nhF (fun j => f12 (65 * p + j)) sp p0 ν))), (6, .int (iI (p0 + 1 + (ν : Int))))]) hx hb d_M_nextHeld_62 hl (by decide) rfl (fun ls hl => ?_)
        refine lv_iload hx hb d_M_nextHeld_64 (lv_at hl 7 rfl) ?_
        refine lv_iload_n hx hb d_M_nextHeld_66 rfl (lv_at hl 5 rfl) ?_
        refine ri_isub hx hb d_M_nextHeld_67 ?_
        refine lv_iload_n hx hb d_M_nextHeld_68 rfl (lv_at hl 4 rfl) ?_
        refine ri_imul hx hb d_M_nextHeld_69 ?_
        refine tp_i (congrArg iI (show ((p0 + 1 + (ν : Int)) - p0) * sp = ((ν : Int) + 1) * sp from q5)) ?_
        refine lv_iload hx hb d_M_nextHeld_70 (lv_at hl 0 rfl) ?_
        refine ri_icmp_gt (tgt := 80) hx hb d_M_nextHeld_72 (by decide) (by omega) (by omega) (fun c72 => ?_) (fun c72 => ?_)
        · refine lv_iload hx hb d_M_nextHeld_80 (lv_at hl 6 rfl) ?_
          refine tp_i (congrArg iI (show nhF (fun j => f12 (65 * p + j)) sp p0 ν = nhF (fun j => f12 (65 * p + j)) sp p0 (ν + 1) from by rw [nhF, if_neg (by omega)])) ?_
          refine lv_istore (lv' := [(4, .int (iI (nhF (fun j => f12 (65 * p + j)) sp p0 (ν + 1)))), (5, .int (iI (lmF (fun j => f12 (65 * p + j)) p0 (ν + 1)))), (7, .int (iI (f12 ((65 * p) + (p0 + 1 + (ν : Int)))))), (0, .ref am), (1, .int (iI (p))), (2, .int (iI (sp))), (3, .int (iI (p0))), (6, .int (iI (p0 + 1 + (ν : Int))))]) hx hb d_M_nextHeld_82 hl (by decide) rfl (fun ls hl => ?_)
          refine lv_iinc (v := iI (p0 + 1 + ((ν + 1 : Nat) : Int))) (lv' := [(6, .int (iI (p0 + 1 + ((ν + 1 : Nat) : Int)))), (4, .int (iI (nhF (fun j => f12 (65 * p + j)) sp p0 (ν + 1)))), (5, .int (iI (lmF (fun j => f12 (65 * p + j)) p0 (ν + 1)))), (7, .int (iI (f12 ((65 * p) + (p0 + 1 + (ν : Int)))))), (0, .ref am), (1, .int (iI (p))), (2, .int (iI (sp))), (3, .int (iI (p0)))]) hx hb d_M_nextHeld_84 hl (k := 7) rfl ((ii_add _ _).trans (congrArg iI (by omega))) (by decide) rfl (fun ls hl => ?_)
          refine lv_goto (tgt := 23) hx hb d_M_nextHeld_87 (by decide) ?_
          exact ih ls (ν + 1) (by omega) (lv_sub hl [4, 5, 6, 7, 1, 2, 0] rfl)
        · refine lv_iload hx hb d_M_nextHeld_75 (lv_at hl 7 rfl) ?_
          refine lv_goto (tgt := 82) hx hb d_M_nextHeld_77 (by decide) ?_
          refine tp_i (congrArg iI (show p0 + 1 + (ν : Int) = nhF (fun j => f12 (65 * p + j)) sp p0 (ν + 1) from by rw [nhF, if_pos (by omega)])) ?_
          refine lv_istore (lv' := [(4, .int (iI (nhF (fun j => f12 (65 * p + j)) sp p0 (ν + 1)))), (5, .int (iI (lmF (fun j => f12 (65 * p + j)) p0 (ν + 1)))), (7, .int (iI (f12 ((65 * p) + (p0 + 1 + (ν : Int)))))), (0, .ref am), (1, .int (iI (p))), (2, .int (iI (sp))), (3, .int (iI (p0))), (6, .int (iI (p0 + 1 + (ν : Int))))]) hx hb d_M_nextHeld_82 hl (by decide) rfl (fun ls hl => ?_)
          refine lv_iinc (v := iI (p0 + 1 + ((ν + 1 : Nat) : Int))) (lv' := [(6, .int (iI (p0 + 1 + ((ν + 1 : Nat) : Int)))), (4, .int (iI (nhF (fun j => f12 (65 * p + j)) sp p0 (ν + 1)))), (5, .int (iI (lmF (fun j => f12 (65 * p + j)) p0 (ν + 1)))), (7, .int (iI (f12 ((65 * p) + (p0 + 1 + (ν : Int)))))), (0, .ref am), (1, .int (iI (p))), (2, .int (iI (sp))), (3, .int (iI (p0)))]) hx hb d_M_nextHeld_84 hl (k := 7) rfl ((ii_add _ _).trans (congrArg iI (by omega))) (by decide) rfl (fun ls hl => ?_)
          refine lv_goto (tgt := 23) hx hb d_M_nextHeld_87 (by decide) ?_
          exact ih ls (ν + 1) (by omega) (lv_sub hl [4, 5, 6, 7, 1, 2, 0] rfl)
      · refine lv_iload hx hb d_M_nextHeld_55 (lv_at hl 0 rfl) ?_
        refine lv_goto (tgt := 62) hx hb d_M_nextHeld_57 (by decide) ?_
        refine tp_i (congrArg iI (show f12 ((65 * p) + (p0 + 1 + (ν : Int))) = lmF (fun j => f12 (65 * p + j)) p0 (ν + 1) from by rw [q6]; omega)) ?_
        refine lv_istore (lv' := [(5, .int (iI (lmF (fun j => f12 (65 * p + j)) p0 (ν + 1)))), (7, .int (iI (f12 ((65 * p) + (p0 + 1 + (ν : Int)))))), (0, .ref am), (1, .int (iI (p))), (2, .int (iI (sp))), (3, .int (iI (p0))), (4, .int (iI (nhF (fun j => f12 (65 * p + j)) sp p0 ν))), (6, .int (iI (p0 + 1 + (ν : Int))))]) hx hb d_M_nextHeld_62 hl (by decide) rfl (fun ls hl => ?_)
        refine lv_iload hx hb d_M_nextHeld_64 (lv_at hl 7 rfl) ?_
        refine lv_iload_n hx hb d_M_nextHeld_66 rfl (lv_at hl 5 rfl) ?_
        refine ri_isub hx hb d_M_nextHeld_67 ?_
        refine lv_iload_n hx hb d_M_nextHeld_68 rfl (lv_at hl 4 rfl) ?_
        refine ri_imul hx hb d_M_nextHeld_69 ?_
        refine tp_i (congrArg iI (show ((p0 + 1 + (ν : Int)) - p0) * sp = ((ν : Int) + 1) * sp from q5)) ?_
        refine lv_iload hx hb d_M_nextHeld_70 (lv_at hl 0 rfl) ?_
        refine ri_icmp_gt (tgt := 80) hx hb d_M_nextHeld_72 (by decide) (by omega) (by omega) (fun c72 => ?_) (fun c72 => ?_)
        · refine lv_iload hx hb d_M_nextHeld_80 (lv_at hl 6 rfl) ?_
          refine tp_i (congrArg iI (show nhF (fun j => f12 (65 * p + j)) sp p0 ν = nhF (fun j => f12 (65 * p + j)) sp p0 (ν + 1) from by rw [nhF, if_neg (by omega)])) ?_
          refine lv_istore (lv' := [(4, .int (iI (nhF (fun j => f12 (65 * p + j)) sp p0 (ν + 1)))), (5, .int (iI (lmF (fun j => f12 (65 * p + j)) p0 (ν + 1)))), (7, .int (iI (f12 ((65 * p) + (p0 + 1 + (ν : Int)))))), (0, .ref am), (1, .int (iI (p))), (2, .int (iI (sp))), (3, .int (iI (p0))), (6, .int (iI (p0 + 1 + (ν : Int))))]) hx hb d_M_nextHeld_82 hl (by decide) rfl (fun ls hl => ?_)
          refine lv_iinc (v := iI (p0 + 1 + ((ν + 1 : Nat) : Int))) (lv' := [(6, .int (iI (p0 + 1 + ((ν + 1 : Nat) : Int)))), (4, .int (iI (nhF (fun j => f12 (65 * p + j)) sp p0 (ν + 1)))), (5, .int (iI (lmF (fun j => f12 (65 * p + j)) p0 (ν + 1)))), (7, .int (iI (f12 ((65 * p) + (p0 + 1 + (ν : Int)))))), (0, .ref am), (1, .int (iI (p))), (2, .int (iI (sp))), (3, .int (iI (p0)))]) hx hb d_M_nextHeld_84 hl (k := 7) rfl ((ii_add _ _).trans (congrArg iI (by omega))) (by decide) rfl (fun ls hl => ?_)
          refine lv_goto (tgt := 23) hx hb d_M_nextHeld_87 (by decide) ?_
          exact ih ls (ν + 1) (by omega) (lv_sub hl [4, 5, 6, 7, 1, 2, 0] rfl)
        · refine lv_iload hx hb d_M_nextHeld_75 (lv_at hl 7 rfl) ?_
          refine lv_goto (tgt := 82) hx hb d_M_nextHeld_77 (by decide) ?_
          refine tp_i (congrArg iI (show p0 + 1 + (ν : Int) = nhF (fun j => f12 (65 * p + j)) sp p0 (ν + 1) from by rw [nhF, if_pos (by omega)])) ?_
          refine lv_istore (lv' := [(4, .int (iI (nhF (fun j => f12 (65 * p + j)) sp p0 (ν + 1)))), (5, .int (iI (lmF (fun j => f12 (65 * p + j)) p0 (ν + 1)))), (7, .int (iI (f12 ((65 * p) + (p0 + 1 + (ν : Int)))))), (0, .ref am), (1, .int (iI (p))), (2, .int (iI (sp))), (3, .int (iI (p0))), (6, .int (iI (p0 + 1 + (ν : Int))))]) hx hb d_M_nextHeld_82 hl (by decide) rfl (fun ls hl => ?_)
          refine lv_iinc (v := iI (p0 + 1 + ((ν + 1 : Nat) : Int))) (lv' := [(6, .int (iI (p0 + 1 + ((ν + 1 : Nat) : Int)))), (4, .int (iI (nhF (fun j => f12 (65 * p + j)) sp p0 (ν + 1)))), (5, .int (iI (lmF (fun j => f12 (65 * p + j)) p0 (ν + 1)))), (7, .int (iI (f12 ((65 * p) + (p0 + 1 + (ν : Int)))))), (0, .ref am), (1, .int (iI (p))), (2, .int (iI (sp))), (3, .int (iI (p0)))]) hx hb d_M_nextHeld_84 hl (k := 7) rfl ((ii_add _ _).trans (congrArg iI (by omega))) (by decide) rfl (fun ls hl => ?_)
          refine lv_goto (tgt := 23) hx hb d_M_nextHeld_87 (by decide) ?_
          exact ih ls (ν + 1) (by omega) (lv_sub hl [4, 5, 6, 7, 1, 2, 0] rfl)

set_option maxHeartbeats 4000000 in
set_option maxRecDepth 100000 in
theorem c_M_wantedBelow {l : Launch} {s0 : State} {D : va_G} {k : Nat → ClassId} (hC : Cx l s0 D k) (a10 a12 a16 : Nat) (f10 f12 f16 : Int → Int) (am : Nat) (fs : List Value) (h10 : fs[10]? = some (.ref a10)) (h12 : fs[12]? = some (.ref a12)) (h16 : fs[16]? = some (.ref a16)) (p : Int) (L : Nat) (hp : 0 ≤ p ∧ p < 6) (hL : f10 p = L) (hL64 : L ≤ 64) (hrr : ∀ j : Int, 0 ≤ j → j ≤ L → 0 ≤ f12 (65 * p + j) ∧ f12 (65 * p + j) ≤ 500) (hre : ∀ j : Int, 0 ≤ j → j ≤ L → -12 ≤ f16 j ∧ f16 j ≤ 512) (sk hg : Int) (hsk : 0 ≤ sk ∧ sk ≤ 50) (hhg : In64 hg) : RdM l s0 y_M_wantedBelow { frames := 1, cells := 0, slots := 0, locals := 23 } [.ref am, .int (iI (p)), .int (iI (sk)), .long (jJ (hg))] (fun H => va_P D classes ([(am, .inr (6, fs)), (a10, .inl (k 0, ai 6 f10)), (a12, .inl (k 0, ai 390 f12)), (a16, .inl (k 0, ai 65 f16))]) H) (fun v => v = some (.int (iI (cnF (fun j => decide (min (f16 j + sk) (itF max (fun j => f12 (65 * p + j)) 0 0 (L + 1) + 3) < hg)) 0 (L + 1))))) := by
  refine ex_ofW (cc := b_M_wantedBelow) (maxL := 9) (ret := (some .int)) (hh := []) (by decide +kernel) (Or.inl ⟨g_812, rfl⟩) ?_
  intro p9 e9 s m9 args9 below9 meth9 c9 s9 B9 hml htab hv
  obtain ⟨rfl, h0, hP⟩ := hv
  have hx := B9.exec
  have hb := B9.bytes
  have hr := B9.returns
  have hG := atoms_spec (ws := GW) B9.pre
  have hown : s.vm.findClass "LathePiecesModel" = some m9.cls := findClass_of_methodNamed B9.named
  have hlocks := B9.notSynchronized
  have hK := cx_K hC h0
  have hS : va_S (aL s0) s.heap s.heap [] := va_S.rf
  have hl := lv_entry ([.ref am, .int (iI (p)), .int (iI (sk)), .long (jJ (hg))]) (n := 9) (Nat.le_of_ble_eq_true rfl)
  rw [lg_entry_eq]
  generalize (lg_sl ([.ref am, .int (iI (p)), .int (iI (sk)), .long (jJ (hg))]) ++ List.replicate (9 - (lg_sl ([.ref am, .int (iI (p)), .int (iI (sk)), .long (jJ (hg))])).length) Slot.unset).toArray = ls at hl ⊢
  replace hl : lv_has ls 9 [(0, .ref am), (1, .int (iI (p))), (2, .int (iI (sk))), (3, .long (jJ (hg)))] := hl
  have qb : 0 ≤ itF max (fun j => f12 (65 * p + j)) 0 0 (L + 1) ∧ itF max (fun j => f12 (65 * p + j)) 0 0 (L + 1) ≤ 500 := itF_max _ (by omega) (fun j g1 g2 => (hrr j (by omega) (by omega)).2)
  refine ri_iconst hx hb d_M_wantedBelow_0 ?_
  refine lv_istore (lv' := [(5, .int (iI (0))), (0, .ref am), (1, .int (iI (p))), (2, .int (iI (sk))), (3, .long (jJ (hg)))]) hx hb d_M_wantedBelow_1 hl (by decide) rfl (fun ls hl => ?_)
  refine lv_aload_n hx hb d_M_wantedBelow_3 rfl (lv_at hl 1 rfl) ?_
  refine lv_iload_n hx hb d_M_wantedBelow_4 rfl (lv_at hl 2 rfl) ?_
  refine rd_call (ex_runV (C := "LathePiecesModel") (As := [.int (iI (p))]) (rest := []) ⟨hx, hb, hml, hown, hG⟩ (c_M_blank hC a10 a12 f10 f12 am fs h10 h12 p L hp hL hL64 hrr) (cb_code (n := 1) hG g_781 g_3 g_778 rfl rfl (by decide +kernel) ⟨Nat.le_of_ble_eq_true rfl, Nat.le_of_ble_eq_true rfl⟩) (hG _ g_780) (hG _ gs_M_blank) (kd_V ⟨fun _ _ _ _ q => q, fun U hU hW => ⟨rfl, la_next h0 (fun _ z => z) hS U hU hW, (by show va_P D classes _ U.heap; rw [hU]; exact (va_P.sub hP [0, 1, 2] rfl))⟩⟩ (kd_recv hK hP (q0 := 0) (ci := 6) rfl rfl rfl)) rfl rfl hl.1 rfl (lv_room (Nat.le_of_ble_eq_true rfl)) d_M_wantedBelow_5 ⟨Nat.le_of_ble_eq_true rfl, Nat.le_of_ble_eq_true rfl⟩) (fun v9 h9 => ?_)
  obtain rfl := h9
  show W _ _ _ _ _ _ _ _ _ _ _ _ _ _ _ (F0 m9 8 ls [.int (iI ((itF max (fun j => f12 (65 * p + j)) 0 0 (L + 1) + 3)))])
  refine lv_istore (lv' := [(6, .int (iI ((itF max (fun j => f12 (65 * p + j)) 0 0 (L + 1) + 3)))), (5, .int (iI (0))), (0, .ref am), (1, .int (iI (p))), (2, .int (iI (sk))), (3, .long (jJ (hg)))]) hx hb d_M_wantedBelow_8 hl (by decide) rfl (fun ls hl => ?_)
  refine ri_iconst hx hb d_M_wantedBelow_10 ?_
  refine lv_istore (lv' := [(7, .int (iI (0))), (6, .int (iI ((itF max (fun j => f12 (65 * p + j)) 0 0 (L + 1) + 3)))), (5, .int (iI (0))), (0, .ref am), (1, .int (iI (p))), (2, .int (iI (sk))), (3, .long (jJ (hg)))]) hx hb d_M_wantedBelow_11 hl (by decide) rfl (fun ls hl => ?_)
  replace hl : lv_has ls 9 [(7, .int (iI (0 + ((0 : Nat) : Int)))), (6, .int (iI ((itF max (fun j => f12 (65 * p + j)) 0 0 (L + 1) + 3)))), (5, .int (iI (cnF (fun j => decide (min (f16 j + sk) (itF max (fun j => f12 (65 * p + j)) 0 0 (L + 1) + 3) < hg)) 0 0))), (0, .ref am), (1, .int (iI (p))), (2, .int (iI (sk))), (3, .long (jJ (hg)))] := hl
  obtain ⟨κ, ν, hinv, hl1⟩ : ∃ (κ : Nat) (ν : Nat), (ν + κ = L + 1) ∧ lv_has ls 9 [(0, .ref am), (1, .int (iI (p))), (2, .int (iI (sk))), (3, .long (jJ (hg))), (5, .int (iI (cnF (fun j => decide (min (f16 j + sk) (itF max (fun j => f12 (65 * p + j)) 0 0 (L + 1) + 3) < hg)) 0 ν))), (6, .int (iI ((itF max (fun j => f12 (65 * p + j)) 0 0 (L + 1) + 3)))), (7, .int (iI (0 + (ν : Int))))] := ⟨L + 1, 0, (by omega), lv_sub hl [3, 4, 5, 6, 2, 1, 0] rfl⟩
  clear hl
  have hl := hl1
  clear hl1
  induction κ generalizing ν ls with
  | zero =>
    obtain h1 := hinv
    refine lv_iload hx hb d_M_wantedBelow_13 (lv_at hl 6 rfl) ?_
    refine lv_aload_n hx hb d_M_wantedBelow_15 rfl (lv_at hl 0 rfl) ?_
    refine va_get (D := D) (ci := 6) (v := .ref a10) (C := R_M) (T := F_M) (N := 26) hx hb hG in_M hown hK hP 0 rfl rfl 10 (by decide) (hG _ g_637) (fun _ h9 => h9) h10 d_M_wantedBelow_16 ?_
    refine lv_iload_n hx hb d_M_wantedBelow_19 rfl (lv_at hl 1 rfl) ?_
    refine ra_iald hx hb hK hP 1 rfl (by omega) (by omega) d_M_wantedBelow_20 ?_
    refine ri_icmp_gt (tgt := 78) hx hb d_M_wantedBelow_21 (by decide) (by omega) (by omega) (fun c21 => ?_) (fun c21 => ?_)
    · refine lv_iload hx hb d_M_wantedBelow_78 (lv_at hl 4 rfl) ?_
      exact re_i hx hb hr hlocks (fun t ht hW => ⟨by rw [show L + 1 = ν by omega], ht⟩) (fun z hz => nomatch hz) (Nat.le_of_ble_eq_true rfl) (Nat.le_of_ble_eq_true rfl) d_M_wantedBelow_80
    · exact absurd c21 (by omega)
  | succ κ ih =>
    obtain h1 := hinv
    refine lv_iload hx hb d_M_wantedBelow_13 (lv_at hl 6 rfl) ?_
    refine lv_aload_n hx hb d_M_wantedBelow_15 rfl (lv_at hl 0 rfl) ?_
    refine va_get (D := D) (ci := 6) (v := .ref a10) (C := R_M) (T := F_M) (N := 26) hx hb hG in_M hown hK hP 0 rfl rfl 10 (by decide) (hG _ g_637) (fun _ h9 => h9) h10 d_M_wantedBelow_16 ?_
    refine lv_iload_n hx hb d_M_wantedBelow_19 rfl (lv_at hl 1 rfl) ?_
    refine ra_iald hx hb hK hP 1 rfl (by omega) (by omega) d_M_wantedBelow_20 ?_
    refine ri_icmp_gt (tgt := 78) hx hb d_M_wantedBelow_21 (by decide) (by omega) (by omega) (fun c21 => ?_) (fun c21 => ?_)
    · exact absurd c21 (by omega)
    · have q1 := hre (0 + ν) (by omega) (by omega)
      have q3 := cnF_s (fun j => decide (min (f16 j + sk) (itF max (fun j => f12 (65 * p + j)) 0 0 (L + 1) + 3) < hg)) 0 ν
      refine lv_aload_n hx hb d_M_wantedBelow_24 rfl (lv_at hl 0 rfl) ?_
      refine va_get (D := D) (ci := 6) (v := .ref a16) (C := R_M) (T := F_M) (N := 26) hx hb hG in_M hown hK hP 0 rfl rfl 16 (by decide) (hG _ g_643) (fun _ h9 => h9) h16 d_M_wantedBelow_25 ?_
      refine lv_iload hx hb d_M_wantedBelow_28 (lv_at hl 6 rfl) ?_
      refine ra_iald hx hb hK hP 3 rfl (by omega) (by omega) d_M_wantedBelow_30 ?_
      refine lv_iload_n hx hb d_M_wantedBelow_31 rfl (lv_at hl 2 rfl) ?_
      refine ri_iadd hx hb d_M_wantedBelow_32 ?_
      refine lv_iload hx hb d_M_wantedBelow_33 (lv_at hl 5 rfl) ?_
      refine ri_icmp_le (tgt := 43) hx hb d_M_wantedBelow_35 (by decide) (by omega) (by omega) (fun c35 => ?_) (fun c35 => ?_)
      · refine lv_aload_n hx hb d_M_wantedBelow_43 rfl (lv_at hl 0 rfl) ?_
        refine va_get (D := D) (ci := 6) (v := .ref a16) (C := R_M) (T := F_M) (N := 26) hx hb hG in_M hown hK hP 0 rfl rfl 16 (by decide) (hG _ g_643) (fun _ h9 => h9) h16 d_M_wantedBelow_44 ?_
        refine lv_iload hx hb d_M_wantedBelow_47 (lv_at hl 6 rfl) ?_
        refine ra_iald hx hb hK hP 3 rfl (by omega) (by omega) d_M_wantedBelow_49 ?_
        refine lv_iload_n hx hb d_M_wantedBelow_50 rfl (lv_at hl 2 rfl) ?_
        refine ri_iadd hx hb d_M_wantedBelow_51 ?_
        refine tp_i (congrArg iI (show (f16 (0 + (ν : Int))) + sk = min (f16 (0 + ν) + sk) (itF max (fun j => f12 (65 * p + j)) 0 0 (L + 1) + 3) from by omega)) ?_
        refine lv_istore (lv' := [(8, .int (iI (min (f16 (0 + ν) + sk) (itF max (fun j => f12 (65 * p + j)) 0 0 (L + 1) + 3)))), (0, .ref am), (1, .int (iI (p))), (2, .int (iI (sk))), (3, .long (jJ (hg))), (5, .int (iI (cnF (fun j => decide (min (f16 j + sk) (itF max (fun j => f12 (65 * p + j)) 0 0 (L + 1) + 3) < hg)) 0 ν))), (6, .int (iI ((itF max (fun j => f12 (65 * p + j)) 0 0 (L + 1) + 3)))), (7, .int (iI (0 + (ν : Int))))]) hx hb d_M_wantedBelow_52 hl (by decide) rfl (fun ls hl => ?_)
        refine lv_iload hx hb d_M_wantedBelow_54 (lv_at hl 5 rfl) ?_
        refine lv_iload hx hb d_M_wantedBelow_56 (lv_at hl 0 rfl) ?_
        refine ri_i2l hx hb d_M_wantedBelow_58 (by omega) ?_
        refine lv_lload_n hx hb d_M_wantedBelow_59 rfl (lv_at hl 4 rfl) ?_
        refine ri_lc_ge (tgt := 68) hx hb d_M_wantedBelow_60 d_M_wantedBelow_61 (by decide) (by omega) (by omega) (fun c60 => ?_) (fun c60 => ?_)
        · rw [if_neg (by rw [decide_eq_true_eq]; omega)] at q3
          refine ri_iconst hx hb d_M_wantedBelow_68 ?_
          refine ri_iadd hx hb d_M_wantedBelow_69 ?_
          refine tp_i (congrArg iI (show (cnF (fun j => decide (min (f16 j + sk) (itF max (fun j => f12 (65 * p + j)) 0 0 (L + 1) + 3) < hg)) 0 ν) + 0 = cnF (fun j => decide (min (f16 j + sk) (itF max (fun j => f12 (65 * p + j)) 0 0 (L + 1) + 3) < hg)) 0 (ν + 1) from q3.symm)) ?_
          refine lv_istore (lv' := [(5, .int (iI (cnF (fun j => decide (min (f16 j + sk) (itF max (fun j => f12 (65 * p + j)) 0 0 (L + 1) + 3) < hg)) 0 (ν + 1)))), (8, .int (iI (min (f16 (0 + ν) + sk) (itF max (fun j => f12 (65 * p + j)) 0 0 (L + 1) + 3)))), (0, .ref am), (1, .int (iI (p))), (2, .int (iI (sk))), (3, .long (jJ (hg))), (6, .int (iI ((itF max (fun j => f12 (65 * p + j)) 0 0 (L + 1) + 3)))), (7, .int (iI (0 + (ν : Int))))]) hx hb d_M_wantedBelow_70 hl (by decide) rfl (fun ls hl => ?_)
          refine lv_iinc (v := iI (0 + ((ν + 1 : Nat) : Int))) (lv' := [(7, .int (iI (0 + ((ν + 1 : Nat) : Int)))), (5, .int (iI (cnF (fun j => decide (min (f16 j + sk) (itF max (fun j => f12 (65 * p + j)) 0 0 (L + 1) + 3) < hg)) 0 (ν + 1)))), (8, .int (iI (min (f16 (0 + ν) + sk) (itF max (fun j => f12 (65 * p + j)) 0 0 (L + 1) + 3)))), (0, .ref am), (1, .int (iI (p))), (2, .int (iI (sk))), (3, .long (jJ (hg))), (6, .int (iI ((itF max (fun j => f12 (65 * p + j)) 0 0 (L + 1) + 3))))]) hx hb d_M_wantedBelow_72 hl (k := 7) rfl ((ii_add _ _).trans (congrArg iI (by omega))) (by decide) rfl (fun ls hl => ?_)
          refine lv_goto (tgt := 13) hx hb d_M_wantedBelow_75 (by decide) ?_
          exact ih ls (ν + 1) (by omega) (lv_sub hl [3, 4, 5, 6, 1, 7, 0] rfl)
        · rw [if_pos (by rw [decide_eq_true_eq]; omega)] at q3
          refine ri_iconst hx hb d_M_wantedBelow_64 ?_
          refine lv_goto (tgt := 69) hx hb d_M_wantedBelow_65 (by decide) ?_
          refine ri_iadd hx hb d_M_wantedBelow_69 ?_
          refine tp_i (congrArg iI (show (cnF (fun j => decide (min (f16 j + sk) (itF max (fun j => f12 (65 * p + j)) 0 0 (L + 1) + 3) < hg)) 0 ν) + 1 = cnF (fun j => decide (min (f16 j + sk) (itF max (fun j => f12 (65 * p + j)) 0 0 (L + 1) + 3) < hg)) 0 (ν + 1) from q3.symm)) ?_
          refine lv_istore (lv' := [(5, .int (iI (cnF (fun j => decide (min (f16 j + sk) (itF max (fun j => f12 (65 * p + j)) 0 0 (L + 1) + 3) < hg)) 0 (ν + 1)))), (8, .int (iI (min (f16 (0 + ν) + sk) (itF max (fun j => f12 (65 * p + j)) 0 0 (L + 1) + 3)))), (0, .ref am), (1, .int (iI (p))), (2, .int (iI (sk))), (3, .long (jJ (hg))), (6, .int (iI ((itF max (fun j => f12 (65 * p + j)) 0 0 (L + 1) + 3)))), (7, .int (iI (0 + (ν : Int))))]) hx hb d_M_wantedBelow_70 hl (by decide) rfl (fun ls hl => ?_)
          refine lv_iinc (v := iI (0 + ((ν + 1 : Nat) : Int))) (lv' := [(7, .int (iI (0 + ((ν + 1 : Nat) : Int)))), (5, .int (iI (cnF (fun j => decide (min (f16 j + sk) (itF max (fun j => f12 (65 * p + j)) 0 0 (L + 1) + 3) < hg)) 0 (ν + 1)))), (8, .int (iI (min (f16 (0 + ν) + sk) (itF max (fun j => f12 (65 * p + j)) 0 0 (L + 1) + 3)))), (0, .ref am), (1, .int (iI (p))), (2, .int (iI (sk))), (3, .long (jJ (hg))), (6, .int (iI ((itF max (fun j => f12 (65 * p + j)) 0 0 (L + 1) + 3))))]) hx hb d_M_wantedBelow_72 hl (k := 7) rfl ((ii_add _ _).trans (congrArg iI (by omega))) (by decide) rfl (fun ls hl => ?_)
          refine lv_goto (tgt := 13) hx hb d_M_wantedBelow_75 (by decide) ?_
          exact ih ls (ν + 1) (by omega) (lv_sub hl [3, 4, 5, 6, 1, 7, 0] rfl)
      · refine lv_iload hx hb d_M_wantedBelow_38 (lv_at hl 5 rfl) ?_
        refine lv_goto (tgt := 52) hx hb d_M_wantedBelow_40 (by decide) ?_
        refine tp_i (congrArg iI (show (itF max (fun j => f12 (65 * p + j)) 0 0 (L + 1) + 3) = min (f16 (0 + ν) + sk) (itF max (fun j => f12 (65 * p + j)) 0 0 (L + 1) + 3) from by omega)) ?_
        refine lv_istore (lv' := [(8, .int (iI (min (f16 (0 + ν) + sk) (itF max (fun j => f12 (65 * p + j)) 0 0 (L + 1) + 3)))), (0, .ref am), (1, .int (iI (p))), (2, .int (iI (sk))), (3, .long (jJ (hg))), (5, .int (iI (cnF (fun j => decide (min (f16 j + sk) (itF max (fun j => f12 (65 * p + j)) 0 0 (L + 1) + 3) < hg)) 0 ν))), (6, .int (iI ((itF max (fun j => f12 (65 * p + j)) 0 0 (L + 1) + 3)))), (7, .int (iI (0 + (ν : Int))))]) hx hb d_M_wantedBelow_52 hl (by decide) rfl (fun ls hl => ?_)
        refine lv_iload hx hb d_M_wantedBelow_54 (lv_at hl 5 rfl) ?_
        refine lv_iload hx hb d_M_wantedBelow_56 (lv_at hl 0 rfl) ?_
        refine ri_i2l hx hb d_M_wantedBelow_58 (by omega) ?_
        refine lv_lload_n hx hb d_M_wantedBelow_59 rfl (lv_at hl 4 rfl) ?_
        refine ri_lc_ge (tgt := 68) hx hb d_M_wantedBelow_60 d_M_wantedBelow_61 (by decide) (by omega) (by omega) (fun c60 => ?_) (fun c60 => ?_)
        · rw [if_neg (by rw [decide_eq_true_eq]; omega)] at q3
          refine ri_iconst hx hb d_M_wantedBelow_68 ?_
          refine ri_iadd hx hb d_M_wantedBelow_69 ?_
          refine tp_i (congrArg iI (show (cnF (fun j => decide (min (f16 j + sk) (itF max (fun j => f12 (65 * p + j)) 0 0 (L + 1) + 3) < hg)) 0 ν) + 0 = cnF (fun j => decide (min (f16 j + sk) (itF max (fun j => f12 (65 * p + j)) 0 0 (L + 1) + 3) < hg)) 0 (ν + 1) from q3.symm)) ?_
          refine lv_istore (lv' := [(5, .int (iI (cnF (fun j => decide (min (f16 j + sk) (itF max (fun j => f12 (65 * p + j)) 0 0 (L + 1) + 3) < hg)) 0 (ν + 1)))), (8, .int (iI (min (f16 (0 + ν) + sk) (itF max (fun j => f12 (65 * p + j)) 0 0 (L + 1) + 3)))), (0, .ref am), (1, .int (iI (p))), (2, .int (iI (sk))), (3, .long (jJ (hg))), (6, .int (iI ((itF max (fun j => f12 (65 * p + j)) 0 0 (L + 1) + 3)))), (7, .int (iI (0 + (ν : Int))))]) hx hb d_M_wantedBelow_70 hl (by decide) rfl (fun ls hl => ?_)
          refine lv_iinc (v := iI (0 + ((ν + 1 : Nat) : Int))) (lv' := [(7, .int (iI (0 + ((ν + 1 : Nat) : Int)))), (5, .int (iI (cnF (fun j => decide (min (f16 j + sk) (itF max (fun j => f12 (65 * p + j)) 0 0 (L + 1) + 3) < hg)) 0 (ν + 1)))), (8, .int (iI (min (f16 (0 + ν) + sk) (itF max (fun j => f12 (65 * p + j)) 0 0 (L + 1) + 3)))), (0, .ref am), (1, .int (iI (p))), (2, .int (iI (sk))), (3, .long (jJ (hg))), (6, .int (iI ((itF max (fun j => f12 (65 * p + j)) 0 0 (L + 1) + 3))))]) hx hb d_M_wantedBelow_72 hl (k := 7) rfl ((ii_add _ _).trans (congrArg iI (by omega))) (by decide) rfl (fun ls hl => ?_)
          refine lv_goto (tgt := 13) hx hb d_M_wantedBelow_75 (by decide) ?_
          exact ih ls (ν + 1) (by omega) (lv_sub hl [3, 4, 5, 6, 1, 7, 0] rfl)
        · rw [if_pos (by rw [decide_eq_true_eq]; omega)] at q3
          refine ri_iconst hx hb d_M_wantedBelow_64 ?_
          refine lv_goto (tgt := 69) hx hb d_M_wantedBelow_65 (by decide) ?_
          refine ri_iadd hx hb d_M_wantedBelow_69 ?_
          refine tp_i (congrArg iI (show (cnF (fun j => decide (min (f16 j + sk) (itF max (fun j => f12 (65 * p + j)) 0 0 (L + 1) + 3) < hg)) 0 ν) + 1 = cnF (fun j => decide (min (f16 j + sk) (itF max (fun j => f12 (65 * p + j)) 0 0 (L + 1) + 3) < hg)) 0 (ν + 1) from q3.symm)) ?_
          refine lv_istore (lv' := [(5, .int (iI (cnF (fun j => decide (min (f16 j + sk) (itF max (fun j => f12 (65 * p + j)) 0 0 (L + 1) + 3) < hg)) 0 (ν + 1)))), (8, .int (iI (min (f16 (0 + ν) + sk) (itF max (fun j => f12 (65 * p + j)) 0 0 (L + 1) + 3)))), (0, .ref am), (1, .int (iI (p))), (2, .int (iI (sk))), (3, .long (jJ (hg))), (6, .int (iI ((itF max (fun j => f12 (65 * p + j)) 0 0 (L + 1) + 3)))), (7, .int (iI (0 + (ν : Int))))]) hx hb d_M_wantedBelow_70 hl (by decide) rfl (fun ls hl => ?_)
          refine lv_iinc (v := iI (0 + ((ν + 1 : Nat) : Int))) (lv' := [(7, .int (iI (0 + ((ν + 1 : Nat) : Int)))), (5, .int (iI (cnF (fun j => decide (min (f16 j + sk) (itF max (fun j => f12 (65 * p + j)) 0 0 (L + 1) + 3) < hg)) 0 (ν + 1)))), (8, .int (iI (min (f16 (0 + ν) + sk) (itF max (fun j => f12 (65 * p + j)) 0 0 (L + 1) + 3)))), (0, .ref am), (1, .int (iI (p))), (2, .int (iI (sk))), (3, .long (jJ (hg))), (6, .int (iI ((itF max (fun j => f12 (65 * p + j)) 0 0 (L + 1) + 3))))]) hx hb d_M_wantedBelow_72 hl (k := 7) rfl ((ii_add _ _).trans (congrArg iI (by omega))) (by decide) rfl (fun ls hl => ?_)
          refine lv_goto (tgt := 13) hx hb d_M_wantedBelow_75 (by decide) ?_
          exact ih ls (ν + 1) (by omega) (lv_sub hl [3, 4, 5, 6, 1, 7, 0] rfl)

set_option maxHeartbeats 4000000 in
set_option maxRecDepth 100000 in
theorem c_M_gapOf {l : Launch} {s0 : State} {D : va_G} {k : Nat → ClassId} (hC : Cx l s0 D k) (a18 a19 a20 : Nat) (f18 f19 f20 : Int → Int) (am : Nat) (fs : List Value) (h18 : fs[18]? = some (.ref a18)) (h19 : fs[19]? = some (.ref a19)) (h20 : fs[20]? = some (.ref a20)) (p : Int) (n9 : Nat) (hp : 0 ≤ p ∧ p < 6) (hn9 : f18 p = n9) (hn16 : n9 ≤ 16) (hel : ∀ j : Int, 0 ≤ j → j < n9 → (1 ≤ f19 (16 * p + j) ∧ f19 (16 * p + j) ≤ 3600) ∧ 1 ≤ f20 (16 * p + j) ∧ f20 (16 * p + j) ≤ 12) : RdM l s0 y_M_gapOf { frames := 0, cells := 0, slots := 0, locals := 0 } [.ref am, .int (iI (p))] (fun H => va_P D classes ([(am, .inr (6, fs)), (a18, .inl (k 0, ai 6 f18)), (a19, .inl (k 0, ai 96 f19)), (a20, .inl (k 0, ai 96 f20))]) H) (fun v => v = some (.long (jJ (9979200 - smF (fun j => f19 (16 * p + j)) (fun j => f20 (16 * p + j)) n9)))) := by
  refine ex_ofW (cc := b_M_gapOf) (maxL := 5) (ret := (some .long)) (hh := []) (by decide +kernel) (Or.inl ⟨g_863, rfl⟩) ?_
  intro p9 e9 s m9 args9 below9 meth9 c9 s9 B9 hml htab hv
  obtain ⟨rfl, h0, hP⟩ := hv
  have hx := B9.exec
  have hb := B9.bytes
  have hr := B9.returns
  have hG := atoms_spec (ws := GW) B9.pre
  have hown : s.vm.findClass "LathePiecesModel" = some m9.cls := findClass_of_methodNamed B9.named
  have hlocks := B9.notSynchronized
  have hK := cx_K hC h0
  have hS : va_S (aL s0) s.heap s.heap [] := va_S.rf
  have hl := lv_entry ([.ref am, .int (iI (p))]) (n := 5) (Nat.le_of_ble_eq_true rfl)
  rw [lg_entry_eq]
  generalize (lg_sl ([.ref am, .int (iI (p))]) ++ List.replicate (5 - (lg_sl ([.ref am, .int (iI (p))])).length) Slot.unset).toArray = ls at hl ⊢
  replace hl : lv_has ls 5 [(0, .ref am), (1, .int (iI (p)))] := hl
  refine lv_ldc2 (v := jJ 9979200) hx hb hown (hG _ g_864) d_M_gapOf_0 ?_
  refine lv_lstore_n (lv' := [(2, .long (jJ (9979200))), (0, .ref am), (1, .int (iI (p)))]) hx hb d_M_gapOf_3 rfl hl (by decide) rfl (fun ls hl => ?_)
  refine ri_iconst hx hb d_M_gapOf_4 ?_
  refine lv_istore (lv' := [(4, .int (iI (0))), (2, .long (jJ (9979200))), (0, .ref am), (1, .int (iI (p)))]) hx hb d_M_gapOf_5 hl (by decide) rfl (fun ls hl => ?_)
  replace hl : lv_has ls 5 [(4, .int (iI (0 + ((0 : Nat) : Int)))), (2, .long (jJ (9979200 - smF (fun j => f19 (16 * p + j)) (fun j => f20 (16 * p + j)) 0))), (0, .ref am), (1, .int (iI (p)))] := hl
  obtain ⟨κ, ν, hinv, hl1⟩ : ∃ (κ : Nat) (ν : Nat), (ν + κ = n9) ∧ lv_has ls 5 [(0, .ref am), (1, .int (iI (p))), (2, .long (jJ (9979200 - smF (fun j => f19 (16 * p + j)) (fun j => f20 (16 * p + j)) ν))), (4, .int (iI (0 + (ν : Int))))] := ⟨n9, 0, (by omega), lv_sub hl [2, 3, 1, 0] rfl⟩
  clear hl
  have hl := hl1
  clear hl1
  induction κ generalizing ν ls with
  | zero =>
    obtain h1 := hinv
    refine lv_iload hx hb d_M_gapOf_7 (lv_at hl 3 rfl) ?_
    refine lv_aload_n hx hb d_M_gapOf_9 rfl (lv_at hl 0 rfl) ?_
    refine va_get (D := D) (ci := 6) (v := .ref a18) (C := R_M) (T := F_M) (N := 26) hx hb hG in_M hown hK hP 0 rfl rfl 18 (by decide) (hG _ g_645) (fun _ h9 => h9) h18 d_M_gapOf_10 ?_
    refine lv_iload_n hx hb d_M_gapOf_13 rfl (lv_at hl 1 rfl) ?_
    refine ra_iald hx hb hK hP 1 rfl (by omega) (by omega) d_M_gapOf_14 ?_
    refine ri_icmp_ge (tgt := 58) hx hb d_M_gapOf_15 (by decide) (by omega) (by omega) (fun c15 => ?_) (fun c15 => ?_)
    · refine lv_lload_n hx hb d_M_gapOf_58 rfl (lv_at hl 2 rfl) ?_
      exact re_l hx hb hr hlocks (fun t ht hW => ⟨by rw [show n9 = ν by omega], ht⟩) (fun z hz => nomatch hz) (Nat.le_of_ble_eq_true rfl) (Nat.le_of_ble_eq_true rfl) d_M_gapOf_59
    · exact absurd c15 (by omega)
  | succ κ ih =>
    obtain h1 := hinv
    refine lv_iload hx hb d_M_gapOf_7 (lv_at hl 3 rfl) ?_
    refine lv_aload_n hx hb d_M_gapOf_9 rfl (lv_at hl 0 rfl) ?_
    refine va_get (D := D) (ci := 6) (v := .ref a18) (C := R_M) (T := F_M) (N := 26) hx hb hG in_M hown hK hP 0 rfl rfl 18 (by decide) (hG _ g_645) (fun _ h9 => h9) h18 d_M_gapOf_10 ?_
    refine lv_iload_n hx hb d_M_gapOf_13 rfl (lv_at hl 1 rfl) ?_
    refine ra_iald hx hb hK hP 1 rfl (by omega) (by omega) d_M_gapOf_14 ?_
    refine ri_icmp_ge (tgt := 58) hx hb d_M_gapOf_15 (by decide) (by omega) (by omega) (fun c15 => ?_) (fun c15 => ?_)
    · exact absurd c15 (by omega)
    · have q1 := hel (0 + ν) (by omega) (by omega)
      have q2 := smF_s (fun j => f19 (16 * p + j)) (fun j => f20 (16 * p + j)) ν
      have q3 : (27720 : Int).tdiv (f20 (16 * p + (0 + ν))) = 27720 / f20 (16 * p + (0 + ν)) := Int.tdiv_eq_ediv_of_nonneg (by decide)
      have q4 : 0 ≤ 27720 / f20 (16 * p + (0 + ν)) ∧ 27720 / f20 (16 * p + (0 + ν)) ≤ 27720 := ⟨Int.ediv_nonneg (by decide) (by omega), Int.ediv_le_self _ (by decide)⟩
      refine lv_lload_n hx hb d_M_gapOf_18 rfl (lv_at hl 2 rfl) ?_
      refine lv_aload_n hx hb d_M_gapOf_19 rfl (lv_at hl 0 rfl) ?_
      refine va_get (D := D) (ci := 6) (v := .ref a19) (C := R_M) (T := F_M) (N := 26) hx hb hG in_M hown hK hP 0 rfl rfl 19 (by decide) (hG _ g_646) (fun _ h9 => h9) h19 d_M_gapOf_20 ?_
      refine ri_bipush hx hb d_M_gapOf_23 (by decide) ?_
      refine lv_iload_n hx hb d_M_gapOf_25 rfl (lv_at hl 1 rfl) ?_
      refine ri_imul hx hb d_M_gapOf_26 ?_
      refine lv_iload hx hb d_M_gapOf_27 (lv_at hl 3 rfl) ?_
      refine ri_iadd hx hb d_M_gapOf_29 ?_
      refine ra_iald hx hb hK hP 2 rfl (by omega) (by omega) d_M_gapOf_30 ?_
      refine ri_i2l hx hb d_M_gapOf_31 (by omega) ?_
      refine ri_sipush hx hb d_M_gapOf_32 (by decide) ?_
      refine lv_aload_n hx hb d_M_gapOf_35 rfl (lv_at hl 0 rfl) ?_
      refine va_get (D := D) (ci := 6) (v := .ref a20) (C := R_M) (T := F_M) (N := 26) hx hb hG in_M hown hK hP 0 rfl rfl 20 (by decide) (hG _ g_647) (fun _ h9 => h9) h20 d_M_gapOf_36 ?_
      refine ri_bipush hx hb d_M_gapOf_39 (by decide) ?_
      refine lv_iload_n hx hb d_M_gapOf_41 rfl (lv_at hl 1 rfl) ?_
      refine ri_imul hx hb d_M_gapOf_42 ?_
      refine lv_iload hx hb d_M_gapOf_43 (lv_at hl 3 rfl) ?_
      refine ri_iadd hx hb d_M_gapOf_45 ?_
      refine ra_iald hx hb hK hP 3 rfl (by omega) (by omega) d_M_gapOf_46 ?_
      refine ri_idiv hx hb d_M_gapOf_47 (by omega) (by omega) (by omega) ?_
      refine tp_i (congrArg iI (show Int.tdiv (27720) (f20 ((16 * p) + (0 + (ν : Int)))) = 27720 / f20 (16 * p + (0 + ν)) from q3)) ?_
      refine ri_i2l hx hb d_M_gapOf_48 (by omega) ?_
      refine ri_lmul hx hb d_M_gapOf_49 ?_
      refine ri_lsub hx hb d_M_gapOf_50 ?_
      refine tp_l (congrArg jJ (show (9979200 - smF (fun j => f19 (16 * p + j)) (fun j => f20 (16 * p + j)) ν) - ((f19 ((16 * p) + (0 + (ν : Int)))) * (27720 / f20 (16 * p + (0 + ν)))) = 9979200 - smF (fun j => f19 (16 * p + j)) (fun j => f20 (16 * p + j)) (ν + 1) from by rw [q2]; omega)) ?_
      refine lv_lstore_n (lv' := [(2, .long (jJ (9979200 - smF (fun j => f19 (16 * p + j)) (fun j => f20 (16 * p + j)) (ν + 1)))), (0, .ref am), (1, .int (iI (p))), (4, .int (iI (0 + (ν : Int))))]) hx hb d_M_gapOf_51 rfl hl (by decide) rfl (fun ls hl => ?_)
      refine lv_iinc (v := iI (0 + ((ν + 1 : Nat) : Int))) (lv' := [(4, .int (iI (0 + ((ν + 1 : Nat) : Int)))), (2, .long (jJ (9979200 - smF (fun j => f19 (16 * p + j)) (fun j => f20 (16 * p + j)) (ν + 1)))), (0, .ref am), (1, .int (iI (p)))]) hx hb d_M_gapOf_52 hl (k := 3) rfl ((ii_add _ _).trans (congrArg iI (by omega))) (by decide) rfl (fun ls hl => ?_)
      refine lv_goto (tgt := 7) hx hb d_M_gapOf_55 (by decide) ?_
      exact ih ls (ν + 1) (by omega) (lv_sub hl [2, 3, 1, 0] rfl)

theorem fl_div {a b : Int} (hb : 0 < b) : a / b = a.tdiv b - if a.tmod b < 0 then 1 else 0 := by
  have h1 := Int.tmod_add_mul_tdiv a b
  have h2 := Int.emod_add_mul_ediv a b
  have h3 := Int.emod_nonneg a (show b ≠ 0 by omega)
  have h4 := Int.emod_lt_of_pos a hb
  have h5 : -b < a.tmod b ∧ a.tmod b < b := by
    have := Int.tmod_lt_of_pos a hb
    have h6 : (a.tmod b).natAbs < b.natAbs := by rw [Int.natAbs_tmod]; exact Nat.mod_lt _ (by omega)
    omega
  have key : ∀ {q1 q2 r1 r2 : Int}, r1 + b * q1 = r2 + b * q2 → 0 ≤ r1 → r1 < b → 0 ≤ r2 → r2 < b → q1 = q2 := by
    intro q1 q2 r1 r2 e g1 g2 g3 g4
    have e2 : b * (q1 - q2) = r2 - r1 := by rw [Int.mul_sub]; omega
    rcases Int.lt_trichotomy (q1 - q2) 0 with q | q | q
    · have : b * (q1 - q2) ≤ b * (-1) := Int.mul_le_mul_of_nonneg_left (by omega) (by omega)
      omega
    · omega
    · have : b * 1 ≤ b * (q1 - q2) := Int.mul_le_mul_of_nonneg_left (by omega) (by omega)
      omega
  split
  · refine key (r1 := a % b) (r2 := a.tmod b + b) ?_ h3 h4 (by omega) (by omega)
    rw [Int.mul_sub]
    omega
  · refine key (r1 := a % b) (r2 := a.tmod b) ?_ h3 h4 (by omega) (by omega)
    rw [Int.sub_zero]
    omega
set_option maxHeartbeats 4000000 in
set_option maxRecDepth 100000 in
theorem c_M_onWay {l : Launch} {s0 : State} {D : va_G} {k : Nat → ClassId} (hC : Cx l s0 D k) (a4 a5 a6 a7 a8 : Nat) (f4 f5 f6 f7 f8 : Int → Int) (am : Nat) (fs : List Value) (h4 : fs[4]? = some (.ref a4)) (h5 : fs[5]? = some (.ref a5)) (h6 : fs[6]? = some (.ref a6)) (h7 : fs[7]? = some (.ref a7)) (h8 : fs[8]? = some (.ref a8)) (w9 x0 r0 x : Int) (hw9 : 0 ≤ w9 ∧ w9 < 64) (hx0 : 0 ≤ x0 ∧ x0 < f4 w9 ∧ f4 w9 ≤ 64) (hr0 : 0 ≤ r0 ∧ r0 ≤ 500) (hen : 0 ≤ f5 w9 ∧ f5 w9 ≤ 500) (hx9 : x0 ≤ x ∧ x ≤ f4 w9) (hso9 : 0 ≤ f6 w9 ∧ f6 w9 ≤ 2) (harc : ¬ f6 w9 = 0 → (f6 w9 = 1 ∨ f6 w9 = 2) ∧ (-200 ≤ f7 w9 ∧ f7 w9 ≤ 300) ∧ (-1000 ≤ f8 w9 ∧ f8 w9 ≤ 1500) ∧ arcOk x0 r0 (f4 w9) (f5 w9) (f7 w9) (f8 w9) (f6 w9 - 1)) : RdM l s0 y_M_onWay { frames := 1, cells := 0, slots := 0, locals := 23 } [.ref am, .int (iI (w9)), .int (iI (x0)), .int (iI (r0)), .int (iI (x))] (fun H => va_P D classes ([(am, .inr (6, fs)), (a4, .inl (k 0, ai 64 f4)), (a5, .inl (k 0, ai 64 f5)), (a6, .inl (k 0, ai 64 f6)), (a7, .inl (k 0, ai 64 f7)), (a8, .inl (k 0, ai 64 f8))]) H) (fun v => v = some (.int (iI (if f6 w9 = 0 then lineF x0 r0 (f4 w9) (f5 w9) x else arcF ((x0 - f7 w9) * (x0 - f7 w9) + (r0 - f8 w9) * (r0 - f8 w9)) (f7 w9) (f8 w9) (f6 w9 - 1) x)))) := by
  refine ex_ofW (cc := b_M_onWay) (maxL := 7) (ret := (some .int)) (hh := []) (by decide +kernel) (Or.inl ⟨g_757, rfl⟩) ?_
  intro p9 e9 s m9 args9 below9 meth9 c9 s9 B9 hml htab hv
  obtain ⟨rfl, h0, hP⟩ := hv
  have hx := B9.exec
  have hb := B9.bytes
  have hr := B9.returns
  have hG := atoms_spec (ws := GW) B9.pre
  have hown : s.vm.findClass "LathePiecesModel" = some m9.cls := findClass_of_methodNamed B9.named
  have hlocks := B9.notSynchronized
  have hK := cx_K hC h0
  have hS : va_S (aL s0) s.heap s.heap [] := va_S.rf
  have hl := lv_entry ([.ref am, .int (iI (w9)), .int (iI (x0)), .int (iI (r0)), .int (iI (x))]) (n := 7) (Nat.le_of_ble_eq_true rfl)
  rw [lg_entry_eq]
  generalize (lg_sl ([.ref am, .int (iI (w9)), .int (iI (x0)), .int (iI (r0)), .int (iI (x))]) ++ List.replicate (7 - (lg_sl ([.ref am, .int (iI (w9)), .int (iI (x0)), .int (iI (r0)), .int (iI (x))])).length) Slot.unset).toArray = ls at hl ⊢
  replace hl : lv_has ls 7 [(0, .ref am), (1, .int (iI (w9))), (2, .int (iI (x0))), (3, .int (iI (r0))), (4, .int (iI (x)))] := hl
  refine lv_aload_n hx hb d_M_onWay_0 rfl (lv_at hl 0 rfl) ?_
  refine va_get (D := D) (ci := 6) (v := .ref a6) (C := R_M) (T := F_M) (N := 26) hx hb hG in_M hown hK hP 0 rfl rfl 6 (by decide) (hG _ g_633) (fun _ h9 => h9) h6 d_M_onWay_1 ?_
  refine lv_iload_n hx hb d_M_onWay_4 rfl (lv_at hl 1 rfl) ?_
  refine ra_iald hx hb hK hP 3 rfl (by omega) (by omega) d_M_onWay_5 ?_
  refine ri_if_ne (tgt := 56) hx hb d_M_onWay_6 (by decide) (by omega) (fun hs0 => ?_) (fun hs0 => ?_)
  · obtain ⟨hso, hcc, hhi, hok⟩ := harc (by omega)
    have e5 := hok.1
    have g1 : 0 ≤ (x0 - f7 w9) * (x0 - f7 w9) ∧ (x0 - f7 w9) * (x0 - f7 w9) ≤ 364 * 364 := sq_rg (by omega)
    have g2 : 0 ≤ (r0 - f8 w9) * (r0 - f8 w9) ∧ (r0 - f8 w9) * (r0 - f8 w9) ≤ 1500 * 1500 := sq_rg (by omega)
    have g3 : 0 ≤ (f4 w9 - f7 w9) * (f4 w9 - f7 w9) ∧ (f4 w9 - f7 w9) * (f4 w9 - f7 w9) ≤ 364 * 364 := sq_rg (by omega)
    have g4 : 0 ≤ (f5 w9 - f8 w9) * (f5 w9 - f8 w9) ∧ (f5 w9 - f8 w9) * (f5 w9 - f8 w9) ≤ 1500 * 1500 := sq_rg (by omega)
    have g6 : 0 ≤ (x - f7 w9) * (x - f7 w9) ∧ (x - f7 w9) * (x - f7 w9) ≤ 364 * 364 := sq_rg (by omega)
    have g7 : (x - f7 w9) * (x - f7 w9) ≤ ((x0 - f7 w9) * (x0 - f7 w9) + (r0 - f8 w9) * (r0 - f8 w9)) := sq_mid (a := x0) (b := f4 w9) (by omega) (by omega) (by omega)
    have g8 := isq_spec (n := ((x0 - f7 w9) * (x0 - f7 w9) + (r0 - f8 w9) * (r0 - f8 w9)) - (x - f7 w9) * (x - f7 w9)) (by omega)
    have g9 : isq (((x0 - f7 w9) * (x0 - f7 w9) + (r0 - f8 w9) * (r0 - f8 w9)) - (x - f7 w9) * (x - f7 w9)) ≤ 4095 := isq_le (by omega) (by omega) (by omega)
    refine lv_iload_n hx hb d_M_onWay_56 rfl (lv_at hl 2 rfl) ?_
    refine lv_iload_n hx hb d_M_onWay_57 rfl (lv_at hl 3 rfl) ?_
    refine lv_aload_n hx hb d_M_onWay_58 rfl (lv_at hl 0 rfl) ?_
    refine va_get (D := D) (ci := 6) (v := .ref a7) (C := R_M) (T := F_M) (N := 26) hx hb hG in_M hown hK hP 0 rfl rfl 7 (by decide) (hG _ g_634) (fun _ h9 => h9) h7 d_M_onWay_59 ?_
    refine lv_iload_n hx hb d_M_onWay_62 rfl (lv_at hl 1 rfl) ?_
    refine ra_iald hx hb hK hP 4 rfl (by omega) (by omega) d_M_onWay_63 ?_
    refine lv_aload_n hx hb d_M_onWay_64 rfl (lv_at hl 0 rfl) ?_
    refine va_get (D := D) (ci := 6) (v := .ref a8) (C := R_M) (T := F_M) (N := 26) hx hb hG in_M hown hK hP 0 rfl rfl 8 (by decide) (hG _ g_635) (fun _ h9 => h9) h8 d_M_onWay_65 ?_
    refine lv_iload_n hx hb d_M_onWay_68 rfl (lv_at hl 1 rfl) ?_
    refine ra_iald hx hb hK hP 5 rfl (by omega) (by omega) d_M_onWay_69 ?_
    refine rd_call (ex_runS (As := [.int (iI (x0)), .int (iI (r0)), .int (iI (f7 (w9))), .int (iI (f8 (w9)))]) (rest := []) ⟨hx, hb, hml, hown, hG⟩ (c_M_square l x0 r0 (f7 w9) (f8 w9)) (cb_code (n := 4) hG g_749 g_3 g_747 rfl rfl (by decide +kernel) ⟨Nat.le_of_ble_eq_true rfl, Nat.le_of_ble_eq_true rfl⟩) (hG _ g_748) ⟨fun _ _ _ _ q => q, fun _ _ _ => rfl⟩ rfl rfl hl.1 rfl (lv_room (Nat.le_of_ble_eq_true rfl)) d_M_onWay_70 ⟨Nat.le_of_ble_eq_true rfl, Nat.le_of_ble_eq_true rfl⟩) (fun v9 h9 => ?_)
    obtain rfl := h9
    show W _ _ _ _ _ _ _ _ _ _ _ _ _ _ _ (F0 m9 73 ls [.int (iI (((x0 - f7 w9) * (x0 - f7 w9) + (r0 - f8 w9) * (r0 - f8 w9))))])
    refine lv_iload hx hb d_M_onWay_73 (lv_at hl 4 rfl) ?_
    refine lv_aload_n hx hb d_M_onWay_75 rfl (lv_at hl 0 rfl) ?_
    refine va_get (D := D) (ci := 6) (v := .ref a7) (C := R_M) (T := F_M) (N := 26) hx hb hG in_M hown hK hP 0 rfl rfl 7 (by decide) (hG _ g_634) (fun _ h9 => h9) h7 d_M_onWay_76 ?_
    refine lv_iload_n hx hb d_M_onWay_79 rfl (lv_at hl 1 rfl) ?_
    refine ra_iald hx hb hK hP 4 rfl (by omega) (by omega) d_M_onWay_80 ?_
    refine ri_isub hx hb d_M_onWay_81 ?_
    refine lv_iload hx hb d_M_onWay_82 (lv_at hl 4 rfl) ?_
    refine lv_aload_n hx hb d_M_onWay_84 rfl (lv_at hl 0 rfl) ?_
    refine va_get (D := D) (ci := 6) (v := .ref a7) (C := R_M) (T := F_M) (N := 26) hx hb hG in_M hown hK hP 0 rfl rfl 7 (by decide) (hG _ g_634) (fun _ h9 => h9) h7 d_M_onWay_85 ?_
    refine lv_iload_n hx hb d_M_onWay_88 rfl (lv_at hl 1 rfl) ?_
    refine ra_iald hx hb hK hP 4 rfl (by omega) (by omega) d_M_onWay_89 ?_
    refine ri_isub hx hb d_M_onWay_90 ?_
    refine ri_imul hx hb d_M_onWay_91 ?_
    refine ri_isub hx hb d_M_onWay_92 ?_
    refine rd_call (ex_runS (As := [.int (iI ((((x0 - f7 w9) * (x0 - f7 w9) + (r0 - f8 w9) * (r0 - f8 w9))) - (((x) - (f7 (w9))) * ((x) - (f7 (w9))))))]) (rest := []) ⟨hx, hb, hml, hown, hG⟩ (c_M_root l (((x0 - f7 w9) * (x0 - f7 w9) + (r0 - f8 w9) * (r0 - f8 w9)) - (x - f7 w9) * (x - f7 w9)) (by omega)) (cb_code (n := 1) hG g_760 g_3 g_758 rfl rfl (by decide +kernel) ⟨Nat.le_of_ble_eq_true rfl, Nat.le_of_ble_eq_true rfl⟩) (hG _ g_759) ⟨fun _ _ _ _ q => q, fun _ _ _ => rfl⟩ rfl rfl hl.1 rfl (lv_room (Nat.le_of_ble_eq_true rfl)) d_M_onWay_93 ⟨Nat.le_of_ble_eq_true rfl, Nat.le_of_ble_eq_true rfl⟩) (fun v9 h9 => ?_)
    obtain rfl := h9
    show W _ _ _ _ _ _ _ _ _ _ _ _ _ _ _ (F0 m9 96 ls [.int (iI (isq (((x0 - f7 w9) * (x0 - f7 w9) + (r0 - f8 w9) * (r0 - f8 w9)) - (x - f7 w9) * (x - f7 w9))))])
    refine lv_istore (lv' := [(5, .int (iI (isq (((x0 - f7 w9) * (x0 - f7 w9) + (r0 - f8 w9) * (r0 - f8 w9)) - (x - f7 w9) * (x - f7 w9))))), (0, .ref am), (1, .int (iI (w9))), (2, .int (iI (x0))), (3, .int (iI (r0))), (4, .int (iI (x)))]) hx hb d_M_onWay_96 hl (by decide) rfl (fun ls hl => ?_)
    refine lv_aload_n hx hb d_M_onWay_98 rfl (lv_at hl 1 rfl) ?_
    refine va_get (D := D) (ci := 6) (v := .ref a6) (C := R_M) (T := F_M) (N := 26) hx hb hG in_M hown hK hP 0 rfl rfl 6 (by decide) (hG _ g_633) (fun _ h9 => h9) h6 d_M_onWay_99 ?_
    refine lv_iload_n hx hb d_M_onWay_102 rfl (lv_at hl 2 rfl) ?_
    refine ra_iald hx hb hK hP 3 rfl (by omega) (by omega) d_M_onWay_103 ?_
    refine ri_iconst hx hb d_M_onWay_104 ?_
    refine ri_icmp_ne (tgt := 120) hx hb d_M_onWay_105 (by decide) (by omega) (by omega) (fun c105 => ?_) (fun c105 => ?_)
    · refine lv_aload_n hx hb d_M_onWay_120 rfl (lv_at hl 1 rfl) ?_
      refine va_get (D := D) (ci := 6) (v := .ref a8) (C := R_M) (T := F_M) (N := 26) hx hb hG in_M hown hK hP 0 rfl rfl 8 (by decide) (hG _ g_635) (fun _ h9 => h9) h8 d_M_onWay_121 ?_
      refine lv_iload_n hx hb d_M_onWay_124 rfl (lv_at hl 2 rfl) ?_
      refine ra_iald hx hb hK hP 5 rfl (by omega) (by omega) d_M_onWay_125 ?_
      refine lv_iload hx hb d_M_onWay_126 (lv_at hl 0 rfl) ?_
      refine ri_isub hx hb d_M_onWay_128 ?_
      refine lv_istore (lv' := [(6, .int (iI ((f8 (w9)) - (isq (((x0 - f7 w9) * (x0 - f7 w9) + (r0 - f8 w9) * (r0 - f8 w9)) - (x - f7 w9) * (x - f7 w9)))))), (5, .int (iI (isq (((x0 - f7 w9) * (x0 - f7 w9) + (r0 - f8 w9) * (r0 - f8 w9)) - (x - f7 w9) * (x - f7 w9))))), (0, .ref am), (1, .int (iI (w9))), (2, .int (iI (x0))), (3, .int (iI (r0))), (4, .int (iI (x)))]) hx hb d_M_onWay_129 hl (by decide) rfl (fun ls hl => ?_)
      refine lv_iload hx hb d_M_onWay_131 (lv_at hl 0 rfl) ?_
      refine ri_if_ge (tgt := 140) hx hb d_M_onWay_133 (by decide) (by omega) (fun c133 => ?_) (fun c133 => ?_)
      · refine lv_iload hx hb d_M_onWay_140 (lv_at hl 0 rfl) ?_
        refine ri_sipush hx hb d_M_onWay_142 (by decide) ?_
        refine ri_icmp_le (tgt := 154) hx hb d_M_onWay_145 (by decide) (by omega) (by omega) (fun c145 => ?_) (fun c145 => ?_)
        · refine lv_iload hx hb d_M_onWay_154 (lv_at hl 0 rfl) ?_
          exact re_i hx hb hr hlocks (fun t ht hW => ⟨by rw [if_neg (by omega)]; unfold arcF; split <;> exact congrArg (fun z => some (Value.int (iI z))) (by omega), ht⟩) (fun z hz => nomatch hz) (Nat.le_of_ble_eq_true rfl) (Nat.le_of_ble_eq_true rfl) d_M_onWay_156
        · refine ri_sipush hx hb d_M_onWay_148 (by decide) ?_
          refine lv_goto (tgt := 156) hx hb d_M_onWay_151 (by decide) ?_
          exact re_i hx hb hr hlocks (fun t ht hW => ⟨by rw [if_neg (by omega)]; unfold arcF; split <;> exact congrArg (fun z => some (Value.int (iI z))) (by omega), ht⟩) (fun z hz => nomatch hz) (Nat.le_of_ble_eq_true rfl) (Nat.le_of_ble_eq_true rfl) d_M_onWay_156
      · refine ri_iconst hx hb d_M_onWay_136 ?_
        refine lv_goto (tgt := 156) hx hb d_M_onWay_137 (by decide) ?_
        exact re_i hx hb hr hlocks (fun t ht hW => ⟨by rw [if_neg (by omega)]; unfold arcF; split <;> exact congrArg (fun z => some (Value.int (iI z))) (by omega), ht⟩) (fun z hz => nomatch hz) (Nat.le_of_ble_eq_true rfl) (Nat.le_of_ble_eq_true rfl) d_M_onWay_156
    · refine lv_aload_n hx hb d_M_onWay_108 rfl (lv_at hl 1 rfl) ?_
      refine va_get (D := D) (ci := 6) (v := .ref a8) (C := R_M) (T := F_M) (N := 26) hx hb hG in_M hown hK hP 0 rfl rfl 8 (by decide) (hG _ g_635) (fun _ h9 => h9) h8 d_M_onWay_109 ?_
      refine lv_iload_n hx hb d_M_onWay_112 rfl (lv_at hl 2 rfl) ?_
      refine ra_iald hx hb hK hP 5 rfl (by omega) (by omega) d_M_onWay_113 ?_
      refine lv_iload hx hb d_M_onWay_114 (lv_at hl 0 rfl) ?_
      refine ri_iadd hx hb d_M_onWay_116 ?_
      refine lv_goto (tgt := 129) hx hb d_M_onWay_117 (by decide) ?_
      refine lv_istore (lv' := [(6, .int (iI ((f8 (w9)) + (isq (((x0 - f7 w9) * (x0 - f7 w9) + (r0 - f8 w9) * (r0 - f8 w9)) - (x - f7 w9) * (x - f7 w9)))))), (5, .int (iI (isq (((x0 - f7 w9) * (x0 - f7 w9) + (r0 - f8 w9) * (r0 - f8 w9)) - (x - f7 w9) * (x - f7 w9))))), (0, .ref am), (1, .int (iI (w9))), (2, .int (iI (x0))), (3, .int (iI (r0))), (4, .int (iI (x)))]) hx hb d_M_onWay_129 hl (by decide) rfl (fun ls hl => ?_)
      refine lv_iload hx hb d_M_onWay_131 (lv_at hl 0 rfl) ?_
      refine ri_if_ge (tgt := 140) hx hb d_M_onWay_133 (by decide) (by omega) (fun c133 => ?_) (fun c133 => ?_)
      · refine lv_iload hx hb d_M_onWay_140 (lv_at hl 0 rfl) ?_
        refine ri_sipush hx hb d_M_onWay_142 (by decide) ?_
        refine ri_icmp_le (tgt := 154) hx hb d_M_onWay_145 (by decide) (by omega) (by omega) (fun c145 => ?_) (fun c145 => ?_)
        · refine lv_iload hx hb d_M_onWay_154 (lv_at hl 0 rfl) ?_
          exact re_i hx hb hr hlocks (fun t ht hW => ⟨by rw [if_neg (by omega)]; unfold arcF; split <;> exact congrArg (fun z => some (Value.int (iI z))) (by omega), ht⟩) (fun z hz => nomatch hz) (Nat.le_of_ble_eq_true rfl) (Nat.le_of_ble_eq_true rfl) d_M_onWay_156
        · refine ri_sipush hx hb d_M_onWay_148 (by decide) ?_
          refine lv_goto (tgt := 156) hx hb d_M_onWay_151 (by decide) ?_
          exact re_i hx hb hr hlocks (fun t ht hW => ⟨by rw [if_neg (by omega)]; unfold arcF; split <;> exact congrArg (fun z => some (Value.int (iI z))) (by omega), ht⟩) (fun z hz => nomatch hz) (Nat.le_of_ble_eq_true rfl) (Nat.le_of_ble_eq_true rfl) d_M_onWay_156
      · refine ri_iconst hx hb d_M_onWay_136 ?_
        refine lv_goto (tgt := 156) hx hb d_M_onWay_137 (by decide) ?_
        exact re_i hx hb hr hlocks (fun t ht hW => ⟨by rw [if_neg (by omega)]; unfold arcF; split <;> exact congrArg (fun z => some (Value.int (iI z))) (by omega), ht⟩) (fun z hz => nomatch hz) (Nat.le_of_ble_eq_true rfl) (Nat.le_of_ble_eq_true rfl) d_M_onWay_156
  · have g1 : -(64 * 500) ≤ (x - x0) * (f5 w9 - r0) ∧ (x - x0) * (f5 w9 - r0) ≤ 64 * 500 := mul_rg (by omega) (by omega)
    have g2 := fl_div (a := (x - x0) * (f5 w9 - r0)) (b := f4 w9 - x0) (by omega)
    have g3 := lineF_rg (la := x0) (lr := r0) (at9 := f4 w9) (rd := f5 w9) (x := x) (by omega) (by omega) hr0 (by omega)
    unfold lineF at g3
    have g4 : -(f4 w9 - x0) < ((x - x0) * (f5 w9 - r0)).tmod (f4 w9 - x0) ∧ ((x - x0) * (f5 w9 - r0)).tmod (f4 w9 - x0) < f4 w9 - x0 := by
      have := Int.tmod_lt_of_pos ((x - x0) * (f5 w9 - r0)) (show 0 < f4 w9 - x0 by omega)
      have h6 : (((x - x0) * (f5 w9 - r0)).tmod (f4 w9 - x0)).natAbs < (f4 w9 - x0).natAbs := by rw [Int.natAbs_tmod]; exact Nat.mod_lt _ (by omega)
      omega
    refine lv_iload hx hb d_M_onWay_9 (lv_at hl 4 rfl) ?_
    refine lv_iload_n hx hb d_M_onWay_11 rfl (lv_at hl 2 rfl) ?_
    refine ri_isub hx hb d_M_onWay_12 ?_
    refine lv_aload_n hx hb d_M_onWay_13 rfl (lv_at hl 0 rfl) ?_
    refine va_get (D := D) (ci := 6) (v := .ref a5) (C := R_M) (T := F_M) (N := 26) hx hb hG in_M hown hK hP 0 rfl rfl 5 (by decide) (hG _ g_632) (fun _ h9 => h9) h5 d_M_onWay_14 ?_
    refine lv_iload_n hx hb d_M_onWay_17 rfl (lv_at hl 1 rfl) ?_
    refine ra_iald hx hb hK hP 2 rfl (by omega) (by omega) d_M_onWay_18 ?_
    refine lv_iload_n hx hb d_M_onWay_19 rfl (lv_at hl 3 rfl) ?_
    refine ri_isub hx hb d_M_onWay_20 ?_
    refine ri_imul hx hb d_M_onWay_21 ?_
    refine lv_istore (lv' := [(5, .int (iI ((x - x0) * ((f5 (w9)) - (r0))))), (0, .ref am), (1, .int (iI (w9))), (2, .int (iI (x0))), (3, .int (iI (r0))), (4, .int (iI (x)))]) hx hb d_M_onWay_22 hl (by decide) rfl (fun ls hl => ?_)
    refine lv_aload_n hx hb d_M_onWay_24 rfl (lv_at hl 1 rfl) ?_
    refine va_get (D := D) (ci := 6) (v := .ref a4) (C := R_M) (T := F_M) (N := 26) hx hb hG in_M hown hK hP 0 rfl rfl 4 (by decide) (hG _ g_631) (fun _ h9 => h9) h4 d_M_onWay_25 ?_
    refine lv_iload_n hx hb d_M_onWay_28 rfl (lv_at hl 2 rfl) ?_
    refine ra_iald hx hb hK hP 1 rfl (by omega) (by omega) d_M_onWay_29 ?_
    refine lv_iload_n hx hb d_M_onWay_30 rfl (lv_at hl 3 rfl) ?_
    refine ri_isub hx hb d_M_onWay_31 ?_
    refine lv_istore (lv' := [(6, .int (iI ((f4 (w9)) - (x0)))), (5, .int (iI ((x - x0) * ((f5 (w9)) - (r0))))), (0, .ref am), (1, .int (iI (w9))), (2, .int (iI (x0))), (3, .int (iI (r0))), (4, .int (iI (x)))]) hx hb d_M_onWay_32 hl (by decide) rfl (fun ls hl => ?_)
    refine lv_iload_n hx hb d_M_onWay_34 rfl (lv_at hl 5 rfl) ?_
    refine lv_iload hx hb d_M_onWay_35 (lv_at hl 1 rfl) ?_
    refine lv_iload hx hb d_M_onWay_37 (lv_at hl 0 rfl) ?_
    refine ri_idiv hx hb d_M_onWay_39 (by omega) (by omega) (by omega) ?_
    refine ri_iadd hx hb d_M_onWay_40 ?_
    refine lv_iload hx hb d_M_onWay_41 (lv_at hl 1 rfl) ?_
    refine lv_iload hx hb d_M_onWay_43 (lv_at hl 0 rfl) ?_
    refine ri_irem hx hb d_M_onWay_45 (by omega) (by omega) (by omega) ?_
    refine ri_if_ge (tgt := 53) hx hb d_M_onWay_46 (by decide) (by omega) (fun c46 => ?_) (fun c46 => ?_)
    · refine ri_iconst hx hb d_M_onWay_53 ?_
      refine ri_isub hx hb d_M_onWay_54 ?_
      exact re_i hx hb hr hlocks (fun t ht hW => ⟨by rw [if_pos (by omega)]; exact congrArg (fun z => some (Value.int (iI z))) (by unfold lineF; rw [g2]; rw [if_neg (by omega)]; omega), ht⟩) (fun z hz => nomatch hz) (Nat.le_of_ble_eq_true rfl) (Nat.le_of_ble_eq_true rfl) d_M_onWay_55
    · refine ri_iconst hx hb d_M_onWay_49 ?_
      refine lv_goto (tgt := 54) hx hb d_M_onWay_50 (by decide) ?_
      refine ri_isub hx hb d_M_onWay_54 ?_
      exact re_i hx hb hr hlocks (fun t ht hW => ⟨by rw [if_pos (by omega)]; exact congrArg (fun z => some (Value.int (iI z))) (by unfold lineF; rw [g2]; rw [if_pos (by omega)]; omega), ht⟩) (fun z hz => nomatch hz) (Nat.le_of_ble_eq_true rfl) (Nat.le_of_ble_eq_true rfl) d_M_onWay_55

