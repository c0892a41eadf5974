set_option maxHeartbeats 4000000 in
set_option maxRecDepth 100000 in
theorem c_R_wantedAt {l : Launch} {s0 : State} {D : va_G} {k : Nat → ClassId} (hC : Cx l s0 D k) (ax aw L : Nat) (lw : Int → Int) (hL : L ≤ 64) (hlw : ∀ j : Int, 0 ≤ j → j ≤ L → -12 ≤ lw j ∧ lw j ≤ 512) (x bl sk : Int) (hx9 : 0 ≤ x ∧ x ≤ L) (hbl : 0 ≤ bl ∧ bl ≤ 503) (hsk : 0 ≤ sk ∧ sk ≤ 50) : RdM l s0 y_R_wantedAt { frames := 1, cells := 0, slots := 0, locals := 21 } [.ref ax, .int (iI (x)), .int (iI (bl)), .int (iI (sk))] (fun H => va_P D classes ([(ax, .inr (3, [.ref aw])), (aw, .inl (k 0, ai (L + 1) lw))]) H) (fun v => v = some (.int (iI (min (lw x + sk) bl)))) := by
  refine ex_ofW (cc := b_R_wantedAt) (maxL := 4) (ret := (some .int)) (hh := []) (by decide +kernel) (Or.inl ⟨g_425, rfl⟩) ?_
  intro p9 e9 s m9 args9 below9 meth9 c9 s9 B9 hml htab hv
  obtain ⟨rfl, h0, hP⟩ := hv
  have hx := B9.exec
  have hb := B9.bytes
  have hr := B9.returns
  have hG := atoms_spec (ws := GW) B9.pre
  have hown : s.vm.findClass "LathePieces$Reach" = some m9.cls := findClass_of_methodNamed B9.named
  have hlocks := B9.notSynchronized
  have hK := cx_K hC h0
  have hS : va_S (aL s0) s.heap s.heap [] := va_S.rf
  have hl := lv_entry ([.ref ax, .int (iI (x)), .int (iI (bl)), .int (iI (sk))]) (n := 4) (Nat.le_of_ble_eq_true rfl)
  rw [lg_entry_eq]
  generalize (lg_sl ([.ref ax, .int (iI (x)), .int (iI (bl)), .int (iI (sk))]) ++ List.replicate (4 - (lg_sl ([.ref ax, .int (iI (x)), .int (iI (bl)), .int (iI (sk))])).length) Slot.unset).toArray = ls at hl ⊢
  replace hl : lv_has ls 4 [(0, .ref ax), (1, .int (iI (x))), (2, .int (iI (bl))), (3, .int (iI (sk)))] := hl
  have q1 := hlw x hx9.1 hx9.2
  refine lv_aload_n hx hb d_R_wantedAt_0 rfl (lv_at hl 0 rfl) ?_
  refine va_get (D := D) (ci := 3) (v := .ref aw) (C := R_R) (T := F_R) (N := 1) hx hb hG in_R hown hK hP 0 rfl rfl 0 (by decide) (hG _ g_392) (fun _ h9 => h9) rfl d_R_wantedAt_1 ?_
  refine lv_iload_n hx hb d_R_wantedAt_4 rfl (lv_at hl 1 rfl) ?_
  refine ra_iald hx hb hK hP 1 rfl (by omega) (by omega) d_R_wantedAt_5 ?_
  refine lv_iload_n hx hb d_R_wantedAt_6 rfl (lv_at hl 3 rfl) ?_
  refine ri_iadd hx hb d_R_wantedAt_7 ?_
  refine lv_iload_n hx hb d_R_wantedAt_8 rfl (lv_at hl 2 rfl) ?_
  refine rd_call (ex_runS (As := [.int (iI ((lw (x)) + (sk))), .int (iI (bl))]) (rest := []) ⟨hx, hb, hml, hown, hG⟩ (c_J_min l (lw x + sk) bl (by omega) (by omega)) (cb_code (n := 2) hG g_251 g_9 g_384 rfl rfl (by decide +kernel) ⟨Nat.le_of_ble_eq_true rfl, Nat.le_of_ble_eq_true rfl⟩) (hG _ g_250) ⟨fun _ _ _ _ q => q, fun _ _ _ => rfl⟩ rfl rfl hl.1 rfl (lv_room (Nat.le_of_ble_eq_true rfl)) d_R_wantedAt_9 ⟨Nat.le_of_ble_eq_true rfl, Nat.le_of_ble_eq_true rfl⟩) (fun v9 h9 => ?_)
  obtain rfl := h9
  show W _ _ _ _ _ _ _ _ _ _ _ _ _ _ _ (F0 m9 12 ls [.int (iI (min (lw x + sk) bl))])
  exact re_i hx hb hr hlocks (fun t ht hW => ⟨rfl, ht⟩) (fun z hz => nomatch hz) (Nat.le_of_ble_eq_true rfl) (Nat.le_of_ble_eq_true rfl) d_R_wantedAt_12

set_option maxHeartbeats 4000000 in
set_option maxRecDepth 100000 in
theorem c_R_placesAbove {l : Launch} {s0 : State} {D : va_G} {k : Nat → ClassId} (hC : Cx l s0 D k) (ax aw L : Nat) (lw : Int → Int) (hL : L ≤ 64) (hlw : ∀ j : Int, 0 ≤ j → j ≤ L → -12 ≤ lw j ∧ lw j ≤ 512) (ar : Nat) (r : Int → Int) (hrr : ∀ j : Int, 0 ≤ j → j ≤ L → 0 ≤ r j ∧ r j ≤ 500) : RdM l s0 y_R_placesAbove { frames := 0, cells := 0, slots := 0, locals := 0 } [.ref ax, .ref ar] (fun H => va_P D classes ([(ax, .inr (3, [.ref aw])), (aw, .inl (k 0, ai (L + 1) lw)), (ar, .inl (k 0, ai (L + 1) r))]) H) (fun v => v = some (.int (iI (cnF (fun j => decide (r j < lw j)) 0 (L + 1))))) := by
  refine ex_ofW (cc := b_R_placesAbove) (maxL := 4) (ret := (some .int)) (hh := []) (by decide +kernel) (Or.inl ⟨g_407, rfl⟩) ?_
  intro p9 e9 s m9 args9 below9 meth9 c9 s9 B9 hml htab hv
  obtain ⟨rfl, h0, hP⟩ := hv
  have hx := B9.exec
  have hb := B9.bytes
  have hr := B9.returns
  have hG := atoms_spec (ws := GW) B9.pre
  have hown : s.vm.findClass "LathePieces$Reach" = some m9.cls := findClass_of_methodNamed B9.named
  have hlocks := B9.notSynchronized
  have hK := cx_K hC h0
  have hS : va_S (aL s0) s.heap s.heap [] := va_S.rf
  have hl := lv_entry ([.ref ax, .ref ar]) (n := 4) (Nat.le_of_ble_eq_true rfl)
  rw [lg_entry_eq]
  generalize (lg_sl ([.ref ax, .ref ar]) ++ List.replicate (4 - (lg_sl ([.ref ax, .ref ar])).length) Slot.unset).toArray = ls at hl ⊢
  replace hl : lv_has ls 4 [(0, .ref ax), (1, .ref ar)] := hl
  refine ri_iconst hx hb d_R_placesAbove_0 ?_
  refine lv_istore_n (lv' := [(2, .int (iI (0))), (0, .ref ax), (1, .ref ar)]) hx hb d_R_placesAbove_1 rfl hl (by decide) rfl (fun ls hl => ?_)
  refine ri_iconst hx hb d_R_placesAbove_2 ?_
  refine lv_istore_n (lv' := [(3, .int (iI (0))), (2, .int (iI (0))), (0, .ref ax), (1, .ref ar)]) hx hb d_R_placesAbove_3 rfl hl (by decide) rfl (fun ls hl => ?_)
  replace hl : lv_has ls 4 [(3, .int (iI (0 + ((0 : Nat) : Int)))), (2, .int (iI (cnF (fun j => decide (r j < lw j)) 0 0))), (0, .ref ax), (1, .ref ar)] := hl
  obtain ⟨κ, ν, hinv, hl1⟩ : ∃ (κ : Nat) (ν : Nat), (ν + κ = L + 1) ∧ lv_has ls 4 [(0, .ref ax), (1, .ref ar), (2, .int (iI (cnF (fun j => decide (r j < lw j)) 0 ν))), (3, .int (iI (0 + (ν : Int))))] := ⟨L + 1, 0, (by omega), lv_sub hl [2, 3, 1, 0] rfl⟩
  clear hl
  have hl := hl1
  clear hl1
  induction κ generalizing ν ls with
  | zero =>
    obtain h1 := hinv
    refine lv_iload_n hx hb d_R_placesAbove_4 rfl (lv_at hl 3 rfl) ?_
    refine lv_aload_n hx hb d_R_placesAbove_5 rfl (lv_at hl 0 rfl) ?_
    refine va_get (D := D) (ci := 3) (v := .ref aw) (C := R_R) (T := F_R) (N := 1) hx hb hG in_R hown hK hP 0 rfl rfl 0 (by decide) (hG _ g_392) (fun _ h9 => h9) rfl d_R_placesAbove_6 ?_
    refine ra_alen (z := (L + 1)) hx hb hK hP 1 0 rfl rfl rfl d_R_placesAbove_9 ?_
    refine ri_icmp_ge (tgt := 40) hx hb d_R_placesAbove_10 (by decide) (by omega) (by omega) (fun c10 => ?_) (fun c10 => ?_)
    · refine lv_iload_n hx hb d_R_placesAbove_40 rfl (lv_at hl 2 rfl) ?_
      exact re_i hx hb hr hlocks (fun t ht hW => ⟨by rw [show L + 1 = ν by omega], ht⟩) (fun z hz => nomatch hz) (Nat.le_of_ble_eq_true rfl) (Nat.le_of_ble_eq_true rfl) d_R_placesAbove_41
    · exact absurd c10 (by omega)
  | succ κ ih =>
    obtain h1 := hinv
    refine lv_iload_n hx hb d_R_placesAbove_4 rfl (lv_at hl 3 rfl) ?_
    refine lv_aload_n hx hb d_R_placesAbove_5 rfl (lv_at hl 0 rfl) ?_
    refine va_get (D := D) (ci := 3) (v := .ref aw) (C := R_R) (T := F_R) (N := 1) hx hb hG in_R hown hK hP 0 rfl rfl 0 (by decide) (hG _ g_392) (fun _ h9 => h9) rfl d_R_placesAbove_6 ?_
    refine ra_alen (z := (L + 1)) hx hb hK hP 1 0 rfl rfl rfl d_R_placesAbove_9 ?_
    refine ri_icmp_ge (tgt := 40) hx hb d_R_placesAbove_10 (by decide) (by omega) (by omega) (fun c10 => ?_) (fun c10 => ?_)
    · exact absurd c10 (by omega)
    · refine lv_iload_n hx hb d_R_placesAbove_13 rfl (lv_at hl 3 rfl) ?_
      refine lv_aload_n hx hb d_R_placesAbove_14 rfl (lv_at hl 1 rfl) ?_
      refine ra_alen (z := (L + 1)) hx hb hK hP 2 0 rfl rfl rfl d_R_placesAbove_15 ?_
      refine ri_icmp_ge (tgt := 40) hx hb d_R_placesAbove_16 (by decide) (by omega) (by omega) (fun c16 => ?_) (fun c16 => ?_)
      · exact absurd c16 (by omega)
      · have q1 := hlw (0 + ν) (by omega) (by omega)
        have q2 := hrr (0 + ν) (by omega) (by omega)
        have q3 := cnF_s (fun j => decide (r j < lw j)) 0 ν
        refine lv_aload_n hx hb d_R_placesAbove_19 rfl (lv_at hl 0 rfl) ?_
        refine va_get (D := D) (ci := 3) (v := .ref aw) (C := R_R) (T := F_R) (N := 1) hx hb hG in_R hown hK hP 0 rfl rfl 0 (by decide) (hG _ g_392) (fun _ h9 => h9) rfl d_R_placesAbove_20 ?_
        refine lv_iload_n hx hb d_R_placesAbove_23 rfl (lv_at hl 3 rfl) ?_
        refine ra_iald hx hb hK hP 1 rfl (by omega) (by omega) d_R_placesAbove_24 ?_
        refine lv_aload_n hx hb d_R_placesAbove_25 rfl (lv_at hl 1 rfl) ?_
        refine lv_iload_n hx hb d_R_placesAbove_26 rfl (lv_at hl 3 rfl) ?_
        refine ra_iald hx hb hK hP 2 rfl (by omega) (by omega) d_R_placesAbove_27 ?_
        refine ri_icmp_le (tgt := 34) hx hb d_R_placesAbove_28 (by decide) (by omega) (by omega) (fun c28 => ?_) (fun c28 => ?_)
        · rw [if_neg (by rw [decide_eq_true_eq]; omega), Int.add_zero] at q3
          rw [← q3] at hl
          refine lv_iinc (v := iI (0 + ((ν + 1 : Nat) : Int))) (lv' := [(3, .int (iI (0 + ((ν + 1 : Nat) : Int)))), (0, .ref ax), (1, .ref ar), (2, .int (iI (cnF (fun j => decide (r j < lw j)) 0 (ν + 1))))]) hx hb d_R_placesAbove_34 hl (k := 3) rfl ((ii_add _ _).trans (congrArg iI (by omega))) (by decide) rfl (fun ls hl => ?_)
          refine lv_goto (tgt := 4) hx hb d_R_placesAbove_37 (by decide) ?_
          exact ih ls (ν + 1) (by omega) (lv_sub hl [1, 2, 3, 0] rfl)
        · rw [if_pos (by rw [decide_eq_true_eq]; omega)] at q3
          refine lv_iinc (v := iI (cnF (fun j => decide (r j < lw j)) 0 (ν + 1))) (lv' := [(2, .int (iI (cnF (fun j => decide (r j < lw j)) 0 (ν + 1)))), (0, .ref ax), (1, .ref ar), (3, .int (iI (0 + (ν : Int))))]) hx hb d_R_placesAbove_31 hl (k := 2) rfl ((ii_add _ _).trans (congrArg iI q3.symm)) (by decide) rfl (fun ls hl => ?_)
          refine lv_iinc (v := iI (0 + ((ν + 1 : Nat) : Int))) (lv' := [(3, .int (iI (0 + ((ν + 1 : Nat) : Int)))), (2, .int (iI (cnF (fun j => decide (r j < lw j)) 0 (ν + 1)))), (0, .ref ax), (1, .ref ar)]) hx hb d_R_placesAbove_34 hl (k := 3) rfl ((ii_add _ _).trans (congrArg iI (by omega))) (by decide) rfl (fun ls hl => ?_)
          refine lv_goto (tgt := 4) hx hb d_R_placesAbove_37 (by decide) ?_
          exact ih ls (ν + 1) (by omega) (lv_sub hl [2, 3, 1, 0] rfl)

set_option maxHeartbeats 4000000 in
set_option maxRecDepth 100000 in
theorem c_R_placesCut {l : Launch} {s0 : State} {D : va_G} {k : Nat → ClassId} (hC : Cx l s0 D k) (ax aw L : Nat) (lw : Int → Int) (hL : L ≤ 64) (hlw : ∀ j : Int, 0 ≤ j → j ≤ L → -12 ≤ lw j ∧ lw j ≤ 512) (bl sk sz : Int) (hbl : 0 ≤ bl ∧ bl ≤ 503) (hsk : 0 ≤ sk ∧ sk ≤ 50) (hsz : In64 sz) : RdM l s0 y_R_placesCut { frames := 2, cells := 0, slots := 0, locals := 44 } [.ref ax, .int (iI (bl)), .int (iI (sk)), .long (jJ (sz))] (fun H => va_P D classes ([(ax, .inr (3, [.ref aw])), (aw, .inl (k 0, ai (L + 1) lw))]) H) (fun v => v = some (.int (iI (cnF (fun j => decide (min (lw j + sk) bl < sz)) 0 (L + 1))))) := by
  refine ex_ofW (cc := b_R_placesCut) (maxL := 7) (ret := (some .int)) (hh := []) (by decide +kernel) (Or.inl ⟨g_440, rfl⟩) ?_
  intro p9 e9 s m9 args9 below9 meth9 c9 s9 B9 hml htab hv
  obtain ⟨rfl, h0, hP⟩ := hv
  have hx := B9.exec
  have hb := B9.bytes
  have hr := B9.returns
  have hG := atoms_spec (ws := GW) B9.pre
  have hown : s.vm.findClass "LathePieces$Reach" = some m9.cls := findClass_of_methodNamed B9.named
  have hlocks := B9.notSynchronized
  have hK := cx_K hC h0
  have hS : va_S (aL s0) s.heap s.heap [] := va_S.rf
  have hl := lv_entry ([.ref ax, .int (iI (bl)), .int (iI (sk)), .long (jJ (sz))]) (n := 7) (Nat.le_of_ble_eq_true rfl)
  rw [lg_entry_eq]
  generalize (lg_sl ([.ref ax, .int (iI (bl)), .int (iI (sk)), .long (jJ (sz))]) ++ List.replicate (7 - (lg_sl ([.ref ax, .int (iI (bl)), .int (iI (sk)), .long (jJ (sz))])).length) Slot.unset).toArray = ls at hl ⊢
  replace hl : lv_has ls 7 [(0, .ref ax), (1, .int (iI (bl))), (2, .int (iI (sk))), (3, .long (jJ (sz)))] := hl
  refine ri_iconst hx hb d_R_placesCut_0 ?_
  refine lv_istore (lv' := [(5, .int (iI (0))), (0, .ref ax), (1, .int (iI (bl))), (2, .int (iI (sk))), (3, .long (jJ (sz)))]) hx hb d_R_placesCut_1 hl (by decide) rfl (fun ls hl => ?_)
  refine ri_iconst hx hb d_R_placesCut_3 ?_
  refine lv_istore (lv' := [(6, .int (iI (0))), (5, .int (iI (0))), (0, .ref ax), (1, .int (iI (bl))), (2, .int (iI (sk))), (3, .long (jJ (sz)))]) hx hb d_R_placesCut_4 hl (by decide) rfl (fun ls hl => ?_)
  replace hl : lv_has ls 7 [(6, .int (iI (0 + ((0 : Nat) : Int)))), (5, .int (iI (cnF (fun j => decide (min (lw j + sk) bl < sz)) 0 0))), (0, .ref ax), (1, .int (iI (bl))), (2, .int (iI (sk))), (3, .long (jJ (sz)))] := hl
  obtain ⟨κ, ν, hinv, hl1⟩ : ∃ (κ : Nat) (ν : Nat), (ν + κ = L + 1) ∧ lv_has ls 7 [(0, .ref ax), (1, .int (iI (bl))), (2, .int (iI (sk))), (3, .long (jJ (sz))), (5, .int (iI (cnF (fun j => decide (min (lw j + sk) bl < sz)) 0 ν))), (6, .int (iI (0 + (ν : Int))))] := ⟨L + 1, 0, (by omega), lv_sub hl [2, 3, 4, 5, 1, 0] rfl⟩
  clear hl
  have hl := hl1
  clear hl1
  induction κ generalizing ν ls with
  | zero =>
    obtain h1 := hinv
    refine lv_iload hx hb d_R_placesCut_6 (lv_at hl 5 rfl) ?_
    refine lv_aload_n hx hb d_R_placesCut_8 rfl (lv_at hl 0 rfl) ?_
    refine va_get (D := D) (ci := 3) (v := .ref aw) (C := R_R) (T := F_R) (N := 1) hx hb hG in_R hown hK hP 0 rfl rfl 0 (by decide) (hG _ g_392) (fun _ h9 => h9) rfl d_R_placesCut_9 ?_
    refine ra_alen (z := (L + 1)) hx hb hK hP 1 0 rfl rfl rfl d_R_placesCut_12 ?_
    refine ri_icmp_ge (tgt := 39) hx hb d_R_placesCut_13 (by decide) (by omega) (by omega) (fun c13 => ?_) (fun c13 => ?_)
    · refine lv_iload hx hb d_R_placesCut_39 (lv_at hl 4 rfl) ?_
      exact re_i hx hb hr hlocks (fun t ht hW => ⟨by rw [show L + 1 = ν by omega], ht⟩) (fun z hz => nomatch hz) (Nat.le_of_ble_eq_true rfl) (Nat.le_of_ble_eq_true rfl) d_R_placesCut_41
    · exact absurd c13 (by omega)
  | succ κ ih =>
    obtain h1 := hinv
    refine lv_iload hx hb d_R_placesCut_6 (lv_at hl 5 rfl) ?_
    refine lv_aload_n hx hb d_R_placesCut_8 rfl (lv_at hl 0 rfl) ?_
    refine va_get (D := D) (ci := 3) (v := .ref aw) (C := R_R) (T := F_R) (N := 1) hx hb hG in_R hown hK hP 0 rfl rfl 0 (by decide) (hG _ g_392) (fun _ h9 => h9) rfl d_R_placesCut_9 ?_
    refine ra_alen (z := (L + 1)) hx hb hK hP 1 0 rfl rfl rfl d_R_placesCut_12 ?_
    refine ri_icmp_ge (tgt := 39) hx hb d_R_placesCut_13 (by decide) (by omega) (by omega) (fun c13 => ?_) (fun c13 => ?_)
    · exact absurd c13 (by omega)
    · have q1 := hlw (0 + ν) (by omega) (by omega)
      have q3 := cnF_s (fun j => decide (min (lw j + sk) bl < sz)) 0 ν
      refine lv_aload_n hx hb d_R_placesCut_16 rfl (lv_at hl 0 rfl) ?_
      refine lv_iload hx hb d_R_placesCut_17 (lv_at hl 5 rfl) ?_
      refine lv_iload_n hx hb d_R_placesCut_19 rfl (lv_at hl 1 rfl) ?_
      refine lv_iload_n hx hb d_R_placesCut_20 rfl (lv_at hl 2 rfl) ?_
      refine rd_call (ex_runV (C := "LathePieces$Reach") (As := [.int (iI (0 + (ν : Int))), .int (iI (bl)), .int (iI (sk))]) (rest := []) ⟨hx, hb, hml, hown, hG⟩ (c_R_wantedAt hC ax aw L lw hL hlw (0 + ν) bl sk (by omega) hbl hsk) (cb_code (n := 3) hG g_425 g_15 g_422 rfl rfl (by decide +kernel) ⟨Nat.le_of_ble_eq_true rfl, Nat.le_of_ble_eq_true rfl⟩) (hG _ g_423) (hG _ g_424) (kd_V ⟨fun _ _ _ _ q => q, fun U hU hW => ⟨rfl, la_next h0 (fun _ z => z) hS U hU hW, (by show va_P D classes _ U.heap; rw [hU]; exact hP)⟩⟩ (kd_recv hK hP (q0 := 0) (ci := 3) rfl rfl rfl)) rfl rfl hl.1 rfl (lv_room (Nat.le_of_ble_eq_true rfl)) d_R_placesCut_21 ⟨Nat.le_of_ble_eq_true rfl, Nat.le_of_ble_eq_true rfl⟩) (fun v9 h9 => ?_)
      obtain rfl := h9
      show W _ _ _ _ _ _ _ _ _ _ _ _ _ _ _ (F0 m9 24 ls [.int (iI (min (lw (0 + ν) + sk) bl))])
      refine ri_i2l hx hb d_R_placesCut_24 (by omega) ?_
      refine lv_lload_n hx hb d_R_placesCut_25 rfl (lv_at hl 3 rfl) ?_
      refine ri_lc_ge (tgt := 33) hx hb d_R_placesCut_26 d_R_placesCut_27 (by decide) (by omega) (by omega) (fun c26 => ?_) (fun c26 => ?_)
      · rw [if_neg (by rw [decide_eq_true_eq]; omega), Int.add_zero] at q3
        rw [← q3] at hl
        refine lv_iinc (v := iI (0 + ((ν + 1 : Nat) : Int))) (lv' := [(6, .int (iI (0 + ((ν + 1 : Nat) : Int)))), (0, .ref ax), (1, .int (iI (bl))), (2, .int (iI (sk))), (3, .long (jJ (sz))), (5, .int (iI (cnF (fun j => decide (min (lw j + sk) bl < sz)) 0 (ν + 1))))]) hx hb d_R_placesCut_33 hl (k := 5) rfl ((ii_add _ _).trans (congrArg iI (by omega))) (by decide) rfl (fun ls hl => ?_)
        refine lv_goto (tgt := 6) hx hb d_R_placesCut_36 (by decide) ?_
        exact ih ls (ν + 1) (by omega) (lv_sub hl [1, 2, 3, 4, 5, 0] rfl)
      · rw [if_pos (by rw [decide_eq_true_eq]; omega)] at q3
        refine lv_iinc (v := iI (cnF (fun j => decide (min (lw j + sk) bl < sz)) 0 (ν + 1))) (lv' := [(5, .int (iI (cnF (fun j => decide (min (lw j + sk) bl < sz)) 0 (ν + 1)))), (0, .ref ax), (1, .int (iI (bl))), (2, .int (iI (sk))), (3, .long (jJ (sz))), (6, .int (iI (0 + (ν : Int))))]) hx hb d_R_placesCut_30 hl (k := 4) rfl ((ii_add _ _).trans (congrArg iI q3.symm)) (by decide) rfl (fun ls hl => ?_)
        refine lv_iinc (v := iI (0 + ((ν + 1 : Nat) : Int))) (lv' := [(6, .int (iI (0 + ((ν + 1 : Nat) : Int)))), (5, .int (iI (cnF (fun j => decide (min (lw j + sk) bl < sz)) 0 (ν + 1)))), (0, .ref ax), (1, .int (iI (bl))), (2, .int (iI (sk))), (3, .long (jJ (sz)))]) hx hb d_R_placesCut_33 hl (k := 5) rfl ((ii_add _ _).trans (congrArg iI (by omega))) (by decide) rfl (fun ls hl => ?_)
        refine lv_goto (tgt := 6) hx hb d_R_placesCut_36 (by decide) ?_
        exact ih ls (ν + 1) (by omega) (lv_sub hl [2, 3, 4, 5, 1, 0] rfl)

set_option maxHeartbeats 4000000 in
set_option maxRecDepth 100000 in
theorem c_R_passCount {l : Launch} {s0 : State} {D : va_G} {k : Nat → ClassId} (hC : Cx l s0 D k) (ax aw L : Nat) (lw : Int → Int) (hL : L ≤ 64) (hlw : ∀ j : Int, 0 ≤ j → j ≤ L → -12 ≤ lw j ∧ lw j ≤ 512) (bl dp sk : Int) (hbl : 0 ≤ bl ∧ bl ≤ 503) (hdp : 1 ≤ dp ∧ dp ≤ 100) (hsk : 0 ≤ sk ∧ sk ≤ 50) : RdM l s0 y_R_passCount { frames := 2, cells := 0, slots := 0, locals := 44 } [.ref ax, .int (iI (bl)), .int (iI (dp)), .int (iI (sk))] (fun H => va_P D classes ([(ax, .inr (3, [.ref aw])), (aw, .inl (k 0, ai (L + 1) lw))]) H) (fun v => v = some (.int (iI ((bl - itF min (fun j => min (lw j + sk) bl) bl 0 (L + 1) + dp - 1).tdiv dp)))) := by
  refine ex_ofW (cc := b_R_passCount) (maxL := 6) (ret := (some .int)) (hh := []) (by decide +kernel) (Or.inl ⟨g_421, rfl⟩) ?_
  intro p9 e9 s m9 args9 below9 meth9 c9 s9 B9 hml htab hv
  obtain ⟨rfl, h0, hP⟩ := hv
  have hx := B9.exec
  have hb := B9.bytes
  have hr := B9.returns
  have hG := atoms_spec (ws := GW) B9.pre
  have hown : s.vm.findClass "LathePieces$Reach" = some m9.cls := findClass_of_methodNamed B9.named
  have hlocks := B9.notSynchronized
  have hK := cx_K hC h0
  have hS : va_S (aL s0) s.heap s.heap [] := va_S.rf
  have hl := lv_entry ([.ref ax, .int (iI (bl)), .int (iI (dp)), .int (iI (sk))]) (n := 6) (Nat.le_of_ble_eq_true rfl)
  rw [lg_entry_eq]
  generalize (lg_sl ([.ref ax, .int (iI (bl)), .int (iI (dp)), .int (iI (sk))]) ++ List.replicate (6 - (lg_sl ([.ref ax, .int (iI (bl)), .int (iI (dp)), .int (iI (sk))])).length) Slot.unset).toArray = ls at hl ⊢
  replace hl : lv_has ls 6 [(0, .ref ax), (1, .int (iI (bl))), (2, .int (iI (dp))), (3, .int (iI (sk)))] := hl
  refine lv_iload_n hx hb d_R_passCount_0 rfl (lv_at hl 1 rfl) ?_
  refine lv_istore (lv' := [(4, .int (iI (bl))), (0, .ref ax), (1, .int (iI (bl))), (2, .int (iI (dp))), (3, .int (iI (sk)))]) hx hb d_R_passCount_1 hl (by decide) rfl (fun ls hl => ?_)
  refine ri_iconst hx hb d_R_passCount_3 ?_
  refine lv_istore (lv' := [(5, .int (iI (0))), (4, .int (iI (bl))), (0, .ref ax), (1, .int (iI (bl))), (2, .int (iI (dp))), (3, .int (iI (sk)))]) hx hb d_R_passCount_4 hl (by decide) rfl (fun ls hl => ?_)
  replace hl : lv_has ls 6 [(5, .int (iI (0 + ((0 : Nat) : Int)))), (4, .int (iI (itF min (fun j => min (lw j + sk) bl) bl 0 0))), (0, .ref ax), (1, .int (iI (bl))), (2, .int (iI (dp))), (3, .int (iI (sk)))] := hl
  obtain ⟨κ, ν, hinv, hl1⟩ : ∃ (κ : Nat) (ν : Nat), (ν + κ = L + 1) ∧ lv_has ls 6 [(0, .ref ax), (1, .int (iI (bl))), (2, .int (iI (dp))), (3, .int (iI (sk))), (4, .int (iI (itF min (fun j => min (lw j + sk) bl) bl 0 ν))), (5, .int (iI (0 + (ν : Int))))] := ⟨L + 1, 0, (by omega), lv_sub hl [2, 3, 4, 5, 1, 0] rfl⟩
  clear hl
  have hl := hl1
  clear hl1
  induction κ generalizing ν ls with
  | zero =>
    obtain h1 := hinv
    have q2 : -12 ≤ itF min (fun j => min (lw j + sk) bl) bl 0 ν ∧ itF min (fun j => min (lw j + sk) bl) bl 0 ν ≤ 503 := itF_min ν (by omega) (fun j g1 g2 => by have := hlw j (by omega) (by omega); omega)
    refine lv_iload hx hb d_R_passCount_6 (lv_at hl 5 rfl) ?_
    refine lv_aload_n hx hb d_R_passCount_8 rfl (lv_at hl 0 rfl) ?_
    refine va_get (D := D) (ci := 3) (v := .ref aw) (C := R_R) (T := F_R) (N := 1) hx hb hG in_R hown hK hP 0 rfl rfl 0 (by decide) (hG _ g_392) (fun _ h9 => h9) rfl d_R_passCount_9 ?_
    refine ra_alen (z := (L + 1)) hx hb hK hP 1 0 rfl rfl rfl d_R_passCount_12 ?_
    refine ri_icmp_ge (tgt := 37) hx hb d_R_passCount_13 (by decide) (by omega) (by omega) (fun c13 => ?_) (fun c13 => ?_)
    · refine lv_iload_n hx hb d_R_passCount_37 rfl (lv_at hl 1 rfl) ?_
      refine lv_iload hx hb d_R_passCount_38 (lv_at hl 4 rfl) ?_
      refine ri_isub hx hb d_R_passCount_40 ?_
      refine lv_iload_n hx hb d_R_passCount_41 rfl (lv_at hl 2 rfl) ?_
      refine ri_iadd hx hb d_R_passCount_42 ?_
      refine ri_iconst hx hb d_R_passCount_43 ?_
      refine ri_isub hx hb d_R_passCount_44 ?_
      refine lv_iload_n hx hb d_R_passCount_45 rfl (lv_at hl 2 rfl) ?_
      refine ri_idiv hx hb d_R_passCount_46 (by omega) (by omega) (by omega) ?_
      exact re_i hx hb hr hlocks (fun t ht hW => ⟨by rw [show L + 1 = ν by omega], ht⟩) (fun z hz => nomatch hz) (Nat.le_of_ble_eq_true rfl) (Nat.le_of_ble_eq_true rfl) d_R_passCount_47
    · exact absurd c13 (by omega)
  | succ κ ih =>
    obtain h1 := hinv
    have q2 : -12 ≤ itF min (fun j => min (lw j + sk) bl) bl 0 ν ∧ itF min (fun j => min (lw j + sk) bl) bl 0 ν ≤ 503 := itF_min ν (by omega) (fun j g1 g2 => by have := hlw j (by omega) (by omega); omega)
    refine lv_iload hx hb d_R_passCount_6 (lv_at hl 5 rfl) ?_
    refine lv_aload_n hx hb d_R_passCount_8 rfl (lv_at hl 0 rfl) ?_
    refine va_get (D := D) (ci := 3) (v := .ref aw) (C := R_R) (T := F_R) (N := 1) hx hb hG in_R hown hK hP 0 rfl rfl 0 (by decide) (hG _ g_392) (fun _ h9 => h9) rfl d_R_passCount_9 ?_
    refine ra_alen (z := (L + 1)) hx hb hK hP 1 0 rfl rfl rfl d_R_passCount_12 ?_
    refine ri_icmp_ge (tgt := 37) hx hb d_R_passCount_13 (by decide) (by omega) (by omega) (fun c13 => ?_) (fun c13 => ?_)
    · exact absurd c13 (by omega)
    · have q1 := hlw (0 + ν) (by omega) (by omega)
      refine lv_iload hx hb d_R_passCount_16 (lv_at hl 4 rfl) ?_
      refine lv_aload_n hx hb d_R_passCount_18 rfl (lv_at hl 0 rfl) ?_
      refine lv_iload hx hb d_R_passCount_19 (lv_at hl 5 rfl) ?_
      refine lv_iload_n hx hb d_R_passCount_21 rfl (lv_at hl 1 rfl) ?_
      refine lv_iload_n hx hb d_R_passCount_22 rfl (lv_at hl 3 rfl) ?_
      refine rd_call (ex_runV (C := "LathePieces$Reach") (As := [.int (iI (0 + (ν : Int))), .int (iI (bl)), .int (iI (sk))]) (rest := [.int (iI (itF min (fun j => min (lw j + sk) bl) bl 0 ν))]) ⟨hx, hb, hml, hown, hG⟩ (c_R_wantedAt hC ax aw L lw hL hlw (0 + ν) bl sk (by omega) hbl hsk) (cb_code (n := 3) hG g_425 g_15 g_422 rfl rfl (by decide +kernel) ⟨Nat.le_of_ble_eq_true rfl, Nat.le_of_ble_eq_true rfl⟩) (hG _ g_423) (hG _ g_424) (kd_V ⟨fun _ _ _ _ q => q, fun U hU hW => ⟨rfl, la_next h0 (fun _ z => z) hS U hU hW, (by show va_P D classes _ U.heap; rw [hU]; exact hP)⟩⟩ (kd_recv hK hP (q0 := 0) (ci := 3) rfl rfl rfl)) rfl rfl hl.1 rfl (lv_room (Nat.le_of_ble_eq_true rfl)) d_R_passCount_23 ⟨Nat.le_of_ble_eq_true rfl, Nat.le_of_ble_eq_true rfl⟩) (fun v9 h9 => ?_)
      obtain rfl := h9
      show W _ _ _ _ _ _ _ _ _ _ _ _ _ _ _ (F0 m9 26 ls [.int (iI (min (lw (0 + ν) + sk) bl)), .int (iI (itF min (fun j => min (lw j + sk) bl) bl 0 ν))])
      refine rd_call (ex_runS (As := [.int (iI (itF min (fun j => min (lw j + sk) bl) bl 0 ν)), .int (iI (min (lw (0 + ν) + sk) bl))]) (rest := []) ⟨hx, hb, hml, hown, hG⟩ (c_J_min l (itF min (fun j => min (lw j + sk) bl) bl 0 ν) (min (lw (0 + ν) + sk) bl) (by omega) (by omega)) (cb_code (n := 2) hG g_251 g_9 g_384 rfl rfl (by decide +kernel) ⟨Nat.le_of_ble_eq_true rfl, Nat.le_of_ble_eq_true rfl⟩) (hG _ g_250) ⟨fun _ _ _ _ q => q, fun _ _ _ => rfl⟩ rfl rfl hl.1 rfl (lv_room (Nat.le_of_ble_eq_true rfl)) d_R_passCount_26 ⟨Nat.le_of_ble_eq_true rfl, Nat.le_of_ble_eq_true rfl⟩) (fun v9 h9 => ?_)
      obtain rfl := h9
      show W _ _ _ _ _ _ _ _ _ _ _ _ _ _ _ (F0 m9 29 ls [.int (iI (itF min (fun j => min (lw j + sk) bl) bl 0 (ν + 1)))])
      refine lv_istore (lv' := [(4, .int (iI (itF min (fun j => min (lw j + sk) bl) bl 0 (ν + 1)))), (0, .ref ax), (1, .int (iI (bl))), (2, .int (iI (dp))), (3, .int (iI (sk))), (5, .int (iI (0 + (ν : Int))))]) hx hb d_R_passCount_29 hl (by decide) rfl (fun ls hl => ?_)
      refine lv_iinc (v := iI (0 + ((ν + 1 : Nat) : Int))) (lv' := [(5, .int (iI (0 + ((ν + 1 : Nat) : Int)))), (4, .int (iI (itF min (fun j => min (lw j + sk) bl) bl 0 (ν + 1)))), (0, .ref ax), (1, .int (iI (bl))), (2, .int (iI (dp))), (3, .int (iI (sk)))]) hx hb d_R_passCount_31 hl (k := 5) rfl ((ii_add _ _).trans (congrArg iI (by omega))) (by decide) rfl (fun ls hl => ?_)
      refine lv_goto (tgt := 6) hx hb d_R_passCount_34 (by decide) ?_
      exact ih ls (ν + 1) (by omega) (lv_sub hl [2, 3, 4, 5, 1, 0] rfl)

set_option maxHeartbeats 4000000 in
set_option maxRecDepth 100000 in
theorem c_R_liftAt {l : Launch} {s0 : State} {D : va_G} {k : Nat → ClassId} (hC : Cx l s0 D k) (ar ah L n9 : Nat) (r hh : Int → Int) (x : Int) (hL : L ≤ 64) (hn9 : n9 ≤ 12) (hx9 : 0 ≤ x ∧ x ≤ L) (hrr : ∀ j : Int, 0 ≤ j → j ≤ L → 0 ≤ r j ∧ r j ≤ 500) (hhh : ∀ j : Int, 0 ≤ j → j ≤ n9 → 0 ≤ hh j ∧ hh j ≤ 12) : RdM l s0 y_R_liftAt { frames := 1, cells := 0, slots := 0, locals := 21 } [.ref ar, .ref ah, .int (iI (x))] (fun H => va_P D classes ([(ar, .inl (k 0, ai (L + 1) r)), (ah, .inl (k 0, ai (n9 + 1) hh))]) H) (fun v => v = some (.int (iI (itF max (fun y => r y + hh ((y - x).natAbs : Int)) 0 (max (x - n9) 0) (min (x + n9) L - max (x - n9) 0 + 1).toNat)))) := by
  refine ex_ofW (cc := b_R_liftAt) (maxL := 7) (ret := (some .int)) (hh := []) (by decide +kernel) (Or.inl ⟨g_383, rfl⟩) ?_
  intro p9 e9 s m9 args9 below9 meth9 c9 s9 B9 hml htab hv
  obtain ⟨rfl, h0, hP⟩ := hv
  have hx := B9.exec
  have hb := B9.bytes
  have hr := B9.returns
  have hG := atoms_spec (ws := GW) B9.pre
  have hown : s.vm.findClass "LathePieces$Reach" = some m9.cls := findClass_of_methodNamed B9.named
  have hlocks := B9.notSynchronized
  have hK := cx_K hC h0
  have hS : va_S (aL s0) s.heap s.heap [] := va_S.rf
  have hl := lv_entry ([.ref ar, .ref ah, .int (iI (x))]) (n := 7) (Nat.le_of_ble_eq_true rfl)
  rw [lg_entry_eq]
  generalize (lg_sl ([.ref ar, .ref ah, .int (iI (x))]) ++ List.replicate (7 - (lg_sl ([.ref ar, .ref ah, .int (iI (x))])).length) Slot.unset).toArray = ls at hl ⊢
  replace hl : lv_has ls 7 [(0, .ref ar), (1, .ref ah), (2, .int (iI (x)))] := hl
  have g0 : (((L + 1 : Nat) : Int)) - 1 = L := by omega
  refine lv_aload_n hx hb d_R_liftAt_0 rfl (lv_at hl 1 rfl) ?_
  refine ra_alen (z := (n9 + 1)) hx hb hK hP 1 0 rfl rfl rfl d_R_liftAt_1 ?_
  refine ri_iconst hx hb d_R_liftAt_2 ?_
  refine ri_isub hx hb d_R_liftAt_3 ?_
  refine tp_i (congrArg iI (show ((n9 + 1)) - 1 = (n9 : Int) from by omega)) ?_
  refine lv_istore_n (lv' := [(3, .int (iI ((n9 : Int)))), (0, .ref ar), (1, .ref ah), (2, .int (iI (x)))]) hx hb d_R_liftAt_4 rfl hl (by decide) rfl (fun ls hl => ?_)
  refine lv_iload_n hx hb d_R_liftAt_5 rfl (lv_at hl 3 rfl) ?_
  refine lv_iload_n hx hb d_R_liftAt_6 rfl (lv_at hl 0 rfl) ?_
  refine ri_iadd hx hb d_R_liftAt_7 ?_
  refine lv_aload_n hx hb d_R_liftAt_8 rfl (lv_at hl 1 rfl) ?_
  refine ra_alen (z := (L + 1)) hx hb hK hP 0 0 rfl rfl rfl d_R_liftAt_9 ?_
  refine ri_iconst hx hb d_R_liftAt_10 ?_
  refine ri_isub hx hb d_R_liftAt_11 ?_
  refine tp_i (congrArg iI (show ((L + 1)) - 1 = (L : Int) from by omega)) ?_
  refine rd_call (ex_runS (As := [.int (iI (x + ((n9 : Int)))), .int (iI ((L : Int)))]) (rest := []) ⟨hx, hb, hml, hown, hG⟩ (c_J_min l (x + n9) L (by omega) (by omega)) (cb_code (n := 2) hG g_251 g_9 g_384 rfl rfl (by decide +kernel) ⟨Nat.le_of_ble_eq_true rfl, Nat.le_of_ble_eq_true rfl⟩) (hG _ g_250) ⟨fun _ _ _ _ q => q, fun _ _ _ => rfl⟩ rfl rfl hl.1 rfl (lv_room (Nat.le_of_ble_eq_true rfl)) d_R_liftAt_12 ⟨Nat.le_of_ble_eq_true rfl, Nat.le_of_ble_eq_true rfl⟩) (fun v9 h9 => ?_)
  obtain rfl := h9
  show W _ _ _ _ _ _ _ _ _ _ _ _ _ _ _ (F0 m9 15 ls [.int (iI (min (x + n9) L))])
  refine lv_istore (lv' := [(4, .int (iI (min (x + n9) L))), (3, .int (iI ((n9 : Int)))), (0, .ref ar), (1, .ref ah), (2, .int (iI (x)))]) hx hb d_R_liftAt_15 hl (by decide) rfl (fun ls hl => ?_)
  refine ri_iconst hx hb d_R_liftAt_17 ?_
  refine lv_istore (lv' := [(5, .int (iI (0))), (4, .int (iI (min (x + n9) L))), (3, .int (iI ((n9 : Int)))), (0, .ref ar), (1, .ref ah), (2, .int (iI (x)))]) hx hb d_R_liftAt_18 hl (by decide) rfl (fun ls hl => ?_)
  refine lv_iload_n hx hb d_R_liftAt_20 rfl (lv_at hl 5 rfl) ?_
  refine lv_iload_n hx hb d_R_liftAt_21 rfl (lv_at hl 2 rfl) ?_
  refine ri_isub hx hb d_R_liftAt_22 ?_
  refine ri_iconst hx hb d_R_liftAt_23 ?_
  refine rd_call (ex_runS (As := [.int (iI (x - ((n9 : Int)))), .int (iI (0))]) (rest := []) ⟨hx, hb, hml, hown, hG⟩ (c_J_max l (x - n9) 0 (by omega) (by omega)) (cb_code (n := 2) hG g_254 g_9 g_385 rfl rfl (by decide +kernel) ⟨Nat.le_of_ble_eq_true rfl, Nat.le_of_ble_eq_true rfl⟩) (hG _ g_253) ⟨fun _ _ _ _ q => q, fun _ _ _ => rfl⟩ rfl rfl hl.1 rfl (lv_room (Nat.le_of_ble_eq_true rfl)) d_R_liftAt_24 ⟨Nat.le_of_ble_eq_true rfl, Nat.le_of_ble_eq_true rfl⟩) (fun v9 h9 => ?_)
  obtain rfl := h9
  show W _ _ _ _ _ _ _ _ _ _ _ _ _ _ _ (F0 m9 27 ls [.int (iI (max (x - n9) 0))])
  refine lv_istore (lv' := [(6, .int (iI (max (x - n9) 0))), (5, .int (iI (0))), (4, .int (iI (min (x + n9) L))), (3, .int (iI ((n9 : Int)))), (0, .ref ar), (1, .ref ah), (2, .int (iI (x)))]) hx hb d_R_liftAt_27 hl (by decide) rfl (fun ls hl => ?_)
  have g1 : max (x - n9) 0 = max (x - n9) 0 + ((0 : Nat) : Int) := by omega
  replace hl : lv_has ls 7 [(6, .int (iI (max (x - n9) 0 + ((0 : Nat) : Int)))), (5, .int (iI (itF max (fun y => r y + hh ((y - x).natAbs : Int)) 0 (max (x - n9) 0) 0))), (4, .int (iI (min (x + n9) L))), (3, .int (iI (n9 : Int))), (0, .ref ar), (1, .ref ah), (2, .int (iI (x)))] := by rw [← g1]; exact hl
  obtain ⟨κ, ν, hinv, hl1⟩ : ∃ (κ : Nat) (ν : Nat), ((ν : Int) + κ = min (x + n9) L - max (x - n9) 0 + 1) ∧ lv_has ls 7 [(0, .ref ar), (1, .ref ah), (2, .int (iI (x))), (4, .int (iI (min (x + n9) L))), (5, .int (iI (itF max (fun y => r y + hh ((y - x).natAbs : Int)) 0 (max (x - n9) 0) ν))), (6, .int (iI (max (x - n9) 0 + (ν : Int))))] := ⟨(min (x + n9) L - max (x - n9) 0 + 1).toNat, 0, (by omega), lv_sub hl [4, 5, 6, 2, 1, 0] rfl⟩
  clear hl
  have hl := hl1
  clear hl1
  induction κ generalizing ν ls with
  | zero =>
    obtain h1 := hinv
    refine lv_iload hx hb d_R_liftAt_29 (lv_at hl 5 rfl) ?_
    refine lv_iload hx hb d_R_liftAt_31 (lv_at hl 3 rfl) ?_
    refine ri_icmp_gt (tgt := 63) hx hb d_R_liftAt_33 (by decide) (by omega) (by omega) (fun c33 => ?_) (fun c33 => ?_)
    · refine lv_iload hx hb d_R_liftAt_63 (lv_at hl 4 rfl) ?_
      exact re_i hx hb hr hlocks (fun t ht hW => ⟨by rw [show (min (x + n9) L - max (x - n9) 0 + 1).toNat = ν by omega], ht⟩) (fun z hz => nomatch hz) (Nat.le_of_ble_eq_true rfl) (Nat.le_of_ble_eq_true rfl) d_R_liftAt_65
    · exact absurd c33 (by omega)
  | succ κ ih =>
    obtain h1 := hinv
    refine lv_iload hx hb d_R_liftAt_29 (lv_at hl 5 rfl) ?_
    refine lv_iload hx hb d_R_liftAt_31 (lv_at hl 3 rfl) ?_
    refine ri_icmp_gt (tgt := 63) hx hb d_R_liftAt_33 (by decide) (by omega) (by omega) (fun c33 => ?_) (fun c33 => ?_)
    · exact absurd c33 (by omega)
    · have q1 := hrr (max (x - n9) 0 + ν) (by omega) (by omega)
      have q2 := hhh (((max (x - n9) 0 + ν - x).natAbs : Nat) : Int) (by omega) (by omega)
      have q3 : 0 ≤ itF max (fun y => r y + hh ((y - x).natAbs : Int)) 0 (max (x - n9) 0) ν ∧ itF max (fun y => r y + hh ((y - x).natAbs : Int)) 0 (max (x - n9) 0) ν ≤ 512 := itF_max ν (by omega) (fun j g2 g3 => by have := hrr j (by omega) (by omega); have := hhh (((j - x).natAbs : Nat) : Int) (by omega) (by omega); omega)
      refine lv_iload hx hb d_R_liftAt_36 (lv_at hl 4 rfl) ?_
      refine lv_aload_n hx hb d_R_liftAt_38 rfl (lv_at hl 0 rfl) ?_
      refine lv_iload hx hb d_R_liftAt_39 (lv_at hl 5 rfl) ?_
      refine ra_iald hx hb hK hP 0 rfl (by omega) (by omega) d_R_liftAt_41 ?_
      refine lv_aload_n hx hb d_R_liftAt_42 rfl (lv_at hl 1 rfl) ?_
      refine lv_iload hx hb d_R_liftAt_43 (lv_at hl 5 rfl) ?_
      refine lv_iload_n hx hb d_R_liftAt_45 rfl (lv_at hl 2 rfl) ?_
      refine ri_isub hx hb d_R_liftAt_46 ?_
      refine rd_call (ex_runS (As := [.int (iI ((max (x - n9) 0 + (ν : Int)) - x))]) (rest := [.ref ah, .int (iI (r (max (x - n9) 0 + (ν : Int)))), .int (iI (itF max (fun y => r y + hh ((y - x).natAbs : Int)) 0 (max (x - n9) 0) ν))]) ⟨hx, hb, hml, hown, hG⟩ (c_J_abs l (max (x - n9) 0 + ν - x) (by omega)) (cb_code (n := 1) hG g_388 g_9 g_386 rfl rfl (by decide +kernel) ⟨Nat.le_of_ble_eq_true rfl, Nat.le_of_ble_eq_true rfl⟩) (hG _ g_387) ⟨fun _ _ _ _ q => q, fun _ _ _ => rfl⟩ rfl rfl hl.1 rfl (lv_room (Nat.le_of_ble_eq_true rfl)) d_R_liftAt_47 ⟨Nat.le_of_ble_eq_true rfl, Nat.le_of_ble_eq_true rfl⟩) (fun v9 h9 => ?_)
      obtain rfl := h9
      show W _ _ _ _ _ _ _ _ _ _ _ _ _ _ _ (F0 m9 50 ls [.int (iI (((max (x - n9) 0 + ν - x).natAbs : Int))), .ref ah, .int (iI (r (max (x - n9) 0 + (ν : Int)))), .int (iI (itF max (fun y => r y + hh ((y - x).natAbs : Int)) 0 (max (x - n9) 0) ν))])
      refine ra_iald hx hb hK hP 1 rfl (by omega) (by omega) d_R_liftAt_50 ?_
      refine ri_iadd hx hb d_R_liftAt_51 ?_
      refine rd_call (ex_runS (As := [.int (iI (itF max (fun y => r y + hh ((y - x).natAbs : Int)) 0 (max (x - n9) 0) ν)), .int (iI ((r (max (x - n9) 0 + (ν : Int))) + (hh (((max (x - n9) 0 + ν - x).natAbs : Int)))))]) (rest := []) ⟨hx, hb, hml, hown, hG⟩ (c_J_max l (itF max (fun y => r y + hh ((y - x).natAbs : Int)) 0 (max (x - n9) 0) ν) (r (max (x - n9) 0 + ν) + hh ((max (x - n9) 0 + ν - x).natAbs : Int)) (by omega) (by omega)) (cb_code (n := 2) hG g_254 g_9 g_385 rfl rfl (by decide +kernel) ⟨Nat.le_of_ble_eq_true rfl, Nat.le_of_ble_eq_true rfl⟩) (hG _ g_253) ⟨fun _ _ _ _ q => q, fun _ _ _ => rfl⟩ rfl rfl hl.1 rfl (lv_room (Nat.le_of_ble_eq_true rfl)) d_R_liftAt_52 ⟨Nat.le_of_ble_eq_true rfl, Nat.le_of_ble_eq_true rfl⟩) (fun v9 h9 => ?_)
      obtain rfl := h9
      show W _ _ _ _ _ _ _ _ _ _ _ _ _ _ _ (F0 m9 55 ls [.int (iI (itF max (fun y => r y + hh ((y - x).natAbs : Int)) 0 (max (x - n9) 0) (ν + 1)))])
      refine lv_istore (lv' := [(5, .int (iI (itF max (fun y => r y + hh ((y - x).natAbs : Int)) 0 (max (x - n9) 0) (ν + 1)))), (0, .ref ar), (1, .ref ah), (2, .int (iI (x))), (4, .int (iI (min (x + n9) L))), (6, .int (iI (max (x - n9) 0 + (ν : Int))))]) hx hb d_R_liftAt_55 hl (by decide) rfl (fun ls hl => ?_)
      refine lv_iinc (v := iI (max (x - n9) 0 + ((ν + 1 : Nat) : Int))) (lv' := [(6, .int (iI (max (x - n9) 0 + ((ν + 1 : Nat) : Int)))), (5, .int (iI (itF max (fun y => r y + hh ((y - x).natAbs : Int)) 0 (max (x - n9) 0) (ν + 1)))), (0, .ref ar), (1, .ref ah), (2, .int (iI (x))), (4, .int (iI (min (x + n9) L)))]) hx hb d_R_liftAt_57 hl (k := 5) rfl ((ii_add _ _).trans (congrArg iI (by omega))) (by decide) rfl (fun ls hl => ?_)
      refine lv_goto (tgt := 29) hx hb d_R_liftAt_60 (by decide) ?_
      exact ih ls (ν + 1) (by omega) (lv_sub hl [2, 3, 4, 5, 1, 0] rfl)

set_option maxHeartbeats 4000000 in
set_option maxRecDepth 100000 in
theorem c_R_lowAt {l : Launch} {s0 : State} {D : va_G} {k : Nat → ClassId} (hC : Cx l s0 D k) (ar ah L n9 : Nat) (r hh : Int → Int) (x : Int) (hL : L ≤ 64) (hn9 : n9 ≤ 12) (hx9 : 0 ≤ x ∧ x ≤ L) (hrr : ∀ j : Int, 0 ≤ j → j ≤ L → 0 ≤ r j ∧ r j ≤ 512) (hhh : ∀ j : Int, 0 ≤ j → j ≤ n9 → 0 ≤ hh j ∧ hh j ≤ 12) : RdM l s0 y_R_lowAt { frames := 1, cells := 0, slots := 0, locals := 21 } [.ref ar, .ref ah, .int (iI (x))] (fun H => va_P D classes ([(ar, .inl (k 0, ai (L + 1) r)), (ah, .inl (k 0, ai (n9 + 1) hh))]) H) (fun v => v = some (.int (iI (itF min (fun y => r y - hh ((y - x).natAbs : Int)) 512 (max (x - n9) 0) (min (x + n9) L - max (x - n9) 0 + 1).toNat)))) := by
  refine ex_ofW (cc := b_R_lowAt) (maxL := 7) (ret := (some .int)) (hh := []) (by decide +kernel) (Or.inl ⟨g_391, rfl⟩) ?_
  intro p9 e9 s m9 args9 below9 meth9 c9 s9 B9 hml htab hv
  obtain ⟨rfl, h0, hP⟩ := hv
  have hx := B9.exec
  have hb := B9.bytes
  have hr := B9.returns
  have hG := atoms_spec (ws := GW) B9.pre
  have hown : s.vm.findClass "LathePieces$Reach" = some m9.cls := findClass_of_methodNamed B9.named
  have hlocks := B9.notSynchronized
  have hK := cx_K hC h0
  have hS : va_S (aL s0) s.heap s.heap [] := va_S.rf
  have hl := lv_entry ([.ref ar, .ref ah, .int (iI (x))]) (n := 7) (Nat.le_of_ble_eq_true rfl)
  rw [lg_entry_eq]
  generalize (lg_sl ([.ref ar, .ref ah, .int (iI (x))]) ++ List.replicate (7 - (lg_sl ([.ref ar, .ref ah, .int (iI (x))])).length) Slot.unset).toArray = ls at hl ⊢
  replace hl : lv_has ls 7 [(0, .ref ar), (1, .ref ah), (2, .int (iI (x)))] := hl
  have g0 : (((L + 1 : Nat) : Int)) - 1 = L := by omega
  refine lv_aload_n hx hb d_R_lowAt_0 rfl (lv_at hl 1 rfl) ?_
  refine ra_alen (z := (n9 + 1)) hx hb hK hP 1 0 rfl rfl rfl d_R_lowAt_1 ?_
  refine ri_iconst hx hb d_R_lowAt_2 ?_
  refine ri_isub hx hb d_R_lowAt_3 ?_
  refine tp_i (congrArg iI (show ((n9 + 1)) - 1 = (n9 : Int) from by omega)) ?_
  refine lv_istore_n (lv' := [(3, .int (iI ((n9 : Int)))), (0, .ref ar), (1, .ref ah), (2, .int (iI (x)))]) hx hb d_R_lowAt_4 rfl hl (by decide) rfl (fun ls hl => ?_)
  refine lv_iload_n hx hb d_R_lowAt_5 rfl (lv_at hl 3 rfl) ?_
  refine lv_iload_n hx hb d_R_lowAt_6 rfl (lv_at hl 0 rfl) ?_
  refine ri_iadd hx hb d_R_lowAt_7 ?_
  refine lv_aload_n hx hb d_R_lowAt_8 rfl (lv_at hl 1 rfl) ?_
  refine ra_alen (z := (L + 1)) hx hb hK hP 0 0 rfl rfl rfl d_R_lowAt_9 ?_
  refine ri_iconst hx hb d_R_lowAt_10 ?_
  refine ri_isub hx hb d_R_lowAt_11 ?_
  refine tp_i (congrArg iI (show ((L + 1)) - 1 = (L : Int) from by omega)) ?_
  refine rd_call (ex_runS (As := [.int (iI (x + ((n9 : Int)))), .int (iI ((L : Int)))]) (rest := []) ⟨hx, hb, hml, hown, hG⟩ (c_J_min l (x + n9) L (by omega) (by omega)) (cb_code (n := 2) hG g_251 g_9 g_384 rfl rfl (by decide +kernel) ⟨Nat.le_of_ble_eq_true rfl, Nat.le_of_ble_eq_true rfl⟩) (hG _ g_250) ⟨fun _ _ _ _ q => q, fun _ _ _ => rfl⟩ rfl rfl hl.1 rfl (lv_room (Nat.le_of_ble_eq_true rfl)) d_R_lowAt_12 ⟨Nat.le_of_ble_eq_true rfl, Nat.le_of_ble_eq_true rfl⟩) (fun v9 h9 => ?_)
  obtain rfl := h9
  show W _ _ _ _ _ _ _ _ _ _ _ _ _ _ _ (F0 m9 15 ls [.int (iI (min (x + n9) L))])
  refine lv_istore (lv' := [(4, .int (iI (min (x + n9) L))), (3, .int (iI ((n9 : Int)))), (0, .ref ar), (1, .ref ah), (2, .int (iI (x)))]) hx hb d_R_lowAt_15 hl (by decide) rfl (fun ls hl => ?_)
  refine ri_sipush hx hb d_R_lowAt_17 (by decide) ?_
  refine lv_istore (lv' := [(5, .int (iI (512))), (4, .int (iI (min (x + n9) L))), (3, .int (iI ((n9 : Int)))), (0, .ref ar), (1, .ref ah), (2, .int (iI (x)))]) hx hb d_R_lowAt_20 hl (by decide) rfl (fun ls hl => ?_)
  refine lv_iload_n hx hb d_R_lowAt_22 rfl (lv_at hl 5 rfl) ?_
  refine lv_iload_n hx hb d_R_lowAt_23 rfl (lv_at hl 2 rfl) ?_
  refine ri_isub hx hb d_R_lowAt_24 ?_
  refine ri_iconst hx hb d_R_lowAt_25 ?_
  refine rd_call (ex_runS (As := [.int (iI (x - ((n9 : Int)))), .int (iI (0))]) (rest := []) ⟨hx, hb, hml, hown, hG⟩ (c_J_max l (x - n9) 0 (by omega) (by omega)) (cb_code (n := 2) hG g_254 g_9 g_385 rfl rfl (by decide +kernel) ⟨Nat.le_of_ble_eq_true rfl, Nat.le_of_ble_eq_true rfl⟩) (hG _ g_253) ⟨fun _ _ _ _ q => q, fun _ _ _ => rfl⟩ rfl rfl hl.1 rfl (lv_room (Nat.le_of_ble_eq_true rfl)) d_R_lowAt_26 ⟨Nat.le_of_ble_eq_true rfl, Nat.le_of_ble_eq_true rfl⟩) (fun v9 h9 => ?_)
  obtain rfl := h9
  show W _ _ _ _ _ _ _ _ _ _ _ _ _ _ _ (F0 m9 29 ls [.int (iI (max (x - n9) 0))])
  refine lv_istore (lv' := [(6, .int (iI (max (x - n9) 0))), (5, .int (iI (512))), (4, .int (iI (min (x + n9) L))), (3, .int (iI ((n9 : Int)))), (0, .ref ar), (1, .ref ah), (2, .int (iI (x)))]) hx hb d_R_lowAt_29 hl (by decide) rfl (fun ls hl => ?_)
  have g1 : max (x - n9) 0 = max (x - n9) 0 + ((0 : Nat) : Int) := by omega
  replace hl : lv_has ls 7 [(6, .int (iI (max (x - n9) 0 + ((0 : Nat) : Int)))), (5, .int (iI (itF min (fun y => r y - hh ((y - x).natAbs : Int)) 512 (max (x - n9) 0) 0))), (4, .int (iI (min (x + n9) L))), (3, .int (iI (n9 : Int))), (0, .ref ar), (1, .ref ah), (2, .int (iI (x)))] := by rw [← g1]; exact hl
  obtain ⟨κ, ν, hinv, hl1⟩ : ∃ (κ : Nat) (ν : Nat), ((ν : Int) + κ = min (x + n9) L - max (x - n9) 0 + 1) ∧ lv_has ls 7 [(0, .ref ar), (1, .ref ah), (2, .int (iI (x))), (4, .int (iI (min (x + n9) L))), (5, .int (iI (itF min (fun y => r y - hh ((y - x).natAbs : Int)) 512 (max (x - n9) 0) ν))), (6, .int (iI (max (x - n9) 0 + (ν : Int))))] := ⟨(min (x + n9) L - max (x - n9) 0 + 1).toNat, 0, (by omega), lv_sub hl [4, 5, 6, 2, 1, 0] rfl⟩
  clear hl
  have hl := hl1
  clear hl1
  induction κ generalizing ν ls with
  | zero =>
    obtain h1 := hinv
    refine lv_iload hx hb d_R_lowAt_31 (lv_at hl 5 rfl) ?_
    refine lv_iload hx hb d_R_lowAt_33 (lv_at hl 3 rfl) ?_
    refine ri_icmp_gt (tgt := 65) hx hb d_R_lowAt_35 (by decide) (by omega) (by omega) (fun c35 => ?_) (fun c35 => ?_)
    · refine lv_iload hx hb d_R_lowAt_65 (lv_at hl 4 rfl) ?_
      exact re_i hx hb hr hlocks (fun t ht hW => ⟨by rw [show (min (x + n9) L - max (x - n9) 0 + 1).toNat = ν by omega], ht⟩) (fun z hz => nomatch hz) (Nat.le_of_ble_eq_true rfl) (Nat.le_of_ble_eq_true rfl) d_R_lowAt_67
    · exact absurd c35 (by omega)
  | succ κ ih =>
    obtain h1 := hinv
    refine lv_iload hx hb d_R_lowAt_31 (lv_at hl 5 rfl) ?_
    refine lv_iload hx hb d_R_lowAt_33 (lv_at hl 3 rfl) ?_
    refine ri_icmp_gt (tgt := 65) hx hb d_R_lowAt_35 (by decide) (by omega) (by omega) (fun c35 => ?_) (fun c35 => ?_)
    · exact absurd c35 (by omega)
    · have q1 := hrr (max (x - n9) 0 + ν) (by omega) (by omega)
      have q2 := hhh (((max (x - n9) 0 + ν - x).natAbs : Nat) : Int) (by omega) (by omega)
      have q3 : -12 ≤ itF min (fun y => r y - hh ((y - x).natAbs : Int)) 512 (max (x - n9) 0) ν ∧ itF min (fun y => r y - hh ((y - x).natAbs : Int)) 512 (max (x - n9) 0) ν ≤ 512 := itF_min ν (by omega) (fun j g2 g3 => by have := hrr j (by omega) (by omega); have := hhh (((j - x).natAbs : Nat) : Int) (by omega) (by omega); omega)
      refine lv_iload hx hb d_R_lowAt_38 (lv_at hl 4 rfl) ?_
      refine lv_aload_n hx hb d_R_lowAt_40 rfl (lv_at hl 0 rfl) ?_
      refine lv_iload hx hb d_R_lowAt_41 (lv_at hl 5 rfl) ?_
      refine ra_iald hx hb hK hP 0 rfl (by omega) (by omega) d_R_lowAt_43 ?_
      refine lv_aload_n hx hb d_R_lowAt_44 rfl (lv_at hl 1 rfl) ?_
      refine lv_iload hx hb d_R_lowAt_45 (lv_at hl 5 rfl) ?_
      refine lv_iload_n hx hb d_R_lowAt_47 rfl (lv_at hl 2 rfl) ?_
      refine ri_isub hx hb d_R_lowAt_48 ?_
      refine rd_call (ex_runS (As := [.int (iI ((max (x - n9) 0 + (ν : Int)) - x))]) (rest := [.ref ah, .int (iI (r (max (x - n9) 0 + (ν : Int)))), .int (iI (itF min (fun y => r y - hh ((y - x).natAbs : Int)) 512 (max (x - n9) 0) ν))]) ⟨hx, hb, hml, hown, hG⟩ (c_J_abs l (max (x - n9) 0 + ν - x) (by omega)) (cb_code (n := 1) hG g_388 g_9 g_386 rfl rfl (by decide +kernel) ⟨Nat.le_of_ble_eq_true rfl, Nat.le_of_ble_eq_true rfl⟩) (hG _ g_387) ⟨fun _ _ _ _ q => q, fun _ _ _ => rfl⟩ rfl rfl hl.1 rfl (lv_room (Nat.le_of_ble_eq_true rfl)) d_R_lowAt_49 ⟨Nat.le_of_ble_eq_true rfl, Nat.le_of_ble_eq_true rfl⟩) (fun v9 h9 => ?_)
      obtain rfl := h9
      show W _ _ _ _ _ _ _ _ _ _ _ _ _ _ _ (F0 m9 52 ls [.int (iI (((max (x - n9) 0 + ν - x).natAbs : Int))), .ref ah, .int (iI (r (max (x - n9) 0 + (ν : Int)))), .int (iI (itF min (fun y => r y - hh ((y - x).natAbs : Int)) 512 (max (x - n9) 0) ν))])
      refine ra_iald hx hb hK hP 1 rfl (by omega) (by omega) d_R_lowAt_52 ?_
      refine ri_isub hx hb d_R_lowAt_53 ?_
      refine rd_call (ex_runS (As := [.int (iI (itF min (fun y => r y - hh ((y - x).natAbs : Int)) 512 (max (x - n9) 0) ν)), .int (iI ((r (max (x - n9) 0 + (ν : Int))) - (hh (((max (x - n9) 0 + ν - x).natAbs : Int)))))]) (rest := []) ⟨hx, hb, hml, hown, hG⟩ (c_J_min l (itF min (fun y => r y - hh ((y - x).natAbs : Int)) 512 (max (x - n9) 0) ν) (r (max (x - n9) 0 + ν) - hh ((max (x - n9) 0 + ν - x).natAbs : Int)) (by omega) (by omega)) (cb_code (n := 2) hG g_251 g_9 g_384 rfl rfl (by decide +kernel) ⟨Nat.le_of_ble_eq_true rfl, Nat.le_of_ble_eq_true rfl⟩) (hG _ g_250) ⟨fun _ _ _ _ q => q, fun _ _ _ => rfl⟩ rfl rfl hl.1 rfl (lv_room (Nat.le_of_ble_eq_true rfl)) d_R_lowAt_54 ⟨Nat.le_of_ble_eq_true rfl, Nat.le_of_ble_eq_true rfl⟩) (fun v9 h9 => ?_)
      obtain rfl := h9
      show W _ _ _ _ _ _ _ _ _ _ _ _ _ _ _ (F0 m9 57 ls [.int (iI (itF min (fun y => r y - hh ((y - x).natAbs : Int)) 512 (max (x - n9) 0) (ν + 1)))])
      refine lv_istore (lv' := [(5, .int (iI (itF min (fun y => r y - hh ((y - x).natAbs : Int)) 512 (max (x - n9) 0) (ν + 1)))), (0, .ref ar), (1, .ref ah), (2, .int (iI (x))), (4, .int (iI (min (x + n9) L))), (6, .int (iI (max (x - n9) 0 + (ν : Int))))]) hx hb d_R_lowAt_57 hl (by decide) rfl (fun ls hl => ?_)
      refine lv_iinc (v := iI (max (x - n9) 0 + ((ν + 1 : Nat) : Int))) (lv' := [(6, .int (iI (max (x - n9) 0 + ((ν + 1 : Nat) : Int)))), (5, .int (iI (itF min (fun y => r y - hh ((y - x).natAbs : Int)) 512 (max (x - n9) 0) (ν + 1)))), (0, .ref ar), (1, .ref ah), (2, .int (iI (x))), (4, .int (iI (min (x + n9) L)))]) hx hb d_R_lowAt_59 hl (k := 5) rfl ((ii_add _ _).trans (congrArg iI (by omega))) (by decide) rfl (fun ls hl => ?_)
      refine lv_goto (tgt := 31) hx hb d_R_lowAt_62 (by decide) ?_
      exact ih ls (ν + 1) (by omega) (lv_sub hl [2, 3, 4, 5, 1, 0] rfl)

