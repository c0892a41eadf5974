set_option maxHeartbeats 4000000 in
set_option maxRecDepth 100000 in
theorem c_J_max (l : Launch) (a b : Int) (ha : In32 a) (hb9 : In32 b) : PuM l y_J_max { frames := 0, cells := 0, slots := 0, locals := 0 } [.int (iI (a)), .int (iI (b))] (fun v => v = some (.int (iI (max a b)))) := by
  refine ex_ofW (cc := b_J_max) (maxL := 2) (ret := (some .int)) (hh := []) (by decide +kernel) (Or.inl ⟨g_254, rfl⟩) ?_
  intro p9 e9 s m9 args9 below9 meth9 c9 s9 B9 hml htab hv
  obtain rfl := hv
  have hx := B9.exec
  have hb := B9.bytes
  have hr := B9.returns
  have hG := atoms_spec (ws := GW) B9.pre
  have hown : s.vm.findClass "java/lang/Math" = some m9.cls := findClass_of_methodNamed B9.named
  have hlocks := B9.notSynchronized
  have hl := lv_entry ([.int (iI (a)), .int (iI (b))]) (n := 2) (Nat.le_of_ble_eq_true rfl)
  rw [lg_entry_eq]
  generalize (lg_sl ([.int (iI (a)), .int (iI (b))]) ++ List.replicate (2 - (lg_sl ([.int (iI (a)), .int (iI (b))])).length) Slot.unset).toArray = ls at hl ⊢
  replace hl : lv_has ls 2 [(0, .int (iI (a))), (1, .int (iI (b)))] := hl
  refine lv_iload_n hx hb d_J_max_0 rfl (lv_at hl 0 rfl) ?_
  refine lv_iload_n hx hb d_J_max_1 rfl (lv_at hl 1 rfl) ?_
  refine ri_icmp_lt (tgt := 9) hx hb d_J_max_2 (by decide) (by omega) (by omega) (fun c2 => ?_) (fun c2 => ?_)
  · refine lv_iload_n hx hb d_J_max_9 rfl (lv_at hl 1 rfl) ?_
    exact re_i hx hb hr hlocks (fun t ht hW => ⟨by rw [show max a b = b by omega], ht⟩) (fun z hz => nomatch hz) (Nat.le_refl _) (Nat.le_refl _) d_J_max_10
  · refine lv_iload_n hx hb d_J_max_5 rfl (lv_at hl 0 rfl) ?_
    refine lv_goto (tgt := 10) hx hb d_J_max_6 (by decide) ?_
    exact re_i hx hb hr hlocks (fun t ht hW => ⟨by rw [show max a b = a by omega], ht⟩) (fun z hz => nomatch hz) (Nat.le_refl _) (Nat.le_refl _) d_J_max_10

set_option maxHeartbeats 4000000 in
set_option maxRecDepth 100000 in
theorem c_J_min (l : Launch) (a b : Int) (ha : In32 a) (hb9 : In32 b) : PuM l y_J_min { frames := 0, cells := 0, slots := 0, locals := 0 } [.int (iI (a)), .int (iI (b))] (fun v => v = some (.int (iI (min a b)))) := by
  refine ex_ofW (cc := b_J_min) (maxL := 2) (ret := (some .int)) (hh := []) (by decide +kernel) (Or.inl ⟨g_251, rfl⟩) ?_
  intro p9 e9 s m9 args9 below9 meth9 c9 s9 B9 hml htab hv
  obtain rfl := hv
  have hx := B9.exec
  have hb := B9.bytes
  have hr := B9.returns
  have hG := atoms_spec (ws := GW) B9.pre
  have hown : s.vm.findClass "java/lang/Math" = some m9.cls := findClass_of_methodNamed B9.named
  have hlocks := B9.notSynchronized
  have hl := lv_entry ([.int (iI (a)), .int (iI (b))]) (n := 2) (Nat.le_of_ble_eq_true rfl)
  rw [lg_entry_eq]
  generalize (lg_sl ([.int (iI (a)), .int (iI (b))]) ++ List.replicate (2 - (lg_sl ([.int (iI (a)), .int (iI (b))])).length) Slot.unset).toArray = ls at hl ⊢
  replace hl : lv_has ls 2 [(0, .int (iI (a))), (1, .int (iI (b)))] := hl
  refine lv_iload_n hx hb d_J_min_0 rfl (lv_at hl 0 rfl) ?_
  refine lv_iload_n hx hb d_J_min_1 rfl (lv_at hl 1 rfl) ?_
  refine ri_icmp_gt (tgt := 9) hx hb d_J_min_2 (by decide) (by omega) (by omega) (fun c2 => ?_) (fun c2 => ?_)
  · refine lv_iload_n hx hb d_J_min_9 rfl (lv_at hl 1 rfl) ?_
    exact re_i hx hb hr hlocks (fun t ht hW => ⟨by rw [show min a b = b by omega], ht⟩) (fun z hz => nomatch hz) (Nat.le_refl _) (Nat.le_refl _) d_J_min_10
  · refine lv_iload_n hx hb d_J_min_5 rfl (lv_at hl 0 rfl) ?_
    refine lv_goto (tgt := 10) hx hb d_J_min_6 (by decide) ?_
    exact re_i hx hb hr hlocks (fun t ht hW => ⟨by rw [show min a b = a by omega], ht⟩) (fun z hz => nomatch hz) (Nat.le_refl _) (Nat.le_refl _) d_J_min_10

set_option maxHeartbeats 4000000 in
set_option maxRecDepth 100000 in
theorem c_J_abs (l : Launch) (a : Int) (ha : In32 a) : PuM l y_J_abs { frames := 0, cells := 0, slots := 0, locals := 0 } [.int (iI (a))] (fun v => v = some (.int (iI (a.natAbs : Int)))) := by
  refine ex_ofW (cc := b_J_abs) (maxL := 1) (ret := (some .int)) (hh := []) (by decide +kernel) (Or.inl ⟨g_388, rfl⟩) ?_
  intro p9 e9 s m9 args9 below9 meth9 c9 s9 B9 hml htab hv
  obtain rfl := hv
  have hx := B9.exec
  have hb := B9.bytes
  have hr := B9.returns
  have hG := atoms_spec (ws := GW) B9.pre
  have hown : s.vm.findClass "java/lang/Math" = some m9.cls := findClass_of_methodNamed B9.named
  have hlocks := B9.notSynchronized
  have hl := lv_entry ([.int (iI (a))]) (n := 1) (Nat.le_of_ble_eq_true rfl)
  rw [lg_entry_eq]
  generalize (lg_sl ([.int (iI (a))]) ++ List.replicate (1 - (lg_sl ([.int (iI (a))])).length) Slot.unset).toArray = ls at hl ⊢
  replace hl : lv_has ls 1 [(0, .int (iI (a)))] := hl
  refine lv_iload_n hx hb d_J_abs_0 rfl (lv_at hl 0 rfl) ?_
  refine ri_if_ge (tgt := 9) hx hb d_J_abs_1 (by decide) (by omega) (fun c1 => ?_) (fun c1 => ?_)
  · refine lv_iload_n hx hb d_J_abs_9 rfl (lv_at hl 0 rfl) ?_
    exact re_i hx hb hr hlocks (fun t ht hW => ⟨by rw [show (a.natAbs : Int) = a by omega], ht⟩) (fun z hz => nomatch hz) (Nat.le_refl _) (Nat.le_refl _) d_J_abs_10
  · refine lv_iload_n hx hb d_J_abs_4 rfl (lv_at hl 0 rfl) ?_
    refine ri_ineg hx hb d_J_abs_5 ?_
    refine lv_goto (tgt := 10) hx hb d_J_abs_6 (by decide) ?_
    exact re_i hx hb hr hlocks (fun t ht hW => ⟨by rw [show (a.natAbs : Int) = -a by omega], ht⟩) (fun z hz => nomatch hz) (Nat.le_refl _) (Nat.le_refl _) d_J_abs_10

set_option maxHeartbeats 4000000 in
set_option maxRecDepth 100000 in
theorem c_J_absL (l : Launch) (a : Int) (ha : In64 a) : PuM l y_J_abs_JJ { frames := 0, cells := 0, slots := 0, locals := 0 } [.long (jJ (a))] (fun v => v = some (.long (jJ (a.natAbs : Int)))) := by
  refine ex_ofW (cc := b_J_abs_JJ) (maxL := 2) (ret := (some .long)) (hh := []) (by decide +kernel) (Or.inl ⟨g_556, rfl⟩) ?_
  intro p9 e9 s m9 args9 below9 meth9 c9 s9 B9 hml htab hv
  obtain rfl := hv
  have hx := B9.exec
  have hb := B9.bytes
  have hr := B9.returns
  have hG := atoms_spec (ws := GW) B9.pre
  have hown : s.vm.findClass "java/lang/Math" = some m9.cls := findClass_of_methodNamed B9.named
  have hlocks := B9.notSynchronized
  have hl := lv_entry ([.long (jJ (a))]) (n := 2) (Nat.le_of_ble_eq_true rfl)
  rw [lg_entry_eq]
  generalize (lg_sl ([.long (jJ (a))]) ++ List.replicate (2 - (lg_sl ([.long (jJ (a))])).length) Slot.unset).toArray = ls at hl ⊢
  replace hl : lv_has ls 2 [(0, .long (jJ (a)))] := hl
  refine lv_lload_n hx hb d_J_abs_JJ_0 rfl (lv_at hl 0 rfl) ?_
  refine ri_lconst (z := 0) hx hb d_J_abs_JJ_1 rfl ?_
  refine ri_lc_ge (tgt := 11) hx hb d_J_abs_JJ_2 d_J_abs_JJ_3 (by decide) (by omega) (by omega) (fun c2 => ?_) (fun c2 => ?_)
  · refine lv_lload_n hx hb d_J_abs_JJ_11 rfl (lv_at hl 0 rfl) ?_
    exact re_l hx hb hr hlocks (fun t ht hW => ⟨by rw [show (a.natAbs : Int) = a by omega], ht⟩) (fun z hz => nomatch hz) (Nat.le_refl _) (Nat.le_refl _) d_J_abs_JJ_12
  · refine lv_lload_n hx hb d_J_abs_JJ_6 rfl (lv_at hl 0 rfl) ?_
    refine ri_lneg hx hb d_J_abs_JJ_7 ?_
    refine lv_goto (tgt := 12) hx hb d_J_abs_JJ_8 (by decide) ?_
    exact re_l hx hb hr hlocks (fun t ht hW => ⟨by rw [show (a.natAbs : Int) = -a by omega], ht⟩) (fun z hz => nomatch hz) (Nat.le_refl _) (Nat.le_refl _) d_J_abs_JJ_12

set_option maxHeartbeats 4000000 in
set_option maxRecDepth 100000 in
theorem c_F_squareFar (l : Launch) (a b : Int) : PuM l y_F_squareFar { frames := 0, cells := 0, slots := 0, locals := 0 } [.int (iI (a)), .int (iI (b))] (fun v => v = some (.int (iI (a * a + b * b)))) := by
  refine ex_ofW (cc := b_F_squareFar) (maxL := 2) (ret := (some .int)) (hh := []) (by decide +kernel) (Or.inl ⟨g_241, rfl⟩) ?_
  intro p9 e9 s m9 args9 below9 meth9 c9 s9 B9 hml htab hv
  obtain rfl := hv
  have hx := B9.exec
  have hb := B9.bytes
  have hr := B9.returns
  have hG := atoms_spec (ws := GW) B9.pre
  have hown : s.vm.findClass "LathePieces$Profile" = some m9.cls := findClass_of_methodNamed B9.named
  have hlocks := B9.notSynchronized
  have hl := lv_entry ([.int (iI (a)), .int (iI (b))]) (n := 2) (Nat.le_of_ble_eq_true rfl)
  rw [lg_entry_eq]
  generalize (lg_sl ([.int (iI (a)), .int (iI (b))]) ++ List.replicate (2 - (lg_sl ([.int (iI (a)), .int (iI (b))])).length) Slot.unset).toArray = ls at hl ⊢
  replace hl : lv_has ls 2 [(0, .int (iI (a))), (1, .int (iI (b)))] := hl
  refine lv_iload_n hx hb d_F_squareFar_0 rfl (lv_at hl 0 rfl) ?_
  refine lv_iload_n hx hb d_F_squareFar_1 rfl (lv_at hl 0 rfl) ?_
  refine ri_imul hx hb d_F_squareFar_2 ?_
  refine lv_iload_n hx hb d_F_squareFar_3 rfl (lv_at hl 1 rfl) ?_
  refine lv_iload_n hx hb d_F_squareFar_4 rfl (lv_at hl 1 rfl) ?_
  refine ri_imul hx hb d_F_squareFar_5 ?_
  refine ri_iadd hx hb d_F_squareFar_6 ?_
  exact re_i hx hb hr hlocks (fun t ht hW => ⟨rfl, ht⟩) (fun z hz => nomatch hz) (Nat.le_refl _) (Nat.le_refl _) d_F_squareFar_7

set_option maxHeartbeats 4000000 in
set_option maxRecDepth 100000 in
theorem c_M_square (l : Launch) (x r u w : Int) : PuM l y_M_square { frames := 0, cells := 0, slots := 0, locals := 0 } [.int (iI (x)), .int (iI (r)), .int (iI (u)), .int (iI (w))] (fun v => v = some (.int (iI ((x - u) * (x - u) + (r - w) * (r - w))))) := by
  refine ex_ofW (cc := b_M_square) (maxL := 4) (ret := (some .int)) (hh := []) (by decide +kernel) (Or.inl ⟨g_749, rfl⟩) ?_
  intro p9 e9 s m9 args9 below9 meth9 c9 s9 B9 hml htab hv
  obtain rfl := hv
  have hx := B9.exec
  have hb := B9.bytes
  have hr := B9.returns
  have hG := atoms_spec (ws := GW) B9.pre
  have hown : s.vm.findClass "LathePiecesModel" = some m9.cls := findClass_of_methodNamed B9.named
  have hlocks := B9.notSynchronized
  have hl := lv_entry ([.int (iI (x)), .int (iI (r)), .int (iI (u)), .int (iI (w))]) (n := 4) (Nat.le_of_ble_eq_true rfl)
  rw [lg_entry_eq]
  generalize (lg_sl ([.int (iI (x)), .int (iI (r)), .int (iI (u)), .int (iI (w))]) ++ List.replicate (4 - (lg_sl ([.int (iI (x)), .int (iI (r)), .int (iI (u)), .int (iI (w))])).length) Slot.unset).toArray = ls at hl ⊢
  replace hl : lv_has ls 4 [(0, .int (iI (x))), (1, .int (iI (r))), (2, .int (iI (u))), (3, .int (iI (w)))] := hl
  refine lv_iload_n hx hb d_M_square_0 rfl (lv_at hl 0 rfl) ?_
  refine lv_iload_n hx hb d_M_square_1 rfl (lv_at hl 2 rfl) ?_
  refine ri_isub hx hb d_M_square_2 ?_
  refine lv_iload_n hx hb d_M_square_3 rfl (lv_at hl 0 rfl) ?_
  refine lv_iload_n hx hb d_M_square_4 rfl (lv_at hl 2 rfl) ?_
  refine ri_isub hx hb d_M_square_5 ?_
  refine ri_imul hx hb d_M_square_6 ?_
  refine lv_iload_n hx hb d_M_square_7 rfl (lv_at hl 1 rfl) ?_
  refine lv_iload_n hx hb d_M_square_8 rfl (lv_at hl 3 rfl) ?_
  refine ri_isub hx hb d_M_square_9 ?_
  refine lv_iload_n hx hb d_M_square_10 rfl (lv_at hl 1 rfl) ?_
  refine lv_iload_n hx hb d_M_square_11 rfl (lv_at hl 3 rfl) ?_
  refine ri_isub hx hb d_M_square_12 ?_
  refine ri_imul hx hb d_M_square_13 ?_
  refine ri_iadd hx hb d_M_square_14 ?_
  exact re_i hx hb hr hlocks (fun t ht hW => ⟨rfl, ht⟩) (fun z hz => nomatch hz) (Nat.le_refl _) (Nat.le_refl _) d_M_square_15

set_option maxHeartbeats 4000000 in
set_option maxRecDepth 100000 in
theorem c_M_in (l : Launch) (v0 f t : Int) (hv0 : In64 v0) (hf : In64 f) (ht9 : In64 t) : PuM l y_M_in { frames := 0, cells := 0, slots := 0, locals := 0 } [.long (jJ (v0)), .long (jJ (f)), .long (jJ (t))] (fun v => v = some (.int (iI (if f ≤ v0 ∧ v0 ≤ t then 1 else 0)))) := by
  refine ex_ofW (cc := b_M_in) (maxL := 6) (ret := (some .boolean)) (hh := []) (by decide +kernel) (Or.inl ⟨g_717, rfl⟩) ?_
  intro p9 e9 s m9 args9 below9 meth9 c9 s9 B9 hml htab hv
  obtain rfl := hv
  have hx := B9.exec
  have hb := B9.bytes
  have hr := B9.returns
  have hG := atoms_spec (ws := GW) B9.pre
  have hown : s.vm.findClass "LathePiecesModel" = some m9.cls := findClass_of_methodNamed B9.named
  have hlocks := B9.notSynchronized
  have hl := lv_entry ([.long (jJ (v0)), .long (jJ (f)), .long (jJ (t))]) (n := 6) (Nat.le_of_ble_eq_true rfl)
  rw [lg_entry_eq]
  generalize (lg_sl ([.long (jJ (v0)), .long (jJ (f)), .long (jJ (t))]) ++ List.replicate (6 - (lg_sl ([.long (jJ (v0)), .long (jJ (f)), .long (jJ (t))])).length) Slot.unset).toArray = ls at hl ⊢
  replace hl : lv_has ls 6 [(0, .long (jJ (v0))), (2, .long (jJ (f))), (4, .long (jJ (t)))] := hl
  refine lv_lload_n hx hb d_M_in_0 rfl (lv_at hl 0 rfl) ?_
  refine lv_lload_n hx hb d_M_in_1 rfl (lv_at hl 1 rfl) ?_
  refine ri_lc_lt (tgt := 17) hx hb d_M_in_2 d_M_in_3 (by decide) (by omega) (by omega) (fun c2 => ?_) (fun c2 => ?_)
  · refine ri_iconst hx hb d_M_in_17 ?_
    exact re_z hx hb hr hlocks (Or.inl rfl) (fun t ht hW => ⟨by rw [if_neg (by omega)], ht⟩) (fun z hz => nomatch hz) (Nat.le_refl _) (Nat.le_refl _) d_M_in_18
  · refine lv_lload_n hx hb d_M_in_6 rfl (lv_at hl 0 rfl) ?_
    refine lv_lload hx hb d_M_in_7 (lv_at hl 2 rfl) ?_
    refine ri_lc_gt (tgt := 17) hx hb d_M_in_9 d_M_in_10 (by decide) (by omega) (by omega) (fun c9 => ?_) (fun c9 => ?_)
    · refine ri_iconst hx hb d_M_in_17 ?_
      exact re_z hx hb hr hlocks (Or.inl rfl) (fun t ht hW => ⟨by rw [if_neg (by omega)], ht⟩) (fun z hz => nomatch hz) (Nat.le_refl _) (Nat.le_refl _) d_M_in_18
    · refine ri_iconst hx hb d_M_in_13 ?_
      refine lv_goto (tgt := 18) hx hb d_M_in_14 (by decide) ?_
      exact re_z hx hb hr hlocks (Or.inr rfl) (fun t ht hW => ⟨by rw [if_pos (by omega)], ht⟩) (fun z hz => nomatch hz) (Nat.le_refl _) (Nat.le_refl _) d_M_in_18
