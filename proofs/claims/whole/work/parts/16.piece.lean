set_option maxHeartbeats 4000000 in
set_option maxRecDepth 100000 in
theorem c_P_lastPlacesFrom {l : Launch} {s0 : State} {D : va_G} {k : Nat → ClassId} (hC : Cx l s0 D k) (ap ar L : Nat) (r : Int → Int) (bl wy : Int) (hL : L ≤ 64) (hrr : ∀ j : Int, 0 ≤ j → j ≤ L → 0 ≤ r j ∧ r j ≤ 500) (t9 : Int) (ht9 : In32 t9) : RdM l s0 y_P_lastPlacesFrom { frames := 0, cells := 0, slots := 0, locals := 0 } [.ref ap, .int (iI (t9))] (fun H => va_P D classes ([(ap, .inr (1, [.ref ar, .int (iI ((L : Int))), .int (iI (bl)), .int (iI (wy))])), (ar, .inl (k 0, ai (L + 1) r))]) H) (fun v => v = some (.int (iI (hoF r t9 (L + 1))))) := by
  refine ex_ofW (cc := b_P_lastPlacesFrom) (maxL := 4) (ret := (some .int)) (hh := []) (by decide +kernel) (Or.inl ⟨g_479, rfl⟩) ?_
  intro p9 e9 s m9 args9 below9 meth9 c9 s9 B9 hml htab hv
  obtain ⟨rfl, h0, hP⟩ := hv
  have hx := B9.exec
  have hb := B9.bytes
  have hr := B9.returns
  have hG := atoms_spec (ws := GW) B9.pre
  have hown : s.vm.findClass "LathePieces$Piece" = some m9.cls := findClass_of_methodNamed B9.named
  have hlocks := B9.notSynchronized
  have hK := cx_K hC h0
  have hS : va_S (aL s0) s.heap s.heap [] := va_S.rf
  have hl := lv_entry ([.ref ap, .int (iI (t9))]) (n := 4) (Nat.le_of_ble_eq_true rfl)
  rw [lg_entry_eq]
  generalize (lg_sl ([.ref ap, .int (iI (t9))]) ++ List.replicate (4 - (lg_sl ([.ref ap, .int (iI (t9))])).length) Slot.unset).toArray = ls at hl ⊢
  replace hl : lv_has ls 4 [(0, .ref ap), (1, .int (iI (t9)))] := hl
  refine ri_iconst hx hb d_P_lastPlacesFrom_0 ?_
  refine lv_istore_n (lv' := [(2, .int (iI (0))), (0, .ref ap), (1, .int (iI (t9)))]) hx hb d_P_lastPlacesFrom_1 rfl hl (by decide) rfl (fun ls hl => ?_)
  refine lv_aload_n hx hb d_P_lastPlacesFrom_2 rfl (lv_at hl 1 rfl) ?_
  refine va_get (D := D) (ci := 1) (v := .int (iI ((L : Int)))) (C := R_P) (T := F_P) (N := 4) hx hb hG in_P hown hK hP 0 rfl rfl 1 (by decide) (hG _ g_285) (fun _ h9 => h9) rfl d_P_lastPlacesFrom_3 ?_
  refine lv_istore_n (lv' := [(3, .int (iI ((L : Int)))), (2, .int (iI (0))), (0, .ref ap), (1, .int (iI (t9)))]) hx hb d_P_lastPlacesFrom_6 rfl hl (by decide) rfl (fun ls hl => ?_)
  have e0 : ((L : Nat) : Int) = ((L + 1 : Nat) : Int) - 1 := by omega
  rw [e0] at hl
  obtain ⟨κ, q, hinv, hl1⟩ : ∃ (κ : Nat) (q : Int), (κ ≤ L + 1 ∧ q + hoF r t9 κ = hoF r t9 (L + 1) ∧ 0 ≤ q ∧ q + κ ≤ (L : Int) + 1) ∧ lv_has ls 4 [(0, .ref ap), (1, .int (iI (t9))), (2, .int (iI (q))), (3, .int (iI ((κ : Int) - 1)))] := ⟨L + 1, 0, ⟨Nat.le_refl _, by omega, by omega, by omega⟩, lv_sub hl [2, 3, 1, 0] rfl⟩
  clear hl
  have hl := hl1
  clear hl1
  induction κ generalizing q ls with
  | zero =>
    obtain ⟨h1, h2, h3, h4⟩ := hinv
    refine lv_iload_n hx hb d_P_lastPlacesFrom_7 rfl (lv_at hl 3 rfl) ?_
    refine ri_if_lt (tgt := 30) hx hb d_P_lastPlacesFrom_8 (by decide) (by omega) (fun c8 => ?_) (fun c8 => ?_)
    · refine lv_iload_n hx hb d_P_lastPlacesFrom_30 rfl (lv_at hl 2 rfl) ?_
      exact re_i hx hb hr hlocks (fun t ht hW => ⟨by rw [show q = hoF r t9 (L + 1) by rw [← h2, hoF]; omega], ht⟩) (fun z hz => nomatch hz) (Nat.le_of_ble_eq_true rfl) (Nat.le_of_ble_eq_true rfl) d_P_lastPlacesFrom_31
    · exact absurd c8 (by omega)
  | succ κ ih =>
    obtain ⟨h1, h2, h3, h4⟩ := hinv
    have h5 := hoF_rg r t9 κ
    have h6 := hrr κ (by omega) (by omega)
    rw [hoF] at h2
    rw [show ((κ + 1 : Nat) : Int) - 1 = (κ : Int) by omega] at hl
    refine lv_iload_n hx hb d_P_lastPlacesFrom_7 rfl (lv_at hl 3 rfl) ?_
    refine ri_if_lt (tgt := 30) hx hb d_P_lastPlacesFrom_8 (by decide) (by omega) (fun c8 => ?_) (fun c8 => ?_)
    · exact absurd c8 (by omega)
    · refine lv_aload_n hx hb d_P_lastPlacesFrom_11 rfl (lv_at hl 0 rfl) ?_
      refine va_get (D := D) (ci := 1) (v := .ref ar) (C := R_P) (T := F_P) (N := 4) hx hb hG in_P hown hK hP 0 rfl rfl 0 (by decide) (hG _ g_283) (fun _ h9 => h9) rfl d_P_lastPlacesFrom_12 ?_
      refine lv_iload_n hx hb d_P_lastPlacesFrom_15 rfl (lv_at hl 3 rfl) ?_
      refine ra_iald hx hb hK hP 1 rfl (by omega) (by omega) d_P_lastPlacesFrom_16 ?_
      refine lv_iload_n hx hb d_P_lastPlacesFrom_17 rfl (lv_at hl 1 rfl) ?_
      refine ri_icmp_lt (tgt := 30) hx hb d_P_lastPlacesFrom_18 (by decide) (by omega) (by omega) (fun c18 => ?_) (fun c18 => ?_)
      · rw [if_neg (by omega)] at h2
        refine lv_iload_n hx hb d_P_lastPlacesFrom_30 rfl (lv_at hl 2 rfl) ?_
        exact re_i hx hb hr hlocks (fun t ht hW => ⟨by rw [show q = hoF r t9 (L + 1) by omega], ht⟩) (fun z hz => nomatch hz) (Nat.le_of_ble_eq_true rfl) (Nat.le_of_ble_eq_true rfl) d_P_lastPlacesFrom_31
      · rw [if_pos (by omega)] at h2
        refine lv_iinc (v := iI (q + 1)) (lv' := [(2, .int (iI (q + 1))), (0, .ref ap), (1, .int (iI (t9))), (3, .int (iI ((κ : Int))))]) hx hb d_P_lastPlacesFrom_21 hl (k := 2) rfl (ii_add _ _) (by decide) rfl (fun ls hl => ?_)
        refine lv_iinc (v := iI ((κ : Int) + (-1))) (lv' := [(3, .int (iI ((κ : Int) + (-1)))), (2, .int (iI (q + 1))), (0, .ref ap), (1, .int (iI (t9)))]) hx hb d_P_lastPlacesFrom_24 hl (k := 3) rfl (ii_add _ _) (by decide) rfl (fun ls hl => ?_)
        refine lv_goto (tgt := 7) hx hb d_P_lastPlacesFrom_27 (by decide) ?_
        exact ih ls (q + 1) ⟨by omega, by omega, by omega, by omega⟩ (lv_sub hl [2, 3, 1, 0] rfl)

set_option maxHeartbeats 4000000 in
set_option maxRecDepth 100000 in
theorem c_P_heldBehind {l : Launch} {s0 : State} {D : va_G} {k : Nat → ClassId} (hC : Cx l s0 D k) (ap ar L : Nat) (r : Int → Int) (bl wy : Int) (hL : L ≤ 64) (hrr : ∀ j : Int, 0 ≤ j → j ≤ L → 0 ≤ r j ∧ r j ≤ 500) (p0 sp : Int) (hp0 : 0 ≤ p0 ∧ p0 < L) (hsp : 1 ≤ sp ∧ sp ≤ 500) : RdM l s0 y_P_heldBehind { frames := 1, cells := 0, slots := 0, locals := 21 } [.ref ap, .int (iI (p0)), .int (iI (sp))] (fun H => va_P D classes ([(ap, .inr (1, [.ref ar, .int (iI ((L : Int))), .int (iI (bl)), .int (iI (wy))])), (ar, .inl (k 0, ai (L + 1) r))]) H) (fun v => v = some (.int (iI (nhF r sp p0 (L - p0).toNat)))) := by
  refine ex_ofW (cc := b_P_heldBehind) (maxL := 6) (ret := (some .int)) (hh := []) (by decide +kernel) (Or.inl ⟨g_452, rfl⟩) ?_
  intro p9 e9 s m9 args9 below9 meth9 c9 s9 B9 hml htab hv
  obtain ⟨rfl, h0, hP⟩ := hv
  have hx := B9.exec
  have hb := B9.bytes
  have hr := B9.returns
  have hG := atoms_spec (ws := GW) B9.pre
  have hown : s.vm.findClass "LathePieces$Piece" = some m9.cls := findClass_of_methodNamed B9.named
  have hlocks := B9.notSynchronized
  have hK := cx_K hC h0
  have hS : va_S (aL s0) s.heap s.heap [] := va_S.rf
  have hl := lv_entry ([.ref ap, .int (iI (p0)), .int (iI (sp))]) (n := 6) (Nat.le_of_ble_eq_true rfl)
  rw [lg_entry_eq]
  generalize (lg_sl ([.ref ap, .int (iI (p0)), .int (iI (sp))]) ++ List.replicate (6 - (lg_sl ([.ref ap, .int (iI (p0)), .int (iI (sp))])).length) Slot.unset).toArray = ls at hl ⊢
  replace hl : lv_has ls 6 [(0, .ref ap), (1, .int (iI (p0))), (2, .int (iI (sp)))] := hl
  refine lv_iload_n hx hb d_P_heldBehind_0 rfl (lv_at hl 1 rfl) ?_
  refine ri_iconst hx hb d_P_heldBehind_1 ?_
  refine ri_iadd hx hb d_P_heldBehind_2 ?_
  refine lv_istore_n (lv' := [(3, .int (iI (p0 + 1))), (0, .ref ap), (1, .int (iI (p0))), (2, .int (iI (sp)))]) hx hb d_P_heldBehind_3 rfl hl (by decide) rfl (fun ls hl => ?_)
  refine lv_aload_n hx hb d_P_heldBehind_4 rfl (lv_at hl 1 rfl) ?_
  refine va_get (D := D) (ci := 1) (v := .ref ar) (C := R_P) (T := F_P) (N := 4) hx hb hG in_P hown hK hP 0 rfl rfl 0 (by decide) (hG _ g_283) (fun _ h9 => h9) rfl d_P_heldBehind_5 ?_
  have q0 := hrr p0 hp0.1 (by omega)
  refine lv_iload_n hx hb d_P_heldBehind_8 rfl (lv_at hl 2 rfl) ?_
  refine ra_iald hx hb hK hP 1 rfl (by omega) (by omega) d_P_heldBehind_9 ?_
  refine lv_istore (lv' := [(4, .int (iI (r (p0)))), (3, .int (iI (p0 + 1))), (0, .ref ap), (1, .int (iI (p0))), (2, .int (iI (sp)))]) hx hb d_P_heldBehind_10 hl (by decide) rfl (fun ls hl => ?_)
  refine lv_iload_n hx hb d_P_heldBehind_12 rfl (lv_at hl 3 rfl) ?_
  refine ri_iconst hx hb d_P_heldBehind_13 ?_
  refine ri_iadd hx hb d_P_heldBehind_14 ?_
  refine lv_istore (lv' := [(5, .int (iI (p0 + 1))), (4, .int (iI (r (p0)))), (3, .int (iI (p0 + 1))), (0, .ref ap), (1, .int (iI (p0))), (2, .int (iI (sp)))]) hx hb d_P_heldBehind_15 hl (by decide) rfl (fun ls hl => ?_)
  have e0 : p0 + 1 = p0 + 1 + ((0 : Nat) : Int) := by omega
  replace hl : lv_has ls 6 [(5, .int (iI (p0 + 1 + ((0 : Nat) : Int)))), (4, .int (iI (lmF r p0 0))), (3, .int (iI (nhF r sp p0 0))), (0, .ref ap), (1, .int (iI (p0))), (2, .int (iI (sp)))] := by rw [← e0]; exact hl
  obtain ⟨κ, ν, hinv, hl1⟩ : ∃ (κ : Nat) (ν : Nat), ((ν : Int) + κ = L - p0) ∧ lv_has ls 6 [(0, .ref ap), (1, .int (iI (p0))), (2, .int (iI (sp))), (3, .int (iI (nhF r sp p0 ν))), (4, .int (iI (lmF r p0 ν))), (5, .int (iI (p0 + 1 + (ν : Int))))] := ⟨(L - p0).toNat, 0, (by omega), lv_sub hl [3, 4, 5, 2, 1, 0] rfl⟩
  clear hl
  have hl := hl1
  clear hl1
  induction κ generalizing ν ls with
  | zero =>
    obtain h1 := hinv
    refine lv_iload hx hb d_P_heldBehind_17 (lv_at hl 5 rfl) ?_
    refine lv_aload_n hx hb d_P_heldBehind_19 rfl (lv_at hl 0 rfl) ?_
    refine va_get (D := D) (ci := 1) (v := .int (iI ((L : Int)))) (C := R_P) (T := F_P) (N := 4) hx hb hG in_P hown hK hP 0 rfl rfl 1 (by decide) (hG _ g_285) (fun _ h9 => h9) rfl d_P_heldBehind_20 ?_
    refine ri_icmp_gt (tgt := 63) hx hb d_P_heldBehind_23 (by decide) (by omega) (by omega) (fun c23 => ?_) (fun c23 => ?_)
    · refine lv_iload_n hx hb d_P_heldBehind_63 rfl (lv_at hl 3 rfl) ?_
      exact re_i hx hb hr hlocks (fun t ht hW => ⟨by rw [show (L - p0).toNat = ν by omega], ht⟩) (fun z hz => nomatch hz) (Nat.le_of_ble_eq_true rfl) (Nat.le_of_ble_eq_true rfl) d_P_heldBehind_64
    · exact absurd c23 (by omega)
  | succ κ ih =>
    obtain h1 := hinv
    have q1 := hrr (p0 + 1 + ν) (by omega) (by omega)
    have q2 : 0 ≤ lmF r p0 ν ∧ lmF r p0 ν ≤ 500 := itF_min ν ⟨q0.1, q0.2⟩ (fun j g1 g2 => (hrr j (by omega) (by omega)).1)
    have q3 : ((ν : Int) + 1) * sp ≤ 64 * 500 := Int.mul_le_mul (by omega) (by omega) (by omega) (by decide)
    have q4 : 0 ≤ ((ν : Int) + 1) * sp := Int.mul_nonneg (by omega) (by omega)
    have q5 : (p0 + 1 + ν - p0) * sp = ((ν : Int) + 1) * sp := by rw [show p0 + 1 + ν - p0 = (ν : Int) + 1 by omega]
    refine lv_iload hx hb d_P_heldBehind_17 (lv_at hl 5 rfl) ?_
    refine lv_aload_n hx hb d_P_heldBehind_19 rfl (lv_at hl 0 rfl) ?_
    refine va_get (D := D) (ci := 1) (v := .int (iI ((L : Int)))) (C := R_P) (T := F_P) (N := 4) hx hb hG in_P hown hK hP 0 rfl rfl 1 (by decide) (hG _ g_285) (fun _ h9 => h9) rfl d_P_heldBehind_20 ?_
    refine ri_icmp_gt (tgt := 63) hx hb d_P_heldBehind_23 (by decide) (by omega) (by omega) (fun c23 => ?_) (fun c23 => ?_)
    · exact absurd c23 (by omega)
    · refine lv_iload hx hb d_P_heldBehind_26 (lv_at hl 4 rfl) ?_
      refine lv_aload_n hx hb d_P_heldBehind_28 rfl (lv_at hl 0 rfl) ?_
      refine va_get (D := D) (ci := 1) (v := .ref ar) (C := R_P) (T := F_P) (N := 4) hx hb hG in_P hown hK hP 0 rfl rfl 0 (by decide) (hG _ g_283) (fun _ h9 => h9) rfl d_P_heldBehind_29 ?_
      refine lv_iload hx hb d_P_heldBehind_32 (lv_at hl 5 rfl) ?_
      refine ra_iald hx hb hK hP 1 rfl (by omega) (by omega) d_P_heldBehind_34 ?_
      refine rd_call (ex_runS (As := [.int (iI (lmF r p0 ν)), .int (iI (r (p0 + 1 + (ν : Int))))]) (rest := []) ⟨hx, hb, hml, hown, hG⟩ (c_J_min l (lmF r p0 ν) (r (p0 + 1 + ν)) (by omega) (by omega)) (cb_code (n := 2) hG g_251 g_9 g_453 rfl rfl (by decide +kernel) ⟨Nat.le_of_ble_eq_true rfl, Nat.le_of_ble_eq_true rfl⟩) (hG _ g_250) ⟨fun _ _ _ _ q => q, fun _ _ _ => rfl⟩ rfl rfl hl.1 rfl (lv_room (Nat.le_of_ble_eq_true rfl)) d_P_heldBehind_35 ⟨Nat.le_of_ble_eq_true rfl, Nat.le_of_ble_eq_true rfl⟩) (fun v9 h9 => ?_)
      obtain rfl := h9
      show W _ _ _ _ _ _ _ _ _ _ _ _ _ _ _ (F0 m9 38 ls [.int (iI (lmF r p0 (ν + 1)))])
      refine lv_istore (lv' := [(4, .int (iI (lmF r p0 (ν + 1)))), (0, .ref ap), (1, .int (iI (p0))), (2, .int (iI (sp))), (3, .int (iI (nhF r sp p0 ν))), (5, .int (iI (p0 + 1 + (ν : Int))))]) hx hb d_P_heldBehind_38 hl (by decide) rfl (fun ls hl => ?_)
      refine lv_iload hx hb d_P_heldBehind_40 (lv_at hl 5 rfl) ?_
      refine lv_iload_n hx hb d_P_heldBehind_42 rfl (lv_at hl 2 rfl) ?_
      refine ri_isub hx hb d_P_heldBehind_43 ?_
      refine lv_iload_n hx hb d_P_heldBehind_44 rfl (lv_at hl 3 rfl) ?_
      refine ri_imul hx hb d_P_heldBehind_45 ?_
      refine tp_i (congrArg iI (show ((p0 + 1 + (ν : Int)) - p0) * sp = ((ν : Int) + 1) * sp from q5)) ?_
      have q6 : lmF r p0 (ν + 1) = min (lmF r p0 ν) (r (p0 + 1 + ν)) := rfl
      refine lv_iload hx hb d_P_heldBehind_46 (lv_at hl 0 rfl) ?_
      refine ri_icmp_le (tgt := 54) hx hb d_P_heldBehind_48 (by decide) (by omega) (by omega) (fun c48 => ?_) (fun c48 => ?_)
      · refine lv_iload hx hb d_P_heldBehind_54 (lv_at hl 5 rfl) ?_
        refine tp_i (congrArg iI (show p0 + 1 + (ν : Int) = nhF r sp p0 (ν + 1) from by rw [nhF, if_pos c48])) ?_
        refine lv_istore_n (lv' := [(3, .int (iI (nhF r sp p0 (ν + 1)))), (4, .int (iI (lmF r p0 (ν + 1)))), (0, .ref ap), (1, .int (iI (p0))), (2, .int (iI (sp))), (5, .int (iI (p0 + 1 + (ν : Int))))]) hx hb d_P_heldBehind_56 rfl hl (by decide) rfl (fun ls hl => ?_)
        refine lv_iinc (v := iI (p0 + 1 + ((ν + 1 : Nat) : Int))) (lv' := [(5, .int (iI (p0 + 1 + ((ν + 1 : Nat) : Int)))), (3, .int (iI (nhF r sp p0 (ν + 1)))), (4, .int (iI (lmF r p0 (ν + 1)))), (0, .ref ap), (1, .int (iI (p0))), (2, .int (iI (sp)))]) hx hb d_P_heldBehind_57 hl (k := 5) rfl ((ii_add _ _).trans (congrArg iI (by omega))) (by decide) rfl (fun ls hl => ?_)
        refine lv_goto (tgt := 17) hx hb d_P_heldBehind_60 (by decide) ?_
        exact ih ls (ν + 1) (by omega) (lv_sub hl [3, 4, 5, 1, 2, 0] rfl)
      · refine lv_goto (tgt := 63) hx hb d_P_heldBehind_51 (by decide) ?_
        refine lv_iload_n hx hb d_P_heldBehind_63 rfl (lv_at hl 4 rfl) ?_
        exact re_i hx hb hr hlocks (fun t ht hW => ⟨by rw [show (L - p0).toNat = ν + 1 + κ by omega, (nhF_no (by omega) c48 κ).1], ht⟩) (fun z hz => nomatch hz) (Nat.le_of_ble_eq_true rfl) (Nat.le_of_ble_eq_true rfl) d_P_heldBehind_64

/-- the lesser or the greater of two neighbours, squared -/
def sqF (r : Int → Int) (up j : Int) : Int := if up = 0 then min (r (j - 1)) (r j) * min (r (j - 1)) (r j) else max (r (j - 1)) (r j) * max (r (j - 1)) (r j)
set_option maxHeartbeats 4000000 in
set_option maxRecDepth 100000 in
theorem c_P_sumOfSquares {l : Launch} {s0 : State} {D : va_G} {k : Nat → ClassId} (hC : Cx l s0 D k) (ap ar L : Nat) (r : Int → Int) (bl wy : Int) (hL : L ≤ 64) (hrr : ∀ j : Int, 0 ≤ j → j ≤ L → 0 ≤ r j ∧ r j ≤ 500) (up : Int) (hup : In32 up) : RdM l s0 y_P_sumOfSquares { frames := 1, cells := 0, slots := 0, locals := 21 } [.ref ap, .int (iI (up))] (fun H => va_P D classes ([(ap, .inr (1, [.ref ar, .int (iI ((L : Int))), .int (iI (bl)), .int (iI (wy))])), (ar, .inl (k 0, ai (L + 1) r))]) H) (fun v => v = some (.long (jJ (itF (fun a b => a + b) (sqF r up) 0 1 L)))) := by
  refine ex_ofW (cc := b_P_sumOfSquares) (maxL := 7) (ret := (some .long)) (hh := []) (by decide +kernel) (Or.inl ⟨g_465, rfl⟩) ?_
  intro p9 e9 s m9 args9 below9 meth9 c9 s9 B9 hml htab hv
  obtain ⟨rfl, h0, hP⟩ := hv
  have hx := B9.exec
  have hb := B9.bytes
  have hr := B9.returns
  have hG := atoms_spec (ws := GW) B9.pre
  have hown : s.vm.findClass "LathePieces$Piece" = some m9.cls := findClass_of_methodNamed B9.named
  have hlocks := B9.notSynchronized
  have hK := cx_K hC h0
  have hS : va_S (aL s0) s.heap s.heap [] := va_S.rf
  have hl := lv_entry ([.ref ap, .int (iI (up))]) (n := 7) (Nat.le_of_ble_eq_true rfl)
  rw [lg_entry_eq]
  generalize (lg_sl ([.ref ap, .int (iI (up))]) ++ List.replicate (7 - (lg_sl ([.ref ap, .int (iI (up))])).length) Slot.unset).toArray = ls at hl ⊢
  replace hl : lv_has ls 7 [(0, .ref ap), (1, .int (iI (up)))] := hl
  refine ri_lconst (z := 0) hx hb d_P_sumOfSquares_0 rfl ?_
  refine lv_lstore_n (lv' := [(2, .long (jJ (0))), (0, .ref ap), (1, .int (iI (up)))]) hx hb d_P_sumOfSquares_1 rfl hl (by decide) rfl (fun ls hl => ?_)
  refine ri_iconst hx hb d_P_sumOfSquares_2 ?_
  refine lv_istore (lv' := [(4, .int (iI (1))), (2, .long (jJ (0))), (0, .ref ap), (1, .int (iI (up)))]) hx hb d_P_sumOfSquares_3 hl (by decide) rfl (fun ls hl => ?_)
  replace hl : lv_has ls 7 [(4, .int (iI (1 + ((0 : Nat) : Int)))), (2, .long (jJ (itF (fun a b => a + b) (sqF r up) 0 1 0))), (0, .ref ap), (1, .int (iI (up)))] := hl
  obtain ⟨κ, ν, hinv, hl1⟩ : ∃ (κ : Nat) (ν : Nat), ((ν : Int) + κ = L) ∧ lv_has ls 7 [(0, .ref ap), (1, .int (iI (up))), (2, .long (jJ (itF (fun a b => a + b) (sqF r up) 0 1 ν))), (4, .int (iI (1 + (ν : Int))))] := ⟨L, 0, (by omega), lv_sub hl [2, 3, 1, 0] rfl⟩
  clear hl
  have hl := hl1
  clear hl1
  induction κ generalizing ν ls with
  | zero =>
    obtain h1 := hinv
    refine lv_iload hx hb d_P_sumOfSquares_5 (lv_at hl 3 rfl) ?_
    refine lv_aload_n hx hb d_P_sumOfSquares_7 rfl (lv_at hl 0 rfl) ?_
    refine va_get (D := D) (ci := 1) (v := .int (iI ((L : Int)))) (C := R_P) (T := F_P) (N := 4) hx hb hG in_P hown hK hP 0 rfl rfl 1 (by decide) (hG _ g_285) (fun _ h9 => h9) rfl d_P_sumOfSquares_8 ?_
    refine ri_icmp_gt (tgt := 77) hx hb d_P_sumOfSquares_11 (by decide) (by omega) (by omega) (fun c11 => ?_) (fun c11 => ?_)
    · refine lv_lload_n hx hb d_P_sumOfSquares_77 rfl (lv_at hl 2 rfl) ?_
      exact re_l hx hb hr hlocks (fun t ht hW => ⟨by rw [show L = ν by omega], ht⟩) (fun z hz => nomatch hz) (Nat.le_of_ble_eq_true rfl) (Nat.le_of_ble_eq_true rfl) d_P_sumOfSquares_78
    · exact absurd c11 (by omega)
  | succ κ ih =>
    obtain h1 := hinv
    have q1 := hrr ν (by omega) (by omega)
    have q2 := hrr (1 + ν) (by omega) (by omega)
    refine lv_iload hx hb d_P_sumOfSquares_5 (lv_at hl 3 rfl) ?_
    refine lv_aload_n hx hb d_P_sumOfSquares_7 rfl (lv_at hl 0 rfl) ?_
    refine va_get (D := D) (ci := 1) (v := .int (iI ((L : Int)))) (C := R_P) (T := F_P) (N := 4) hx hb hG in_P hown hK hP 0 rfl rfl 1 (by decide) (hG _ g_285) (fun _ h9 => h9) rfl d_P_sumOfSquares_8 ?_
    refine ri_icmp_gt (tgt := 77) hx hb d_P_sumOfSquares_11 (by decide) (by omega) (by omega) (fun c11 => ?_) (fun c11 => ?_)
    · exact absurd c11 (by omega)
    · refine lv_iload_n hx hb d_P_sumOfSquares_14 rfl (lv_at hl 1 rfl) ?_
      refine ri_if_eq (tgt := 41) hx hb d_P_sumOfSquares_15 (by decide) (by omega) (fun c15 => ?_) (fun c15 => ?_)
      · refine lv_aload_n hx hb d_P_sumOfSquares_41 rfl (lv_at hl 0 rfl) ?_
        refine va_get (D := D) (ci := 1) (v := .ref ar) (C := R_P) (T := F_P) (N := 4) hx hb hG in_P hown hK hP 0 rfl rfl 0 (by decide) (hG _ g_283) (fun _ h9 => h9) rfl d_P_sumOfSquares_42 ?_
        refine lv_iload hx hb d_P_sumOfSquares_45 (lv_at hl 3 rfl) ?_
        refine ri_iconst hx hb d_P_sumOfSquares_47 ?_
        refine ri_isub hx hb d_P_sumOfSquares_48 ?_
        refine tp_i (congrArg iI (show (1 + (ν : Int)) - 1 = (ν : Int) from by omega)) ?_
        refine ra_iald hx hb hK hP 1 rfl (by omega) (by omega) d_P_sumOfSquares_49 ?_
        refine lv_aload_n hx hb d_P_sumOfSquares_50 rfl (lv_at hl 0 rfl) ?_
        refine va_get (D := D) (ci := 1) (v := .ref ar) (C := R_P) (T := F_P) (N := 4) hx hb hG in_P hown hK hP 0 rfl rfl 0 (by decide) (hG _ g_283) (fun _ h9 => h9) rfl d_P_sumOfSquares_51 ?_
        refine lv_iload hx hb d_P_sumOfSquares_54 (lv_at hl 3 rfl) ?_
        refine ra_iald hx hb hK hP 1 rfl (by omega) (by omega) d_P_sumOfSquares_56 ?_
        refine rd_call (ex_runS (As := [.int (iI (r ((ν : Int)))), .int (iI (r (1 + (ν : Int))))]) (rest := []) ⟨hx, hb, hml, hown, hG⟩ (c_J_min l (r ν) (r (1 + ν)) (by omega) (by omega)) (cb_code (n := 2) hG g_251 g_9 g_453 rfl rfl (by decide +kernel) ⟨Nat.le_of_ble_eq_true rfl, Nat.le_of_ble_eq_true rfl⟩) (hG _ g_250) ⟨fun _ _ _ _ q => q, fun _ _ _ => rfl⟩ rfl rfl hl.1 rfl (lv_room (Nat.le_of_ble_eq_true rfl)) d_P_sumOfSquares_57 ⟨Nat.le_of_ble_eq_true rfl, Nat.le_of_ble_eq_true rfl⟩) (fun v9 h9 => ?_)
        obtain rfl := h9
        show W _ _ _ _ _ _ _ _ _ _ _ _ _ _ _ (F0 m9 60 ls [.int (iI (min (r ν) (r (1 + ν))))])
        refine ri_i2l hx hb d_P_sumOfSquares_60 (by omega) ?_
        refine lv_lstore (lv' := [(5, .long (jJ (min (r ν) (r (1 + ν))))), (0, .ref ap), (1, .int (iI (up))), (2, .long (jJ (itF (fun a b => a + b) (sqF r up) 0 1 ν))), (4, .int (iI (1 + (ν : Int))))]) hx hb d_P_sumOfSquares_61 hl (by decide) rfl (fun ls hl => ?_)
        refine lv_lload_n hx hb d_P_sumOfSquares_63 rfl (lv_at hl 3 rfl) ?_
        refine lv_lload hx hb d_P_sumOfSquares_64 (lv_at hl 0 rfl) ?_
        refine lv_lload hx hb d_P_sumOfSquares_66 (lv_at hl 0 rfl) ?_
        refine ri_lmul hx hb d_P_sumOfSquares_68 ?_
        refine ri_ladd hx hb d_P_sumOfSquares_69 ?_
        refine tp_l (congrArg jJ (show (itF (fun a b => a + b) (sqF r up) 0 1 ν) + ((min (r ν) (r (1 + ν))) * (min (r ν) (r (1 + ν)))) = itF (fun a b => a + b) (sqF r up) 0 1 (ν + 1) from by rw [itF_s, sqF, if_pos c15, show (1 : Int) + ν - 1 = ν by omega])) ?_
        refine lv_lstore_n (lv' := [(2, .long (jJ (itF (fun a b => a + b) (sqF r up) 0 1 (ν + 1)))), (5, .long (jJ (min (r ν) (r (1 + ν))))), (0, .ref ap), (1, .int (iI (up))), (4, .int (iI (1 + (ν : Int))))]) hx hb d_P_sumOfSquares_70 rfl hl (by decide) rfl (fun ls hl => ?_)
        refine lv_iinc (v := iI (1 + ((ν + 1 : Nat) : Int))) (lv' := [(4, .int (iI (1 + ((ν + 1 : Nat) : Int)))), (2, .long (jJ (itF (fun a b => a + b) (sqF r up) 0 1 (ν + 1)))), (5, .long (jJ (min (r ν) (r (1 + ν))))), (0, .ref ap), (1, .int (iI (up)))]) hx hb d_P_sumOfSquares_71 hl (k := 4) rfl ((ii_add _ _).trans (congrArg iI (by omega))) (by decide) rfl (fun ls hl => ?_)
        refine lv_goto (tgt := 5) hx hb d_P_sumOfSquares_74 (by decide) ?_
        exact ih ls (ν + 1) (by omega) (lv_sub hl [3, 4, 1, 0] rfl)
      · refine lv_aload_n hx hb d_P_sumOfSquares_18 rfl (lv_at hl 0 rfl) ?_
        refine va_get (D := D) (ci := 1) (v := .ref ar) (C := R_P) (T := F_P) (N := 4) hx hb hG in_P hown hK hP 0 rfl rfl 0 (by decide) (hG _ g_283) (fun _ h9 => h9) rfl d_P_sumOfSquares_19 ?_
        refine lv_iload hx hb d_P_sumOfSquares_22 (lv_at hl 3 rfl) ?_
        refine ri_iconst hx hb d_P_sumOfSquares_24 ?_
        refine ri_isub hx hb d_P_sumOfSquares_25 ?_
        refine tp_i (congrArg iI (show (1 + (ν : Int)) - 1 = (ν : Int) from by omega)) ?_
        refine ra_iald hx hb hK hP 1 rfl (by omega) (by omega) d_P_sumOfSquares_26 ?_
        refine lv_aload_n hx hb d_P_sumOfSquares_27 rfl (lv_at hl 0 rfl) ?_
        refine va_get (D := D) (ci := 1) (v := .ref ar) (C := R_P) (T := F_P) (N := 4) hx hb hG in_P hown hK hP 0 rfl rfl 0 (by decide) (hG _ g_283) (fun _ h9 => h9) rfl d_P_sumOfSquares_28 ?_
        refine lv_iload hx hb d_P_sumOfSquares_31 (lv_at hl 3 rfl) ?_
        refine ra_iald hx hb hK hP 1 rfl (by omega) (by omega) d_P_sumOfSquares_33 ?_
        refine rd_call (ex_runS (As := [.int (iI (r ((ν : Int)))), .int (iI (r (1 + (ν : Int))))]) (rest := []) ⟨hx, hb, hml, hown, hG⟩ (c_J_max l (r ν) (r (1 + ν)) (by omega) (by omega)) (cb_code (n := 2) hG g_254 g_9 g_282 rfl rfl (by decide +kernel) ⟨Nat.le_of_ble_eq_true rfl, Nat.le_of_ble_eq_true rfl⟩) (hG _ g_253) ⟨fun _ _ _ _ q => q, fun _ _ _ => rfl⟩ rfl rfl hl.1 rfl (lv_room (Nat.le_of_ble_eq_true rfl)) d_P_sumOfSquares_34 ⟨Nat.le_of_ble_eq_true rfl, Nat.le_of_ble_eq_true rfl⟩) (fun v9 h9 => ?_)
        obtain rfl := h9
        show W _ _ _ _ _ _ _ _ _ _ _ _ _ _ _ (F0 m9 37 ls [.int (iI (max (r ν) (r (1 + ν))))])
        refine ri_i2l hx hb d_P_sumOfSquares_37 (by omega) ?_
        refine lv_goto (tgt := 61) hx hb d_P_sumOfSquares_38 (by decide) ?_
        refine lv_lstore (lv' := [(5, .long (jJ (max (r ν) (r (1 + ν))))), (0, .ref ap), (1, .int (iI (up))), (2, .long (jJ (itF (fun a b => a + b) (sqF r up) 0 1 ν))), (4, .int (iI (1 + (ν : Int))))]) hx hb d_P_sumOfSquares_61 hl (by decide) rfl (fun ls hl => ?_)
        refine lv_lload_n hx hb d_P_sumOfSquares_63 rfl (lv_at hl 3 rfl) ?_
        refine lv_lload hx hb d_P_sumOfSquares_64 (lv_at hl 0 rfl) ?_
        refine lv_lload hx hb d_P_sumOfSquares_66 (lv_at hl 0 rfl) ?_
        refine ri_lmul hx hb d_P_sumOfSquares_68 ?_
        refine ri_ladd hx hb d_P_sumOfSquares_69 ?_
        refine tp_l (congrArg jJ (show (itF (fun a b => a + b) (sqF r up) 0 1 ν) + ((max (r ν) (r (1 + ν))) * (max (r ν) (r (1 + ν)))) = itF (fun a b => a + b) (sqF r up) 0 1 (ν + 1) from by rw [itF_s, sqF, if_neg c15, show (1 : Int) + ν - 1 = ν by omega])) ?_
        refine lv_lstore_n (lv' := [(2, .long (jJ (itF (fun a b => a + b) (sqF r up) 0 1 (ν + 1)))), (5, .long (jJ (max (r ν) (r (1 + ν))))), (0, .ref ap), (1, .int (iI (up))), (4, .int (iI (1 + (ν : Int))))]) hx hb d_P_sumOfSquares_70 rfl hl (by decide) rfl (fun ls hl => ?_)
        refine lv_iinc (v := iI (1 + ((ν + 1 : Nat) : Int))) (lv' := [(4, .int (iI (1 + ((ν + 1 : Nat) : Int)))), (2, .long (jJ (itF (fun a b => a + b) (sqF r up) 0 1 (ν + 1)))), (5, .long (jJ (max (r ν) (r (1 + ν))))), (0, .ref ap), (1, .int (iI (up)))]) hx hb d_P_sumOfSquares_71 hl (k := 4) rfl ((ii_add _ _).trans (congrArg iI (by omega))) (by decide) rfl (fun ls hl => ?_)
        refine lv_goto (tgt := 5) hx hb d_P_sumOfSquares_74 (by decide) ?_
        exact ih ls (ν + 1) (by omega) (lv_sub hl [3, 4, 1, 0] rfl)

set_option maxHeartbeats 4000000 in
set_option maxRecDepth 100000 in
theorem c_P_greatestDifference {l : Launch} {s0 : State} {D : va_G} {k : Nat → ClassId} (hC : Cx l s0 D k) (ap ar L : Nat) (r : Int → Int) (bl wy : Int) (hL : L ≤ 64) (hrr : ∀ j : Int, 0 ≤ j → j ≤ L → 0 ≤ r j ∧ r j ≤ 500) (ap2 ar2 L2 : Nat) (r2 : Int → Int) (bl2 wy2 : Int) (hL2 : L2 ≤ 64) (hrr2 : ∀ j : Int, 0 ≤ j → j ≤ L2 → 0 ≤ r2 j ∧ r2 j ≤ 500) : RdM l s0 y_P_greatestDifference { frames := 1, cells := 0, slots := 0, locals := 21 } [.ref ap, .ref ap2] (fun H => va_P D classes ([(ap, .inr (1, [.ref ar, .int (iI ((L : Int))), .int (iI (bl)), .int (iI (wy))])), (ar, .inl (k 0, ai (L + 1) r)), (ap2, .inr (1, [.ref ar2, .int (iI ((L2 : Int))), .int (iI (bl2)), .int (iI (wy2))])), (ar2, .inl (k 0, ai (L2 + 1) r2))]) H) (fun v => v = some (.int (iI (itF max (fun j => ((r j - r2 j).natAbs : Int)) 0 0 (min L L2 + 1))))) := by
  refine ex_ofW (cc := b_P_greatestDifference) (maxL := 4) (ret := (some .int)) (hh := []) (by decide +kernel) (Or.inl ⟨g_490, rfl⟩) ?_
  intro p9 e9 s m9 args9 below9 meth9 c9 s9 B9 hml htab hv
  obtain ⟨rfl, h0, hP⟩ := hv
  have hx := B9.exec
  have hb := B9.bytes
  have hr := B9.returns
  have hG := atoms_spec (ws := GW) B9.pre
  have hown : s.vm.findClass "LathePieces$Piece" = some m9.cls := findClass_of_methodNamed B9.named
  have hlocks := B9.notSynchronized
  have hK := cx_K hC h0
  have hS : va_S (aL s0) s.heap s.heap [] := va_S.rf
  have hl := lv_entry ([.ref ap, .ref ap2]) (n := 4) (Nat.le_of_ble_eq_true rfl)
  rw [lg_entry_eq]
  generalize (lg_sl ([.ref ap, .ref ap2]) ++ List.replicate (4 - (lg_sl ([.ref ap, .ref ap2])).length) Slot.unset).toArray = ls at hl ⊢
  replace hl : lv_has ls 4 [(0, .ref ap), (1, .ref ap2)] := hl
  refine ri_iconst hx hb d_P_greatestDifference_0 ?_
  refine lv_istore_n (lv' := [(2, .int (iI (0))), (0, .ref ap), (1, .ref ap2)]) hx hb d_P_greatestDifference_1 rfl hl (by decide) rfl (fun ls hl => ?_)
  refine ri_iconst hx hb d_P_greatestDifference_2 ?_
  refine lv_istore_n (lv' := [(3, .int (iI (0))), (2, .int (iI (0))), (0, .ref ap), (1, .ref ap2)]) hx hb d_P_greatestDifference_3 rfl hl (by decide) rfl (fun ls hl => ?_)
  replace hl : lv_has ls 4 [(3, .int (iI (0 + ((0 : Nat) : Int)))), (2, .int (iI (itF max (fun j => ((r j - r2 j).natAbs : Int)) 0 0 0))), (0, .ref ap), (1, .ref ap2)] := hl
  obtain ⟨κ, ν, hinv, hl1⟩ : ∃ (κ : Nat) (ν : Nat), ((ν : Int) + κ = ((min L L2 : Nat) : Int) + 1) ∧ lv_has ls 4 [(0, .ref ap), (1, .ref ap2), (2, .int (iI (itF max (fun j => ((r j - r2 j).natAbs : Int)) 0 0 ν))), (3, .int (iI (0 + (ν : Int))))] := ⟨min L L2 + 1, 0, (by omega), lv_sub hl [2, 3, 1, 0] rfl⟩
  clear hl
  have hl := hl1
  clear hl1
  induction κ generalizing ν ls with
  | zero =>
    obtain h1 := hinv
    refine lv_iload_n hx hb d_P_greatestDifference_4 rfl (lv_at hl 3 rfl) ?_
    refine lv_aload_n hx hb d_P_greatestDifference_5 rfl (lv_at hl 0 rfl) ?_
    refine va_get (D := D) (ci := 1) (v := .int (iI ((L : Int)))) (C := R_P) (T := F_P) (N := 4) hx hb hG in_P hown hK hP 0 rfl rfl 1 (by decide) (hG _ g_285) (fun _ h9 => h9) rfl d_P_greatestDifference_6 ?_
    refine ri_icmp_gt (tgt := 47) hx hb d_P_greatestDifference_9 (by decide) (by omega) (by omega) (fun c9 => ?_) (fun c9 => ?_)
    · refine lv_iload_n hx hb d_P_greatestDifference_47 rfl (lv_at hl 2 rfl) ?_
      exact re_i hx hb hr hlocks (fun t ht hW => ⟨by rw [show min L L2 + 1 = ν by omega], ht⟩) (fun z hz => nomatch hz) (Nat.le_of_ble_eq_true rfl) (Nat.le_of_ble_eq_true rfl) d_P_greatestDifference_48
    · refine lv_iload_n hx hb d_P_greatestDifference_12 rfl (lv_at hl 3 rfl) ?_
      refine lv_aload_n hx hb d_P_greatestDifference_13 rfl (lv_at hl 1 rfl) ?_
      refine va_get (D := D) (ci := 1) (v := .int (iI ((L2 : Int)))) (C := R_P) (T := F_P) (N := 4) hx hb hG in_P hown hK hP 2 rfl rfl 1 (by decide) (hG _ g_285) (fun _ h9 => h9) rfl d_P_greatestDifference_14 ?_
      refine ri_icmp_gt (tgt := 47) hx hb d_P_greatestDifference_17 (by decide) (by omega) (by omega) (fun c17 => ?_) (fun c17 => ?_)
      · refine lv_iload_n hx hb d_P_greatestDifference_47 rfl (lv_at hl 2 rfl) ?_
        exact re_i hx hb hr hlocks (fun t ht hW => ⟨by rw [show min L L2 + 1 = ν by omega], ht⟩) (fun z hz => nomatch hz) (Nat.le_of_ble_eq_true rfl) (Nat.le_of_ble_eq_true rfl) d_P_greatestDifference_48
      · exact absurd c17 (by omega)
  | succ κ ih =>
    obtain h1 := hinv
    refine lv_iload_n hx hb d_P_greatestDifference_4 rfl (lv_at hl 3 rfl) ?_
    refine lv_aload_n hx hb d_P_greatestDifference_5 rfl (lv_at hl 0 rfl) ?_
    refine va_get (D := D) (ci := 1) (v := .int (iI ((L : Int)))) (C := R_P) (T := F_P) (N := 4) hx hb hG in_P hown hK hP 0 rfl rfl 1 (by decide) (hG _ g_285) (fun _ h9 => h9) rfl d_P_greatestDifference_6 ?_
    refine ri_icmp_gt (tgt := 47) hx hb d_P_greatestDifference_9 (by decide) (by omega) (by omega) (fun c9 => ?_) (fun c9 => ?_)
    · exact absurd c9 (by omega)
    · refine lv_iload_n hx hb d_P_greatestDifference_12 rfl (lv_at hl 3 rfl) ?_
      refine lv_aload_n hx hb d_P_greatestDifference_13 rfl (lv_at hl 1 rfl) ?_
      refine va_get (D := D) (ci := 1) (v := .int (iI ((L2 : Int)))) (C := R_P) (T := F_P) (N := 4) hx hb hG in_P hown hK hP 2 rfl rfl 1 (by decide) (hG _ g_285) (fun _ h9 => h9) rfl d_P_greatestDifference_14 ?_
      refine ri_icmp_gt (tgt := 47) hx hb d_P_greatestDifference_17 (by decide) (by omega) (by omega) (fun c17 => ?_) (fun c17 => ?_)
      · exact absurd c17 (by omega)
      · have q1 := hrr (0 + ν) (by omega) (by omega)
        have q2 := hrr2 (0 + ν) (by omega) (by omega)
        have q3 : 0 ≤ itF max (fun j => ((r j - r2 j).natAbs : Int)) 0 0 ν ∧ itF max (fun j => ((r j - r2 j).natAbs : Int)) 0 0 ν ≤ 500 := itF_max ν (by omega) (fun j g1 g2 => by have := hrr j (by omega) (by omega); have := hrr2 j (by omega) (by omega); omega)
        refine lv_iload_n hx hb d_P_greatestDifference_20 rfl (lv_at hl 2 rfl) ?_
        refine lv_aload_n hx hb d_P_greatestDifference_21 rfl (lv_at hl 0 rfl) ?_
        refine va_get (D := D) (ci := 1) (v := .ref ar) (C := R_P) (T := F_P) (N := 4) hx hb hG in_P hown hK hP 0 rfl rfl 0 (by decide) (hG _ g_283) (fun _ h9 => h9) rfl d_P_greatestDifference_22 ?_
        refine lv_iload_n hx hb d_P_greatestDifference_25 rfl (lv_at hl 3 rfl) ?_
        refine ra_iald hx hb hK hP 1 rfl (by omega) (by omega) d_P_greatestDifference_26 ?_
        refine lv_aload_n hx hb d_P_greatestDifference_27 rfl (lv_at hl 1 rfl) ?_
        refine va_get (D := D) (ci := 1) (v := .ref ar2) (C := R_P) (T := F_P) (N := 4) hx hb hG in_P hown hK hP 2 rfl rfl 0 (by decide) (hG _ g_283) (fun _ h9 => h9) rfl d_P_greatestDifference_28 ?_
        refine lv_iload_n hx hb d_P_greatestDifference_31 rfl (lv_at hl 3 rfl) ?_
        refine ra_iald hx hb hK hP 3 rfl (by omega) (by omega) d_P_greatestDifference_32 ?_
        refine ri_isub hx hb d_P_greatestDifference_33 ?_
        refine rd_call (ex_runS (As := [.int (iI ((r (0 + (ν : Int))) - (r2 (0 + (ν : Int)))))]) (rest := [.int (iI (itF max (fun j => ((r j - r2 j).natAbs : Int)) 0 0 ν))]) ⟨hx, hb, hml, hown, hG⟩ (c_J_abs l (r (0 + ν) - r2 (0 + ν)) (by omega)) (cb_code (n := 1) hG g_388 g_9 g_491 rfl rfl (by decide +kernel) ⟨Nat.le_of_ble_eq_true rfl, Nat.le_of_ble_eq_true rfl⟩) (hG _ g_387) ⟨fun _ _ _ _ q => q, fun _ _ _ => rfl⟩ rfl rfl hl.1 rfl (lv_room (Nat.le_of_ble_eq_true rfl)) d_P_greatestDifference_34 ⟨Nat.le_of_ble_eq_true rfl, Nat.le_of_ble_eq_true rfl⟩) (fun v9 h9 => ?_)
        obtain rfl := h9
        show W _ _ _ _ _ _ _ _ _ _ _ _ _ _ _ (F0 m9 37 ls [.int (iI (((r (0 + ν) - r2 (0 + ν)).natAbs : Int))), .int (iI (itF max (fun j => ((r j - r2 j).natAbs : Int)) 0 0 ν))])
        refine rd_call (ex_runS (As := [.int (iI (itF max (fun j => ((r j - r2 j).natAbs : Int)) 0 0 ν)), .int (iI (((r (0 + ν) - r2 (0 + ν)).natAbs : Int)))]) (rest := []) ⟨hx, hb, hml, hown, hG⟩ (c_J_max l (itF max (fun j => ((r j - r2 j).natAbs : Int)) 0 0 ν) ((r (0 + ν) - r2 (0 + ν)).natAbs : Int) (by omega) (by omega)) (cb_code (n := 2) hG g_254 g_9 g_282 rfl rfl (by decide +kernel) ⟨Nat.le_of_ble_eq_true rfl, Nat.le_of_ble_eq_true rfl⟩) (hG _ g_253) ⟨fun _ _ _ _ q => q, fun _ _ _ => rfl⟩ rfl rfl hl.1 rfl (lv_room (Nat.le_of_ble_eq_true rfl)) d_P_greatestDifference_37 ⟨Nat.le_of_ble_eq_true rfl, Nat.le_of_ble_eq_true rfl⟩) (fun v9 h9 => ?_)
        obtain rfl := h9
        show W _ _ _ _ _ _ _ _ _ _ _ _ _ _ _ (F0 m9 40 ls [.int (iI (itF max (fun j => ((r j - r2 j).natAbs : Int)) 0 0 (ν + 1)))])
        refine lv_istore_n (lv' := [(2, .int (iI (itF max (fun j => ((r j - r2 j).natAbs : Int)) 0 0 (ν + 1)))), (0, .ref ap), (1, .ref ap2), (3, .int (iI (0 + (ν : Int))))]) hx hb d_P_greatestDifference_40 rfl hl (by decide) rfl (fun ls hl => ?_)
        refine lv_iinc (v := iI (0 + ((ν + 1 : Nat) : Int))) (lv' := [(3, .int (iI (0 + ((ν + 1 : Nat) : Int)))), (2, .int (iI (itF max (fun j => ((r j - r2 j).natAbs : Int)) 0 0 (ν + 1)))), (0, .ref ap), (1, .ref ap2)]) hx hb d_P_greatestDifference_41 hl (k := 3) rfl ((ii_add _ _).trans (congrArg iI (by omega))) (by decide) rfl (fun ls hl => ?_)
        refine lv_goto (tgt := 4) hx hb d_P_greatestDifference_44 (by decide) ?_
        exact ih ls (ν + 1) (by omega) (lv_sub hl [2, 3, 1, 0] rfl)

set_option maxHeartbeats 4000000 in
set_option maxRecDepth 100000 in
theorem c_G_gapParts {l : Launch} {s0 : State} {D : va_G} {k : Nat → ClassId} (hC : Cx l s0 D k) (ag ga gb : Nat) (cn sm : Int) : RdM l s0 y_G_gapParts { frames := 0, cells := 0, slots := 0, locals := 0 } [.ref ag] (fun H => va_P D classes ([(ag, .inr (4, [.ref ga, .ref gb, .int (iI (cn)), .long (jJ (sm))]))]) H) (fun v => v = some (.long (jJ (9979200 - sm)))) := by
  refine ex_ofW (cc := b_G_gapParts) (maxL := 1) (ret := (some .long)) (hh := []) (by decide +kernel) (Or.inl ⟨g_570, rfl⟩) ?_
  intro p9 e9 s m9 args9 below9 meth9 c9 s9 B9 hml htab hv
  obtain ⟨rfl, h0, hP⟩ := hv
  have hx := B9.exec
  have hb := B9.bytes
  have hr := B9.returns
  have hG := atoms_spec (ws := GW) B9.pre
  have hown : s.vm.findClass "LathePieces$Ring" = some m9.cls := findClass_of_methodNamed B9.named
  have hlocks := B9.notSynchronized
  have hK := cx_K hC h0
  have hS : va_S (aL s0) s.heap s.heap [] := va_S.rf
  have hl := lv_entry ([.ref ag]) (n := 1) (Nat.le_of_ble_eq_true rfl)
  rw [lg_entry_eq]
  generalize (lg_sl ([.ref ag]) ++ List.replicate (1 - (lg_sl ([.ref ag])).length) Slot.unset).toArray = ls at hl ⊢
  replace hl : lv_has ls 1 [(0, .ref ag)] := hl
  refine lv_ldc2 (v := jJ 9979200) hx hb hown (hG _ g_571) d_G_gapParts_0 ?_
  refine lv_aload_n hx hb d_G_gapParts_3 rfl (lv_at hl 0 rfl) ?_
  refine va_get (D := D) (ci := 4) (v := .long (jJ (sm))) (C := R_G) (T := F_G) (N := 4) hx hb hG in_G hown hK hP 0 rfl rfl 3 (by decide) (hG _ g_511) (fun _ h9 => h9) rfl d_G_gapParts_4 ?_
  refine ri_lsub hx hb d_G_gapParts_7 ?_
  exact re_l hx hb hr hlocks (fun t ht hW => ⟨rfl, ht⟩) (fun z hz => nomatch hz) (Nat.le_of_ble_eq_true rfl) (Nat.le_of_ble_eq_true rfl) d_G_gapParts_8

