set_option maxHeartbeats 4000000 in
set_option maxRecDepth 100000 in
theorem c_M_steady {l : Launch} {s0 : State} {D : va_G} {k : Nat → ClassId} (hC : Cx l s0 D k) (am a4 a5 a6 a7 a8 a10 a11 a12 a14 a15 a16 a18 a19 a20 a24 a25 : Nat) (y0 y1 y2 y3 y9 y13 y17 y21 y22 y23 : Int) (f4 f5 f6 f7 f8 f10 f11 f12 f14 f15 f16 f18 f19 f20 f24 f25 : Int → Int) (wr : va_W) (hy9 : 0 ≤ y9 ∧ y9 ≤ 6) (hf10 : ∀ i : Int, 0 ≤ i → i < y9 → 0 ≤ f10 i ∧ f10 i ≤ 64) (hf12 : ∀ i : Int, 0 ≤ i → i < y9 → ∀ j : Int, 0 ≤ j → j ≤ f10 i → 0 ≤ f12 (65 * i + j) ∧ f12 (65 * i + j) ≤ 500) (hL1 : ∀ i : Int, 0 ≤ i → i < y9 → 1 ≤ f10 i) (p sp kk : Int) (hp : In32 p) (hsp : In32 sp) (hkk : In32 kk) : WdM l s0 D y_M_steady { frames := 2, cells := 0, slots := 0, locals := 46 } [.ref am, .int (iI (p)), .int (iI (sp)), .int (iI (kk))] ((am, .inr (6, [.int (iI (y0)), .int (iI (y1)), .int (iI (y2)), .int (iI (y3)), .ref a4, .ref a5, .ref a6, .ref a7, .ref a8, .int (iI (y9)), .ref a10, .ref a11, .ref a12, .int (iI (y13)), .ref a14, .ref a15, .ref a16, .int (iI (y17)), .ref a18, .ref a19, .ref a20, .int (iI (y21)), .int (iI (y22)), .int (iI (y23)), .ref a24, .ref a25])) :: (a4, .inl (k 0, ai 64 f4)) :: (a5, .inl (k 0, ai 64 f5)) :: (a6, .inl (k 0, ai 64 f6)) :: (a7, .inl (k 0, ai 64 f7)) :: (a8, .inl (k 0, ai 64 f8)) :: (a10, .inl (k 0, ai 6 f10)) :: (a11, .inl (k 0, ai 6 f11)) :: (a12, .inl (k 0, ai 390 f12)) :: (a14, .inl (k 0, ai 6 f14)) :: (a15, .inl (k 0, ai 65 f15)) :: (a16, .inl (k 0, ai 65 f16)) :: (a18, .inl (k 0, ai 6 f18)) :: (a19, .inl (k 0, ai 96 f19)) :: (a20, .inl (k 0, ai 96 f20)) :: (a24, .inl (k 0, ai 8 f24)) :: (a25, .inl (k 0, ai 8 f25)) :: wr) (fun v ws' => (¬ (0 ≤ p ∧ p < y9) → v = some (.int (iI (0))) ∧ ws' = ((am, .inr (6, [.int (iI (1)), .int (iI (y1)), .int (iI (y2)), .int (iI (y3)), .ref a4, .ref a5, .ref a6, .ref a7, .ref a8, .int (iI (y9)), .ref a10, .ref a11, .ref a12, .int (iI (y13)), .ref a14, .ref a15, .ref a16, .int (iI (y17)), .ref a18, .ref a19, .ref a20, .int (iI (y21)), .int (iI (y22)), .int (iI (y23)), .ref a24, .ref a25])) :: (a4, .inl (k 0, ai 64 f4)) :: (a5, .inl (k 0, ai 64 f5)) :: (a6, .inl (k 0, ai 64 f6)) :: (a7, .inl (k 0, ai 64 f7)) :: (a8, .inl (k 0, ai 64 f8)) :: (a10, .inl (k 0, ai 6 f10)) :: (a11, .inl (k 0, ai 6 f11)) :: (a12, .inl (k 0, ai 390 f12)) :: (a14, .inl (k 0, ai 6 f14)) :: (a15, .inl (k 0, ai 65 f15)) :: (a16, .inl (k 0, ai 65 f16)) :: (a18, .inl (k 0, ai 6 f18)) :: (a19, .inl (k 0, ai 96 f19)) :: (a20, .inl (k 0, ai 96 f20)) :: (a24, .inl (k 0, ai 8 f24)) :: (a25, .inl (k 0, ai 8 f25)) :: wr)) ∧ (((0 ≤ p ∧ p < y9) ∧ ¬ ((1 ≤ sp ∧ sp ≤ 500) ∧ 0 ≤ kk)) → v = some (.int (iI (0))) ∧ ws' = ((am, .inr (6, [.int (iI (2)), .int (iI (y1)), .int (iI (y2)), .int (iI (y3)), .ref a4, .ref a5, .ref a6, .ref a7, .ref a8, .int (iI (y9)), .ref a10, .ref a11, .ref a12, .int (iI (y13)), .ref a14, .ref a15, .ref a16, .int (iI (y17)), .ref a18, .ref a19, .ref a20, .int (iI (y21)), .int (iI (y22)), .int (iI (y23)), .ref a24, .ref a25])) :: (a4, .inl (k 0, ai 64 f4)) :: (a5, .inl (k 0, ai 64 f5)) :: (a6, .inl (k 0, ai 64 f6)) :: (a7, .inl (k 0, ai 64 f7)) :: (a8, .inl (k 0, ai 64 f8)) :: (a10, .inl (k 0, ai 6 f10)) :: (a11, .inl (k 0, ai 6 f11)) :: (a12, .inl (k 0, ai 390 f12)) :: (a14, .inl (k 0, ai 6 f14)) :: (a15, .inl (k 0, ai 65 f15)) :: (a16, .inl (k 0, ai 65 f16)) :: (a18, .inl (k 0, ai 6 f18)) :: (a19, .inl (k 0, ai 96 f19)) :: (a20, .inl (k 0, ai 96 f20)) :: (a24, .inl (k 0, ai 8 f24)) :: (a25, .inl (k 0, ai 8 f25)) :: wr)) ∧ (((0 ≤ p ∧ p < y9) ∧ ((1 ≤ sp ∧ sp ≤ 500) ∧ 0 ≤ kk) ∧ ¬ stF (fun j => f12 (65 * p + j)) sp (f10 p).toNat (kk.toNat + 1) < f10 p) → v = some (.int (iI (0))) ∧ ws' = ((am, .inr (6, [.int (iI (3)), .int (iI (y1)), .int (iI (y2)), .int (iI (y3)), .ref a4, .ref a5, .ref a6, .ref a7, .ref a8, .int (iI (y9)), .ref a10, .ref a11, .ref a12, .int (iI (y13)), .ref a14, .ref a15, .ref a16, .int (iI (y17)), .ref a18, .ref a19, .ref a20, .int (iI (y21)), .int (iI (y22)), .int (iI (y23)), .ref a24, .ref a25])) :: (a4, .inl (k 0, ai 64 f4)) :: (a5, .inl (k 0, ai 64 f5)) :: (a6, .inl (k 0, ai 64 f6)) :: (a7, .inl (k 0, ai 64 f7)) :: (a8, .inl (k 0, ai 64 f8)) :: (a10, .inl (k 0, ai 6 f10)) :: (a11, .inl (k 0, ai 6 f11)) :: (a12, .inl (k 0, ai 390 f12)) :: (a14, .inl (k 0, ai 6 f14)) :: (a15, .inl (k 0, ai 65 f15)) :: (a16, .inl (k 0, ai 65 f16)) :: (a18, .inl (k 0, ai 6 f18)) :: (a19, .inl (k 0, ai 96 f19)) :: (a20, .inl (k 0, ai 96 f20)) :: (a24, .inl (k 0, ai 8 f24)) :: (a25, .inl (k 0, ai 8 f25)) :: wr)) ∧ (((0 ≤ p ∧ p < y9) ∧ ((1 ≤ sp ∧ sp ≤ 500) ∧ 0 ≤ kk) ∧ stF (fun j => f12 (65 * p + j)) sp (f10 p).toNat (kk.toNat + 1) < f10 p) → v = some (.int (iI (stF (fun j => f12 (65 * p + j)) sp (f10 p).toNat (kk.toNat + 1)))) ∧ ws' = ((am, .inr (6, [.int (iI (0)), .int (iI (y1)), .int (iI (y2)), .int (iI (y3)), .ref a4, .ref a5, .ref a6, .ref a7, .ref a8, .int (iI (y9)), .ref a10, .ref a11, .ref a12, .int (iI (y13)), .ref a14, .ref a15, .ref a16, .int (iI (y17)), .ref a18, .ref a19, .ref a20, .int (iI (y21)), .int (iI (y22)), .int (iI (y23)), .ref a24, .ref a25])) :: (a4, .inl (k 0, ai 64 f4)) :: (a5, .inl (k 0, ai 64 f5)) :: (a6, .inl (k 0, ai 64 f6)) :: (a7, .inl (k 0, ai 64 f7)) :: (a8, .inl (k 0, ai 64 f8)) :: (a10, .inl (k 0, ai 6 f10)) :: (a11, .inl (k 0, ai 6 f11)) :: (a12, .inl (k 0, ai 390 f12)) :: (a14, .inl (k 0, ai 6 f14)) :: (a15, .inl (k 0, ai 65 f15)) :: (a16, .inl (k 0, ai 65 f16)) :: (a18, .inl (k 0, ai 6 f18)) :: (a19, .inl (k 0, ai 96 f19)) :: (a20, .inl (k 0, ai 96 f20)) :: (a24, .inl (k 0, ai 8 f24)) :: (a25, .inl (k 0, ai 8 f25)) :: wr))) (fun E ws' => False) 0 0 := by
  refine ex_ofW (cc := b_M_steady) (maxL := 6) (ret := (some .int)) (hh := []) (by decide +kernel) (Or.inl ⟨g_820, rfl⟩) ?_
  intro p9 e9 s m9 args9 below9 meth9 c9 s9 B9 hml htab hv
  obtain ⟨rfl, h0, hP, hD⟩ := hv
  have hx := B9.exec
  have hb := B9.bytes
  have hr := B9.returns
  have hG := atoms_spec (ws := GW) B9.pre
  have hown : s.vm.findClass "LathePiecesModel" = some m9.cls := findClass_of_methodNamed B9.named
  have hlocks := B9.notSynchronized
  have hK := cx_K hC h0
  have hS : va_S (aL s0) s.heap s.heap [] := va_S.rf
  have hA : ∀ q : Nat, s.heap.size ≤ q → aL s0 q := fun q h => Nat.le_trans h0.2.1 h
  have hl := lv_entry ([.ref am, .int (iI (p)), .int (iI (sp)), .int (iI (kk))]) (n := 6) (Nat.le_of_ble_eq_true rfl)
  rw [lg_entry_eq]
  generalize (lg_sl ([.ref am, .int (iI (p)), .int (iI (sp)), .int (iI (kk))]) ++ List.replicate (6 - (lg_sl ([.ref am, .int (iI (p)), .int (iI (sp)), .int (iI (kk))])).length) Slot.unset).toArray = ls at hl ⊢
  replace hl : lv_has ls 6 [(0, .ref am), (1, .int (iI (p))), (2, .int (iI (sp))), (3, .int (iI (kk)))] := hl
  refine lv_aload_n hx hb d_M_steady_0 rfl (lv_at hl 0 rfl) ?_
  refine lv_aload_n hx hb d_M_steady_1 rfl (lv_at hl 0 rfl) ?_
  refine lv_iload_n hx hb d_M_steady_2 rfl (lv_at hl 1 rfl) ?_
  refine rd_call (ex_runV (C := "LathePiecesModel") (As := [.int (iI (p))]) (rest := [.ref am]) ⟨hx, hb, hml, hown, hG⟩ (c_M_isPiece hC y9 am [.int (iI (y0)), .int (iI (y1)), .int (iI (y2)), .int (iI (y3)), .ref a4, .ref a5, .ref a6, .ref a7, .ref a8, .int (iI (y9)), .ref a10, .ref a11, .ref a12, .int (iI (y13)), .ref a14, .ref a15, .ref a16, .int (iI (y17)), .ref a18, .ref a19, .ref a20, .int (iI (y21)), .int (iI (y22)), .int (iI (y23)), .ref a24, .ref a25] rfl hy9 p (by omega)) (cb_code (n := 1) hG g_772 g_3 g_769 rfl rfl (by decide +kernel) ⟨Nat.le_of_ble_eq_true rfl, Nat.le_of_ble_eq_true rfl⟩) (hG _ g_771) (hG _ gs_M_isPiece) (kd_V ⟨fun _ _ _ _ q => q, fun U hU hW => ⟨rfl, la_next h0 (fun _ z => z) hS U hU hW, (by show va_P D classes _ U.heap; rw [hU]; exact (va_P.sub hP [0] rfl))⟩⟩ (kd_recv hK hP (q0 := 0) (ci := 6) rfl rfl rfl)) rfl rfl hl.1 rfl (lv_room (Nat.le_of_ble_eq_true rfl)) d_M_steady_3 ⟨Nat.le_of_ble_eq_true rfl, Nat.le_of_ble_eq_true rfl⟩) (fun v9 h9 => ?_)
  rcases h9 with ⟨rfl, n6⟩ | ⟨rfl, n6⟩
  · show W _ _ _ _ _ _ _ _ _ _ _ _ _ _ _ (F0 m9 6 ls [.int (iI (1)), .ref am])
    refine ri_if_ne (tgt := 13) hx hb d_M_steady_6 (by decide) (by omega) (fun c6 => ?_) (fun c6 => ?_)
    · refine lv_iload_n hx hb d_M_steady_13 rfl (lv_at hl 2 rfl) ?_
      refine ri_i2l hx hb d_M_steady_14 (by omega) ?_
      refine ri_lconst (z := 1) hx hb d_M_steady_15 rfl ?_
      refine lv_ldc2 (v := jJ 500) hx hb hown (hG _ g_714) d_M_steady_16 ?_
      refine rd_call (ex_runS (As := [.long (jJ (sp)), .long (jJ (1)), .long (jJ (500))]) (rest := [.ref am]) ⟨hx, hb, hml, hown, hG⟩ (c_M_in l (sp) (1) (500) (by omega) (by omega) (by omega)) (cb_code (n := 3) hG g_717 g_3 g_715 rfl rfl (by decide +kernel) ⟨Nat.le_of_ble_eq_true rfl, Nat.le_of_ble_eq_true rfl⟩) (hG _ g_716) ⟨fun _ _ _ _ q => q, fun _ _ _ => rfl⟩ rfl rfl hl.1 rfl (lv_room (Nat.le_of_ble_eq_true rfl)) d_M_steady_19 ⟨Nat.le_of_ble_eq_true rfl, Nat.le_of_ble_eq_true rfl⟩) (fun v9 h9 => ?_)
      obtain rfl := h9
      show W _ _ _ _ _ _ _ _ _ _ _ _ _ _ _ (F0 m9 22 ls [.int (iI ((if 1 ≤ sp ∧ sp ≤ 500 then 1 else 0))), .ref am])
      by_cases n22 : 1 ≤ sp ∧ sp ≤ 500
      · refine tp_i (congrArg iI (show (if 1 ≤ sp ∧ sp ≤ 500 then 1 else 0) = 1 from if_pos n22)) ?_
        refine ri_if_eq (tgt := 29) hx hb d_M_steady_22 (by decide) (by omega) (fun c22 => ?_) (fun c22 => ?_)
        · exact absurd c22 (by decide)
        · refine lv_iload_n hx hb d_M_steady_25 rfl (lv_at hl 3 rfl) ?_
          refine ri_if_ge (tgt := 33) hx hb d_M_steady_26 (by decide) (by omega) (fun c26 => ?_) (fun c26 => ?_)
          · refine ri_iconst hx hb d_M_steady_33 ?_
            refine va_put (D := D) (ci := 6) (v := .int (iI (0))) (ty := .int) (C := R_M) (T := F_M) (N := 26) hx hb hG in_M t_M t_M_ok n_M hown hK hP hD hS 0 rfl rfl 0 (by decide) (hG _ g_627) (fun _ h9 => h9) rfl (by decide +kernel) rfl rfl (Nat.le_of_ble_eq_true rfl) d_M_steady_34 (fun H locs hP hD hS => ?_)
            have hP : va_P D classes ((am, .inr (6, [.int (iI (0)), .int (iI (y1)), .int (iI (y2)), .int (iI (y3)), .ref a4, .ref a5, .ref a6, .ref a7, .ref a8, .int (iI (y9)), .ref a10, .ref a11, .ref a12, .int (iI (y13)), .ref a14, .ref a15, .ref a16, .int (iI (y17)), .ref a18, .ref a19, .ref a20, .int (iI (y21)), .int (iI (y22)), .int (iI (y23)), .ref a24, .ref a25])) :: (a4, .inl (k 0, ai 64 f4)) :: (a5, .inl (k 0, ai 64 f5)) :: (a6, .inl (k 0, ai 64 f6)) :: (a7, .inl (k 0, ai 64 f7)) :: (a8, .inl (k 0, ai 64 f8)) :: (a10, .inl (k 0, ai 6 f10)) :: (a11, .inl (k 0, ai 6 f11)) :: (a12, .inl (k 0, ai 390 f12)) :: (a14, .inl (k 0, ai 6 f14)) :: (a15, .inl (k 0, ai 65 f15)) :: (a16, .inl (k 0, ai 65 f16)) :: (a18, .inl (k 0, ai 6 f18)) :: (a19, .inl (k 0, ai 96 f19)) :: (a20, .inl (k 0, ai 96 f20)) :: (a24, .inl (k 0, ai 8 f24)) :: (a25, .inl (k 0, ai 8 f25)) :: wr) H := hP
            have hD : va_D (fun q : Nat => s0.heap.size ≤ q) ((am, .inr (6, [.int (iI (0)), .int (iI (y1)), .int (iI (y2)), .int (iI (y3)), .ref a4, .ref a5, .ref a6, .ref a7, .ref a8, .int (iI (y9)), .ref a10, .ref a11, .ref a12, .int (iI (y13)), .ref a14, .ref a15, .ref a16, .int (iI (y17)), .ref a18, .ref a19, .ref a20, .int (iI (y21)), .int (iI (y22)), .int (iI (y23)), .ref a24, .ref a25])) :: (a4, .inl (k 0, ai 64 f4)) :: (a5, .inl (k 0, ai 64 f5)) :: (a6, .inl (k 0, ai 64 f6)) :: (a7, .inl (k 0, ai 64 f7)) :: (a8, .inl (k 0, ai 64 f8)) :: (a10, .inl (k 0, ai 6 f10)) :: (a11, .inl (k 0, ai 6 f11)) :: (a12, .inl (k 0, ai 390 f12)) :: (a14, .inl (k 0, ai 6 f14)) :: (a15, .inl (k 0, ai 65 f15)) :: (a16, .inl (k 0, ai 65 f16)) :: (a18, .inl (k 0, ai 6 f18)) :: (a19, .inl (k 0, ai 96 f19)) :: (a20, .inl (k 0, ai 96 f20)) :: (a24, .inl (k 0, ai 8 f24)) :: (a25, .inl (k 0, ai 8 f25)) :: wr) := hD
            refine lv_aload_n hx hb d_M_steady_37 rfl (lv_at hl 0 rfl) ?_
            refine va_get (D := D) (ci := 6) (v := .int (iI (0))) (C := R_M) (T := F_M) (N := 26) hx hb hG in_M hown hK hP 0 rfl rfl 0 (by decide) (hG _ g_627) (fun _ h9 => h9) rfl d_M_steady_38 ?_
            refine ri_if_le (tgt := 46) hx hb d_M_steady_41 (by decide) (by omega) (fun c41 => ?_) (fun c41 => ?_)
            · have h7 := hf10 p (by omega) (by omega)
              obtain ⟨L, hL⟩ : ∃ L : Nat, f10 p = (L : Int) := ⟨(f10 p).toNat, (Int.toNat_of_nonneg h7.1).symm⟩
              have gL : (f10 p).toNat = L := by omega
              have hL64 : L ≤ 64 := by omega
              have hrr : ∀ j : Int, 0 ≤ j → j ≤ L → 0 ≤ f12 (65 * p + j) ∧ f12 (65 * p + j) ≤ 500 := fun j h1 h2 => hf12 p (by omega) (by omega) j h1 (by omega)
              have h8 := hL1 p (by omega) (by omega)
              refine lv_aload_n hx hb d_M_steady_46 rfl (lv_at hl 0 rfl) ?_
              refine lv_iload_n hx hb d_M_steady_47 rfl (lv_at hl 1 rfl) ?_
              refine lv_iload_n hx hb d_M_steady_48 rfl (lv_at hl 2 rfl) ?_
              refine ri_iconst hx hb d_M_steady_49 ?_
              refine rd_call (ex_runV (C := "LathePiecesModel") (As := [.int (iI (p)), .int (iI (sp)), .int (iI (0))]) (rest := []) ⟨hx, hb, hml, hown, hG⟩ (c_M_nextHeld hC a10 a12 f10 f12 am [.int (iI (0)), .int (iI (y1)), .int (iI (y2)), .int (iI (y3)), .ref a4, .ref a5, .ref a6, .ref a7, .ref a8, .int (iI (y9)), .ref a10, .ref a11, .ref a12, .int (iI (y13)), .ref a14, .ref a15, .ref a16, .int (iI (y17)), .ref a18, .ref a19, .ref a20, .int (iI (y21)), .int (iI (y22)), .int (iI (y23)), .ref a24, .ref a25] rfl rfl p L (by omega) hL hL64 hrr sp (0) (by omega) (by omega)) (cb_code (n := 3) hG g_824 g_3 g_821 rfl rfl (by decide +kernel) ⟨Nat.le_of_ble_eq_true rfl, Nat.le_of_ble_eq_true rfl⟩) (hG _ g_823) (hG _ gs_M_nextHeld) (kd_V ⟨fun _ _ _ _ q => q, fun U hU hW => ⟨rfl, la_next h0 (fun _ z => z) hS U hU hW, (by show va_P D classes _ U.heap; rw [hU]; exact (va_P.sub hP [0, 6, 8] rfl))⟩⟩ (kd_recv hK hP (q0 := 0) (ci := 6) rfl rfl rfl)) rfl rfl hl.1 rfl (lv_room (Nat.le_of_ble_eq_true rfl)) d_M_steady_50 ⟨Nat.le_of_ble_eq_true rfl, Nat.le_of_ble_eq_true rfl⟩) (fun v9 h9 => ?_)
              obtain rfl := h9
              show W _ _ _ _ _ _ _ _ _ _ _ _ _ _ _ (F0 m9 53 ls [.int (iI (nhF (fun j => f12 (65 * p + j)) sp (0) ((L : Int) - (0)).toNat))])
              refine tp_i (congrArg iI (show nhF (fun j => f12 (65 * p + j)) sp (0) ((L : Int) - (0)).toNat = stF (fun j => f12 (65 * p + j)) sp L (0 + 1) from by rw [stF_s (n := 0) (by show (0 : Int) < L; omega)]; rfl)) ?_
              refine lv_istore (lv' := [(4, .int (iI (stF (fun j => f12 (65 * p + j)) sp L (0 + 1)))), (0, .ref am), (1, .int (iI (p))), (2, .int (iI (sp))), (3, .int (iI (kk)))]) hx hb d_M_steady_53 hl (by decide) rfl (fun ls hl => ?_)
              refine ri_iconst hx hb d_M_steady_55 ?_
              refine lv_istore (lv' := [(5, .int (iI (0))), (4, .int (iI (stF (fun j => f12 (65 * p + j)) sp L (0 + 1)))), (0, .ref am), (1, .int (iI (p))), (2, .int (iI (sp))), (3, .int (iI (kk)))]) hx hb d_M_steady_56 hl (by decide) rfl (fun ls hl => ?_)
              replace hl : lv_has ls 6 [(5, .int (iI (0 + ((0 : Nat) : Int)))), (4, .int (iI (stF (fun j => f12 (65 * p + j)) sp L (0 + 1)))), (0, .ref am), (1, .int (iI (p))), (2, .int (iI (sp))), (3, .int (iI (kk)))] := hl
              obtain ⟨κ, ν, hinv, hl1⟩ : ∃ (κ : Nat) (ν : Nat), ((ν : Int) + κ = kk) ∧ lv_has ls 6 [(0, .ref am), (1, .int (iI (p))), (2, .int (iI (sp))), (3, .int (iI (kk))), (4, .int (iI (stF (fun j => f12 (65 * p + j)) sp L (ν + 1)))), (5, .int (iI (0 + (ν : Int))))] := ⟨kk.toNat, 0, (by omega), lv_sub hl [2, 3, 4, 5, 1, 0] rfl⟩
              clear hl
              have hl := hl1
              clear hl1
              induction κ generalizing ν ls with
              | zero =>
                obtain h1 := hinv
                refine lv_iload hx hb d_M_steady_58 (lv_at hl 5 rfl) ?_
                refine lv_iload_n hx hb d_M_steady_60 rfl (lv_at hl 3 rfl) ?_
                refine ri_icmp_ge (tgt := 91) hx hb d_M_steady_61 (by decide) (by omega) (by omega) (fun c61 => ?_) (fun c61 => ?_)
                · have hfin : stF (fun j => f12 (65 * p + j)) sp (f10 p).toNat (kk.toNat + 1) = stF (fun j => f12 (65 * p + j)) sp L (ν + 1) := by rw [gL, show kk.toNat = ν by omega]
                  have hrg := stF_rg (fun j => f12 (65 * p + j)) sp L (ν + 1)
                  refine lv_aload_n hx hb d_M_steady_91 rfl (lv_at hl 0 rfl) ?_
                  refine lv_iload hx hb d_M_steady_92 (lv_at hl 4 rfl) ?_
                  refine lv_aload_n hx hb d_M_steady_94 rfl (lv_at hl 0 rfl) ?_
                  refine va_get (D := D) (ci := 6) (v := .ref a10) (C := R_M) (T := F_M) (N := 26) hx hb hG in_M hown hK hP 0 rfl rfl 10 (by decide) (hG _ g_637) (fun _ h9 => h9) rfl d_M_steady_95 ?_
                  refine lv_iload_n hx hb d_M_steady_98 rfl (lv_at hl 1 rfl) ?_
                  refine ra_iald hx hb hK hP 6 rfl (by omega) (by omega) d_M_steady_99 ?_
                  refine ri_icmp_lt (tgt := 107) hx hb d_M_steady_100 (by decide) (by omega) (by omega) (fun c100 => ?_) (fun c100 => ?_)
                  · refine ri_iconst hx hb d_M_steady_107 ?_
                    refine va_put (D := D) (ci := 6) (v := .int (iI (0))) (ty := .int) (C := R_M) (T := F_M) (N := 26) hx hb hG in_M t_M t_M_ok n_M hown hK hP hD hS 0 rfl rfl 0 (by decide) (hG _ g_627) (fun _ h9 => h9) rfl (by decide +kernel) rfl rfl (Nat.le_of_ble_eq_true rfl) d_M_steady_108 (fun H locs hP hD hS => ?_)
                    have hP : va_P D classes ((am, .inr (6, [.int (iI (0)), .int (iI (y1)), .int (iI (y2)), .int (iI (y3)), .ref a4, .ref a5, .ref a6, .ref a7, .ref a8, .int (iI (y9)), .ref a10, .ref a11, .ref a12, .int (iI (y13)), .ref a14, .ref a15, .ref a16, .int (iI (y17)), .ref a18, .ref a19, .ref a20, .int (iI (y21)), .int (iI (y22)), .int (iI (y23)), .ref a24, .ref a25])) :: (a4, .inl (k 0, ai 64 f4)) :: (a5, .inl (k 0, ai 64 f5)) :: (a6, .inl (k 0, ai 64 f6)) :: (a7, .inl (k 0, ai 64 f7)) :: (a8, .inl (k 0, ai 64 f8)) :: (a10, .inl (k 0, ai 6 f10)) :: (a11, .inl (k 0, ai 6 f11)) :: (a12, .inl (k 0, ai 390 f12)) :: (a14, .inl (k 0, ai 6 f14)) :: (a15, .inl (k 0, ai 65 f15)) :: (a16, .inl (k 0, ai 65 f16)) :: (a18, .inl (k 0, ai 6 f18)) :: (a19, .inl (k 0, ai 96 f19)) :: (a20, .inl (k 0, ai 96 f20)) :: (a24, .inl (k 0, ai 8 f24)) :: (a25, .inl (k 0, ai 8 f25)) :: wr) H := hP
                    have hD : va_D (fun q : Nat => s0.heap.size ≤ q) ((am, .inr (6, [.int (iI (0)), .int (iI (y1)), .int (iI (y2)), .int (iI (y3)), .ref a4, .ref a5, .ref a6, .ref a7, .ref a8, .int (iI (y9)), .ref a10, .ref a11, .ref a12, .int (iI (y13)), .ref a14, .ref a15, .ref a16, .int (iI (y17)), .ref a18, .ref a19, .ref a20, .int (iI (y21)), .int (iI (y22)), .int (iI (y23)), .ref a24, .ref a25])) :: (a4, .inl (k 0, ai 64 f4)) :: (a5, .inl (k 0, ai 64 f5)) :: (a6, .inl (k 0, ai 64 f6)) :: (a7, .inl (k 0, ai 64 f7)) :: (a8, .inl (k 0, ai 64 f8)) :: (a10, .inl (k 0, ai 6 f10)) :: (a11, .inl (k 0, ai 6 f11)) :: (a12, .inl (k 0, ai 390 f12)) :: (a14, .inl (k 0, ai 6 f14)) :: (a15, .inl (k 0, ai 65 f15)) :: (a16, .inl (k 0, ai 65 f16)) :: (a18, .inl (k 0, ai 6 f18)) :: (a19, .inl (k 0, ai 96 f19)) :: (a20, .inl (k 0, ai 96 f20)) :: (a24, .inl (k 0, ai 8 f24)) :: (a25, .inl (k 0, ai 8 f25)) :: wr) := hD
                    refine lv_aload_n hx hb d_M_steady_111 rfl (lv_at hl 0 rfl) ?_
                    refine va_get (D := D) (ci := 6) (v := .int (iI (0))) (C := R_M) (T := F_M) (N := 26) hx hb hG in_M hown hK hP 0 rfl rfl 0 (by decide) (hG _ g_627) (fun _ h9 => h9) rfl d_M_steady_112 ?_
                    refine ri_if_le (tgt := 122) hx hb d_M_steady_115 (by decide) (by omega) (fun c115 => ?_) (fun c115 => ?_)
                    · refine lv_iload hx hb d_M_steady_122 (lv_at hl 4 rfl) ?_
                      exact re_i hx hb hr hlocks (fun t ht hW => ⟨_, ⟨fun h => absurd h (by omega), fun h => absurd h (by omega), fun h => absurd h (by omega), fun _ => ⟨by rw [hfin], rfl⟩⟩, wd_next h0 hS hP hD t ht hW⟩) hS.2.2 (Nat.le_of_ble_eq_true rfl) (Nat.le_of_ble_eq_true rfl) d_M_steady_124
                    · exact absurd c115 (by decide)
                  · refine ri_iconst hx hb d_M_steady_103 ?_
                    refine lv_goto (tgt := 108) hx hb d_M_steady_104 (by decide) ?_
                    refine va_put (D := D) (ci := 6) (v := .int (iI (3))) (ty := .int) (C := R_M) (T := F_M) (N := 26) hx hb hG in_M t_M t_M_ok n_M hown hK hP hD hS 0 rfl rfl 0 (by decide) (hG _ g_627) (fun _ h9 => h9) rfl (by decide +kernel) rfl rfl (Nat.le_of_ble_eq_true rfl) d_M_steady_108 (fun H locs hP hD hS => ?_)
                    have hP : va_P D classes ((am, .inr (6, [.int (iI (3)), .int (iI (y1)), .int (iI (y2)), .int (iI (y3)), .ref a4, .ref a5, .ref a6, .ref a7, .ref a8, .int (iI (y9)), .ref a10, .ref a11, .ref a12, .int (iI (y13)), .ref a14, .ref a15, .ref a16, .int (iI (y17)), .ref a18, .ref a19, .ref a20, .int (iI (y21)), .int (iI (y22)), .int (iI (y23)), .ref a24, .ref a25])) :: (a4, .inl (k 0, ai 64 f4)) :: (a5, .inl (k 0, ai 64 f5)) :: (a6, .inl (k 0, ai 64 f6)) :: (a7, .inl (k 0, ai 64 f7)) :: (a8, .inl (k 0, ai 64 f8)) :: (a10, .inl (k 0, ai 6 f10)) :: (a11, .inl (k 0, ai 6 f11)) :: (a12, .inl (k 0, ai 390 f12)) :: (a14, .inl (k 0, ai 6 f14)) :: (a15, .inl (k 0, ai 65 f15)) :: (a16, .inl (k 0, ai 65 f16)) :: (a18, .inl (k 0, ai 6 f18)) :: (a19, .inl (k 0, ai 96 f19)) :: (a20, .inl (k 0, ai 96 f20)) :: (a24, .inl (k 0, ai 8 f24)) :: (a25, .inl (k 0, ai 8 f25)) :: wr) H := hP
                    have hD : va_D (fun q : Nat => s0.heap.size ≤ q) ((am, .inr (6, [.int (iI (3)), .int (iI (y1)), .int (iI (y2)), .int (iI (y3)), .ref a4, .ref a5, .ref a6, .ref a7, .ref a8, .int (iI (y9)), .ref a10, .ref a11, .ref a12, .int (iI (y13)), .ref a14, .ref a15, .ref a16, .int (iI (y17)), .ref a18, .ref a19, .ref a20, .int (iI (y21)), .int (iI (y22)), .int (iI (y23)), .ref a24, .ref a25])) :: (a4, .inl (k 0, ai 64 f4)) :: (a5, .inl (k 0, ai 64 f5)) :: (a6, .inl (k 0, ai 64 f6)) :: (a7, .inl (k 0, ai 64 f7)) :: (a8, .inl (k 0, ai 64 f8)) :: (a10, .inl (k 0, ai 6 f10)) :: (a11, .inl (k 0, ai 6 f11)) :: (a12, .inl (k 0, ai 390 f12)) :: (a14, .inl (k 0, ai 6 f14)) :: (a15, .inl (k 0, ai 65 f15)) :: (a16, .inl (k 0, ai 65 f16)) :: (a18, .inl (k 0, ai 6 f18)) :: (a19, .inl (k 0, ai 96 f19)) :: (a20, .inl (k 0, ai 96 f20)) :: (a24, .inl (k 0, ai 8 f24)) :: (a25, .inl (k 0, ai 8 f25)) :: wr) := hD
                    refine lv_aload_n hx hb d_M_steady_111 rfl (lv_at hl 0 rfl) ?_
                    refine va_get (D := D) (ci := 6) (v := .int (iI (3))) (C := R_M) (T := F_M) (N := 26) hx hb hG in_M hown hK hP 0 rfl rfl 0 (by decide) (hG _ g_627) (fun _ h9 => h9) rfl d_M_steady_112 ?_
                    refine ri_if_le (tgt := 122) hx hb d_M_steady_115 (by decide) (by omega) (fun c115 => ?_) (fun c115 => ?_)
                    · exact absurd c115 (by decide)
                    · refine ri_iconst hx hb d_M_steady_118 ?_
                      refine lv_goto (tgt := 124) hx hb d_M_steady_119 (by decide) ?_
                      exact re_i hx hb hr hlocks (fun t ht hW => ⟨_, ⟨fun h => absurd h (by omega), fun h => absurd h (by omega), fun _ => ⟨rfl, rfl⟩, fun h => absurd h (by omega)⟩, wd_next h0 hS hP hD t ht hW⟩) hS.2.2 (Nat.le_of_ble_eq_true rfl) (Nat.le_of_ble_eq_true rfl) d_M_steady_124
                · exact absurd c61 (by omega)
              | succ κ ih =>
                obtain h1 := hinv
                have hrg := stF_rg (fun j => f12 (65 * p + j)) sp L (ν + 1)
                refine lv_iload hx hb d_M_steady_58 (lv_at hl 5 rfl) ?_
                refine lv_iload_n hx hb d_M_steady_60 rfl (lv_at hl 3 rfl) ?_
                refine ri_icmp_ge (tgt := 91) hx hb d_M_steady_61 (by decide) (by omega) (by omega) (fun c61 => ?_) (fun c61 => ?_)
                · exact absurd c61 (by omega)
                · refine lv_iload hx hb d_M_steady_64 (lv_at hl 4 rfl) ?_
                  refine lv_aload_n hx hb d_M_steady_66 rfl (lv_at hl 0 rfl) ?_
                  refine va_get (D := D) (ci := 6) (v := .ref a10) (C := R_M) (T := F_M) (N := 26) hx hb hG in_M hown hK hP 0 rfl rfl 10 (by decide) (hG _ g_637) (fun _ h9 => h9) rfl d_M_steady_67 ?_
                  refine lv_iload_n hx hb d_M_steady_70 rfl (lv_at hl 1 rfl) ?_
                  refine ra_iald hx hb hK hP 6 rfl (by omega) (by omega) d_M_steady_71 ?_
                  refine ri_icmp_ge (tgt := 91) hx hb d_M_steady_72 (by decide) (by omega) (by omega) (fun c72 => ?_) (fun c72 => ?_)
                  · have hfin : stF (fun j => f12 (65 * p + j)) sp (f10 p).toNat (kk.toNat + 1) = stF (fun j => f12 (65 * p + j)) sp L (ν + 1) := by rw [gL, show kk.toNat + 1 = ν + 1 + (kk.toNat - ν) by omega, stF_e (by omega)]
                    have hrg := stF_rg (fun j => f12 (65 * p + j)) sp L (ν + 1)
                    refine lv_aload_n hx hb d_M_steady_91 rfl (lv_at hl 0 rfl) ?_
                    refine lv_iload hx hb d_M_steady_92 (lv_at hl 4 rfl) ?_
                    refine lv_aload_n hx hb d_M_steady_94 rfl (lv_at hl 0 rfl) ?_
                    refine va_get (D := D) (ci := 6) (v := .ref a10) (C := R_M) (T := F_M) (N := 26) hx hb hG in_M hown hK hP 0 rfl rfl 10 (by decide) (hG _ g_637) (fun _ h9 => h9) rfl d_M_steady_95 ?_
                    refine lv_iload_n hx hb d_M_steady_98 rfl (lv_at hl 1 rfl) ?_
                    refine ra_iald hx hb hK hP 6 rfl (by omega) (by omega) d_M_steady_99 ?_
                    refine ri_icmp_lt (tgt := 107) hx hb d_M_steady_100 (by decide) (by omega) (by omega) (fun c100 => ?_) (fun c100 => ?_)
                    · refine ri_iconst hx hb d_M_steady_107 ?_
                      refine va_put (D := D) (ci := 6) (v := .int (iI (0))) (ty := .int) (C := R_M) (T := F_M) (N := 26) hx hb hG in_M t_M t_M_ok n_M hown hK hP hD hS 0 rfl rfl 0 (by decide) (hG _ g_627) (fun _ h9 => h9) rfl (by decide +kernel) rfl rfl (Nat.le_of_ble_eq_true rfl) d_M_steady_108 (fun H locs hP hD hS => ?_)
                      have hP : va_P D classes ((am, .inr (6, [.int (iI (0)), .int (iI (y1)), .int (iI (y2)), .int (iI (y3)), .ref a4, .ref a5, .ref a6, .ref a7, .ref a8, .int (iI (y9)), .ref a10, .ref a11, .ref a12, .int (iI (y13)), .ref a14, .ref a15, .ref a16, .int (iI (y17)), .ref a18, .ref a19, .ref a20, .int (iI (y21)), .int (iI (y22)), .int (iI (y23)), .ref a24, .ref a25])) :: (a4, .inl (k 0, ai 64 f4)) :: (a5, .inl (k 0, ai 64 f5)) :: (a6, .inl (k 0, ai 64 f6)) :: (a7, .inl (k 0, ai 64 f7)) :: (a8, .inl (k 0, ai 64 f8)) :: (a10, .inl (k 0, ai 6 f10)) :: (a11, .inl (k 0, ai 6 f11)) :: (a12, .inl (k 0, ai 390 f12)) :: (a14, .inl (k 0, ai 6 f14)) :: (a15, .inl (k 0, ai 65 f15)) :: (a16, .inl (k 0, ai 65 f16)) :: (a18, .inl (k 0, ai 6 f18)) :: (a19, .inl (k 0, ai 96 f19)) :: (a20, .inl (k 0, ai 96 f20)) :: (a24, .inl (k 0, ai 8 f24)) :: (a25, .inl (k 0, ai 8 f25)) :: wr) H := hP
                      have hD : va_D (fun q : Nat => s0.heap.size ≤ q) ((am, .inr (6, [.int (iI (0)), .int (iI (y1)), .int (iI (y2)), .int (iI (y3)), .ref a4, .ref a5, .ref a6, .ref a7, .ref a8, .int (iI (y9)), .ref a10, .ref a11, .ref a12, .int (iI (y13)), .ref a14, .ref a15, .ref a16, .int (iI (y17)), .ref a18, .ref a19, .ref a20, .int (iI (y21)), .int (iI (y22)), .int (iI (y23)), .ref a24, .ref a25])) :: (a4, .inl (k 0, ai 64 f4)) :: (a5, .inl (k 0, ai 64 f5)) :: (a6, .inl (k 0, ai 64 f6)) :: (a7, .inl (k 0, ai 64 f7)) :: (a8, .inl (k 0, ai 64 f8)) :: (a10, .inl (k 0, ai 6 f10)) :: (a11, .inl (k 0, ai 6 f11)) :: (a12, .inl (k 0, ai 390 f12)) :: (a14, .inl (k 0, ai 6 f14)) :: (a15, .inl (k 0, ai 65 f15)) :: (a16, .inl (k 0, ai 65 f16)) :: (a18, .inl (k 0, ai 6 f18)) :: (a19, .inl (k 0, ai 96 f19)) :: (a20, .inl (k 0, ai 96 f20)) :: (a24, .inl (k 0, ai 8 f24)) :: (a25, .inl (k 0, ai 8 f25)) :: wr) := hD
                      refine lv_aload_n hx hb d_M_steady_111 rfl (lv_at hl 0 rfl) ?_
                      refine va_get (D := D) (ci := 6) (v := .int (iI (0))) (C := R_M) (T := F_M) (N := 26) hx hb hG in_M hown hK hP 0 rfl rfl 0 (by decide) (hG _ g_627) (fun _ h9 => h9) rfl d_M_steady_112 ?_
                      refine ri_if_le (tgt := 122) hx hb d_M_steady_115 (by decide) (by omega) (fun c115 => ?_) (fun c115 => ?_)
                      · refine lv_iload hx hb d_M_steady_122 (lv_at hl 4 rfl) ?_
                        exact re_i hx hb hr hlocks (fun t ht hW => ⟨_, ⟨fun h => absurd h (by omega), fun h => absurd h (by omega), fun h => absurd h (by omega), fun _ => ⟨by rw [hfin], rfl⟩⟩, wd_next h0 hS hP hD t ht hW⟩) hS.2.2 (Nat.le_of_ble_eq_true rfl) (Nat.le_of_ble_eq_true rfl) d_M_steady_124
                      · exact absurd c115 (by decide)
                    · refine ri_iconst hx hb d_M_steady_103 ?_
                      refine lv_goto (tgt := 108) hx hb d_M_steady_104 (by decide) ?_
                      refine va_put (D := D) (ci := 6) (v := .int (iI (3))) (ty := .int) (C := R_M) (T := F_M) (N := 26) hx hb hG in_M t_M t_M_ok n_M hown hK hP hD hS 0 rfl rfl 0 (by decide) (hG _ g_627) (fun _ h9 => h9) rfl (by decide +kernel) rfl rfl (Nat.le_of_ble_eq_true rfl) d_M_steady_108 (fun H locs hP hD hS => ?_)
                      have hP : va_P D classes ((am, .inr (6, [.int (iI (3)), .int (iI (y1)), .int (iI (y2)), .int (iI (y3)), .ref a4, .ref a5, .ref a6, .ref a7, .ref a8, .int (iI (y9)), .ref a10, .ref a11, .ref a12, .int (iI (y13)), .ref a14, .ref a15, .ref a16, .int (iI (y17)), .ref a18, .ref a19, .ref a20, .int (iI (y21)), .int (iI (y22)), .int (iI (y23)), .ref a24, .ref a25])) :: (a4, .inl (k 0, ai 64 f4)) :: (a5, .inl (k 0, ai 64 f5)) :: (a6, .inl (k 0, ai 64 f6)) :: (a7, .inl (k 0, ai 64 f7)) :: (a8, .inl (k 0, ai 64 f8)) :: (a10, .inl (k 0, ai 6 f10)) :: (a11, .inl (k 0, ai 6 f11)) :: (a12, .inl (k 0, ai 390 f12)) :: (a14, .inl (k 0, ai 6 f14)) :: (a15, .inl (k 0, ai 65 f15)) :: (a16, .inl (k 0, ai 65 f16)) :: (a18, .inl (k 0, ai 6 f18)) :: (a19, .inl (k 0, ai 96 f19)) :: (a20, .inl (k 0, ai 96 f20)) :: (a24, .inl (k 0, ai 8 f24)) :: (a25, .inl (k 0, ai 8 f25)) :: wr) H := hP
                      have hD : va_D (fun q : Nat => s0.heap.size ≤ q) ((am, .inr (6, [.int (iI (3)), .int (iI (y1)), .int (iI (y2)), .int (iI (y3)), .ref a4, .ref a5, .ref a6, .ref a7, .ref a8, .int (iI (y9)), .ref a10, .ref a11, .ref a12, .int (iI (y13)), .ref a14, .ref a15, .ref a16, .int (iI (y17)), .ref a18, .ref a19, .ref a20, .int (iI (y21)), .int (iI (y22)), .int (iI (y23)), .ref a24, .ref a25])) :: (a4, .inl (k 0, ai 64 f4)) :: (a5, .inl (k 0, ai 64 f5)) :: (a6, .inl (k 0, ai 64 f6)) :: (a7, .inl (k 0, ai 64 f7)) :: (a8, .inl (k 0, ai 64 f8)) :: (a10, .inl (k 0, ai 6 f10)) :: (a11, .inl (k 0, ai 6 f11)) :: (a12, .inl (k 0, ai 390 f12)) :: (a14, .inl (k 0, ai 6 f14)) :: (a15, .inl (k 0, ai 65 f15)) :: (a16, .inl (k 0, ai 65 f16)) :: (a18, .inl (k 0, ai 6 f18)) :: (a19, .inl (k 0, ai 96 f19)) :: (a20, .inl (k 0, ai 96 f20)) :: (a24, .inl (k 0, ai 8 f24)) :: (a25, .inl (k 0, ai 8 f25)) :: wr) := hD
                      refine lv_aload_n hx hb d_M_steady_111 rfl (lv_at hl 0 rfl) ?_
                      refine va_get (D := D) (ci := 6) (v := .int (iI (3))) (C := R_M) (T := F_M) (N := 26) hx hb hG in_M hown hK hP 0 rfl rfl 0 (by decide) (hG _ g_627) (fun _ h9 => h9) rfl d_M_steady_112 ?_
                      refine ri_if_le (tgt := 122) hx hb d_M_steady_115 (by decide) (by omega) (fun c115 => ?_) (fun c115 => ?_)
                      · exact absurd c115 (by decide)
                      · refine ri_iconst hx hb d_M_steady_118 ?_
                        refine lv_goto (tgt := 124) hx hb d_M_steady_119 (by decide) ?_
                        exact re_i hx hb hr hlocks (fun t ht hW => ⟨_, ⟨fun h => absurd h (by omega), fun h => absurd h (by omega), fun _ => ⟨rfl, rfl⟩, fun h => absurd h (by omega)⟩, wd_next h0 hS hP hD t ht hW⟩) hS.2.2 (Nat.le_of_ble_eq_true rfl) (Nat.le_of_ble_eq_true rfl) d_M_steady_124
                  · refine lv_aload_n hx hb d_M_steady_75 rfl (lv_at hl 0 rfl) ?_
                    refine lv_iload_n hx hb d_M_steady_76 rfl (lv_at hl 1 rfl) ?_
                    refine lv_iload_n hx hb d_M_steady_77 rfl (lv_at hl 2 rfl) ?_
                    refine lv_iload hx hb d_M_steady_78 (lv_at hl 4 rfl) ?_
                    refine rd_call (ex_runV (C := "LathePiecesModel") (As := [.int (iI (p)), .int (iI (sp)), .int (iI (stF (fun j => f12 (65 * p + j)) sp L (ν + 1)))]) (rest := []) ⟨hx, hb, hml, hown, hG⟩ (c_M_nextHeld hC a10 a12 f10 f12 am [.int (iI (0)), .int (iI (y1)), .int (iI (y2)), .int (iI (y3)), .ref a4, .ref a5, .ref a6, .ref a7, .ref a8, .int (iI (y9)), .ref a10, .ref a11, .ref a12, .int (iI (y13)), .ref a14, .ref a15, .ref a16, .int (iI (y17)), .ref a18, .ref a19, .ref a20, .int (iI (y21)), .int (iI (y22)), .int (iI (y23)), .ref a24, .ref a25] rfl rfl p L (by omega) hL hL64 hrr sp (stF (fun j => f12 (65 * p + j)) sp L (ν + 1)) (by omega) (by omega)) (cb_code (n := 3) hG g_824 g_3 g_821 rfl rfl (by decide +kernel) ⟨Nat.le_of_ble_eq_true rfl, Nat.le_of_ble_eq_true rfl⟩) (hG _ g_823) (hG _ gs_M_nextHeld) (kd_V ⟨fun _ _ _ _ q => q, fun U hU hW => ⟨rfl, la_next h0 (fun _ z => z) hS U hU hW, (by show va_P D classes _ U.heap; rw [hU]; exact (va_P.sub hP [0, 6, 8] rfl))⟩⟩ (kd_recv hK hP (q0 := 0) (ci := 6) rfl rfl rfl)) rfl rfl hl.1 rfl (lv_room (Nat.le_of_ble_eq_true rfl)) d_M_steady_80 ⟨Nat.le_of_ble_eq_true rfl, Nat.le_of_ble_eq_true rfl⟩) (fun v9 h9 => ?_)
                    obtain rfl := h9
                    show W _ _ _ _ _ _ _ _ _ _ _ _ _ _ _ (F0 m9 83 ls [.int (iI (nhF (fun j => f12 (65 * p + j)) sp (stF (fun j => f12 (65 * p + j)) sp L (ν + 1)) ((L : Int) - (stF (fun j => f12 (65 * p + j)) sp L (ν + 1))).toNat))])
                    refine tp_i (congrArg iI (show nhF (fun j => f12 (65 * p + j)) sp (stF (fun j => f12 (65 * p + j)) sp L (ν + 1)) ((L : Int) - (stF (fun j => f12 (65 * p + j)) sp L (ν + 1))).toNat = stF (fun j => f12 (65 * p + j)) sp L (ν + 1 + 1) from (stF_s (by omega)).symm)) ?_
                    refine lv_istore (lv' := [(4, .int (iI (stF (fun j => f12 (65 * p + j)) sp L (ν + 1 + 1)))), (0, .ref am), (1, .int (iI (p))), (2, .int (iI (sp))), (3, .int (iI (kk))), (5, .int (iI (0 + (ν : Int))))]) hx hb d_M_steady_83 hl (by decide) rfl (fun ls hl => ?_)
                    refine lv_iinc (v := iI (0 + ((ν + 1 : Nat) : Int))) (lv' := [(5, .int (iI (0 + ((ν + 1 : Nat) : Int)))), (4, .int (iI (stF (fun j => f12 (65 * p + j)) sp L (ν + 1 + 1)))), (0, .ref am), (1, .int (iI (p))), (2, .int (iI (sp))), (3, .int (iI (kk)))]) hx hb d_M_steady_85 hl (k := 5) rfl ((ii_add _ _).trans (congrArg iI (by omega))) (by decide) rfl (fun ls hl => ?_)
                    refine lv_goto (tgt := 58) hx hb d_M_steady_88 (by decide) ?_
                    exact ih ls (ν + 1) (by omega) (lv_sub hl [2, 3, 4, 5, 1, 0] rfl)
            · exact absurd c41 (by decide)
          · refine ri_iconst hx hb d_M_steady_29 ?_
            refine lv_goto (tgt := 34) hx hb d_M_steady_30 (by decide) ?_
            refine va_put (D := D) (ci := 6) (v := .int (iI (2))) (ty := .int) (C := R_M) (T := F_M) (N := 26) hx hb hG in_M t_M t_M_ok n_M hown hK hP hD hS 0 rfl rfl 0 (by decide) (hG _ g_627) (fun _ h9 => h9) rfl (by decide +kernel) rfl rfl (Nat.le_of_ble_eq_true rfl) d_M_steady_34 (fun H locs hP hD hS => ?_)
            have hP : va_P D classes ((am, .inr (6, [.int (iI (2)), .int (iI (y1)), .int (iI (y2)), .int (iI (y3)), .ref a4, .ref a5, .ref a6, .ref a7, .ref a8, .int (iI (y9)), .ref a10, .ref a11, .ref a12, .int (iI (y13)), .ref a14, .ref a15, .ref a16, .int (iI (y17)), .ref a18, .ref a19, .ref a20, .int (iI (y21)), .int (iI (y22)), .int (iI (y23)), .ref a24, .ref a25])) :: (a4, .inl (k 0, ai 64 f4)) :: (a5, .inl (k 0, ai 64 f5)) :: (a6, .inl (k 0, ai 64 f6)) :: (a7, .inl (k 0, ai 64 f7)) :: (a8, .inl (k 0, ai 64 f8)) :: (a10, .inl (k 0, ai 6 f10)) :: (a11, .inl (k 0, ai 6 f11)) :: (a12, .inl (k 0, ai 390 f12)) :: (a14, .inl (k 0, ai 6 f14)) :: (a15, .inl (k 0, ai 65 f15)) :: (a16, .inl (k 0, ai 65 f16)) :: (a18, .inl (k 0, ai 6 f18)) :: (a19, .inl (k 0, ai 96 f19)) :: (a20, .inl (k 0, ai 96 f20)) :: (a24, .inl (k 0, ai 8 f24)) :: (a25, .inl (k 0, ai 8 f25)) :: wr) H := hP
            have hD : va_D (fun q : Nat => s0.heap.size ≤ q) ((am, .inr (6, [.int (iI (2)), .int (iI (y1)), .int (iI (y2)), .int (iI (y3)), .ref a4, .ref a5, .ref a6, .ref a7, .ref a8, .int (iI (y9)), .ref a10, .ref a11, .ref a12, .int (iI (y13)), .ref a14, .ref a15, .ref a16, .int (iI (y17)), .ref a18, .ref a19, .ref a20, .int (iI (y21)), .int (iI (y22)), .int (iI (y23)), .ref a24, .ref a25])) :: (a4, .inl (k 0, ai 64 f4)) :: (a5, .inl (k 0, ai 64 f5)) :: (a6, .inl (k 0, ai 64 f6)) :: (a7, .inl (k 0, ai 64 f7)) :: (a8, .inl (k 0, ai 64 f8)) :: (a10, .inl (k 0, ai 6 f10)) :: (a11, .inl (k 0, ai 6 f11)) :: (a12, .inl (k 0, ai 390 f12)) :: (a14, .inl (k 0, ai 6 f14)) :: (a15, .inl (k 0, ai 65 f15)) :: (a16, .inl (k 0, ai 65 f16)) :: (a18, .inl (k 0, ai 6 f18)) :: (a19, .inl (k 0, ai 96 f19)) :: (a20, .inl (k 0, ai 96 f20)) :: (a24, .inl (k 0, ai 8 f24)) :: (a25, .inl (k 0, ai 8 f25)) :: wr) := hD
            refine lv_aload_n hx hb d_M_steady_37 rfl (lv_at hl 0 rfl) ?_
            refine va_get (D := D) (ci := 6) (v := .int (iI (2))) (C := R_M) (T := F_M) (N := 26) hx hb hG in_M hown hK hP 0 rfl rfl 0 (by decide) (hG _ g_627) (fun _ h9 => h9) rfl d_M_steady_38 ?_
            refine ri_if_le (tgt := 46) hx hb d_M_steady_41 (by decide) (by omega) (fun c41 => ?_) (fun c41 => ?_)
            · exact absurd c41 (by decide)
            · refine ri_iconst hx hb d_M_steady_44 ?_
              exact re_i hx hb hr hlocks (fun t ht hW => ⟨_, ⟨fun h => absurd h (by omega), fun _ => ⟨rfl, rfl⟩, fun h => absurd h (by omega), fun h => absurd h (by omega)⟩, wd_next h0 hS hP hD t ht hW⟩) hS.2.2 (Nat.le_of_ble_eq_true rfl) (Nat.le_of_ble_eq_true rfl) d_M_steady_45
      · refine tp_i (congrArg iI (show (if 1 ≤ sp ∧ sp ≤ 500 then 1 else 0) = 0 from if_neg n22)) ?_
        refine ri_if_eq (tgt := 29) hx hb d_M_steady_22 (by decide) (by omega) (fun c22 => ?_) (fun c22 => ?_)
        · refine ri_iconst hx hb d_M_steady_29 ?_
          refine lv_goto (tgt := 34) hx hb d_M_steady_30 (by decide) ?_
          refine va_put (D := D) (ci := 6) (v := .int (iI (2))) (ty := .int) (C := R_M) (T := F_M) (N := 26) hx hb hG in_M t_M t_M_ok n_M hown hK hP hD hS 0 rfl rfl 0 (by decide) (hG _ g_627) (fun _ h9 => h9) rfl (by decide +kernel) rfl rfl (Nat.le_of_ble_eq_true rfl) d_M_steady_34 (fun H locs hP hD hS => ?_)
          have hP : va_P D classes ((am, .inr (6, [.int (iI (2)), .int (iI (y1)), .int (iI (y2)), .int (iI (y3)), .ref a4, .ref a5, .ref a6, .ref a7, .ref a8, .int (iI (y9)), .ref a10, .ref a11, .ref a12, .int (iI (y13)), .ref a14, .ref a15, .ref a16, .int (iI (y17)), .ref a18, .ref a19, .ref a20, .int (iI (y21)), .int (iI (y22)), .int (iI (y23)), .ref a24, .ref a25])) :: (a4, .inl (k 0, ai 64 f4)) :: (a5, .inl (k 0, ai 64 f5)) :: (a6, .inl (k 0, ai 64 f6)) :: (a7, .inl (k 0, ai 64 f7)) :: (a8, .inl (k 0, ai 64 f8)) :: (a10, .inl (k 0, ai 6 f10)) :: (a11, .inl (k 0, ai 6 f11)) :: (a12, .inl (k 0, ai 390 f12)) :: (a14, .inl (k 0, ai 6 f14)) :: (a15, .inl (k 0, ai 65 f15)) :: (a16, .inl (k 0, ai 65 f16)) :: (a18, .inl (k 0, ai 6 f18)) :: (a19, .inl (k 0, ai 96 f19)) :: (a20, .inl (k 0, ai 96 f20)) :: (a24, .inl (k 0, ai 8 f24)) :: (a25, .inl (k 0, ai 8 f25)) :: wr) H := hP
          have hD : va_D (fun q : Nat => s0.heap.size ≤ q) ((am, .inr (6, [.int (iI (2)), .int (iI (y1)), .int (iI (y2)), .int (iI (y3)), .ref a4, .ref a5, .ref a6, .ref a7, .ref a8, .int (iI (y9)), .ref a10, .ref a11, .ref a12, .int (iI (y13)), .ref a14, .ref a15, .ref a16, .int (iI (y17)), .ref a18, .ref a19, .ref a20, .int (iI (y21)), .int (iI (y22)), .int (iI (y23)), .ref a24, .ref a25])) :: (a4, .inl (k 0, ai 64 f4)) :: (a5, .inl (k 0, ai 64 f5)) :: (a6, .inl (k 0, ai 64 f6)) :: (a7, .inl (k 0, ai 64 f7)) :: (a8, .inl (k 0, ai 64 f8)) :: (a10, .inl (k 0, ai 6 f10)) :: (a11, .inl (k 0, ai 6 f11)) :: (a12, .inl (k 0, ai 390 f12)) :: (a14, .inl (k 0, ai 6 f14)) :: (a15, .inl (k 0, ai 65 f15)) :: (a16, .inl (k 0, ai 65 f16)) :: (a18, .inl (k 0, ai 6 f18)) :: (a19, .inl (k 0, ai 96 f19)) :: (a20, .inl (k 0, ai 96 f20)) :: (a24, .inl (k 0, ai 8 f24)) :: (a25, .inl (k 0, ai 8 f25)) :: wr) := hD
          refine lv_aload_n hx hb d_M_steady_37 rfl (lv_at hl 0 rfl) ?_
          refine va_get (D := D) (ci := 6) (v := .int (iI (2))) (C := R_M) (T := F_M) (N := 26) hx hb hG in_M hown hK hP 0 rfl rfl 0 (by decide) (hG _ g_627) (fun _ h9 => h9) rfl d_M_steady_38 ?_
          refine ri_if_le (tgt := 46) hx hb d_M_steady_41 (by decide) (by omega) (fun c41 => ?_) (fun c41 => ?_)
          · exact absurd c41 (by decide)
          · refine ri_iconst hx hb d_M_steady_44 ?_
            exact re_i hx hb hr hlocks (fun t ht hW => ⟨_, ⟨fun h => absurd h (by omega), fun _ => ⟨rfl, rfl⟩, fun h => absurd h (by omega), fun h => absurd h (by omega)⟩, wd_next h0 hS hP hD t ht hW⟩) hS.2.2 (Nat.le_of_ble_eq_true rfl) (Nat.le_of_ble_eq_true rfl) d_M_steady_45
        · exact absurd c22 (by decide)
    · exact absurd c6 (by decide)
  · show W _ _ _ _ _ _ _ _ _ _ _ _ _ _ _ (F0 m9 6 ls [.int (iI (0)), .ref am])
    refine ri_if_ne (tgt := 13) hx hb d_M_steady_6 (by decide) (by omega) (fun c6 => ?_) (fun c6 => ?_)
    · exact absurd c6 (by decide)
    · refine ri_iconst hx hb d_M_steady_9 ?_
      refine lv_goto (tgt := 34) hx hb d_M_steady_10 (by decide) ?_
      refine va_put (D := D) (ci := 6) (v := .int (iI (1))) (ty := .int) (C := R_M) (T := F_M) (N := 26) hx hb hG in_M t_M t_M_ok n_M hown hK hP hD hS 0 rfl rfl 0 (by decide) (hG _ g_627) (fun _ h9 => h9) rfl (by decide +kernel) rfl rfl (Nat.le_of_ble_eq_true rfl) d_M_steady_34 (fun H locs hP hD hS => ?_)
      have hP : va_P D classes ((am, .inr (6, [.int (iI (1)), .int (iI (y1)), .int (iI (y2)), .int (iI (y3)), .ref a4, .ref a5, .ref a6, .ref a7, .ref a8, .int (iI (y9)), .ref a10, .ref a11, .ref a12, .int (iI (y13)), .ref a14, .ref a15, .ref a16, .int (iI (y17)), .ref a18, .ref a19, .ref a20, .int (iI (y21)), .int (iI (y22)), .int (iI (y23)), .ref a24, .ref a25])) :: (a4, .inl (k 0, ai 64 f4)) :: (a5, .inl (k 0, ai 64 f5)) :: (a6, .inl (k 0, ai 64 f6)) :: (a7, .inl (k 0, ai 64 f7)) :: (a8, .inl (k 0, ai 64 f8)) :: (a10, .inl (k 0, ai 6 f10)) :: (a11, .inl (k 0, ai 6 f11)) :: (a12, .inl (k 0, ai 390 f12)) :: (a14, .inl (k 0, ai 6 f14)) :: (a15, .inl (k 0, ai 65 f15)) :: (a16, .inl (k 0, ai 65 f16)) :: (a18, .inl (k 0, ai 6 f18)) :: (a19, .inl (k 0, ai 96 f19)) :: (a20, .inl (k 0, ai 96 f20)) :: (a24, .inl (k 0, ai 8 f24)) :: (a25, .inl (k 0, ai 8 f25)) :: wr) H := hP
      have hD : va_D (fun q : Nat => s0.heap.size ≤ q) ((am, .inr (6, [.int (iI (1)), .int (iI (y1)), .int (iI (y2)), .int (iI (y3)), .ref a4, .ref a5, .ref a6, .ref a7, .ref a8, .int (iI (y9)), .ref a10, .ref a11, .ref a12, .int (iI (y13)), .ref a14, .ref a15, .ref a16, .int (iI (y17)), .ref a18, .ref a19, .ref a20, .int (iI (y21)), .int (iI (y22)), .int (iI (y23)), .ref a24, .ref a25])) :: (a4, .inl (k 0, ai 64 f4)) :: (a5, .inl (k 0, ai 64 f5)) :: (a6, .inl (k 0, ai 64 f6)) :: (a7, .inl (k 0, ai 64 f7)) :: (a8, .inl (k 0, ai 64 f8)) :: (a10, .inl (k 0, ai 6 f10)) :: (a11, .inl (k 0, ai 6 f11)) :: (a12, .inl (k 0, ai 390 f12)) :: (a14, .inl (k 0, ai 6 f14)) :: (a15, .inl (k 0, ai 65 f15)) :: (a16, .inl (k 0, ai 65 f16)) :: (a18, .inl (k 0, ai 6 f18)) :: (a19, .inl (k 0, ai 96 f19)) :: (a20, .inl (k 0, ai 96 f20)) :: (a24, .inl (k 0, ai 8 f24)) :: (a25, .inl (k 0, ai 8 f25)) :: wr) := hD
      refine lv_aload_n hx hb d_M_steady_37 rfl (lv_at hl 0 rfl) ?_
      refine va_get (D := D) (ci := 6) (v := .int (iI (1))) (C := R_M) (T := F_M) (N := 26) hx hb hG in_M hown hK hP 0 rfl rfl 0 (by decide) (hG _ g_627) (fun _ h9 => h9) rfl d_M_steady_38 ?_
      refine ri_if_le (tgt := 46) hx hb d_M_steady_41 (by decide) (by omega) (fun c41 => ?_) (fun c41 => ?_)
      · exact absurd c41 (by decide)
      · refine ri_iconst hx hb d_M_steady_44 ?_
        exact re_i hx hb hr hlocks (fun t ht hW => ⟨_, ⟨fun _ => ⟨rfl, rfl⟩, fun h => absurd h (by omega), fun h => absurd h (by omega), fun h => absurd h (by omega)⟩, wd_next h0 hS hP hD t ht hW⟩) hS.2.2 (Nat.le_of_ble_eq_true rfl) (Nat.le_of_ble_eq_true rfl) d_M_steady_45

set_option maxHeartbeats 4000000 in
set_option maxRecDepth 100000 in
theorem c_M_volume {l : Launch} {s0 : State} {D : va_G} {k : Nat → ClassId} (hC : Cx l s0 D k) (am a4 a5 a6 a7 a8 a10 a11 a12 a14 a15 a16 a18 a19 a20 a24 a25 : Nat) (y0 y1 y2 y3 y9 y13 y17 y21 y22 y23 : Int) (f4 f5 f6 f7 f8 f10 f11 f12 f14 f15 f16 f18 f19 f20 f24 f25 : Int → Int) (wr : va_W) (hy9 : 0 ≤ y9 ∧ y9 ≤ 6) (hf10 : ∀ i : Int, 0 ≤ i → i < y9 → 0 ≤ f10 i ∧ f10 i ≤ 64) (hf12 : ∀ i : Int, 0 ≤ i → i < y9 → ∀ j : Int, 0 ≤ j → j ≤ f10 i → 0 ≤ f12 (65 * i + j) ∧ f12 (65 * i + j) ≤ 500) (p up : Int) (hp : In32 p) (hup : up = 0 ∨ up = 1) : WdM l s0 D y_M_volume { frames := 2, cells := 0, slots := 0, locals := 46 } [.ref am, .int (iI (p)), .int (iI (up))] ((am, .inr (6, [.int (iI (y0)), .int (iI (y1)), .int (iI (y2)), .int (iI (y3)), .ref a4, .ref a5, .ref a6, .ref a7, .ref a8, .int (iI (y9)), .ref a10, .ref a11, .ref a12, .int (iI (y13)), .ref a14, .ref a15, .ref a16, .int (iI (y17)), .ref a18, .ref a19, .ref a20, .int (iI (y21)), .int (iI (y22)), .int (iI (y23)), .ref a24, .ref a25])) :: (a4, .inl (k 0, ai 64 f4)) :: (a5, .inl (k 0, ai 64 f5)) :: (a6, .inl (k 0, ai 64 f6)) :: (a7, .inl (k 0, ai 64 f7)) :: (a8, .inl (k 0, ai 64 f8)) :: (a10, .inl (k 0, ai 6 f10)) :: (a11, .inl (k 0, ai 6 f11)) :: (a12, .inl (k 0, ai 390 f12)) :: (a14, .inl (k 0, ai 6 f14)) :: (a15, .inl (k 0, ai 65 f15)) :: (a16, .inl (k 0, ai 65 f16)) :: (a18, .inl (k 0, ai 6 f18)) :: (a19, .inl (k 0, ai 96 f19)) :: (a20, .inl (k 0, ai 96 f20)) :: (a24, .inl (k 0, ai 8 f24)) :: (a25, .inl (k 0, ai 8 f25)) :: wr) (fun v ws' => (¬ (0 ≤ p ∧ p < y9) → v = some (.long (jJ (0))) ∧ ws' = ((am, .inr (6, [.int (iI (1)), .int (iI (y1)), .int (iI (y2)), .int (iI (y3)), .ref a4, .ref a5, .ref a6, .ref a7, .ref a8, .int (iI (y9)), .ref a10, .ref a11, .ref a12, .int (iI (y13)), .ref a14, .ref a15, .ref a16, .int (iI (y17)), .ref a18, .ref a19, .ref a20, .int (iI (y21)), .int (iI (y22)), .int (iI (y23)), .ref a24, .ref a25])) :: (a4, .inl (k 0, ai 64 f4)) :: (a5, .inl (k 0, ai 64 f5)) :: (a6, .inl (k 0, ai 64 f6)) :: (a7, .inl (k 0, ai 64 f7)) :: (a8, .inl (k 0, ai 64 f8)) :: (a10, .inl (k 0, ai 6 f10)) :: (a11, .inl (k 0, ai 6 f11)) :: (a12, .inl (k 0, ai 390 f12)) :: (a14, .inl (k 0, ai 6 f14)) :: (a15, .inl (k 0, ai 65 f15)) :: (a16, .inl (k 0, ai 65 f16)) :: (a18, .inl (k 0, ai 6 f18)) :: (a19, .inl (k 0, ai 96 f19)) :: (a20, .inl (k 0, ai 96 f20)) :: (a24, .inl (k 0, ai 8 f24)) :: (a25, .inl (k 0, ai 8 f25)) :: wr)) ∧ ((0 ≤ p ∧ p < y9) → v = some (.long (jJ (if up = 0 then (itF (fun a b => a + b) (sqF (fun j => f12 (65 * p + j)) up) 0 1 (f10 p).toNat * 314159).tdiv 100000 else (itF (fun a b => a + b) (sqF (fun j => f12 (65 * p + j)) up) 0 1 (f10 p).toNat * 314160).tdiv 100000 + 1))) ∧ ws' = ((am, .inr (6, [.int (iI (0)), .int (iI (y1)), .int (iI (y2)), .int (iI (y3)), .ref a4, .ref a5, .ref a6, .ref a7, .ref a8, .int (iI (y9)), .ref a10, .ref a11, .ref a12, .int (iI (y13)), .ref a14, .ref a15, .ref a16, .int (iI (y17)), .ref a18, .ref a19, .ref a20, .int (iI (y21)), .int (iI (y22)), .int (iI (y23)), .ref a24, .ref a25])) :: (a4, .inl (k 0, ai 64 f4)) :: (a5, .inl (k 0, ai 64 f5)) :: (a6, .inl (k 0, ai 64 f6)) :: (a7, .inl (k 0, ai 64 f7)) :: (a8, .inl (k 0, ai 64 f8)) :: (a10, .inl (k 0, ai 6 f10)) :: (a11, .inl (k 0, ai 6 f11)) :: (a12, .inl (k 0, ai 390 f12)) :: (a14, .inl (k 0, ai 6 f14)) :: (a15, .inl (k 0, ai 65 f15)) :: (a16, .inl (k 0, ai 65 f16)) :: (a18, .inl (k 0, ai 6 f18)) :: (a19, .inl (k 0, ai 96 f19)) :: (a20, .inl (k 0, ai 96 f20)) :: (a24, .inl (k 0, ai 8 f24)) :: (a25, .inl (k 0, ai 8 f25)) :: wr))) (fun E ws' => False) 0 0 := by
  refine ex_ofW (cc := b_M_volume) (maxL := 9) (ret := (some .long)) (hh := []) (by decide +kernel) (Or.inl ⟨g_828, rfl⟩) ?_
  intro p9 e9 s m9 args9 below9 meth9 c9 s9 B9 hml htab hv
  obtain ⟨rfl, h0, hP, hD⟩ := hv
  have hx := B9.exec
  have hb := B9.bytes
  have hr := B9.returns
  have hG := atoms_spec (ws := GW) B9.pre
  have hown : s.vm.findClass "LathePiecesModel" = some m9.cls := findClass_of_methodNamed B9.named
  have hlocks := B9.notSynchronized
  have hK := cx_K hC h0
  have hS : va_S (aL s0) s.heap s.heap [] := va_S.rf
  have hA : ∀ q : Nat, s.heap.size ≤ q → aL s0 q := fun q h => Nat.le_trans h0.2.1 h
  have hl := lv_entry ([.ref am, .int (iI (p)), .int (iI (up))]) (n := 9) (Nat.le_of_ble_eq_true rfl)
  rw [lg_entry_eq]
  generalize (lg_sl ([.ref am, .int (iI (p)), .int (iI (up))]) ++ List.replicate (9 - (lg_sl ([.ref am, .int (iI (p)), .int (iI (up))])).length) Slot.unset).toArray = ls at hl ⊢
  replace hl : lv_has ls 9 [(0, .ref am), (1, .int (iI (p))), (2, .int (iI (up)))] := hl
  refine lv_aload_n hx hb d_M_volume_0 rfl (lv_at hl 0 rfl) ?_
  refine lv_aload_n hx hb d_M_volume_1 rfl (lv_at hl 0 rfl) ?_
  refine lv_iload_n hx hb d_M_volume_2 rfl (lv_at hl 1 rfl) ?_
  refine rd_call (ex_runV (C := "LathePiecesModel") (As := [.int (iI (p))]) (rest := [.ref am]) ⟨hx, hb, hml, hown, hG⟩ (c_M_isPiece hC y9 am [.int (iI (y0)), .int (iI (y1)), .int (iI (y2)), .int (iI (y3)), .ref a4, .ref a5, .ref a6, .ref a7, .ref a8, .int (iI (y9)), .ref a10, .ref a11, .ref a12, .int (iI (y13)), .ref a14, .ref a15, .ref a16, .int (iI (y17)), .ref a18, .ref a19, .ref a20, .int (iI (y21)), .int (iI (y22)), .int (iI (y23)), .ref a24, .ref a25] rfl hy9 p (by omega)) (cb_code (n := 1) hG g_772 g_3 g_769 rfl rfl (by decide +kernel) ⟨Nat.le_of_ble_eq_true rfl, Nat.le_of_ble_eq_true rfl⟩) (hG _ g_771) (hG _ gs_M_isPiece) (kd_V ⟨fun _ _ _ _ q => q, fun U hU hW => ⟨rfl, la_next h0 (fun _ z => z) hS U hU hW, (by show va_P D classes _ U.heap; rw [hU]; exact (va_P.sub hP [0] rfl))⟩⟩ (kd_recv hK hP (q0 := 0) (ci := 6) rfl rfl rfl)) rfl rfl hl.1 rfl (lv_room (Nat.le_of_ble_eq_true rfl)) d_M_volume_3 ⟨Nat.le_of_ble_eq_true rfl, Nat.le_of_ble_eq_true rfl⟩) (fun v9 h9 => ?_)
  rcases h9 with ⟨rfl, n6⟩ | ⟨rfl, n6⟩
  · show W _ _ _ _ _ _ _ _ _ _ _ _ _ _ _ (F0 m9 6 ls [.int (iI (1)), .ref am])
    refine ri_if_eq (tgt := 13) hx hb d_M_volume_6 (by decide) (by omega) (fun c6 => ?_) (fun c6 => ?_)
    · exact absurd c6 (by decide)
    · refine ri_iconst hx hb d_M_volume_9 ?_
      refine lv_goto (tgt := 14) hx hb d_M_volume_10 (by decide) ?_
      refine va_put (D := D) (ci := 6) (v := .int (iI (0))) (ty := .int) (C := R_M) (T := F_M) (N := 26) hx hb hG in_M t_M t_M_ok n_M hown hK hP hD hS 0 rfl rfl 0 (by decide) (hG _ g_627) (fun _ h9 => h9) rfl (by decide +kernel) rfl rfl (Nat.le_of_ble_eq_true rfl) d_M_volume_14 (fun H locs hP hD hS => ?_)
      have hP : va_P D classes ((am, .inr (6, [.int (iI (0)), .int (iI (y1)), .int (iI (y2)), .int (iI (y3)), .ref a4, .ref a5, .ref a6, .ref a7, .ref a8, .int (iI (y9)), .ref a10, .ref a11, .ref a12, .int (iI (y13)), .ref a14, .ref a15, .ref a16, .int (iI (y17)), .ref a18, .ref a19, .ref a20, .int (iI (y21)), .int (iI (y22)), .int (iI (y23)), .ref a24, .ref a25])) :: (a4, .inl (k 0, ai 64 f4)) :: (a5, .inl (k 0, ai 64 f5)) :: (a6, .inl (k 0, ai 64 f6)) :: (a7, .inl (k 0, ai 64 f7)) :: (a8, .inl (k 0, ai 64 f8)) :: (a10, .inl (k 0, ai 6 f10)) :: (a11, .inl (k 0, ai 6 f11)) :: (a12, .inl (k 0, ai 390 f12)) :: (a14, .inl (k 0, ai 6 f14)) :: (a15, .inl (k 0, ai 65 f15)) :: (a16, .inl (k 0, ai 65 f16)) :: (a18, .inl (k 0, ai 6 f18)) :: (a19, .inl (k 0, ai 96 f19)) :: (a20, .inl (k 0, ai 96 f20)) :: (a24, .inl (k 0, ai 8 f24)) :: (a25, .inl (k 0, ai 8 f25)) :: wr) H := hP
      have hD : va_D (fun q : Nat => s0.heap.size ≤ q) ((am, .inr (6, [.int (iI (0)), .int (iI (y1)), .int (iI (y2)), .int (iI (y3)), .ref a4, .ref a5, .ref a6, .ref a7, .ref a8, .int (iI (y9)), .ref a10, .ref a11, .ref a12, .int (iI (y13)), .ref a14, .ref a15, .ref a16, .int (iI (y17)), .ref a18, .ref a19, .ref a20, .int (iI (y21)), .int (iI (y22)), .int (iI (y23)), .ref a24, .ref a25])) :: (a4, .inl (k 0, ai 64 f4)) :: (a5, .inl (k 0, ai 64 f5)) :: (a6, .inl (k 0, ai 64 f6)) :: (a7, .inl (k 0, ai 64 f7)) :: (a8, .inl (k 0, ai 64 f8)) :: (a10, .inl (k 0, ai 6 f10)) :: (a11, .inl (k 0, ai 6 f11)) :: (a12, .inl (k 0, ai 390 f12)) :: (a14, .inl (k 0, ai 6 f14)) :: (a15, .inl (k 0, ai 65 f15)) :: (a16, .inl (k 0, ai 65 f16)) :: (a18, .inl (k 0, ai 6 f18)) :: (a19, .inl (k 0, ai 96 f19)) :: (a20, .inl (k 0, ai 96 f20)) :: (a24, .inl (k 0, ai 8 f24)) :: (a25, .inl (k 0, ai 8 f25)) :: wr) := hD
      refine ri_lconst (z := 0) hx hb d_M_volume_17 rfl ?_
      refine lv_lstore_n (lv' := [(3, .long (jJ (0))), (0, .ref am), (1, .int (iI (p))), (2, .int (iI (up)))]) hx hb d_M_volume_18 rfl hl (by decide) rfl (fun ls hl => ?_)
      refine ri_iconst hx hb d_M_volume_19 ?_
      refine lv_istore (lv' := [(5, .int (iI (1))), (3, .long (jJ (0))), (0, .ref am), (1, .int (iI (p))), (2, .int (iI (up)))]) hx hb d_M_volume_20 hl (by decide) rfl (fun ls hl => ?_)
      have h7 := hf10 p (by omega) (by omega)
      obtain ⟨L, hL⟩ : ∃ L : Nat, f10 p = (L : Int) := ⟨(f10 p).toNat, (Int.toNat_of_nonneg h7.1).symm⟩
      have gL : (f10 p).toNat = L := by omega
      have hL64 : L ≤ 64 := by omega
      have hrr : ∀ j : Int, 0 ≤ j → j ≤ L → 0 ≤ f12 (65 * p + j) ∧ f12 (65 * p + j) ≤ 500 := fun j h1 h2 => hf12 p (by omega) (by omega) j h1 (by omega)
      replace hl : lv_has ls 9 [(5, .int (iI (1 + ((0 : Nat) : Int)))), (3, .long (jJ (itF (fun a b => a + b) (sqF (fun j => f12 (65 * p + j)) up) 0 1 0))), (0, .ref am), (1, .int (iI (p))), (2, .int (iI (up)))] := hl
      obtain ⟨κ, ν, hinv, hl1⟩ : ∃ (κ : Nat) (ν : Nat), (ν + κ = L) ∧ lv_has ls 9 [(0, .ref am), (1, .int (iI (p))), (2, .int (iI (up))), (3, .long (jJ (itF (fun a b => a + b) (sqF (fun j => f12 (65 * p + j)) up) 0 1 ν))), (5, .int (iI (1 + (ν : Int))))] := ⟨L, 0, (by omega), lv_sub hl [2, 3, 4, 1, 0] rfl⟩
      clear hl
      have hl := hl1
      clear hl1
      induction κ generalizing ν ls with
      | zero =>
        obtain h1 := hinv
        have hS9 := sqS_rg (r := (fun j => f12 (65 * p + j))) (up := up) ν (fun j h1 h2 => hrr j h1 (by omega))
        refine lv_aload_n hx hb d_M_volume_22 rfl (lv_at hl 0 rfl) ?_
        refine va_get (D := D) (ci := 6) (v := .int (iI (0))) (C := R_M) (T := F_M) (N := 26) hx hb hG in_M hown hK hP 0 rfl rfl 0 (by decide) (hG _ g_627) (fun _ h9 => h9) rfl d_M_volume_23 ?_
        refine ri_if_ne (tgt := 111) hx hb d_M_volume_26 (by decide) (by omega) (fun c26 => ?_) (fun c26 => ?_)
        · exact absurd rfl c26
        · refine lv_iload hx hb d_M_volume_29 (lv_at hl 4 rfl) ?_
          refine lv_aload_n hx hb d_M_volume_31 rfl (lv_at hl 0 rfl) ?_
          refine va_get (D := D) (ci := 6) (v := .ref a10) (C := R_M) (T := F_M) (N := 26) hx hb hG in_M hown hK hP 0 rfl rfl 10 (by decide) (hG _ g_637) (fun _ h9 => h9) rfl d_M_volume_32 ?_
          refine lv_iload_n hx hb d_M_volume_35 rfl (lv_at hl 1 rfl) ?_
          refine ra_iald hx hb hK hP 6 rfl (by omega) (by omega) d_M_volume_36 ?_
          refine ri_icmp_gt (tgt := 111) hx hb d_M_volume_37 (by decide) (by omega) (by omega) (fun c37 => ?_) (fun c37 => ?_)
          · refine lv_aload_n hx hb d_M_volume_111 rfl (lv_at hl 0 rfl) ?_
            refine va_get (D := D) (ci := 6) (v := .int (iI (0))) (C := R_M) (T := F_M) (N := 26) hx hb hG in_M hown hK hP 0 rfl rfl 0 (by decide) (hG _ g_627) (fun _ h9 => h9) rfl d_M_volume_112 ?_
            refine ri_if_le (tgt := 122) hx hb d_M_volume_115 (by decide) (by omega) (fun c115 => ?_) (fun c115 => ?_)
            · refine lv_iload_n hx hb d_M_volume_122 rfl (lv_at hl 2 rfl) ?_
              refine ri_if_eq (tgt := 140) hx hb d_M_volume_123 (by decide) (by omega) (fun c123 => ?_) (fun c123 => ?_)
              · refine lv_lload_n hx hb d_M_volume_140 rfl (lv_at hl 3 rfl) ?_
                refine lv_ldc2 (v := jJ 314159) hx hb hown (hG _ g_831) d_M_volume_141 ?_
                refine ri_lmul hx hb d_M_volume_144 ?_
                refine lv_ldc2 (v := jJ 100000) hx hb hown (hG _ g_830) d_M_volume_145 ?_
                refine ri_ldiv hx hb d_M_volume_148 (by omega) (by omega) (by omega) ?_
                exact re_l hx hb hr hlocks (fun t ht hW => ⟨_, ⟨fun h => absurd h (by omega), fun _ => ⟨by rw [gL, show L = ν by omega, if_pos (by omega)], rfl⟩⟩, wd_next h0 hS hP hD t ht hW⟩) hS.2.2 (Nat.le_of_ble_eq_true rfl) (Nat.le_of_ble_eq_true rfl) d_M_volume_149
              · refine lv_lload_n hx hb d_M_volume_126 rfl (lv_at hl 3 rfl) ?_
                refine lv_ldc2 (v := jJ 314160) hx hb hown (hG _ g_829) d_M_volume_127 ?_
                refine ri_lmul hx hb d_M_volume_130 ?_
                refine lv_ldc2 (v := jJ 100000) hx hb hown (hG _ g_830) d_M_volume_131 ?_
                refine ri_ldiv hx hb d_M_volume_134 (by omega) (by omega) (by omega) ?_
                refine ri_lconst (z := 1) hx hb d_M_volume_135 rfl ?_
                refine ri_ladd hx hb d_M_volume_136 ?_
                refine lv_goto (tgt := 149) hx hb d_M_volume_137 (by decide) ?_
                exact re_l hx hb hr hlocks (fun t ht hW => ⟨_, ⟨fun h => absurd h (by omega), fun _ => ⟨by rw [gL, show L = ν by omega, if_neg (by omega)], rfl⟩⟩, wd_next h0 hS hP hD t ht hW⟩) hS.2.2 (Nat.le_of_ble_eq_true rfl) (Nat.le_of_ble_eq_true rfl) d_M_volume_149
            · exact absurd c115 (by decide)
          · exact absurd c37 (by omega)
      | succ κ ih =>
        obtain h1 := hinv
        have hS9 := sqS_rg (r := (fun j => f12 (65 * p + j))) (up := up) ν (fun j h1 h2 => hrr j h1 (by omega))
        refine lv_aload_n hx hb d_M_volume_22 rfl (lv_at hl 0 rfl) ?_
        refine va_get (D := D) (ci := 6) (v := .int (iI (0))) (C := R_M) (T := F_M) (N := 26) hx hb hG in_M hown hK hP 0 rfl rfl 0 (by decide) (hG _ g_627) (fun _ h9 => h9) rfl d_M_volume_23 ?_
        refine ri_if_ne (tgt := 111) hx hb d_M_volume_26 (by decide) (by omega) (fun c26 => ?_) (fun c26 => ?_)
        · exact absurd rfl c26
        · refine lv_iload hx hb d_M_volume_29 (lv_at hl 4 rfl) ?_
          refine lv_aload_n hx hb d_M_volume_31 rfl (lv_at hl 0 rfl) ?_
          refine va_get (D := D) (ci := 6) (v := .ref a10) (C := R_M) (T := F_M) (N := 26) hx hb hG in_M hown hK hP 0 rfl rfl 10 (by decide) (hG _ g_637) (fun _ h9 => h9) rfl d_M_volume_32 ?_
          refine lv_iload_n hx hb d_M_volume_35 rfl (lv_at hl 1 rfl) ?_
          refine ra_iald hx hb hK hP 6 rfl (by omega) (by omega) d_M_volume_36 ?_
          refine ri_icmp_gt (tgt := 111) hx hb d_M_volume_37 (by decide) (by omega) (by omega) (fun c37 => ?_) (fun c37 => ?_)
          · exact absurd c37 (by omega)
          · have q1 := hrr (1 + (ν : Int) - 1) (by omega) (by omega)
            have q2 := hrr (1 + (ν : Int)) (by omega) (by omega)
            refine lv_aload_n hx hb d_M_volume_40 rfl (lv_at hl 0 rfl) ?_
            refine va_get (D := D) (ci := 6) (v := .ref a12) (C := R_M) (T := F_M) (N := 26) hx hb hG in_M hown hK hP 0 rfl rfl 12 (by decide) (hG _ g_639) (fun _ h9 => h9) rfl d_M_volume_41 ?_
            refine ri_bipush hx hb d_M_volume_44 (by decide) ?_
            refine lv_iload_n hx hb d_M_volume_46 rfl (lv_at hl 1 rfl) ?_
            refine ri_imul hx hb d_M_volume_47 ?_
            refine lv_iload hx hb d_M_volume_48 (lv_at hl 4 rfl) ?_
            refine ri_iadd hx hb d_M_volume_50 ?_
            refine ri_iconst hx hb d_M_volume_51 ?_
            refine ri_isub hx hb d_M_volume_52 ?_
            refine tp_i (congrArg iI (show ((65 * p) + (1 + (ν : Int))) - 1 = 65 * p + (1 + (ν : Int) - 1) from by omega)) ?_
            refine ra_iald hx hb hK hP 8 rfl (by omega) (by omega) d_M_volume_53 ?_
            refine lv_istore (lv' := [(6, .int (iI (f12 (65 * p + (1 + (ν : Int) - 1))))), (0, .ref am), (1, .int (iI (p))), (2, .int (iI (up))), (3, .long (jJ (itF (fun a b => a + b) (sqF (fun j => f12 (65 * p + j)) up) 0 1 ν))), (5, .int (iI (1 + (ν : Int))))]) hx hb d_M_volume_54 hl (by decide) rfl (fun ls hl => ?_)
            refine lv_aload_n hx hb d_M_volume_56 rfl (lv_at hl 1 rfl) ?_
            refine va_get (D := D) (ci := 6) (v := .ref a12) (C := R_M) (T := F_M) (N := 26) hx hb hG in_M hown hK hP 0 rfl rfl 12 (by decide) (hG _ g_639) (fun _ h9 => h9) rfl d_M_volume_57 ?_
            refine ri_bipush hx hb d_M_volume_60 (by decide) ?_
            refine lv_iload_n hx hb d_M_volume_62 rfl (lv_at hl 2 rfl) ?_
            refine ri_imul hx hb d_M_volume_63 ?_
            refine lv_iload hx hb d_M_volume_64 (lv_at hl 5 rfl) ?_
            refine ri_iadd hx hb d_M_volume_66 ?_
            refine tp_i (congrArg iI (show (65 * p) + (1 + (ν : Int)) = 65 * p + (1 + (ν : Int)) from by omega)) ?_
            refine ra_iald hx hb hK hP 8 rfl (by omega) (by omega) d_M_volume_67 ?_
            refine lv_istore (lv' := [(7, .int (iI (f12 (65 * p + (1 + (ν : Int)))))), (6, .int (iI (f12 (65 * p + (1 + (ν : Int) - 1))))), (0, .ref am), (1, .int (iI (p))), (2, .int (iI (up))), (3, .long (jJ (itF (fun a b => a + b) (sqF (fun j => f12 (65 * p + j)) up) 0 1 ν))), (5, .int (iI (1 + (ν : Int))))]) hx hb d_M_volume_68 hl (by decide) rfl (fun ls hl => ?_)
            refine lv_iload hx hb d_M_volume_70 (lv_at hl 1 rfl) ?_
            refine lv_iload hx hb d_M_volume_72 (lv_at hl 0 rfl) ?_
            refine ri_icmp_ge (tgt := 81) hx hb d_M_volume_74 (by decide) (by omega) (by omega) (fun c74 => ?_) (fun c74 => ?_)
            · refine ri_iconst hx hb d_M_volume_81 ?_
              refine lv_iload_n hx hb d_M_volume_82 rfl (lv_at hl 4 rfl) ?_
              refine ri_icmp_ne (tgt := 91) hx hb d_M_volume_83 (by decide) (by omega) (by omega) (fun c83 => ?_) (fun c83 => ?_)
              · refine lv_iload hx hb d_M_volume_91 (lv_at hl 1 rfl) ?_
                have q3 : f12 (65 * p + (1 + (ν : Int) - 1)) = (if up = 0 then min (f12 (65 * p + (1 + (ν : Int) - 1))) (f12 (65 * p + (1 + (ν : Int)))) else max (f12 (65 * p + (1 + (ν : Int) - 1))) (f12 (65 * p + (1 + (ν : Int))))) := by split <;> omega
                refine tp_i (congrArg iI (show f12 (65 * p + (1 + (ν : Int) - 1)) = (if up = 0 then min (f12 (65 * p + (1 + (ν : Int) - 1))) (f12 (65 * p + (1 + (ν : Int)))) else max (f12 (65 * p + (1 + (ν : Int) - 1))) (f12 (65 * p + (1 + (ν : Int))))) from q3)) ?_
                have q4 : 0 ≤ (if up = 0 then min (f12 (65 * p + (1 + (ν : Int) - 1))) (f12 (65 * p + (1 + (ν : Int)))) else max (f12 (65 * p + (1 + (ν : Int) - 1))) (f12 (65 * p + (1 + (ν : Int))))) ∧ (if up = 0 then min (f12 (65 * p + (1 + (ν : Int) - 1))) (f12 (65 * p + (1 + (ν : Int)))) else max (f12 (65 * p + (1 + (ν : Int) - 1))) (f12 (65 * p + (1 + (ν : Int))))) ≤ 500 := by split <;> omega
                have q5 : (if up = 0 then min (f12 (65 * p + (1 + (ν : Int) - 1))) (f12 (65 * p + (1 + (ν : Int)))) else max (f12 (65 * p + (1 + (ν : Int) - 1))) (f12 (65 * p + (1 + (ν : Int))))) * (if up = 0 then min (f12 (65 * p + (1 + (ν : Int) - 1))) (f12 (65 * p + (1 + (ν : Int)))) else max (f12 (65 * p + (1 + (ν : Int) - 1))) (f12 (65 * p + (1 + (ν : Int))))) = sqF (fun j => f12 (65 * p + j)) up (1 + (ν : Int)) := by unfold sqF; split <;> rfl
                refine lv_istore (lv' := [(8, .int (iI ((if up = 0 then min (f12 (65 * p + (1 + (ν : Int) - 1))) (f12 (65 * p + (1 + (ν : Int)))) else max (f12 (65 * p + (1 + (ν : Int) - 1))) (f12 (65 * p + (1 + (ν : Int)))))))), (7, .int (iI (f12 (65 * p + (1 + (ν : Int)))))), (6, .int (iI (f12 (65 * p + (1 + (ν : Int) - 1))))), (0, .ref am), (1, .int (iI (p))), (2, .int (iI (up))), (3, .long (jJ (itF (fun a b => a + b) (sqF (fun j => f12 (65 * p + j)) up) 0 1 ν))), (5, .int (iI (1 + (ν : Int))))]) hx hb d_M_volume_93 hl (by decide) rfl (fun ls hl => ?_)
                refine lv_lload_n hx hb d_M_volume_95 rfl (lv_at hl 6 rfl) ?_
                refine lv_iload hx hb d_M_volume_96 (lv_at hl 0 rfl) ?_
                refine ri_i2l hx hb d_M_volume_98 (by omega) ?_
                refine lv_iload hx hb d_M_volume_99 (lv_at hl 0 rfl) ?_
                refine ri_i2l hx hb d_M_volume_101 (by omega) ?_
                refine ri_lmul hx hb d_M_volume_102 ?_
                refine ri_ladd hx hb d_M_volume_103 ?_
                refine tp_l (congrArg jJ (show (itF (fun a b => a + b) (sqF (fun j => f12 (65 * p + j)) up) 0 1 ν) + (((if up = 0 then min (f12 (65 * p + (1 + (ν : Int) - 1))) (f12 (65 * p + (1 + (ν : Int)))) else max (f12 (65 * p + (1 + (ν : Int) - 1))) (f12 (65 * p + (1 + (ν : Int)))))) * ((if up = 0 then min (f12 (65 * p + (1 + (ν : Int) - 1))) (f12 (65 * p + (1 + (ν : Int)))) else max (f12 (65 * p + (1 + (ν : Int) - 1))) (f12 (65 * p + (1 + (ν : Int))))))) = itF (fun a b => a + b) (sqF (fun j => f12 (65 * p + j)) up) 0 1 (ν + 1) from by rw [itF_s, ← q5])) ?_
                refine lv_lstore_n (lv' := [(3, .long (jJ (itF (fun a b => a + b) (sqF (fun j => f12 (65 * p + j)) up) 0 1 (ν + 1)))), (8, .int (iI ((if up = 0 then min (f12 (65 * p + (1 + (ν : Int) - 1))) (f12 (65 * p + (1 + (ν : Int)))) else max (f12 (65 * p + (1 + (ν : Int) - 1))) (f12 (65 * p + (1 + (ν : Int)))))))), (7, .int (iI (f12 (65 * p + (1 + (ν : Int)))))), (6, .int (iI (f12 (65 * p + (1 + (ν : Int) - 1))))), (0, .ref am), (1, .int (iI (p))), (2, .int (iI (up))), (5, .int (iI (1 + (ν : Int))))]) hx hb d_M_volume_104 rfl hl (by decide) rfl (fun ls hl => ?_)
                refine lv_iinc (v := iI (1 + ((ν + 1 : Nat) : Int))) (lv' := [(5, .int (iI (1 + ((ν + 1 : Nat) : Int)))), (3, .long (jJ (itF (fun a b => a + b) (sqF (fun j => f12 (65 * p + j)) up) 0 1 (ν + 1)))), (8, .int (iI ((if up = 0 then min (f12 (65 * p + (1 + (ν : Int) - 1))) (f12 (65 * p + (1 + (ν : Int)))) else max (f12 (65 * p + (1 + (ν : Int) - 1))) (f12 (65 * p + (1 + (ν : Int)))))))), (7, .int (iI (f12 (65 * p + (1 + (ν : Int)))))), (6, .int (iI (f12 (65 * p + (1 + (ν : Int) - 1))))), (0, .ref am), (1, .int (iI (p))), (2, .int (iI (up)))]) hx hb d_M_volume_105 hl (k := 7) rfl ((ii_add _ _).trans (congrArg iI (by omega))) (by decide) rfl (fun ls hl => ?_)
                refine lv_goto (tgt := 22) hx hb d_M_volume_108 (by decide) ?_
                exact ih ls (ν + 1) (by omega) (lv_sub hl [5, 6, 7, 1, 0] rfl)
              · refine lv_iload hx hb d_M_volume_86 (lv_at hl 0 rfl) ?_
                refine lv_goto (tgt := 93) hx hb d_M_volume_88 (by decide) ?_
                have q3 : f12 (65 * p + (1 + (ν : Int))) = (if up = 0 then min (f12 (65 * p + (1 + (ν : Int) - 1))) (f12 (65 * p + (1 + (ν : Int)))) else max (f12 (65 * p + (1 + (ν : Int) - 1))) (f12 (65 * p + (1 + (ν : Int))))) := by split <;> omega
                refine tp_i (congrArg iI (show f12 (65 * p + (1 + (ν : Int))) = (if up = 0 then min (f12 (65 * p + (1 + (ν : Int) - 1))) (f12 (65 * p + (1 + (ν : Int)))) else max (f12 (65 * p + (1 + (ν : Int) - 1))) (f12 (65 * p + (1 + (ν : Int))))) from q3)) ?_
                have q4 : 0 ≤ (if up = 0 then min (f12 (65 * p + (1 + (ν : Int) - 1))) (f12 (65 * p + (1 + (ν : Int)))) else max (f12 (65 * p + (1 + (ν : Int) - 1))) (f12 (65 * p + (1 + (ν : Int))))) ∧ (if up = 0 then min (f12 (65 * p + (1 + (ν : Int) - 1))) (f12 (65 * p + (1 + (ν : Int)))) else max (f12 (65 * p + (1 + (ν : Int) - 1))) (f12 (65 * p + (1 + (ν : Int))))) ≤ 500 := by split <;> omega
                have q5 : (if up = 0 then min (f12 (65 * p + (1 + (ν : Int) - 1))) (f12 (65 * p + (1 + (ν : Int)))) else max (f12 (65 * p + (1 + (ν : Int) - 1))) (f12 (65 * p + (1 + (ν : Int))))) * (if up = 0 then min (f12 (65 * p + (1 + (ν : Int) - 1))) (f12 (65 * p + (1 + (ν : Int)))) else max (f12 (65 * p + (1 + (ν : Int) - 1))) (f12 (65 * p + (1 + (ν : Int))))) = sqF (fun j => f12 (65 * p + j)) up (1 + (ν : Int)) := by unfold sqF; split <;> rfl
                refine lv_istore (lv' := [(8, .int (iI ((if up = 0 then min (f12 (65 * p + (1 + (ν : Int) - 1))) (f12 (65 * p + (1 + (ν : Int)))) else max (f12 (65 * p + (1 + (ν : Int) - 1))) (f12 (65 * p + (1 + (ν : Int)))))))), (7, .int (iI (f12 (65 * p + (1 + (ν : Int)))))), (6, .int (iI (f12 (65 * p + (1 + (ν : Int) - 1))))), (0, .ref am), (1, .int (iI (p))), (2, .int (iI (up))), (3, .long (jJ (itF (fun a b => a + b) (sqF (fun j => f12 (65 * p + j)) up) 0 1 ν))), (5, .int (iI (1 + (ν : Int))))]) hx hb d_M_volume_93 hl (by decide) rfl (fun ls hl => ?_)
                refine lv_lload_n hx hb d_M_volume_95 rfl (lv_at hl 6 rfl) ?_
                refine lv_iload hx hb d_M_volume_96 (lv_at hl 0 rfl) ?_
                refine ri_i2l hx hb d_M_volume_98 (by omega) ?_
                refine lv_iload hx hb d_M_volume_99 (lv_at hl 0 rfl) ?_
                refine ri_i2l hx hb d_M_volume_101 (by omega) ?_
                refine ri_lmul hx hb d_M_volume_102 ?_
                refine ri_ladd hx hb d_M_volume_103 ?_
                refine tp_l (congrArg jJ (show (itF (fun a b => a + b) (sqF (fun j => f12 (65 * p + j)) up) 0 1 ν) + (((if up = 0 then min (f12 (65 * p + (1 + (ν : Int) - 1))) (f12 (65 * p + (1 + (ν : Int)))) else max (f12 (65 * p + (1 + (ν : Int) - 1))) (f12 (65 * p + (1 + (ν : Int)))))) * ((if up = 0 then min (f12 (65 * p + (1 + (ν : Int) - 1))) (f12 (65 * p + (1 + (ν : Int)))) else max (f12 (65 * p + (1 + (ν : Int) - 1))) (f12 (65 * p + (1 + (ν : Int))))))) = itF (fun a b => a + b) (sqF (fun j => f12 (65 * p + j)) up) 0 1 (ν + 1) from by rw [itF_s, ← q5])) ?_
                refine lv_lstore_n (lv' := [(3, .long (jJ (itF (fun a b => a + b) (sqF (fun j => f12 (65 * p + j)) up) 0 1 (ν + 1)))), (8, .int (iI ((if up = 0 then min (f12 (65 * p + (1 + (ν : Int) - 1))) (f12 (65 * p + (1 + (ν : Int)))) else max (f12 (65 * p + (1 + (ν : Int) - 1))) (f12 (65 * p + (1 + (ν : Int)))))))), (7, .int (iI (f12 (65 * p + (1 + (ν : Int)))))), (6, .int (iI (f12 (65 * p + (1 + (ν : Int) - 1))))), (0, .ref am), (1, .int (iI (p))), (2, .int (iI (up))), (5, .int (iI (1 + (ν : Int))))]) hx hb d_M_volume_104 rfl hl (by decide) rfl (fun ls hl => ?_)
                refine lv_iinc (v := iI (1 + ((ν + 1 : Nat) : Int))) (lv' := [(5, .int (iI (1 + ((ν + 1 : Nat) : Int)))), (3, .long (jJ (itF (fun a b => a + b) (sqF (fun j => f12 (65 * p + j)) up) 0 1 (ν + 1)))), (8, .int (iI ((if up = 0 then min (f12 (65 * p + (1 + (ν : Int) - 1))) (f12 (65 * p + (1 + (ν : Int)))) else max (f12 (65 * p + (1 + (ν : Int) - 1))) (f12 (65 * p + (1 + (ν : Int)))))))), (7, .int (iI (f12 (65 * p + (1 + (ν : Int)))))), (6, .int (iI (f12 (65 * p + (1 + (ν : Int) - 1))))), (0, .ref am), (1, .int (iI (p))), (2, .int (iI (up)))]) hx hb d_M_volume_105 hl (k := 7) rfl ((ii_add _ _).trans (congrArg iI (by omega))) (by decide) rfl (fun ls hl => ?_)
                refine lv_goto (tgt := 22) hx hb d_M_volume_108 (by decide) ?_
                exact ih ls (ν + 1) (by omega) (lv_sub hl [5, 6, 7, 1, 0] rfl)
            · refine ri_iconst hx hb d_M_volume_77 ?_
              refine lv_goto (tgt := 82) hx hb d_M_volume_78 (by decide) ?_
              refine lv_iload_n hx hb d_M_volume_82 rfl (lv_at hl 4 rfl) ?_
              refine ri_icmp_ne (tgt := 91) hx hb d_M_volume_83 (by decide) (by omega) (by omega) (fun c83 => ?_) (fun c83 => ?_)
              · refine lv_iload hx hb d_M_volume_91 (lv_at hl 1 rfl) ?_
                have q3 : f12 (65 * p + (1 + (ν : Int) - 1)) = (if up = 0 then min (f12 (65 * p + (1 + (ν : Int) - 1))) (f12 (65 * p + (1 + (ν : Int)))) else max (f12 (65 * p + (1 + (ν : Int) - 1))) (f12 (65 * p + (1 + (ν : Int))))) := by split <;> omega
                refine tp_i (congrArg iI (show f12 (65 * p + (1 + (ν : Int) - 1)) = (if up = 0 then min (f12 (65 * p + (1 + (ν : Int) - 1))) (f12 (65 * p + (1 + (ν : Int)))) else max (f12 (65 * p + (1 + (ν : Int) - 1))) (f12 (65 * p + (1 + (ν : Int))))) from q3)) ?_
                have q4 : 0 ≤ (if up = 0 then min (f12 (65 * p + (1 + (ν : Int) - 1))) (f12 (65 * p + (1 + (ν : Int)))) else max (f12 (65 * p + (1 + (ν : Int) - 1))) (f12 (65 * p + (1 + (ν : Int))))) ∧ (if up = 0 then min (f12 (65 * p + (1 + (ν : Int) - 1))) (f12 (65 * p + (1 + (ν : Int)))) else max (f12 (65 * p + (1 + (ν : Int) - 1))) (f12 (65 * p + (1 + (ν : Int))))) ≤ 500 := by split <;> omega
                have q5 : (if up = 0 then min (f12 (65 * p + (1 + (ν : Int) - 1))) (f12 (65 * p + (1 + (ν : Int)))) else max (f12 (65 * p + (1 + (ν : Int) - 1))) (f12 (65 * p + (1 + (ν : Int))))) * (if up = 0 then min (f12 (65 * p + (1 + (ν : Int) - 1))) (f12 (65 * p + (1 + (ν : Int)))) else max (f12 (65 * p + (1 + (ν : Int) - 1))) (f12 (65 * p + (1 + (ν : Int))))) = sqF (fun j => f12 (65 * p + j)) up (1 + (ν : Int)) := by unfold sqF; split <;> rfl
                refine lv_istore (lv' := [(8, .int (iI ((if up = 0 then min (f12 (65 * p + (1 + (ν : Int) - 1))) (f12 (65 * p + (1 + (ν : Int)))) else max (f12 (65 * p + (1 + (ν : Int) - 1))) (f12 (65 * p + (1 + (ν : Int)))))))), (7, .int (iI (f12 (65 * p + (1 + (ν : Int)))))), (6, .int (iI (f12 (65 * p + (1 + (ν : Int) - 1))))), (0, .ref am), (1, .int (iI (p))), (2, .int (iI (up))), (3, .long (jJ (itF (fun a b => a + b) (sqF (fun j => f12 (65 * p + j)) up) 0 1 ν))), (5, .int (iI (1 + (ν : Int))))]) hx hb d_M_volume_93 hl (by decide) rfl (fun ls hl => ?_)
                refine lv_lload_n hx hb d_M_volume_95 rfl (lv_at hl 6 rfl) ?_
                refine lv_iload hx hb d_M_volume_96 (lv_at hl 0 rfl) ?_
                refine ri_i2l hx hb d_M_volume_98 (by omega) ?_
                refine lv_iload hx hb d_M_volume_99 (lv_at hl 0 rfl) ?_
                refine ri_i2l hx hb d_M_volume_101 (by omega) ?_
                refine ri_lmul hx hb d_M_volume_102 ?_
                refine ri_ladd hx hb d_M_volume_103 ?_
                refine tp_l (congrArg jJ (show (itF (fun a b => a + b) (sqF (fun j => f12 (65 * p + j)) up) 0 1 ν) + (((if up = 0 then min (f12 (65 * p + (1 + (ν : Int) - 1))) (f12 (65 * p + (1 + (ν : Int)))) else max (f12 (65 * p + (1 + (ν : Int) - 1))) (f12 (65 * p + (1 + (ν : Int)))))) * ((if up = 0 then min (f12 (65 * p + (1 + (ν : Int) - 1))) (f12 (65 * p + (1 + (ν : Int)))) else max (f12 (65 * p + (1 + (ν : Int) - 1))) (f12 (65 * p + (1 + (ν : Int))))))) = itF (fun a b => a + b) (sqF (fun j => f12 (65 * p + j)) up) 0 1 (ν + 1) from by rw [itF_s, ← q5])) ?_
                refine lv_lstore_n (lv' := [(3, .long (jJ (itF (fun a b => a + b) (sqF (fun j => f12 (65 * p + j)) up) 0 1 (ν + 1)))), (8, .int (iI ((if up = 0 then min (f12 (65 * p + (1 + (ν : Int) - 1))) (f12 (65 * p + (1 + (ν : Int)))) else max (f12 (65 * p + (1 + (ν : Int) - 1))) (f12 (65 * p + (1 + (ν : Int)))))))), (7, .int (iI (f12 (65 * p + (1 + (ν : Int)))))), (6, .int (iI (f12 (65 * p + (1 + (ν : Int) - 1))))), (0, .ref am), (1, .int (iI (p))), (2, .int (iI (up))), (5, .int (iI (1 + (ν : Int))))]) hx hb d_M_volume_104 rfl hl (by decide) rfl (fun ls hl => ?_)
                refine lv_iinc (v := iI (1 + ((ν + 1 : Nat) : Int))) (lv' := [(5, .int (iI (1 + ((ν + 1 : Nat) : Int)))), (3, .long (jJ (itF (fun a b => a + b) (sqF (fun j => f12 (65 * p + j)) up) 0 1 (ν + 1)))), (8, .int (iI ((if up = 0 then min (f12 (65 * p + (1 + (ν : Int) - 1))) (f12 (65 * p + (1 + (ν : Int)))) else max (f12 (65 * p + (1 + (ν : Int) - 1))) (f12 (65 * p + (1 + (ν : Int)))))))), (7, .int (iI (f12 (65 * p + (1 + (ν : Int)))))), (6, .int (iI (f12 (65 * p + (1 + (ν : Int) - 1))))), (0, .ref am), (1, .int (iI (p))), (2, .int (iI (up)))]) hx hb d_M_volume_105 hl (k := 7) rfl ((ii_add _ _).trans (congrArg iI (by omega))) (by decide) rfl (fun ls hl => ?_)
                refine lv_goto (tgt := 22) hx hb d_M_volume_108 (by decide) ?_
                exact ih ls (ν + 1) (by omega) (lv_sub hl [5, 6, 7, 1, 0] rfl)
              · refine lv_iload hx hb d_M_volume_86 (lv_at hl 0 rfl) ?_
                refine lv_goto (tgt := 93) hx hb d_M_volume_88 (by decide) ?_
                have q3 : f12 (65 * p + (1 + (ν : Int))) = (if up = 0 then min (f12 (65 * p + (1 + (ν : Int) - 1))) (f12 (65 * p + (1 + (ν : Int)))) else max (f12 (65 * p + (1 + (ν : Int) - 1))) (f12 (65 * p + (1 + (ν : Int))))) := by split <;> omega
                refine tp_i (congrArg iI (show f12 (65 * p + (1 + (ν : Int))) = (if up = 0 then min (f12 (65 * p + (1 + (ν : Int) - 1))) (f12 (65 * p + (1 + (ν : Int)))) else max (f12 (65 * p + (1 + (ν : Int) - 1))) (f12 (65 * p + (1 + (ν : Int))))) from q3)) ?_
                have q4 : 0 ≤ (if up = 0 then min (f12 (65 * p + (1 + (ν : Int) - 1))) (f12 (65 * p + (1 + (ν : Int)))) else max (f12 (65 * p + (1 + (ν : Int) - 1))) (f12 (65 * p + (1 + (ν : Int))))) ∧ (if up = 0 then min (f12 (65 * p + (1 + (ν : Int) - 1))) (f12 (65 * p + (1 + (ν : Int)))) else max (f12 (65 * p + (1 + (ν : Int) - 1))) (f12 (65 * p + (1 + (ν : Int))))) ≤ 500 := by split <;> omega
                have q5 : (if up = 0 then min (f12 (65 * p + (1 + (ν : Int) - 1))) (f12 (65 * p + (1 + (ν : Int)))) else max (f12 (65 * p + (1 + (ν : Int) - 1))) (f12 (65 * p + (1 + (ν : Int))))) * (if up = 0 then min (f12 (65 * p + (1 + (ν : Int) - 1))) (f12 (65 * p + (1 + (ν : Int)))) else max (f12 (65 * p + (1 + (ν : Int) - 1))) (f12 (65 * p + (1 + (ν : Int))))) = sqF (fun j => f12 (65 * p + j)) up (1 + (ν : Int)) := by unfold sqF; split <;> rfl
                refine lv_istore (lv' := [(8, .int (iI ((if up = 0 then min (f12 (65 * p + (1 + (ν : Int) - 1))) (f12 (65 * p + (1 + (ν : Int)))) else max (f12 (65 * p + (1 + (ν : Int) - 1))) (f12 (65 * p + (1 + (ν : Int)))))))), (7, .int (iI (f12 (65 * p + (1 + (ν : Int)))))), (6, .int (iI (f12 (65 * p + (1 + (ν : Int) - 1))))), (0, .ref am), (1, .int (iI (p))), (2, .int (iI (up))), (3, .long (jJ (itF (fun a b => a + b) (sqF (fun j => f12 (65 * p + j)) up) 0 1 ν))), (5, .int (iI (1 + (ν : Int))))]) hx hb d_M_volume_93 hl (by decide) rfl (fun ls hl => ?_)
                refine lv_lload_n hx hb d_M_volume_95 rfl (lv_at hl 6 rfl) ?_
                refine lv_iload hx hb d_M_volume_96 (lv_at hl 0 rfl) ?_
                refine ri_i2l hx hb d_M_volume_98 (by omega) ?_
                refine lv_iload hx hb d_M_volume_99 (lv_at hl 0 rfl) ?_
                refine ri_i2l hx hb d_M_volume_101 (by omega) ?_
                refine ri_lmul hx hb d_M_volume_102 ?_
                refine ri_ladd hx hb d_M_volume_103 ?_
                refine tp_l (congrArg jJ (show (itF (fun a b => a + b) (sqF (fun j => f12 (65 * p + j)) up) 0 1 ν) + (((if up = 0 then min (f12 (65 * p + (1 + (ν : Int) - 1))) (f12 (65 * p + (1 + (ν : Int)))) else max (f12 (65 * p + (1 + (ν : Int) - 1))) (f12 (65 * p + (1 + (ν : Int)))))) * ((if up = 0 then min (f12 (65 * p + (1 + (ν : Int) - 1))) (f12 (65 * p + (1 + (ν : Int)))) else max (f12 (65 * p + (1 + (ν : Int) - 1))) (f12 (65 * p + (1 + (ν : Int))))))) = itF (fun a b => a + b) (sqF (fun j => f12 (65 * p + j)) up) 0 1 (ν + 1) from by rw [itF_s, ← q5])) ?_
                refine lv_lstore_n (lv' := [(3, .long (jJ (itF (fun a b => a + b) (sqF (fun j => f12 (65 * p + j)) up) 0 1 (ν + 1)))), (8, .int (iI ((if up = 0 then min (f12 (65 * p + (1 + (ν : Int) - 1))) (f12 (65 * p + (1 + (ν : Int)))) else max (f12 (65 * p + (1 + (ν : Int) - 1))) (f12 (65 * p + (1 + (ν : Int)))))))), (7, .int (iI (f12 (65 * p + (1 + (ν : Int)))))), (6, .int (iI (f12 (65 * p + (1 + (ν : Int) - 1))))), (0, .ref am), (1, .int (iI (p))), (2, .int (iI (up))), (5, .int (iI (1 + (ν : Int))))]) hx hb d_M_volume_104 rfl hl (by decide) rfl (fun ls hl => ?_)
                refine lv_iinc (v := iI (1 + ((ν + 1 : Nat) : Int))) (lv' := [(5, .int (iI (1 + ((ν + 1 : Nat) : Int)))), (3, .long (jJ (itF (fun a b => a + b) (sqF (fun j => f12 (65 * p + j)) up) 0 1 (ν + 1)))), (8, .int (iI ((if up = 0 then min (f12 (65 * p + (1 + (ν : Int) - 1))) (f12 (65 * p + (1 + (ν : Int)))) else max (f12 (65 * p + (1 + (ν : Int) - 1))) (f12 (65 * p + (1 + (ν : Int)))))))), (7, .int (iI (f12 (65 * p + (1 + (ν : Int)))))), (6, .int (iI (f12 (65 * p + (1 + (ν : Int) - 1))))), (0, .ref am), (1, .int (iI (p))), (2, .int (iI (up)))]) hx hb d_M_volume_105 hl (k := 7) rfl ((ii_add _ _).trans (congrArg iI (by omega))) (by decide) rfl (fun ls hl => ?_)
                refine lv_goto (tgt := 22) hx hb d_M_volume_108 (by decide) ?_
                exact ih ls (ν + 1) (by omega) (lv_sub hl [5, 6, 7, 1, 0] rfl)
  · show W _ _ _ _ _ _ _ _ _ _ _ _ _ _ _ (F0 m9 6 ls [.int (iI (0)), .ref am])
    refine ri_if_eq (tgt := 13) hx hb d_M_volume_6 (by decide) (by omega) (fun c6 => ?_) (fun c6 => ?_)
    · refine ri_iconst hx hb d_M_volume_13 ?_
      refine va_put (D := D) (ci := 6) (v := .int (iI (1))) (ty := .int) (C := R_M) (T := F_M) (N := 26) hx hb hG in_M t_M t_M_ok n_M hown hK hP hD hS 0 rfl rfl 0 (by decide) (hG _ g_627) (fun _ h9 => h9) rfl (by decide +kernel) rfl rfl (Nat.le_of_ble_eq_true rfl) d_M_volume_14 (fun H locs hP hD hS => ?_)
      have hP : va_P D classes ((am, .inr (6, [.int (iI (1)), .int (iI (y1)), .int (iI (y2)), .int (iI (y3)), .ref a4, .ref a5, .ref a6, .ref a7, .ref a8, .int (iI (y9)), .ref a10, .ref a11, .ref a12, .int (iI (y13)), .ref a14, .ref a15, .ref a16, .int (iI (y17)), .ref a18, .ref a19, .ref a20, .int (iI (y21)), .int (iI (y22)), .int (iI (y23)), .ref a24, .ref a25])) :: (a4, .inl (k 0, ai 64 f4)) :: (a5, .inl (k 0, ai 64 f5)) :: (a6, .inl (k 0, ai 64 f6)) :: (a7, .inl (k 0, ai 64 f7)) :: (a8, .inl (k 0, ai 64 f8)) :: (a10, .inl (k 0, ai 6 f10)) :: (a11, .inl (k 0, ai 6 f11)) :: (a12, .inl (k 0, ai 390 f12)) :: (a14, .inl (k 0, ai 6 f14)) :: (a15, .inl (k 0, ai 65 f15)) :: (a16, .inl (k 0, ai 65 f16)) :: (a18, .inl (k 0, ai 6 f18)) :: (a19, .inl (k 0, ai 96 f19)) :: (a20, .inl (k 0, ai 96 f20)) :: (a24, .inl (k 0, ai 8 f24)) :: (a25, .inl (k 0, ai 8 f25)) :: wr) H := hP
      have hD : va_D (fun q : Nat => s0.heap.size ≤ q) ((am, .inr (6, [.int (iI (1)), .int (iI (y1)), .int (iI (y2)), .int (iI (y3)), .ref a4, .ref a5, .ref a6, .ref a7, .ref a8, .int (iI (y9)), .ref a10, .ref a11, .ref a12, .int (iI (y13)), .ref a14, .ref a15, .ref a16, .int (iI (y17)), .ref a18, .ref a19, .ref a20, .int (iI (y21)), .int (iI (y22)), .int (iI (y23)), .ref a24, .ref a25])) :: (a4, .inl (k 0, ai 64 f4)) :: (a5, .inl (k 0, ai 64 f5)) :: (a6, .inl (k 0, ai 64 f6)) :: (a7, .inl (k 0, ai 64 f7)) :: (a8, .inl (k 0, ai 64 f8)) :: (a10, .inl (k 0, ai 6 f10)) :: (a11, .inl (k 0, ai 6 f11)) :: (a12, .inl (k 0, ai 390 f12)) :: (a14, .inl (k 0, ai 6 f14)) :: (a15, .inl (k 0, ai 65 f15)) :: (a16, .inl (k 0, ai 65 f16)) :: (a18, .inl (k 0, ai 6 f18)) :: (a19, .inl (k 0, ai 96 f19)) :: (a20, .inl (k 0, ai 96 f20)) :: (a24, .inl (k 0, ai 8 f24)) :: (a25, .inl (k 0, ai 8 f25)) :: wr) := hD
      refine ri_lconst (z := 0) hx hb d_M_volume_17 rfl ?_
      refine lv_lstore_n (lv' := [(3, .long (jJ (0))), (0, .ref am), (1, .int (iI (p))), (2, .int (iI (up)))]) hx hb d_M_volume_18 rfl hl (by decide) rfl (fun ls hl => ?_)
      refine ri_iconst hx hb d_M_volume_19 ?_
      refine lv_istore (lv' := [(5, .int (iI (1))), (3, .long (jJ (0))), (0, .ref am), (1, .int (iI (p))), (2, .int (iI (up)))]) hx hb d_M_volume_20 hl (by decide) rfl (fun ls hl => ?_)
      refine lv_aload_n hx hb d_M_volume_22 rfl (lv_at hl 2 rfl) ?_
      refine va_get (D := D) (ci := 6) (v := .int (iI (1))) (C := R_M) (T := F_M) (N := 26) hx hb hG in_M hown hK hP 0 rfl rfl 0 (by decide) (hG _ g_627) (fun _ h9 => h9) rfl d_M_volume_23 ?_
      refine ri_if_ne (tgt := 111) hx hb d_M_volume_26 (by decide) (by omega) (fun c26 => ?_) (fun c26 => ?_)
      · refine lv_aload_n hx hb d_M_volume_111 rfl (lv_at hl 2 rfl) ?_
        refine va_get (D := D) (ci := 6) (v := .int (iI (1))) (C := R_M) (T := F_M) (N := 26) hx hb hG in_M hown hK hP 0 rfl rfl 0 (by decide) (hG _ g_627) (fun _ h9 => h9) rfl d_M_volume_112 ?_
        refine ri_if_le (tgt := 122) hx hb d_M_volume_115 (by decide) (by omega) (fun c115 => ?_) (fun c115 => ?_)
        · exact absurd c115 (by decide)
        · refine ri_lconst (z := 0) hx hb d_M_volume_118 rfl ?_
          refine lv_goto (tgt := 149) hx hb d_M_volume_119 (by decide) ?_
          exact re_l hx hb hr hlocks (fun t ht hW => ⟨_, ⟨fun _ => ⟨rfl, rfl⟩, fun h => absurd h (by omega)⟩, wd_next h0 hS hP hD t ht hW⟩) hS.2.2 (Nat.le_of_ble_eq_true rfl) (Nat.le_of_ble_eq_true rfl) d_M_volume_149
      · exact absurd c26 (by decide)
    · exact absurd c6 (by decide)

set_option maxHeartbeats 4000000 in
set_option maxRecDepth 100000 in
theorem c_M_hollow {l : Launch} {s0 : State} {D : va_G} {k : Nat → ClassId} (hC : Cx l s0 D k) (am a4 a5 a6 a7 a8 a10 a11 a12 a14 a15 a16 a18 a19 a20 a24 a25 : Nat) (y0 y1 y2 y3 y9 y13 y17 y21 y22 y23 : Int) (f4 f5 f6 f7 f8 f10 f11 f12 f14 f15 f16 f18 f19 f20 f24 f25 : Int → Int) (wr : va_W) (hy9 : 0 ≤ y9 ∧ y9 ≤ 6) (hf10 : ∀ i : Int, 0 ≤ i → i < y9 → 0 ≤ f10 i ∧ f10 i ≤ 64) (hf12 : ∀ i : Int, 0 ≤ i → i < y9 → ∀ j : Int, 0 ≤ j → j ≤ f10 i → 0 ≤ f12 (65 * i + j) ∧ f12 (65 * i + j) ≤ 500) (p wl9 br : Int) (hp : In32 p) (hwl : In32 wl9) (hbr9 : In32 br) : WdM l s0 D y_M_hollow { frames := 2, cells := 0, slots := 0, locals := 46 } [.ref am, .int (iI (p)), .int (iI (wl9)), .int (iI (br))] ((am, .inr (6, [.int (iI (y0)), .int (iI (y1)), .int (iI (y2)), .int (iI (y3)), .ref a4, .ref a5, .ref a6, .ref a7, .ref a8, .int (iI (y9)), .ref a10, .ref a11, .ref a12, .int (iI (y13)), .ref a14, .ref a15, .ref a16, .int (iI (y17)), .ref a18, .ref a19, .ref a20, .int (iI (y21)), .int (iI (y22)), .int (iI (y23)), .ref a24, .ref a25])) :: (a4, .inl (k 0, ai 64 f4)) :: (a5, .inl (k 0, ai 64 f5)) :: (a6, .inl (k 0, ai 64 f6)) :: (a7, .inl (k 0, ai 64 f7)) :: (a8, .inl (k 0, ai 64 f8)) :: (a10, .inl (k 0, ai 6 f10)) :: (a11, .inl (k 0, ai 6 f11)) :: (a12, .inl (k 0, ai 390 f12)) :: (a14, .inl (k 0, ai 6 f14)) :: (a15, .inl (k 0, ai 65 f15)) :: (a16, .inl (k 0, ai 65 f16)) :: (a18, .inl (k 0, ai 6 f18)) :: (a19, .inl (k 0, ai 96 f19)) :: (a20, .inl (k 0, ai 96 f20)) :: (a24, .inl (k 0, ai 8 f24)) :: (a25, .inl (k 0, ai 8 f25)) :: wr) (fun v ws' => (¬ (0 ≤ p ∧ p < y9) → v = some (.int (iI (0))) ∧ ws' = ((am, .inr (6, [.int (iI (1)), .int (iI (y1)), .int (iI (y2)), .int (iI (y3)), .ref a4, .ref a5, .ref a6, .ref a7, .ref a8, .int (iI (y9)), .ref a10, .ref a11, .ref a12, .int (iI (y13)), .ref a14, .ref a15, .ref a16, .int (iI (y17)), .ref a18, .ref a19, .ref a20, .int (iI (y21)), .int (iI (y22)), .int (iI (y23)), .ref a24, .ref a25])) :: (a4, .inl (k 0, ai 64 f4)) :: (a5, .inl (k 0, ai 64 f5)) :: (a6, .inl (k 0, ai 64 f6)) :: (a7, .inl (k 0, ai 64 f7)) :: (a8, .inl (k 0, ai 64 f8)) :: (a10, .inl (k 0, ai 6 f10)) :: (a11, .inl (k 0, ai 6 f11)) :: (a12, .inl (k 0, ai 390 f12)) :: (a14, .inl (k 0, ai 6 f14)) :: (a15, .inl (k 0, ai 65 f15)) :: (a16, .inl (k 0, ai 65 f16)) :: (a18, .inl (k 0, ai 6 f18)) :: (a19, .inl (k 0, ai 96 f19)) :: (a20, .inl (k 0, ai 96 f20)) :: (a24, .inl (k 0, ai 8 f24)) :: (a25, .inl (k 0, ai 8 f25)) :: wr)) ∧ (((0 ≤ p ∧ p < y9) ∧ ¬ ((1 ≤ wl9 ∧ wl9 ≤ 100) ∧ (0 ≤ br ∧ br ≤ 100))) → v = some (.int (iI (0))) ∧ ws' = ((am, .inr (6, [.int (iI (2)), .int (iI (y1)), .int (iI (y2)), .int (iI (y3)), .ref a4, .ref a5, .ref a6, .ref a7, .ref a8, .int (iI (y9)), .ref a10, .ref a11, .ref a12, .int (iI (y13)), .ref a14, .ref a15, .ref a16, .int (iI (y17)), .ref a18, .ref a19, .ref a20, .int (iI (y21)), .int (iI (y22)), .int (iI (y23)), .ref a24, .ref a25])) :: (a4, .inl (k 0, ai 64 f4)) :: (a5, .inl (k 0, ai 64 f5)) :: (a6, .inl (k 0, ai 64 f6)) :: (a7, .inl (k 0, ai 64 f7)) :: (a8, .inl (k 0, ai 64 f8)) :: (a10, .inl (k 0, ai 6 f10)) :: (a11, .inl (k 0, ai 6 f11)) :: (a12, .inl (k 0, ai 390 f12)) :: (a14, .inl (k 0, ai 6 f14)) :: (a15, .inl (k 0, ai 65 f15)) :: (a16, .inl (k 0, ai 65 f16)) :: (a18, .inl (k 0, ai 6 f18)) :: (a19, .inl (k 0, ai 96 f19)) :: (a20, .inl (k 0, ai 96 f20)) :: (a24, .inl (k 0, ai 8 f24)) :: (a25, .inl (k 0, ai 8 f25)) :: wr)) ∧ (((0 ≤ p ∧ p < y9) ∧ ((1 ≤ wl9 ∧ wl9 ≤ 100) ∧ (0 ≤ br ∧ br ≤ 100))) → v = some (.int (iI (hoF (fun j => f12 (65 * p + j)) (wl9 + br) ((f10 p).toNat + 1)))) ∧ ws' = ((am, .inr (6, [.int (iI (0)), .int (iI (y1)), .int (iI (y2)), .int (iI (y3)), .ref a4, .ref a5, .ref a6, .ref a7, .ref a8, .int (iI (y9)), .ref a10, .ref a11, .ref a12, .int (iI (y13)), .ref a14, .ref a15, .ref a16, .int (iI (y17)), .ref a18, .ref a19, .ref a20, .int (iI (y21)), .int (iI (y22)), .int (iI (y23)), .ref a24, .ref a25])) :: (a4, .inl (k 0, ai 64 f4)) :: (a5, .inl (k 0, ai 64 f5)) :: (a6, .inl (k 0, ai 64 f6)) :: (a7, .inl (k 0, ai 64 f7)) :: (a8, .inl (k 0, ai 64 f8)) :: (a10, .inl (k 0, ai 6 f10)) :: (a11, .inl (k 0, ai 6 f11)) :: (a12, .inl (k 0, ai 390 f12)) :: (a14, .inl (k 0, ai 6 f14)) :: (a15, .inl (k 0, ai 65 f15)) :: (a16, .inl (k 0, ai 65 f16)) :: (a18, .inl (k 0, ai 6 f18)) :: (a19, .inl (k 0, ai 96 f19)) :: (a20, .inl (k 0, ai 96 f20)) :: (a24, .inl (k 0, ai 8 f24)) :: (a25, .inl (k 0, ai 8 f25)) :: wr))) (fun E ws' => False) 0 0 := by
  refine ex_ofW (cc := b_M_hollow) (maxL := 5) (ret := (some .int)) (hh := []) (by decide +kernel) (Or.inl ⟨g_835, rfl⟩) ?_
  intro p9 e9 s m9 args9 below9 meth9 c9 s9 B9 hml htab hv
  obtain ⟨rfl, h0, hP, hD⟩ := hv
  have hx := B9.exec
  have hb := B9.bytes
  have hr := B9.returns
  have hG := atoms_spec (ws := GW) B9.pre
  have hown : s.vm.findClass "LathePiecesModel" = some m9.cls := findClass_of_methodNamed B9.named
  have hlocks := B9.notSynchronized
  have hK := cx_K hC h0
  have hS : va_S (aL s0) s.heap s.heap [] := va_S.rf
  have hA : ∀ q : Nat, s.heap.size ≤ q → aL s0 q := fun q h => Nat.le_trans h0.2.1 h
  have hl := lv_entry ([.ref am, .int (iI (p)), .int (iI (wl9)), .int (iI (br))]) (n := 5) (Nat.le_of_ble_eq_true rfl)
  rw [lg_entry_eq]
  generalize (lg_sl ([.ref am, .int (iI (p)), .int (iI (wl9)), .int (iI (br))]) ++ List.replicate (5 - (lg_sl ([.ref am, .int (iI (p)), .int (iI (wl9)), .int (iI (br))])).length) Slot.unset).toArray = ls at hl ⊢
  replace hl : lv_has ls 5 [(0, .ref am), (1, .int (iI (p))), (2, .int (iI (wl9))), (3, .int (iI (br)))] := hl
  refine lv_aload_n hx hb d_M_hollow_0 rfl (lv_at hl 0 rfl) ?_
  refine lv_aload_n hx hb d_M_hollow_1 rfl (lv_at hl 0 rfl) ?_
  refine lv_iload_n hx hb d_M_hollow_2 rfl (lv_at hl 1 rfl) ?_
  refine rd_call (ex_runV (C := "LathePiecesModel") (As := [.int (iI (p))]) (rest := [.ref am]) ⟨hx, hb, hml, hown, hG⟩ (c_M_isPiece hC y9 am [.int (iI (y0)), .int (iI (y1)), .int (iI (y2)), .int (iI (y3)), .ref a4, .ref a5, .ref a6, .ref a7, .ref a8, .int (iI (y9)), .ref a10, .ref a11, .ref a12, .int (iI (y13)), .ref a14, .ref a15, .ref a16, .int (iI (y17)), .ref a18, .ref a19, .ref a20, .int (iI (y21)), .int (iI (y22)), .int (iI (y23)), .ref a24, .ref a25] rfl hy9 p (by omega)) (cb_code (n := 1) hG g_772 g_3 g_769 rfl rfl (by decide +kernel) ⟨Nat.le_of_ble_eq_true rfl, Nat.le_of_ble_eq_true rfl⟩) (hG _ g_771) (hG _ gs_M_isPiece) (kd_V ⟨fun _ _ _ _ q => q, fun U hU hW => ⟨rfl, la_next h0 (fun _ z => z) hS U hU hW, (by show va_P D classes _ U.heap; rw [hU]; exact (va_P.sub hP [0] rfl))⟩⟩ (kd_recv hK hP (q0 := 0) (ci := 6) rfl rfl rfl)) rfl rfl hl.1 rfl (lv_room (Nat.le_of_ble_eq_true rfl)) d_M_hollow_3 ⟨Nat.le_of_ble_eq_true rfl, Nat.le_of_ble_eq_true rfl⟩) (fun v9 h9 => ?_)
  rcases h9 with ⟨rfl, n6⟩ | ⟨rfl, n6⟩
  · show W _ _ _ _ _ _ _ _ _ _ _ _ _ _ _ (F0 m9 6 ls [.int (iI (1)), .ref am])
    refine ri_if_ne (tgt := 13) hx hb d_M_hollow_6 (by decide) (by omega) (fun c6 => ?_) (fun c6 => ?_)
    · refine lv_iload_n hx hb d_M_hollow_13 rfl (lv_at hl 2 rfl) ?_
      refine ri_i2l hx hb d_M_hollow_14 (by omega) ?_
      refine ri_lconst (z := 1) hx hb d_M_hollow_15 rfl ?_
      refine lv_ldc2 (v := jJ 100) hx hb hown (hG _ g_807) d_M_hollow_16 ?_
      refine rd_call (ex_runS (As := [.long (jJ (wl9)), .long (jJ (1)), .long (jJ (100))]) (rest := [.ref am]) ⟨hx, hb, hml, hown, hG⟩ (c_M_in l (wl9) (1) (100) (by omega) (by omega) (by omega)) (cb_code (n := 3) hG g_717 g_3 g_715 rfl rfl (by decide +kernel) ⟨Nat.le_of_ble_eq_true rfl, Nat.le_of_ble_eq_true rfl⟩) (hG _ g_716) ⟨fun _ _ _ _ q => q, fun _ _ _ => rfl⟩ rfl rfl hl.1 rfl (lv_room (Nat.le_of_ble_eq_true rfl)) d_M_hollow_19 ⟨Nat.le_of_ble_eq_true rfl, Nat.le_of_ble_eq_true rfl⟩) (fun v9 h9 => ?_)
      obtain rfl := h9
      show W _ _ _ _ _ _ _ _ _ _ _ _ _ _ _ (F0 m9 22 ls [.int (iI ((if 1 ≤ wl9 ∧ wl9 ≤ 100 then 1 else 0))), .ref am])
      by_cases n22 : 1 ≤ wl9 ∧ wl9 ≤ 100
      · refine tp_i (congrArg iI (show (if 1 ≤ wl9 ∧ wl9 ≤ 100 then 1 else 0) = 1 from if_pos n22)) ?_
        refine ri_if_eq (tgt := 37) hx hb d_M_hollow_22 (by decide) (by omega) (fun c22 => ?_) (fun c22 => ?_)
        · exact absurd c22 (by decide)
        · refine lv_iload_n hx hb d_M_hollow_25 rfl (lv_at hl 3 rfl) ?_
          refine ri_i2l hx hb d_M_hollow_26 (by omega) ?_
          refine ri_lconst (z := 0) hx hb d_M_hollow_27 rfl ?_
          refine lv_ldc2 (v := jJ 100) hx hb hown (hG _ g_807) d_M_hollow_28 ?_
          refine rd_call (ex_runS (As := [.long (jJ (br)), .long (jJ (0)), .long (jJ (100))]) (rest := [.ref am]) ⟨hx, hb, hml, hown, hG⟩ (c_M_in l (br) (0) (100) (by omega) (by omega) (by omega)) (cb_code (n := 3) hG g_717 g_3 g_715 rfl rfl (by decide +kernel) ⟨Nat.le_of_ble_eq_true rfl, Nat.le_of_ble_eq_true rfl⟩) (hG _ g_716) ⟨fun _ _ _ _ q => q, fun _ _ _ => rfl⟩ rfl rfl hl.1 rfl (lv_room (Nat.le_of_ble_eq_true rfl)) d_M_hollow_31 ⟨Nat.le_of_ble_eq_true rfl, Nat.le_of_ble_eq_true rfl⟩) (fun v9 h9 => ?_)
          obtain rfl := h9
          show W _ _ _ _ _ _ _ _ _ _ _ _ _ _ _ (F0 m9 34 ls [.int (iI ((if 0 ≤ br ∧ br ≤ 100 then 1 else 0))), .ref am])
          by_cases n34 : 0 ≤ br ∧ br ≤ 100
          · refine tp_i (congrArg iI (show (if 0 ≤ br ∧ br ≤ 100 then 1 else 0) = 1 from if_pos n34)) ?_
            refine ri_if_ne (tgt := 41) hx hb d_M_hollow_34 (by decide) (by omega) (fun c34 => ?_) (fun c34 => ?_)
            · refine ri_iconst hx hb d_M_hollow_41 ?_
              refine va_put (D := D) (ci := 6) (v := .int (iI (0))) (ty := .int) (C := R_M) (T := F_M) (N := 26) hx hb hG in_M t_M t_M_ok n_M hown hK hP hD hS 0 rfl rfl 0 (by decide) (hG _ g_627) (fun _ h9 => h9) rfl (by decide +kernel) rfl rfl (Nat.le_of_ble_eq_true rfl) d_M_hollow_42 (fun H locs hP hD hS => ?_)
              have hP : va_P D classes ((am, .inr (6, [.int (iI (0)), .int (iI (y1)), .int (iI (y2)), .int (iI (y3)), .ref a4, .ref a5, .ref a6, .ref a7, .ref a8, .int (iI (y9)), .ref a10, .ref a11, .ref a12, .int (iI (y13)), .ref a14, .ref a15, .ref a16, .int (iI (y17)), .ref a18, .ref a19, .ref a20, .int (iI (y21)), .int (iI (y22)), .int (iI (y23)), .ref a24, .ref a25])) :: (a4, .inl (k 0, ai 64 f4)) :: (a5, .inl (k 0, ai 64 f5)) :: (a6, .inl (k 0, ai 64 f6)) :: (a7, .inl (k 0, ai 64 f7)) :: (a8, .inl (k 0, ai 64 f8)) :: (a10, .inl (k 0, ai 6 f10)) :: (a11, .inl (k 0, ai 6 f11)) :: (a12, .inl (k 0, ai 390 f12)) :: (a14, .inl (k 0, ai 6 f14)) :: (a15, .inl (k 0, ai 65 f15)) :: (a16, .inl (k 0, ai 65 f16)) :: (a18, .inl (k 0, ai 6 f18)) :: (a19, .inl (k 0, ai 96 f19)) :: (a20, .inl (k 0, ai 96 f20)) :: (a24, .inl (k 0, ai 8 f24)) :: (a25, .inl (k 0, ai 8 f25)) :: wr) H := hP
              have hD : va_D (fun q : Nat => s0.heap.size ≤ q) ((am, .inr (6, [.int (iI (0)), .int (iI (y1)), .int (iI (y2)), .int (iI (y3)), .ref a4, .ref a5, .ref a6, .ref a7, .ref a8, .int (iI (y9)), .ref a10, .ref a11, .ref a12, .int (iI (y13)), .ref a14, .ref a15, .ref a16, .int (iI (y17)), .ref a18, .ref a19, .ref a20, .int (iI (y21)), .int (iI (y22)), .int (iI (y23)), .ref a24, .ref a25])) :: (a4, .inl (k 0, ai 64 f4)) :: (a5, .inl (k 0, ai 64 f5)) :: (a6, .inl (k 0, ai 64 f6)) :: (a7, .inl (k 0, ai 64 f7)) :: (a8, .inl (k 0, ai 64 f8)) :: (a10, .inl (k 0, ai 6 f10)) :: (a11, .inl (k 0, ai 6 f11)) :: (a12, .inl (k 0, ai 390 f12)) :: (a14, .inl (k 0, ai 6 f14)) :: (a15, .inl (k 0, ai 65 f15)) :: (a16, .inl (k 0, ai 65 f16)) :: (a18, .inl (k 0, ai 6 f18)) :: (a19, .inl (k 0, ai 96 f19)) :: (a20, .inl (k 0, ai 96 f20)) :: (a24, .inl (k 0, ai 8 f24)) :: (a25, .inl (k 0, ai 8 f25)) :: wr) := hD
              refine lv_aload_n hx hb d_M_hollow_45 rfl (lv_at hl 0 rfl) ?_
              refine va_get (D := D) (ci := 6) (v := .int (iI (0))) (C := R_M) (T := F_M) (N := 26) hx hb hG in_M hown hK hP 0 rfl rfl 0 (by decide) (hG _ g_627) (fun _ h9 => h9) rfl d_M_hollow_46 ?_
              refine ri_if_le (tgt := 54) hx hb d_M_hollow_49 (by decide) (by omega) (fun c49 => ?_) (fun c49 => ?_)
              · have h7 := hf10 p (by omega) (by omega)
                obtain ⟨L, hL⟩ : ∃ L : Nat, f10 p = (L : Int) := ⟨(f10 p).toNat, (Int.toNat_of_nonneg h7.1).symm⟩
                have gL : (f10 p).toNat = L := by omega
                have hL64 : L ≤ 64 := by omega
                have hrr : ∀ j : Int, 0 ≤ j → j ≤ L → 0 ≤ f12 (65 * p + j) ∧ f12 (65 * p + j) ≤ 500 := fun j h1 h2 => hf12 p (by omega) (by omega) j h1 (by omega)
                refine ri_iconst hx hb d_M_hollow_54 ?_
                refine lv_istore (lv' := [(4, .int (iI (0))), (0, .ref am), (1, .int (iI (p))), (2, .int (iI (wl9))), (3, .int (iI (br)))]) hx hb d_M_hollow_55 hl (by decide) rfl (fun ls hl => ?_)
                obtain ⟨κ, q, hinv, hl1⟩ : ∃ (κ : Nat) (q : Int), (κ ≤ L + 1 ∧ q + hoF (fun j => f12 (65 * p + j)) (wl9 + br) κ = hoF (fun j => f12 (65 * p + j)) (wl9 + br) (L + 1) ∧ 0 ≤ q ∧ q + κ = (L : Int) + 1) ∧ lv_has ls 5 [(0, .ref am), (1, .int (iI (p))), (2, .int (iI (wl9))), (3, .int (iI (br))), (4, .int (iI (q)))] := ⟨L + 1, 0, ⟨Nat.le_refl _, by omega, by omega, by omega⟩, lv_sub hl [1, 2, 3, 4, 0] rfl⟩
                clear hl
                have hl := hl1
                clear hl1
                induction κ generalizing q ls with
                | zero =>
                  obtain ⟨h1, h2, h3, h4⟩ := hinv
                  refine lv_iload hx hb d_M_hollow_57 (lv_at hl 4 rfl) ?_
                  refine lv_aload_n hx hb d_M_hollow_59 rfl (lv_at hl 0 rfl) ?_
                  refine va_get (D := D) (ci := 6) (v := .ref a10) (C := R_M) (T := F_M) (N := 26) hx hb hG in_M hown hK hP 0 rfl rfl 10 (by decide) (hG _ g_637) (fun _ h9 => h9) rfl d_M_hollow_60 ?_
                  refine lv_iload_n hx hb d_M_hollow_63 rfl (lv_at hl 1 rfl) ?_
                  refine ra_iald hx hb hK hP 6 rfl (by omega) (by omega) d_M_hollow_64 ?_
                  refine ri_icmp_gt (tgt := 99) hx hb d_M_hollow_65 (by decide) (by omega) (by omega) (fun c65 => ?_) (fun c65 => ?_)
                  · refine lv_iload hx hb d_M_hollow_99 (lv_at hl 4 rfl) ?_
                    exact re_i hx hb hr hlocks (fun t ht hW => ⟨_, ⟨fun h => absurd h (by omega), fun h => absurd h (by omega), fun _ => ⟨by rw [gL, show q = hoF (fun j => f12 (65 * p + j)) (wl9 + br) (L + 1) by rw [← h2, hoF]; omega], rfl⟩⟩, wd_next h0 hS hP hD t ht hW⟩) hS.2.2 (Nat.le_of_ble_eq_true rfl) (Nat.le_of_ble_eq_true rfl) d_M_hollow_101
                  · exact absurd c65 (by omega)
                | succ κ ih =>
                  obtain ⟨h1, h2, h3, h4⟩ := hinv
                  have h6 := hrr κ (by omega) (by omega)
                  rw [hoF] at h2
                  refine lv_iload hx hb d_M_hollow_57 (lv_at hl 4 rfl) ?_
                  refine lv_aload_n hx hb d_M_hollow_59 rfl (lv_at hl 0 rfl) ?_
                  refine va_get (D := D) (ci := 6) (v := .ref a10) (C := R_M) (T := F_M) (N := 26) hx hb hG in_M hown hK hP 0 rfl rfl 10 (by decide) (hG _ g_637) (fun _ h9 => h9) rfl d_M_hollow_60 ?_
                  refine lv_iload_n hx hb d_M_hollow_63 rfl (lv_at hl 1 rfl) ?_
                  refine ra_iald hx hb hK hP 6 rfl (by omega) (by omega) d_M_hollow_64 ?_
                  refine ri_icmp_gt (tgt := 99) hx hb d_M_hollow_65 (by decide) (by omega) (by omega) (fun c65 => ?_) (fun c65 => ?_)
                  · exact absurd c65 (by omega)
                  · refine lv_aload_n hx hb d_M_hollow_68 rfl (lv_at hl 0 rfl) ?_
                    refine va_get (D := D) (ci := 6) (v := .ref a12) (C := R_M) (T := F_M) (N := 26) hx hb hG in_M hown hK hP 0 rfl rfl 12 (by decide) (hG _ g_639) (fun _ h9 => h9) rfl d_M_hollow_69 ?_
                    refine ri_bipush hx hb d_M_hollow_72 (by decide) ?_
                    refine lv_iload_n hx hb d_M_hollow_74 rfl (lv_at hl 1 rfl) ?_
                    refine ri_imul hx hb d_M_hollow_75 ?_
                    refine lv_aload_n hx hb d_M_hollow_76 rfl (lv_at hl 0 rfl) ?_
                    refine va_get (D := D) (ci := 6) (v := .ref a10) (C := R_M) (T := F_M) (N := 26) hx hb hG in_M hown hK hP 0 rfl rfl 10 (by decide) (hG _ g_637) (fun _ h9 => h9) rfl d_M_hollow_77 ?_
                    refine lv_iload_n hx hb d_M_hollow_80 rfl (lv_at hl 1 rfl) ?_
                    refine ra_iald hx hb hK hP 6 rfl (by omega) (by omega) d_M_hollow_81 ?_
                    refine ri_iadd hx hb d_M_hollow_82 ?_
                    refine lv_iload hx hb d_M_hollow_83 (lv_at hl 4 rfl) ?_
                    refine ri_isub hx hb d_M_hollow_85 ?_
                    refine tp_i (congrArg iI (show ((65 * p) + (f10 (p))) - (q) = 65 * p + (κ : Int) from by omega)) ?_
                    refine ra_iald hx hb hK hP 8 rfl (by omega) (by omega) d_M_hollow_86 ?_
                    refine lv_iload_n hx hb d_M_hollow_87 rfl (lv_at hl 2 rfl) ?_
                    refine ri_isub hx hb d_M_hollow_88 ?_
                    refine lv_iload_n hx hb d_M_hollow_89 rfl (lv_at hl 3 rfl) ?_
                    refine ri_icmp_lt (tgt := 99) hx hb d_M_hollow_90 (by decide) (by omega) (by omega) (fun c90 => ?_) (fun c90 => ?_)
                    · rw [if_neg (by omega)] at h2
                      refine lv_iload hx hb d_M_hollow_99 (lv_at hl 4 rfl) ?_
                      exact re_i hx hb hr hlocks (fun t ht hW => ⟨_, ⟨fun h => absurd h (by omega), fun h => absurd h (by omega), fun _ => ⟨by rw [gL, show q = hoF (fun j => f12 (65 * p + j)) (wl9 + br) (L + 1) by omega], rfl⟩⟩, wd_next h0 hS hP hD t ht hW⟩) hS.2.2 (Nat.le_of_ble_eq_true rfl) (Nat.le_of_ble_eq_true rfl) d_M_hollow_101
                    · rw [if_pos (by omega)] at h2
                      refine lv_iinc (v := iI (q + 1)) (lv' := [(4, .int (iI (q + 1))), (0, .ref am), (1, .int (iI (p))), (2, .int (iI (wl9))), (3, .int (iI (br)))]) hx hb d_M_hollow_93 hl (k := 4) rfl (ii_add _ _) (by decide) rfl (fun ls hl => ?_)
                      refine lv_goto (tgt := 57) hx hb d_M_hollow_96 (by decide) ?_
                      exact ih ls (q + 1) ⟨by omega, by omega, by omega, by omega⟩ (lv_sub hl [1, 2, 3, 4, 0] rfl)
              · exact absurd c49 (by decide)
            · exact absurd c34 (by decide)
          · refine tp_i (congrArg iI (show (if 0 ≤ br ∧ br ≤ 100 then 1 else 0) = 0 from if_neg n34)) ?_
            refine ri_if_ne (tgt := 41) hx hb d_M_hollow_34 (by decide) (by omega) (fun c34 => ?_) (fun c34 => ?_)
            · exact absurd c34 (by decide)
            · refine ri_iconst hx hb d_M_hollow_37 ?_
              refine lv_goto (tgt := 42) hx hb d_M_hollow_38 (by decide) ?_
              refine va_put (D := D) (ci := 6) (v := .int (iI (2))) (ty := .int) (C := R_M) (T := F_M) (N := 26) hx hb hG in_M t_M t_M_ok n_M hown hK hP hD hS 0 rfl rfl 0 (by decide) (hG _ g_627) (fun _ h9 => h9) rfl (by decide +kernel) rfl rfl (Nat.le_of_ble_eq_true rfl) d_M_hollow_42 (fun H locs hP hD hS => ?_)
              have hP : va_P D classes ((am, .inr (6, [.int (iI (2)), .int (iI (y1)), .int (iI (y2)), .int (iI (y3)), .ref a4, .ref a5, .ref a6, .ref a7, .ref a8, .int (iI (y9)), .ref a10, .ref a11, .ref a12, .int (iI (y13)), .ref a14, .ref a15, .ref a16, .int (iI (y17)), .ref a18, .ref a19, .ref a20, .int (iI (y21)), .int (iI (y22)), .int (iI (y23)), .ref a24, .ref a25])) :: (a4, .inl (k 0, ai 64 f4)) :: (a5, .inl (k 0, ai 64 f5)) :: (a6, .inl (k 0, ai 64 f6)) :: (a7, .inl (k 0, ai 64 f7)) :: (a8, .inl (k 0, ai 64 f8)) :: (a10, .inl (k 0, ai 6 f10)) :: (a11, .inl (k 0, ai 6 f11)) :: (a12, .inl (k 0, ai 390 f12)) :: (a14, .inl (k 0, ai 6 f14)) :: (a15, .inl (k 0, ai 65 f15)) :: (a16, .inl (k 0, ai 65 f16)) :: (a18, .inl (k 0, ai 6 f18)) :: (a19, .inl (k 0, ai 96 f19)) :: (a20, .inl (k 0, ai 96 f20)) :: (a24, .inl (k 0, ai 8 f24)) :: (a25, .inl (k 0, ai 8 f25)) :: wr) H := hP
              have hD : va_D (fun q : Nat => s0.heap.size ≤ q) ((am, .inr (6, [.int (iI (2)), .int (iI (y1)), .int (iI (y2)), .int (iI (y3)), .ref a4, .ref a5, .ref a6, .ref a7, .ref a8, .int (iI (y9)), .ref a10, .ref a11, .ref a12, .int (iI (y13)), .ref a14, .ref a15, .ref a16, .int (iI (y17)), .ref a18, .ref a19, .ref a20, .int (iI (y21)), .int (iI (y22)), .int (iI (y23)), .ref a24, .ref a25])) :: (a4, .inl (k 0, ai 64 f4)) :: (a5, .inl (k 0, ai 64 f5)) :: (a6, .inl (k 0, ai 64 f6)) :: (a7, .inl (k 0, ai 64 f7)) :: (a8, .inl (k 0, ai 64 f8)) :: (a10, .inl (k 0, ai 6 f10)) :: (a11, .inl (k 0, ai 6 f11)) :: (a12, .inl (k 0, ai 390 f12)) :: (a14, .inl (k 0, ai 6 f14)) :: (a15, .inl (k 0, ai 65 f15)) :: (a16, .inl (k 0, ai 65 f16)) :: (a18, .inl (k 0, ai 6 f18)) :: (a19, .inl (k 0, ai 96 f19)) :: (a20, .inl (k 0, ai 96 f20)) :: (a24, .inl (k 0, ai 8 f24)) :: (a25, .inl (k 0, ai 8 f25)) :: wr) := hD
              refine lv_aload_n hx hb d_M_hollow_45 rfl (lv_at hl 0 rfl) ?_
              refine va_get (D := D) (ci := 6) (v := .int (iI (2))) (C := R_M) (T := F_M) (N := 26) hx hb hG in_M hown hK hP 0 rfl rfl 0 (by decide) (hG _ g_627) (fun _ h9 => h9) rfl d_M_hollow_46 ?_
              refine ri_if_le (tgt := 54) hx hb d_M_hollow_49 (by decide) (by omega) (fun c49 => ?_) (fun c49 => ?_)
              · exact absurd c49 (by decide)
              · refine ri_iconst hx hb d_M_hollow_52 ?_
                exact re_i hx hb hr hlocks (fun t ht hW => ⟨_, ⟨fun h => absurd h (by omega), fun _ => ⟨rfl, rfl⟩, fun h => absurd h (by omega)⟩, wd_next h0 hS hP hD t ht hW⟩) hS.2.2 (Nat.le_of_ble_eq_true rfl) (Nat.le_of_ble_eq_true rfl) d_M_hollow_53
      · refine tp_i (congrArg iI (show (if 1 ≤ wl9 ∧ wl9 ≤ 100 then 1 else 0) = 0 from if_neg n22)) ?_
        refine ri_if_eq (tgt := 37) hx hb d_M_hollow_22 (by decide) (by omega) (fun c22 => ?_) (fun c22 => ?_)
        · refine ri_iconst hx hb d_M_hollow_37 ?_
          refine lv_goto (tgt := 42) hx hb d_M_hollow_38 (by decide) ?_
          refine va_put (D := D) (ci := 6) (v := .int (iI (2))) (ty := .int) (C := R_M) (T := F_M) (N := 26) hx hb hG in_M t_M t_M_ok n_M hown hK hP hD hS 0 rfl rfl 0 (by decide) (hG _ g_627) (fun _ h9 => h9) rfl (by decide +kernel) rfl rfl (Nat.le_of_ble_eq_true rfl) d_M_hollow_42 (fun H locs hP hD hS => ?_)
          have hP : va_P D classes ((am, .inr (6, [.int (iI (2)), .int (iI (y1)), .int (iI (y2)), .int (iI (y3)), .ref a4, .ref a5, .ref a6, .ref a7, .ref a8, .int (iI (y9)), .ref a10, .ref a11, .ref a12, .int (iI (y13)), .ref a14, .ref a15, .ref a16, .int (iI (y17)), .ref a18, .ref a19, .ref a20, .int (iI (y21)), .int (iI (y22)), .int (iI (y23)), .ref a24, .ref a25])) :: (a4, .inl (k 0, ai 64 f4)) :: (a5, .inl (k 0, ai 64 f5)) :: (a6, .inl (k 0, ai 64 f6)) :: (a7, .inl (k 0, ai 64 f7)) :: (a8, .inl (k 0, ai 64 f8)) :: (a10, .inl (k 0, ai 6 f10)) :: (a11, .inl (k 0, ai 6 f11)) :: (a12, .inl (k 0, ai 390 f12)) :: (a14, .inl (k 0, ai 6 f14)) :: (a15, .inl (k 0, ai 65 f15)) :: (a16, .inl (k 0, ai 65 f16)) :: (a18, .inl (k 0, ai 6 f18)) :: (a19, .inl (k 0, ai 96 f19)) :: (a20, .inl (k 0, ai 96 f20)) :: (a24, .inl (k 0, ai 8 f24)) :: (a25, .inl (k 0, ai 8 f25)) :: wr) H := hP
          have hD : va_D (fun q : Nat => s0.heap.size ≤ q) ((am, .inr (6, [.int (iI (2)), .int (iI (y1)), .int (iI (y2)), .int (iI (y3)), .ref a4, .ref a5, .ref a6, .ref a7, .ref a8, .int (iI (y9)), .ref a10, .ref a11, .ref a12, .int (iI (y13)), .ref a14, .ref a15, .ref a16, .int (iI (y17)), .ref a18, .ref a19, .ref a20, .int (iI (y21)), .int (iI (y22)), .int (iI (y23)), .ref a24, .ref a25])) :: (a4, .inl (k 0, ai 64 f4)) :: (a5, .inl (k 0, ai 64 f5)) :: (a6, .inl (k 0, ai 64 f6)) :: (a7, .inl (k 0, ai 64 f7)) :: (a8, .inl (k 0, ai 64 f8)) :: (a10, .inl (k 0, ai 6 f10)) :: (a11, .inl (k 0, ai 6 f11)) :: (a12, .inl (k 0, ai 390 f12)) :: (a14, .inl (k 0, ai 6 f14)) :: (a15, .inl (k 0, ai 65 f15)) :: (a16, .inl (k 0, ai 65 f16)) :: (a18, .inl (k 0, ai 6 f18)) :: (a19, .inl (k 0, ai 96 f19)) :: (a20, .inl (k 0, ai 96 f20)) :: (a24, .inl (k 0, ai 8 f24)) :: (a25, .inl (k 0, ai 8 f25)) :: wr) := hD
          refine lv_aload_n hx hb d_M_hollow_45 rfl (lv_at hl 0 rfl) ?_
          refine va_get (D := D) (ci := 6) (v := .int (iI (2))) (C := R_M) (T := F_M) (N := 26) hx hb hG in_M hown hK hP 0 rfl rfl 0 (by decide) (hG _ g_627) (fun _ h9 => h9) rfl d_M_hollow_46 ?_
          refine ri_if_le (tgt := 54) hx hb d_M_hollow_49 (by decide) (by omega) (fun c49 => ?_) (fun c49 => ?_)
          · exact absurd c49 (by decide)
          · refine ri_iconst hx hb d_M_hollow_52 ?_
            exact re_i hx hb hr hlocks (fun t ht hW => ⟨_, ⟨fun h => absurd h (by omega), fun _ => ⟨rfl, rfl⟩, fun h => absurd h (by omega)⟩, wd_next h0 hS hP hD t ht hW⟩) hS.2.2 (Nat.le_of_ble_eq_true rfl) (Nat.le_of_ble_eq_true rfl) d_M_hollow_53
        · exact absurd c22 (by decide)
    · exact absurd c6 (by decide)
  · show W _ _ _ _ _ _ _ _ _ _ _ _ _ _ _ (F0 m9 6 ls [.int (iI (0)), .ref am])
    refine ri_if_ne (tgt := 13) hx hb d_M_hollow_6 (by decide) (by omega) (fun c6 => ?_) (fun c6 => ?_)
    · exact absurd c6 (by decide)
    · refine ri_iconst hx hb d_M_hollow_9 ?_
      refine lv_goto (tgt := 42) hx hb d_M_hollow_10 (by decide) ?_
      refine va_put (D := D) (ci := 6) (v := .int (iI (1))) (ty := .int) (C := R_M) (T := F_M) (N := 26) hx hb hG in_M t_M t_M_ok n_M hown hK hP hD hS 0 rfl rfl 0 (by decide) (hG _ g_627) (fun _ h9 => h9) rfl (by decide +kernel) rfl rfl (Nat.le_of_ble_eq_true rfl) d_M_hollow_42 (fun H locs hP hD hS => ?_)
      have hP : va_P D classes ((am, .inr (6, [.int (iI (1)), .int (iI (y1)), .int (iI (y2)), .int (iI (y3)), .ref a4, .ref a5, .ref a6, .ref a7, .ref a8, .int (iI (y9)), .ref a10, .ref a11, .ref a12, .int (iI (y13)), .ref a14, .ref a15, .ref a16, .int (iI (y17)), .ref a18, .ref a19, .ref a20, .int (iI (y21)), .int (iI (y22)), .int (iI (y23)), .ref a24, .ref a25])) :: (a4, .inl (k 0, ai 64 f4)) :: (a5, .inl (k 0, ai 64 f5)) :: (a6, .inl (k 0, ai 64 f6)) :: (a7, .inl (k 0, ai 64 f7)) :: (a8, .inl (k 0, ai 64 f8)) :: (a10, .inl (k 0, ai 6 f10)) :: (a11, .inl (k 0, ai 6 f11)) :: (a12, .inl (k 0, ai 390 f12)) :: (a14, .inl (k 0, ai 6 f14)) :: (a15, .inl (k 0, ai 65 f15)) :: (a16, .inl (k 0, ai 65 f16)) :: (a18, .inl (k 0, ai 6 f18)) :: (a19, .inl (k 0, ai 96 f19)) :: (a20, .inl (k 0, ai 96 f20)) :: (a24, .inl (k 0, ai 8 f24)) :: (a25, .inl (k 0, ai 8 f25)) :: wr) H := hP
      have hD : va_D (fun q : Nat => s0.heap.size ≤ q) ((am, .inr (6, [.int (iI (1)), .int (iI (y1)), .int (iI (y2)), .int (iI (y3)), .ref a4, .ref a5, .ref a6, .ref a7, .ref a8, .int (iI (y9)), .ref a10, .ref a11, .ref a12, .int (iI (y13)), .ref a14, .ref a15, .ref a16, .int (iI (y17)), .ref a18, .ref a19, .ref a20, .int (iI (y21)), .int (iI (y22)), .int (iI (y23)), .ref a24, .ref a25])) :: (a4, .inl (k 0, ai 64 f4)) :: (a5, .inl (k 0, ai 64 f5)) :: (a6, .inl (k 0, ai 64 f6)) :: (a7, .inl (k 0, ai 64 f7)) :: (a8, .inl (k 0, ai 64 f8)) :: (a10, .inl (k 0, ai 6 f10)) :: (a11, .inl (k 0, ai 6 f11)) :: (a12, .inl (k 0, ai 390 f12)) :: (a14, .inl (k 0, ai 6 f14)) :: (a15, .inl (k 0, ai 65 f15)) :: (a16, .inl (k 0, ai 65 f16)) :: (a18, .inl (k 0, ai 6 f18)) :: (a19, .inl (k 0, ai 96 f19)) :: (a20, .inl (k 0, ai 96 f20)) :: (a24, .inl (k 0, ai 8 f24)) :: (a25, .inl (k 0, ai 8 f25)) :: wr) := hD
      refine lv_aload_n hx hb d_M_hollow_45 rfl (lv_at hl 0 rfl) ?_
      refine va_get (D := D) (ci := 6) (v := .int (iI (1))) (C := R_M) (T := F_M) (N := 26) hx hb hG in_M hown hK hP 0 rfl rfl 0 (by decide) (hG _ g_627) (fun _ h9 => h9) rfl d_M_hollow_46 ?_
      refine ri_if_le (tgt := 54) hx hb d_M_hollow_49 (by decide) (by omega) (fun c49 => ?_) (fun c49 => ?_)
      · exact absurd c49 (by decide)
      · refine ri_iconst hx hb d_M_hollow_52 ?_
        exact re_i hx hb hr hlocks (fun t ht hW => ⟨_, ⟨fun _ => ⟨rfl, rfl⟩, fun h => absurd h (by omega), fun h => absurd h (by omega)⟩, wd_next h0 hS hP hD t ht hW⟩) hS.2.2 (Nat.le_of_ble_eq_true rfl) (Nat.le_of_ble_eq_true rfl) d_M_hollow_53

set_option maxHeartbeats 4000000 in
set_option maxRecDepth 100000 in
theorem c_M_copy {l : Launch} {s0 : State} {D : va_G} {k : Nat → ClassId} (hC : Cx l s0 D k) (am a4 a5 a6 a7 a8 a10 a11 a12 a14 a15 a16 a18 a19 a20 a24 a25 : Nat) (y0 y1 y2 y3 y9 y13 y17 y21 y22 y23 : Int) (f4 f5 f6 f7 f8 f10 f11 f12 f14 f15 f16 f18 f19 f20 f24 f25 : Int → Int) (wr : va_W) (hy9 : 0 ≤ y9 ∧ y9 ≤ 6) (hf10 : ∀ i : Int, 0 ≤ i → i < y9 → 0 ≤ f10 i ∧ f10 i ≤ 64) (hf12 : ∀ i : Int, 0 ≤ i → i < y9 → ∀ j : Int, 0 ≤ j → j ≤ f10 i → 0 ≤ f12 (65 * i + j) ∧ f12 (65 * i + j) ≤ 500) (p p2 : Int) (hp : In32 p) (hp2 : In32 p2) : WdM l s0 D y_M_copy { frames := 2, cells := 0, slots := 0, locals := 46 } [.ref am, .int (iI (p)), .int (iI (p2))] ((am, .inr (6, [.int (iI (y0)), .int (iI (y1)), .int (iI (y2)), .int (iI (y3)), .ref a4, .ref a5, .ref a6, .ref a7, .ref a8, .int (iI (y9)), .ref a10, .ref a11, .ref a12, .int (iI (y13)), .ref a14, .ref a15, .ref a16, .int (iI (y17)), .ref a18, .ref a19, .ref a20, .int (iI (y21)), .int (iI (y22)), .int (iI (y23)), .ref a24, .ref a25])) :: (a4, .inl (k 0, ai 64 f4)) :: (a5, .inl (k 0, ai 64 f5)) :: (a6, .inl (k 0, ai 64 f6)) :: (a7, .inl (k 0, ai 64 f7)) :: (a8, .inl (k 0, ai 64 f8)) :: (a10, .inl (k 0, ai 6 f10)) :: (a11, .inl (k 0, ai 6 f11)) :: (a12, .inl (k 0, ai 390 f12)) :: (a14, .inl (k 0, ai 6 f14)) :: (a15, .inl (k 0, ai 65 f15)) :: (a16, .inl (k 0, ai 65 f16)) :: (a18, .inl (k 0, ai 6 f18)) :: (a19, .inl (k 0, ai 96 f19)) :: (a20, .inl (k 0, ai 96 f20)) :: (a24, .inl (k 0, ai 8 f24)) :: (a25, .inl (k 0, ai 8 f25)) :: wr) (fun v ws' => (¬ (0 ≤ p ∧ p < y9 ∧ 0 ≤ p2 ∧ p2 < y9) → v = some (.int (iI (0))) ∧ ws' = ((am, .inr (6, [.int (iI (1)), .int (iI (y1)), .int (iI (y2)), .int (iI (y3)), .ref a4, .ref a5, .ref a6, .ref a7, .ref a8, .int (iI (y9)), .ref a10, .ref a11, .ref a12, .int (iI (y13)), .ref a14, .ref a15, .ref a16, .int (iI (y17)), .ref a18, .ref a19, .ref a20, .int (iI (y21)), .int (iI (y22)), .int (iI (y23)), .ref a24, .ref a25])) :: (a4, .inl (k 0, ai 64 f4)) :: (a5, .inl (k 0, ai 64 f5)) :: (a6, .inl (k 0, ai 64 f6)) :: (a7, .inl (k 0, ai 64 f7)) :: (a8, .inl (k 0, ai 64 f8)) :: (a10, .inl (k 0, ai 6 f10)) :: (a11, .inl (k 0, ai 6 f11)) :: (a12, .inl (k 0, ai 390 f12)) :: (a14, .inl (k 0, ai 6 f14)) :: (a15, .inl (k 0, ai 65 f15)) :: (a16, .inl (k 0, ai 65 f16)) :: (a18, .inl (k 0, ai 6 f18)) :: (a19, .inl (k 0, ai 96 f19)) :: (a20, .inl (k 0, ai 96 f20)) :: (a24, .inl (k 0, ai 8 f24)) :: (a25, .inl (k 0, ai 8 f25)) :: wr)) ∧ ((0 ≤ p ∧ p < y9 ∧ 0 ≤ p2 ∧ p2 < y9) → v = some (.int (iI (itF max (fun j => ((f12 (65 * p + j) - f12 (65 * p2 + j)).natAbs : Int)) 0 0 (min (f10 p).toNat (f10 p2).toNat + 1)))) ∧ ws' = ((am, .inr (6, [.int (iI (0)), .int (iI (y1)), .int (iI (y2)), .int (iI (y3)), .ref a4, .ref a5, .ref a6, .ref a7, .ref a8, .int (iI (y9)), .ref a10, .ref a11, .ref a12, .int (iI (y13)), .ref a14, .ref a15, .ref a16, .int (iI (y17)), .ref a18, .ref a19, .ref a20, .int (iI (y21)), .int (iI (y22)), .int (iI (y23)), .ref a24, .ref a25])) :: (a4, .inl (k 0, ai 64 f4)) :: (a5, .inl (k 0, ai 64 f5)) :: (a6, .inl (k 0, ai 64 f6)) :: (a7, .inl (k 0, ai 64 f7)) :: (a8, .inl (k 0, ai 64 f8)) :: (a10, .inl (k 0, ai 6 f10)) :: (a11, .inl (k 0, ai 6 f11)) :: (a12, .inl (k 0, ai 390 f12)) :: (a14, .inl (k 0, ai 6 f14)) :: (a15, .inl (k 0, ai 65 f15)) :: (a16, .inl (k 0, ai 65 f16)) :: (a18, .inl (k 0, ai 6 f18)) :: (a19, .inl (k 0, ai 96 f19)) :: (a20, .inl (k 0, ai 96 f20)) :: (a24, .inl (k 0, ai 8 f24)) :: (a25, .inl (k 0, ai 8 f25)) :: wr))) (fun E ws' => False) 0 0 := by
  refine ex_ofW (cc := b_M_copy) (maxL := 6) (ret := (some .int)) (hh := []) (by decide +kernel) (Or.inl ⟨g_839, rfl⟩) ?_
  intro p9 e9 s m9 args9 below9 meth9 c9 s9 B9 hml htab hv
  obtain ⟨rfl, h0, hP, hD⟩ := hv
  have hx := B9.exec
  have hb := B9.bytes
  have hr := B9.returns
  have hG := atoms_spec (ws := GW) B9.pre
  have hown : s.vm.findClass "LathePiecesModel" = some m9.cls := findClass_of_methodNamed B9.named
  have hlocks := B9.notSynchronized
  have hK := cx_K hC h0
  have hS : va_S (aL s0) s.heap s.heap [] := va_S.rf
  have hA : ∀ q : Nat, s.heap.size ≤ q → aL s0 q := fun q h => Nat.le_trans h0.2.1 h
  have hl := lv_entry ([.ref am, .int (iI (p)), .int (iI (p2))]) (n := 6) (Nat.le_of_ble_eq_true rfl)
  rw [lg_entry_eq]
  generalize (lg_sl ([.ref am, .int (iI (p)), .int (iI (p2))]) ++ List.replicate (6 - (lg_sl ([.ref am, .int (iI (p)), .int (iI (p2))])).length) Slot.unset).toArray = ls at hl ⊢
  replace hl : lv_has ls 6 [(0, .ref am), (1, .int (iI (p))), (2, .int (iI (p2)))] := hl
  refine lv_aload_n hx hb d_M_copy_0 rfl (lv_at hl 0 rfl) ?_
  refine lv_aload_n hx hb d_M_copy_1 rfl (lv_at hl 0 rfl) ?_
  refine lv_iload_n hx hb d_M_copy_2 rfl (lv_at hl 1 rfl) ?_
  refine rd_call (ex_runV (C := "LathePiecesModel") (As := [.int (iI (p))]) (rest := [.ref am]) ⟨hx, hb, hml, hown, hG⟩ (c_M_isPiece hC y9 am [.int (iI (y0)), .int (iI (y1)), .int (iI (y2)), .int (iI (y3)), .ref a4, .ref a5, .ref a6, .ref a7, .ref a8, .int (iI (y9)), .ref a10, .ref a11, .ref a12, .int (iI (y13)), .ref a14, .ref a15, .ref a16, .int (iI (y17)), .ref a18, .ref a19, .ref a20, .int (iI (y21)), .int (iI (y22)), .int (iI (y23)), .ref a24, .ref a25] rfl hy9 p (by omega)) (cb_code (n := 1) hG g_772 g_3 g_769 rfl rfl (by decide +kernel) ⟨Nat.le_of_ble_eq_true rfl, Nat.le_of_ble_eq_true rfl⟩) (hG _ g_771) (hG _ gs_M_isPiece) (kd_V ⟨fun _ _ _ _ q => q, fun U hU hW => ⟨rfl, la_next h0 (fun _ z => z) hS U hU hW, (by show va_P D classes _ U.heap; rw [hU]; exact (va_P.sub hP [0] rfl))⟩⟩ (kd_recv hK hP (q0 := 0) (ci := 6) rfl rfl rfl)) rfl rfl hl.1 rfl (lv_room (Nat.le_of_ble_eq_true rfl)) d_M_copy_3 ⟨Nat.le_of_ble_eq_true rfl, Nat.le_of_ble_eq_true rfl⟩) (fun v9 h9 => ?_)
  rcases h9 with ⟨rfl, n6⟩ | ⟨rfl, n6⟩
  · show W _ _ _ _ _ _ _ _ _ _ _ _ _ _ _ (F0 m9 6 ls [.int (iI (1)), .ref am])
    refine ri_if_eq (tgt := 21) hx hb d_M_copy_6 (by decide) (by omega) (fun c6 => ?_) (fun c6 => ?_)
    · exact absurd c6 (by decide)
    · refine lv_aload_n hx hb d_M_copy_9 rfl (lv_at hl 0 rfl) ?_
      refine lv_iload_n hx hb d_M_copy_10 rfl (lv_at hl 2 rfl) ?_
      refine rd_call (ex_runV (C := "LathePiecesModel") (As := [.int (iI (p2))]) (rest := [.ref am]) ⟨hx, hb, hml, hown, hG⟩ (c_M_isPiece hC y9 am [.int (iI (y0)), .int (iI (y1)), .int (iI (y2)), .int (iI (y3)), .ref a4, .ref a5, .ref a6, .ref a7, .ref a8, .int (iI (y9)), .ref a10, .ref a11, .ref a12, .int (iI (y13)), .ref a14, .ref a15, .ref a16, .int (iI (y17)), .ref a18, .ref a19, .ref a20, .int (iI (y21)), .int (iI (y22)), .int (iI (y23)), .ref a24, .ref a25] rfl hy9 p2 (by omega)) (cb_code (n := 1) hG g_772 g_3 g_769 rfl rfl (by decide +kernel) ⟨Nat.le_of_ble_eq_true rfl, Nat.le_of_ble_eq_true rfl⟩) (hG _ g_771) (hG _ gs_M_isPiece) (kd_V ⟨fun _ _ _ _ q => q, fun U hU hW => ⟨rfl, la_next h0 (fun _ z => z) hS U hU hW, (by show va_P D classes _ U.heap; rw [hU]; exact (va_P.sub hP [0] rfl))⟩⟩ (kd_recv hK hP (q0 := 0) (ci := 6) rfl rfl rfl)) rfl rfl hl.1 rfl (lv_room (Nat.le_of_ble_eq_true rfl)) d_M_copy_11 ⟨Nat.le_of_ble_eq_true rfl, Nat.le_of_ble_eq_true rfl⟩) (fun v9 h9 => ?_)
      rcases h9 with ⟨rfl, n14⟩ | ⟨rfl, n14⟩
      · show W _ _ _ _ _ _ _ _ _ _ _ _ _ _ _ (F0 m9 14 ls [.int (iI (1)), .ref am])
        refine ri_if_eq (tgt := 21) hx hb d_M_copy_14 (by decide) (by omega) (fun c14 => ?_) (fun c14 => ?_)
        · exact absurd c14 (by decide)
        · refine ri_iconst hx hb d_M_copy_17 ?_
          refine lv_goto (tgt := 22) hx hb d_M_copy_18 (by decide) ?_
          refine va_put (D := D) (ci := 6) (v := .int (iI (0))) (ty := .int) (C := R_M) (T := F_M) (N := 26) hx hb hG in_M t_M t_M_ok n_M hown hK hP hD hS 0 rfl rfl 0 (by decide) (hG _ g_627) (fun _ h9 => h9) rfl (by decide +kernel) rfl rfl (Nat.le_of_ble_eq_true rfl) d_M_copy_22 (fun H locs hP hD hS => ?_)
          have hP : va_P D classes ((am, .inr (6, [.int (iI (0)), .int (iI (y1)), .int (iI (y2)), .int (iI (y3)), .ref a4, .ref a5, .ref a6, .ref a7, .ref a8, .int (iI (y9)), .ref a10, .ref a11, .ref a12, .int (iI (y13)), .ref a14, .ref a15, .ref a16, .int (iI (y17)), .ref a18, .ref a19, .ref a20, .int (iI (y21)), .int (iI (y22)), .int (iI (y23)), .ref a24, .ref a25])) :: (a4, .inl (k 0, ai 64 f4)) :: (a5, .inl (k 0, ai 64 f5)) :: (a6, .inl (k 0, ai 64 f6)) :: (a7, .inl (k 0, ai 64 f7)) :: (a8, .inl (k 0, ai 64 f8)) :: (a10, .inl (k 0, ai 6 f10)) :: (a11, .inl (k 0, ai 6 f11)) :: (a12, .inl (k 0, ai 390 f12)) :: (a14, .inl (k 0, ai 6 f14)) :: (a15, .inl (k 0, ai 65 f15)) :: (a16, .inl (k 0, ai 65 f16)) :: (a18, .inl (k 0, ai 6 f18)) :: (a19, .inl (k 0, ai 96 f19)) :: (a20, .inl (k 0, ai 96 f20)) :: (a24, .inl (k 0, ai 8 f24)) :: (a25, .inl (k 0, ai 8 f25)) :: wr) H := hP
          have hD : va_D (fun q : Nat => s0.heap.size ≤ q) ((am, .inr (6, [.int (iI (0)), .int (iI (y1)), .int (iI (y2)), .int (iI (y3)), .ref a4, .ref a5, .ref a6, .ref a7, .ref a8, .int (iI (y9)), .ref a10, .ref a11, .ref a12, .int (iI (y13)), .ref a14, .ref a15, .ref a16, .int (iI (y17)), .ref a18, .ref a19, .ref a20, .int (iI (y21)), .int (iI (y22)), .int (iI (y23)), .ref a24, .ref a25])) :: (a4, .inl (k 0, ai 64 f4)) :: (a5, .inl (k 0, ai 64 f5)) :: (a6, .inl (k 0, ai 64 f6)) :: (a7, .inl (k 0, ai 64 f7)) :: (a8, .inl (k 0, ai 64 f8)) :: (a10, .inl (k 0, ai 6 f10)) :: (a11, .inl (k 0, ai 6 f11)) :: (a12, .inl (k 0, ai 390 f12)) :: (a14, .inl (k 0, ai 6 f14)) :: (a15, .inl (k 0, ai 65 f15)) :: (a16, .inl (k 0, ai 65 f16)) :: (a18, .inl (k 0, ai 6 f18)) :: (a19, .inl (k 0, ai 96 f19)) :: (a20, .inl (k 0, ai 96 f20)) :: (a24, .inl (k 0, ai 8 f24)) :: (a25, .inl (k 0, ai 8 f25)) :: wr) := hD
          refine ri_iconst hx hb d_M_copy_25 ?_
          refine lv_istore_n (lv' := [(3, .int (iI (0))), (0, .ref am), (1, .int (iI (p))), (2, .int (iI (p2)))]) hx hb d_M_copy_26 rfl hl (by decide) rfl (fun ls hl => ?_)
          refine ri_iconst hx hb d_M_copy_27 ?_
          refine lv_istore (lv' := [(4, .int (iI (0))), (3, .int (iI (0))), (0, .ref am), (1, .int (iI (p))), (2, .int (iI (p2)))]) hx hb d_M_copy_28 hl (by decide) rfl (fun ls hl => ?_)
          have h7 := hf10 p (by omega) (by omega)
          obtain ⟨L, hL⟩ : ∃ L : Nat, f10 p = (L : Int) := ⟨(f10 p).toNat, (Int.toNat_of_nonneg h7.1).symm⟩
          have gL : (f10 p).toNat = L := by omega
          have hL64 : L ≤ 64 := by omega
          have hrr : ∀ j : Int, 0 ≤ j → j ≤ L → 0 ≤ f12 (65 * p + j) ∧ f12 (65 * p + j) ≤ 500 := fun j h1 h2 => hf12 p (by omega) (by omega) j h1 (by omega)
          have h7b := hf10 p2 (by omega) (by omega)
          obtain ⟨Lb, hLb⟩ : ∃ L : Nat, f10 p2 = (L : Int) := ⟨(f10 p2).toNat, (Int.toNat_of_nonneg h7b.1).symm⟩
          have gLb : (f10 p2).toNat = Lb := by omega
          have hL64b : Lb ≤ 64 := by omega
          have hrrb : ∀ j : Int, 0 ≤ j → j ≤ Lb → 0 ≤ f12 (65 * p2 + j) ∧ f12 (65 * p2 + j) ≤ 500 := fun j h1 h2 => hf12 p2 (by omega) (by omega) j h1 (by omega)
          replace hl : lv_has ls 6 [(4, .int (iI (0 + ((0 : Nat) : Int)))), (3, .int (iI (itF max (fun j => ((f12 (65 * p + j) - f12 (65 * p2 + j)).natAbs : Int)) 0 0 0))), (0, .ref am), (1, .int (iI (p))), (2, .int (iI (p2)))] := hl
          obtain ⟨κ, ν, hinv, hl1⟩ : ∃ (κ : Nat) (ν : Nat), (ν + κ = min L Lb + 1) ∧ lv_has ls 6 [(0, .ref am), (1, .int (iI (p))), (2, .int (iI (p2))), (3, .int (iI (itF max (fun j => ((f12 (65 * p + j) - f12 (65 * p2 + j)).natAbs : Int)) 0 0 ν))), (4, .int (iI (0 + (ν : Int))))] := ⟨min L Lb + 1, 0, (by omega), lv_sub hl [2, 3, 4, 1, 0] rfl⟩
          clear hl
          have hl := hl1
          clear hl1
          induction κ generalizing ν ls with
          | zero =>
            obtain h1 := hinv
            have hS9 : 0 ≤ itF max (fun j => ((f12 (65 * p + j) - f12 (65 * p2 + j)).natAbs : Int)) 0 0 ν ∧ itF max (fun j => ((f12 (65 * p + j) - f12 (65 * p2 + j)).natAbs : Int)) 0 0 ν ≤ 500 := itF_max ν (by omega) (fun j h1 h2 => by have := hrr j (by omega) (by omega); have := hrrb j (by omega) (by omega); omega)
            refine lv_aload_n hx hb d_M_copy_30 rfl (lv_at hl 0 rfl) ?_
            refine va_get (D := D) (ci := 6) (v := .int (iI (0))) (C := R_M) (T := F_M) (N := 26) hx hb hG in_M hown hK hP 0 rfl rfl 0 (by decide) (hG _ g_627) (fun _ h9 => h9) rfl d_M_copy_31 ?_
            refine ri_if_ne (tgt := 120) hx hb d_M_copy_34 (by decide) (by omega) (fun c34 => ?_) (fun c34 => ?_)
            · exact absurd rfl c34
            · refine lv_iload hx hb d_M_copy_37 (lv_at hl 4 rfl) ?_
              refine lv_aload_n hx hb d_M_copy_39 rfl (lv_at hl 0 rfl) ?_
              refine va_get (D := D) (ci := 6) (v := .ref a10) (C := R_M) (T := F_M) (N := 26) hx hb hG in_M hown hK hP 0 rfl rfl 10 (by decide) (hG _ g_637) (fun _ h9 => h9) rfl d_M_copy_40 ?_
              refine lv_iload_n hx hb d_M_copy_43 rfl (lv_at hl 1 rfl) ?_
              refine ra_iald hx hb hK hP 6 rfl (by omega) (by omega) d_M_copy_44 ?_
              refine ri_icmp_gt (tgt := 120) hx hb d_M_copy_45 (by decide) (by omega) (by omega) (fun c45 => ?_) (fun c45 => ?_)
              · refine lv_iload_n hx hb d_M_copy_120 rfl (lv_at hl 3 rfl) ?_
                exact re_i hx hb hr hlocks (fun t ht hW => ⟨_, ⟨fun h => absurd h (by omega), fun _ => ⟨by rw [gL, gLb, show min L Lb + 1 = ν by omega], rfl⟩⟩, wd_next h0 hS hP hD t ht hW⟩) hS.2.2 (Nat.le_of_ble_eq_true rfl) (Nat.le_of_ble_eq_true rfl) d_M_copy_121
              · refine lv_iload hx hb d_M_copy_48 (lv_at hl 4 rfl) ?_
                refine lv_aload_n hx hb d_M_copy_50 rfl (lv_at hl 0 rfl) ?_
                refine va_get (D := D) (ci := 6) (v := .ref a10) (C := R_M) (T := F_M) (N := 26) hx hb hG in_M hown hK hP 0 rfl rfl 10 (by decide) (hG _ g_637) (fun _ h9 => h9) rfl d_M_copy_51 ?_
                refine lv_iload_n hx hb d_M_copy_54 rfl (lv_at hl 2 rfl) ?_
                refine ra_iald hx hb hK hP 6 rfl (by omega) (by omega) d_M_copy_55 ?_
                refine ri_icmp_gt (tgt := 120) hx hb d_M_copy_56 (by decide) (by omega) (by omega) (fun c56 => ?_) (fun c56 => ?_)
                · refine lv_iload_n hx hb d_M_copy_120 rfl (lv_at hl 3 rfl) ?_
                  exact re_i hx hb hr hlocks (fun t ht hW => ⟨_, ⟨fun h => absurd h (by omega), fun _ => ⟨by rw [gL, gLb, show min L Lb + 1 = ν by omega], rfl⟩⟩, wd_next h0 hS hP hD t ht hW⟩) hS.2.2 (Nat.le_of_ble_eq_true rfl) (Nat.le_of_ble_eq_true rfl) d_M_copy_121
                · exact absurd c56 (by omega)
          | succ κ ih =>
            obtain h1 := hinv
            have hS9 : 0 ≤ itF max (fun j => ((f12 (65 * p + j) - f12 (65 * p2 + j)).natAbs : Int)) 0 0 ν ∧ itF max (fun j => ((f12 (65 * p + j) - f12 (65 * p2 + j)).natAbs : Int)) 0 0 ν ≤ 500 := itF_max ν (by omega) (fun j h1 h2 => by have := hrr j (by omega) (by omega); have := hrrb j (by omega) (by omega); omega)
            refine lv_aload_n hx hb d_M_copy_30 rfl (lv_at hl 0 rfl) ?_
            refine va_get (D := D) (ci := 6) (v := .int (iI (0))) (C := R_M) (T := F_M) (N := 26) hx hb hG in_M hown hK hP 0 rfl rfl 0 (by decide) (hG _ g_627) (fun _ h9 => h9) rfl d_M_copy_31 ?_
            refine ri_if_ne (tgt := 120) hx hb d_M_copy_34 (by decide) (by omega) (fun c34 => ?_) (fun c34 => ?_)
            · exact absurd rfl c34
            · refine lv_iload hx hb d_M_copy_37 (lv_at hl 4 rfl) ?_
              refine lv_aload_n hx hb d_M_copy_39 rfl (lv_at hl 0 rfl) ?_
              refine va_get (D := D) (ci := 6) (v := .ref a10) (C := R_M) (T := F_M) (N := 26) hx hb hG in_M hown hK hP 0 rfl rfl 10 (by decide) (hG _ g_637) (fun _ h9 => h9) rfl d_M_copy_40 ?_
              refine lv_iload_n hx hb d_M_copy_43 rfl (lv_at hl 1 rfl) ?_
              refine ra_iald hx hb hK hP 6 rfl (by omega) (by omega) d_M_copy_44 ?_
              refine ri_icmp_gt (tgt := 120) hx hb d_M_copy_45 (by decide) (by omega) (by omega) (fun c45 => ?_) (fun c45 => ?_)
              · exact absurd c45 (by omega)
              · refine lv_iload hx hb d_M_copy_48 (lv_at hl 4 rfl) ?_
                refine lv_aload_n hx hb d_M_copy_50 rfl (lv_at hl 0 rfl) ?_
                refine va_get (D := D) (ci := 6) (v := .ref a10) (C := R_M) (T := F_M) (N := 26) hx hb hG in_M hown hK hP 0 rfl rfl 10 (by decide) (hG _ g_637) (fun _ h9 => h9) rfl d_M_copy_51 ?_
                refine lv_iload_n hx hb d_M_copy_54 rfl (lv_at hl 2 rfl) ?_
                refine ra_iald hx hb hK hP 6 rfl (by omega) (by omega) d_M_copy_55 ?_
                refine ri_icmp_gt (tgt := 120) hx hb d_M_copy_56 (by decide) (by omega) (by omega) (fun c56 => ?_) (fun c56 => ?_)
                · exact absurd c56 (by omega)
                · have q1 := hrr (0 + (ν : Int)) (by omega) (by omega)
                  have q2 := hrrb (0 + (ν : Int)) (by omega) (by omega)
                  refine lv_aload_n hx hb d_M_copy_59 rfl (lv_at hl 0 rfl) ?_
                  refine va_get (D := D) (ci := 6) (v := .ref a12) (C := R_M) (T := F_M) (N := 26) hx hb hG in_M hown hK hP 0 rfl rfl 12 (by decide) (hG _ g_639) (fun _ h9 => h9) rfl d_M_copy_60 ?_
                  refine ri_bipush hx hb d_M_copy_63 (by decide) ?_
                  refine lv_iload_n hx hb d_M_copy_65 rfl (lv_at hl 1 rfl) ?_
                  refine ri_imul hx hb d_M_copy_66 ?_
                  refine lv_iload hx hb d_M_copy_67 (lv_at hl 4 rfl) ?_
                  refine ri_iadd hx hb d_M_copy_69 ?_
                  refine tp_i (congrArg iI (show (65 * p) + (0 + (ν : Int)) = 65 * p + (0 + (ν : Int)) from by omega)) ?_
                  refine ra_iald hx hb hK hP 8 rfl (by omega) (by omega) d_M_copy_70 ?_
                  refine lv_aload_n hx hb d_M_copy_71 rfl (lv_at hl 0 rfl) ?_
                  refine va_get (D := D) (ci := 6) (v := .ref a12) (C := R_M) (T := F_M) (N := 26) hx hb hG in_M hown hK hP 0 rfl rfl 12 (by decide) (hG _ g_639) (fun _ h9 => h9) rfl d_M_copy_72 ?_
                  refine ri_bipush hx hb d_M_copy_75 (by decide) ?_
                  refine lv_iload_n hx hb d_M_copy_77 rfl (lv_at hl 2 rfl) ?_
                  refine ri_imul hx hb d_M_copy_78 ?_
                  refine lv_iload hx hb d_M_copy_79 (lv_at hl 4 rfl) ?_
                  refine ri_iadd hx hb d_M_copy_81 ?_
                  refine tp_i (congrArg iI (show (65 * p2) + (0 + (ν : Int)) = 65 * p2 + (0 + (ν : Int)) from by omega)) ?_
                  refine ra_iald hx hb hK hP 8 rfl (by omega) (by omega) d_M_copy_82 ?_
                  refine ri_isub hx hb d_M_copy_83 ?_
                  refine lv_istore (lv' := [(5, .int (iI ((f12 (65 * p + (0 + (ν : Int)))) - (f12 (65 * p2 + (0 + (ν : Int))))))), (0, .ref am), (1, .int (iI (p))), (2, .int (iI (p2))), (3, .int (iI (itF max (fun j => ((f12 (65 * p + j) - f12 (65 * p2 + j)).natAbs : Int)) 0 0 ν))), (4, .int (iI (0 + (ν : Int))))]) hx hb d_M_copy_84 hl (by decide) rfl (fun ls hl => ?_)
                  refine lv_iload hx hb d_M_copy_86 (lv_at hl 0 rfl) ?_
                  refine ri_if_ge (tgt := 97) hx hb d_M_copy_88 (by decide) (by omega) (fun c88 => ?_) (fun c88 => ?_)
                  · refine lv_iload hx hb d_M_copy_97 (lv_at hl 0 rfl) ?_
                    refine tp_i (congrArg iI (show (f12 (65 * p + (0 + (ν : Int)))) - (f12 (65 * p2 + (0 + (ν : Int)))) = ((f12 (65 * p + (0 + (ν : Int))) - f12 (65 * p2 + (0 + (ν : Int)))).natAbs : Int) from by omega)) ?_
                    refine lv_istore (lv' := [(5, .int (iI (((f12 (65 * p + (0 + (ν : Int))) - f12 (65 * p2 + (0 + (ν : Int)))).natAbs : Int)))), (0, .ref am), (1, .int (iI (p))), (2, .int (iI (p2))), (3, .int (iI (itF max (fun j => ((f12 (65 * p + j) - f12 (65 * p2 + j)).natAbs : Int)) 0 0 ν))), (4, .int (iI (0 + (ν : Int))))]) hx hb d_M_copy_99 hl (by decide) rfl (fun ls hl => ?_)
                    refine lv_iload hx hb d_M_copy_101 (lv_at hl 0 rfl) ?_
                    refine lv_iload_n hx hb d_M_copy_103 rfl (lv_at hl 4 rfl) ?_
                    refine ri_icmp_le (tgt := 112) hx hb d_M_copy_104 (by decide) (by omega) (by omega) (fun c104 => ?_) (fun c104 => ?_)
                    · refine lv_iload_n hx hb d_M_copy_112 rfl (lv_at hl 4 rfl) ?_
                      refine tp_i (congrArg iI (show itF max (fun j => ((f12 (65 * p + j) - f12 (65 * p2 + j)).natAbs : Int)) 0 0 ν = itF max (fun j => ((f12 (65 * p + j) - f12 (65 * p2 + j)).natAbs : Int)) 0 0 (ν + 1) from by rw [itF_s]; omega)) ?_
                      refine lv_istore_n (lv' := [(3, .int (iI (itF max (fun j => ((f12 (65 * p + j) - f12 (65 * p2 + j)).natAbs : Int)) 0 0 (ν + 1)))), (5, .int (iI (((f12 (65 * p + (0 + (ν : Int))) - f12 (65 * p2 + (0 + (ν : Int)))).natAbs : Int)))), (0, .ref am), (1, .int (iI (p))), (2, .int (iI (p2))), (4, .int (iI (0 + (ν : Int))))]) hx hb d_M_copy_113 rfl hl (by decide) rfl (fun ls hl => ?_)
                      refine lv_iinc (v := iI (0 + ((ν + 1 : Nat) : Int))) (lv' := [(4, .int (iI (0 + ((ν + 1 : Nat) : Int)))), (3, .int (iI (itF max (fun j => ((f12 (65 * p + j) - f12 (65 * p2 + j)).natAbs : Int)) 0 0 (ν + 1)))), (5, .int (iI (((f12 (65 * p + (0 + (ν : Int))) - f12 (65 * p2 + (0 + (ν : Int)))).natAbs : Int)))), (0, .ref am), (1, .int (iI (p))), (2, .int (iI (p2)))]) hx hb d_M_copy_114 hl (k := 5) rfl ((ii_add _ _).trans (congrArg iI (by omega))) (by decide) rfl (fun ls hl => ?_)
                      refine lv_goto (tgt := 30) hx hb d_M_copy_117 (by decide) ?_
                      exact ih ls (ν + 1) (by omega) (lv_sub hl [3, 4, 5, 1, 0] rfl)
                    · refine lv_iload hx hb d_M_copy_107 (lv_at hl 0 rfl) ?_
                      refine lv_goto (tgt := 113) hx hb d_M_copy_109 (by decide) ?_
                      refine tp_i (congrArg iI (show ((f12 (65 * p + (0 + (ν : Int))) - f12 (65 * p2 + (0 + (ν : Int)))).natAbs : Int) = itF max (fun j => ((f12 (65 * p + j) - f12 (65 * p2 + j)).natAbs : Int)) 0 0 (ν + 1) from by rw [itF_s]; omega)) ?_
                      refine lv_istore_n (lv' := [(3, .int (iI (itF max (fun j => ((f12 (65 * p + j) - f12 (65 * p2 + j)).natAbs : Int)) 0 0 (ν + 1)))), (5, .int (iI (((f12 (65 * p + (0 + (ν : Int))) - f12 (65 * p2 + (0 + (ν : Int)))).natAbs : Int)))), (0, .ref am), (1, .int (iI (p))), (2, .int (iI (p2))), (4, .int (iI (0 + (ν : Int))))]) hx hb d_M_copy_113 rfl hl (by decide) rfl (fun ls hl => ?_)
                      refine lv_iinc (v := iI (0 + ((ν + 1 : Nat) : Int))) (lv' := [(4, .int (iI (0 + ((ν + 1 : Nat) : Int)))), (3, .int (iI (itF max (fun j => ((f12 (65 * p + j) - f12 (65 * p2 + j)).natAbs : Int)) 0 0 (ν + 1)))), (5, .int (iI (((f12 (65 * p + (0 + (ν : Int))) - f12 (65 * p2 + (0 + (ν : Int)))).natAbs : Int)))), (0, .ref am), (1, .int (iI (p))), (2, .int (iI (p2)))]) hx hb d_M_copy_114 hl (k := 5) rfl ((ii_add _ _).trans (congrArg iI (by omega))) (by decide) rfl (fun ls hl => ?_)
                      refine lv_goto (tgt := 30) hx hb d_M_copy_117 (by decide) ?_
                      exact ih ls (ν + 1) (by omega) (lv_sub hl [3, 4, 5, 1, 0] rfl)
                  · refine lv_iload hx hb d_M_copy_91 (lv_at hl 0 rfl) ?_
                    refine ri_ineg hx hb d_M_copy_93 ?_
                    refine lv_goto (tgt := 99) hx hb d_M_copy_94 (by decide) ?_
                    refine tp_i (congrArg iI (show -((f12 (65 * p + (0 + (ν : Int)))) - (f12 (65 * p2 + (0 + (ν : Int))))) = ((f12 (65 * p + (0 + (ν : Int))) - f12 (65 * p2 + (0 + (ν : Int)))).natAbs : Int) from by omega)) ?_
                    refine lv_istore (lv' := [(5, .int (iI (((f12 (65 * p + (0 + (ν : Int))) - f12 (65 * p2 + (0 + (ν : Int)))).natAbs : Int)))), (0, .ref am), (1, .int (iI (p))), (2, .int (iI (p2))), (3, .int (iI (itF max (fun j => ((f12 (65 * p + j) - f12 (65 * p2 + j)).natAbs : Int)) 0 0 ν))), (4, .int (iI (0 + (ν : Int))))]) hx hb d_M_copy_99 hl (by decide) rfl (fun ls hl => ?_)
                    refine lv_iload hx hb d_M_copy_101 (lv_at hl 0 rfl) ?_
                    refine lv_iload_n hx hb d_M_copy_103 rfl (lv_at hl 4 rfl) ?_
                    refine ri_icmp_le (tgt := 112) hx hb d_M_copy_104 (by decide) (by omega) (by omega) (fun c104 => ?_) (fun c104 => ?_)
                    · refine lv_iload_n hx hb d_M_copy_112 rfl (lv_at hl 4 rfl) ?_
                      refine tp_i (congrArg iI (show itF max (fun j => ((f12 (65 * p + j) - f12 (65 * p2 + j)).natAbs : Int)) 0 0 ν = itF max (fun j => ((f12 (65 * p + j) - f12 (65 * p2 + j)).natAbs : Int)) 0 0 (ν + 1) from by rw [itF_s]; omega)) ?_
                      refine lv_istore_n (lv' := [(3, .int (iI (itF max (fun j => ((f12 (65 * p + j) - f12 (65 * p2 + j)).natAbs : Int)) 0 0 (ν + 1)))), (5, .int (iI (((f12 (65 * p + (0 + (ν : Int))) - f12 (65 * p2 + (0 + (ν : Int)))).natAbs : Int)))), (0, .ref am), (1, .int (iI (p))), (2, .int (iI (p2))), (4, .int (iI (0 + (ν : Int))))]) hx hb d_M_copy_113 rfl hl (by decide) rfl (fun ls hl => ?_)
                      refine lv_iinc (v := iI (0 + ((ν + 1 : Nat) : Int))) (lv' := [(4, .int (iI (0 + ((ν + 1 : Nat) : Int)))), (3, .int (iI (itF max (fun j => ((f12 (65 * p + j) - f12 (65 * p2 + j)).natAbs : Int)) 0 0 (ν + 1)))), (5, .int (iI (((f12 (65 * p + (0 + (ν : Int))) - f12 (65 * p2 + (0 + (ν : Int)))).natAbs : Int)))), (0, .ref am), (1, .int (iI (p))), (2, .int (iI (p2)))]) hx hb d_M_copy_114 hl (k := 5) rfl ((ii_add _ _).trans (congrArg iI (by omega))) (by decide) rfl (fun ls hl => ?_)
                      refine lv_goto (tgt := 30) hx hb d_M_copy_117 (by decide) ?_
                      exact ih ls (ν + 1) (by omega) (lv_sub hl [3, 4, 5, 1, 0] rfl)
                    · refine lv_iload hx hb d_M_copy_107 (lv_at hl 0 rfl) ?_
                      refine lv_goto (tgt := 113) hx hb d_M_copy_109 (by decide) ?_
                      refine tp_i (congrArg iI (show ((f12 (65 * p + (0 + (ν : Int))) - f12 (65 * p2 + (0 + (ν : Int)))).natAbs : Int) = itF max (fun j => ((f12 (65 * p + j) - f12 (65 * p2 + j)).natAbs : Int)) 0 0 (ν + 1) from by rw [itF_s]; omega)) ?_
                      refine lv_istore_n (lv' := [(3, .int (iI (itF max (fun j => ((f12 (65 * p + j) - f12 (65 * p2 + j)).natAbs : Int)) 0 0 (ν + 1)))), (5, .int (iI (((f12 (65 * p + (0 + (ν : Int))) - f12 (65 * p2 + (0 + (ν : Int)))).natAbs : Int)))), (0, .ref am), (1, .int (iI (p))), (2, .int (iI (p2))), (4, .int (iI (0 + (ν : Int))))]) hx hb d_M_copy_113 rfl hl (by decide) rfl (fun ls hl => ?_)
                      refine lv_iinc (v := iI (0 + ((ν + 1 : Nat) : Int))) (lv' := [(4, .int (iI (0 + ((ν + 1 : Nat) : Int)))), (3, .int (iI (itF max (fun j => ((f12 (65 * p + j) - f12 (65 * p2 + j)).natAbs : Int)) 0 0 (ν + 1)))), (5, .int (iI (((f12 (65 * p + (0 + (ν : Int))) - f12 (65 * p2 + (0 + (ν : Int)))).natAbs : Int)))), (0, .ref am), (1, .int (iI (p))), (2, .int (iI (p2)))]) hx hb d_M_copy_114 hl (k := 5) rfl ((ii_add _ _).trans (congrArg iI (by omega))) (by decide) rfl (fun ls hl => ?_)
                      refine lv_goto (tgt := 30) hx hb d_M_copy_117 (by decide) ?_
                      exact ih ls (ν + 1) (by omega) (lv_sub hl [3, 4, 5, 1, 0] rfl)
      · show W _ _ _ _ _ _ _ _ _ _ _ _ _ _ _ (F0 m9 14 ls [.int (iI (0)), .ref am])
        refine ri_if_eq (tgt := 21) hx hb d_M_copy_14 (by decide) (by omega) (fun c14 => ?_) (fun c14 => ?_)
        · refine ri_iconst hx hb d_M_copy_21 ?_
          refine va_put (D := D) (ci := 6) (v := .int (iI (1))) (ty := .int) (C := R_M) (T := F_M) (N := 26) hx hb hG in_M t_M t_M_ok n_M hown hK hP hD hS 0 rfl rfl 0 (by decide) (hG _ g_627) (fun _ h9 => h9) rfl (by decide +kernel) rfl rfl (Nat.le_of_ble_eq_true rfl) d_M_copy_22 (fun H locs hP hD hS => ?_)
          have hP : va_P D classes ((am, .inr (6, [.int (iI (1)), .int (iI (y1)), .int (iI (y2)), .int (iI (y3)), .ref a4, .ref a5, .ref a6, .ref a7, .ref a8, .int (iI (y9)), .ref a10, .ref a11, .ref a12, .int (iI (y13)), .ref a14, .ref a15, .ref a16, .int (iI (y17)), .ref a18, .ref a19, .ref a20, .int (iI (y21)), .int (iI (y22)), .int (iI (y23)), .ref a24, .ref a25])) :: (a4, .inl (k 0, ai 64 f4)) :: (a5, .inl (k 0, ai 64 f5)) :: (a6, .inl (k 0, ai 64 f6)) :: (a7, .inl (k 0, ai 64 f7)) :: (a8, .inl (k 0, ai 64 f8)) :: (a10, .inl (k 0, ai 6 f10)) :: (a11, .inl (k 0, ai 6 f11)) :: (a12, .inl (k 0, ai 390 f12)) :: (a14, .inl (k 0, ai 6 f14)) :: (a15, .inl (k 0, ai 65 f15)) :: (a16, .inl (k 0, ai 65 f16)) :: (a18, .inl (k 0, ai 6 f18)) :: (a19, .inl (k 0, ai 96 f19)) :: (a20, .inl (k 0, ai 96 f20)) :: (a24, .inl (k 0, ai 8 f24)) :: (a25, .inl (k 0, ai 8 f25)) :: wr) H := hP
          have hD : va_D (fun q : Nat => s0.heap.size ≤ q) ((am, .inr (6, [.int (iI (1)), .int (iI (y1)), .int (iI (y2)), .int (iI (y3)), .ref a4, .ref a5, .ref a6, .ref a7, .ref a8, .int (iI (y9)), .ref a10, .ref a11, .ref a12, .int (iI (y13)), .ref a14, .ref a15, .ref a16, .int (iI (y17)), .ref a18, .ref a19, .ref a20, .int (iI (y21)), .int (iI (y22)), .int (iI (y23)), .ref a24, .ref a25])) :: (a4, .inl (k 0, ai 64 f4)) :: (a5, .inl (k 0, ai 64 f5)) :: (a6, .inl (k 0, ai 64 f6)) :: (a7, .inl (k 0, ai 64 f7)) :: (a8, .inl (k 0, ai 64 f8)) :: (a10, .inl (k 0, ai 6 f10)) :: (a11, .inl (k 0, ai 6 f11)) :: (a12, .inl (k 0, ai 390 f12)) :: (a14, .inl (k 0, ai 6 f14)) :: (a15, .inl (k 0, ai 65 f15)) :: (a16, .inl (k 0, ai 65 f16)) :: (a18, .inl (k 0, ai 6 f18)) :: (a19, .inl (k 0, ai 96 f19)) :: (a20, .inl (k 0, ai 96 f20)) :: (a24, .inl (k 0, ai 8 f24)) :: (a25, .inl (k 0, ai 8 f25)) :: wr) := hD
          refine ri_iconst hx hb d_M_copy_25 ?_
          refine lv_istore_n (lv' := [(3, .int (iI (0))), (0, .ref am), (1, .int (iI (p))), (2, .int (iI (p2)))]) hx hb d_M_copy_26 rfl hl (by decide) rfl (fun ls hl => ?_)
          refine ri_iconst hx hb d_M_copy_27 ?_
          refine lv_istore (lv' := [(4, .int (iI (0))), (3, .int (iI (0))), (0, .ref am), (1, .int (iI (p))), (2, .int (iI (p2)))]) hx hb d_M_copy_28 hl (by decide) rfl (fun ls hl => ?_)
          refine lv_aload_n hx hb d_M_copy_30 rfl (lv_at hl 2 rfl) ?_
          refine va_get (D := D) (ci := 6) (v := .int (iI (1))) (C := R_M) (T := F_M) (N := 26) hx hb hG in_M hown hK hP 0 rfl rfl 0 (by decide) (hG _ g_627) (fun _ h9 => h9) rfl d_M_copy_31 ?_
          refine ri_if_ne (tgt := 120) hx hb d_M_copy_34 (by decide) (by omega) (fun c34 => ?_) (fun c34 => ?_)
          · refine lv_iload_n hx hb d_M_copy_120 rfl (lv_at hl 1 rfl) ?_
            exact re_i hx hb hr hlocks (fun t ht hW => ⟨_, ⟨fun _ => ⟨rfl, rfl⟩, fun h => absurd h (by omega)⟩, wd_next h0 hS hP hD t ht hW⟩) hS.2.2 (Nat.le_of_ble_eq_true rfl) (Nat.le_of_ble_eq_true rfl) d_M_copy_121
          · exact absurd c34 (by decide)
        · exact absurd c14 (by decide)
  · show W _ _ _ _ _ _ _ _ _ _ _ _ _ _ _ (F0 m9 6 ls [.int (iI (0)), .ref am])
    refine ri_if_eq (tgt := 21) hx hb d_M_copy_6 (by decide) (by omega) (fun c6 => ?_) (fun c6 => ?_)
    · refine ri_iconst hx hb d_M_copy_21 ?_
      refine va_put (D := D) (ci := 6) (v := .int (iI (1))) (ty := .int) (C := R_M) (T := F_M) (N := 26) hx hb hG in_M t_M t_M_ok n_M hown hK hP hD hS 0 rfl rfl 0 (by decide) (hG _ g_627) (fun _ h9 => h9) rfl (by decide +kernel) rfl rfl (Nat.le_of_ble_eq_true rfl) d_M_copy_22 (fun H locs hP hD hS => ?_)
      have hP : va_P D classes ((am, .inr (6, [.int (iI (1)), .int (iI (y1)), .int (iI (y2)), .int (iI (y3)), .ref a4, .ref a5, .ref a6, .ref a7, .ref a8, .int (iI (y9)), .ref a10, .ref a11, .ref a12, .int (iI (y13)), .ref a14, .ref a15, .ref a16, .int (iI (y17)), .ref a18, .ref a19, .ref a20, .int (iI (y21)), .int (iI (y22)), .int (iI (y23)), .ref a24, .ref a25])) :: (a4, .inl (k 0, ai 64 f4)) :: (a5, .inl (k 0, ai 64 f5)) :: (a6, .inl (k 0, ai 64 f6)) :: (a7, .inl (k 0, ai 64 f7)) :: (a8, .inl (k 0, ai 64 f8)) :: (a10, .inl (k 0, ai 6 f10)) :: (a11, .inl (k 0, ai 6 f11)) :: (a12, .inl (k 0, ai 390 f12)) :: (a14, .inl (k 0, ai 6 f14)) :: (a15, .inl (k 0, ai 65 f15)) :: (a16, .inl (k 0, ai 65 f16)) :: (a18, .inl (k 0, ai 6 f18)) :: (a19, .inl (k 0, ai 96 f19)) :: (a20, .inl (k 0, ai 96 f20)) :: (a24, .inl (k 0, ai 8 f24)) :: (a25, .inl (k 0, ai 8 f25)) :: wr) H := hP
      have hD : va_D (fun q : Nat => s0.heap.size ≤ q) ((am, .inr (6, [.int (iI (1)), .int (iI (y1)), .int (iI (y2)), .int (iI (y3)), .ref a4, .ref a5, .ref a6, .ref a7, .ref a8, .int (iI (y9)), .ref a10, .ref a11, .ref a12, .int (iI (y13)), .ref a14, .ref a15, .ref a16, .int (iI (y17)), .ref a18, .ref a19, .ref a20, .int (iI (y21)), .int (iI (y22)), .int (iI (y23)), .ref a24, .ref a25])) :: (a4, .inl (k 0, ai 64 f4)) :: (a5, .inl (k 0, ai 64 f5)) :: (a6, .inl (k 0, ai 64 f6)) :: (a7, .inl (k 0, ai 64 f7)) :: (a8, .inl (k 0, ai 64 f8)) :: (a10, .inl (k 0, ai 6 f10)) :: (a11, .inl (k 0, ai 6 f11)) :: (a12, .inl (k 0, ai 390 f12)) :: (a14, .inl (k 0, ai 6 f14)) :: (a15, .inl (k 0, ai 65 f15)) :: (a16, .inl (k 0, ai 65 f16)) :: (a18, .inl (k 0, ai 6 f18)) :: (a19, .inl (k 0, ai 96 f19)) :: (a20, .inl (k 0, ai 96 f20)) :: (a24, .inl (k 0, ai 8 f24)) :: (a25, .inl (k 0, ai 8 f25)) :: wr) := hD
      refine ri_iconst hx hb d_M_copy_25 ?_
      refine lv_istore_n (lv' := [(3, .int (iI (0))), (0, .ref am), (1, .int (iI (p))), (2, .int (iI (p2)))]) hx hb d_M_copy_26 rfl hl (by decide) rfl (fun ls hl => ?_)
      refine ri_iconst hx hb d_M_copy_27 ?_
      refine lv_istore (lv' := [(4, .int (iI (0))), (3, .int (iI (0))), (0, .ref am), (1, .int (iI (p))), (2, .int (iI (p2)))]) hx hb d_M_copy_28 hl (by decide) rfl (fun ls hl => ?_)
      refine lv_aload_n hx hb d_M_copy_30 rfl (lv_at hl 2 rfl) ?_
      refine va_get (D := D) (ci := 6) (v := .int (iI (1))) (C := R_M) (T := F_M) (N := 26) hx hb hG in_M hown hK hP 0 rfl rfl 0 (by decide) (hG _ g_627) (fun _ h9 => h9) rfl d_M_copy_31 ?_
      refine ri_if_ne (tgt := 120) hx hb d_M_copy_34 (by decide) (by omega) (fun c34 => ?_) (fun c34 => ?_)
      · refine lv_iload_n hx hb d_M_copy_120 rfl (lv_at hl 1 rfl) ?_
        exact re_i hx hb hr hlocks (fun t ht hW => ⟨_, ⟨fun _ => ⟨rfl, rfl⟩, fun h => absurd h (by omega)⟩, wd_next h0 hS hP hD t ht hW⟩) hS.2.2 (Nat.le_of_ble_eq_true rfl) (Nat.le_of_ble_eq_true rfl) d_M_copy_121
      · exact absurd c34 (by decide)
    · exact absurd c6 (by decide)

set_option maxHeartbeats 4000000 in
set_option maxRecDepth 100000 in
theorem c_M_speed {l : Launch} {s0 : State} {D : va_G} {k : Nat → ClassId} (hC : Cx l s0 D k) (am a4 a5 a6 a7 a8 a10 a11 a12 a14 a15 a16 a18 a19 a20 a24 a25 : Nat) (y0 y1 y2 y3 y9 y13 y17 y21 y22 y23 : Int) (f4 f5 f6 f7 f8 f10 f11 f12 f14 f15 f16 f18 f19 f20 f24 f25 : Int → Int) (wr : va_W) (hy9 : 0 ≤ y9 ∧ y9 ≤ 6) (hf10 : ∀ i : Int, 0 ≤ i → i < y9 → 0 ≤ f10 i ∧ f10 i ≤ 64) (hf12 : ∀ i : Int, 0 ≤ i → i < y9 → ∀ j : Int, 0 ≤ j → j ≤ f10 i → 0 ≤ f12 (65 * i + j) ∧ f12 (65 * i + j) ≤ 500) (hy23 : 0 ≤ y23 ∧ y23 ≤ 8) (hf24 : ∀ j : Int, 0 ≤ j → j < y23 → 1 ≤ f24 j ∧ f24 j ≤ 500) (p x : Int) (hp : In32 p) (hx9 : In32 x) : WdM l s0 D y_M_speed { frames := 3, cells := 0, slots := 0, locals := 68 } [.ref am, .int (iI (p)), .int (iI (x))] ((am, .inr (6, [.int (iI (y0)), .int (iI (y1)), .int (iI (y2)), .int (iI (y3)), .ref a4, .ref a5, .ref a6, .ref a7, .ref a8, .int (iI (y9)), .ref a10, .ref a11, .ref a12, .int (iI (y13)), .ref a14, .ref a15, .ref a16, .int (iI (y17)), .ref a18, .ref a19, .ref a20, .int (iI (y21)), .int (iI (y22)), .int (iI (y23)), .ref a24, .ref a25])) :: (a4, .inl (k 0, ai 64 f4)) :: (a5, .inl (k 0, ai 64 f5)) :: (a6, .inl (k 0, ai 64 f6)) :: (a7, .inl (k 0, ai 64 f7)) :: (a8, .inl (k 0, ai 64 f8)) :: (a10, .inl (k 0, ai 6 f10)) :: (a11, .inl (k 0, ai 6 f11)) :: (a12, .inl (k 0, ai 390 f12)) :: (a14, .inl (k 0, ai 6 f14)) :: (a15, .inl (k 0, ai 65 f15)) :: (a16, .inl (k 0, ai 65 f16)) :: (a18, .inl (k 0, ai 6 f18)) :: (a19, .inl (k 0, ai 96 f19)) :: (a20, .inl (k 0, ai 96 f20)) :: (a24, .inl (k 0, ai 8 f24)) :: (a25, .inl (k 0, ai 8 f25)) :: wr) (fun v ws' => (¬ (0 ≤ p ∧ p < y9 ∧ 0 ≤ x ∧ x ≤ f10 p) → v = some (.int (iI (0))) ∧ ws' = ((am, .inr (6, [.int (iI (1)), .int (iI (y1)), .int (iI (y2)), .int (iI (y3)), .ref a4, .ref a5, .ref a6, .ref a7, .ref a8, .int (iI (y9)), .ref a10, .ref a11, .ref a12, .int (iI (y13)), .ref a14, .ref a15, .ref a16, .int (iI (y17)), .ref a18, .ref a19, .ref a20, .int (iI (y21)), .int (iI (y22)), .int (iI (y23)), .ref a24, .ref a25])) :: (a4, .inl (k 0, ai 64 f4)) :: (a5, .inl (k 0, ai 64 f5)) :: (a6, .inl (k 0, ai 64 f6)) :: (a7, .inl (k 0, ai 64 f7)) :: (a8, .inl (k 0, ai 64 f8)) :: (a10, .inl (k 0, ai 6 f10)) :: (a11, .inl (k 0, ai 6 f11)) :: (a12, .inl (k 0, ai 390 f12)) :: (a14, .inl (k 0, ai 6 f14)) :: (a15, .inl (k 0, ai 65 f15)) :: (a16, .inl (k 0, ai 65 f16)) :: (a18, .inl (k 0, ai 6 f18)) :: (a19, .inl (k 0, ai 96 f19)) :: (a20, .inl (k 0, ai 96 f20)) :: (a24, .inl (k 0, ai 8 f24)) :: (a25, .inl (k 0, ai 8 f25)) :: wr)) ∧ (((0 ≤ p ∧ p < y9 ∧ 0 ≤ x ∧ x ≤ f10 p) ∧ y23 = 0) → v = some (.int (iI (0))) ∧ ws' = ((am, .inr (6, [.int (iI (2)), .int (iI (y1)), .int (iI (y2)), .int (iI (y3)), .ref a4, .ref a5, .ref a6, .ref a7, .ref a8, .int (iI (y9)), .ref a10, .ref a11, .ref a12, .int (iI (y13)), .ref a14, .ref a15, .ref a16, .int (iI (y17)), .ref a18, .ref a19, .ref a20, .int (iI (y21)), .int (iI (y22)), .int (iI (y23)), .ref a24, .ref a25])) :: (a4, .inl (k 0, ai 64 f4)) :: (a5, .inl (k 0, ai 64 f5)) :: (a6, .inl (k 0, ai 64 f6)) :: (a7, .inl (k 0, ai 64 f7)) :: (a8, .inl (k 0, ai 64 f8)) :: (a10, .inl (k 0, ai 6 f10)) :: (a11, .inl (k 0, ai 6 f11)) :: (a12, .inl (k 0, ai 390 f12)) :: (a14, .inl (k 0, ai 6 f14)) :: (a15, .inl (k 0, ai 65 f15)) :: (a16, .inl (k 0, ai 65 f16)) :: (a18, .inl (k 0, ai 6 f18)) :: (a19, .inl (k 0, ai 96 f19)) :: (a20, .inl (k 0, ai 96 f20)) :: (a24, .inl (k 0, ai 8 f24)) :: (a25, .inl (k 0, ai 8 f25)) :: wr)) ∧ (((0 ≤ p ∧ p < y9 ∧ 0 ≤ x ∧ x ≤ f10 p) ∧ ¬ y23 = 0) → v = some (.int (iI (f25 (min (spF f24 (f12 (65 * p + x)) y23.toNat) (y23 - 1))))) ∧ ws' = ((am, .inr (6, [.int (iI (0)), .int (iI (y1)), .int (iI (y2)), .int (iI (y3)), .ref a4, .ref a5, .ref a6, .ref a7, .ref a8, .int (iI (y9)), .ref a10, .ref a11, .ref a12, .int (iI (y13)), .ref a14, .ref a15, .ref a16, .int (iI (y17)), .ref a18, .ref a19, .ref a20, .int (iI (y21)), .int (iI (y22)), .int (iI (y23)), .ref a24, .ref a25])) :: (a4, .inl (k 0, ai 64 f4)) :: (a5, .inl (k 0, ai 64 f5)) :: (a6, .inl (k 0, ai 64 f6)) :: (a7, .inl (k 0, ai 64 f7)) :: (a8, .inl (k 0, ai 64 f8)) :: (a10, .inl (k 0, ai 6 f10)) :: (a11, .inl (k 0, ai 6 f11)) :: (a12, .inl (k 0, ai 390 f12)) :: (a14, .inl (k 0, ai 6 f14)) :: (a15, .inl (k 0, ai 65 f15)) :: (a16, .inl (k 0, ai 65 f16)) :: (a18, .inl (k 0, ai 6 f18)) :: (a19, .inl (k 0, ai 96 f19)) :: (a20, .inl (k 0, ai 96 f20)) :: (a24, .inl (k 0, ai 8 f24)) :: (a25, .inl (k 0, ai 8 f25)) :: wr))) (fun E ws' => False) 0 0 := by
  refine ex_ofW (cc := b_M_speed) (maxL := 4) (ret := (some .int)) (hh := []) (by decide +kernel) (Or.inl ⟨g_892, rfl⟩) ?_
  intro p9 e9 s m9 args9 below9 meth9 c9 s9 B9 hml htab hv
  obtain ⟨rfl, h0, hP, hD⟩ := hv
  have hx := B9.exec
  have hb := B9.bytes
  have hr := B9.returns
  have hG := atoms_spec (ws := GW) B9.pre
  have hown : s.vm.findClass "LathePiecesModel" = some m9.cls := findClass_of_methodNamed B9.named
  have hlocks := B9.notSynchronized
  have hK := cx_K hC h0
  have hS : va_S (aL s0) s.heap s.heap [] := va_S.rf
  have hA : ∀ q : Nat, s.heap.size ≤ q → aL s0 q := fun q h => Nat.le_trans h0.2.1 h
  have hl := lv_entry ([.ref am, .int (iI (p)), .int (iI (x))]) (n := 4) (Nat.le_of_ble_eq_true rfl)
  rw [lg_entry_eq]
  generalize (lg_sl ([.ref am, .int (iI (p)), .int (iI (x))]) ++ List.replicate (4 - (lg_sl ([.ref am, .int (iI (p)), .int (iI (x))])).length) Slot.unset).toArray = ls at hl ⊢
  replace hl : lv_has ls 4 [(0, .ref am), (1, .int (iI (p))), (2, .int (iI (x)))] := hl
  refine lv_aload_n hx hb d_M_speed_0 rfl (lv_at hl 0 rfl) ?_
  refine lv_aload_n hx hb d_M_speed_1 rfl (lv_at hl 0 rfl) ?_
  refine lv_iload_n hx hb d_M_speed_2 rfl (lv_at hl 1 rfl) ?_
  refine lv_iload_n hx hb d_M_speed_3 rfl (lv_at hl 2 rfl) ?_
  refine rd_call (ex_runV (C := "LathePiecesModel") (As := [.int (iI (p)), .int (iI (x))]) (rest := [.ref am]) ⟨hx, hb, hml, hown, hG⟩ (c_M_hasPlace hC a10 y9 f10 am [.int (iI (y0)), .int (iI (y1)), .int (iI (y2)), .int (iI (y3)), .ref a4, .ref a5, .ref a6, .ref a7, .ref a8, .int (iI (y9)), .ref a10, .ref a11, .ref a12, .int (iI (y13)), .ref a14, .ref a15, .ref a16, .int (iI (y17)), .ref a18, .ref a19, .ref a20, .int (iI (y21)), .int (iI (y22)), .int (iI (y23)), .ref a24, .ref a25] rfl rfl hy9 hf10 p x (by omega) (by omega)) (cb_code (n := 2) hG g_768 g_3 g_765 rfl rfl (by decide +kernel) ⟨Nat.le_of_ble_eq_true rfl, Nat.le_of_ble_eq_true rfl⟩) (hG _ g_767) (hG _ gs_M_hasPlace) (kd_V ⟨fun _ _ _ _ q => q, fun U hU hW => ⟨rfl, la_next h0 (fun _ z => z) hS U hU hW, (by show va_P D classes _ U.heap; rw [hU]; exact (va_P.sub hP [0, 6] rfl))⟩⟩ (kd_recv hK hP (q0 := 0) (ci := 6) rfl rfl rfl)) rfl rfl hl.1 rfl (lv_room (Nat.le_of_ble_eq_true rfl)) d_M_speed_4 ⟨Nat.le_of_ble_eq_true rfl, Nat.le_of_ble_eq_true rfl⟩) (fun v9 h9 => ?_)
  rcases h9 with ⟨rfl, n7⟩ | ⟨rfl, n7⟩
  · show W _ _ _ _ _ _ _ _ _ _ _ _ _ _ _ (F0 m9 7 ls [.int (iI (1)), .ref am])
    refine ri_if_ne (tgt := 14) hx hb d_M_speed_7 (by decide) (by omega) (fun c7 => ?_) (fun c7 => ?_)
    · refine lv_aload_n hx hb d_M_speed_14 rfl (lv_at hl 0 rfl) ?_
      refine va_get (D := D) (ci := 6) (v := .int (iI (y23))) (C := R_M) (T := F_M) (N := 26) hx hb hG in_M hown hK hP 0 rfl rfl 23 (by decide) (hG _ g_650) (fun _ h9 => h9) rfl d_M_speed_15 ?_
      refine ri_if_ne (tgt := 25) hx hb d_M_speed_18 (by decide) (by omega) (fun c18 => ?_) (fun c18 => ?_)
      · refine ri_iconst hx hb d_M_speed_25 ?_
        refine va_put (D := D) (ci := 6) (v := .int (iI (0))) (ty := .int) (C := R_M) (T := F_M) (N := 26) hx hb hG in_M t_M t_M_ok n_M hown hK hP hD hS 0 rfl rfl 0 (by decide) (hG _ g_627) (fun _ h9 => h9) rfl (by decide +kernel) rfl rfl (Nat.le_of_ble_eq_true rfl) d_M_speed_26 (fun H locs hP hD hS => ?_)
        have hP : va_P D classes ((am, .inr (6, [.int (iI (0)), .int (iI (y1)), .int (iI (y2)), .int (iI (y3)), .ref a4, .ref a5, .ref a6, .ref a7, .ref a8, .int (iI (y9)), .ref a10, .ref a11, .ref a12, .int (iI (y13)), .ref a14, .ref a15, .ref a16, .int (iI (y17)), .ref a18, .ref a19, .ref a20, .int (iI (y21)), .int (iI (y22)), .int (iI (y23)), .ref a24, .ref a25])) :: (a4, .inl (k 0, ai 64 f4)) :: (a5, .inl (k 0, ai 64 f5)) :: (a6, .inl (k 0, ai 64 f6)) :: (a7, .inl (k 0, ai 64 f7)) :: (a8, .inl (k 0, ai 64 f8)) :: (a10, .inl (k 0, ai 6 f10)) :: (a11, .inl (k 0, ai 6 f11)) :: (a12, .inl (k 0, ai 390 f12)) :: (a14, .inl (k 0, ai 6 f14)) :: (a15, .inl (k 0, ai 65 f15)) :: (a16, .inl (k 0, ai 65 f16)) :: (a18, .inl (k 0, ai 6 f18)) :: (a19, .inl (k 0, ai 96 f19)) :: (a20, .inl (k 0, ai 96 f20)) :: (a24, .inl (k 0, ai 8 f24)) :: (a25, .inl (k 0, ai 8 f25)) :: wr) H := hP
        have hD : va_D (fun q : Nat => s0.heap.size ≤ q) ((am, .inr (6, [.int (iI (0)), .int (iI (y1)), .int (iI (y2)), .int (iI (y3)), .ref a4, .ref a5, .ref a6, .ref a7, .ref a8, .int (iI (y9)), .ref a10, .ref a11, .ref a12, .int (iI (y13)), .ref a14, .ref a15, .ref a16, .int (iI (y17)), .ref a18, .ref a19, .ref a20, .int (iI (y21)), .int (iI (y22)), .int (iI (y23)), .ref a24, .ref a25])) :: (a4, .inl (k 0, ai 64 f4)) :: (a5, .inl (k 0, ai 64 f5)) :: (a6, .inl (k 0, ai 64 f6)) :: (a7, .inl (k 0, ai 64 f7)) :: (a8, .inl (k 0, ai 64 f8)) :: (a10, .inl (k 0, ai 6 f10)) :: (a11, .inl (k 0, ai 6 f11)) :: (a12, .inl (k 0, ai 390 f12)) :: (a14, .inl (k 0, ai 6 f14)) :: (a15, .inl (k 0, ai 65 f15)) :: (a16, .inl (k 0, ai 65 f16)) :: (a18, .inl (k 0, ai 6 f18)) :: (a19, .inl (k 0, ai 96 f19)) :: (a20, .inl (k 0, ai 96 f20)) :: (a24, .inl (k 0, ai 8 f24)) :: (a25, .inl (k 0, ai 8 f25)) :: wr) := hD
        refine lv_aload_n hx hb d_M_speed_29 rfl (lv_at hl 0 rfl) ?_
        refine va_get (D := D) (ci := 6) (v := .int (iI (0))) (C := R_M) (T := F_M) (N := 26) hx hb hG in_M hown hK hP 0 rfl rfl 0 (by decide) (hG _ g_627) (fun _ h9 => h9) rfl d_M_speed_30 ?_
        refine ri_if_le (tgt := 38) hx hb d_M_speed_33 (by decide) (by omega) (fun c33 => ?_) (fun c33 => ?_)
        · have h7 := hf10 p (by omega) (by omega)
          have h8 := hf12 p (by omega) (by omega) x (by omega) (by omega)
          refine ri_iconst hx hb d_M_speed_38 ?_
          refine lv_istore_n (lv' := [(3, .int (iI (0))), (0, .ref am), (1, .int (iI (p))), (2, .int (iI (x)))]) hx hb d_M_speed_39 rfl hl (by decide) rfl (fun ls hl => ?_)
          replace hl : lv_has ls 4 [(3, .int (iI (0 + ((0 : Nat) : Int)))), (0, .ref am), (1, .int (iI (p))), (2, .int (iI (x)))] := hl
          obtain ⟨κ, ν, hinv, hl1⟩ : ∃ (κ : Nat) (ν : Nat), ((ν : Int) + κ = y23 - 1 ∧ spF f24 (f12 (65 * p + x)) ν = ν) ∧ lv_has ls 4 [(0, .ref am), (1, .int (iI (p))), (2, .int (iI (x))), (3, .int (iI (0 + (ν : Int))))] := ⟨(y23 - 1).toNat, 0, ⟨by omega, rfl⟩, lv_sub hl [1, 2, 3, 0] rfl⟩
          clear hl
          have hl := hl1
          clear hl1
          induction κ generalizing ν ls with
          | zero =>
            obtain ⟨h1, h2⟩ := hinv
            refine lv_iload_n hx hb d_M_speed_40 rfl (lv_at hl 3 rfl) ?_
            refine lv_aload_n hx hb d_M_speed_41 rfl (lv_at hl 0 rfl) ?_
            refine va_get (D := D) (ci := 6) (v := .int (iI (y23))) (C := R_M) (T := F_M) (N := 26) hx hb hG in_M hown hK hP 0 rfl rfl 23 (by decide) (hG _ g_650) (fun _ h9 => h9) rfl d_M_speed_42 ?_
            refine ri_iconst hx hb d_M_speed_45 ?_
            refine ri_isub hx hb d_M_speed_46 ?_
            refine ri_icmp_ge (tgt := 76) hx hb d_M_speed_47 (by decide) (by omega) (by omega) (fun c47 => ?_) (fun c47 => ?_)
            · refine lv_aload_n hx hb d_M_speed_76 rfl (lv_at hl 0 rfl) ?_
              refine va_get (D := D) (ci := 6) (v := .ref a25) (C := R_M) (T := F_M) (N := 26) hx hb hG in_M hown hK hP 0 rfl rfl 25 (by decide) (hG _ g_652) (fun _ h9 => h9) rfl d_M_speed_77 ?_
              refine lv_iload_n hx hb d_M_speed_80 rfl (lv_at hl 3 rfl) ?_
              refine ra_iald hx hb hK hP 16 rfl (by omega) (by omega) d_M_speed_81 ?_
              exact re_i hx hb hr hlocks (fun t ht hW => ⟨_, ⟨fun h => absurd h (by omega), fun h => absurd h (by omega), fun _ => ⟨congrArg (fun z => some (Value.int (iI (f25 z)))) (show 0 + (ν : Int) = min (spF f24 (f12 (65 * p + x)) y23.toNat) (y23 - 1) from by have q9 := spF_rg f24 (f12 (65 * p + x)) (ν + 1); rw [show y23.toNat = ν + 1 by omega, spF]; split <;> omega), rfl⟩⟩, wd_next h0 hS hP hD t ht hW⟩) hS.2.2 (Nat.le_of_ble_eq_true rfl) (Nat.le_of_ble_eq_true rfl) d_M_speed_82
            · exact absurd c47 (by omega)
          | succ κ ih =>
            obtain ⟨h1, h2⟩ := hinv
            refine lv_iload_n hx hb d_M_speed_40 rfl (lv_at hl 3 rfl) ?_
            refine lv_aload_n hx hb d_M_speed_41 rfl (lv_at hl 0 rfl) ?_
            refine va_get (D := D) (ci := 6) (v := .int (iI (y23))) (C := R_M) (T := F_M) (N := 26) hx hb hG in_M hown hK hP 0 rfl rfl 23 (by decide) (hG _ g_650) (fun _ h9 => h9) rfl d_M_speed_42 ?_
            refine ri_iconst hx hb d_M_speed_45 ?_
            refine ri_isub hx hb d_M_speed_46 ?_
            refine ri_icmp_ge (tgt := 76) hx hb d_M_speed_47 (by decide) (by omega) (by omega) (fun c47 => ?_) (fun c47 => ?_)
            · exact absurd c47 (by omega)
            · have q1 := hf24 (0 + (ν : Int)) (by omega) (by omega)
              refine lv_aload_n hx hb d_M_speed_50 rfl (lv_at hl 0 rfl) ?_
              refine va_get (D := D) (ci := 6) (v := .ref a24) (C := R_M) (T := F_M) (N := 26) hx hb hG in_M hown hK hP 0 rfl rfl 24 (by decide) (hG _ g_651) (fun _ h9 => h9) rfl d_M_speed_51 ?_
              refine lv_iload_n hx hb d_M_speed_54 rfl (lv_at hl 3 rfl) ?_
              refine ra_iald hx hb hK hP 15 rfl (by omega) (by omega) d_M_speed_55 ?_
              refine lv_aload_n hx hb d_M_speed_56 rfl (lv_at hl 0 rfl) ?_
              refine va_get (D := D) (ci := 6) (v := .ref a12) (C := R_M) (T := F_M) (N := 26) hx hb hG in_M hown hK hP 0 rfl rfl 12 (by decide) (hG _ g_639) (fun _ h9 => h9) rfl d_M_speed_57 ?_
              refine ri_bipush hx hb d_M_speed_60 (by decide) ?_
              refine lv_iload_n hx hb d_M_speed_62 rfl (lv_at hl 1 rfl) ?_
              refine ri_imul hx hb d_M_speed_63 ?_
              refine lv_iload_n hx hb d_M_speed_64 rfl (lv_at hl 2 rfl) ?_
              refine ri_iadd hx hb d_M_speed_65 ?_
              refine ra_iald hx hb hK hP 8 rfl (by omega) (by omega) d_M_speed_66 ?_
              refine ri_icmp_ge (tgt := 76) hx hb d_M_speed_67 (by decide) (by omega) (by omega) (fun c67 => ?_) (fun c67 => ?_)
              · rw [show (0 : Int) + (ν : Int) = (ν : Int) by omega] at c67
                refine lv_aload_n hx hb d_M_speed_76 rfl (lv_at hl 0 rfl) ?_
                refine va_get (D := D) (ci := 6) (v := .ref a25) (C := R_M) (T := F_M) (N := 26) hx hb hG in_M hown hK hP 0 rfl rfl 25 (by decide) (hG _ g_652) (fun _ h9 => h9) rfl d_M_speed_77 ?_
                refine lv_iload_n hx hb d_M_speed_80 rfl (lv_at hl 3 rfl) ?_
                refine ra_iald hx hb hK hP 16 rfl (by omega) (by omega) d_M_speed_81 ?_
                exact re_i hx hb hr hlocks (fun t ht hW => ⟨_, ⟨fun h => absurd h (by omega), fun h => absurd h (by omega), fun _ => ⟨congrArg (fun z => some (Value.int (iI (f25 z)))) (show 0 + (ν : Int) = min (spF f24 (f12 (65 * p + x)) y23.toNat) (y23 - 1) from by rw [show y23.toNat = ν + (κ + 1 + 1) by omega, spF_end h2 (by omega)]; omega), rfl⟩⟩, wd_next h0 hS hP hD t ht hW⟩) hS.2.2 (Nat.le_of_ble_eq_true rfl) (Nat.le_of_ble_eq_true rfl) d_M_speed_82
              · rw [show (0 : Int) + (ν : Int) = (ν : Int) by omega] at c67
                refine lv_iinc (v := iI (0 + ((ν + 1 : Nat) : Int))) (lv' := [(3, .int (iI (0 + ((ν + 1 : Nat) : Int)))), (0, .ref am), (1, .int (iI (p))), (2, .int (iI (x)))]) hx hb d_M_speed_70 hl (k := 3) rfl ((ii_add _ _).trans (congrArg iI (by omega))) (by decide) rfl (fun ls hl => ?_)
                refine lv_goto (tgt := 40) hx hb d_M_speed_73 (by decide) ?_
                exact ih ls (ν + 1) ⟨by omega, spF_on h2 (by omega)⟩ (lv_sub hl [1, 2, 3, 0] rfl)
        · exact absurd c33 (by decide)
      · refine ri_iconst hx hb d_M_speed_21 ?_
        refine lv_goto (tgt := 26) hx hb d_M_speed_22 (by decide) ?_
        refine va_put (D := D) (ci := 6) (v := .int (iI (2))) (ty := .int) (C := R_M) (T := F_M) (N := 26) hx hb hG in_M t_M t_M_ok n_M hown hK hP hD hS 0 rfl rfl 0 (by decide) (hG _ g_627) (fun _ h9 => h9) rfl (by decide +kernel) rfl rfl (Nat.le_of_ble_eq_true rfl) d_M_speed_26 (fun H locs hP hD hS => ?_)
        have hP : va_P D classes ((am, .inr (6, [.int (iI (2)), .int (iI (y1)), .int (iI (y2)), .int (iI (y3)), .ref a4, .ref a5, .ref a6, .ref a7, .ref a8, .int (iI (y9)), .ref a10, .ref a11, .ref a12, .int (iI (y13)), .ref a14, .ref a15, .ref a16, .int (iI (y17)), .ref a18, .ref a19, .ref a20, .int (iI (y21)), .int (iI (y22)), .int (iI (y23)), .ref a24, .ref a25])) :: (a4, .inl (k 0, ai 64 f4)) :: (a5, .inl (k 0, ai 64 f5)) :: (a6, .inl (k 0, ai 64 f6)) :: (a7, .inl (k 0, ai 64 f7)) :: (a8, .inl (k 0, ai 64 f8)) :: (a10, .inl (k 0, ai 6 f10)) :: (a11, .inl (k 0, ai 6 f11)) :: (a12, .inl (k 0, ai 390 f12)) :: (a14, .inl (k 0, ai 6 f14)) :: (a15, .inl (k 0, ai 65 f15)) :: (a16, .inl (k 0, ai 65 f16)) :: (a18, .inl (k 0, ai 6 f18)) :: (a19, .inl (k 0, ai 96 f19)) :: (a20, .inl (k 0, ai 96 f20)) :: (a24, .inl (k 0, ai 8 f24)) :: (a25, .inl (k 0, ai 8 f25)) :: wr) H := hP
        have hD : va_D (fun q : Nat => s0.heap.size ≤ q) ((am, .inr (6, [.int (iI (2)), .int (iI (y1)), .int (iI (y2)), .int (iI (y3)), .ref a4, .ref a5, .ref a6, .ref a7, .ref a8, .int (iI (y9)), .ref a10, .ref a11, .ref a12, .int (iI (y13)), .ref a14, .ref a15, .ref a16, .int (iI (y17)), .ref a18, .ref a19, .ref a20, .int (iI (y21)), .int (iI (y22)), .int (iI (y23)), .ref a24, .ref a25])) :: (a4, .inl (k 0, ai 64 f4)) :: (a5, .inl (k 0, ai 64 f5)) :: (a6, .inl (k 0, ai 64 f6)) :: (a7, .inl (k 0, ai 64 f7)) :: (a8, .inl (k 0, ai 64 f8)) :: (a10, .inl (k 0, ai 6 f10)) :: (a11, .inl (k 0, ai 6 f11)) :: (a12, .inl (k 0, ai 390 f12)) :: (a14, .inl (k 0, ai 6 f14)) :: (a15, .inl (k 0, ai 65 f15)) :: (a16, .inl (k 0, ai 65 f16)) :: (a18, .inl (k 0, ai 6 f18)) :: (a19, .inl (k 0, ai 96 f19)) :: (a20, .inl (k 0, ai 96 f20)) :: (a24, .inl (k 0, ai 8 f24)) :: (a25, .inl (k 0, ai 8 f25)) :: wr) := hD
        refine lv_aload_n hx hb d_M_speed_29 rfl (lv_at hl 0 rfl) ?_
        refine va_get (D := D) (ci := 6) (v := .int (iI (2))) (C := R_M) (T := F_M) (N := 26) hx hb hG in_M hown hK hP 0 rfl rfl 0 (by decide) (hG _ g_627) (fun _ h9 => h9) rfl d_M_speed_30 ?_
        refine ri_if_le (tgt := 38) hx hb d_M_speed_33 (by decide) (by omega) (fun c33 => ?_) (fun c33 => ?_)
        · exact absurd c33 (by decide)
        · refine ri_iconst hx hb d_M_speed_36 ?_
          exact re_i hx hb hr hlocks (fun t ht hW => ⟨_, ⟨fun h => absurd h (by omega), fun _ => ⟨rfl, rfl⟩, fun h => absurd h (by omega)⟩, wd_next h0 hS hP hD t ht hW⟩) hS.2.2 (Nat.le_of_ble_eq_true rfl) (Nat.le_of_ble_eq_true rfl) d_M_speed_37
    · exact absurd c7 (by decide)
  · show W _ _ _ _ _ _ _ _ _ _ _ _ _ _ _ (F0 m9 7 ls [.int (iI (0)), .ref am])
    refine ri_if_ne (tgt := 14) hx hb d_M_speed_7 (by decide) (by omega) (fun c7 => ?_) (fun c7 => ?_)
    · exact absurd c7 (by decide)
    · refine ri_iconst hx hb d_M_speed_10 ?_
      refine lv_goto (tgt := 26) hx hb d_M_speed_11 (by decide) ?_
      refine va_put (D := D) (ci := 6) (v := .int (iI (1))) (ty := .int) (C := R_M) (T := F_M) (N := 26) hx hb hG in_M t_M t_M_ok n_M hown hK hP hD hS 0 rfl rfl 0 (by decide) (hG _ g_627) (fun _ h9 => h9) rfl (by decide +kernel) rfl rfl (Nat.le_of_ble_eq_true rfl) d_M_speed_26 (fun H locs hP hD hS => ?_)
      have hP : va_P D classes ((am, .inr (6, [.int (iI (1)), .int (iI (y1)), .int (iI (y2)), .int (iI (y3)), .ref a4, .ref a5, .ref a6, .ref a7, .ref a8, .int (iI (y9)), .ref a10, .ref a11, .ref a12, .int (iI (y13)), .ref a14, .ref a15, .ref a16, .int (iI (y17)), .ref a18, .ref a19, .ref a20, .int (iI (y21)), .int (iI (y22)), .int (iI (y23)), .ref a24, .ref a25])) :: (a4, .inl (k 0, ai 64 f4)) :: (a5, .inl (k 0, ai 64 f5)) :: (a6, .inl (k 0, ai 64 f6)) :: (a7, .inl (k 0, ai 64 f7)) :: (a8, .inl (k 0, ai 64 f8)) :: (a10, .inl (k 0, ai 6 f10)) :: (a11, .inl (k 0, ai 6 f11)) :: (a12, .inl (k 0, ai 390 f12)) :: (a14, .inl (k 0, ai 6 f14)) :: (a15, .inl (k 0, ai 65 f15)) :: (a16, .inl (k 0, ai 65 f16)) :: (a18, .inl (k 0, ai 6 f18)) :: (a19, .inl (k 0, ai 96 f19)) :: (a20, .inl (k 0, ai 96 f20)) :: (a24, .inl (k 0, ai 8 f24)) :: (a25, .inl (k 0, ai 8 f25)) :: wr) H := hP
      have hD : va_D (fun q : Nat => s0.heap.size ≤ q) ((am, .inr (6, [.int (iI (1)), .int (iI (y1)), .int (iI (y2)), .int (iI (y3)), .ref a4, .ref a5, .ref a6, .ref a7, .ref a8, .int (iI (y9)), .ref a10, .ref a11, .ref a12, .int (iI (y13)), .ref a14, .ref a15, .ref a16, .int (iI (y17)), .ref a18, .ref a19, .ref a20, .int (iI (y21)), .int (iI (y22)), .int (iI (y23)), .ref a24, .ref a25])) :: (a4, .inl (k 0, ai 64 f4)) :: (a5, .inl (k 0, ai 64 f5)) :: (a6, .inl (k 0, ai 64 f6)) :: (a7, .inl (k 0, ai 64 f7)) :: (a8, .inl (k 0, ai 64 f8)) :: (a10, .inl (k 0, ai 6 f10)) :: (a11, .inl (k 0, ai 6 f11)) :: (a12, .inl (k 0, ai 390 f12)) :: (a14, .inl (k 0, ai 6 f14)) :: (a15, .inl (k 0, ai 65 f15)) :: (a16, .inl (k 0, ai 65 f16)) :: (a18, .inl (k 0, ai 6 f18)) :: (a19, .inl (k 0, ai 96 f19)) :: (a20, .inl (k 0, ai 96 f20)) :: (a24, .inl (k 0, ai 8 f24)) :: (a25, .inl (k 0, ai 8 f25)) :: wr) := hD
      refine lv_aload_n hx hb d_M_speed_29 rfl (lv_at hl 0 rfl) ?_
      refine va_get (D := D) (ci := 6) (v := .int (iI (1))) (C := R_M) (T := F_M) (N := 26) hx hb hG in_M hown hK hP 0 rfl rfl 0 (by decide) (hG _ g_627) (fun _ h9 => h9) rfl d_M_speed_30 ?_
      refine ri_if_le (tgt := 38) hx hb d_M_speed_33 (by decide) (by omega) (fun c33 => ?_) (fun c33 => ?_)
      · exact absurd c33 (by decide)
      · refine ri_iconst hx hb d_M_speed_36 ?_
        exact re_i hx hb hr hlocks (fun t ht hW => ⟨_, ⟨fun _ => ⟨rfl, rfl⟩, fun h => absurd h (by omega), fun h => absurd h (by omega)⟩, wd_next h0 hS hP hD t ht hW⟩) hS.2.2 (Nat.le_of_ble_eq_true rfl) (Nat.le_of_ble_eq_true rfl) d_M_speed_37

set_option maxHeartbeats 4000000 in
set_option maxRecDepth 100000 in
theorem c_M_init {l : Launch} {s0 : State} {D : va_G} {k : Nat → ClassId} (hC : Cx l s0 D k) (am : Nat) (wr : va_W) : WdM l s0 D y_M_init { frames := 1, cells := 16, slots := 1072, locals := 20 } [.ref am] ((am, .inr (6, [.int (iI (0)), .int (iI (0)), .int (iI (0)), .int (iI (0)), .null, .null, .null, .null, .null, .int (iI (0)), .null, .null, .null, .int (iI (0)), .null, .null, .null, .int (iI (0)), .null, .null, .null, .int (iI (0)), .int (iI (0)), .int (iI (0)), .null, .null])) :: wr) (fun v ws' => ∃ a4 a5 a6 a7 a8 a10 a11 a12 a14 a15 a16 a18 a19 a20 a24 a25 : Nat, v = none ∧ ws' = ((a25, .inl (k 0, ai 8 (fun _ => 0))) :: (a24, .inl (k 0, ai 8 (fun _ => 0))) :: (a20, .inl (k 0, ai 96 (fun _ => 0))) :: (a19, .inl (k 0, ai 96 (fun _ => 0))) :: (a18, .inl (k 0, ai 6 (fun _ => 0))) :: (a16, .inl (k 0, ai 65 (fun _ => 0))) :: (a15, .inl (k 0, ai 65 (fun _ => 0))) :: (a14, .inl (k 0, ai 6 (fun _ => 0))) :: (a12, .inl (k 0, ai 390 (fun _ => 0))) :: (a11, .inl (k 0, ai 6 (fun _ => 0))) :: (a10, .inl (k 0, ai 6 (fun _ => 0))) :: (a8, .inl (k 0, ai 64 (fun _ => 0))) :: (a7, .inl (k 0, ai 64 (fun _ => 0))) :: (a6, .inl (k 0, ai 64 (fun _ => 0))) :: (a5, .inl (k 0, ai 64 (fun _ => 0))) :: (a4, .inl (k 0, ai 64 (fun _ => 0))) :: (am, .inr (6, [.int (iI (0)), .int (iI (0)), .int (iI (0)), .int (iI (0)), .ref a4, .ref a5, .ref a6, .ref a7, .ref a8, .int (iI (0)), .ref a10, .ref a11, .ref a12, .int (iI (0)), .ref a14, .ref a15, .ref a16, .int (iI (0)), .ref a18, .ref a19, .ref a20, .int (iI (0)), .int (iI (0)), .int (iI (0)), .ref a24, .ref a25])) :: wr)) (fun E ws' => False) 16 1072 := by
  refine ex_ofW (cc := b_M_init) (maxL := 1) (ret := none) (hh := []) (by decide +kernel) (Or.inl ⟨g_625, rfl⟩) ?_
  intro p9 e9 s m9 args9 below9 meth9 c9 s9 B9 hml htab hv
  obtain ⟨rfl, h0, hP, hD⟩ := hv
  have hx := B9.exec
  have hb := B9.bytes
  have hr := B9.returns
  have hG := atoms_spec (ws := GW) B9.pre
  have hown : s.vm.findClass "LathePiecesModel" = some m9.cls := findClass_of_methodNamed B9.named
  have hlocks := B9.notSynchronized
  have hin9 : meth9.name = "<init>" := (name_of_methodNamed B9.named B9.method).1
  have hK := cx_K hC h0
  have hS : va_S (aL s0) s.heap s.heap [] := va_S.rf
  have hA : ∀ q : Nat, s.heap.size ≤ q → aL s0 q := fun q h => Nat.le_trans h0.2.1 h
  have hl := lv_entry ([.ref am]) (n := 1) (Nat.le_of_ble_eq_true rfl)
  rw [lg_entry_eq]
  generalize (lg_sl ([.ref am]) ++ List.replicate (1 - (lg_sl ([.ref am])).length) Slot.unset).toArray = ls at hl ⊢
  replace hl : lv_has ls 1 [(0, .ref am)] := hl
  refine lv_aload_n hx hb d_M_init_0 rfl (lv_at hl 0 rfl) ?_
  refine W.objInit hx hb hown (hG _ g_626) (hG _ g_23) (hG _ g_24) rfl (by rw [hml]; exact hl.1) rfl d_M_init_1 (Nat.le_of_ble_eq_true rfl) (Nat.le_of_ble_eq_true rfl) ?_
  refine W.eq (g2 := F0 m9 4 ls []) rfl ?_
  refine lv_aload_n hx hb d_M_init_4 rfl (lv_at hl 0 rfl) ?_
  refine ri_bipush hx hb d_M_init_5 (by decide) ?_
  refine ra_newi (N := 64) hx hb hG g_53 hK hP hD hS hA rfl (by omega) (Nat.le_of_ble_eq_true rfl) (Nat.le_of_ble_eq_true rfl) d_M_init_7 (fun q4 H hP hD hS => ?_)
  refine va_putF (D := D) (ci := 6) (v := .ref q4) (ty := .array .int) (C := R_M) (T := F_M) (N := 26) hx hb hG in_M t_M t_M_ok n_M hown hK hP hD hS 1 rfl rfl 4 (by decide) (hG _ g_631) (fun _ h9 => h9) rfl hin9 rfl (by decide +kernel) rfl rfl (Nat.le_of_ble_eq_true rfl) d_M_init_9 (fun H locs hP hD hS => ?_)
  have hP : va_P D classes ((q4, .inl (k 0, ai 64 (fun _ => 0))) :: (am, .inr (6, [.int (iI (0)), .int (iI (0)), .int (iI (0)), .int (iI (0)), .ref q4, .null, .null, .null, .null, .int (iI (0)), .null, .null, .null, .int (iI (0)), .null, .null, .null, .int (iI (0)), .null, .null, .null, .int (iI (0)), .int (iI (0)), .int (iI (0)), .null, .null])) :: wr) H := hP
  have hD : va_D (fun q : Nat => s0.heap.size ≤ q) ((q4, .inl (k 0, ai 64 (fun _ => 0))) :: (am, .inr (6, [.int (iI (0)), .int (iI (0)), .int (iI (0)), .int (iI (0)), .ref q4, .null, .null, .null, .null, .int (iI (0)), .null, .null, .null, .int (iI (0)), .null, .null, .null, .int (iI (0)), .null, .null, .null, .int (iI (0)), .int (iI (0)), .int (iI (0)), .null, .null])) :: wr) := hD
  refine lv_aload_n hx hb d_M_init_12 rfl (lv_at hl 0 rfl) ?_
  refine ri_bipush hx hb d_M_init_13 (by decide) ?_
  refine ra_newi (N := 64) hx hb hG g_53 hK hP hD hS hA rfl (by omega) (Nat.le_of_ble_eq_true rfl) (Nat.le_of_ble_eq_true rfl) d_M_init_15 (fun q5 H hP hD hS => ?_)
  refine va_putF (D := D) (ci := 6) (v := .ref q5) (ty := .array .int) (C := R_M) (T := F_M) (N := 26) hx hb hG in_M t_M t_M_ok n_M hown hK hP hD hS 2 rfl rfl 5 (by decide) (hG _ g_632) (fun _ h9 => h9) rfl hin9 rfl (by decide +kernel) rfl rfl (Nat.le_of_ble_eq_true rfl) d_M_init_17 (fun H locs hP hD hS => ?_)
  have hP : va_P D classes ((q5, .inl (k 0, ai 64 (fun _ => 0))) :: (q4, .inl (k 0, ai 64 (fun _ => 0))) :: (am, .inr (6, [.int (iI (0)), .int (iI (0)), .int (iI (0)), .int (iI (0)), .ref q4, .ref q5, .null, .null, .null, .int (iI (0)), .null, .null, .null, .int (iI (0)), .null, .null, .null, .int (iI (0)), .null, .null, .null, .int (iI (0)), .int (iI (0)), .int (iI (0)), .null, .null])) :: wr) H := hP
  have hD : va_D (fun q : Nat => s0.heap.size ≤ q) ((q5, .inl (k 0, ai 64 (fun _ => 0))) :: (q4, .inl (k 0, ai 64 (fun _ => 0))) :: (am, .inr (6, [.int (iI (0)), .int (iI (0)), .int (iI (0)), .int (iI (0)), .ref q4, .ref q5, .null, .null, .null, .int (iI (0)), .null, .null, .null, .int (iI (0)), .null, .null, .null, .int (iI (0)), .null, .null, .null, .int (iI (0)), .int (iI (0)), .int (iI (0)), .null, .null])) :: wr) := hD
  refine lv_aload_n hx hb d_M_init_20 rfl (lv_at hl 0 rfl) ?_
  refine ri_bipush hx hb d_M_init_21 (by decide) ?_
  refine ra_newi (N := 64) hx hb hG g_53 hK hP hD hS hA rfl (by omega) (Nat.le_of_ble_eq_true rfl) (Nat.le_of_ble_eq_true rfl) d_M_init_23 (fun q6 H hP hD hS => ?_)
  refine va_putF (D := D) (ci := 6) (v := .ref q6) (ty := .array .int) (C := R_M) (T := F_M) (N := 26) hx hb hG in_M t_M t_M_ok n_M hown hK hP hD hS 3 rfl rfl 6 (by decide) (hG _ g_633) (fun _ h9 => h9) rfl hin9 rfl (by decide +kernel) rfl rfl (Nat.le_of_ble_eq_true rfl) d_M_init_25 (fun H locs hP hD hS => ?_)
  have hP : va_P D classes ((q6, .inl (k 0, ai 64 (fun _ => 0))) :: (q5, .inl (k 0, ai 64 (fun _ => 0))) :: (q4, .inl (k 0, ai 64 (fun _ => 0))) :: (am, .inr (6, [.int (iI (0)), .int (iI (0)), .int (iI (0)), .int (iI (0)), .ref q4, .ref q5, .ref q6, .null, .null, .int (iI (0)), .null, .null, .null, .int (iI (0)), .null, .null, .null, .int (iI (0)), .null, .null, .null, .int (iI (0)), .int (iI (0)), .int (iI (0)), .null, .null])) :: wr) H := hP
  have hD : va_D (fun q : Nat => s0.heap.size ≤ q) ((q6, .inl (k 0, ai 64 (fun _ => 0))) :: (q5, .inl (k 0, ai 64 (fun _ => 0))) :: (q4, .inl (k 0, ai 64 (fun _ => 0))) :: (am, .inr (6, [.int (iI (0)), .int (iI (0)), .int (iI (0)), .int (iI (0)), .ref q4, .ref q5, .ref q6, .null, .null, .int (iI (0)), .null, .null, .null, .int (iI (0)), .null, .null, .null, .int (iI (0)), .null, .null, .null, .int (iI (0)), .int (iI (0)), .int (iI (0)), .null, .null])) :: wr) := hD
  refine lv_aload_n hx hb d_M_init_28 rfl (lv_at hl 0 rfl) ?_
  refine ri_bipush hx hb d_M_init_29 (by decide) ?_
  refine ra_newi (N := 64) hx hb hG g_53 hK hP hD hS hA rfl (by omega) (Nat.le_of_ble_eq_true rfl) (Nat.le_of_ble_eq_true rfl) d_M_init_31 (fun q7 H hP hD hS => ?_)
  refine va_putF (D := D) (ci := 6) (v := .ref q7) (ty := .array .int) (C := R_M) (T := F_M) (N := 26) hx hb hG in_M t_M t_M_ok n_M hown hK hP hD hS 4 rfl rfl 7 (by decide) (hG _ g_634) (fun _ h9 => h9) rfl hin9 rfl (by decide +kernel) rfl rfl (Nat.le_of_ble_eq_true rfl) d_M_init_33 (fun H locs hP hD hS => ?_)
  have hP : va_P D classes ((q7, .inl (k 0, ai 64 (fun _ => 0))) :: (q6, .inl (k 0, ai 64 (fun _ => 0))) :: (q5, .inl (k 0, ai 64 (fun _ => 0))) :: (q4, .inl (k 0, ai 64 (fun _ => 0))) :: (am, .inr (6, [.int (iI (0)), .int (iI (0)), .int (iI (0)), .int (iI (0)), .ref q4, .ref q5, .ref q6, .ref q7, .null, .int (iI (0)), .null, .null, .null, .int (iI (0)), .null, .null, .null, .int (iI (0)), .null, .null, .null, .int (iI (0)), .int (iI (0)), .int (iI (0)), .null, .null])) :: wr) H := hP
  have hD : va_D (fun q : Nat => s0.heap.size ≤ q) ((q7, .inl (k 0, ai 64 (fun _ => 0))) :: (q6, .inl (k 0, ai 64 (fun _ => 0))) :: (q5, .inl (k 0, ai 64 (fun _ => 0))) :: (q4, .inl (k 0, ai 64 (fun _ => 0))) :: (am, .inr (6, [.int (iI (0)), .int (iI (0)), .int (iI (0)), .int (iI (0)), .ref q4, .ref q5, .ref q6, .ref q7, .null, .int (iI (0)), .null, .null, .null, .int (iI (0)), .null, .null, .null, .int (iI (0)), .null, .null, .null, .int (iI (0)), .int (iI (0)), .int (iI (0)), .null, .null])) :: wr) := hD
  refine lv_aload_n hx hb d_M_init_36 rfl (lv_at hl 0 rfl) ?_
  refine ri_bipush hx hb d_M_init_37 (by decide) ?_
  refine ra_newi (N := 64) hx hb hG g_53 hK hP hD hS hA rfl (by omega) (Nat.le_of_ble_eq_true rfl) (Nat.le_of_ble_eq_true rfl) d_M_init_39 (fun q8 H hP hD hS => ?_)
  refine va_putF (D := D) (ci := 6) (v := .ref q8) (ty := .array .int) (C := R_M) (T := F_M) (N := 26) hx hb hG in_M t_M t_M_ok n_M hown hK hP hD hS 5 rfl rfl 8 (by decide) (hG _ g_635) (fun _ h9 => h9) rfl hin9 rfl (by decide +kernel) rfl rfl (Nat.le_of_ble_eq_true rfl) d_M_init_41 (fun H locs hP hD hS => ?_)
  have hP : va_P D classes ((q8, .inl (k 0, ai 64 (fun _ => 0))) :: (q7, .inl (k 0, ai 64 (fun _ => 0))) :: (q6, .inl (k 0, ai 64 (fun _ => 0))) :: (q5, .inl (k 0, ai 64 (fun _ => 0))) :: (q4, .inl (k 0, ai 64 (fun _ => 0))) :: (am, .inr (6, [.int (iI (0)), .int (iI (0)), .int (iI (0)), .int (iI (0)), .ref q4, .ref q5, .ref q6, .ref q7, .ref q8, .int (iI (0)), .null, .null, .null, .int (iI (0)), .null, .null, .null, .int (iI (0)), .null, .null, .null, .int (iI (0)), .int (iI (0)), .int (iI (0)), .null, .null])) :: wr) H := hP
  have hD : va_D (fun q : Nat => s0.heap.size ≤ q) ((q8, .inl (k 0, ai 64 (fun _ => 0))) :: (q7, .inl (k 0, ai 64 (fun _ => 0))) :: (q6, .inl (k 0, ai 64 (fun _ => 0))) :: (q5, .inl (k 0, ai 64 (fun _ => 0))) :: (q4, .inl (k 0, ai 64 (fun _ => 0))) :: (am, .inr (6, [.int (iI (0)), .int (iI (0)), .int (iI (0)), .int (iI (0)), .ref q4, .ref q5, .ref q6, .ref q7, .ref q8, .int (iI (0)), .null, .null, .null, .int (iI (0)), .null, .null, .null, .int (iI (0)), .null, .null, .null, .int (iI (0)), .int (iI (0)), .int (iI (0)), .null, .null])) :: wr) := hD
  refine lv_aload_n hx hb d_M_init_44 rfl (lv_at hl 0 rfl) ?_
  refine ri_bipush hx hb d_M_init_45 (by decide) ?_
  refine ra_newi (N := 6) hx hb hG g_53 hK hP hD hS hA rfl (by omega) (Nat.le_of_ble_eq_true rfl) (Nat.le_of_ble_eq_true rfl) d_M_init_47 (fun q10 H hP hD hS => ?_)
  refine va_putF (D := D) (ci := 6) (v := .ref q10) (ty := .array .int) (C := R_M) (T := F_M) (N := 26) hx hb hG in_M t_M t_M_ok n_M hown hK hP hD hS 6 rfl rfl 10 (by decide) (hG _ g_637) (fun _ h9 => h9) rfl hin9 rfl (by decide +kernel) rfl rfl (Nat.le_of_ble_eq_true rfl) d_M_init_49 (fun H locs hP hD hS => ?_)
  have hP : va_P D classes ((q10, .inl (k 0, ai 6 (fun _ => 0))) :: (q8, .inl (k 0, ai 64 (fun _ => 0))) :: (q7, .inl (k 0, ai 64 (fun _ => 0))) :: (q6, .inl (k 0, ai 64 (fun _ => 0))) :: (q5, .inl (k 0, ai 64 (fun _ => 0))) :: (q4, .inl (k 0, ai 64 (fun _ => 0))) :: (am, .inr (6, [.int (iI (0)), .int (iI (0)), .int (iI (0)), .int (iI (0)), .ref q4, .ref q5, .ref q6, .ref q7, .ref q8, .int (iI (0)), .ref q10, .null, .null, .int (iI (0)), .null, .null, .null, .int (iI (0)), .null, .null, .null, .int (iI (0)), .int (iI (0)), .int (iI (0)), .null, .null])) :: wr) H := hP
  have hD : va_D (fun q : Nat => s0.heap.size ≤ q) ((q10, .inl (k 0, ai 6 (fun _ => 0))) :: (q8, .inl (k 0, ai 64 (fun _ => 0))) :: (q7, .inl (k 0, ai 64 (fun _ => 0))) :: (q6, .inl (k 0, ai 64 (fun _ => 0))) :: (q5, .inl (k 0, ai 64 (fun _ => 0))) :: (q4, .inl (k 0, ai 64 (fun _ => 0))) :: (am, .inr (6, [.int (iI (0)), .int (iI (0)), .int (iI (0)), .int (iI (0)), .ref q4, .ref q5, .ref q6, .ref q7, .ref q8, .int (iI (0)), .ref q10, .null, .null, .int (iI (0)), .null, .null, .null, .int (iI (0)), .null, .null, .null, .int (iI (0)), .int (iI (0)), .int (iI (0)), .null, .null])) :: wr) := hD
  refine lv_aload_n hx hb d_M_init_52 rfl (lv_at hl 0 rfl) ?_
  refine ri_bipush hx hb d_M_init_53 (by decide) ?_
  refine ra_newi (N := 6) hx hb hG g_53 hK hP hD hS hA rfl (by omega) (Nat.le_of_ble_eq_true rfl) (Nat.le_of_ble_eq_true rfl) d_M_init_55 (fun q11 H hP hD hS => ?_)
  refine va_putF (D := D) (ci := 6) (v := .ref q11) (ty := .array .int) (C := R_M) (T := F_M) (N := 26) hx hb hG in_M t_M t_M_ok n_M hown hK hP hD hS 7 rfl rfl 11 (by decide) (hG _ g_638) (fun _ h9 => h9) rfl hin9 rfl (by decide +kernel) rfl rfl (Nat.le_of_ble_eq_true rfl) d_M_init_57 (fun H locs hP hD hS => ?_)
  have hP : va_P D classes ((q11, .inl (k 0, ai 6 (fun _ => 0))) :: (q10, .inl (k 0, ai 6 (fun _ => 0))) :: (q8, .inl (k 0, ai 64 (fun _ => 0))) :: (q7, .inl (k 0, ai 64 (fun _ => 0))) :: (q6, .inl (k 0, ai 64 (fun _ => 0))) :: (q5, .inl (k 0, ai 64 (fun _ => 0))) :: (q4, .inl (k 0, ai 64 (fun _ => 0))) :: (am, .inr (6, [.int (iI (0)), .int (iI (0)), .int (iI (0)), .int (iI (0)), .ref q4, .ref q5, .ref q6, .ref q7, .ref q8, .int (iI (0)), .ref q10, .ref q11, .null, .int (iI (0)), .null, .null, .null, .int (iI (0)), .null, .null, .null, .int (iI (0)), .int (iI (0)), .int (iI (0)), .null, .null])) :: wr) H := hP
  have hD : va_D (fun q : Nat => s0.heap.size ≤ q) ((q11, .inl (k 0, ai 6 (fun _ => 0))) :: (q10, .inl (k 0, ai 6 (fun _ => 0))) :: (q8, .inl (k 0, ai 64 (fun _ => 0))) :: (q7, .inl (k 0, ai 64 (fun _ => 0))) :: (q6, .inl (k 0, ai 64 (fun _ => 0))) :: (q5, .inl (k 0, ai 64 (fun _ => 0))) :: (q4, .inl (k 0, ai 64 (fun _ => 0))) :: (am, .inr (6, [.int (iI (0)), .int (iI (0)), .int (iI (0)), .int (iI (0)), .ref q4, .ref q5, .ref q6, .ref q7, .ref q8, .int (iI (0)), .ref q10, .ref q11, .null, .int (iI (0)), .null, .null, .null, .int (iI (0)), .null, .null, .null, .int (iI (0)), .int (iI (0)), .int (iI (0)), .null, .null])) :: wr) := hD
  refine lv_aload_n hx hb d_M_init_60 rfl (lv_at hl 0 rfl) ?_
  refine ri_sipush hx hb d_M_init_61 (by decide) ?_
  refine ra_newi (N := 390) hx hb hG g_53 hK hP hD hS hA rfl (by omega) (Nat.le_of_ble_eq_true rfl) (Nat.le_of_ble_eq_true rfl) d_M_init_64 (fun q12 H hP hD hS => ?_)
  refine va_putF (D := D) (ci := 6) (v := .ref q12) (ty := .array .int) (C := R_M) (T := F_M) (N := 26) hx hb hG in_M t_M t_M_ok n_M hown hK hP hD hS 8 rfl rfl 12 (by decide) (hG _ g_639) (fun _ h9 => h9) rfl hin9 rfl (by decide +kernel) rfl rfl (Nat.le_of_ble_eq_true rfl) d_M_init_66 (fun H locs hP hD hS => ?_)
  have hP : va_P D classes ((q12, .inl (k 0, ai 390 (fun _ => 0))) :: (q11, .inl (k 0, ai 6 (fun _ => 0))) :: (q10, .inl (k 0, ai 6 (fun _ => 0))) :: (q8, .inl (k 0, ai 64 (fun _ => 0))) :: (q7, .inl (k 0, ai 64 (fun _ => 0))) :: (q6, .inl (k 0, ai 64 (fun _ => 0))) :: (q5, .inl (k 0, ai 64 (fun _ => 0))) :: (q4, .inl (k 0, ai 64 (fun _ => 0))) :: (am, .inr (6, [.int (iI (0)), .int (iI (0)), .int (iI (0)), .int (iI (0)), .ref q4, .ref q5, .ref q6, .ref q7, .ref q8, .int (iI (0)), .ref q10, .ref q11, .ref q12, .int (iI (0)), .null, .null, .null, .int (iI (0)), .null, .null, .null, .int (iI (0)), .int (iI (0)), .int (iI (0)), .null, .null])) :: wr) H := hP
  have hD : va_D (fun q : Nat => s0.heap.size ≤ q) ((q12, .inl (k 0, ai 390 (fun _ => 0))) :: (q11, .inl (k 0, ai 6 (fun _ => 0))) :: (q10, .inl (k 0, ai 6 (fun _ => 0))) :: (q8, .inl (k 0, ai 64 (fun _ => 0))) :: (q7, .inl (k 0, ai 64 (fun _ => 0))) :: (q6, .inl (k 0, ai 64 (fun _ => 0))) :: (q5, .inl (k 0, ai 64 (fun _ => 0))) :: (q4, .inl (k 0, ai 64 (fun _ => 0))) :: (am, .inr (6, [.int (iI (0)), .int (iI (0)), .int (iI (0)), .int (iI (0)), .ref q4, .ref q5, .ref q6, .ref q7, .ref q8, .int (iI (0)), .ref q10, .ref q11, .ref q12, .int (iI (0)), .null, .null, .null, .int (iI (0)), .null, .null, .null, .int (iI (0)), .int (iI (0)), .int (iI (0)), .null, .null])) :: wr) := hD
  refine lv_aload_n hx hb d_M_init_69 rfl (lv_at hl 0 rfl) ?_
  refine ri_bipush hx hb d_M_init_70 (by decide) ?_
  refine ra_newi (N := 6) hx hb hG g_53 hK hP hD hS hA rfl (by omega) (Nat.le_of_ble_eq_true rfl) (Nat.le_of_ble_eq_true rfl) d_M_init_72 (fun q14 H hP hD hS => ?_)
  refine va_putF (D := D) (ci := 6) (v := .ref q14) (ty := .array .int) (C := R_M) (T := F_M) (N := 26) hx hb hG in_M t_M t_M_ok n_M hown hK hP hD hS 9 rfl rfl 14 (by decide) (hG _ g_641) (fun _ h9 => h9) rfl hin9 rfl (by decide +kernel) rfl rfl (Nat.le_of_ble_eq_true rfl) d_M_init_74 (fun H locs hP hD hS => ?_)
  have hP : va_P D classes ((q14, .inl (k 0, ai 6 (fun _ => 0))) :: (q12, .inl (k 0, ai 390 (fun _ => 0))) :: (q11, .inl (k 0, ai 6 (fun _ => 0))) :: (q10, .inl (k 0, ai 6 (fun _ => 0))) :: (q8, .inl (k 0, ai 64 (fun _ => 0))) :: (q7, .inl (k 0, ai 64 (fun _ => 0))) :: (q6, .inl (k 0, ai 64 (fun _ => 0))) :: (q5, .inl (k 0, ai 64 (fun _ => 0))) :: (q4, .inl (k 0, ai 64 (fun _ => 0))) :: (am, .inr (6, [.int (iI (0)), .int (iI (0)), .int (iI (0)), .int (iI (0)), .ref q4, .ref q5, .ref q6, .ref q7, .ref q8, .int (iI (0)), .ref q10, .ref q11, .ref q12, .int (iI (0)), .ref q14, .null, .null, .int (iI (0)), .null, .null, .null, .int (iI (0)), .int (iI (0)), .int (iI (0)), .null, .null])) :: wr) H := hP
  have hD : va_D (fun q : Nat => s0.heap.size ≤ q) ((q14, .inl (k 0, ai 6 (fun _ => 0))) :: (q12, .inl (k 0, ai 390 (fun _ => 0))) :: (q11, .inl (k 0, ai 6 (fun _ => 0))) :: (q10, .inl (k 0, ai 6 (fun _ => 0))) :: (q8, .inl (k 0, ai 64 (fun _ => 0))) :: (q7, .inl (k 0, ai 64 (fun _ => 0))) :: (q6, .inl (k 0, ai 64 (fun _ => 0))) :: (q5, .inl (k 0, ai 64 (fun _ => 0))) :: (q4, .inl (k 0, ai 64 (fun _ => 0))) :: (am, .inr (6, [.int (iI (0)), .int (iI (0)), .int (iI (0)), .int (iI (0)), .ref q4, .ref q5, .ref q6, .ref q7, .ref q8, .int (iI (0)), .ref q10, .ref q11, .ref q12, .int (iI (0)), .ref q14, .null, .null, .int (iI (0)), .null, .null, .null, .int (iI (0)), .int (iI (0)), .int (iI (0)), .null, .null])) :: wr) := hD
  refine lv_aload_n hx hb d_M_init_77 rfl (lv_at hl 0 rfl) ?_
  refine ri_bipush hx hb d_M_init_78 (by decide) ?_
  refine ra_newi (N := 65) hx hb hG g_53 hK hP hD hS hA rfl (by omega) (Nat.le_of_ble_eq_true rfl) (Nat.le_of_ble_eq_true rfl) d_M_init_80 (fun q15 H hP hD hS => ?_)
  refine va_putF (D := D) (ci := 6) (v := .ref q15) (ty := .array .int) (C := R_M) (T := F_M) (N := 26) hx hb hG in_M t_M t_M_ok n_M hown hK hP hD hS 10 rfl rfl 15 (by decide) (hG _ g_642) (fun _ h9 => h9) rfl hin9 rfl (by decide +kernel) rfl rfl (Nat.le_of_ble_eq_true rfl) d_M_init_82 (fun H locs hP hD hS => ?_)
  have hP : va_P D classes ((q15, .inl (k 0, ai 65 (fun _ => 0))) :: (q14, .inl (k 0, ai 6 (fun _ => 0))) :: (q12, .inl (k 0, ai 390 (fun _ => 0))) :: (q11, .inl (k 0, ai 6 (fun _ => 0))) :: (q10, .inl (k 0, ai 6 (fun _ => 0))) :: (q8, .inl (k 0, ai 64 (fun _ => 0))) :: (q7, .inl (k 0, ai 64 (fun _ => 0))) :: (q6, .inl (k 0, ai 64 (fun _ => 0))) :: (q5, .inl (k 0, ai 64 (fun _ => 0))) :: (q4, .inl (k 0, ai 64 (fun _ => 0))) :: (am, .inr (6, [.int (iI (0)), .int (iI (0)), .int (iI (0)), .int (iI (0)), .ref q4, .ref q5, .ref q6, .ref q7, .ref q8, .int (iI (0)), .ref q10, .ref q11, .ref q12, .int (iI (0)), .ref q14, .ref q15, .null, .int (iI (0)), .null, .null, .null, .int (iI (0)), .int (iI (0)), .int (iI (0)), .null, .null])) :: wr) H := hP
  have hD : va_D (fun q : Nat => s0.heap.size ≤ q) ((q15, .inl (k 0, ai 65 (fun _ => 0))) :: (q14, .inl (k 0, ai 6 (fun _ => 0))) :: (q12, .inl (k 0, ai 390 (fun _ => 0))) :: (q11, .inl (k 0, ai 6 (fun _ => 0))) :: (q10, .inl (k 0, ai 6 (fun _ => 0))) :: (q8, .inl (k 0, ai 64 (fun _ => 0))) :: (q7, .inl (k 0, ai 64 (fun _ => 0))) :: (q6, .inl (k 0, ai 64 (fun _ => 0))) :: (q5, .inl (k 0, ai 64 (fun _ => 0))) :: (q4, .inl (k 0, ai 64 (fun _ => 0))) :: (am, .inr (6, [.int (iI (0)), .int (iI (0)), .int (iI (0)), .int (iI (0)), .ref q4, .ref q5, .ref q6, .ref q7, .ref q8, .int (iI (0)), .ref q10, .ref q11, .ref q12, .int (iI (0)), .ref q14, .ref q15, .null, .int (iI (0)), .null, .null, .null, .int (iI (0)), .int (iI (0)), .int (iI (0)), .null, .null])) :: wr) := hD
  refine lv_aload_n hx hb d_M_init_85 rfl (lv_at hl 0 rfl) ?_
  refine ri_bipush hx hb d_M_init_86 (by decide) ?_
  refine ra_newi (N := 65) hx hb hG g_53 hK hP hD hS hA rfl (by omega) (Nat.le_of_ble_eq_true rfl) (Nat.le_of_ble_eq_true rfl) d_M_init_88 (fun q16 H hP hD hS => ?_)
  refine va_putF (D := D) (ci := 6) (v := .ref q16) (ty := .array .int) (C := R_M) (T := F_M) (N := 26) hx hb hG in_M t_M t_M_ok n_M hown hK hP hD hS 11 rfl rfl 16 (by decide) (hG _ g_643) (fun _ h9 => h9) rfl hin9 rfl (by decide +kernel) rfl rfl (Nat.le_of_ble_eq_true rfl) d_M_init_90 (fun H locs hP hD hS => ?_)
  have hP : va_P D classes ((q16, .inl (k 0, ai 65 (fun _ => 0))) :: (q15, .inl (k 0, ai 65 (fun _ => 0))) :: (q14, .inl (k 0, ai 6 (fun _ => 0))) :: (q12, .inl (k 0, ai 390 (fun _ => 0))) :: (q11, .inl (k 0, ai 6 (fun _ => 0))) :: (q10, .inl (k 0, ai 6 (fun _ => 0))) :: (q8, .inl (k 0, ai 64 (fun _ => 0))) :: (q7, .inl (k 0, ai 64 (fun _ => 0))) :: (q6, .inl (k 0, ai 64 (fun _ => 0))) :: (q5, .inl (k 0, ai 64 (fun _ => 0))) :: (q4, .inl (k 0, ai 64 (fun _ => 0))) :: (am, .inr (6, [.int (iI (0)), .int (iI (0)), .int (iI (0)), .int (iI (0)), .ref q4, .ref q5, .ref q6, .ref q7, .ref q8, .int (iI (0)), .ref q10, .ref q11, .ref q12, .int (iI (0)), .ref q14, .ref q15, .ref q16, .int (iI (0)), .null, .null, .null, .int (iI (0)), .int (iI (0)), .int (iI (0)), .null, .null])) :: wr) H := hP
  have hD : va_D (fun q : Nat => s0.heap.size ≤ q) ((q16, .inl (k 0, ai 65 (fun _ => 0))) :: (q15, .inl (k 0, ai 65 (fun _ => 0))) :: (q14, .inl (k 0, ai 6 (fun _ => 0))) :: (q12, .inl (k 0, ai 390 (fun _ => 0))) :: (q11, .inl (k 0, ai 6 (fun _ => 0))) :: (q10, .inl (k 0, ai 6 (fun _ => 0))) :: (q8, .inl (k 0, ai 64 (fun _ => 0))) :: (q7, .inl (k 0, ai 64 (fun _ => 0))) :: (q6, .inl (k 0, ai 64 (fun _ => 0))) :: (q5, .inl (k 0, ai 64 (fun _ => 0))) :: (q4, .inl (k 0, ai 64 (fun _ => 0))) :: (am, .inr (6, [.int (iI (0)), .int (iI (0)), .int (iI (0)), .int (iI (0)), .ref q4, .ref q5, .ref q6, .ref q7, .ref q8, .int (iI (0)), .ref q10, .ref q11, .ref q12, .int (iI (0)), .ref q14, .ref q15, .ref q16, .int (iI (0)), .null, .null, .null, .int (iI (0)), .int (iI (0)), .int (iI (0)), .null, .null])) :: wr) := hD
  refine lv_aload_n hx hb d_M_init_93 rfl (lv_at hl 0 rfl) ?_
  refine ri_bipush hx hb d_M_init_94 (by decide) ?_
  refine ra_newi (N := 6) hx hb hG g_53 hK hP hD hS hA rfl (by omega) (Nat.le_of_ble_eq_true rfl) (Nat.le_of_ble_eq_true rfl) d_M_init_96 (fun q18 H hP hD hS => ?_)
  refine va_putF (D := D) (ci := 6) (v := .ref q18) (ty := .array .int) (C := R_M) (T := F_M) (N := 26) hx hb hG in_M t_M t_M_ok n_M hown hK hP hD hS 12 rfl rfl 18 (by decide) (hG _ g_645) (fun _ h9 => h9) rfl hin9 rfl (by decide +kernel) rfl rfl (Nat.le_of_ble_eq_true rfl) d_M_init_98 (fun H locs hP hD hS => ?_)
  have hP : va_P D classes ((q18, .inl (k 0, ai 6 (fun _ => 0))) :: (q16, .inl (k 0, ai 65 (fun _ => 0))) :: (q15, .inl (k 0, ai 65 (fun _ => 0))) :: (q14, .inl (k 0, ai 6 (fun _ => 0))) :: (q12, .inl (k 0, ai 390 (fun _ => 0))) :: (q11, .inl (k 0, ai 6 (fun _ => 0))) :: (q10, .inl (k 0, ai 6 (fun _ => 0))) :: (q8, .inl (k 0, ai 64 (fun _ => 0))) :: (q7, .inl (k 0, ai 64 (fun _ => 0))) :: (q6, .inl (k 0, ai 64 (fun _ => 0))) :: (q5, .inl (k 0, ai 64 (fun _ => 0))) :: (q4, .inl (k 0, ai 64 (fun _ => 0))) :: (am, .inr (6, [.int (iI (0)), .int (iI (0)), .int (iI (0)), .int (iI (0)), .ref q4, .ref q5, .ref q6, .ref q7, .ref q8, .int (iI (0)), .ref q10, .ref q11, .ref q12, .int (iI (0)), .ref q14, .ref q15, .ref q16, .int (iI (0)), .ref q18, .null, .null, .int (iI (0)), .int (iI (0)), .int (iI (0)), .null, .null])) :: wr) H := hP
  have hD : va_D (fun q : Nat => s0.heap.size ≤ q) ((q18, .inl (k 0, ai 6 (fun _ => 0))) :: (q16, .inl (k 0, ai 65 (fun _ => 0))) :: (q15, .inl (k 0, ai 65 (fun _ => 0))) :: (q14, .inl (k 0, ai 6 (fun _ => 0))) :: (q12, .inl (k 0, ai 390 (fun _ => 0))) :: (q11, .inl (k 0, ai 6 (fun _ => 0))) :: (q10, .inl (k 0, ai 6 (fun _ => 0))) :: (q8, .inl (k 0, ai 64 (fun _ => 0))) :: (q7, .inl (k 0, ai 64 (fun _ => 0))) :: (q6, .inl (k 0, ai 64 (fun _ => 0))) :: (q5, .inl (k 0, ai 64 (fun _ => 0))) :: (q4, .inl (k 0, ai 64 (fun _ => 0))) :: (am, .inr (6, [.int (iI (0)), .int (iI (0)), .int (iI (0)), .int (iI (0)), .ref q4, .ref q5, .ref q6, .ref q7, .ref q8, .int (iI (0)), .ref q10, .ref q11, .ref q12, .int (iI (0)), .ref q14, .ref q15, .ref q16, .int (iI (0)), .ref q18, .null, .null, .int (iI (0)), .int (iI (0)), .int (iI (0)), .null, .null])) :: wr) := hD
  refine lv_aload_n hx hb d_M_init_101 rfl (lv_at hl 0 rfl) ?_
  refine ri_bipush hx hb d_M_init_102 (by decide) ?_
  refine ra_newi (N := 96) hx hb hG g_53 hK hP hD hS hA rfl (by omega) (Nat.le_of_ble_eq_true rfl) (Nat.le_of_ble_eq_true rfl) d_M_init_104 (fun q19 H hP hD hS => ?_)
  refine va_putF (D := D) (ci := 6) (v := .ref q19) (ty := .array .int) (C := R_M) (T := F_M) (N := 26) hx hb hG in_M t_M t_M_ok n_M hown hK hP hD hS 13 rfl rfl 19 (by decide) (hG _ g_646) (fun _ h9 => h9) rfl hin9 rfl (by decide +kernel) rfl rfl (Nat.le_of_ble_eq_true rfl) d_M_init_106 (fun H locs hP hD hS => ?_)
  have hP : va_P D classes ((q19, .inl (k 0, ai 96 (fun _ => 0))) :: (q18, .inl (k 0, ai 6 (fun _ => 0))) :: (q16, .inl (k 0, ai 65 (fun _ => 0))) :: (q15, .inl (k 0, ai 65 (fun _ => 0))) :: (q14, .inl (k 0, ai 6 (fun _ => 0))) :: (q12, .inl (k 0, ai 390 (fun _ => 0))) :: (q11, .inl (k 0, ai 6 (fun _ => 0))) :: (q10, .inl (k 0, ai 6 (fun _ => 0))) :: (q8, .inl (k 0, ai 64 (fun _ => 0))) :: (q7, .inl (k 0, ai 64 (fun _ => 0))) :: (q6, .inl (k 0, ai 64 (fun _ => 0))) :: (q5, .inl (k 0, ai 64 (fun _ => 0))) :: (q4, .inl (k 0, ai 64 (fun _ => 0))) :: (am, .inr (6, [.int (iI (0)), .int (iI (0)), .int (iI (0)), .int (iI (0)), .ref q4, .ref q5, .ref q6, .ref q7, .ref q8, .int (iI (0)), .ref q10, .ref q11, .ref q12, .int (iI (0)), .ref q14, .ref q15, .ref q16, .int (iI (0)), .ref q18, .ref q19, .null, .int (iI (0)), .int (iI (0)), .int (iI (0)), .null, .null])) :: wr) H := hP
  have hD : va_D (fun q : Nat => s0.heap.size ≤ q) ((q19, .inl (k 0, ai 96 (fun _ => 0))) :: (q18, .inl (k 0, ai 6 (fun _ => 0))) :: (q16, .inl (k 0, ai 65 (fun _ => 0))) :: (q15, .inl (k 0, ai 65 (fun _ => 0))) :: (q14, .inl (k 0, ai 6 (fun _ => 0))) :: (q12, .inl (k 0, ai 390 (fun _ => 0))) :: (q11, .inl (k 0, ai 6 (fun _ => 0))) :: (q10, .inl (k 0, ai 6 (fun _ => 0))) :: (q8, .inl (k 0, ai 64 (fun _ => 0))) :: (q7, .inl (k 0, ai 64 (fun _ => 0))) :: (q6, .inl (k 0, ai 64 (fun _ => 0))) :: (q5, .inl (k 0, ai 64 (fun _ => 0))) :: (q4, .inl (k 0, ai 64 (fun _ => 0))) :: (am, .inr (6, [.int (iI (0)), .int (iI (0)), .int (iI (0)), .int (iI (0)), .ref q4, .ref q5, .ref q6, .ref q7, .ref q8, .int (iI (0)), .ref q10, .ref q11, .ref q12, .int (iI (0)), .ref q14, .ref q15, .ref q16, .int (iI (0)), .ref q18, .ref q19, .null, .int (iI (0)), .int (iI (0)), .int (iI (0)), .null, .null])) :: wr) := hD
  refine lv_aload_n hx hb d_M_init_109 rfl (lv_at hl 0 rfl) ?_
  refine ri_bipush hx hb d_M_init_110 (by decide) ?_
  refine ra_newi (N := 96) hx hb hG g_53 hK hP hD hS hA rfl (by omega) (Nat.le_of_ble_eq_true rfl) (Nat.le_of_ble_eq_true rfl) d_M_init_112 (fun q20 H hP hD hS => ?_)
  refine va_putF (D := D) (ci := 6) (v := .ref q20) (ty := .array .int) (C := R_M) (T := F_M) (N := 26) hx hb hG in_M t_M t_M_ok n_M hown hK hP hD hS 14 rfl rfl 20 (by decide) (hG _ g_647) (fun _ h9 => h9) rfl hin9 rfl (by decide +kernel) rfl rfl (Nat.le_of_ble_eq_true rfl) d_M_init_114 (fun H locs hP hD hS => ?_)
  have hP : va_P D classes ((q20, .inl (k 0, ai 96 (fun _ => 0))) :: (q19, .inl (k 0, ai 96 (fun _ => 0))) :: (q18, .inl (k 0, ai 6 (fun _ => 0))) :: (q16, .inl (k 0, ai 65 (fun _ => 0))) :: (q15, .inl (k 0, ai 65 (fun _ => 0))) :: (q14, .inl (k 0, ai 6 (fun _ => 0))) :: (q12, .inl (k 0, ai 390 (fun _ => 0))) :: (q11, .inl (k 0, ai 6 (fun _ => 0))) :: (q10, .inl (k 0, ai 6 (fun _ => 0))) :: (q8, .inl (k 0, ai 64 (fun _ => 0))) :: (q7, .inl (k 0, ai 64 (fun _ => 0))) :: (q6, .inl (k 0, ai 64 (fun _ => 0))) :: (q5, .inl (k 0, ai 64 (fun _ => 0))) :: (q4, .inl (k 0, ai 64 (fun _ => 0))) :: (am, .inr (6, [.int (iI (0)), .int (iI (0)), .int (iI (0)), .int (iI (0)), .ref q4, .ref q5, .ref q6, .ref q7, .ref q8, .int (iI (0)), .ref q10, .ref q11, .ref q12, .int (iI (0)), .ref q14, .ref q15, .ref q16, .int (iI (0)), .ref q18, .ref q19, .ref q20, .int (iI (0)), .int (iI (0)), .int (iI (0)), .null, .null])) :: wr) H := hP
  have hD : va_D (fun q : Nat => s0.heap.size ≤ q) ((q20, .inl (k 0, ai 96 (fun _ => 0))) :: (q19, .inl (k 0, ai 96 (fun _ => 0))) :: (q18, .inl (k 0, ai 6 (fun _ => 0))) :: (q16, .inl (k 0, ai 65 (fun _ => 0))) :: (q15, .inl (k 0, ai 65 (fun _ => 0))) :: (q14, .inl (k 0, ai 6 (fun _ => 0))) :: (q12, .inl (k 0, ai 390 (fun _ => 0))) :: (q11, .inl (k 0, ai 6 (fun _ => 0))) :: (q10, .inl (k 0, ai 6 (fun _ => 0))) :: (q8, .inl (k 0, ai 64 (fun _ => 0))) :: (q7, .inl (k 0, ai 64 (fun _ => 0))) :: (q6, .inl (k 0, ai 64 (fun _ => 0))) :: (q5, .inl (k 0, ai 64 (fun _ => 0))) :: (q4, .inl (k 0, ai 64 (fun _ => 0))) :: (am, .inr (6, [.int (iI (0)), .int (iI (0)), .int (iI (0)), .int (iI (0)), .ref q4, .ref q5, .ref q6, .ref q7, .ref q8, .int (iI (0)), .ref q10, .ref q11, .ref q12, .int (iI (0)), .ref q14, .ref q15, .ref q16, .int (iI (0)), .ref q18, .ref q19, .ref q20, .int (iI (0)), .int (iI (0)), .int (iI (0)), .null, .null])) :: wr) := hD
  refine lv_aload_n hx hb d_M_init_117 rfl (lv_at hl 0 rfl) ?_
  refine ri_bipush hx hb d_M_init_118 (by decide) ?_
  refine ra_newi (N := 8) hx hb hG g_53 hK hP hD hS hA rfl (by omega) (Nat.le_of_ble_eq_true rfl) (Nat.le_of_ble_eq_true rfl) d_M_init_120 (fun q24 H hP hD hS => ?_)
  refine va_putF (D := D) (ci := 6) (v := .ref q24) (ty := .array .int) (C := R_M) (T := F_M) (N := 26) hx hb hG in_M t_M t_M_ok n_M hown hK hP hD hS 15 rfl rfl 24 (by decide) (hG _ g_651) (fun _ h9 => h9) rfl hin9 rfl (by decide +kernel) rfl rfl (Nat.le_of_ble_eq_true rfl) d_M_init_122 (fun H locs hP hD hS => ?_)
  have hP : va_P D classes ((q24, .inl (k 0, ai 8 (fun _ => 0))) :: (q20, .inl (k 0, ai 96 (fun _ => 0))) :: (q19, .inl (k 0, ai 96 (fun _ => 0))) :: (q18, .inl (k 0, ai 6 (fun _ => 0))) :: (q16, .inl (k 0, ai 65 (fun _ => 0))) :: (q15, .inl (k 0, ai 65 (fun _ => 0))) :: (q14, .inl (k 0, ai 6 (fun _ => 0))) :: (q12, .inl (k 0, ai 390 (fun _ => 0))) :: (q11, .inl (k 0, ai 6 (fun _ => 0))) :: (q10, .inl (k 0, ai 6 (fun _ => 0))) :: (q8, .inl (k 0, ai 64 (fun _ => 0))) :: (q7, .inl (k 0, ai 64 (fun _ => 0))) :: (q6, .inl (k 0, ai 64 (fun _ => 0))) :: (q5, .inl (k 0, ai 64 (fun _ => 0))) :: (q4, .inl (k 0, ai 64 (fun _ => 0))) :: (am, .inr (6, [.int (iI (0)), .int (iI (0)), .int (iI (0)), .int (iI (0)), .ref q4, .ref q5, .ref q6, .ref q7, .ref q8, .int (iI (0)), .ref q10, .ref q11, .ref q12, .int (iI (0)), .ref q14, .ref q15, .ref q16, .int (iI (0)), .ref q18, .ref q19, .ref q20, .int (iI (0)), .int (iI (0)), .int (iI (0)), .ref q24, .null])) :: wr) H := hP
  have hD : va_D (fun q : Nat => s0.heap.size ≤ q) ((q24, .inl (k 0, ai 8 (fun _ => 0))) :: (q20, .inl (k 0, ai 96 (fun _ => 0))) :: (q19, .inl (k 0, ai 96 (fun _ => 0))) :: (q18, .inl (k 0, ai 6 (fun _ => 0))) :: (q16, .inl (k 0, ai 65 (fun _ => 0))) :: (q15, .inl (k 0, ai 65 (fun _ => 0))) :: (q14, .inl (k 0, ai 6 (fun _ => 0))) :: (q12, .inl (k 0, ai 390 (fun _ => 0))) :: (q11, .inl (k 0, ai 6 (fun _ => 0))) :: (q10, .inl (k 0, ai 6 (fun _ => 0))) :: (q8, .inl (k 0, ai 64 (fun _ => 0))) :: (q7, .inl (k 0, ai 64 (fun _ => 0))) :: (q6, .inl (k 0, ai 64 (fun _ => 0))) :: (q5, .inl (k 0, ai 64 (fun _ => 0))) :: (q4, .inl (k 0, ai 64 (fun _ => 0))) :: (am, .inr (6, [.int (iI (0)), .int (iI (0)), .int (iI (0)), .int (iI (0)), .ref q4, .ref q5, .ref q6, .ref q7, .ref q8, .int (iI (0)), .ref q10, .ref q11, .ref q12, .int (iI (0)), .ref q14, .ref q15, .ref q16, .int (iI (0)), .ref q18, .ref q19, .ref q20, .int (iI (0)), .int (iI (0)), .int (iI (0)), .ref q24, .null])) :: wr) := hD
  refine lv_aload_n hx hb d_M_init_125 rfl (lv_at hl 0 rfl) ?_
  refine ri_bipush hx hb d_M_init_126 (by decide) ?_
  refine ra_newi (N := 8) hx hb hG g_53 hK hP hD hS hA rfl (by omega) (Nat.le_of_ble_eq_true rfl) (Nat.le_of_ble_eq_true rfl) d_M_init_128 (fun q25 H hP hD hS => ?_)
  refine va_putF (D := D) (ci := 6) (v := .ref q25) (ty := .array .int) (C := R_M) (T := F_M) (N := 26) hx hb hG in_M t_M t_M_ok n_M hown hK hP hD hS 16 rfl rfl 25 (by decide) (hG _ g_652) (fun _ h9 => h9) rfl hin9 rfl (by decide +kernel) rfl rfl (Nat.le_of_ble_eq_true rfl) d_M_init_130 (fun H locs hP hD hS => ?_)
  have hP : va_P D classes ((q25, .inl (k 0, ai 8 (fun _ => 0))) :: (q24, .inl (k 0, ai 8 (fun _ => 0))) :: (q20, .inl (k 0, ai 96 (fun _ => 0))) :: (q19, .inl (k 0, ai 96 (fun _ => 0))) :: (q18, .inl (k 0, ai 6 (fun _ => 0))) :: (q16, .inl (k 0, ai 65 (fun _ => 0))) :: (q15, .inl (k 0, ai 65 (fun _ => 0))) :: (q14, .inl (k 0, ai 6 (fun _ => 0))) :: (q12, .inl (k 0, ai 390 (fun _ => 0))) :: (q11, .inl (k 0, ai 6 (fun _ => 0))) :: (q10, .inl (k 0, ai 6 (fun _ => 0))) :: (q8, .inl (k 0, ai 64 (fun _ => 0))) :: (q7, .inl (k 0, ai 64 (fun _ => 0))) :: (q6, .inl (k 0, ai 64 (fun _ => 0))) :: (q5, .inl (k 0, ai 64 (fun _ => 0))) :: (q4, .inl (k 0, ai 64 (fun _ => 0))) :: (am, .inr (6, [.int (iI (0)), .int (iI (0)), .int (iI (0)), .int (iI (0)), .ref q4, .ref q5, .ref q6, .ref q7, .ref q8, .int (iI (0)), .ref q10, .ref q11, .ref q12, .int (iI (0)), .ref q14, .ref q15, .ref q16, .int (iI (0)), .ref q18, .ref q19, .ref q20, .int (iI (0)), .int (iI (0)), .int (iI (0)), .ref q24, .ref q25])) :: wr) H := hP
  have hD : va_D (fun q : Nat => s0.heap.size ≤ q) ((q25, .inl (k 0, ai 8 (fun _ => 0))) :: (q24, .inl (k 0, ai 8 (fun _ => 0))) :: (q20, .inl (k 0, ai 96 (fun _ => 0))) :: (q19, .inl (k 0, ai 96 (fun _ => 0))) :: (q18, .inl (k 0, ai 6 (fun _ => 0))) :: (q16, .inl (k 0, ai 65 (fun _ => 0))) :: (q15, .inl (k 0, ai 65 (fun _ => 0))) :: (q14, .inl (k 0, ai 6 (fun _ => 0))) :: (q12, .inl (k 0, ai 390 (fun _ => 0))) :: (q11, .inl (k 0, ai 6 (fun _ => 0))) :: (q10, .inl (k 0, ai 6 (fun _ => 0))) :: (q8, .inl (k 0, ai 64 (fun _ => 0))) :: (q7, .inl (k 0, ai 64 (fun _ => 0))) :: (q6, .inl (k 0, ai 64 (fun _ => 0))) :: (q5, .inl (k 0, ai 64 (fun _ => 0))) :: (q4, .inl (k 0, ai 64 (fun _ => 0))) :: (am, .inr (6, [.int (iI (0)), .int (iI (0)), .int (iI (0)), .int (iI (0)), .ref q4, .ref q5, .ref q6, .ref q7, .ref q8, .int (iI (0)), .ref q10, .ref q11, .ref q12, .int (iI (0)), .ref q14, .ref q15, .ref q16, .int (iI (0)), .ref q18, .ref q19, .ref q20, .int (iI (0)), .int (iI (0)), .int (iI (0)), .ref q24, .ref q25])) :: wr) := hD
  exact re_v hx hb hr hlocks (fun t ht hW => ⟨_, ⟨q4, q5, q6, q7, q8, q10, q11, q12, q14, q15, q16, q18, q19, q20, q24, q25, rfl, rfl⟩, wd_next h0 hS hP hD t ht hW⟩) hS.2.2 (Nat.le_of_ble_eq_true rfl) (Nat.le_of_ble_eq_true rfl) d_M_init_133

