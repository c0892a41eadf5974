set_option maxHeartbeats 4000000 in
set_option maxRecDepth 100000 in
theorem c_F_init {l : Launch} {s0 : State} {D : va_G} {k : Nat → ClassId} (hC : Cx l s0 D k) (af : Nat) (wr : va_W) : WdM l s0 D y_F_init { frames := 1, cells := 1, slots := 65, locals := 20 } [.ref af] ((af, .inr (2, [.null, .int (iI (0)), .int (iI (0)), .int (iI (0)), .int (iI (0))])) :: wr) (fun v ws' => ∃ ar : Nat, v = none ∧ ws' = ((ar, .inl (k 0, ai 65 (fun _ => 0))) :: (af, .inr (2, [.ref ar, .int (iI (0)), .int (iI (0)), .int (iI (0)), .int (iI (0))])) :: wr)) (fun E ws' => False) 1 65 := by
  refine ex_ofW (cc := b_F_init) (maxL := 1) (ret := none) (hh := []) (by decide +kernel) (Or.inl ⟨g_29, rfl⟩) ?_
  intro p9 e9 s m9 args9 below9 meth9 c9 s9 B9 hml htab hv
  obtain ⟨rfl, h0, hP, hD⟩ := hv
  have hx := B9.exec
  have hb := B9.bytes
  have hr := B9.returns
  have hG := atoms_spec (ws := GW) B9.pre
  have hown : s.vm.findClass "LathePieces$Profile" = some m9.cls := findClass_of_methodNamed B9.named
  have hlocks := B9.notSynchronized
  have hin9 : meth9.name = "<init>" := (name_of_methodNamed B9.named B9.method).1
  have hK := cx_K hC h0
  have hS : va_S (aL s0) s.heap s.heap [] := va_S.rf
  have hA : ∀ q : Nat, s.heap.size ≤ q → aL s0 q := fun q h => Nat.le_trans h0.2.1 h
  have hl := lv_entry ([.ref af]) (n := 1) (Nat.le_of_ble_eq_true rfl)
  rw [lg_entry_eq]
  generalize (lg_sl ([.ref af]) ++ List.replicate (1 - (lg_sl ([.ref af])).length) Slot.unset).toArray = ls at hl ⊢
  replace hl : lv_has ls 1 [(0, .ref af)] := hl
  refine lv_aload_n hx hb d_F_init_0 rfl (lv_at hl 0 rfl) ?_
  refine W.objInit hx hb hown (hG _ g_30) (hG _ g_23) (hG _ g_24) rfl (by rw [hml]; exact hl.1) rfl d_F_init_1 (Nat.le_of_ble_eq_true rfl) (Nat.le_of_ble_eq_true rfl) ?_
  refine W.eq (g2 := F0 m9 4 ls []) rfl ?_
  refine lv_aload_n hx hb d_F_init_4 rfl (lv_at hl 0 rfl) ?_
  refine ri_bipush hx hb d_F_init_5 (by decide) ?_
  refine ra_newi (N := 65) hx hb hG g_53 hK hP hD hS hA rfl (by omega) (Nat.le_of_ble_eq_true rfl) (Nat.le_of_ble_eq_true rfl) d_F_init_7 (fun q1 H hP hD hS => ?_)
  refine va_putF (D := D) (ci := 2) (v := .ref q1) (ty := .array .int) (C := R_F) (T := F_F) (N := 5) hx hb hG in_F t_F t_F_ok n_F hown hK hP hD hS 1 rfl rfl 0 (by decide) (hG _ g_32) (fun _ h9 => h9) rfl hin9 rfl (by decide +kernel) rfl rfl (Nat.le_of_ble_eq_true rfl) d_F_init_9 (fun H locs hP hD hS => ?_)
  have hP : va_P D classes ((q1, .inl (k 0, ai 65 (fun _ => 0))) :: (af, .inr (2, [.ref q1, .int (iI (0)), .int (iI (0)), .int (iI (0)), .int (iI (0))])) :: wr) H := hP
  have hD : va_D (fun q : Nat => s0.heap.size ≤ q) ((q1, .inl (k 0, ai 65 (fun _ => 0))) :: (af, .inr (2, [.ref q1, .int (iI (0)), .int (iI (0)), .int (iI (0)), .int (iI (0))])) :: wr) := hD
  exact re_v hx hb hr hlocks (fun t ht hW => ⟨_, ⟨q1, rfl, rfl⟩, wd_next h0 hS hP hD t ht hW⟩) hS.2.2 (Nat.le_of_ble_eq_true rfl) (Nat.le_of_ble_eq_true rfl) d_F_init_12

set_option maxHeartbeats 4000000 in
set_option maxRecDepth 100000 in
theorem c_G_init {l : Launch} {s0 : State} {D : va_G} {k : Nat → ClassId} (hC : Cx l s0 D k) (ag : Nat) (wr : va_W) : WdM l s0 D y_G_init { frames := 1, cells := 2, slots := 32, locals := 20 } [.ref ag] ((ag, .inr (4, [.null, .null, .int (iI (0)), .long (jJ (0))])) :: wr) (fun v ws' => ∃ a1 a2 : Nat, v = none ∧ ws' = ((a2, .inl (k 0, ai 16 (fun _ => 0))) :: (a1, .inl (k 0, ai 16 (fun _ => 0))) :: (ag, .inr (4, [.ref a1, .ref a2, .int (iI (0)), .long (jJ (0))])) :: wr)) (fun E ws' => False) 2 32 := by
  refine ex_ofW (cc := b_G_init) (maxL := 1) (ret := none) (hh := []) (by decide +kernel) (Or.inl ⟨g_503, rfl⟩) ?_
  intro p9 e9 s m9 args9 below9 meth9 c9 s9 B9 hml htab hv
  obtain ⟨rfl, h0, hP, hD⟩ := hv
  have hx := B9.exec
  have hb := B9.bytes
  have hr := B9.returns
  have hG := atoms_spec (ws := GW) B9.pre
  have hown : s.vm.findClass "LathePieces$Ring" = some m9.cls := findClass_of_methodNamed B9.named
  have hlocks := B9.notSynchronized
  have hin9 : meth9.name = "<init>" := (name_of_methodNamed B9.named B9.method).1
  have hK := cx_K hC h0
  have hS : va_S (aL s0) s.heap s.heap [] := va_S.rf
  have hA : ∀ q : Nat, s.heap.size ≤ q → aL s0 q := fun q h => Nat.le_trans h0.2.1 h
  have hl := lv_entry ([.ref ag]) (n := 1) (Nat.le_of_ble_eq_true rfl)
  rw [lg_entry_eq]
  generalize (lg_sl ([.ref ag]) ++ List.replicate (1 - (lg_sl ([.ref ag])).length) Slot.unset).toArray = ls at hl ⊢
  replace hl : lv_has ls 1 [(0, .ref ag)] := hl
  refine lv_aload_n hx hb d_G_init_0 rfl (lv_at hl 0 rfl) ?_
  refine W.objInit hx hb hown (hG _ g_504) (hG _ g_23) (hG _ g_24) rfl (by rw [hml]; exact hl.1) rfl d_G_init_1 (Nat.le_of_ble_eq_true rfl) (Nat.le_of_ble_eq_true rfl) ?_
  refine W.eq (g2 := F0 m9 4 ls []) rfl ?_
  refine lv_aload_n hx hb d_G_init_4 rfl (lv_at hl 0 rfl) ?_
  refine ri_bipush hx hb d_G_init_5 (by decide) ?_
  refine ra_newi (N := 16) hx hb hG g_53 hK hP hD hS hA rfl (by omega) (Nat.le_of_ble_eq_true rfl) (Nat.le_of_ble_eq_true rfl) d_G_init_7 (fun q1 H hP hD hS => ?_)
  refine va_putF (D := D) (ci := 4) (v := .ref q1) (ty := .array .int) (C := R_G) (T := F_G) (N := 4) hx hb hG in_G t_G t_G_ok n_G hown hK hP hD hS 1 rfl rfl 0 (by decide) (hG _ g_505) (fun _ h9 => h9) rfl hin9 rfl (by decide +kernel) rfl rfl (Nat.le_of_ble_eq_true rfl) d_G_init_9 (fun H locs hP hD hS => ?_)
  have hP : va_P D classes ((q1, .inl (k 0, ai 16 (fun _ => 0))) :: (ag, .inr (4, [.ref q1, .null, .int (iI (0)), .long (jJ (0))])) :: wr) H := hP
  have hD : va_D (fun q : Nat => s0.heap.size ≤ q) ((q1, .inl (k 0, ai 16 (fun _ => 0))) :: (ag, .inr (4, [.ref q1, .null, .int (iI (0)), .long (jJ (0))])) :: wr) := hD
  refine lv_aload_n hx hb d_G_init_12 rfl (lv_at hl 0 rfl) ?_
  refine ri_bipush hx hb d_G_init_13 (by decide) ?_
  refine ra_newi (N := 16) hx hb hG g_53 hK hP hD hS hA rfl (by omega) (Nat.le_of_ble_eq_true rfl) (Nat.le_of_ble_eq_true rfl) d_G_init_15 (fun q2 H hP hD hS => ?_)
  refine va_putF (D := D) (ci := 4) (v := .ref q2) (ty := .array .int) (C := R_G) (T := F_G) (N := 4) hx hb hG in_G t_G t_G_ok n_G hown hK hP hD hS 2 rfl rfl 1 (by decide) (hG _ g_507) (fun _ h9 => h9) rfl hin9 rfl (by decide +kernel) rfl rfl (Nat.le_of_ble_eq_true rfl) d_G_init_17 (fun H locs hP hD hS => ?_)
  have hP : va_P D classes ((q2, .inl (k 0, ai 16 (fun _ => 0))) :: (q1, .inl (k 0, ai 16 (fun _ => 0))) :: (ag, .inr (4, [.ref q1, .ref q2, .int (iI (0)), .long (jJ (0))])) :: wr) H := hP
  have hD : va_D (fun q : Nat => s0.heap.size ≤ q) ((q2, .inl (k 0, ai 16 (fun _ => 0))) :: (q1, .inl (k 0, ai 16 (fun _ => 0))) :: (ag, .inr (4, [.ref q1, .ref q2, .int (iI (0)), .long (jJ (0))])) :: wr) := hD
  exact re_v hx hb hr hlocks (fun t ht hW => ⟨_, ⟨q1, q2, rfl, rfl⟩, wd_next h0 hS hP hD t ht hW⟩) hS.2.2 (Nat.le_of_ble_eq_true rfl) (Nat.le_of_ble_eq_true rfl) d_G_init_20

set_option maxHeartbeats 4000000 in
set_option maxRecDepth 100000 in
theorem c_N_init {l : Launch} {s0 : State} {D : va_G} {k : Nat → ClassId} (hC : Cx l s0 D k) (an n9 : Nat) (wr : va_W) (hn9 : n9 ≤ 12) : WdM l s0 D y_N_init { frames := 1, cells := 1, slots := 13, locals := 23 } [.ref an, .int (iI ((n9 : Int)))] ((an, .inr (0, [.null])) :: wr) (fun v ws' => ∃ ah : Nat, v = none ∧ ws' = ((ah, .inl (k 0, ai (n9 + 1) (seqF (fun _ => 0) (fun d => isq ((n9 : Int) * n9 - d * d)) 0 (n9 + 1)))) :: (an, .inr (0, [.ref ah])) :: wr)) (fun E ws' => False) 1 13 := by
  refine ex_ofW (cc := b_N_init) (maxL := 3) (ret := none) (hh := []) (by decide +kernel) (Or.inl ⟨g_352, rfl⟩) ?_
  intro p9 e9 s m9 args9 below9 meth9 c9 s9 B9 hml htab hv
  obtain ⟨rfl, h0, hP, hD⟩ := hv
  have hx := B9.exec
  have hb := B9.bytes
  have hr := B9.returns
  have hG := atoms_spec (ws := GW) B9.pre
  have hown : s.vm.findClass "LathePieces$Nose" = some m9.cls := findClass_of_methodNamed B9.named
  have hlocks := B9.notSynchronized
  have hin9 : meth9.name = "<init>" := (name_of_methodNamed B9.named B9.method).1
  have hK := cx_K hC h0
  have hS : va_S (aL s0) s.heap s.heap [] := va_S.rf
  have hA : ∀ q : Nat, s.heap.size ≤ q → aL s0 q := fun q h => Nat.le_trans h0.2.1 h
  have hl := lv_entry ([.ref an, .int (iI ((n9 : Int)))]) (n := 3) (Nat.le_of_ble_eq_true rfl)
  rw [lg_entry_eq]
  generalize (lg_sl ([.ref an, .int (iI ((n9 : Int)))]) ++ List.replicate (3 - (lg_sl ([.ref an, .int (iI ((n9 : Int)))])).length) Slot.unset).toArray = ls at hl ⊢
  replace hl : lv_has ls 3 [(0, .ref an), (1, .int (iI ((n9 : Int))))] := hl
  refine lv_aload_n hx hb d_N_init_0 rfl (lv_at hl 0 rfl) ?_
  refine W.objInit hx hb hown (hG _ g_353) (hG _ g_23) (hG _ g_24) rfl (by rw [hml]; exact hl.1) rfl d_N_init_1 (Nat.le_of_ble_eq_true rfl) (Nat.le_of_ble_eq_true rfl) ?_
  refine W.eq (g2 := F0 m9 4 ls []) rfl ?_
  refine lv_aload_n hx hb d_N_init_4 rfl (lv_at hl 0 rfl) ?_
  refine lv_iload_n hx hb d_N_init_5 rfl (lv_at hl 1 rfl) ?_
  refine ri_iconst hx hb d_N_init_6 ?_
  refine ri_iadd hx hb d_N_init_7 ?_
  refine ra_newi (N := n9 + 1) hx hb hG g_53 hK hP hD hS hA (by omega) (by omega) (Nat.le_of_ble_eq_true rfl) (by show 0 + (n9 + 1) ≤ 13; omega) d_N_init_8 (fun q1 H hP hD hS => ?_)
  refine W.widen (k := 1) (n := 13) (Nat.le_of_ble_eq_true rfl) (by omega) ?_
  refine va_putF (D := D) (ci := 0) (v := .ref q1) (ty := .array .int) (C := R_N) (T := F_N) (N := 1) hx hb hG in_N t_N t_N_ok n_N hown hK hP hD hS 1 rfl rfl 0 (by decide) (hG _ g_355) (fun _ h9 => h9) rfl hin9 rfl (by decide +kernel) rfl rfl (Nat.le_of_ble_eq_true rfl) d_N_init_10 (fun H locs hP hD hS => ?_)
  have hP : va_P D classes ((q1, .inl (k 0, ai (n9 + 1) (fun _ => 0))) :: (an, .inr (0, [.ref q1])) :: wr) H := hP
  have hD : va_D (fun q : Nat => s0.heap.size ≤ q) ((q1, .inl (k 0, ai (n9 + 1) (fun _ => 0))) :: (an, .inr (0, [.ref q1])) :: wr) := hD
  refine ri_iconst hx hb d_N_init_13 ?_
  refine lv_istore_n (lv' := [(2, .int (iI (0))), (0, .ref an), (1, .int (iI ((n9 : Int))))]) hx hb d_N_init_14 rfl hl (by decide) rfl (fun ls hl => ?_)
  have loop : ∀ (Q9 : State → Prop) (κ ν : Nat) (H : Heap) (locs : List Loc) (ls : Array Slot), ν + κ = n9 + 1 → va_P D classes ((q1, .inl (k 0, ai (n9 + 1) (seqF (fun _ => 0) (fun d => isq ((n9 : Int) * n9 - d * d)) 0 (ν)))) :: (an, .inr (0, [.ref q1])) :: wr) H → va_D (aL s0) ((q1, .inl (k 0, ai (n9 + 1) (seqF (fun _ => 0) (fun d => isq ((n9 : Int) * n9 - d * d)) 0 (ν)))) :: (an, .inr (0, [.ref q1])) :: wr) → va_S (aL s0) s.heap H locs → lv_has ls 3 [(0, .ref an), (1, .int (iI ((n9 : Int)))), (2, .int (iI (0 + (ν : Int))))] → (∀ (H : Heap) (locs : List Loc) (ls : Array Slot), va_P D classes ((q1, .inl (k 0, ai (n9 + 1) (seqF (fun _ => 0) (fun d => isq ((n9 : Int) * n9 - d * d)) 0 (n9 + 1)))) :: (an, .inr (0, [.ref q1])) :: wr) H → va_D (aL s0) ((q1, .inl (k 0, ai (n9 + 1) (seqF (fun _ => 0) (fun d => isq ((n9 : Int) * n9 - d * d)) 0 (n9 + 1)))) :: (an, .inr (0, [.ref q1])) :: wr) → va_S (aL s0) s.heap H locs → lv_has ls 3 [(0, .ref an)] → W p9 l e9 (headSpec GW { frames := 1, cells := 1, slots := 13, locals := 23 }).room s m9 ([.ref an, .int (iI ((n9 : Int)))] : List Value).toArray below9 meth9 c9 H locs 1 13 Q9 (F0 m9 42 ls [])) → W p9 l e9 (headSpec GW { frames := 1, cells := 1, slots := 13, locals := 23 }).room s m9 ([.ref an, .int (iI ((n9 : Int)))] : List Value).toArray below9 meth9 c9 H locs 1 13 Q9 (F0 m9 15 ls []) := by
    intro Q9 κ
    induction κ with
    | zero =>
      intro ν H locs ls hinv hP hD hS hl kex
      refine lv_iload_n hx hb d_N_init_15 rfl (lv_at hl 2 rfl) ?_
      refine lv_iload_n hx hb d_N_init_16 rfl (lv_at hl 1 rfl) ?_
      refine ri_icmp_gt (tgt := 42) hx hb d_N_init_17 (by decide) (by omega) (by omega) (fun c17 => ?_) (fun c17 => ?_)
      · have hN9 : ν = n9 + 1 := by omega
        subst hN9
        exact kex H locs ls hP hD hS (lv_sub hl [0] rfl)
      · exact absurd c17 (by omega)
    | succ κ ih =>
      intro ν H locs ls hinv hP hD hS hl kex
      refine lv_iload_n hx hb d_N_init_15 rfl (lv_at hl 2 rfl) ?_
      refine lv_iload_n hx hb d_N_init_16 rfl (lv_at hl 1 rfl) ?_
      refine ri_icmp_gt (tgt := 42) hx hb d_N_init_17 (by decide) (by omega) (by omega) (fun c17 => ?_) (fun c17 => ?_)
      · exact absurd c17 (by omega)
      · have q2 : 0 ≤ (0 + (ν : Int)) * (0 + ν) ∧ (0 + (ν : Int)) * (0 + ν) ≤ (n9 : Int) * n9 := ⟨Int.mul_nonneg (by omega) (by omega), sq_mono (by omega) (by omega)⟩
        have q3 : (n9 : Int) * n9 ≤ 12 * 12 := sq_mono (by omega) (by omega)
        refine lv_aload_n hx hb d_N_init_20 rfl (lv_at hl 0 rfl) ?_
        refine va_get (D := D) (ci := 0) (v := .ref q1) (C := R_N) (T := F_N) (N := 1) hx hb hG in_N hown hK hP 1 rfl rfl 0 (by decide) (hG _ g_355) (fun _ h9 => h9) rfl d_N_init_21 ?_
        refine lv_iload_n hx hb d_N_init_24 rfl (lv_at hl 2 rfl) ?_
        refine lv_iload_n hx hb d_N_init_25 rfl (lv_at hl 1 rfl) ?_
        refine lv_iload_n hx hb d_N_init_26 rfl (lv_at hl 1 rfl) ?_
        refine ri_imul hx hb d_N_init_27 ?_
        refine lv_iload_n hx hb d_N_init_28 rfl (lv_at hl 2 rfl) ?_
        refine lv_iload_n hx hb d_N_init_29 rfl (lv_at hl 2 rfl) ?_
        refine ri_imul hx hb d_N_init_30 ?_
        refine ri_isub hx hb d_N_init_31 ?_
        refine pu_call (ex_runSN (As := [.int (iI ((((n9 : Int)) * ((n9 : Int))) - ((0 + (ν : Int)) * (0 + (ν : Int)))))]) (rest := [.int (iI (0 + (ν : Int))), .ref q1]) ⟨hx, hb, hml, hown, hG⟩ (c_C_wholeRoot l ((n9 : Int) * n9 - (0 + (ν : Int)) * (0 + ν)) (by omega)) (cn_mk (n := 1) hG g_248 g_1 (cx_nest hC h0 g_354 _) rfl rfl (by decide +kernel) ⟨Nat.le_of_ble_eq_true rfl, Nat.le_of_ble_eq_true rfl⟩) (hG _ g_247) ⟨fun _ _ _ _ q => q, fun _ _ _ => rfl⟩ rfl rfl hl.1 rfl (lv_room (Nat.le_of_ble_eq_true rfl)) d_N_init_32 ⟨Nat.le_of_ble_eq_true rfl, Nat.le_of_ble_eq_true rfl⟩) (fun v9 h9 => ?_)
        obtain rfl := h9
        show W _ _ _ _ _ _ _ _ _ _ _ _ _ _ _ (F0 m9 35 ls [.int (iI (isq ((n9 : Int) * n9 - (0 + (ν : Int)) * (0 + ν)))), .int (iI (0 + (ν : Int))), .ref q1])
        refine ra_iast (v := isq ((n9 : Int) * n9 - (0 + (ν : Int)) * (0 + ν))) hx hb hK hP hD hS 0 rfl (by omega) (by omega) d_N_init_35 (fun H locs hP hD hS => ?_)
        have hP : va_P D classes ((q1, .inl (k 0, ai (n9 + 1) (zU (seqF (fun _ => 0) (fun d => isq ((n9 : Int) * n9 - d * d)) 0 (ν)) (0 + (ν : Int)) (isq ((n9 : Int) * n9 - (0 + (ν : Int)) * (0 + ν)))))) :: (an, .inr (0, [.ref q1])) :: wr) H := hP
        have hD : va_D (fun q : Nat => s0.heap.size ≤ q) ((q1, .inl (k 0, ai (n9 + 1) (zU (seqF (fun _ => 0) (fun d => isq ((n9 : Int) * n9 - d * d)) 0 (ν)) (0 + (ν : Int)) (isq ((n9 : Int) * n9 - (0 + (ν : Int)) * (0 + ν)))))) :: (an, .inr (0, [.ref q1])) :: wr) := hD
        rw [show zU (seqF (fun _ => 0) (fun d => isq ((n9 : Int) * n9 - d * d)) 0 (ν)) (0 + ν) (isq ((n9 : Int) * n9 - (0 + (ν : Int)) * (0 + ν))) = seqF (fun _ => 0) (fun d => isq ((n9 : Int) * n9 - d * d)) 0 (ν + 1) from seqF_s (fun _ => 0) (fun d => isq ((n9 : Int) * n9 - d * d)) 0 ν] at hP hD
        refine lv_iinc (v := iI (0 + ((ν + 1 : Nat) : Int))) (lv' := [(2, .int (iI (0 + ((ν + 1 : Nat) : Int)))), (0, .ref an), (1, .int (iI ((n9 : Int))))]) hx hb d_N_init_36 hl (k := 2) rfl ((ii_add _ _).trans (congrArg iI (by omega))) (by decide) rfl (fun ls hl => ?_)
        refine lv_goto (tgt := 15) hx hb d_N_init_39 (by decide) ?_
        exact ih (ν + 1) H locs ls (by omega) hP hD hS (lv_sub hl [1, 2, 0] rfl) kex
  refine loop _ (n9 + 1) 0 _ _ _ (by omega) (by rw [seqF_0]; exact hP) (by rw [seqF_0]; exact hD) hS (lv_sub hl [1, 2, 0] rfl) (fun H locs ls hP hD hS hl => ?_)
  exact re_v hx hb hr hlocks (fun t ht hW => ⟨_, ⟨q1, rfl, rfl⟩, wd_next h0 hS hP hD t ht hW⟩) hS.2.2 (Nat.le_of_ble_eq_true rfl) (Nat.le_of_ble_eq_true rfl) d_N_init_42

