/-- f on the n places from lo on, else r -/
def seqF (r f : Int → Int) (lo : Int) (n : Nat) : Int → Int := fun j => if lo ≤ j ∧ j < lo + n then f j else r j
theorem seqF_0 (r f : Int → Int) (lo : Int) : seqF r f lo 0 = r := by
  funext j
  exact if_neg (by omega)
theorem seqF_s (r f : Int → Int) (lo : Int) (n : Nat) : zU (seqF r f lo n) (lo + n) (f (lo + n)) = seqF r f lo (n + 1) := by
  funext j
  unfold zU seqF
  by_cases h : j = lo + n
  · subst h
    rw [if_pos rfl, if_pos (by omega)]
  · rw [if_neg h]
    by_cases h2 : lo ≤ j ∧ j < lo + n
    · rw [if_pos h2, if_pos (by omega)]
    · rw [if_neg h2, if_neg (by omega)]
theorem seqF_in {r f : Int → Int} {lo j : Int} {n : Nat} (h : lo ≤ j ∧ j < lo + n) : seqF r f lo n j = f j := if_pos h
theorem seqF_out {r f : Int → Int} {lo j : Int} {n : Nat} (h : ¬ (lo ≤ j ∧ j < lo + n)) : seqF r f lo n j = r j := if_neg h
set_option maxHeartbeats 4000000 in
set_option maxRecDepth 100000 in
theorem c_F_begin {l : Launch} {s0 : State} {D : va_G} {k : Nat → ClassId} (hC : Cx l s0 D k) (af ar : Nat) (bg la lr wy : Int) (r : Int → Int) (wr : va_W) (rd : Int) : WdM l s0 D y_F_begin { frames := 0, cells := 0, slots := 0, locals := 0 } [.ref af, .int (iI (rd))] ((af, .inr (2, [.ref ar, .int (iI (bg)), .int (iI (la)), .int (iI (lr)), .int (iI (wy))])) :: (ar, .inl (k 0, ai 65 r)) :: wr) (fun v ws' => v = none ∧ ws' = ((af, .inr (2, [.ref ar, .int (iI (1)), .int (iI (0)), .int (iI (rd)), .int (iI (0))])) :: (ar, .inl (k 0, ai 65 (zU r (0) (rd)))) :: wr)) (fun E ws' => False) 0 0 := by
  refine ex_ofW (cc := b_F_begin) (maxL := 2) (ret := none) (hh := []) (by decide +kernel) (Or.inl ⟨g_184, rfl⟩) ?_
  intro p9 e9 s m9 args9 below9 meth9 c9 s9 B9 hml htab hv
  obtain ⟨rfl, h0, hP, hD⟩ := hv
  have hx := B9.exec
  have hb := B9.bytes
  have hr := B9.returns
  have hG := atoms_spec (ws := GW) B9.pre
  have hown : s.vm.findClass "LathePieces$Profile" = some m9.cls := findClass_of_methodNamed B9.named
  have hlocks := B9.notSynchronized
  have hK := cx_K hC h0
  have hS : va_S (aL s0) s.heap s.heap [] := va_S.rf
  have hA : ∀ q : Nat, s.heap.size ≤ q → aL s0 q := fun q h => Nat.le_trans h0.2.1 h
  have hl := lv_entry ([.ref af, .int (iI (rd))]) (n := 2) (Nat.le_of_ble_eq_true rfl)
  rw [lg_entry_eq]
  generalize (lg_sl ([.ref af, .int (iI (rd))]) ++ List.replicate (2 - (lg_sl ([.ref af, .int (iI (rd))])).length) Slot.unset).toArray = ls at hl ⊢
  replace hl : lv_has ls 2 [(0, .ref af), (1, .int (iI (rd)))] := hl
  refine lv_aload_n hx hb d_F_begin_0 rfl (lv_at hl 0 rfl) ?_
  refine ri_iconst hx hb d_F_begin_1 ?_
  refine va_put (D := D) (ci := 2) (v := .int (iI (1))) (ty := .boolean) (C := R_F) (T := F_F) (N := 5) hx hb hG in_F t_F t_F_ok n_F hown hK hP hD hS 0 rfl rfl 1 (by decide) (hG _ g_33) (fun _ h9 => h9) rfl (by decide +kernel) rfl rfl (Nat.le_of_ble_eq_true rfl) d_F_begin_2 (fun H locs hP hD hS => ?_)
  have hP : va_P D classes ((af, .inr (2, [.ref ar, .int (iI (1)), .int (iI (la)), .int (iI (lr)), .int (iI (wy))])) :: (ar, .inl (k 0, ai 65 r)) :: wr) H := hP
  have hD : va_D (fun q : Nat => s0.heap.size ≤ q) ((af, .inr (2, [.ref ar, .int (iI (1)), .int (iI (la)), .int (iI (lr)), .int (iI (wy))])) :: (ar, .inl (k 0, ai 65 r)) :: wr) := hD
  refine lv_aload_n hx hb d_F_begin_5 rfl (lv_at hl 0 rfl) ?_
  refine ri_iconst hx hb d_F_begin_6 ?_
  refine va_put (D := D) (ci := 2) (v := .int (iI (0))) (ty := .int) (C := R_F) (T := F_F) (N := 5) hx hb hG in_F t_F t_F_ok n_F hown hK hP hD hS 0 rfl rfl 2 (by decide) (hG _ g_36) (fun _ h9 => h9) rfl (by decide +kernel) rfl rfl (Nat.le_of_ble_eq_true rfl) d_F_begin_7 (fun H locs hP hD hS => ?_)
  have hP : va_P D classes ((af, .inr (2, [.ref ar, .int (iI (1)), .int (iI (0)), .int (iI (lr)), .int (iI (wy))])) :: (ar, .inl (k 0, ai 65 r)) :: wr) H := hP
  have hD : va_D (fun q : Nat => s0.heap.size ≤ q) ((af, .inr (2, [.ref ar, .int (iI (1)), .int (iI (0)), .int (iI (lr)), .int (iI (wy))])) :: (ar, .inl (k 0, ai 65 r)) :: wr) := hD
  refine lv_aload_n hx hb d_F_begin_10 rfl (lv_at hl 0 rfl) ?_
  refine lv_iload_n hx hb d_F_begin_11 rfl (lv_at hl 1 rfl) ?_
  refine va_put (D := D) (ci := 2) (v := .int (iI (rd))) (ty := .int) (C := R_F) (T := F_F) (N := 5) hx hb hG in_F t_F t_F_ok n_F hown hK hP hD hS 0 rfl rfl 3 (by decide) (hG _ g_38) (fun _ h9 => h9) rfl (by decide +kernel) rfl rfl (Nat.le_of_ble_eq_true rfl) d_F_begin_12 (fun H locs hP hD hS => ?_)
  have hP : va_P D classes ((af, .inr (2, [.ref ar, .int (iI (1)), .int (iI (0)), .int (iI (rd)), .int (iI (wy))])) :: (ar, .inl (k 0, ai 65 r)) :: wr) H := hP
  have hD : va_D (fun q : Nat => s0.heap.size ≤ q) ((af, .inr (2, [.ref ar, .int (iI (1)), .int (iI (0)), .int (iI (rd)), .int (iI (wy))])) :: (ar, .inl (k 0, ai 65 r)) :: wr) := hD
  refine lv_aload_n hx hb d_F_begin_15 rfl (lv_at hl 0 rfl) ?_
  refine ri_iconst hx hb d_F_begin_16 ?_
  refine va_put (D := D) (ci := 2) (v := .int (iI (0))) (ty := .int) (C := R_F) (T := F_F) (N := 5) hx hb hG in_F t_F t_F_ok n_F hown hK hP hD hS 0 rfl rfl 4 (by decide) (hG _ g_40) (fun _ h9 => h9) rfl (by decide +kernel) rfl rfl (Nat.le_of_ble_eq_true rfl) d_F_begin_17 (fun H locs hP hD hS => ?_)
  have hP : va_P D classes ((af, .inr (2, [.ref ar, .int (iI (1)), .int (iI (0)), .int (iI (rd)), .int (iI (0))])) :: (ar, .inl (k 0, ai 65 r)) :: wr) H := hP
  have hD : va_D (fun q : Nat => s0.heap.size ≤ q) ((af, .inr (2, [.ref ar, .int (iI (1)), .int (iI (0)), .int (iI (rd)), .int (iI (0))])) :: (ar, .inl (k 0, ai 65 r)) :: wr) := hD
  refine lv_aload_n hx hb d_F_begin_20 rfl (lv_at hl 0 rfl) ?_
  refine va_get (D := D) (ci := 2) (v := .ref ar) (C := R_F) (T := F_F) (N := 5) hx hb hG in_F hown hK hP 0 rfl rfl 0 (by decide) (hG _ g_32) (fun _ h9 => h9) rfl d_F_begin_21 ?_
  refine ri_iconst hx hb d_F_begin_24 ?_
  refine lv_iload_n hx hb d_F_begin_25 rfl (lv_at hl 1 rfl) ?_
  refine ra_iast (v := rd) hx hb hK hP hD hS 1 rfl (by omega) (by omega) d_F_begin_26 (fun H locs hP hD hS => ?_)
  have hP : va_P D classes ((af, .inr (2, [.ref ar, .int (iI (1)), .int (iI (0)), .int (iI (rd)), .int (iI (0))])) :: (ar, .inl (k 0, ai 65 (zU r (0) (rd)))) :: wr) H := hP
  have hD : va_D (fun q : Nat => s0.heap.size ≤ q) ((af, .inr (2, [.ref ar, .int (iI (1)), .int (iI (0)), .int (iI (rd)), .int (iI (0))])) :: (ar, .inl (k 0, ai 65 (zU r (0) (rd)))) :: wr) := hD
  exact re_v hx hb hr hlocks (fun t ht hW => ⟨_, ⟨rfl, rfl⟩, wd_next h0 hS hP hD t ht hW⟩) hS.2.2 (Nat.le_of_ble_eq_true rfl) (Nat.le_of_ble_eq_true rfl) d_F_begin_27

set_option maxHeartbeats 4000000 in
set_option maxRecDepth 100000 in
theorem c_F_goOnFrom {l : Launch} {s0 : State} {D : va_G} {k : Nat → ClassId} (hC : Cx l s0 D k) (af ar : Nat) (bg la lr wy : Int) (r : Int → Int) (wr : va_W) (at9 rd : Int) : WdM l s0 D y_F_goOnFrom { frames := 0, cells := 0, slots := 0, locals := 0 } [.ref af, .int (iI (at9)), .int (iI (rd))] ((af, .inr (2, [.ref ar, .int (iI (bg)), .int (iI (la)), .int (iI (lr)), .int (iI (wy))])) :: (ar, .inl (k 0, ai 65 r)) :: wr) (fun v ws' => v = none ∧ ws' = ((af, .inr (2, [.ref ar, .int (iI (bg)), .int (iI (at9)), .int (iI (rd)), .int (iI (wy + 1))])) :: (ar, .inl (k 0, ai 65 r)) :: wr)) (fun E ws' => False) 0 0 := by
  refine ex_ofW (cc := b_F_goOnFrom) (maxL := 3) (ret := none) (hh := []) (by decide +kernel) (Or.inl ⟨g_227, rfl⟩) ?_
  intro p9 e9 s m9 args9 below9 meth9 c9 s9 B9 hml htab hv
  obtain ⟨rfl, h0, hP, hD⟩ := hv
  have hx := B9.exec
  have hb := B9.bytes
  have hr := B9.returns
  have hG := atoms_spec (ws := GW) B9.pre
  have hown : s.vm.findClass "LathePieces$Profile" = some m9.cls := findClass_of_methodNamed B9.named
  have hlocks := B9.notSynchronized
  have hK := cx_K hC h0
  have hS : va_S (aL s0) s.heap s.heap [] := va_S.rf
  have hA : ∀ q : Nat, s.heap.size ≤ q → aL s0 q := fun q h => Nat.le_trans h0.2.1 h
  have hl := lv_entry ([.ref af, .int (iI (at9)), .int (iI (rd))]) (n := 3) (Nat.le_of_ble_eq_true rfl)
  rw [lg_entry_eq]
  generalize (lg_sl ([.ref af, .int (iI (at9)), .int (iI (rd))]) ++ List.replicate (3 - (lg_sl ([.ref af, .int (iI (at9)), .int (iI (rd))])).length) Slot.unset).toArray = ls at hl ⊢
  replace hl : lv_has ls 3 [(0, .ref af), (1, .int (iI (at9))), (2, .int (iI (rd)))] := hl
  refine lv_aload_n hx hb d_F_goOnFrom_0 rfl (lv_at hl 0 rfl) ?_
  refine lv_iload_n hx hb d_F_goOnFrom_1 rfl (lv_at hl 1 rfl) ?_
  refine va_put (D := D) (ci := 2) (v := .int (iI (at9))) (ty := .int) (C := R_F) (T := F_F) (N := 5) hx hb hG in_F t_F t_F_ok n_F hown hK hP hD hS 0 rfl rfl 2 (by decide) (hG _ g_36) (fun _ h9 => h9) rfl (by decide +kernel) rfl rfl (Nat.le_of_ble_eq_true rfl) d_F_goOnFrom_2 (fun H locs hP hD hS => ?_)
  have hP : va_P D classes ((af, .inr (2, [.ref ar, .int (iI (bg)), .int (iI (at9)), .int (iI (lr)), .int (iI (wy))])) :: (ar, .inl (k 0, ai 65 r)) :: wr) H := hP
  have hD : va_D (fun q : Nat => s0.heap.size ≤ q) ((af, .inr (2, [.ref ar, .int (iI (bg)), .int (iI (at9)), .int (iI (lr)), .int (iI (wy))])) :: (ar, .inl (k 0, ai 65 r)) :: wr) := hD
  refine lv_aload_n hx hb d_F_goOnFrom_5 rfl (lv_at hl 0 rfl) ?_
  refine lv_iload_n hx hb d_F_goOnFrom_6 rfl (lv_at hl 2 rfl) ?_
  refine va_put (D := D) (ci := 2) (v := .int (iI (rd))) (ty := .int) (C := R_F) (T := F_F) (N := 5) hx hb hG in_F t_F t_F_ok n_F hown hK hP hD hS 0 rfl rfl 3 (by decide) (hG _ g_38) (fun _ h9 => h9) rfl (by decide +kernel) rfl rfl (Nat.le_of_ble_eq_true rfl) d_F_goOnFrom_7 (fun H locs hP hD hS => ?_)
  have hP : va_P D classes ((af, .inr (2, [.ref ar, .int (iI (bg)), .int (iI (at9)), .int (iI (rd)), .int (iI (wy))])) :: (ar, .inl (k 0, ai 65 r)) :: wr) H := hP
  have hD : va_D (fun q : Nat => s0.heap.size ≤ q) ((af, .inr (2, [.ref ar, .int (iI (bg)), .int (iI (at9)), .int (iI (rd)), .int (iI (wy))])) :: (ar, .inl (k 0, ai 65 r)) :: wr) := hD
  refine lv_aload_n hx hb d_F_goOnFrom_10 rfl (lv_at hl 0 rfl) ?_
  refine lv_dup hx hb d_F_goOnFrom_11 rfl ?_
  refine va_get (D := D) (ci := 2) (v := .int (iI (wy))) (C := R_F) (T := F_F) (N := 5) hx hb hG in_F hown hK hP 0 rfl rfl 4 (by decide) (hG _ g_40) (fun _ h9 => h9) rfl d_F_goOnFrom_12 ?_
  refine ri_iconst hx hb d_F_goOnFrom_15 ?_
  refine ri_iadd hx hb d_F_goOnFrom_16 ?_
  refine va_put (D := D) (ci := 2) (v := .int (iI (wy + 1))) (ty := .int) (C := R_F) (T := F_F) (N := 5) hx hb hG in_F t_F t_F_ok n_F hown hK hP hD hS 0 rfl rfl 4 (by decide) (hG _ g_40) (fun _ h9 => h9) rfl (by decide +kernel) rfl rfl (Nat.le_of_ble_eq_true rfl) d_F_goOnFrom_17 (fun H locs hP hD hS => ?_)
  have hP : va_P D classes ((af, .inr (2, [.ref ar, .int (iI (bg)), .int (iI (at9)), .int (iI (rd)), .int (iI (wy + 1))])) :: (ar, .inl (k 0, ai 65 r)) :: wr) H := hP
  have hD : va_D (fun q : Nat => s0.heap.size ≤ q) ((af, .inr (2, [.ref ar, .int (iI (bg)), .int (iI (at9)), .int (iI (rd)), .int (iI (wy + 1))])) :: (ar, .inl (k 0, ai 65 r)) :: wr) := hD
  exact re_v hx hb hr hlocks (fun t ht hW => ⟨_, ⟨rfl, rfl⟩, wd_next h0 hS hP hD t ht hW⟩) hS.2.2 (Nat.le_of_ble_eq_true rfl) (Nat.le_of_ble_eq_true rfl) d_F_goOnFrom_20

theorem mul_rg {a b A B : Int} (ha : 0 ≤ a ∧ a ≤ A) (hb : -B ≤ b ∧ b ≤ B) : -(A * B) ≤ a * b ∧ a * b ≤ A * B := by
  have h1 : a * b ≤ a * B := Int.mul_le_mul_of_nonneg_left hb.2 ha.1
  have h2 : a * (-B) ≤ a * b := Int.mul_le_mul_of_nonneg_left hb.1 ha.1
  have h3 : a * B ≤ A * B := Int.mul_le_mul_of_nonneg_right ha.2 (by omega)
  rw [Int.mul_neg] at h2
  omega
set_option maxHeartbeats 4000000 in
set_option maxRecDepth 100000 in
theorem c_F_addLine {l : Launch} {s0 : State} {D : va_G} {k : Nat → ClassId} (hC : Cx l s0 D k) (af ar : Nat) (bg la lr wy : Int) (r : Int → Int) (wr : va_W) (at9 rd : Int) (hla : 0 ≤ la ∧ la < at9 ∧ at9 ≤ 64) (hlr : 0 ≤ lr ∧ lr ≤ 500) (hrd : 0 ≤ rd ∧ rd ≤ 500) : WdM l s0 D y_F_addLine { frames := 1, cells := 0, slots := 0, locals := 22 } [.ref af, .int (iI (at9)), .int (iI (rd))] ((af, .inr (2, [.ref ar, .int (iI (bg)), .int (iI (la)), .int (iI (lr)), .int (iI (wy))])) :: (ar, .inl (k 0, ai 65 r)) :: wr) (fun v ws' => v = none ∧ ws' = ((af, .inr (2, [.ref ar, .int (iI (bg)), .int (iI (at9)), .int (iI (rd)), .int (iI (wy + 1))])) :: (ar, .inl (k 0, ai 65 (seqF r (fun x => lr + ((x - la) * (rd - lr)) / (at9 - la)) (la + 1) (at9 - la).toNat))) :: wr)) (fun E ws' => False) 0 0 := by
  refine ex_ofW (cc := b_F_addLine) (maxL := 5) (ret := none) (hh := []) (by decide +kernel) (Or.inl ⟨g_220, rfl⟩) ?_
  intro p9 e9 s m9 args9 below9 meth9 c9 s9 B9 hml htab hv
  obtain ⟨rfl, h0, hP, hD⟩ := hv
  have hx := B9.exec
  have hb := B9.bytes
  have hr := B9.returns
  have hG := atoms_spec (ws := GW) B9.pre
  have hown : s.vm.findClass "LathePieces$Profile" = some m9.cls := findClass_of_methodNamed B9.named
  have hlocks := B9.notSynchronized
  have hK := cx_K hC h0
  have hS : va_S (aL s0) s.heap s.heap [] := va_S.rf
  have hA : ∀ q : Nat, s.heap.size ≤ q → aL s0 q := fun q h => Nat.le_trans h0.2.1 h
  have hl := lv_entry ([.ref af, .int (iI (at9)), .int (iI (rd))]) (n := 5) (Nat.le_of_ble_eq_true rfl)
  rw [lg_entry_eq]
  generalize (lg_sl ([.ref af, .int (iI (at9)), .int (iI (rd))]) ++ List.replicate (5 - (lg_sl ([.ref af, .int (iI (at9)), .int (iI (rd))])).length) Slot.unset).toArray = ls at hl ⊢
  replace hl : lv_has ls 5 [(0, .ref af), (1, .int (iI (at9))), (2, .int (iI (rd)))] := hl
  refine lv_iload_n hx hb d_F_addLine_0 rfl (lv_at hl 2 rfl) ?_
  refine lv_aload_n hx hb d_F_addLine_1 rfl (lv_at hl 0 rfl) ?_
  refine va_get (D := D) (ci := 2) (v := .int (iI (lr))) (C := R_F) (T := F_F) (N := 5) hx hb hG in_F hown hK hP 0 rfl rfl 3 (by decide) (hG _ g_38) (fun _ h9 => h9) rfl d_F_addLine_2 ?_
  refine ri_isub hx hb d_F_addLine_5 ?_
  refine lv_istore_n (lv' := [(3, .int (iI (rd - lr))), (0, .ref af), (1, .int (iI (at9))), (2, .int (iI (rd)))]) hx hb d_F_addLine_6 rfl hl (by decide) rfl (fun ls hl => ?_)
  refine lv_aload_n hx hb d_F_addLine_7 rfl (lv_at hl 1 rfl) ?_
  refine va_get (D := D) (ci := 2) (v := .int (iI (la))) (C := R_F) (T := F_F) (N := 5) hx hb hG in_F hown hK hP 0 rfl rfl 2 (by decide) (hG _ g_36) (fun _ h9 => h9) rfl d_F_addLine_8 ?_
  refine ri_iconst hx hb d_F_addLine_11 ?_
  refine ri_iadd hx hb d_F_addLine_12 ?_
  refine lv_istore (lv' := [(4, .int (iI (la + 1))), (3, .int (iI (rd - lr))), (0, .ref af), (1, .int (iI (at9))), (2, .int (iI (rd)))]) hx hb d_F_addLine_13 hl (by decide) rfl (fun ls hl => ?_)
  have loop : ∀ (Q9 : State → Prop) (κ ν : Nat) (H : Heap) (locs : List Loc) (ls : Array Slot), (ν : Int) + κ = at9 - la → va_P D classes ((af, .inr (2, [.ref ar, .int (iI (bg)), .int (iI (la)), .int (iI (lr)), .int (iI (wy))])) :: (ar, .inl (k 0, ai 65 (seqF r (fun x => lr + ((x - la) * (rd - lr)) / (at9 - la)) (la + 1) (ν)))) :: wr) H → va_D (aL s0) ((af, .inr (2, [.ref ar, .int (iI (bg)), .int (iI (la)), .int (iI (lr)), .int (iI (wy))])) :: (ar, .inl (k 0, ai 65 (seqF r (fun x => lr + ((x - la) * (rd - lr)) / (at9 - la)) (la + 1) (ν)))) :: wr) → va_S (aL s0) s.heap H locs → lv_has ls 5 [(0, .ref af), (1, .int (iI (at9))), (2, .int (iI (rd))), (3, .int (iI (rd - lr))), (4, .int (iI (la + 1 + (ν : Int))))] → (∀ (H : Heap) (locs : List Loc) (ls : Array Slot), va_P D classes ((af, .inr (2, [.ref ar, .int (iI (bg)), .int (iI (la)), .int (iI (lr)), .int (iI (wy))])) :: (ar, .inl (k 0, ai 65 (seqF r (fun x => lr + ((x - la) * (rd - lr)) / (at9 - la)) (la + 1) ((at9 - la).toNat)))) :: wr) H → va_D (aL s0) ((af, .inr (2, [.ref ar, .int (iI (bg)), .int (iI (la)), .int (iI (lr)), .int (iI (wy))])) :: (ar, .inl (k 0, ai 65 (seqF r (fun x => lr + ((x - la) * (rd - lr)) / (at9 - la)) (la + 1) ((at9 - la).toNat)))) :: wr) → va_S (aL s0) s.heap H locs → lv_has ls 5 [(0, .ref af), (1, .int (iI (at9))), (2, .int (iI (rd)))] → W p9 l e9 (headSpec GW { frames := 1, cells := 0, slots := 0, locals := 22 }).room s m9 ([.ref af, .int (iI (at9)), .int (iI (rd))] : List Value).toArray below9 meth9 c9 H locs 0 0 Q9 (F0 m9 64 ls [])) → W p9 l e9 (headSpec GW { frames := 1, cells := 0, slots := 0, locals := 22 }).room s m9 ([.ref af, .int (iI (at9)), .int (iI (rd))] : List Value).toArray below9 meth9 c9 H locs 0 0 Q9 (F0 m9 15 ls []) := by
    intro Q9 κ
    induction κ with
    | zero =>
      intro ν H locs ls hinv hP hD hS hl kex
      refine lv_iload hx hb d_F_addLine_15 (lv_at hl 4 rfl) ?_
      refine lv_iload_n hx hb d_F_addLine_17 rfl (lv_at hl 1 rfl) ?_
      refine ri_icmp_gt (tgt := 64) hx hb d_F_addLine_18 (by decide) (by omega) (by omega) (fun c18 => ?_) (fun c18 => ?_)
      · have hN9 : ν = (at9 - la).toNat := by omega
        subst hN9
        exact kex H locs ls hP hD hS (lv_sub hl [0, 1, 2] rfl)
      · exact absurd c18 (by omega)
    | succ κ ih =>
      intro ν H locs ls hinv hP hD hS hl kex
      refine lv_iload hx hb d_F_addLine_15 (lv_at hl 4 rfl) ?_
      refine lv_iload_n hx hb d_F_addLine_17 rfl (lv_at hl 1 rfl) ?_
      refine ri_icmp_gt (tgt := 64) hx hb d_F_addLine_18 (by decide) (by omega) (by omega) (fun c18 => ?_) (fun c18 => ?_)
      · exact absurd c18 (by omega)
      · refine lv_iload hx hb d_F_addLine_21 (lv_at hl 4 rfl) ?_
        refine ri_bipush hx hb d_F_addLine_23 (by decide) ?_
        refine ri_icmp_gt (tgt := 64) hx hb d_F_addLine_25 (by decide) (by omega) (by omega) (fun c25 => ?_) (fun c25 => ?_)
        · exact absurd c25 (by omega)
        · have q1 : -(64 * 500) ≤ (la + 1 + ν - la) * (rd - lr) ∧ (la + 1 + ν - la) * (rd - lr) ≤ 64 * 500 := mul_rg (by omega) (by omega)
          refine lv_aload_n hx hb d_F_addLine_28 rfl (lv_at hl 0 rfl) ?_
          refine va_get (D := D) (ci := 2) (v := .ref ar) (C := R_F) (T := F_F) (N := 5) hx hb hG in_F hown hK hP 0 rfl rfl 0 (by decide) (hG _ g_32) (fun _ h9 => h9) rfl d_F_addLine_29 ?_
          refine lv_iload hx hb d_F_addLine_32 (lv_at hl 4 rfl) ?_
          refine lv_aload_n hx hb d_F_addLine_34 rfl (lv_at hl 0 rfl) ?_
          refine va_get (D := D) (ci := 2) (v := .int (iI (lr))) (C := R_F) (T := F_F) (N := 5) hx hb hG in_F hown hK hP 0 rfl rfl 3 (by decide) (hG _ g_38) (fun _ h9 => h9) rfl d_F_addLine_35 ?_
          refine lv_iload hx hb d_F_addLine_38 (lv_at hl 4 rfl) ?_
          refine lv_aload_n hx hb d_F_addLine_40 rfl (lv_at hl 0 rfl) ?_
          refine va_get (D := D) (ci := 2) (v := .int (iI (la))) (C := R_F) (T := F_F) (N := 5) hx hb hG in_F hown hK hP 0 rfl rfl 2 (by decide) (hG _ g_36) (fun _ h9 => h9) rfl d_F_addLine_41 ?_
          refine ri_isub hx hb d_F_addLine_44 ?_
          refine lv_iload_n hx hb d_F_addLine_45 rfl (lv_at hl 3 rfl) ?_
          refine ri_imul hx hb d_F_addLine_46 ?_
          refine lv_iload_n hx hb d_F_addLine_47 rfl (lv_at hl 1 rfl) ?_
          refine lv_aload_n hx hb d_F_addLine_48 rfl (lv_at hl 0 rfl) ?_
          refine va_get (D := D) (ci := 2) (v := .int (iI (la))) (C := R_F) (T := F_F) (N := 5) hx hb hG in_F hown hK hP 0 rfl rfl 2 (by decide) (hG _ g_36) (fun _ h9 => h9) rfl d_F_addLine_49 ?_
          refine ri_isub hx hb d_F_addLine_52 ?_
          refine rd_call (ex_runS (As := [.int (iI (((la + 1 + (ν : Int)) - la) * (rd - lr))), .int (iI (at9 - la))]) (rest := [.int (iI (lr)), .int (iI (la + 1 + (ν : Int))), .ref ar]) ⟨hx, hb, hml, hown, hG⟩ (c_J_floorDiv l ((la + 1 + ν - la) * (rd - lr)) (at9 - la) (by omega) (by omega) (by omega)) (cb_code (n := 2) hG g_223 g_9 g_221 rfl rfl (by decide +kernel) ⟨Nat.le_of_ble_eq_true rfl, Nat.le_of_ble_eq_true rfl⟩) (hG _ g_222) ⟨fun _ _ _ _ q => q, fun _ _ _ => rfl⟩ rfl rfl hl.1 rfl (lv_room (Nat.le_of_ble_eq_true rfl)) d_F_addLine_53 ⟨Nat.le_of_ble_eq_true rfl, Nat.le_of_ble_eq_true rfl⟩) (fun v9 h9 => ?_)
          obtain rfl := h9
          show W _ _ _ _ _ _ _ _ _ _ _ _ _ _ _ (F0 m9 56 ls [.int (iI (((la + 1 + ν - la) * (rd - lr)) / (at9 - la))), .int (iI (lr)), .int (iI (la + 1 + (ν : Int))), .ref ar])
          refine ri_iadd hx hb d_F_addLine_56 ?_
          refine ra_iast (v := lr + (((la + 1 + ν - la) * (rd - lr)) / (at9 - la))) hx hb hK hP hD hS 1 rfl (by omega) (by omega) d_F_addLine_57 (fun H locs hP hD hS => ?_)
          have hP : va_P D classes ((af, .inr (2, [.ref ar, .int (iI (bg)), .int (iI (la)), .int (iI (lr)), .int (iI (wy))])) :: (ar, .inl (k 0, ai 65 (zU (seqF r (fun x => lr + ((x - la) * (rd - lr)) / (at9 - la)) (la + 1) (ν)) (la + 1 + (ν : Int)) (lr + (((la + 1 + ν - la) * (rd - lr)) / (at9 - la)))))) :: wr) H := hP
          have hD : va_D (fun q : Nat => s0.heap.size ≤ q) ((af, .inr (2, [.ref ar, .int (iI (bg)), .int (iI (la)), .int (iI (lr)), .int (iI (wy))])) :: (ar, .inl (k 0, ai 65 (zU (seqF r (fun x => lr + ((x - la) * (rd - lr)) / (at9 - la)) (la + 1) (ν)) (la + 1 + (ν : Int)) (lr + (((la + 1 + ν - la) * (rd - lr)) / (at9 - la)))))) :: wr) := hD
          rw [show zU (seqF r (fun x => lr + ((x - la) * (rd - lr)) / (at9 - la)) (la + 1) (ν)) (la + 1 + ν) (lr + ((la + 1 + ν - la) * (rd - lr)) / (at9 - la)) = seqF r (fun x => lr + ((x - la) * (rd - lr)) / (at9 - la)) (la + 1) (ν + 1) from seqF_s r (fun x => lr + ((x - la) * (rd - lr)) / (at9 - la)) (la + 1) ν] at hP hD
          refine lv_iinc (v := iI (la + 1 + ((ν + 1 : Nat) : Int))) (lv' := [(4, .int (iI (la + 1 + ((ν + 1 : Nat) : Int)))), (0, .ref af), (1, .int (iI (at9))), (2, .int (iI (rd))), (3, .int (iI (rd - lr)))]) hx hb d_F_addLine_58 hl (k := 4) rfl ((ii_add _ _).trans (congrArg iI (by omega))) (by decide) rfl (fun ls hl => ?_)
          refine lv_goto (tgt := 15) hx hb d_F_addLine_61 (by decide) ?_
          exact ih (ν + 1) H locs ls (by omega) hP hD hS (lv_sub hl [1, 2, 3, 4, 0] rfl) kex
  refine loop _ ((at9 - la).toNat) 0 _ _ _ (by omega) (by rw [seqF_0]; exact hP) (by rw [seqF_0]; exact hD) hS (by rw [show la + 1 + ((0 : Nat) : Int) = la + 1 by omega]; exact lv_sub hl [2, 3, 4, 1, 0] rfl) (fun H locs ls hP hD hS hl => ?_)
  refine lv_aload_n hx hb d_F_addLine_64 rfl (lv_at hl 0 rfl) ?_
  refine lv_iload_n hx hb d_F_addLine_65 rfl (lv_at hl 1 rfl) ?_
  refine lv_iload_n hx hb d_F_addLine_66 rfl (lv_at hl 2 rfl) ?_
  refine wd_call h0 hS htab hlocks (Nat.le_of_ble_eq_true rfl) (Nat.le_of_ble_eq_true rfl) (ex_runV (C := "LathePieces$Profile") (As := [.int (iI (at9)), .int (iI (rd))]) (rest := []) ⟨hx, hb, hml, hown, hG⟩ (c_F_goOnFrom hC af ar bg la lr wy (seqF r (fun x => lr + ((x - la) * (rd - lr)) / (at9 - la)) (la + 1) (at9 - la).toNat) wr at9 rd) (cb_code (n := 2) hG g_227 g_2 g_224 rfl rfl (by decide +kernel) ⟨Nat.le_of_ble_eq_true rfl, Nat.le_of_ble_eq_true rfl⟩) (hG _ g_225) (hG _ g_226) (kd_V (kd_preW h0 hS hP hD) (kd_recv hK hP (q0 := 0) (ci := 2) rfl rfl rfl)) rfl rfl hl.1 rfl (lv_room (Nat.le_of_ble_eq_true rfl)) d_F_addLine_67 ⟨Nat.le_of_ble_eq_true rfl, Nat.le_of_ble_eq_true rfl⟩) (fun E ws9 hE t hwd => hE.elim) (fun v9 ws9 h9 H locs hP hD hS => ?_)
  obtain ⟨rfl, rfl⟩ := h9
  show W _ _ _ _ _ _ _ _ _ _ _ _ _ _ _ (F0 m9 70 ls [])
  exact re_v hx hb hr hlocks (fun t ht hW => ⟨_, ⟨rfl, rfl⟩, wd_next h0 hS hP hD t ht hW⟩) hS.2.2 (Nat.le_of_ble_eq_true rfl) (Nat.le_of_ble_eq_true rfl) d_F_addLine_70

set_option maxHeartbeats 4000000 in
set_option maxRecDepth 100000 in
theorem c_G_addWedge {l : Launch} {s0 : State} {D : va_G} {k : Nat → ClassId} (hC : Cx l s0 D k) (ag a1 a2 : Nat) (cn sm : Int) (ga gb : Int → Int) (wr : va_W) (ab be : Int) (hcn : 0 ≤ cn ∧ cn < 16) (hab : 1 ≤ ab ∧ ab ≤ 3600) (hbe : 1 ≤ be ∧ be ≤ 12) : WdM l s0 D y_G_addWedge { frames := 0, cells := 0, slots := 0, locals := 0 } [.ref ag, .int (iI (ab)), .int (iI (be))] ((ag, .inr (4, [.ref a1, .ref a2, .int (iI (cn)), .long (jJ (sm))])) :: (a1, .inl (k 0, ai 16 ga)) :: (a2, .inl (k 0, ai 16 gb)) :: wr) (fun v ws' => v = none ∧ ws' = ((ag, .inr (4, [.ref a1, .ref a2, .int (iI (cn + 1)), .long (jJ (sm + (ab * (27720 / be))))])) :: (a1, .inl (k 0, ai 16 (zU ga (cn) (ab)))) :: (a2, .inl (k 0, ai 16 (zU gb (cn) (be)))) :: wr)) (fun E ws' => False) 0 0 := by
  refine ex_ofW (cc := b_G_addWedge) (maxL := 3) (ret := none) (hh := []) (by decide +kernel) (Or.inl ⟨g_537, rfl⟩) ?_
  intro p9 e9 s m9 args9 below9 meth9 c9 s9 B9 hml htab hv
  obtain ⟨rfl, h0, hP, hD⟩ := hv
  have hx := B9.exec
  have hb := B9.bytes
  have hr := B9.returns
  have hG := atoms_spec (ws := GW) B9.pre
  have hown : s.vm.findClass "LathePieces$Ring" = some m9.cls := findClass_of_methodNamed B9.named
  have hlocks := B9.notSynchronized
  have hK := cx_K hC h0
  have hS : va_S (aL s0) s.heap s.heap [] := va_S.rf
  have hA : ∀ q : Nat, s.heap.size ≤ q → aL s0 q := fun q h => Nat.le_trans h0.2.1 h
  have hl := lv_entry ([.ref ag, .int (iI (ab)), .int (iI (be))]) (n := 3) (Nat.le_of_ble_eq_true rfl)
  rw [lg_entry_eq]
  generalize (lg_sl ([.ref ag, .int (iI (ab)), .int (iI (be))]) ++ List.replicate (3 - (lg_sl ([.ref ag, .int (iI (ab)), .int (iI (be))])).length) Slot.unset).toArray = ls at hl ⊢
  replace hl : lv_has ls 3 [(0, .ref ag), (1, .int (iI (ab))), (2, .int (iI (be)))] := hl
  refine lv_aload_n hx hb d_G_addWedge_0 rfl (lv_at hl 0 rfl) ?_
  refine va_get (D := D) (ci := 4) (v := .ref a1) (C := R_G) (T := F_G) (N := 4) hx hb hG in_G hown hK hP 0 rfl rfl 0 (by decide) (hG _ g_505) (fun _ h9 => h9) rfl d_G_addWedge_1 ?_
  refine lv_aload_n hx hb d_G_addWedge_4 rfl (lv_at hl 0 rfl) ?_
  refine va_get (D := D) (ci := 4) (v := .int (iI (cn))) (C := R_G) (T := F_G) (N := 4) hx hb hG in_G hown hK hP 0 rfl rfl 2 (by decide) (hG _ g_509) (fun _ h9 => h9) rfl d_G_addWedge_5 ?_
  refine lv_iload_n hx hb d_G_addWedge_8 rfl (lv_at hl 1 rfl) ?_
  refine ra_iast (v := ab) hx hb hK hP hD hS 1 rfl (by omega) (by omega) d_G_addWedge_9 (fun H locs hP hD hS => ?_)
  have hP : va_P D classes ((ag, .inr (4, [.ref a1, .ref a2, .int (iI (cn)), .long (jJ (sm))])) :: (a1, .inl (k 0, ai 16 (zU ga (cn) (ab)))) :: (a2, .inl (k 0, ai 16 gb)) :: wr) H := hP
  have hD : va_D (fun q : Nat => s0.heap.size ≤ q) ((ag, .inr (4, [.ref a1, .ref a2, .int (iI (cn)), .long (jJ (sm))])) :: (a1, .inl (k 0, ai 16 (zU ga (cn) (ab)))) :: (a2, .inl (k 0, ai 16 gb)) :: wr) := hD
  refine lv_aload_n hx hb d_G_addWedge_10 rfl (lv_at hl 0 rfl) ?_
  refine va_get (D := D) (ci := 4) (v := .ref a2) (C := R_G) (T := F_G) (N := 4) hx hb hG in_G hown hK hP 0 rfl rfl 1 (by decide) (hG _ g_507) (fun _ h9 => h9) rfl d_G_addWedge_11 ?_
  refine lv_aload_n hx hb d_G_addWedge_14 rfl (lv_at hl 0 rfl) ?_
  refine va_get (D := D) (ci := 4) (v := .int (iI (cn))) (C := R_G) (T := F_G) (N := 4) hx hb hG in_G hown hK hP 0 rfl rfl 2 (by decide) (hG _ g_509) (fun _ h9 => h9) rfl d_G_addWedge_15 ?_
  refine lv_iload_n hx hb d_G_addWedge_18 rfl (lv_at hl 2 rfl) ?_
  refine ra_iast (v := be) hx hb hK hP hD hS 2 rfl (by omega) (by omega) d_G_addWedge_19 (fun H locs hP hD hS => ?_)
  have hP : va_P D classes ((ag, .inr (4, [.ref a1, .ref a2, .int (iI (cn)), .long (jJ (sm))])) :: (a1, .inl (k 0, ai 16 (zU ga (cn) (ab)))) :: (a2, .inl (k 0, ai 16 (zU gb (cn) (be)))) :: wr) H := hP
  have hD : va_D (fun q : Nat => s0.heap.size ≤ q) ((ag, .inr (4, [.ref a1, .ref a2, .int (iI (cn)), .long (jJ (sm))])) :: (a1, .inl (k 0, ai 16 (zU ga (cn) (ab)))) :: (a2, .inl (k 0, ai 16 (zU gb (cn) (be)))) :: wr) := hD
  refine lv_aload_n hx hb d_G_addWedge_20 rfl (lv_at hl 0 rfl) ?_
  refine lv_dup hx hb d_G_addWedge_21 rfl ?_
  refine va_get (D := D) (ci := 4) (v := .int (iI (cn))) (C := R_G) (T := F_G) (N := 4) hx hb hG in_G hown hK hP 0 rfl rfl 2 (by decide) (hG _ g_509) (fun _ h9 => h9) rfl d_G_addWedge_22 ?_
  refine ri_iconst hx hb d_G_addWedge_25 ?_
  refine ri_iadd hx hb d_G_addWedge_26 ?_
  refine va_put (D := D) (ci := 4) (v := .int (iI (cn + 1))) (ty := .int) (C := R_G) (T := F_G) (N := 4) hx hb hG in_G t_G t_G_ok n_G hown hK hP hD hS 0 rfl rfl 2 (by decide) (hG _ g_509) (fun _ h9 => h9) rfl (by decide +kernel) rfl rfl (Nat.le_of_ble_eq_true rfl) d_G_addWedge_27 (fun H locs hP hD hS => ?_)
  have hP : va_P D classes ((ag, .inr (4, [.ref a1, .ref a2, .int (iI (cn + 1)), .long (jJ (sm))])) :: (a1, .inl (k 0, ai 16 (zU ga (cn) (ab)))) :: (a2, .inl (k 0, ai 16 (zU gb (cn) (be)))) :: wr) H := hP
  have hD : va_D (fun q : Nat => s0.heap.size ≤ q) ((ag, .inr (4, [.ref a1, .ref a2, .int (iI (cn + 1)), .long (jJ (sm))])) :: (a1, .inl (k 0, ai 16 (zU ga (cn) (ab)))) :: (a2, .inl (k 0, ai 16 (zU gb (cn) (be)))) :: wr) := hD
  refine lv_aload_n hx hb d_G_addWedge_30 rfl (lv_at hl 0 rfl) ?_
  refine lv_dup hx hb d_G_addWedge_31 rfl ?_
  refine va_get (D := D) (ci := 4) (v := .long (jJ (sm))) (C := R_G) (T := F_G) (N := 4) hx hb hG in_G hown hK hP 0 rfl rfl 3 (by decide) (hG _ g_511) (fun _ h9 => h9) rfl d_G_addWedge_32 ?_
  refine lv_iload_n hx hb d_G_addWedge_35 rfl (lv_at hl 1 rfl) ?_
  refine ri_i2l hx hb d_G_addWedge_36 (by omega) ?_
  refine ri_sipush hx hb d_G_addWedge_37 (by decide) ?_
  refine lv_iload_n hx hb d_G_addWedge_40 rfl (lv_at hl 2 rfl) ?_
  have q1 : ((27720 : Int).tdiv be) = 27720 / be := Int.tdiv_eq_ediv_of_nonneg (by decide)
  have q2 : 0 ≤ 27720 / be ∧ 27720 / be ≤ 27720 := ⟨Int.ediv_nonneg (by decide) (by omega), Int.ediv_le_self _ (by decide)⟩
  refine ri_idiv hx hb d_G_addWedge_41 (by omega) (by omega) (by omega) ?_
  refine tp_i (congrArg iI (show Int.tdiv (27720) (be) = 27720 / be from q1)) ?_
  refine ri_i2l hx hb d_G_addWedge_42 (by omega) ?_
  refine ri_lmul hx hb d_G_addWedge_43 ?_
  refine ri_ladd hx hb d_G_addWedge_44 ?_
  refine va_put (D := D) (ci := 4) (v := .long (jJ (sm + (ab * (27720 / be))))) (ty := .long) (C := R_G) (T := F_G) (N := 4) hx hb hG in_G t_G t_G_ok n_G hown hK hP hD hS 0 rfl rfl 3 (by decide) (hG _ g_511) (fun _ h9 => h9) rfl (by decide +kernel) rfl rfl (Nat.le_of_ble_eq_true rfl) d_G_addWedge_45 (fun H locs hP hD hS => ?_)
  have hP : va_P D classes ((ag, .inr (4, [.ref a1, .ref a2, .int (iI (cn + 1)), .long (jJ (sm + (ab * (27720 / be))))])) :: (a1, .inl (k 0, ai 16 (zU ga (cn) (ab)))) :: (a2, .inl (k 0, ai 16 (zU gb (cn) (be)))) :: wr) H := hP
  have hD : va_D (fun q : Nat => s0.heap.size ≤ q) ((ag, .inr (4, [.ref a1, .ref a2, .int (iI (cn + 1)), .long (jJ (sm + (ab * (27720 / be))))])) :: (a1, .inl (k 0, ai 16 (zU ga (cn) (ab)))) :: (a2, .inl (k 0, ai 16 (zU gb (cn) (be)))) :: wr) := hD
  exact re_v hx hb hr hlocks (fun t ht hW => ⟨_, ⟨rfl, rfl⟩, wd_next h0 hS hP hD t ht hW⟩) hS.2.2 (Nat.le_of_ble_eq_true rfl) (Nat.le_of_ble_eq_true rfl) d_G_addWedge_48

