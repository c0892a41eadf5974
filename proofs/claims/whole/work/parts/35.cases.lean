/-! The law's cases, one by one. -/
/-- what the script holds at z -/
def sx (xs : Nat → Int32) (z : Int) : Int := (xs z.toNat).toInt
theorem sx_rg (xs : Nat → Int32) (z : Int) : In32 (sx xs z) := ii_rg _
def tj (z : Int) : Int := (jJ z).toInt
theorem tj_rg (z : Int) : In64 (tj z) := ⟨by have := (jJ z).minValue_le_toInt; simpa [tj] using this, by have := (jJ z).toInt_lt; unfold tj; omega⟩
theorem tj_jj (z : Int) : jJ (tj z) = jJ z := (jj_of _).symm
theorem pm_law (X : va_W) (x : Nat × va_E) (Y : va_W) : (X ++ x :: Y).Perm (Y ++ x :: X) :=
  (List.perm_append_comm (l₁ := X) (l₂ := x :: Y)).trans (List.perm_middle (a := x) (l₁ := Y) (l₂ := X)).symm
theorem pm_lf (X : va_W) (x : Nat × va_E) (Y : va_W) : (X ++ x :: Y).Perm (x :: (X ++ Y)) := List.perm_middle
theorem pm_lb (X : va_W) (x : Nat × va_E) (Y : va_W) : (x :: (X ++ Y)).Perm (Y ++ x :: X) := (pm_lf X x Y).symm.trans (pm_law X x Y)
section LawScript
variable {p : Program} {l : Launch} {e : Env} {R : Room} {s : State} {m : MethodId} {args : Array Value} {below : List Frame} {meth : Method} {c : Code} {H : Heap} {locs : List Loc} {cells slots : Nat} {Q : State → Prop}
variable {cc : ByteArray} {pc : Nat} {ls : Array Slot} {rest : List Value} {b L : Nat} {xs : Nat → Int32}
theorem sc_ld (hx : p.tables.exec = Jvm.exec) (hb : c.code = cc) (hX : va_X b L xs s s.heap) (hbl : b < s.heap.size) (hS : va_S (aL s) s.heap H locs) {z : Int} (hz : 0 ≤ z ∧ z < L) (hL : L ≤ 3072) (hdg : decode cc pc = .ok (.iaload, 1))
    (kk : W p l e R s m args below meth c H locs cells slots Q (F0 m (pc + 1) ls (.int (iI (sx xs z)) :: rest))) : W p l e R s m args below meth c H locs cells slots Q (F0 m pc ls (.int (iI z) :: .ref b :: rest)) := by
  refine va_sld hx hb hX hbl (show ¬ aL s b from Nat.not_le.mpr hbl) hS (ii_in hz (by omega)) hdg ?_
  refine tp_i (y := iI (sx xs z)) ?_ kk
  rw [ii_cl ⟨hz.1, by omega⟩]
  exact ii_of _
theorem sc_len (hx : p.tables.exec = Jvm.exec) (hb : c.code = cc) (hX : va_X b L xs s s.heap) (hbl : b < s.heap.size) (hS : va_S (aL s) s.heap H locs) (hdg : decode cc pc = .ok (.arraylength, 1))
    (kk : W p l e R s m args below meth c H locs cells slots Q (F0 m (pc + 1) ls (.int (iI (L : Int)) :: rest))) : W p l e R s m args below meth c H locs cells slots Q (F0 m pc ls (.ref b :: rest)) := by
  refine va_slen hx hb hX hbl (show ¬ aL s b from Nat.not_le.mpr hbl) hS hdg ?_
  exact tp_i (y := iI (L : Int)) (ii_nI L) kk
theorem lc_same {z : Int} {off : Int} {tgt : Nat} (hx : p.tables.exec = Jvm.exec) (hb : c.code = cc) (hd0 : decode cc pc = .ok (.lcmp, 1)) (hdg : decode cc (pc + 1) = .ok (.ifCond .eq off, 3)) (ht : ((pc + 1 : Nat) : Int) + off = (tgt : Int))
    (kk : W p l e R s m args below meth c H locs cells slots Q (F0 m tgt ls rest)) : W p l e R s m args below meth c H locs cells slots Q (F0 m pc ls (.long (jJ z) :: .long (jJ z) :: rest)) := by
  rw [← tj_jj z]
  exact ri_lc_eq hx hb hd0 hdg ht (tj_rg z) (tj_rg z) (fun _ => kk) (fun q => absurd rfl q)
end LawScript
/-- what holds in the law's loop, whatever its turn -/
def LwC (p : Program) (l : Launch) (s : State) (m : MethodId) (c : Code) (b L : Nat) (xs : Nat → Int32) (D : va_G) (k : Nat → ClassId) : Prop :=
  p.tables.exec = Jvm.exec ∧ c.code = b_L_law ∧ c.maxLocals = 8 ∧ s.vm.findClass "LathePiecesLaw" = some m.cls ∧ (∀ w ∈ GW, w.before #[Value.ref b] s = true) ∧ va_X b L xs s s.heap ∧ b < s.heap.size ∧ L ≤ 3072 ∧ Cx l s D k
/-- the law goes on behind a case -/
def LwK (p : Program) (l : Launch) (e : Env) (s : State) (m : MethodId) (below : List Frame) (meth : Method) (c : Code) (b : Nat) (D : va_G) (k : Nat → ClassId) (cx : Nat) (A : Nat → Nat) (ao : Nat) (i : Int) (cells slots : Nat) (Q : State → Prop) : Prop :=
  ∀ (v : Nat → Int) (f : Nat → Int → Int) (wc : va_W) (o : Int → Int) (H : Heap) (locs : List Loc) (ls : Array Slot), Cst k cx v f wc → Iv v f → va_P D classes (wc ++ ((ao, .inl (k 1, al 1 o)) :: mWd k A v f)) H → va_D (aL s) (wc ++ ((ao, .inl (k 1, al 1 o)) :: mWd k A v f)) → va_S (aL s) s.heap H locs →
    lv_has ls 8 [(0, .ref b), (1, .ref cx), (2, .ref (A 26)), (3, .ref ao), (4, .int (iI i))] → W p l e room_1 s m #[Value.ref b] below meth c H locs cells slots Q (F0 m 1941 ls [])
set_option maxHeartbeats 4000000 in
set_option maxRecDepth 100000 in
theorem t_start {p9 : Program} {l : Launch} {e9 : Env} {s : State} {m9 : MethodId} {below9 : List Frame} {meth9 : Method} {c9 : Code} {Q9 : State → Prop} {b L : Nat} {xs : Nat → Int32} {D : va_G} {k : Nat → ClassId} (C0 : LwC p9 l s m9 c9 b L xs D k) {cx : Nat} {A : Nat → Nat} {ao : Nat} {i : Int} {cells slots : Nat} (hi : 0 ≤ i ∧ i + 5 < L) (hc : cells + 9 ≤ 601024) (hs : slots + 167 ≤ 7293034) (kk : LwK p9 l e9 s m9 below9 meth9 c9 b D k cx A ao i (cells + 9) (slots + 167) Q9) {v : Nat → Int} {f : Nat → Int → Int} {wc : va_W} {o9 : Int → Int} {H : Heap} {locs : List Loc} {ls : Array Slot} (hI : Iv v f) (hW : Cst k cx v f wc) (hP : va_P D classes (wc ++ ((ao, .inl (k 1, al 1 o9)) :: mWd k A v f)) H) (hD : va_D (aL s) (wc ++ ((ao, .inl (k 1, al 1 o9)) :: mWd k A v f))) (hS : va_S (aL s) s.heap H locs) (hl : lv_has ls 8 [(0, .ref b), (1, .ref cx), (2, .ref (A 26)), (3, .ref ao), (4, .int (iI (i)))]) : W p9 l e9 room_1 s m9 #[Value.ref b] below9 meth9 c9 H locs cells slots Q9 (F0 m9 156 ls []) := by
  obtain ⟨hx, hb, hml, hown, hG, hX, hbl, hL3, hC⟩ := id C0
  have h0 : La s s := ⟨State.WarmedH.refl s, Nat.le_refl _, fun _ _ => rfl⟩
  have hK := cx_K hC h0
  refine lv_aload_n hx hb d_L_law_156 rfl (lv_at hl 1 rfl) ?_
  refine lv_aload_n hx hb d_L_law_157 rfl (lv_at hl 0 rfl) ?_
  refine lv_iload hx hb d_L_law_158 (lv_at hl 4 rfl) ?_
  refine ri_iconst hx hb d_L_law_160 ?_
  refine ri_iadd hx hb d_L_law_161 ?_
  refine sc_ld hx hb hX hbl hS (by omega) hL3 d_L_law_162 ?_
  refine wd_callC h0 hS (ex_runS (As := [.ref cx, .int (iI (sx xs (i + 1)))]) (rest := []) ⟨hx, hb, hml, hown, hG⟩ (w_start hC hI hW ((ao, .inl (k 1, al 1 o9)) :: mWd k A v f) (sx xs (i + 1)) (sx_rg _ _)) (cb_with (n := 2) hG g_104 g_0 g_102 rfl rfl (by decide +kernel) ⟨Nat.le_of_ble_eq_true rfl, Nat.le_of_ble_eq_true rfl⟩) (hG _ g_103) (kd_preW h0 hS hP hD) rfl rfl hl.1 rfl (lv_room (Nat.le_of_ble_eq_true rfl)) d_L_law_163 ⟨(show cells + 1 ≤ 601024 by omega), (show slots + 6 ≤ 7293034 by omega)⟩) (fun E ws9 hE H locs hP hD hS q T0 hT0 hq => False.elim hE) (fun v9 ws9 h9 H locs hP hD hS => ?_)
  obtain ⟨wc', kz, rfl, rfl, h9⟩ := h9
  rcases h9 with ⟨rfl, hq0, hW2, hI2⟩ | ⟨rfl, hq0, hW2⟩
  · show W _ _ _ _ _ _ _ _ _ _ _ _ _ _ _ (F0 m9 166 ls [.int (iI (0))])
    refine lv_istore (lv' := [(5, .int (iI (0))), (0, .ref b), (1, .ref cx), (2, .ref (A 26)), (3, .ref ao), (4, .int (iI (i)))]) hx hb d_L_law_166 hl (by decide) rfl (fun ls hl => ?_)
    refine lv_aload_n hx hb d_L_law_168 rfl (lv_at hl 3 rfl) ?_
    refine lv_aload_n hx hb d_L_law_169 rfl (lv_at hl 1 rfl) ?_
    refine lv_iload hx hb d_L_law_170 (lv_at hl 5 rfl) ?_
    refine ri_iconst hx hb d_L_law_172 ?_
    refine ri_iadd hx hb d_L_law_173 ?_
    refine sc_ld hx hb hX hbl hS (by omega) hL3 d_L_law_174 ?_
    replace hP := wl_Pp hP (pm_law wc' (ao, .inl (k 1, al 1 o9)) (mWd k A v f))
    replace hD := wl_Dp hD (pm_law wc' (ao, .inl (k 1, al 1 o9)) (mWd k A v f))
    refine wd_callC h0 hS (ex_runV (C := "LathePiecesModel") (As := [.int (iI (sx xs (i + 1)))]) (rest := []) ⟨hx, hb, hml, hown, hG⟩ (q_start hC A hI ((ao, .inl (k 1, al 1 o9)) :: wc') (sx xs (i + 1)) (sx_rg _ _)) (cb_code (n := 1) hG g_713 g_3 g_710 rfl rfl (by decide +kernel) ⟨Nat.le_of_ble_eq_true rfl, Nat.le_of_ble_eq_true rfl⟩) (hG _ g_711) (hG _ g_712) (kd_V (kd_preW h0 hS hP hD) (kd_recv hK hP (q0 := 0) (ci := 6) rfl rfl rfl)) rfl rfl hl.1 rfl (lv_room (Nat.le_of_ble_eq_true rfl)) d_L_law_175 ⟨(show cells + 1 + 0 ≤ 601024 by omega), (show slots + 6 + 0 ≤ 7293034 by omega)⟩) (fun E ws9 hE H locs hP hD hS q T0 hT0 hq => False.elim hE) (fun v9 ws9 h9 H locs hP hD hS => ?_)
    obtain ⟨rfl, rfl⟩ := h9.2 hq0
    show W _ _ _ _ _ _ _ _ _ _ _ _ _ _ _ (F0 m9 178 ls [])
    refine lv_aload_n hx hb d_L_law_178 rfl (lv_at hl 3 rfl) ?_
    refine rd_call (ex_runV (C := "LathePiecesModel") (As := []) (rest := []) ⟨hx, hb, hml, hown, hG⟩ (q_thrown hC A (vS (vS (vS (vS v 0 0) 1 1) 2 (sx xs (i + 1))) 3 0) f ((ao, .inl (k 1, al 1 o9)) :: wc')) (cb_code (n := 0) hG g_709 g_3 g_706 rfl rfl (by decide +kernel) ⟨Nat.le_of_ble_eq_true rfl, Nat.le_of_ble_eq_true rfl⟩) (hG _ g_707) (hG _ g_708) (kd_V (kd_pre h0 hS hP) (kd_recv hK hP (q0 := 0) (ci := 6) rfl rfl rfl)) rfl rfl hl.1 rfl (lv_room (Nat.le_of_ble_eq_true rfl)) d_L_law_179 ⟨(show cells + 1 + 0 + 0 ≤ 601024 by omega), (show slots + 6 + 0 + 0 ≤ 7293034 by omega)⟩) (fun v9 h9 => ?_)
    subst h9
    show W _ _ _ _ _ _ _ _ _ _ _ _ _ _ _ (F0 m9 182 ls [.int (iI (0))])
    refine lv_iload hx hb d_L_law_182 (lv_at hl 0 rfl) ?_
    refine ri_icmp_eq (tgt := 189) hx hb d_L_law_184 (by decide) (by decide) (by decide) (fun _ => ?_) (fun c184 => absurd rfl c184)
    refine lv_goto (tgt := 1941) hx hb d_L_law_189 (by decide) ?_
    replace hP := wl_Pp hP (pm_law (mWd k A (vS (vS (vS (vS v 0 0) 1 1) 2 (sx xs (i + 1))) 3 0) f) (ao, .inl (k 1, al 1 o9)) wc')
    replace hD := wl_Dp hD (pm_law (mWd k A (vS (vS (vS (vS v 0 0) 1 1) 2 (sx xs (i + 1))) 3 0) f) (ao, .inl (k 1, al 1 o9)) wc')
    refine W.widen (k := cells + 9) (n := slots + 167) (by omega) (by omega) ?_
    exact kk (vS (vS (vS (vS v 0 0) 1 1) 2 (sx xs (i + 1))) 3 0) f wc' o9 H locs ls hW2 hI2 hP hD hS (lv_sub hl [1, 2, 3, 4, 5] rfl)
  · show W _ _ _ _ _ _ _ _ _ _ _ _ _ _ _ (F0 m9 166 ls [.int (iI (1))])
    refine lv_istore (lv' := [(5, .int (iI (1))), (0, .ref b), (1, .ref cx), (2, .ref (A 26)), (3, .ref ao), (4, .int (iI (i)))]) hx hb d_L_law_166 hl (by decide) rfl (fun ls hl => ?_)
    refine lv_aload_n hx hb d_L_law_168 rfl (lv_at hl 3 rfl) ?_
    refine lv_aload_n hx hb d_L_law_169 rfl (lv_at hl 1 rfl) ?_
    refine lv_iload hx hb d_L_law_170 (lv_at hl 5 rfl) ?_
    refine ri_iconst hx hb d_L_law_172 ?_
    refine ri_iadd hx hb d_L_law_173 ?_
    refine sc_ld hx hb hX hbl hS (by omega) hL3 d_L_law_174 ?_
    replace hP := wl_Pp hP (pm_law wc' (ao, .inl (k 1, al 1 o9)) (mWd k A v f))
    replace hD := wl_Dp hD (pm_law wc' (ao, .inl (k 1, al 1 o9)) (mWd k A v f))
    refine wd_callC h0 hS (ex_runV (C := "LathePiecesModel") (As := [.int (iI (sx xs (i + 1)))]) (rest := []) ⟨hx, hb, hml, hown, hG⟩ (q_start hC A hI ((ao, .inl (k 1, al 1 o9)) :: wc') (sx xs (i + 1)) (sx_rg _ _)) (cb_code (n := 1) hG g_713 g_3 g_710 rfl rfl (by decide +kernel) ⟨Nat.le_of_ble_eq_true rfl, Nat.le_of_ble_eq_true rfl⟩) (hG _ g_711) (hG _ g_712) (kd_V (kd_preW h0 hS hP hD) (kd_recv hK hP (q0 := 0) (ci := 6) rfl rfl rfl)) rfl rfl hl.1 rfl (lv_room (Nat.le_of_ble_eq_true rfl)) d_L_law_175 ⟨(show cells + 1 + 0 ≤ 601024 by omega), (show slots + 6 + 0 ≤ 7293034 by omega)⟩) (fun E ws9 hE H locs hP hD hS q T0 hT0 hq => False.elim hE) (fun v9 ws9 h9 H locs hP hD hS => ?_)
    obtain ⟨rfl, rfl⟩ := h9.1 hq0
    show W _ _ _ _ _ _ _ _ _ _ _ _ _ _ _ (F0 m9 178 ls [])
    refine lv_aload_n hx hb d_L_law_178 rfl (lv_at hl 3 rfl) ?_
    refine rd_call (ex_runV (C := "LathePiecesModel") (As := []) (rest := []) ⟨hx, hb, hml, hown, hG⟩ (q_thrown hC A (vS v 0 1) f ((ao, .inl (k 1, al 1 o9)) :: wc')) (cb_code (n := 0) hG g_709 g_3 g_706 rfl rfl (by decide +kernel) ⟨Nat.le_of_ble_eq_true rfl, Nat.le_of_ble_eq_true rfl⟩) (hG _ g_707) (hG _ g_708) (kd_V (kd_pre h0 hS hP) (kd_recv hK hP (q0 := 0) (ci := 6) rfl rfl rfl)) rfl rfl hl.1 rfl (lv_room (Nat.le_of_ble_eq_true rfl)) d_L_law_179 ⟨(show cells + 1 + 0 + 0 ≤ 601024 by omega), (show slots + 6 + 0 + 0 ≤ 7293034 by omega)⟩) (fun v9 h9 => ?_)
    subst h9
    show W _ _ _ _ _ _ _ _ _ _ _ _ _ _ _ (F0 m9 182 ls [.int (iI (1))])
    refine lv_iload hx hb d_L_law_182 (lv_at hl 0 rfl) ?_
    refine ri_icmp_eq (tgt := 189) hx hb d_L_law_184 (by decide) (by decide) (by decide) (fun _ => ?_) (fun c184 => absurd rfl c184)
    refine lv_goto (tgt := 1941) hx hb d_L_law_189 (by decide) ?_
    replace hP := wl_Pp hP (pm_law (mWd k A (vS v 0 1) f) (ao, .inl (k 1, al 1 o9)) wc')
    replace hD := wl_Dp hD (pm_law (mWd k A (vS v 0 1) f) (ao, .inl (k 1, al 1 o9)) wc')
    refine W.widen (k := cells + 9) (n := slots + 167) (by omega) (by omega) ?_
    exact kk (vS v 0 1) f wc' o9 H locs ls (Cst.code hW2 1) (Iv.code hI 1) hP hD hS (lv_sub hl [1, 2, 3, 4, 5] rfl)
set_option maxHeartbeats 4000000 in
set_option maxRecDepth 100000 in
theorem t_line {p9 : Program} {l : Launch} {e9 : Env} {s : State} {m9 : MethodId} {below9 : List Frame} {meth9 : Method} {c9 : Code} {Q9 : State → Prop} {b L : Nat} {xs : Nat → Int32} {D : va_G} {k : Nat → ClassId} (C0 : LwC p9 l s m9 c9 b L xs D k) {cx : Nat} {A : Nat → Nat} {ao : Nat} {i : Int} {cells slots : Nat} (hi : 0 ≤ i ∧ i + 5 < L) (hc : cells + 9 ≤ 601024) (hs : slots + 167 ≤ 7293034) (kk : LwK p9 l e9 s m9 below9 meth9 c9 b D k cx A ao i (cells + 9) (slots + 167) Q9) {v : Nat → Int} {f : Nat → Int → Int} {wc : va_W} {o9 : Int → Int} {H : Heap} {locs : List Loc} {ls : Array Slot} (hI : Iv v f) (hW : Cst k cx v f wc) (hP : va_P D classes (wc ++ ((ao, .inl (k 1, al 1 o9)) :: mWd k A v f)) H) (hD : va_D (aL s) (wc ++ ((ao, .inl (k 1, al 1 o9)) :: mWd k A v f))) (hS : va_S (aL s) s.heap H locs) (hl : lv_has ls 8 [(0, .ref b), (1, .ref cx), (2, .ref (A 26)), (3, .ref ao), (4, .int (iI (i)))]) : W p9 l e9 room_1 s m9 #[Value.ref b] below9 meth9 c9 H locs cells slots Q9 (F0 m9 192 ls []) := by
  obtain ⟨hx, hb, hml, hown, hG, hX, hbl, hL3, hC⟩ := id C0
  have h0 : La s s := ⟨State.WarmedH.refl s, Nat.le_refl _, fun _ _ => rfl⟩
  have hK := cx_K hC h0
  refine lv_aload_n hx hb d_L_law_192 rfl (lv_at hl 1 rfl) ?_
  refine lv_aload_n hx hb d_L_law_193 rfl (lv_at hl 0 rfl) ?_
  refine lv_iload hx hb d_L_law_194 (lv_at hl 4 rfl) ?_
  refine ri_iconst hx hb d_L_law_196 ?_
  refine ri_iadd hx hb d_L_law_197 ?_
  refine sc_ld hx hb hX hbl hS (by omega) hL3 d_L_law_198 ?_
  refine lv_aload_n hx hb d_L_law_199 rfl (lv_at hl 0 rfl) ?_
  refine lv_iload hx hb d_L_law_200 (lv_at hl 4 rfl) ?_
  refine ri_iconst hx hb d_L_law_202 ?_
  refine ri_iadd hx hb d_L_law_203 ?_
  refine sc_ld hx hb hX hbl hS (by omega) hL3 d_L_law_204 ?_
  refine lv_aload_n hx hb d_L_law_205 rfl (lv_at hl 3 rfl) ?_
  refine wd_callC h0 hS (ex_runS (As := [.ref cx, .int (iI (sx xs (i + 1))), .int (iI (sx xs (i + 2))), .ref ao]) (rest := []) ⟨hx, hb, hml, hown, hG⟩ (w_line hC hI hW (mWd k A v f) ao o9 (sx xs (i + 1)) (sx xs (i + 2)) (sx_rg _ _) (sx_rg _ _)) (cb_with (n := 4) hG g_187 g_0 g_185 rfl rfl (by decide +kernel) ⟨Nat.le_of_ble_eq_true rfl, Nat.le_of_ble_eq_true rfl⟩) (hG _ g_186) (kd_preW h0 hS hP hD) rfl rfl hl.1 rfl (lv_room (Nat.le_of_ble_eq_true rfl)) d_L_law_206 ⟨(show cells + 3 ≤ 601024 by omega), (show slots + 18 ≤ 7293034 by omega)⟩) (fun E ws9 hE H locs hP hD hS q T0 hT0 hq => False.elim hE) (fun v9 ws9 h9 H locs hP hD hS => ?_)
  obtain ⟨wc', o', kz, rfl, rfl, h9⟩ := h9
  rcases h9 with ⟨rfl, hq0, ho, hW2, hI2⟩ | ⟨rfl, hq0, hW2⟩ | ⟨rfl, hq0, hW2⟩
  · show W _ _ _ _ _ _ _ _ _ _ _ _ _ _ _ (F0 m9 209 ls [.int (iI (0))])
    refine lv_istore (lv' := [(5, .int (iI (0))), (0, .ref b), (1, .ref cx), (2, .ref (A 26)), (3, .ref ao), (4, .int (iI (i)))]) hx hb d_L_law_209 hl (by decide) rfl (fun ls hl => ?_)
    refine lv_aload_n hx hb d_L_law_211 rfl (lv_at hl 3 rfl) ?_
    refine lv_aload_n hx hb d_L_law_212 rfl (lv_at hl 1 rfl) ?_
    refine lv_iload hx hb d_L_law_213 (lv_at hl 5 rfl) ?_
    refine ri_iconst hx hb d_L_law_215 ?_
    refine ri_iadd hx hb d_L_law_216 ?_
    refine sc_ld hx hb hX hbl hS (by omega) hL3 d_L_law_217 ?_
    refine lv_aload_n hx hb d_L_law_218 rfl (lv_at hl 1 rfl) ?_
    refine lv_iload hx hb d_L_law_219 (lv_at hl 5 rfl) ?_
    refine ri_iconst hx hb d_L_law_221 ?_
    refine ri_iadd hx hb d_L_law_222 ?_
    refine sc_ld hx hb hX hbl hS (by omega) hL3 d_L_law_223 ?_
    replace hP := wl_Pp hP (pm_law wc' (ao, .inl (k 1, al 1 o')) (mWd k A v f))
    replace hD := wl_Dp hD (pm_law wc' (ao, .inl (k 1, al 1 o')) (mWd k A v f))
    refine wd_callC h0 hS (ex_runV (C := "LathePiecesModel") (As := [.int (iI (sx xs (i + 1))), .int (iI (sx xs (i + 2)))]) (rest := []) ⟨hx, hb, hml, hown, hG⟩ (q_line hC A hI ((ao, .inl (k 1, al 1 o')) :: wc') (sx xs (i + 1)) (sx xs (i + 2)) (sx_rg _ _) (sx_rg _ _)) (cb_code (n := 2) hG g_721 g_3 g_718 rfl rfl (by decide +kernel) ⟨Nat.le_of_ble_eq_true rfl, Nat.le_of_ble_eq_true rfl⟩) (hG _ g_719) (hG _ g_720) (kd_V (kd_preW h0 hS hP hD) (kd_recv hK hP (q0 := 0) (ci := 6) rfl rfl rfl)) rfl rfl hl.1 rfl (lv_room (Nat.le_of_ble_eq_true rfl)) d_L_law_224 ⟨(show cells + 3 + 0 ≤ 601024 by omega), (show slots + 18 + 0 ≤ 7293034 by omega)⟩) (fun E ws9 hE H locs hP hD hS q T0 hT0 hq => False.elim hE) (fun v9 ws9 h9 H locs hP hD hS => ?_)
    obtain ⟨rfl, rfl⟩ := h9.2.2 hq0
    show W _ _ _ _ _ _ _ _ _ _ _ _ _ _ _ (F0 m9 227 ls [.int (iI ((v 3) + 1))])
    refine lv_istore (lv' := [(6, .int (iI ((v 3) + 1))), (5, .int (iI (0))), (0, .ref b), (1, .ref cx), (2, .ref (A 26)), (3, .ref ao), (4, .int (iI (i)))]) hx hb d_L_law_227 hl (by decide) rfl (fun ls hl => ?_)
    refine lv_aload_n hx hb d_L_law_229 rfl (lv_at hl 4 rfl) ?_
    refine rd_call (ex_runV (C := "LathePiecesModel") (As := []) (rest := []) ⟨hx, hb, hml, hown, hG⟩ (q_thrown hC A (vS (vS v 0 0) 3 (v 3 + 1)) (fS (fS (fS (fS (fS f 4 (zU (f 4) (v 3) (sx xs (i + 1)))) 5 (zU (f 5) (v 3) (sx xs (i + 2)))) 6 (zU (f 6) (v 3) 0)) 7 (zU (f 7) (v 3) 0)) 8 (zU (f 8) (v 3) 0)) ((ao, .inl (k 1, al 1 o')) :: wc')) (cb_code (n := 0) hG g_709 g_3 g_706 rfl rfl (by decide +kernel) ⟨Nat.le_of_ble_eq_true rfl, Nat.le_of_ble_eq_true rfl⟩) (hG _ g_707) (hG _ g_708) (kd_V (kd_pre h0 hS hP) (kd_recv hK hP (q0 := 0) (ci := 6) rfl rfl rfl)) rfl rfl hl.1 rfl (lv_room (Nat.le_of_ble_eq_true rfl)) d_L_law_230 ⟨(show cells + 3 + 0 + 0 ≤ 601024 by omega), (show slots + 18 + 0 + 0 ≤ 7293034 by omega)⟩) (fun v9 h9 => ?_)
    subst h9
    show W _ _ _ _ _ _ _ _ _ _ _ _ _ _ _ (F0 m9 233 ls [.int (iI (0))])
    refine lv_iload hx hb d_L_law_233 (lv_at hl 1 rfl) ?_
    refine ri_icmp_eq (tgt := 240) hx hb d_L_law_235 (by decide) (by decide) (by decide) (fun _ => ?_) (fun c235 => absurd rfl c235)
    refine lv_iload hx hb d_L_law_240 (lv_at hl 1 rfl) ?_
    refine ri_if_ne (tgt := 257) hx hb d_L_law_242 (by decide) (by decide) (fun c242 => absurd rfl c242) (fun _ => ?_)
    refine lv_aload_n hx hb d_L_law_245 rfl (lv_at hl 5 rfl) ?_
    refine ri_iconst hx hb d_L_law_246 ?_
    replace hP := wl_Pp hP (pm_lf (mWd k A (vS (vS v 0 0) 3 (v 3 + 1)) (fS (fS (fS (fS (fS f 4 (zU (f 4) (v 3) (sx xs (i + 1)))) 5 (zU (f 5) (v 3) (sx xs (i + 2)))) 6 (zU (f 6) (v 3) 0)) 7 (zU (f 7) (v 3) 0)) 8 (zU (f 8) (v 3) 0))) (ao, .inl (k 1, al 1 o')) wc')
    replace hD := wl_Dp hD (pm_lf (mWd k A (vS (vS v 0 0) 3 (v 3 + 1)) (fS (fS (fS (fS (fS f 4 (zU (f 4) (v 3) (sx xs (i + 1)))) 5 (zU (f 5) (v 3) (sx xs (i + 2)))) 6 (zU (f 6) (v 3) 0)) 7 (zU (f 7) (v 3) 0)) 8 (zU (f 8) (v 3) 0))) (ao, .inl (k 1, al 1 o')) wc')
    refine ra_lald hx hb hK hP 0 rfl (by omega) (by omega) d_L_law_247 ?_
    refine tp_l (y := jJ (tw ((v 3) + 1))) (congrArg jJ ho) ?_
    refine lv_iload hx hb d_L_law_248 (lv_at hl 0 rfl) ?_
    refine ri_i2lw hx hb d_L_law_250 ?_
    refine lc_same (tgt := 257) hx hb d_L_law_251 d_L_law_252 (by decide) ?_
    refine lv_goto (tgt := 1941) hx hb d_L_law_257 (by decide) ?_
    replace hP := wl_Pp hP (pm_lb (mWd k A (vS (vS v 0 0) 3 (v 3 + 1)) (fS (fS (fS (fS (fS f 4 (zU (f 4) (v 3) (sx xs (i + 1)))) 5 (zU (f 5) (v 3) (sx xs (i + 2)))) 6 (zU (f 6) (v 3) 0)) 7 (zU (f 7) (v 3) 0)) 8 (zU (f 8) (v 3) 0))) (ao, .inl (k 1, al 1 o')) wc')
    replace hD := wl_Dp hD (pm_lb (mWd k A (vS (vS v 0 0) 3 (v 3 + 1)) (fS (fS (fS (fS (fS f 4 (zU (f 4) (v 3) (sx xs (i + 1)))) 5 (zU (f 5) (v 3) (sx xs (i + 2)))) 6 (zU (f 6) (v 3) 0)) 7 (zU (f 7) (v 3) 0)) 8 (zU (f 8) (v 3) 0))) (ao, .inl (k 1, al 1 o')) wc')
    refine W.widen (k := cells + 9) (n := slots + 167) (by omega) (by omega) ?_
    exact kk (vS (vS v 0 0) 3 (v 3 + 1)) (fS (fS (fS (fS (fS f 4 (zU (f 4) (v 3) (sx xs (i + 1)))) 5 (zU (f 5) (v 3) (sx xs (i + 2)))) 6 (zU (f 6) (v 3) 0)) 7 (zU (f 7) (v 3) 0)) 8 (zU (f 8) (v 3) 0)) wc' o' H locs ls hW2 hI2 hP hD hS (lv_sub hl [2, 3, 4, 5, 6] rfl)
  · show W _ _ _ _ _ _ _ _ _ _ _ _ _ _ _ (F0 m9 209 ls [.int (iI (1))])
    refine lv_istore (lv' := [(5, .int (iI (1))), (0, .ref b), (1, .ref cx), (2, .ref (A 26)), (3, .ref ao), (4, .int (iI (i)))]) hx hb d_L_law_209 hl (by decide) rfl (fun ls hl => ?_)
    refine lv_aload_n hx hb d_L_law_211 rfl (lv_at hl 3 rfl) ?_
    refine lv_aload_n hx hb d_L_law_212 rfl (lv_at hl 1 rfl) ?_
    refine lv_iload hx hb d_L_law_213 (lv_at hl 5 rfl) ?_
    refine ri_iconst hx hb d_L_law_215 ?_
    refine ri_iadd hx hb d_L_law_216 ?_
    refine sc_ld hx hb hX hbl hS (by omega) hL3 d_L_law_217 ?_
    refine lv_aload_n hx hb d_L_law_218 rfl (lv_at hl 1 rfl) ?_
    refine lv_iload hx hb d_L_law_219 (lv_at hl 5 rfl) ?_
    refine ri_iconst hx hb d_L_law_221 ?_
    refine ri_iadd hx hb d_L_law_222 ?_
    refine sc_ld hx hb hX hbl hS (by omega) hL3 d_L_law_223 ?_
    replace hP := wl_Pp hP (pm_law wc' (ao, .inl (k 1, al 1 o')) (mWd k A v f))
    replace hD := wl_Dp hD (pm_law wc' (ao, .inl (k 1, al 1 o')) (mWd k A v f))
    refine wd_callC h0 hS (ex_runV (C := "LathePiecesModel") (As := [.int (iI (sx xs (i + 1))), .int (iI (sx xs (i + 2)))]) (rest := []) ⟨hx, hb, hml, hown, hG⟩ (q_line hC A hI ((ao, .inl (k 1, al 1 o')) :: wc') (sx xs (i + 1)) (sx xs (i + 2)) (sx_rg _ _) (sx_rg _ _)) (cb_code (n := 2) hG g_721 g_3 g_718 rfl rfl (by decide +kernel) ⟨Nat.le_of_ble_eq_true rfl, Nat.le_of_ble_eq_true rfl⟩) (hG _ g_719) (hG _ g_720) (kd_V (kd_preW h0 hS hP hD) (kd_recv hK hP (q0 := 0) (ci := 6) rfl rfl rfl)) rfl rfl hl.1 rfl (lv_room (Nat.le_of_ble_eq_true rfl)) d_L_law_224 ⟨(show cells + 3 + 0 ≤ 601024 by omega), (show slots + 18 + 0 ≤ 7293034 by omega)⟩) (fun E ws9 hE H locs hP hD hS q T0 hT0 hq => False.elim hE) (fun v9 ws9 h9 H locs hP hD hS => ?_)
    obtain ⟨rfl, rfl⟩ := h9.1 hq0
    show W _ _ _ _ _ _ _ _ _ _ _ _ _ _ _ (F0 m9 227 ls [.int (iI (0))])
    refine lv_istore (lv' := [(6, .int (iI (0))), (5, .int (iI (1))), (0, .ref b), (1, .ref cx), (2, .ref (A 26)), (3, .ref ao), (4, .int (iI (i)))]) hx hb d_L_law_227 hl (by decide) rfl (fun ls hl => ?_)
    refine lv_aload_n hx hb d_L_law_229 rfl (lv_at hl 4 rfl) ?_
    refine rd_call (ex_runV (C := "LathePiecesModel") (As := []) (rest := []) ⟨hx, hb, hml, hown, hG⟩ (q_thrown hC A (vS v 0 1) f ((ao, .inl (k 1, al 1 o')) :: wc')) (cb_code (n := 0) hG g_709 g_3 g_706 rfl rfl (by decide +kernel) ⟨Nat.le_of_ble_eq_true rfl, Nat.le_of_ble_eq_true rfl⟩) (hG _ g_707) (hG _ g_708) (kd_V (kd_pre h0 hS hP) (kd_recv hK hP (q0 := 0) (ci := 6) rfl rfl rfl)) rfl rfl hl.1 rfl (lv_room (Nat.le_of_ble_eq_true rfl)) d_L_law_230 ⟨(show cells + 3 + 0 + 0 ≤ 601024 by omega), (show slots + 18 + 0 + 0 ≤ 7293034 by omega)⟩) (fun v9 h9 => ?_)
    subst h9
    show W _ _ _ _ _ _ _ _ _ _ _ _ _ _ _ (F0 m9 233 ls [.int (iI (1))])
    refine lv_iload hx hb d_L_law_233 (lv_at hl 1 rfl) ?_
    refine ri_icmp_eq (tgt := 240) hx hb d_L_law_235 (by decide) (by decide) (by decide) (fun _ => ?_) (fun c235 => absurd rfl c235)
    refine lv_iload hx hb d_L_law_240 (lv_at hl 1 rfl) ?_
    refine ri_if_ne (tgt := 257) hx hb d_L_law_242 (by decide) (by decide) (fun _ => ?_) (fun c242 => absurd c242 (by decide))
    refine lv_goto (tgt := 1941) hx hb d_L_law_257 (by decide) ?_
    replace hP := wl_Pp hP (pm_law (mWd k A (vS v 0 1) f) (ao, .inl (k 1, al 1 o')) wc')
    replace hD := wl_Dp hD (pm_law (mWd k A (vS v 0 1) f) (ao, .inl (k 1, al 1 o')) wc')
    refine W.widen (k := cells + 9) (n := slots + 167) (by omega) (by omega) ?_
    exact kk (vS v 0 1) f wc' o' H locs ls (Cst.code hW2 1) (Iv.code hI 1) hP hD hS (lv_sub hl [2, 3, 4, 5, 6] rfl)
  · show W _ _ _ _ _ _ _ _ _ _ _ _ _ _ _ (F0 m9 209 ls [.int (iI (2))])
    refine lv_istore (lv' := [(5, .int (iI (2))), (0, .ref b), (1, .ref cx), (2, .ref (A 26)), (3, .ref ao), (4, .int (iI (i)))]) hx hb d_L_law_209 hl (by decide) rfl (fun ls hl => ?_)
    refine lv_aload_n hx hb d_L_law_211 rfl (lv_at hl 3 rfl) ?_
    refine lv_aload_n hx hb d_L_law_212 rfl (lv_at hl 1 rfl) ?_
    refine lv_iload hx hb d_L_law_213 (lv_at hl 5 rfl) ?_
    refine ri_iconst hx hb d_L_law_215 ?_
    refine ri_iadd hx hb d_L_law_216 ?_
    refine sc_ld hx hb hX hbl hS (by omega) hL3 d_L_law_217 ?_
    refine lv_aload_n hx hb d_L_law_218 rfl (lv_at hl 1 rfl) ?_
    refine lv_iload hx hb d_L_law_219 (lv_at hl 5 rfl) ?_
    refine ri_iconst hx hb d_L_law_221 ?_
    refine ri_iadd hx hb d_L_law_222 ?_
    refine sc_ld hx hb hX hbl hS (by omega) hL3 d_L_law_223 ?_
    replace hP := wl_Pp hP (pm_law wc' (ao, .inl (k 1, al 1 o')) (mWd k A v f))
    replace hD := wl_Dp hD (pm_law wc' (ao, .inl (k 1, al 1 o')) (mWd k A v f))
    refine wd_callC h0 hS (ex_runV (C := "LathePiecesModel") (As := [.int (iI (sx xs (i + 1))), .int (iI (sx xs (i + 2)))]) (rest := []) ⟨hx, hb, hml, hown, hG⟩ (q_line hC A hI ((ao, .inl (k 1, al 1 o')) :: wc') (sx xs (i + 1)) (sx xs (i + 2)) (sx_rg _ _) (sx_rg _ _)) (cb_code (n := 2) hG g_721 g_3 g_718 rfl rfl (by decide +kernel) ⟨Nat.le_of_ble_eq_true rfl, Nat.le_of_ble_eq_true rfl⟩) (hG _ g_719) (hG _ g_720) (kd_V (kd_preW h0 hS hP hD) (kd_recv hK hP (q0 := 0) (ci := 6) rfl rfl rfl)) rfl rfl hl.1 rfl (lv_room (Nat.le_of_ble_eq_true rfl)) d_L_law_224 ⟨(show cells + 3 + 0 ≤ 601024 by omega), (show slots + 18 + 0 ≤ 7293034 by omega)⟩) (fun E ws9 hE H locs hP hD hS q T0 hT0 hq => False.elim hE) (fun v9 ws9 h9 H locs hP hD hS => ?_)
    obtain ⟨rfl, rfl⟩ := h9.2.1 hq0
    show W _ _ _ _ _ _ _ _ _ _ _ _ _ _ _ (F0 m9 227 ls [.int (iI (0))])
    refine lv_istore (lv' := [(6, .int (iI (0))), (5, .int (iI (2))), (0, .ref b), (1, .ref cx), (2, .ref (A 26)), (3, .ref ao), (4, .int (iI (i)))]) hx hb d_L_law_227 hl (by decide) rfl (fun ls hl => ?_)
    refine lv_aload_n hx hb d_L_law_229 rfl (lv_at hl 4 rfl) ?_
    refine rd_call (ex_runV (C := "LathePiecesModel") (As := []) (rest := []) ⟨hx, hb, hml, hown, hG⟩ (q_thrown hC A (vS v 0 2) f ((ao, .inl (k 1, al 1 o')) :: wc')) (cb_code (n := 0) hG g_709 g_3 g_706 rfl rfl (by decide +kernel) ⟨Nat.le_of_ble_eq_true rfl, Nat.le_of_ble_eq_true rfl⟩) (hG _ g_707) (hG _ g_708) (kd_V (kd_pre h0 hS hP) (kd_recv hK hP (q0 := 0) (ci := 6) rfl rfl rfl)) rfl rfl hl.1 rfl (lv_room (Nat.le_of_ble_eq_true rfl)) d_L_law_230 ⟨(show cells + 3 + 0 + 0 ≤ 601024 by omega), (show slots + 18 + 0 + 0 ≤ 7293034 by omega)⟩) (fun v9 h9 => ?_)
    subst h9
    show W _ _ _ _ _ _ _ _ _ _ _ _ _ _ _ (F0 m9 233 ls [.int (iI (2))])
    refine lv_iload hx hb d_L_law_233 (lv_at hl 1 rfl) ?_
    refine ri_icmp_eq (tgt := 240) hx hb d_L_law_235 (by decide) (by decide) (by decide) (fun _ => ?_) (fun c235 => absurd rfl c235)
    refine lv_iload hx hb d_L_law_240 (lv_at hl 1 rfl) ?_
    refine ri_if_ne (tgt := 257) hx hb d_L_law_242 (by decide) (by decide) (fun _ => ?_) (fun c242 => absurd c242 (by decide))
    refine lv_goto (tgt := 1941) hx hb d_L_law_257 (by decide) ?_
    replace hP := wl_Pp hP (pm_law (mWd k A (vS v 0 2) f) (ao, .inl (k 1, al 1 o')) wc')
    replace hD := wl_Dp hD (pm_law (mWd k A (vS v 0 2) f) (ao, .inl (k 1, al 1 o')) wc')
    refine W.widen (k := cells + 9) (n := slots + 167) (by omega) (by omega) ?_
    exact kk (vS v 0 2) f wc' o' H locs ls (Cst.code hW2 2) (Iv.code hI 2) hP hD hS (lv_sub hl [2, 3, 4, 5, 6] rfl)
set_option maxHeartbeats 4000000 in
set_option maxRecDepth 100000 in
theorem t_arc {p9 : Program} {l : Launch} {e9 : Env} {s : State} {m9 : MethodId} {below9 : List Frame} {meth9 : Method} {c9 : Code} {Q9 : State → Prop} {b L : Nat} {xs : Nat → Int32} {D : va_G} {k : Nat → ClassId} (C0 : LwC p9 l s m9 c9 b L xs D k) {cx : Nat} {A : Nat → Nat} {ao : Nat} {i : Int} {cells slots : Nat} (hi : 0 ≤ i ∧ i + 5 < L) (hc : cells + 9 ≤ 601024) (hs : slots + 167 ≤ 7293034) (kk : LwK p9 l e9 s m9 below9 meth9 c9 b D k cx A ao i (cells + 9) (slots + 167) Q9) {v : Nat → Int} {f : Nat → Int → Int} {wc : va_W} {o9 : Int → Int} {H : Heap} {locs : List Loc} {ls : Array Slot} (hI : Iv v f) (hW : Cst k cx v f wc) (hP : va_P D classes (wc ++ ((ao, .inl (k 1, al 1 o9)) :: mWd k A v f)) H) (hD : va_D (aL s) (wc ++ ((ao, .inl (k 1, al 1 o9)) :: mWd k A v f))) (hS : va_S (aL s) s.heap H locs) (hl : lv_has ls 8 [(0, .ref b), (1, .ref cx), (2, .ref (A 26)), (3, .ref ao), (4, .int (iI (i)))]) : W p9 l e9 room_1 s m9 #[Value.ref b] below9 meth9 c9 H locs cells slots Q9 (F0 m9 260 ls []) := by
  obtain ⟨hx, hb, hml, hown, hG, hX, hbl, hL3, hC⟩ := id C0
  have h0 : La s s := ⟨State.WarmedH.refl s, Nat.le_refl _, fun _ _ => rfl⟩
  have hK := cx_K hC h0
  by_cases hz5 : sx xs (i + 5) = 0
  · refine lv_aload_n hx hb d_L_law_260 rfl (lv_at hl 1 rfl) ?_
    refine lv_aload_n hx hb d_L_law_261 rfl (lv_at hl 0 rfl) ?_
    refine lv_iload hx hb d_L_law_262 (lv_at hl 4 rfl) ?_
    refine ri_iconst hx hb d_L_law_264 ?_
    refine ri_iadd hx hb d_L_law_265 ?_
    refine sc_ld hx hb hX hbl hS (by omega) hL3 d_L_law_266 ?_
    refine lv_aload_n hx hb d_L_law_267 rfl (lv_at hl 0 rfl) ?_
    refine lv_iload hx hb d_L_law_268 (lv_at hl 4 rfl) ?_
    refine ri_iconst hx hb d_L_law_270 ?_
    refine ri_iadd hx hb d_L_law_271 ?_
    refine sc_ld hx hb hX hbl hS (by omega) hL3 d_L_law_272 ?_
    refine lv_aload_n hx hb d_L_law_273 rfl (lv_at hl 0 rfl) ?_
    refine lv_iload hx hb d_L_law_274 (lv_at hl 4 rfl) ?_
    refine ri_iconst hx hb d_L_law_276 ?_
    refine ri_iadd hx hb d_L_law_277 ?_
    refine sc_ld hx hb hX hbl hS (by omega) hL3 d_L_law_278 ?_
    refine lv_aload_n hx hb d_L_law_279 rfl (lv_at hl 0 rfl) ?_
    refine lv_iload hx hb d_L_law_280 (lv_at hl 4 rfl) ?_
    refine ri_iconst hx hb d_L_law_282 ?_
    refine ri_iadd hx hb d_L_law_283 ?_
    refine sc_ld hx hb hX hbl hS (by omega) hL3 d_L_law_284 ?_
    refine lv_aload_n hx hb d_L_law_285 rfl (lv_at hl 0 rfl) ?_
    refine lv_iload hx hb d_L_law_286 (lv_at hl 4 rfl) ?_
    refine ri_iconst hx hb d_L_law_288 ?_
    refine ri_iadd hx hb d_L_law_289 ?_
    refine sc_ld hx hb hX hbl hS (by omega) hL3 d_L_law_290 ?_
    refine ri_if_eq (tgt := 298) hx hb d_L_law_291 (by decide) (sx_rg _ _) (fun c291 => ?_) (fun c291 => ?_)
    · refine ri_iconst hx hb d_L_law_298 ?_
      refine lv_aload_n hx hb d_L_law_299 rfl (lv_at hl 3 rfl) ?_
      refine wd_callC h0 hS (ex_runS (As := [.ref cx, .int (iI (sx xs (i + 1))), .int (iI (sx xs (i + 2))), .int (iI (sx xs (i + 3))), .int (iI (sx xs (i + 4))), .int (iI (0)), .ref ao]) (rest := []) ⟨hx, hb, hml, hown, hG⟩ (w_arc hC hI hW (mWd k A v f) ao o9 (sx xs (i + 1)) (sx xs (i + 2)) (sx_rg _ _) (sx_rg _ _) (sx xs (i + 3)) (sx xs (i + 4)) (0) (sx_rg _ _) (sx_rg _ _) (Or.inl rfl)) (cb_with (n := 7) hG g_230 g_0 g_228 rfl rfl (by decide +kernel) ⟨Nat.le_of_ble_eq_true rfl, Nat.le_of_ble_eq_true rfl⟩) (hG _ g_229) (kd_preW h0 hS hP hD) rfl rfl hl.1 rfl (lv_room (Nat.le_of_ble_eq_true rfl)) d_L_law_300 ⟨(show cells + 5 ≤ 601024 by omega), (show slots + 30 ≤ 7293034 by omega)⟩) (fun E ws9 hE H locs hP hD hS q T0 hT0 hq => False.elim hE) (fun v9 ws9 h9 H locs hP hD hS => ?_)
      obtain ⟨wc', o', kz, rfl, rfl, h9⟩ := h9
      rcases h9 with ⟨rfl, hq0, ⟨hok, ho, hW2, hI2⟩ | ⟨hok, ho, hW2⟩⟩ | ⟨rfl, hq0, hW2⟩ | ⟨rfl, hq0, hW2⟩
      · show W _ _ _ _ _ _ _ _ _ _ _ _ _ _ _ (F0 m9 303 ls [.int (iI (0))])
        refine lv_istore (lv' := [(5, .int (iI (0))), (0, .ref b), (1, .ref cx), (2, .ref (A 26)), (3, .ref ao), (4, .int (iI (i)))]) hx hb d_L_law_303 hl (by decide) rfl (fun ls hl => ?_)
        refine lv_aload_n hx hb d_L_law_305 rfl (lv_at hl 3 rfl) ?_
        refine lv_aload_n hx hb d_L_law_306 rfl (lv_at hl 1 rfl) ?_
        refine lv_iload hx hb d_L_law_307 (lv_at hl 5 rfl) ?_
        refine ri_iconst hx hb d_L_law_309 ?_
        refine ri_iadd hx hb d_L_law_310 ?_
        refine sc_ld hx hb hX hbl hS (by omega) hL3 d_L_law_311 ?_
        refine lv_aload_n hx hb d_L_law_312 rfl (lv_at hl 1 rfl) ?_
        refine lv_iload hx hb d_L_law_313 (lv_at hl 5 rfl) ?_
        refine ri_iconst hx hb d_L_law_315 ?_
        refine ri_iadd hx hb d_L_law_316 ?_
        refine sc_ld hx hb hX hbl hS (by omega) hL3 d_L_law_317 ?_
        refine lv_aload_n hx hb d_L_law_318 rfl (lv_at hl 1 rfl) ?_
        refine lv_iload hx hb d_L_law_319 (lv_at hl 5 rfl) ?_
        refine ri_iconst hx hb d_L_law_321 ?_
        refine ri_iadd hx hb d_L_law_322 ?_
        refine sc_ld hx hb hX hbl hS (by omega) hL3 d_L_law_323 ?_
        refine lv_aload_n hx hb d_L_law_324 rfl (lv_at hl 1 rfl) ?_
        refine lv_iload hx hb d_L_law_325 (lv_at hl 5 rfl) ?_
        refine ri_iconst hx hb d_L_law_327 ?_
        refine ri_iadd hx hb d_L_law_328 ?_
        refine sc_ld hx hb hX hbl hS (by omega) hL3 d_L_law_329 ?_
        refine lv_aload_n hx hb d_L_law_330 rfl (lv_at hl 1 rfl) ?_
        refine lv_iload hx hb d_L_law_331 (lv_at hl 5 rfl) ?_
        refine ri_iconst hx hb d_L_law_333 ?_
        refine ri_iadd hx hb d_L_law_334 ?_
        refine sc_ld hx hb hX hbl hS (by omega) hL3 d_L_law_335 ?_
        refine ri_if_eq (tgt := 343) hx hb d_L_law_336 (by decide) (sx_rg _ _) (fun c336 => ?_) (fun c336 => ?_)
        · refine ri_iconst hx hb d_L_law_343 ?_
          replace hP := wl_Pp hP (pm_law wc' (ao, .inl (k 1, al 1 o')) (mWd k A v f))
          replace hD := wl_Dp hD (pm_law wc' (ao, .inl (k 1, al 1 o')) (mWd k A v f))
          refine wd_callC h0 hS (ex_runV (C := "LathePiecesModel") (As := [.int (iI (sx xs (i + 1))), .int (iI (sx xs (i + 2))), .int (iI (sx xs (i + 3))), .int (iI (sx xs (i + 4))), .int (iI (0))]) (rest := []) ⟨hx, hb, hml, hown, hG⟩ (q_arc hC A hI ((ao, .inl (k 1, al 1 o')) :: wc') (sx xs (i + 1)) (sx xs (i + 2)) (sx_rg _ _) (sx_rg _ _) (sx xs (i + 3)) (sx xs (i + 4)) (0) (sx_rg _ _) (sx_rg _ _) (Or.inl rfl)) (cb_code (n := 5) hG g_738 g_3 g_735 rfl rfl (by decide +kernel) ⟨Nat.le_of_ble_eq_true rfl, Nat.le_of_ble_eq_true rfl⟩) (hG _ g_736) (hG _ g_737) (kd_V (kd_preW h0 hS hP hD) (kd_recv hK hP (q0 := 0) (ci := 6) rfl rfl rfl)) rfl rfl hl.1 rfl (lv_room (Nat.le_of_ble_eq_true rfl)) d_L_law_344 ⟨(show cells + 5 + 0 ≤ 601024 by omega), (show slots + 30 + 0 ≤ 7293034 by omega)⟩) (fun E ws9 hE H locs hP hD hS q T0 hT0 hq => False.elim hE) (fun v9 ws9 h9 H locs hP hD hS => ?_)
          rcases h9.2.2 hq0 with ⟨-, rfl, rfl⟩ | ⟨hno, -, -⟩
          · show W _ _ _ _ _ _ _ _ _ _ _ _ _ _ _ (F0 m9 347 ls [.int (iI (1))])
            refine lv_istore (lv' := [(6, .int (iI (1))), (5, .int (iI (0))), (0, .ref b), (1, .ref cx), (2, .ref (A 26)), (3, .ref ao), (4, .int (iI (i)))]) hx hb d_L_law_347 hl (by decide) rfl (fun ls hl => ?_)
            refine lv_aload_n hx hb d_L_law_349 rfl (lv_at hl 4 rfl) ?_
            refine rd_call (ex_runV (C := "LathePiecesModel") (As := []) (rest := []) ⟨hx, hb, hml, hown, hG⟩ (q_thrown hC A (vS (vS v 0 0) 3 (v 3 + 1)) (fS (fS (fS (fS (fS f 4 (zU (f 4) (v 3) (sx xs (i + 1)))) 5 (zU (f 5) (v 3) (sx xs (i + 2)))) 6 (zU (f 6) (v 3) (if (0 : Int) = 0 then 1 else 2))) 7 (zU (f 7) (v 3) (sx xs (i + 3)))) 8 (zU (f 8) (v 3) (sx xs (i + 4)))) ((ao, .inl (k 1, al 1 o')) :: wc')) (cb_code (n := 0) hG g_709 g_3 g_706 rfl rfl (by decide +kernel) ⟨Nat.le_of_ble_eq_true rfl, Nat.le_of_ble_eq_true rfl⟩) (hG _ g_707) (hG _ g_708) (kd_V (kd_pre h0 hS hP) (kd_recv hK hP (q0 := 0) (ci := 6) rfl rfl rfl)) rfl rfl hl.1 rfl (lv_room (Nat.le_of_ble_eq_true rfl)) d_L_law_350 ⟨(show cells + 5 + 0 + 0 ≤ 601024 by omega), (show slots + 30 + 0 + 0 ≤ 7293034 by omega)⟩) (fun v9 h9 => ?_)
            subst h9
            show W _ _ _ _ _ _ _ _ _ _ _ _ _ _ _ (F0 m9 353 ls [.int (iI (0))])
            refine lv_iload hx hb d_L_law_353 (lv_at hl 1 rfl) ?_
            refine ri_icmp_eq (tgt := 360) hx hb d_L_law_355 (by decide) (by decide) (by decide) (fun _ => ?_) (fun c355 => absurd rfl c355)
            refine lv_iload hx hb d_L_law_360 (lv_at hl 1 rfl) ?_
            refine ri_if_ne (tgt := 384) hx hb d_L_law_362 (by decide) (by decide) (fun c362 => absurd rfl c362) (fun _ => ?_)
            refine lv_aload_n hx hb d_L_law_365 rfl (lv_at hl 5 rfl) ?_
            refine ri_iconst hx hb d_L_law_366 ?_
            replace hP := wl_Pp hP (pm_lf (mWd k A (vS (vS v 0 0) 3 (v 3 + 1)) (fS (fS (fS (fS (fS f 4 (zU (f 4) (v 3) (sx xs (i + 1)))) 5 (zU (f 5) (v 3) (sx xs (i + 2)))) 6 (zU (f 6) (v 3) (if (0 : Int) = 0 then 1 else 2))) 7 (zU (f 7) (v 3) (sx xs (i + 3)))) 8 (zU (f 8) (v 3) (sx xs (i + 4))))) (ao, .inl (k 1, al 1 o')) wc')
            replace hD := wl_Dp hD (pm_lf (mWd k A (vS (vS v 0 0) 3 (v 3 + 1)) (fS (fS (fS (fS (fS f 4 (zU (f 4) (v 3) (sx xs (i + 1)))) 5 (zU (f 5) (v 3) (sx xs (i + 2)))) 6 (zU (f 6) (v 3) (if (0 : Int) = 0 then 1 else 2))) 7 (zU (f 7) (v 3) (sx xs (i + 3)))) 8 (zU (f 8) (v 3) (sx xs (i + 4))))) (ao, .inl (k 1, al 1 o')) wc')
            refine ra_lald hx hb hK hP 0 rfl (by omega) (by omega) d_L_law_367 ?_
            refine tp_l (y := jJ (1)) (congrArg jJ ho) ?_
            refine lv_iload hx hb d_L_law_368 (lv_at hl 0 rfl) ?_
            refine ri_if_eq (tgt := 377) hx hb d_L_law_370 (by decide) (by decide) (fun c370 => absurd c370 (by decide)) (fun _ => ?_)
            refine ri_lconst (z := 1) hx hb d_L_law_373 rfl ?_
            refine lv_goto (tgt := 378) hx hb d_L_law_374 (by decide) ?_
            refine lc_same (tgt := 384) hx hb d_L_law_378 d_L_law_379 (by decide) ?_
            refine lv_goto (tgt := 1941) hx hb d_L_law_384 (by decide) ?_
            replace hP := wl_Pp hP (pm_lb (mWd k A (vS (vS v 0 0) 3 (v 3 + 1)) (fS (fS (fS (fS (fS f 4 (zU (f 4) (v 3) (sx xs (i + 1)))) 5 (zU (f 5) (v 3) (sx xs (i + 2)))) 6 (zU (f 6) (v 3) (if (0 : Int) = 0 then 1 else 2))) 7 (zU (f 7) (v 3) (sx xs (i + 3)))) 8 (zU (f 8) (v 3) (sx xs (i + 4))))) (ao, .inl (k 1, al 1 o')) wc')
            replace hD := wl_Dp hD (pm_lb (mWd k A (vS (vS v 0 0) 3 (v 3 + 1)) (fS (fS (fS (fS (fS f 4 (zU (f 4) (v 3) (sx xs (i + 1)))) 5 (zU (f 5) (v 3) (sx xs (i + 2)))) 6 (zU (f 6) (v 3) (if (0 : Int) = 0 then 1 else 2))) 7 (zU (f 7) (v 3) (sx xs (i + 3)))) 8 (zU (f 8) (v 3) (sx xs (i + 4))))) (ao, .inl (k 1, al 1 o')) wc')
            refine W.widen (k := cells + 9) (n := slots + 167) (by omega) (by omega) ?_
            exact kk (vS (vS v 0 0) 3 (v 3 + 1)) (fS (fS (fS (fS (fS f 4 (zU (f 4) (v 3) (sx xs (i + 1)))) 5 (zU (f 5) (v 3) (sx xs (i + 2)))) 6 (zU (f 6) (v 3) (if (0 : Int) = 0 then 1 else 2))) 7 (zU (f 7) (v 3) (sx xs (i + 3)))) 8 (zU (f 8) (v 3) (sx xs (i + 4)))) wc' o' H locs ls hW2 hI2 hP hD hS (lv_sub hl [2, 3, 4, 5, 6] rfl)
          · exact absurd hok hno
        · exact absurd hz5 c336
      · show W _ _ _ _ _ _ _ _ _ _ _ _ _ _ _ (F0 m9 303 ls [.int (iI (0))])
        refine lv_istore (lv' := [(5, .int (iI (0))), (0, .ref b), (1, .ref cx), (2, .ref (A 26)), (3, .ref ao), (4, .int (iI (i)))]) hx hb d_L_law_303 hl (by decide) rfl (fun ls hl => ?_)
        refine lv_aload_n hx hb d_L_law_305 rfl (lv_at hl 3 rfl) ?_
        refine lv_aload_n hx hb d_L_law_306 rfl (lv_at hl 1 rfl) ?_
        refine lv_iload hx hb d_L_law_307 (lv_at hl 5 rfl) ?_
        refine ri_iconst hx hb d_L_law_309 ?_
        refine ri_iadd hx hb d_L_law_310 ?_
        refine sc_ld hx hb hX hbl hS (by omega) hL3 d_L_law_311 ?_
        refine lv_aload_n hx hb d_L_law_312 rfl (lv_at hl 1 rfl) ?_
        refine lv_iload hx hb d_L_law_313 (lv_at hl 5 rfl) ?_
        refine ri_iconst hx hb d_L_law_315 ?_
        refine ri_iadd hx hb d_L_law_316 ?_
        refine sc_ld hx hb hX hbl hS (by omega) hL3 d_L_law_317 ?_
        refine lv_aload_n hx hb d_L_law_318 rfl (lv_at hl 1 rfl) ?_
        refine lv_iload hx hb d_L_law_319 (lv_at hl 5 rfl) ?_
        refine ri_iconst hx hb d_L_law_321 ?_
        refine ri_iadd hx hb d_L_law_322 ?_
        refine sc_ld hx hb hX hbl hS (by omega) hL3 d_L_law_323 ?_
        refine lv_aload_n hx hb d_L_law_324 rfl (lv_at hl 1 rfl) ?_
        refine lv_iload hx hb d_L_law_325 (lv_at hl 5 rfl) ?_
        refine ri_iconst hx hb d_L_law_327 ?_
        refine ri_iadd hx hb d_L_law_328 ?_
        refine sc_ld hx hb hX hbl hS (by omega) hL3 d_L_law_329 ?_
        refine lv_aload_n hx hb d_L_law_330 rfl (lv_at hl 1 rfl) ?_
        refine lv_iload hx hb d_L_law_331 (lv_at hl 5 rfl) ?_
        refine ri_iconst hx hb d_L_law_333 ?_
        refine ri_iadd hx hb d_L_law_334 ?_
        refine sc_ld hx hb hX hbl hS (by omega) hL3 d_L_law_335 ?_
        refine ri_if_eq (tgt := 343) hx hb d_L_law_336 (by decide) (sx_rg _ _) (fun c336 => ?_) (fun c336 => ?_)
        · refine ri_iconst hx hb d_L_law_343 ?_
          replace hP := wl_Pp hP (pm_law wc' (ao, .inl (k 1, al 1 o')) (mWd k A v f))
          replace hD := wl_Dp hD (pm_law wc' (ao, .inl (k 1, al 1 o')) (mWd k A v f))
          refine wd_callC h0 hS (ex_runV (C := "LathePiecesModel") (As := [.int (iI (sx xs (i + 1))), .int (iI (sx xs (i + 2))), .int (iI (sx xs (i + 3))), .int (iI (sx xs (i + 4))), .int (iI (0))]) (rest := []) ⟨hx, hb, hml, hown, hG⟩ (q_arc hC A hI ((ao, .inl (k 1, al 1 o')) :: wc') (sx xs (i + 1)) (sx xs (i + 2)) (sx_rg _ _) (sx_rg _ _) (sx xs (i + 3)) (sx xs (i + 4)) (0) (sx_rg _ _) (sx_rg _ _) (Or.inl rfl)) (cb_code (n := 5) hG g_738 g_3 g_735 rfl rfl (by decide +kernel) ⟨Nat.le_of_ble_eq_true rfl, Nat.le_of_ble_eq_true rfl⟩) (hG _ g_736) (hG _ g_737) (kd_V (kd_preW h0 hS hP hD) (kd_recv hK hP (q0 := 0) (ci := 6) rfl rfl rfl)) rfl rfl hl.1 rfl (lv_room (Nat.le_of_ble_eq_true rfl)) d_L_law_344 ⟨(show cells + 5 + 0 ≤ 601024 by omega), (show slots + 30 + 0 ≤ 7293034 by omega)⟩) (fun E ws9 hE H locs hP hD hS q T0 hT0 hq => False.elim hE) (fun v9 ws9 h9 H locs hP hD hS => ?_)
          rcases h9.2.2 hq0 with ⟨hno, -, -⟩ | ⟨-, rfl, rfl⟩
          · exact absurd hno hok
          · show W _ _ _ _ _ _ _ _ _ _ _ _ _ _ _ (F0 m9 347 ls [.int (iI (0))])
            refine lv_istore (lv' := [(6, .int (iI (0))), (5, .int (iI (0))), (0, .ref b), (1, .ref cx), (2, .ref (A 26)), (3, .ref ao), (4, .int (iI (i)))]) hx hb d_L_law_347 hl (by decide) rfl (fun ls hl => ?_)
            refine lv_aload_n hx hb d_L_law_349 rfl (lv_at hl 4 rfl) ?_
            refine rd_call (ex_runV (C := "LathePiecesModel") (As := []) (rest := []) ⟨hx, hb, hml, hown, hG⟩ (q_thrown hC A (vS v 0 0) f ((ao, .inl (k 1, al 1 o')) :: wc')) (cb_code (n := 0) hG g_709 g_3 g_706 rfl rfl (by decide +kernel) ⟨Nat.le_of_ble_eq_true rfl, Nat.le_of_ble_eq_true rfl⟩) (hG _ g_707) (hG _ g_708) (kd_V (kd_pre h0 hS hP) (kd_recv hK hP (q0 := 0) (ci := 6) rfl rfl rfl)) rfl rfl hl.1 rfl (lv_room (Nat.le_of_ble_eq_true rfl)) d_L_law_350 ⟨(show cells + 5 + 0 + 0 ≤ 601024 by omega), (show slots + 30 + 0 + 0 ≤ 7293034 by omega)⟩) (fun v9 h9 => ?_)
            subst h9
            show W _ _ _ _ _ _ _ _ _ _ _ _ _ _ _ (F0 m9 353 ls [.int (iI (0))])
            refine lv_iload hx hb d_L_law_353 (lv_at hl 1 rfl) ?_
            refine ri_icmp_eq (tgt := 360) hx hb d_L_law_355 (by decide) (by decide) (by decide) (fun _ => ?_) (fun c355 => absurd rfl c355)
            refine lv_iload hx hb d_L_law_360 (lv_at hl 1 rfl) ?_
            refine ri_if_ne (tgt := 384) hx hb d_L_law_362 (by decide) (by decide) (fun c362 => absurd rfl c362) (fun _ => ?_)
            refine lv_aload_n hx hb d_L_law_365 rfl (lv_at hl 5 rfl) ?_
            refine ri_iconst hx hb d_L_law_366 ?_
            replace hP := wl_Pp hP (pm_lf (mWd k A (vS v 0 0) f) (ao, .inl (k 1, al 1 o')) wc')
            replace hD := wl_Dp hD (pm_lf (mWd k A (vS v 0 0) f) (ao, .inl (k 1, al 1 o')) wc')
            refine ra_lald hx hb hK hP 0 rfl (by omega) (by omega) d_L_law_367 ?_
            refine tp_l (y := jJ (0)) (congrArg jJ ho) ?_
            refine lv_iload hx hb d_L_law_368 (lv_at hl 0 rfl) ?_
            refine ri_if_eq (tgt := 377) hx hb d_L_law_370 (by decide) (by decide) (fun _ => ?_) (fun c370 => absurd rfl c370)
            refine ri_lconst (z := 0) hx hb d_L_law_377 rfl ?_
            refine lc_same (tgt := 384) hx hb d_L_law_378 d_L_law_379 (by decide) ?_
            refine lv_goto (tgt := 1941) hx hb d_L_law_384 (by decide) ?_
            replace hP := wl_Pp hP (pm_lb (mWd k A (vS v 0 0) f) (ao, .inl (k 1, al 1 o')) wc')
            replace hD := wl_Dp hD (pm_lb (mWd k A (vS v 0 0) f) (ao, .inl (k 1, al 1 o')) wc')
            refine W.widen (k := cells + 9) (n := slots + 167) (by omega) (by omega) ?_
            exact kk (vS v 0 0) f wc' o' H locs ls (Cst.code hW2 0) (Iv.code hI 0) hP hD hS (lv_sub hl [2, 3, 4, 5, 6] rfl)
        · exact absurd hz5 c336
      · show W _ _ _ _ _ _ _ _ _ _ _ _ _ _ _ (F0 m9 303 ls [.int (iI (1))])
        refine lv_istore (lv' := [(5, .int (iI (1))), (0, .ref b), (1, .ref cx), (2, .ref (A 26)), (3, .ref ao), (4, .int (iI (i)))]) hx hb d_L_law_303 hl (by decide) rfl (fun ls hl => ?_)
        refine lv_aload_n hx hb d_L_law_305 rfl (lv_at hl 3 rfl) ?_
        refine lv_aload_n hx hb d_L_law_306 rfl (lv_at hl 1 rfl) ?_
        refine lv_iload hx hb d_L_law_307 (lv_at hl 5 rfl) ?_
        refine ri_iconst hx hb d_L_law_309 ?_
        refine ri_iadd hx hb d_L_law_310 ?_
        refine sc_ld hx hb hX hbl hS (by omega) hL3 d_L_law_311 ?_
        refine lv_aload_n hx hb d_L_law_312 rfl (lv_at hl 1 rfl) ?_
        refine lv_iload hx hb d_L_law_313 (lv_at hl 5 rfl) ?_
        refine ri_iconst hx hb d_L_law_315 ?_
        refine ri_iadd hx hb d_L_law_316 ?_
        refine sc_ld hx hb hX hbl hS (by omega) hL3 d_L_law_317 ?_
        refine lv_aload_n hx hb d_L_law_318 rfl (lv_at hl 1 rfl) ?_
        refine lv_iload hx hb d_L_law_319 (lv_at hl 5 rfl) ?_
        refine ri_iconst hx hb d_L_law_321 ?_
        refine ri_iadd hx hb d_L_law_322 ?_
        refine sc_ld hx hb hX hbl hS (by omega) hL3 d_L_law_323 ?_
        refine lv_aload_n hx hb d_L_law_324 rfl (lv_at hl 1 rfl) ?_
        refine lv_iload hx hb d_L_law_325 (lv_at hl 5 rfl) ?_
        refine ri_iconst hx hb d_L_law_327 ?_
        refine ri_iadd hx hb d_L_law_328 ?_
        refine sc_ld hx hb hX hbl hS (by omega) hL3 d_L_law_329 ?_
        refine lv_aload_n hx hb d_L_law_330 rfl (lv_at hl 1 rfl) ?_
        refine lv_iload hx hb d_L_law_331 (lv_at hl 5 rfl) ?_
        refine ri_iconst hx hb d_L_law_333 ?_
        refine ri_iadd hx hb d_L_law_334 ?_
        refine sc_ld hx hb hX hbl hS (by omega) hL3 d_L_law_335 ?_
        refine ri_if_eq (tgt := 343) hx hb d_L_law_336 (by decide) (sx_rg _ _) (fun c336 => ?_) (fun c336 => ?_)
        · refine ri_iconst hx hb d_L_law_343 ?_
          replace hP := wl_Pp hP (pm_law wc' (ao, .inl (k 1, al 1 o')) (mWd k A v f))
          replace hD := wl_Dp hD (pm_law wc' (ao, .inl (k 1, al 1 o')) (mWd k A v f))
          refine wd_callC h0 hS (ex_runV (C := "LathePiecesModel") (As := [.int (iI (sx xs (i + 1))), .int (iI (sx xs (i + 2))), .int (iI (sx xs (i + 3))), .int (iI (sx xs (i + 4))), .int (iI (0))]) (rest := []) ⟨hx, hb, hml, hown, hG⟩ (q_arc hC A hI ((ao, .inl (k 1, al 1 o')) :: wc') (sx xs (i + 1)) (sx xs (i + 2)) (sx_rg _ _) (sx_rg _ _) (sx xs (i + 3)) (sx xs (i + 4)) (0) (sx_rg _ _) (sx_rg _ _) (Or.inl rfl)) (cb_code (n := 5) hG g_738 g_3 g_735 rfl rfl (by decide +kernel) ⟨Nat.le_of_ble_eq_true rfl, Nat.le_of_ble_eq_true rfl⟩) (hG _ g_736) (hG _ g_737) (kd_V (kd_preW h0 hS hP hD) (kd_recv hK hP (q0 := 0) (ci := 6) rfl rfl rfl)) rfl rfl hl.1 rfl (lv_room (Nat.le_of_ble_eq_true rfl)) d_L_law_344 ⟨(show cells + 5 + 0 ≤ 601024 by omega), (show slots + 30 + 0 ≤ 7293034 by omega)⟩) (fun E ws9 hE H locs hP hD hS q T0 hT0 hq => False.elim hE) (fun v9 ws9 h9 H locs hP hD hS => ?_)
          obtain ⟨rfl, rfl⟩ := h9.1 hq0
          show W _ _ _ _ _ _ _ _ _ _ _ _ _ _ _ (F0 m9 347 ls [.int (iI (0))])
          refine lv_istore (lv' := [(6, .int (iI (0))), (5, .int (iI (1))), (0, .ref b), (1, .ref cx), (2, .ref (A 26)), (3, .ref ao), (4, .int (iI (i)))]) hx hb d_L_law_347 hl (by decide) rfl (fun ls hl => ?_)
          refine lv_aload_n hx hb d_L_law_349 rfl (lv_at hl 4 rfl) ?_
          refine rd_call (ex_runV (C := "LathePiecesModel") (As := []) (rest := []) ⟨hx, hb, hml, hown, hG⟩ (q_thrown hC A (vS v 0 1) f ((ao, .inl (k 1, al 1 o')) :: wc')) (cb_code (n := 0) hG g_709 g_3 g_706 rfl rfl (by decide +kernel) ⟨Nat.le_of_ble_eq_true rfl, Nat.le_of_ble_eq_true rfl⟩) (hG _ g_707) (hG _ g_708) (kd_V (kd_pre h0 hS hP) (kd_recv hK hP (q0 := 0) (ci := 6) rfl rfl rfl)) rfl rfl hl.1 rfl (lv_room (Nat.le_of_ble_eq_true rfl)) d_L_law_350 ⟨(show cells + 5 + 0 + 0 ≤ 601024 by omega), (show slots + 30 + 0 + 0 ≤ 7293034 by omega)⟩) (fun v9 h9 => ?_)
          subst h9
          show W _ _ _ _ _ _ _ _ _ _ _ _ _ _ _ (F0 m9 353 ls [.int (iI (1))])
          refine lv_iload hx hb d_L_law_353 (lv_at hl 1 rfl) ?_
          refine ri_icmp_eq (tgt := 360) hx hb d_L_law_355 (by decide) (by decide) (by decide) (fun _ => ?_) (fun c355 => absurd rfl c355)
          refine lv_iload hx hb d_L_law_360 (lv_at hl 1 rfl) ?_
          refine ri_if_ne (tgt := 384) hx hb d_L_law_362 (by decide) (by decide) (fun _ => ?_) (fun c362 => absurd c362 (by decide))
          refine lv_goto (tgt := 1941) hx hb d_L_law_384 (by decide) ?_
          replace hP := wl_Pp hP (pm_law (mWd k A (vS v 0 1) f) (ao, .inl (k 1, al 1 o')) wc')
          replace hD := wl_Dp hD (pm_law (mWd k A (vS v 0 1) f) (ao, .inl (k 1, al 1 o')) wc')
          refine W.widen (k := cells + 9) (n := slots + 167) (by omega) (by omega) ?_
          exact kk (vS v 0 1) f wc' o' H locs ls (Cst.code hW2 1) (Iv.code hI 1) hP hD hS (lv_sub hl [2, 3, 4, 5, 6] rfl)
        · exact absurd hz5 c336
      · show W _ _ _ _ _ _ _ _ _ _ _ _ _ _ _ (F0 m9 303 ls [.int (iI (2))])
        refine lv_istore (lv' := [(5, .int (iI (2))), (0, .ref b), (1, .ref cx), (2, .ref (A 26)), (3, .ref ao), (4, .int (iI (i)))]) hx hb d_L_law_303 hl (by decide) rfl (fun ls hl => ?_)
        refine lv_aload_n hx hb d_L_law_305 rfl (lv_at hl 3 rfl) ?_
        refine lv_aload_n hx hb d_L_law_306 rfl (lv_at hl 1 rfl) ?_
        refine lv_iload hx hb d_L_law_307 (lv_at hl 5 rfl) ?_
        refine ri_iconst hx hb d_L_law_309 ?_
        refine ri_iadd hx hb d_L_law_310 ?_
        refine sc_ld hx hb hX hbl hS (by omega) hL3 d_L_law_311 ?_
        refine lv_aload_n hx hb d_L_law_312 rfl (lv_at hl 1 rfl) ?_
        refine lv_iload hx hb d_L_law_313 (lv_at hl 5 rfl) ?_
        refine ri_iconst hx hb d_L_law_315 ?_
        refine ri_iadd hx hb d_L_law_316 ?_
        refine sc_ld hx hb hX hbl hS (by omega) hL3 d_L_law_317 ?_
        refine lv_aload_n hx hb d_L_law_318 rfl (lv_at hl 1 rfl) ?_
        refine lv_iload hx hb d_L_law_319 (lv_at hl 5 rfl) ?_
        refine ri_iconst hx hb d_L_law_321 ?_
        refine ri_iadd hx hb d_L_law_322 ?_
        refine sc_ld hx hb hX hbl hS (by omega) hL3 d_L_law_323 ?_
        refine lv_aload_n hx hb d_L_law_324 rfl (lv_at hl 1 rfl) ?_
        refine lv_iload hx hb d_L_law_325 (lv_at hl 5 rfl) ?_
        refine ri_iconst hx hb d_L_law_327 ?_
        refine ri_iadd hx hb d_L_law_328 ?_
        refine sc_ld hx hb hX hbl hS (by omega) hL3 d_L_law_329 ?_
        refine lv_aload_n hx hb d_L_law_330 rfl (lv_at hl 1 rfl) ?_
        refine lv_iload hx hb d_L_law_331 (lv_at hl 5 rfl) ?_
        refine ri_iconst hx hb d_L_law_333 ?_
        refine ri_iadd hx hb d_L_law_334 ?_
        refine sc_ld hx hb hX hbl hS (by omega) hL3 d_L_law_335 ?_
        refine ri_if_eq (tgt := 343) hx hb d_L_law_336 (by decide) (sx_rg _ _) (fun c336 => ?_) (fun c336 => ?_)
        · refine ri_iconst hx hb d_L_law_343 ?_
          replace hP := wl_Pp hP (pm_law wc' (ao, .inl (k 1, al 1 o')) (mWd k A v f))
          replace hD := wl_Dp hD (pm_law wc' (ao, .inl (k 1, al 1 o')) (mWd k A v f))
          refine wd_callC h0 hS (ex_runV (C := "LathePiecesModel") (As := [.int (iI (sx xs (i + 1))), .int (iI (sx xs (i + 2))), .int (iI (sx xs (i + 3))), .int (iI (sx xs (i + 4))), .int (iI (0))]) (rest := []) ⟨hx, hb, hml, hown, hG⟩ (q_arc hC A hI ((ao, .inl (k 1, al 1 o')) :: wc') (sx xs (i + 1)) (sx xs (i + 2)) (sx_rg _ _) (sx_rg _ _) (sx xs (i + 3)) (sx xs (i + 4)) (0) (sx_rg _ _) (sx_rg _ _) (Or.inl rfl)) (cb_code (n := 5) hG g_738 g_3 g_735 rfl rfl (by decide +kernel) ⟨Nat.le_of_ble_eq_true rfl, Nat.le_of_ble_eq_true rfl⟩) (hG _ g_736) (hG _ g_737) (kd_V (kd_preW h0 hS hP hD) (kd_recv hK hP (q0 := 0) (ci := 6) rfl rfl rfl)) rfl rfl hl.1 rfl (lv_room (Nat.le_of_ble_eq_true rfl)) d_L_law_344 ⟨(show cells + 5 + 0 ≤ 601024 by omega), (show slots + 30 + 0 ≤ 7293034 by omega)⟩) (fun E ws9 hE H locs hP hD hS q T0 hT0 hq => False.elim hE) (fun v9 ws9 h9 H locs hP hD hS => ?_)
          obtain ⟨rfl, rfl⟩ := h9.2.1 hq0
          show W _ _ _ _ _ _ _ _ _ _ _ _ _ _ _ (F0 m9 347 ls [.int (iI (0))])
          refine lv_istore (lv' := [(6, .int (iI (0))), (5, .int (iI (2))), (0, .ref b), (1, .ref cx), (2, .ref (A 26)), (3, .ref ao), (4, .int (iI (i)))]) hx hb d_L_law_347 hl (by decide) rfl (fun ls hl => ?_)
          refine lv_aload_n hx hb d_L_law_349 rfl (lv_at hl 4 rfl) ?_
          refine rd_call (ex_runV (C := "LathePiecesModel") (As := []) (rest := []) ⟨hx, hb, hml, hown, hG⟩ (q_thrown hC A (vS v 0 2) f ((ao, .inl (k 1, al 1 o')) :: wc')) (cb_code (n := 0) hG g_709 g_3 g_706 rfl rfl (by decide +kernel) ⟨Nat.le_of_ble_eq_true rfl, Nat.le_of_ble_eq_true rfl⟩) (hG _ g_707) (hG _ g_708) (kd_V (kd_pre h0 hS hP) (kd_recv hK hP (q0 := 0) (ci := 6) rfl rfl rfl)) rfl rfl hl.1 rfl (lv_room (Nat.le_of_ble_eq_true rfl)) d_L_law_350 ⟨(show cells + 5 + 0 + 0 ≤ 601024 by omega), (show slots + 30 + 0 + 0 ≤ 7293034 by omega)⟩) (fun v9 h9 => ?_)
          subst h9
          show W _ _ _ _ _ _ _ _ _ _ _ _ _ _ _ (F0 m9 353 ls [.int (iI (2))])
          refine lv_iload hx hb d_L_law_353 (lv_at hl 1 rfl) ?_
          refine ri_icmp_eq (tgt := 360) hx hb d_L_law_355 (by decide) (by decide) (by decide) (fun _ => ?_) (fun c355 => absurd rfl c355)
          refine lv_iload hx hb d_L_law_360 (lv_at hl 1 rfl) ?_
          refine ri_if_ne (tgt := 384) hx hb d_L_law_362 (by decide) (by decide) (fun _ => ?_) (fun c362 => absurd c362 (by decide))
          refine lv_goto (tgt := 1941) hx hb d_L_law_384 (by decide) ?_
          replace hP := wl_Pp hP (pm_law (mWd k A (vS v 0 2) f) (ao, .inl (k 1, al 1 o')) wc')
          replace hD := wl_Dp hD (pm_law (mWd k A (vS v 0 2) f) (ao, .inl (k 1, al 1 o')) wc')
          refine W.widen (k := cells + 9) (n := slots + 167) (by omega) (by omega) ?_
          exact kk (vS v 0 2) f wc' o' H locs ls (Cst.code hW2 2) (Iv.code hI 2) hP hD hS (lv_sub hl [2, 3, 4, 5, 6] rfl)
        · exact absurd hz5 c336
    · exact absurd hz5 c291
  · refine lv_aload_n hx hb d_L_law_260 rfl (lv_at hl 1 rfl) ?_
    refine lv_aload_n hx hb d_L_law_261 rfl (lv_at hl 0 rfl) ?_
    refine lv_iload hx hb d_L_law_262 (lv_at hl 4 rfl) ?_
    refine ri_iconst hx hb d_L_law_264 ?_
    refine ri_iadd hx hb d_L_law_265 ?_
    refine sc_ld hx hb hX hbl hS (by omega) hL3 d_L_law_266 ?_
    refine lv_aload_n hx hb d_L_law_267 rfl (lv_at hl 0 rfl) ?_
    refine lv_iload hx hb d_L_law_268 (lv_at hl 4 rfl) ?_
    refine ri_iconst hx hb d_L_law_270 ?_
    refine ri_iadd hx hb d_L_law_271 ?_
    refine sc_ld hx hb hX hbl hS (by omega) hL3 d_L_law_272 ?_
    refine lv_aload_n hx hb d_L_law_273 rfl (lv_at hl 0 rfl) ?_
    refine lv_iload hx hb d_L_law_274 (lv_at hl 4 rfl) ?_
    refine ri_iconst hx hb d_L_law_276 ?_
    refine ri_iadd hx hb d_L_law_277 ?_
    refine sc_ld hx hb hX hbl hS (by omega) hL3 d_L_law_278 ?_
    refine lv_aload_n hx hb d_L_law_279 rfl (lv_at hl 0 rfl) ?_
    refine lv_iload hx hb d_L_law_280 (lv_at hl 4 rfl) ?_
    refine ri_iconst hx hb d_L_law_282 ?_
    refine ri_iadd hx hb d_L_law_283 ?_
    refine sc_ld hx hb hX hbl hS (by omega) hL3 d_L_law_284 ?_
    refine lv_aload_n hx hb d_L_law_285 rfl (lv_at hl 0 rfl) ?_
    refine lv_iload hx hb d_L_law_286 (lv_at hl 4 rfl) ?_
    refine ri_iconst hx hb d_L_law_288 ?_
    refine ri_iadd hx hb d_L_law_289 ?_
    refine sc_ld hx hb hX hbl hS (by omega) hL3 d_L_law_290 ?_
    refine ri_if_eq (tgt := 298) hx hb d_L_law_291 (by decide) (sx_rg _ _) (fun c291 => ?_) (fun c291 => ?_)
    · exact absurd c291 hz5
    · refine ri_iconst hx hb d_L_law_294 ?_
      refine lv_goto (tgt := 299) hx hb d_L_law_295 (by decide) ?_
      refine lv_aload_n hx hb d_L_law_299 rfl (lv_at hl 3 rfl) ?_
      refine wd_callC h0 hS (ex_runS (As := [.ref cx, .int (iI (sx xs (i + 1))), .int (iI (sx xs (i + 2))), .int (iI (sx xs (i + 3))), .int (iI (sx xs (i + 4))), .int (iI (1)), .ref ao]) (rest := []) ⟨hx, hb, hml, hown, hG⟩ (w_arc hC hI hW (mWd k A v f) ao o9 (sx xs (i + 1)) (sx xs (i + 2)) (sx_rg _ _) (sx_rg _ _) (sx xs (i + 3)) (sx xs (i + 4)) (1) (sx_rg _ _) (sx_rg _ _) (Or.inr rfl)) (cb_with (n := 7) hG g_230 g_0 g_228 rfl rfl (by decide +kernel) ⟨Nat.le_of_ble_eq_true rfl, Nat.le_of_ble_eq_true rfl⟩) (hG _ g_229) (kd_preW h0 hS hP hD) rfl rfl hl.1 rfl (lv_room (Nat.le_of_ble_eq_true rfl)) d_L_law_300 ⟨(show cells + 5 ≤ 601024 by omega), (show slots + 30 ≤ 7293034 by omega)⟩) (fun E ws9 hE H locs hP hD hS q T0 hT0 hq => False.elim hE) (fun v9 ws9 h9 H locs hP hD hS => ?_)
      obtain ⟨wc', o', kz, rfl, rfl, h9⟩ := h9
      rcases h9 with ⟨rfl, hq0, ⟨hok, ho, hW2, hI2⟩ | ⟨hok, ho, hW2⟩⟩ | ⟨rfl, hq0, hW2⟩ | ⟨rfl, hq0, hW2⟩
      · show W _ _ _ _ _ _ _ _ _ _ _ _ _ _ _ (F0 m9 303 ls [.int (iI (0))])
        refine lv_istore (lv' := [(5, .int (iI (0))), (0, .ref b), (1, .ref cx), (2, .ref (A 26)), (3, .ref ao), (4, .int (iI (i)))]) hx hb d_L_law_303 hl (by decide) rfl (fun ls hl => ?_)
        refine lv_aload_n hx hb d_L_law_305 rfl (lv_at hl 3 rfl) ?_
        refine lv_aload_n hx hb d_L_law_306 rfl (lv_at hl 1 rfl) ?_
        refine lv_iload hx hb d_L_law_307 (lv_at hl 5 rfl) ?_
        refine ri_iconst hx hb d_L_law_309 ?_
        refine ri_iadd hx hb d_L_law_310 ?_
        refine sc_ld hx hb hX hbl hS (by omega) hL3 d_L_law_311 ?_
        refine lv_aload_n hx hb d_L_law_312 rfl (lv_at hl 1 rfl) ?_
        refine lv_iload hx hb d_L_law_313 (lv_at hl 5 rfl) ?_
        refine ri_iconst hx hb d_L_law_315 ?_
        refine ri_iadd hx hb d_L_law_316 ?_
        refine sc_ld hx hb hX hbl hS (by omega) hL3 d_L_law_317 ?_
        refine lv_aload_n hx hb d_L_law_318 rfl (lv_at hl 1 rfl) ?_
        refine lv_iload hx hb d_L_law_319 (lv_at hl 5 rfl) ?_
        refine ri_iconst hx hb d_L_law_321 ?_
        refine ri_iadd hx hb d_L_law_322 ?_
        refine sc_ld hx hb hX hbl hS (by omega) hL3 d_L_law_323 ?_
        refine lv_aload_n hx hb d_L_law_324 rfl (lv_at hl 1 rfl) ?_
        refine lv_iload hx hb d_L_law_325 (lv_at hl 5 rfl) ?_
        refine ri_iconst hx hb d_L_law_327 ?_
        refine ri_iadd hx hb d_L_law_328 ?_
        refine sc_ld hx hb hX hbl hS (by omega) hL3 d_L_law_329 ?_
        refine lv_aload_n hx hb d_L_law_330 rfl (lv_at hl 1 rfl) ?_
        refine lv_iload hx hb d_L_law_331 (lv_at hl 5 rfl) ?_
        refine ri_iconst hx hb d_L_law_333 ?_
        refine ri_iadd hx hb d_L_law_334 ?_
        refine sc_ld hx hb hX hbl hS (by omega) hL3 d_L_law_335 ?_
        refine ri_if_eq (tgt := 343) hx hb d_L_law_336 (by decide) (sx_rg _ _) (fun c336 => ?_) (fun c336 => ?_)
        · exact absurd c336 hz5
        · refine ri_iconst hx hb d_L_law_339 ?_
          refine lv_goto (tgt := 344) hx hb d_L_law_340 (by decide) ?_
          replace hP := wl_Pp hP (pm_law wc' (ao, .inl (k 1, al 1 o')) (mWd k A v f))
          replace hD := wl_Dp hD (pm_law wc' (ao, .inl (k 1, al 1 o')) (mWd k A v f))
          refine wd_callC h0 hS (ex_runV (C := "LathePiecesModel") (As := [.int (iI (sx xs (i + 1))), .int (iI (sx xs (i + 2))), .int (iI (sx xs (i + 3))), .int (iI (sx xs (i + 4))), .int (iI (1))]) (rest := []) ⟨hx, hb, hml, hown, hG⟩ (q_arc hC A hI ((ao, .inl (k 1, al 1 o')) :: wc') (sx xs (i + 1)) (sx xs (i + 2)) (sx_rg _ _) (sx_rg _ _) (sx xs (i + 3)) (sx xs (i + 4)) (1) (sx_rg _ _) (sx_rg _ _) (Or.inr rfl)) (cb_code (n := 5) hG g_738 g_3 g_735 rfl rfl (by decide +kernel) ⟨Nat.le_of_ble_eq_true rfl, Nat.le_of_ble_eq_true rfl⟩) (hG _ g_736) (hG _ g_737) (kd_V (kd_preW h0 hS hP hD) (kd_recv hK hP (q0 := 0) (ci := 6) rfl rfl rfl)) rfl rfl hl.1 rfl (lv_room (Nat.le_of_ble_eq_true rfl)) d_L_law_344 ⟨(show cells + 5 + 0 ≤ 601024 by omega), (show slots + 30 + 0 ≤ 7293034 by omega)⟩) (fun E ws9 hE H locs hP hD hS q T0 hT0 hq => False.elim hE) (fun v9 ws9 h9 H locs hP hD hS => ?_)
          rcases h9.2.2 hq0 with ⟨-, rfl, rfl⟩ | ⟨hno, -, -⟩
          · show W _ _ _ _ _ _ _ _ _ _ _ _ _ _ _ (F0 m9 347 ls [.int (iI (1))])
            refine lv_istore (lv' := [(6, .int (iI (1))), (5, .int (iI (0))), (0, .ref b), (1, .ref cx), (2, .ref (A 26)), (3, .ref ao), (4, .int (iI (i)))]) hx hb d_L_law_347 hl (by decide) rfl (fun ls hl => ?_)
            refine lv_aload_n hx hb d_L_law_349 rfl (lv_at hl 4 rfl) ?_
            refine rd_call (ex_runV (C := "LathePiecesModel") (As := []) (rest := []) ⟨hx, hb, hml, hown, hG⟩ (q_thrown hC A (vS (vS v 0 0) 3 (v 3 + 1)) (fS (fS (fS (fS (fS f 4 (zU (f 4) (v 3) (sx xs (i + 1)))) 5 (zU (f 5) (v 3) (sx xs (i + 2)))) 6 (zU (f 6) (v 3) (if (1 : Int) = 0 then 1 else 2))) 7 (zU (f 7) (v 3) (sx xs (i + 3)))) 8 (zU (f 8) (v 3) (sx xs (i + 4)))) ((ao, .inl (k 1, al 1 o')) :: wc')) (cb_code (n := 0) hG g_709 g_3 g_706 rfl rfl (by decide +kernel) ⟨Nat.le_of_ble_eq_true rfl, Nat.le_of_ble_eq_true rfl⟩) (hG _ g_707) (hG _ g_708) (kd_V (kd_pre h0 hS hP) (kd_recv hK hP (q0 := 0) (ci := 6) rfl rfl rfl)) rfl rfl hl.1 rfl (lv_room (Nat.le_of_ble_eq_true rfl)) d_L_law_350 ⟨(show cells + 5 + 0 + 0 ≤ 601024 by omega), (show slots + 30 + 0 + 0 ≤ 7293034 by omega)⟩) (fun v9 h9 => ?_)
            subst h9
            show W _ _ _ _ _ _ _ _ _ _ _ _ _ _ _ (F0 m9 353 ls [.int (iI (0))])
            refine lv_iload hx hb d_L_law_353 (lv_at hl 1 rfl) ?_
            refine ri_icmp_eq (tgt := 360) hx hb d_L_law_355 (by decide) (by decide) (by decide) (fun _ => ?_) (fun c355 => absurd rfl c355)
            refine lv_iload hx hb d_L_law_360 (lv_at hl 1 rfl) ?_
            refine ri_if_ne (tgt := 384) hx hb d_L_law_362 (by decide) (by decide) (fun c362 => absurd rfl c362) (fun _ => ?_)
            refine lv_aload_n hx hb d_L_law_365 rfl (lv_at hl 5 rfl) ?_
            refine ri_iconst hx hb d_L_law_366 ?_
            replace hP := wl_Pp hP (pm_lf (mWd k A (vS (vS v 0 0) 3 (v 3 + 1)) (fS (fS (fS (fS (fS f 4 (zU (f 4) (v 3) (sx xs (i + 1)))) 5 (zU (f 5) (v 3) (sx xs (i + 2)))) 6 (zU (f 6) (v 3) (if (1 : Int) = 0 then 1 else 2))) 7 (zU (f 7) (v 3) (sx xs (i + 3)))) 8 (zU (f 8) (v 3) (sx xs (i + 4))))) (ao, .inl (k 1, al 1 o')) wc')
            replace hD := wl_Dp hD (pm_lf (mWd k A (vS (vS v 0 0) 3 (v 3 + 1)) (fS (fS (fS (fS (fS f 4 (zU (f 4) (v 3) (sx xs (i + 1)))) 5 (zU (f 5) (v 3) (sx xs (i + 2)))) 6 (zU (f 6) (v 3) (if (1 : Int) = 0 then 1 else 2))) 7 (zU (f 7) (v 3) (sx xs (i + 3)))) 8 (zU (f 8) (v 3) (sx xs (i + 4))))) (ao, .inl (k 1, al 1 o')) wc')
            refine ra_lald hx hb hK hP 0 rfl (by omega) (by omega) d_L_law_367 ?_
            refine tp_l (y := jJ (1)) (congrArg jJ ho) ?_
            refine lv_iload hx hb d_L_law_368 (lv_at hl 0 rfl) ?_
            refine ri_if_eq (tgt := 377) hx hb d_L_law_370 (by decide) (by decide) (fun c370 => absurd c370 (by decide)) (fun _ => ?_)
            refine ri_lconst (z := 1) hx hb d_L_law_373 rfl ?_
            refine lv_goto (tgt := 378) hx hb d_L_law_374 (by decide) ?_
            refine lc_same (tgt := 384) hx hb d_L_law_378 d_L_law_379 (by decide) ?_
            refine lv_goto (tgt := 1941) hx hb d_L_law_384 (by decide) ?_
            replace hP := wl_Pp hP (pm_lb (mWd k A (vS (vS v 0 0) 3 (v 3 + 1)) (fS (fS (fS (fS (fS f 4 (zU (f 4) (v 3) (sx xs (i + 1)))) 5 (zU (f 5) (v 3) (sx xs (i + 2)))) 6 (zU (f 6) (v 3) (if (1 : Int) = 0 then 1 else 2))) 7 (zU (f 7) (v 3) (sx xs (i + 3)))) 8 (zU (f 8) (v 3) (sx xs (i + 4))))) (ao, .inl (k 1, al 1 o')) wc')
            replace hD := wl_Dp hD (pm_lb (mWd k A (vS (vS v 0 0) 3 (v 3 + 1)) (fS (fS (fS (fS (fS f 4 (zU (f 4) (v 3) (sx xs (i + 1)))) 5 (zU (f 5) (v 3) (sx xs (i + 2)))) 6 (zU (f 6) (v 3) (if (1 : Int) = 0 then 1 else 2))) 7 (zU (f 7) (v 3) (sx xs (i + 3)))) 8 (zU (f 8) (v 3) (sx xs (i + 4))))) (ao, .inl (k 1, al 1 o')) wc')
            refine W.widen (k := cells + 9) (n := slots + 167) (by omega) (by omega) ?_
            exact kk (vS (vS v 0 0) 3 (v 3 + 1)) (fS (fS (fS (fS (fS f 4 (zU (f 4) (v 3) (sx xs (i + 1)))) 5 (zU (f 5) (v 3) (sx xs (i + 2)))) 6 (zU (f 6) (v 3) (if (1 : Int) = 0 then 1 else 2))) 7 (zU (f 7) (v 3) (sx xs (i + 3)))) 8 (zU (f 8) (v 3) (sx xs (i + 4)))) wc' o' H locs ls hW2 hI2 hP hD hS (lv_sub hl [2, 3, 4, 5, 6] rfl)
          · exact absurd hok hno
      · show W _ _ _ _ _ _ _ _ _ _ _ _ _ _ _ (F0 m9 303 ls [.int (iI (0))])
        refine lv_istore (lv' := [(5, .int (iI (0))), (0, .ref b), (1, .ref cx), (2, .ref (A 26)), (3, .ref ao), (4, .int (iI (i)))]) hx hb d_L_law_303 hl (by decide) rfl (fun ls hl => ?_)
        refine lv_aload_n hx hb d_L_law_305 rfl (lv_at hl 3 rfl) ?_
        refine lv_aload_n hx hb d_L_law_306 rfl (lv_at hl 1 rfl) ?_
        refine lv_iload hx hb d_L_law_307 (lv_at hl 5 rfl) ?_
        refine ri_iconst hx hb d_L_law_309 ?_
        refine ri_iadd hx hb d_L_law_310 ?_
        refine sc_ld hx hb hX hbl hS (by omega) hL3 d_L_law_311 ?_
        refine lv_aload_n hx hb d_L_law_312 rfl (lv_at hl 1 rfl) ?_
        refine lv_iload hx hb d_L_law_313 (lv_at hl 5 rfl) ?_
        refine ri_iconst hx hb d_L_law_315 ?_
        refine ri_iadd hx hb d_L_law_316 ?_
        refine sc_ld hx hb hX hbl hS (by omega) hL3 d_L_law_317 ?_
        refine lv_aload_n hx hb d_L_law_318 rfl (lv_at hl 1 rfl) ?_
        refine lv_iload hx hb d_L_law_319 (lv_at hl 5 rfl) ?_
        refine ri_iconst hx hb d_L_law_321 ?_
        refine ri_iadd hx hb d_L_law_322 ?_
        refine sc_ld hx hb hX hbl hS (by omega) hL3 d_L_law_323 ?_
        refine lv_aload_n hx hb d_L_law_324 rfl (lv_at hl 1 rfl) ?_
        refine lv_iload hx hb d_L_law_325 (lv_at hl 5 rfl) ?_
        refine ri_iconst hx hb d_L_law_327 ?_
        refine ri_iadd hx hb d_L_law_328 ?_
        refine sc_ld hx hb hX hbl hS (by omega) hL3 d_L_law_329 ?_
        refine lv_aload_n hx hb d_L_law_330 rfl (lv_at hl 1 rfl) ?_
        refine lv_iload hx hb d_L_law_331 (lv_at hl 5 rfl) ?_
        refine ri_iconst hx hb d_L_law_333 ?_
        refine ri_iadd hx hb d_L_law_334 ?_
        refine sc_ld hx hb hX hbl hS (by omega) hL3 d_L_law_335 ?_
        refine ri_if_eq (tgt := 343) hx hb d_L_law_336 (by decide) (sx_rg _ _) (fun c336 => ?_) (fun c336 => ?_)
        · exact absurd c336 hz5
        · refine ri_iconst hx hb d_L_law_339 ?_
          refine lv_goto (tgt := 344) hx hb d_L_law_340 (by decide) ?_
          replace hP := wl_Pp hP (pm_law wc' (ao, .inl (k 1, al 1 o')) (mWd k A v f))
          replace hD := wl_Dp hD (pm_law wc' (ao, .inl (k 1, al 1 o')) (mWd k A v f))
          refine wd_callC h0 hS (ex_runV (C := "LathePiecesModel") (As := [.int (iI (sx xs (i + 1))), .int (iI (sx xs (i + 2))), .int (iI (sx xs (i + 3))), .int (iI (sx xs (i + 4))), .int (iI (1))]) (rest := []) ⟨hx, hb, hml, hown, hG⟩ (q_arc hC A hI ((ao, .inl (k 1, al 1 o')) :: wc') (sx xs (i + 1)) (sx xs (i + 2)) (sx_rg _ _) (sx_rg _ _) (sx xs (i + 3)) (sx xs (i + 4)) (1) (sx_rg _ _) (sx_rg _ _) (Or.inr rfl)) (cb_code (n := 5) hG g_738 g_3 g_735 rfl rfl (by decide +kernel) ⟨Nat.le_of_ble_eq_true rfl, Nat.le_of_ble_eq_true rfl⟩) (hG _ g_736) (hG _ g_737) (kd_V (kd_preW h0 hS hP hD) (kd_recv hK hP (q0 := 0) (ci := 6) rfl rfl rfl)) rfl rfl hl.1 rfl (lv_room (Nat.le_of_ble_eq_true rfl)) d_L_law_344 ⟨(show cells + 5 + 0 ≤ 601024 by omega), (show slots + 30 + 0 ≤ 7293034 by omega)⟩) (fun E ws9 hE H locs hP hD hS q T0 hT0 hq => False.elim hE) (fun v9 ws9 h9 H locs hP hD hS => ?_)
          rcases h9.2.2 hq0 with ⟨hno, -, -⟩ | ⟨-, rfl, rfl⟩
          · exact absurd hno hok
          · show W _ _ _ _ _ _ _ _ _ _ _ _ _ _ _ (F0 m9 347 ls [.int (iI (0))])
            refine lv_istore (lv' := [(6, .int (iI (0))), (5, .int (iI (0))), (0, .ref b), (1, .ref cx), (2, .ref (A 26)), (3, .ref ao), (4, .int (iI (i)))]) hx hb d_L_law_347 hl (by decide) rfl (fun ls hl => ?_)
            refine lv_aload_n hx hb d_L_law_349 rfl (lv_at hl 4 rfl) ?_
            refine rd_call (ex_runV (C := "LathePiecesModel") (As := []) (rest := []) ⟨hx, hb, hml, hown, hG⟩ (q_thrown hC A (vS v 0 0) f ((ao, .inl (k 1, al 1 o')) :: wc')) (cb_code (n := 0) hG g_709 g_3 g_706 rfl rfl (by decide +kernel) ⟨Nat.le_of_ble_eq_true rfl, Nat.le_of_ble_eq_true rfl⟩) (hG _ g_707) (hG _ g_708) (kd_V (kd_pre h0 hS hP) (kd_recv hK hP (q0 := 0) (ci := 6) rfl rfl rfl)) rfl rfl hl.1 rfl (lv_room (Nat.le_of_ble_eq_true rfl)) d_L_law_350 ⟨(show cells + 5 + 0 + 0 ≤ 601024 by omega), (show slots + 30 + 0 + 0 ≤ 7293034 by omega)⟩) (fun v9 h9 => ?_)
            subst h9
            show W _ _ _ _ _ _ _ _ _ _ _ _ _ _ _ (F0 m9 353 ls [.int (iI (0))])
            refine lv_iload hx hb d_L_law_353 (lv_at hl 1 rfl) ?_
            refine ri_icmp_eq (tgt := 360) hx hb d_L_law_355 (by decide) (by decide) (by decide) (fun _ => ?_) (fun c355 => absurd rfl c355)
            refine lv_iload hx hb d_L_law_360 (lv_at hl 1 rfl) ?_
            refine ri_if_ne (tgt := 384) hx hb d_L_law_362 (by decide) (by decide) (fun c362 => absurd rfl c362) (fun _ => ?_)
            refine lv_aload_n hx hb d_L_law_365 rfl (lv_at hl 5 rfl) ?_
            refine ri_iconst hx hb d_L_law_366 ?_
            replace hP := wl_Pp hP (pm_lf (mWd k A (vS v 0 0) f) (ao, .inl (k 1, al 1 o')) wc')
            replace hD := wl_Dp hD (pm_lf (mWd k A (vS v 0 0) f) (ao, .inl (k 1, al 1 o')) wc')
            refine ra_lald hx hb hK hP 0 rfl (by omega) (by omega) d_L_law_367 ?_
            refine tp_l (y := jJ (0)) (congrArg jJ ho) ?_
            refine lv_iload hx hb d_L_law_368 (lv_at hl 0 rfl) ?_
            refine ri_if_eq (tgt := 377) hx hb d_L_law_370 (by decide) (by decide) (fun _ => ?_) (fun c370 => absurd rfl c370)
            refine ri_lconst (z := 0) hx hb d_L_law_377 rfl ?_
            refine lc_same (tgt := 384) hx hb d_L_law_378 d_L_law_379 (by decide) ?_
            refine lv_goto (tgt := 1941) hx hb d_L_law_384 (by decide) ?_
            replace hP := wl_Pp hP (pm_lb (mWd k A (vS v 0 0) f) (ao, .inl (k 1, al 1 o')) wc')
            replace hD := wl_Dp hD (pm_lb (mWd k A (vS v 0 0) f) (ao, .inl (k 1, al 1 o')) wc')
            refine W.widen (k := cells + 9) (n := slots + 167) (by omega) (by omega) ?_
            exact kk (vS v 0 0) f wc' o' H locs ls (Cst.code hW2 0) (Iv.code hI 0) hP hD hS (lv_sub hl [2, 3, 4, 5, 6] rfl)
      · show W _ _ _ _ _ _ _ _ _ _ _ _ _ _ _ (F0 m9 303 ls [.int (iI (1))])
        refine lv_istore (lv' := [(5, .int (iI (1))), (0, .ref b), (1, .ref cx), (2, .ref (A 26)), (3, .ref ao), (4, .int (iI (i)))]) hx hb d_L_law_303 hl (by decide) rfl (fun ls hl => ?_)
        refine lv_aload_n hx hb d_L_law_305 rfl (lv_at hl 3 rfl) ?_
        refine lv_aload_n hx hb d_L_law_306 rfl (lv_at hl 1 rfl) ?_
        refine lv_iload hx hb d_L_law_307 (lv_at hl 5 rfl) ?_
        refine ri_iconst hx hb d_L_law_309 ?_
        refine ri_iadd hx hb d_L_law_310 ?_
        refine sc_ld hx hb hX hbl hS (by omega) hL3 d_L_law_311 ?_
        refine lv_aload_n hx hb d_L_law_312 rfl (lv_at hl 1 rfl) ?_
        refine lv_iload hx hb d_L_law_313 (lv_at hl 5 rfl) ?_
        refine ri_iconst hx hb d_L_law_315 ?_
        refine ri_iadd hx hb d_L_law_316 ?_
        refine sc_ld hx hb hX hbl hS (by omega) hL3 d_L_law_317 ?_
        refine lv_aload_n hx hb d_L_law_318 rfl (lv_at hl 1 rfl) ?_
        refine lv_iload hx hb d_L_law_319 (lv_at hl 5 rfl) ?_
        refine ri_iconst hx hb d_L_law_321 ?_
        refine ri_iadd hx hb d_L_law_322 ?_
        refine sc_ld hx hb hX hbl hS (by omega) hL3 d_L_law_323 ?_
        refine lv_aload_n hx hb d_L_law_324 rfl (lv_at hl 1 rfl) ?_
        refine lv_iload hx hb d_L_law_325 (lv_at hl 5 rfl) ?_
        refine ri_iconst hx hb d_L_law_327 ?_
        refine ri_iadd hx hb d_L_law_328 ?_
        refine sc_ld hx hb hX hbl hS (by omega) hL3 d_L_law_329 ?_
        refine lv_aload_n hx hb d_L_law_330 rfl (lv_at hl 1 rfl) ?_
        refine lv_iload hx hb d_L_law_331 (lv_at hl 5 rfl) ?_
        refine ri_iconst hx hb d_L_law_333 ?_
        refine ri_iadd hx hb d_L_law_334 ?_
        refine sc_ld hx hb hX hbl hS (by omega) hL3 d_L_law_335 ?_
        refine ri_if_eq (tgt := 343) hx hb d_L_law_336 (by decide) (sx_rg _ _) (fun c336 => ?_) (fun c336 => ?_)
        · exact absurd c336 hz5
        · refine ri_iconst hx hb d_L_law_339 ?_
          refine lv_goto (tgt := 344) hx hb d_L_law_340 (by decide) ?_
          replace hP := wl_Pp hP (pm_law wc' (ao, .inl (k 1, al 1 o')) (mWd k A v f))
          replace hD := wl_Dp hD (pm_law wc' (ao, .inl (k 1, al 1 o')) (mWd k A v f))
          refine wd_callC h0 hS (ex_runV (C := "LathePiecesModel") (As := [.int (iI (sx xs (i + 1))), .int (iI (sx xs (i + 2))), .int (iI (sx xs (i + 3))), .int (iI (sx xs (i + 4))), .int (iI (1))]) (rest := []) ⟨hx, hb, hml, hown, hG⟩ (q_arc hC A hI ((ao, .inl (k 1, al 1 o')) :: wc') (sx xs (i + 1)) (sx xs (i + 2)) (sx_rg _ _) (sx_rg _ _) (sx xs (i + 3)) (sx xs (i + 4)) (1) (sx_rg _ _) (sx_rg _ _) (Or.inr rfl)) (cb_code (n := 5) hG g_738 g_3 g_735 rfl rfl (by decide +kernel) ⟨Nat.le_of_ble_eq_true rfl, Nat.le_of_ble_eq_true rfl⟩) (hG _ g_736) (hG _ g_737) (kd_V (kd_preW h0 hS hP hD) (kd_recv hK hP (q0 := 0) (ci := 6) rfl rfl rfl)) rfl rfl hl.1 rfl (lv_room (Nat.le_of_ble_eq_true rfl)) d_L_law_344 ⟨(show cells + 5 + 0 ≤ 601024 by omega), (show slots + 30 + 0 ≤ 7293034 by omega)⟩) (fun E ws9 hE H locs hP hD hS q T0 hT0 hq => False.elim hE) (fun v9 ws9 h9 H locs hP hD hS => ?_)
          obtain ⟨rfl, rfl⟩ := h9.1 hq0
          show W _ _ _ _ _ _ _ _ _ _ _ _ _ _ _ (F0 m9 347 ls [.int (iI (0))])
          refine lv_istore (lv' := [(6, .int (iI (0))), (5, .int (iI (1))), (0, .ref b), (1, .ref cx), (2, .ref (A 26)), (3, .ref ao), (4, .int (iI (i)))]) hx hb d_L_law_347 hl (by decide) rfl (fun ls hl => ?_)
          refine lv_aload_n hx hb d_L_law_349 rfl (lv_at hl 4 rfl) ?_
          refine rd_call (ex_runV (C := "LathePiecesModel") (As := []) (rest := []) ⟨hx, hb, hml, hown, hG⟩ (q_thrown hC A (vS v 0 1) f ((ao, .inl (k 1, al 1 o')) :: wc')) (cb_code (n := 0) hG g_709 g_3 g_706 rfl rfl (by decide +kernel) ⟨Nat.le_of_ble_eq_true rfl, Nat.le_of_ble_eq_true rfl⟩) (hG _ g_707) (hG _ g_708) (kd_V (kd_pre h0 hS hP) (kd_recv hK hP (q0 := 0) (ci := 6) rfl rfl rfl)) rfl rfl hl.1 rfl (lv_room (Nat.le_of_ble_eq_true rfl)) d_L_law_350 ⟨(show cells + 5 + 0 + 0 ≤ 601024 by omega), (show slots + 30 + 0 + 0 ≤ 7293034 by omega)⟩) (fun v9 h9 => ?_)
          subst h9
          show W _ _ _ _ _ _ _ _ _ _ _ _ _ _ _ (F0 m9 353 ls [.int (iI (1))])
          refine lv_iload hx hb d_L_law_353 (lv_at hl 1 rfl) ?_
          refine ri_icmp_eq (tgt := 360) hx hb d_L_law_355 (by decide) (by decide) (by decide) (fun _ => ?_) (fun c355 => absurd rfl c355)
          refine lv_iload hx hb d_L_law_360 (lv_at hl 1 rfl) ?_
          refine ri_if_ne (tgt := 384) hx hb d_L_law_362 (by decide) (by decide) (fun _ => ?_) (fun c362 => absurd c362 (by decide))
          refine lv_goto (tgt := 1941) hx hb d_L_law_384 (by decide) ?_
          replace hP := wl_Pp hP (pm_law (mWd k A (vS v 0 1) f) (ao, .inl (k 1, al 1 o')) wc')
          replace hD := wl_Dp hD (pm_law (mWd k A (vS v 0 1) f) (ao, .inl (k 1, al 1 o')) wc')
          refine W.widen (k := cells + 9) (n := slots + 167) (by omega) (by omega) ?_
          exact kk (vS v 0 1) f wc' o' H locs ls (Cst.code hW2 1) (Iv.code hI 1) hP hD hS (lv_sub hl [2, 3, 4, 5, 6] rfl)
      · show W _ _ _ _ _ _ _ _ _ _ _ _ _ _ _ (F0 m9 303 ls [.int (iI (2))])
        refine lv_istore (lv' := [(5, .int (iI (2))), (0, .ref b), (1, .ref cx), (2, .ref (A 26)), (3, .ref ao), (4, .int (iI (i)))]) hx hb d_L_law_303 hl (by decide) rfl (fun ls hl => ?_)
        refine lv_aload_n hx hb d_L_law_305 rfl (lv_at hl 3 rfl) ?_
        refine lv_aload_n hx hb d_L_law_306 rfl (lv_at hl 1 rfl) ?_
        refine lv_iload hx hb d_L_law_307 (lv_at hl 5 rfl) ?_
        refine ri_iconst hx hb d_L_law_309 ?_
        refine ri_iadd hx hb d_L_law_310 ?_
        refine sc_ld hx hb hX hbl hS (by omega) hL3 d_L_law_311 ?_
        refine lv_aload_n hx hb d_L_law_312 rfl (lv_at hl 1 rfl) ?_
        refine lv_iload hx hb d_L_law_313 (lv_at hl 5 rfl) ?_
        refine ri_iconst hx hb d_L_law_315 ?_
        refine ri_iadd hx hb d_L_law_316 ?_
        refine sc_ld hx hb hX hbl hS (by omega) hL3 d_L_law_317 ?_
        refine lv_aload_n hx hb d_L_law_318 rfl (lv_at hl 1 rfl) ?_
        refine lv_iload hx hb d_L_law_319 (lv_at hl 5 rfl) ?_
        refine ri_iconst hx hb d_L_law_321 ?_
        refine ri_iadd hx hb d_L_law_322 ?_
        refine sc_ld hx hb hX hbl hS (by omega) hL3 d_L_law_323 ?_
        refine lv_aload_n hx hb d_L_law_324 rfl (lv_at hl 1 rfl) ?_
        refine lv_iload hx hb d_L_law_325 (lv_at hl 5 rfl) ?_
        refine ri_iconst hx hb d_L_law_327 ?_
        refine ri_iadd hx hb d_L_law_328 ?_
        refine sc_ld hx hb hX hbl hS (by omega) hL3 d_L_law_329 ?_
        refine lv_aload_n hx hb d_L_law_330 rfl (lv_at hl 1 rfl) ?_
        refine lv_iload hx hb d_L_law_331 (lv_at hl 5 rfl) ?_
        refine ri_iconst hx hb d_L_law_333 ?_
        refine ri_iadd hx hb d_L_law_334 ?_
        refine sc_ld hx hb hX hbl hS (by omega) hL3 d_L_law_335 ?_
        refine ri_if_eq (tgt := 343) hx hb d_L_law_336 (by decide) (sx_rg _ _) (fun c336 => ?_) (fun c336 => ?_)
        · exact absurd c336 hz5
        · refine ri_iconst hx hb d_L_law_339 ?_
          refine lv_goto (tgt := 344) hx hb d_L_law_340 (by decide) ?_
          replace hP := wl_Pp hP (pm_law wc' (ao, .inl (k 1, al 1 o')) (mWd k A v f))
          replace hD := wl_Dp hD (pm_law wc' (ao, .inl (k 1, al 1 o')) (mWd k A v f))
          refine wd_callC h0 hS (ex_runV (C := "LathePiecesModel") (As := [.int (iI (sx xs (i + 1))), .int (iI (sx xs (i + 2))), .int (iI (sx xs (i + 3))), .int (iI (sx xs (i + 4))), .int (iI (1))]) (rest := []) ⟨hx, hb, hml, hown, hG⟩ (q_arc hC A hI ((ao, .inl (k 1, al 1 o')) :: wc') (sx xs (i + 1)) (sx xs (i + 2)) (sx_rg _ _) (sx_rg _ _) (sx xs (i + 3)) (sx xs (i + 4)) (1) (sx_rg _ _) (sx_rg _ _) (Or.inr rfl)) (cb_code (n := 5) hG g_738 g_3 g_735 rfl rfl (by decide +kernel) ⟨Nat.le_of_ble_eq_true rfl, Nat.le_of_ble_eq_true rfl⟩) (hG _ g_736) (hG _ g_737) (kd_V (kd_preW h0 hS hP hD) (kd_recv hK hP (q0 := 0) (ci := 6) rfl rfl rfl)) rfl rfl hl.1 rfl (lv_room (Nat.le_of_ble_eq_true rfl)) d_L_law_344 ⟨(show cells + 5 + 0 ≤ 601024 by omega), (show slots + 30 + 0 ≤ 7293034 by omega)⟩) (fun E ws9 hE H locs hP hD hS q T0 hT0 hq => False.elim hE) (fun v9 ws9 h9 H locs hP hD hS => ?_)
          obtain ⟨rfl, rfl⟩ := h9.2.1 hq0
          show W _ _ _ _ _ _ _ _ _ _ _ _ _ _ _ (F0 m9 347 ls [.int (iI (0))])
          refine lv_istore (lv' := [(6, .int (iI (0))), (5, .int (iI (2))), (0, .ref b), (1, .ref cx), (2, .ref (A 26)), (3, .ref ao), (4, .int (iI (i)))]) hx hb d_L_law_347 hl (by decide) rfl (fun ls hl => ?_)
          refine lv_aload_n hx hb d_L_law_349 rfl (lv_at hl 4 rfl) ?_
          refine rd_call (ex_runV (C := "LathePiecesModel") (As := []) (rest := []) ⟨hx, hb, hml, hown, hG⟩ (q_thrown hC A (vS v 0 2) f ((ao, .inl (k 1, al 1 o')) :: wc')) (cb_code (n := 0) hG g_709 g_3 g_706 rfl rfl (by decide +kernel) ⟨Nat.le_of_ble_eq_true rfl, Nat.le_of_ble_eq_true rfl⟩) (hG _ g_707) (hG _ g_708) (kd_V (kd_pre h0 hS hP) (kd_recv hK hP (q0 := 0) (ci := 6) rfl rfl rfl)) rfl rfl hl.1 rfl (lv_room (Nat.le_of_ble_eq_true rfl)) d_L_law_350 ⟨(show cells + 5 + 0 + 0 ≤ 601024 by omega), (show slots + 30 + 0 + 0 ≤ 7293034 by omega)⟩) (fun v9 h9 => ?_)
          subst h9
          show W _ _ _ _ _ _ _ _ _ _ _ _ _ _ _ (F0 m9 353 ls [.int (iI (2))])
          refine lv_iload hx hb d_L_law_353 (lv_at hl 1 rfl) ?_
          refine ri_icmp_eq (tgt := 360) hx hb d_L_law_355 (by decide) (by decide) (by decide) (fun _ => ?_) (fun c355 => absurd rfl c355)
          refine lv_iload hx hb d_L_law_360 (lv_at hl 1 rfl) ?_
          refine ri_if_ne (tgt := 384) hx hb d_L_law_362 (by decide) (by decide) (fun _ => ?_) (fun c362 => absurd c362 (by decide))
          refine lv_goto (tgt := 1941) hx hb d_L_law_384 (by decide) ?_
          replace hP := wl_Pp hP (pm_law (mWd k A (vS v 0 2) f) (ao, .inl (k 1, al 1 o')) wc')
          replace hD := wl_Dp hD (pm_law (mWd k A (vS v 0 2) f) (ao, .inl (k 1, al 1 o')) wc')
          refine W.widen (k := cells + 9) (n := slots + 167) (by omega) (by omega) ?_
          exact kk (vS v 0 2) f wc' o' H locs ls (Cst.code hW2 2) (Iv.code hI 2) hP hD hS (lv_sub hl [2, 3, 4, 5, 6] rfl)
set_option maxHeartbeats 4000000 in
set_option maxRecDepth 100000 in
theorem t_turn {p9 : Program} {l : Launch} {e9 : Env} {s : State} {m9 : MethodId} {below9 : List Frame} {meth9 : Method} {c9 : Code} {Q9 : State → Prop} {b L : Nat} {xs : Nat → Int32} {D : va_G} {k : Nat → ClassId} (C0 : LwC p9 l s m9 c9 b L xs D k) {cx : Nat} {A : Nat → Nat} {ao : Nat} {i : Int} {cells slots : Nat} (hi : 0 ≤ i ∧ i + 5 < L) (hc : cells + 9 ≤ 601024) (hs : slots + 167 ≤ 7293034) (kk : LwK p9 l e9 s m9 below9 meth9 c9 b D k cx A ao i (cells + 9) (slots + 167) Q9) {v : Nat → Int} {f : Nat → Int → Int} {wc : va_W} {o9 : Int → Int} {H : Heap} {locs : List Loc} {ls : Array Slot} (hI : Iv v f) (hW : Cst k cx v f wc) (hP : va_P D classes (wc ++ ((ao, .inl (k 1, al 1 o9)) :: mWd k A v f)) H) (hD : va_D (aL s) (wc ++ ((ao, .inl (k 1, al 1 o9)) :: mWd k A v f))) (hS : va_S (aL s) s.heap H locs) (hl : lv_has ls 8 [(0, .ref b), (1, .ref cx), (2, .ref (A 26)), (3, .ref ao), (4, .int (iI (i)))]) : W p9 l e9 room_1 s m9 #[Value.ref b] below9 meth9 c9 H locs cells slots Q9 (F0 m9 387 ls []) := by
  obtain ⟨hx, hb, hml, hown, hG, hX, hbl, hL3, hC⟩ := id C0
  have h0 : La s s := ⟨State.WarmedH.refl s, Nat.le_refl _, fun _ _ => rfl⟩
  have hK := cx_K hC h0
  refine lv_aload_n hx hb d_L_law_387 rfl (lv_at hl 1 rfl) ?_
  refine lv_aload_n hx hb d_L_law_388 rfl (lv_at hl 3 rfl) ?_
  refine wd_callC h0 hS (ex_runS (As := [.ref cx, .ref ao]) (rest := []) ⟨hx, hb, hml, hown, hG⟩ (w_turn hC hI hW (mWd k A v f) ao o9 ) (cb_with (n := 2) hG g_257 g_0 g_255 rfl rfl (by decide +kernel) ⟨Nat.le_of_ble_eq_true rfl, Nat.le_of_ble_eq_true rfl⟩) (hG _ g_256) (kd_preW h0 hS hP hD) rfl rfl hl.1 rfl (lv_room (Nat.le_of_ble_eq_true rfl)) d_L_law_389 ⟨(show cells + 2 ≤ 601024 by omega), (show slots + 69 ≤ 7293034 by omega)⟩) (fun E ws9 hE H locs hP hD hS q T0 hT0 hq => False.elim hE) (fun v9 ws9 h9 H locs hP hD hS => ?_)
  obtain ⟨wc', o', kz, rfl, rfl, h9⟩ := h9
  rcases h9 with ⟨rfl, hq0, ho, hW2⟩ | ⟨rfl, hq0, hW2⟩
  · show W _ _ _ _ _ _ _ _ _ _ _ _ _ _ _ (F0 m9 392 ls [.int (iI (0))])
    refine lv_istore (lv' := [(5, .int (iI (0))), (0, .ref b), (1, .ref cx), (2, .ref (A 26)), (3, .ref ao), (4, .int (iI (i)))]) hx hb d_L_law_392 hl (by decide) rfl (fun ls hl => ?_)
    refine lv_aload_n hx hb d_L_law_394 rfl (lv_at hl 3 rfl) ?_
    replace hP := wl_Pp hP (pm_law wc' (ao, .inl (k 1, al 1 o')) (mWd k A v f))
    replace hD := wl_Dp hD (pm_law wc' (ao, .inl (k 1, al 1 o')) (mWd k A v f))
    refine wd_callC h0 hS (ex_runV (C := "LathePiecesModel") (As := []) (rest := []) ⟨hx, hb, hml, hown, hG⟩ (q_turn hC A hI ((ao, .inl (k 1, al 1 o')) :: wc') ) (cb_code (n := 0) hG g_753 g_3 g_750 rfl rfl (by decide +kernel) ⟨Nat.le_of_ble_eq_true rfl, Nat.le_of_ble_eq_true rfl⟩) (hG _ g_751) (hG _ g_752) (kd_V (kd_preW h0 hS hP hD) (kd_recv hK hP (q0 := 0) (ci := 6) rfl rfl rfl)) rfl rfl hl.1 rfl (lv_room (Nat.le_of_ble_eq_true rfl)) d_L_law_395 ⟨(show cells + 2 + 0 ≤ 601024 by omega), (show slots + 69 + 0 ≤ 7293034 by omega)⟩) (fun E ws9 hE H locs hP hD hS q T0 hT0 hq => False.elim hE) (fun v9 ws9 h9 H locs hP hD hS => ?_)
    obtain ⟨g12, rfl, hg1, hg2, hg3, rfl⟩ := h9.2 hq0
    show W _ _ _ _ _ _ _ _ _ _ _ _ _ _ _ (F0 m9 398 ls [.int (iI (v 9))])
    refine lv_istore (lv' := [(6, .int (iI (v 9))), (5, .int (iI (0))), (0, .ref b), (1, .ref cx), (2, .ref (A 26)), (3, .ref ao), (4, .int (iI (i)))]) hx hb d_L_law_398 hl (by decide) rfl (fun ls hl => ?_)
    refine lv_aload_n hx hb d_L_law_400 rfl (lv_at hl 4 rfl) ?_
    refine rd_call (ex_runV (C := "LathePiecesModel") (As := []) (rest := []) ⟨hx, hb, hml, hown, hG⟩ (q_thrown hC A (vS (vS v 0 0) 9 (v 9 + 1)) (fS (fS (fS f 10 (zU (f 10) (v 9) (pA (f 4) (v 3)))) 11 (zU (f 11) (v 9) (v 3))) 12 g12) ((ao, .inl (k 1, al 1 o')) :: wc')) (cb_code (n := 0) hG g_709 g_3 g_706 rfl rfl (by decide +kernel) ⟨Nat.le_of_ble_eq_true rfl, Nat.le_of_ble_eq_true rfl⟩) (hG _ g_707) (hG _ g_708) (kd_V (kd_pre h0 hS hP) (kd_recv hK hP (q0 := 0) (ci := 6) rfl rfl rfl)) rfl rfl hl.1 rfl (lv_room (Nat.le_of_ble_eq_true rfl)) d_L_law_401 ⟨(show cells + 2 + 0 + 0 ≤ 601024 by omega), (show slots + 69 + 0 + 0 ≤ 7293034 by omega)⟩) (fun v9 h9 => ?_)
    subst h9
    show W _ _ _ _ _ _ _ _ _ _ _ _ _ _ _ (F0 m9 404 ls [.int (iI (0))])
    refine lv_iload hx hb d_L_law_404 (lv_at hl 1 rfl) ?_
    refine ri_icmp_eq (tgt := 411) hx hb d_L_law_406 (by decide) (by decide) (by decide) (fun _ => ?_) (fun c406 => absurd rfl c406)
    refine lv_iload hx hb d_L_law_411 (lv_at hl 1 rfl) ?_
    refine ri_if_ne (tgt := 428) hx hb d_L_law_413 (by decide) (by decide) (fun c413 => absurd rfl c413) (fun _ => ?_)
    refine lv_aload_n hx hb d_L_law_416 rfl (lv_at hl 5 rfl) ?_
    refine ri_iconst hx hb d_L_law_417 ?_
    replace hP := wl_Pp hP (pm_lf (mWd k A (vS (vS v 0 0) 9 (v 9 + 1)) (fS (fS (fS f 10 (zU (f 10) (v 9) (pA (f 4) (v 3)))) 11 (zU (f 11) (v 9) (v 3))) 12 g12)) (ao, .inl (k 1, al 1 o')) wc')
    replace hD := wl_Dp hD (pm_lf (mWd k A (vS (vS v 0 0) 9 (v 9 + 1)) (fS (fS (fS f 10 (zU (f 10) (v 9) (pA (f 4) (v 3)))) 11 (zU (f 11) (v 9) (v 3))) 12 g12)) (ao, .inl (k 1, al 1 o')) wc')
    refine ra_lald hx hb hK hP 0 rfl (by omega) (by omega) d_L_law_418 ?_
    refine tp_l (y := jJ (tw (v 9))) (congrArg jJ ho) ?_
    refine lv_iload hx hb d_L_law_419 (lv_at hl 0 rfl) ?_
    refine ri_i2lw hx hb d_L_law_421 ?_
    refine lc_same (tgt := 428) hx hb d_L_law_422 d_L_law_423 (by decide) ?_
    refine lv_goto (tgt := 1941) hx hb d_L_law_428 (by decide) ?_
    replace hP := wl_Pp hP (pm_lb (mWd k A (vS (vS v 0 0) 9 (v 9 + 1)) (fS (fS (fS f 10 (zU (f 10) (v 9) (pA (f 4) (v 3)))) 11 (zU (f 11) (v 9) (v 3))) 12 g12)) (ao, .inl (k 1, al 1 o')) wc')
    replace hD := wl_Dp hD (pm_lb (mWd k A (vS (vS v 0 0) 9 (v 9 + 1)) (fS (fS (fS f 10 (zU (f 10) (v 9) (pA (f 4) (v 3)))) 11 (zU (f 11) (v 9) (v 3))) 12 g12)) (ao, .inl (k 1, al 1 o')) wc')
    refine W.widen (k := cells + 9) (n := slots + 167) (by omega) (by omega) ?_
    exact kk (vS (vS v 0 0) 9 (v 9 + 1)) (fS (fS (fS f 10 (zU (f 10) (v 9) (pA (f 4) (v 3)))) 11 (zU (f 11) (v 9) (v 3))) 12 g12) wc' o' H locs ls (hW2 g12 ⟨hg1, hg2, hg3⟩).1 (hW2 g12 ⟨hg1, hg2, hg3⟩).2 hP hD hS (lv_sub hl [2, 3, 4, 5, 6] rfl)
  · show W _ _ _ _ _ _ _ _ _ _ _ _ _ _ _ (F0 m9 392 ls [.int (iI (1))])
    refine lv_istore (lv' := [(5, .int (iI (1))), (0, .ref b), (1, .ref cx), (2, .ref (A 26)), (3, .ref ao), (4, .int (iI (i)))]) hx hb d_L_law_392 hl (by decide) rfl (fun ls hl => ?_)
    refine lv_aload_n hx hb d_L_law_394 rfl (lv_at hl 3 rfl) ?_
    replace hP := wl_Pp hP (pm_law wc' (ao, .inl (k 1, al 1 o')) (mWd k A v f))
    replace hD := wl_Dp hD (pm_law wc' (ao, .inl (k 1, al 1 o')) (mWd k A v f))
    refine wd_callC h0 hS (ex_runV (C := "LathePiecesModel") (As := []) (rest := []) ⟨hx, hb, hml, hown, hG⟩ (q_turn hC A hI ((ao, .inl (k 1, al 1 o')) :: wc') ) (cb_code (n := 0) hG g_753 g_3 g_750 rfl rfl (by decide +kernel) ⟨Nat.le_of_ble_eq_true rfl, Nat.le_of_ble_eq_true rfl⟩) (hG _ g_751) (hG _ g_752) (kd_V (kd_preW h0 hS hP hD) (kd_recv hK hP (q0 := 0) (ci := 6) rfl rfl rfl)) rfl rfl hl.1 rfl (lv_room (Nat.le_of_ble_eq_true rfl)) d_L_law_395 ⟨(show cells + 2 + 0 ≤ 601024 by omega), (show slots + 69 + 0 ≤ 7293034 by omega)⟩) (fun E ws9 hE H locs hP hD hS q T0 hT0 hq => False.elim hE) (fun v9 ws9 h9 H locs hP hD hS => ?_)
    obtain ⟨rfl, rfl⟩ := h9.1 hq0
    show W _ _ _ _ _ _ _ _ _ _ _ _ _ _ _ (F0 m9 398 ls [.int (iI (0))])
    refine lv_istore (lv' := [(6, .int (iI (0))), (5, .int (iI (1))), (0, .ref b), (1, .ref cx), (2, .ref (A 26)), (3, .ref ao), (4, .int (iI (i)))]) hx hb d_L_law_398 hl (by decide) rfl (fun ls hl => ?_)
    refine lv_aload_n hx hb d_L_law_400 rfl (lv_at hl 4 rfl) ?_
    refine rd_call (ex_runV (C := "LathePiecesModel") (As := []) (rest := []) ⟨hx, hb, hml, hown, hG⟩ (q_thrown hC A (vS v 0 1) f ((ao, .inl (k 1, al 1 o')) :: wc')) (cb_code (n := 0) hG g_709 g_3 g_706 rfl rfl (by decide +kernel) ⟨Nat.le_of_ble_eq_true rfl, Nat.le_of_ble_eq_true rfl⟩) (hG _ g_707) (hG _ g_708) (kd_V (kd_pre h0 hS hP) (kd_recv hK hP (q0 := 0) (ci := 6) rfl rfl rfl)) rfl rfl hl.1 rfl (lv_room (Nat.le_of_ble_eq_true rfl)) d_L_law_401 ⟨(show cells + 2 + 0 + 0 ≤ 601024 by omega), (show slots + 69 + 0 + 0 ≤ 7293034 by omega)⟩) (fun v9 h9 => ?_)
    subst h9
    show W _ _ _ _ _ _ _ _ _ _ _ _ _ _ _ (F0 m9 404 ls [.int (iI (1))])
    refine lv_iload hx hb d_L_law_404 (lv_at hl 1 rfl) ?_
    refine ri_icmp_eq (tgt := 411) hx hb d_L_law_406 (by decide) (by decide) (by decide) (fun _ => ?_) (fun c406 => absurd rfl c406)
    refine lv_iload hx hb d_L_law_411 (lv_at hl 1 rfl) ?_
    refine ri_if_ne (tgt := 428) hx hb d_L_law_413 (by decide) (by decide) (fun _ => ?_) (fun c413 => absurd c413 (by decide))
    refine lv_goto (tgt := 1941) hx hb d_L_law_428 (by decide) ?_
    replace hP := wl_Pp hP (pm_law (mWd k A (vS v 0 1) f) (ao, .inl (k 1, al 1 o')) wc')
    replace hD := wl_Dp hD (pm_law (mWd k A (vS v 0 1) f) (ao, .inl (k 1, al 1 o')) wc')
    refine W.widen (k := cells + 9) (n := slots + 167) (by omega) (by omega) ?_
    exact kk (vS v 0 1) f wc' o' H locs ls (Cst.code hW2 1) (Iv.code hI 1) hP hD hS (lv_sub hl [2, 3, 4, 5, 6] rfl)
set_option maxHeartbeats 4000000 in
set_option maxRecDepth 100000 in
theorem t_radius {p9 : Program} {l : Launch} {e9 : Env} {s : State} {m9 : MethodId} {below9 : List Frame} {meth9 : Method} {c9 : Code} {Q9 : State → Prop} {b L : Nat} {xs : Nat → Int32} {D : va_G} {k : Nat → ClassId} (C0 : LwC p9 l s m9 c9 b L xs D k) {cx : Nat} {A : Nat → Nat} {ao : Nat} {i : Int} {cells slots : Nat} (hi : 0 ≤ i ∧ i + 5 < L) (hc : cells + 9 ≤ 601024) (hs : slots + 167 ≤ 7293034) (kk : LwK p9 l e9 s m9 below9 meth9 c9 b D k cx A ao i (cells + 9) (slots + 167) Q9) {v : Nat → Int} {f : Nat → Int → Int} {wc : va_W} {o9 : Int → Int} {H : Heap} {locs : List Loc} {ls : Array Slot} (hI : Iv v f) (hW : Cst k cx v f wc) (hP : va_P D classes (wc ++ ((ao, .inl (k 1, al 1 o9)) :: mWd k A v f)) H) (hD : va_D (aL s) (wc ++ ((ao, .inl (k 1, al 1 o9)) :: mWd k A v f))) (hS : va_S (aL s) s.heap H locs) (hl : lv_has ls 8 [(0, .ref b), (1, .ref cx), (2, .ref (A 26)), (3, .ref ao), (4, .int (iI (i)))]) : W p9 l e9 room_1 s m9 #[Value.ref b] below9 meth9 c9 H locs cells slots Q9 (F0 m9 431 ls []) := by
  obtain ⟨hx, hb, hml, hown, hG, hX, hbl, hL3, hC⟩ := id C0
  have h0 : La s s := ⟨State.WarmedH.refl s, Nat.le_refl _, fun _ _ => rfl⟩
  have hK := cx_K hC h0
  refine lv_aload_n hx hb d_L_law_431 rfl (lv_at hl 1 rfl) ?_
  refine lv_aload_n hx hb d_L_law_432 rfl (lv_at hl 0 rfl) ?_
  refine lv_iload hx hb d_L_law_433 (lv_at hl 4 rfl) ?_
  refine ri_iconst hx hb d_L_law_435 ?_
  refine ri_iadd hx hb d_L_law_436 ?_
  refine sc_ld hx hb hX hbl hS (by omega) hL3 d_L_law_437 ?_
  refine lv_aload_n hx hb d_L_law_438 rfl (lv_at hl 0 rfl) ?_
  refine lv_iload hx hb d_L_law_439 (lv_at hl 4 rfl) ?_
  refine ri_iconst hx hb d_L_law_441 ?_
  refine ri_iadd hx hb d_L_law_442 ?_
  refine sc_ld hx hb hX hbl hS (by omega) hL3 d_L_law_443 ?_
  refine lv_aload_n hx hb d_L_law_444 rfl (lv_at hl 3 rfl) ?_
  refine wd_callC h0 hS (ex_runS (As := [.ref cx, .int (iI (sx xs (i + 1))), .int (iI (sx xs (i + 2))), .ref ao]) (rest := []) ⟨hx, hb, hml, hown, hG⟩ (w_radius hC hI hW (mWd k A v f) ao o9 (sx xs (i + 1)) (sx xs (i + 2)) (sx_rg _ _) (sx_rg _ _)) (cb_with (n := 4) hG g_302 g_0 g_300 rfl rfl (by decide +kernel) ⟨Nat.le_of_ble_eq_true rfl, Nat.le_of_ble_eq_true rfl⟩) (hG _ g_301) (kd_preW h0 hS hP hD) rfl rfl hl.1 rfl (lv_room (Nat.le_of_ble_eq_true rfl)) d_L_law_445 ⟨(show cells + 2 ≤ 601024 by omega), (show slots + 12 ≤ 7293034 by omega)⟩) (fun E ws9 hE H locs hP hD hS q T0 hT0 hq => False.elim hE) (fun v9 ws9 h9 H locs hP hD hS => ?_)
  obtain ⟨wc', o', kz, rfl, rfl, h9⟩ := h9
  rcases h9 with ⟨rfl, hq0, ho, hW2, hI2⟩ | ⟨rfl, hq0, hW2⟩
  · show W _ _ _ _ _ _ _ _ _ _ _ _ _ _ _ (F0 m9 448 ls [.int (iI (0))])
    refine lv_istore (lv' := [(5, .int (iI (0))), (0, .ref b), (1, .ref cx), (2, .ref (A 26)), (3, .ref ao), (4, .int (iI (i)))]) hx hb d_L_law_448 hl (by decide) rfl (fun ls hl => ?_)
    refine lv_aload_n hx hb d_L_law_450 rfl (lv_at hl 3 rfl) ?_
    refine lv_aload_n hx hb d_L_law_451 rfl (lv_at hl 1 rfl) ?_
    refine lv_iload hx hb d_L_law_452 (lv_at hl 5 rfl) ?_
    refine ri_iconst hx hb d_L_law_454 ?_
    refine ri_iadd hx hb d_L_law_455 ?_
    refine sc_ld hx hb hX hbl hS (by omega) hL3 d_L_law_456 ?_
    refine lv_aload_n hx hb d_L_law_457 rfl (lv_at hl 1 rfl) ?_
    refine lv_iload hx hb d_L_law_458 (lv_at hl 5 rfl) ?_
    refine ri_iconst hx hb d_L_law_460 ?_
    refine ri_iadd hx hb d_L_law_461 ?_
    refine sc_ld hx hb hX hbl hS (by omega) hL3 d_L_law_462 ?_
    replace hP := wl_Pp hP (pm_law wc' (ao, .inl (k 1, al 1 o')) (mWd k A v f))
    replace hD := wl_Dp hD (pm_law wc' (ao, .inl (k 1, al 1 o')) (mWd k A v f))
    refine wd_callC h0 hS (ex_runV (C := "LathePiecesModel") (As := [.int (iI (sx xs (i + 1))), .int (iI (sx xs (i + 2)))]) (rest := []) ⟨hx, hb, hml, hown, hG⟩ (q_radius hC A hI ((ao, .inl (k 1, al 1 o')) :: wc') (sx xs (i + 1)) (sx xs (i + 2)) (sx_rg _ _) (sx_rg _ _)) (cb_code (n := 2) hG g_764 g_3 g_761 rfl rfl (by decide +kernel) ⟨Nat.le_of_ble_eq_true rfl, Nat.le_of_ble_eq_true rfl⟩) (hG _ g_762) (hG _ g_763) (kd_V (kd_preW h0 hS hP hD) (kd_recv hK hP (q0 := 0) (ci := 6) rfl rfl rfl)) rfl rfl hl.1 rfl (lv_room (Nat.le_of_ble_eq_true rfl)) d_L_law_463 ⟨(show cells + 2 + 0 ≤ 601024 by omega), (show slots + 12 + 0 ≤ 7293034 by omega)⟩) (fun E ws9 hE H locs hP hD hS q T0 hT0 hq => False.elim hE) (fun v9 ws9 h9 H locs hP hD hS => ?_)
    obtain ⟨rfl, rfl⟩ := h9.2 hq0
    show W _ _ _ _ _ _ _ _ _ _ _ _ _ _ _ (F0 m9 466 ls [.int (iI ((f 12) (65 * (sx xs (i + 1)) + (sx xs (i + 2)))))])
    refine lv_istore (lv' := [(6, .int (iI ((f 12) (65 * (sx xs (i + 1)) + (sx xs (i + 2)))))), (5, .int (iI (0))), (0, .ref b), (1, .ref cx), (2, .ref (A 26)), (3, .ref ao), (4, .int (iI (i)))]) hx hb d_L_law_466 hl (by decide) rfl (fun ls hl => ?_)
    refine lv_aload_n hx hb d_L_law_468 rfl (lv_at hl 4 rfl) ?_
    refine rd_call (ex_runV (C := "LathePiecesModel") (As := []) (rest := []) ⟨hx, hb, hml, hown, hG⟩ (q_thrown hC A (vS v 0 0) f ((ao, .inl (k 1, al 1 o')) :: wc')) (cb_code (n := 0) hG g_709 g_3 g_706 rfl rfl (by decide +kernel) ⟨Nat.le_of_ble_eq_true rfl, Nat.le_of_ble_eq_true rfl⟩) (hG _ g_707) (hG _ g_708) (kd_V (kd_pre h0 hS hP) (kd_recv hK hP (q0 := 0) (ci := 6) rfl rfl rfl)) rfl rfl hl.1 rfl (lv_room (Nat.le_of_ble_eq_true rfl)) d_L_law_469 ⟨(show cells + 2 + 0 + 0 ≤ 601024 by omega), (show slots + 12 + 0 + 0 ≤ 7293034 by omega)⟩) (fun v9 h9 => ?_)
    subst h9
    show W _ _ _ _ _ _ _ _ _ _ _ _ _ _ _ (F0 m9 472 ls [.int (iI (0))])
    refine lv_iload hx hb d_L_law_472 (lv_at hl 1 rfl) ?_
    refine ri_icmp_eq (tgt := 479) hx hb d_L_law_474 (by decide) (by decide) (by decide) (fun _ => ?_) (fun c474 => absurd rfl c474)
    refine lv_iload hx hb d_L_law_479 (lv_at hl 1 rfl) ?_
    refine ri_if_ne (tgt := 496) hx hb d_L_law_481 (by decide) (by decide) (fun c481 => absurd rfl c481) (fun _ => ?_)
    refine lv_aload_n hx hb d_L_law_484 rfl (lv_at hl 5 rfl) ?_
    refine ri_iconst hx hb d_L_law_485 ?_
    replace hP := wl_Pp hP (pm_lf (mWd k A (vS v 0 0) f) (ao, .inl (k 1, al 1 o')) wc')
    replace hD := wl_Dp hD (pm_lf (mWd k A (vS v 0 0) f) (ao, .inl (k 1, al 1 o')) wc')
    refine ra_lald hx hb hK hP 0 rfl (by omega) (by omega) d_L_law_486 ?_
    refine tp_l (y := jJ (tw ((f 12) (65 * (sx xs (i + 1)) + (sx xs (i + 2)))))) (congrArg jJ ho) ?_
    refine lv_iload hx hb d_L_law_487 (lv_at hl 0 rfl) ?_
    refine ri_i2lw hx hb d_L_law_489 ?_
    refine lc_same (tgt := 496) hx hb d_L_law_490 d_L_law_491 (by decide) ?_
    refine lv_goto (tgt := 1941) hx hb d_L_law_496 (by decide) ?_
    replace hP := wl_Pp hP (pm_lb (mWd k A (vS v 0 0) f) (ao, .inl (k 1, al 1 o')) wc')
    replace hD := wl_Dp hD (pm_lb (mWd k A (vS v 0 0) f) (ao, .inl (k 1, al 1 o')) wc')
    refine W.widen (k := cells + 9) (n := slots + 167) (by omega) (by omega) ?_
    exact kk (vS v 0 0) f wc' o' H locs ls (Cst.code hW2 0) (Iv.code hI2 0) hP hD hS (lv_sub hl [2, 3, 4, 5, 6] rfl)
  · show W _ _ _ _ _ _ _ _ _ _ _ _ _ _ _ (F0 m9 448 ls [.int (iI (1))])
    refine lv_istore (lv' := [(5, .int (iI (1))), (0, .ref b), (1, .ref cx), (2, .ref (A 26)), (3, .ref ao), (4, .int (iI (i)))]) hx hb d_L_law_448 hl (by decide) rfl (fun ls hl => ?_)
    refine lv_aload_n hx hb d_L_law_450 rfl (lv_at hl 3 rfl) ?_
    refine lv_aload_n hx hb d_L_law_451 rfl (lv_at hl 1 rfl) ?_
    refine lv_iload hx hb d_L_law_452 (lv_at hl 5 rfl) ?_
    refine ri_iconst hx hb d_L_law_454 ?_
    refine ri_iadd hx hb d_L_law_455 ?_
    refine sc_ld hx hb hX hbl hS (by omega) hL3 d_L_law_456 ?_
    refine lv_aload_n hx hb d_L_law_457 rfl (lv_at hl 1 rfl) ?_
    refine lv_iload hx hb d_L_law_458 (lv_at hl 5 rfl) ?_
    refine ri_iconst hx hb d_L_law_460 ?_
    refine ri_iadd hx hb d_L_law_461 ?_
    refine sc_ld hx hb hX hbl hS (by omega) hL3 d_L_law_462 ?_
    replace hP := wl_Pp hP (pm_law wc' (ao, .inl (k 1, al 1 o')) (mWd k A v f))
    replace hD := wl_Dp hD (pm_law wc' (ao, .inl (k 1, al 1 o')) (mWd k A v f))
    refine wd_callC h0 hS (ex_runV (C := "LathePiecesModel") (As := [.int (iI (sx xs (i + 1))), .int (iI (sx xs (i + 2)))]) (rest := []) ⟨hx, hb, hml, hown, hG⟩ (q_radius hC A hI ((ao, .inl (k 1, al 1 o')) :: wc') (sx xs (i + 1)) (sx xs (i + 2)) (sx_rg _ _) (sx_rg _ _)) (cb_code (n := 2) hG g_764 g_3 g_761 rfl rfl (by decide +kernel) ⟨Nat.le_of_ble_eq_true rfl, Nat.le_of_ble_eq_true rfl⟩) (hG _ g_762) (hG _ g_763) (kd_V (kd_preW h0 hS hP hD) (kd_recv hK hP (q0 := 0) (ci := 6) rfl rfl rfl)) rfl rfl hl.1 rfl (lv_room (Nat.le_of_ble_eq_true rfl)) d_L_law_463 ⟨(show cells + 2 + 0 ≤ 601024 by omega), (show slots + 12 + 0 ≤ 7293034 by omega)⟩) (fun E ws9 hE H locs hP hD hS q T0 hT0 hq => False.elim hE) (fun v9 ws9 h9 H locs hP hD hS => ?_)
    obtain ⟨rfl, rfl⟩ := h9.1 hq0
    show W _ _ _ _ _ _ _ _ _ _ _ _ _ _ _ (F0 m9 466 ls [.int (iI (0))])
    refine lv_istore (lv' := [(6, .int (iI (0))), (5, .int (iI (1))), (0, .ref b), (1, .ref cx), (2, .ref (A 26)), (3, .ref ao), (4, .int (iI (i)))]) hx hb d_L_law_466 hl (by decide) rfl (fun ls hl => ?_)
    refine lv_aload_n hx hb d_L_law_468 rfl (lv_at hl 4 rfl) ?_
    refine rd_call (ex_runV (C := "LathePiecesModel") (As := []) (rest := []) ⟨hx, hb, hml, hown, hG⟩ (q_thrown hC A (vS v 0 1) f ((ao, .inl (k 1, al 1 o')) :: wc')) (cb_code (n := 0) hG g_709 g_3 g_706 rfl rfl (by decide +kernel) ⟨Nat.le_of_ble_eq_true rfl, Nat.le_of_ble_eq_true rfl⟩) (hG _ g_707) (hG _ g_708) (kd_V (kd_pre h0 hS hP) (kd_recv hK hP (q0 := 0) (ci := 6) rfl rfl rfl)) rfl rfl hl.1 rfl (lv_room (Nat.le_of_ble_eq_true rfl)) d_L_law_469 ⟨(show cells + 2 + 0 + 0 ≤ 601024 by omega), (show slots + 12 + 0 + 0 ≤ 7293034 by omega)⟩) (fun v9 h9 => ?_)
    subst h9
    show W _ _ _ _ _ _ _ _ _ _ _ _ _ _ _ (F0 m9 472 ls [.int (iI (1))])
    refine lv_iload hx hb d_L_law_472 (lv_at hl 1 rfl) ?_
    refine ri_icmp_eq (tgt := 479) hx hb d_L_law_474 (by decide) (by decide) (by decide) (fun _ => ?_) (fun c474 => absurd rfl c474)
    refine lv_iload hx hb d_L_law_479 (lv_at hl 1 rfl) ?_
    refine ri_if_ne (tgt := 496) hx hb d_L_law_481 (by decide) (by decide) (fun _ => ?_) (fun c481 => absurd c481 (by decide))
    refine lv_goto (tgt := 1941) hx hb d_L_law_496 (by decide) ?_
    replace hP := wl_Pp hP (pm_law (mWd k A (vS v 0 1) f) (ao, .inl (k 1, al 1 o')) wc')
    replace hD := wl_Dp hD (pm_law (mWd k A (vS v 0 1) f) (ao, .inl (k 1, al 1 o')) wc')
    refine W.widen (k := cells + 9) (n := slots + 167) (by omega) (by omega) ?_
    exact kk (vS v 0 1) f wc' o' H locs ls (Cst.code hW2 1) (Iv.code hI 1) hP hD hS (lv_sub hl [2, 3, 4, 5, 6] rfl)
set_option maxHeartbeats 4000000 in
set_option maxRecDepth 100000 in
theorem t_about {p9 : Program} {l : Launch} {e9 : Env} {s : State} {m9 : MethodId} {below9 : List Frame} {meth9 : Method} {c9 : Code} {Q9 : State → Prop} {b L : Nat} {xs : Nat → Int32} {D : va_G} {k : Nat → ClassId} (C0 : LwC p9 l s m9 c9 b L xs D k) {cx : Nat} {A : Nat → Nat} {ao : Nat} {i : Int} {cells slots : Nat} (hi : 0 ≤ i ∧ i + 5 < L) (hc : cells + 9 ≤ 601024) (hs : slots + 167 ≤ 7293034) (kk : LwK p9 l e9 s m9 below9 meth9 c9 b D k cx A ao i (cells + 9) (slots + 167) Q9) {v : Nat → Int} {f : Nat → Int → Int} {wc : va_W} {o9 : Int → Int} {H : Heap} {locs : List Loc} {ls : Array Slot} (hI : Iv v f) (hW : Cst k cx v f wc) (hP : va_P D classes (wc ++ ((ao, .inl (k 1, al 1 o9)) :: mWd k A v f)) H) (hD : va_D (aL s) (wc ++ ((ao, .inl (k 1, al 1 o9)) :: mWd k A v f))) (hS : va_S (aL s) s.heap H locs) (hl : lv_has ls 8 [(0, .ref b), (1, .ref cx), (2, .ref (A 26)), (3, .ref ao), (4, .int (iI (i)))]) : W p9 l e9 room_1 s m9 #[Value.ref b] below9 meth9 c9 H locs cells slots Q9 (F0 m9 499 ls []) := by
  obtain ⟨hx, hb, hml, hown, hG, hX, hbl, hL3, hC⟩ := id C0
  have h0 : La s s := ⟨State.WarmedH.refl s, Nat.le_refl _, fun _ _ => rfl⟩
  have hK := cx_K hC h0
  refine lv_aload_n hx hb d_L_law_499 rfl (lv_at hl 1 rfl) ?_
  refine lv_aload_n hx hb d_L_law_500 rfl (lv_at hl 0 rfl) ?_
  refine lv_iload hx hb d_L_law_501 (lv_at hl 4 rfl) ?_
  refine ri_iconst hx hb d_L_law_503 ?_
  refine ri_iadd hx hb d_L_law_504 ?_
  refine sc_ld hx hb hX hbl hS (by omega) hL3 d_L_law_505 ?_
  refine lv_aload_n hx hb d_L_law_506 rfl (lv_at hl 0 rfl) ?_
  refine lv_iload hx hb d_L_law_507 (lv_at hl 4 rfl) ?_
  refine ri_iconst hx hb d_L_law_509 ?_
  refine ri_iadd hx hb d_L_law_510 ?_
  refine sc_ld hx hb hX hbl hS (by omega) hL3 d_L_law_511 ?_
  refine lv_aload_n hx hb d_L_law_512 rfl (lv_at hl 3 rfl) ?_
  refine wd_callC h0 hS (ex_runS (As := [.ref cx, .int (iI (sx xs (i + 1))), .int (iI (sx xs (i + 2))), .ref ao]) (rest := []) ⟨hx, hb, hml, hown, hG⟩ (w_about hC hI hW (mWd k A v f) ao o9 (sx xs (i + 1)) (sx xs (i + 2)) (sx_rg _ _) (sx_rg _ _)) (cb_with (n := 4) hG g_335 g_0 g_333 rfl rfl (by decide +kernel) ⟨Nat.le_of_ble_eq_true rfl, Nat.le_of_ble_eq_true rfl⟩) (hG _ g_334) (kd_preW h0 hS hP hD) rfl rfl hl.1 rfl (lv_room (Nat.le_of_ble_eq_true rfl)) d_L_law_513 ⟨(show cells + 2 ≤ 601024 by omega), (show slots + 12 ≤ 7293034 by omega)⟩) (fun E ws9 hE H locs hP hD hS q T0 hT0 hq => False.elim hE) (fun v9 ws9 h9 H locs hP hD hS => ?_)
  obtain ⟨wc', o', kz, rfl, rfl, h9⟩ := h9
  rcases h9 with ⟨rfl, hq0, ho, hW2, hI2⟩ | ⟨rfl, hq0, hW2⟩
  · show W _ _ _ _ _ _ _ _ _ _ _ _ _ _ _ (F0 m9 516 ls [.int (iI (0))])
    refine lv_istore (lv' := [(5, .int (iI (0))), (0, .ref b), (1, .ref cx), (2, .ref (A 26)), (3, .ref ao), (4, .int (iI (i)))]) hx hb d_L_law_516 hl (by decide) rfl (fun ls hl => ?_)
    refine lv_aload_n hx hb d_L_law_518 rfl (lv_at hl 3 rfl) ?_
    refine lv_aload_n hx hb d_L_law_519 rfl (lv_at hl 1 rfl) ?_
    refine lv_iload hx hb d_L_law_520 (lv_at hl 5 rfl) ?_
    refine ri_iconst hx hb d_L_law_522 ?_
    refine ri_iadd hx hb d_L_law_523 ?_
    refine sc_ld hx hb hX hbl hS (by omega) hL3 d_L_law_524 ?_
    refine lv_aload_n hx hb d_L_law_525 rfl (lv_at hl 1 rfl) ?_
    refine lv_iload hx hb d_L_law_526 (lv_at hl 5 rfl) ?_
    refine ri_iconst hx hb d_L_law_528 ?_
    refine ri_iadd hx hb d_L_law_529 ?_
    refine sc_ld hx hb hX hbl hS (by omega) hL3 d_L_law_530 ?_
    replace hP := wl_Pp hP (pm_law wc' (ao, .inl (k 1, al 1 o')) (mWd k A v f))
    replace hD := wl_Dp hD (pm_law wc' (ao, .inl (k 1, al 1 o')) (mWd k A v f))
    refine wd_callC h0 hS (ex_runV (C := "LathePiecesModel") (As := [.int (iI (sx xs (i + 1))), .int (iI (sx xs (i + 2)))]) (rest := []) ⟨hx, hb, hml, hown, hG⟩ (q_about hC A hI ((ao, .inl (k 1, al 1 o')) :: wc') (sx xs (i + 1)) (sx xs (i + 2)) (sx_rg _ _) (sx_rg _ _)) (cb_code (n := 2) hG g_776 g_3 g_773 rfl rfl (by decide +kernel) ⟨Nat.le_of_ble_eq_true rfl, Nat.le_of_ble_eq_true rfl⟩) (hG _ g_774) (hG _ g_775) (kd_V (kd_preW h0 hS hP hD) (kd_recv hK hP (q0 := 0) (ci := 6) rfl rfl rfl)) rfl rfl hl.1 rfl (lv_room (Nat.le_of_ble_eq_true rfl)) d_L_law_531 ⟨(show cells + 2 + 0 ≤ 601024 by omega), (show slots + 12 + 0 ≤ 7293034 by omega)⟩) (fun E ws9 hE H locs hP hD hS q T0 hT0 hq => False.elim hE) (fun v9 ws9 h9 H locs hP hD hS => ?_)
    obtain ⟨rfl, rfl⟩ := h9.2 hq0
    show W _ _ _ _ _ _ _ _ _ _ _ _ _ _ _ (F0 m9 534 ls [.int (iI (if (sx xs (i + 2)) = 0 then (f 10) (sx xs (i + 1)) else if (sx xs (i + 2)) = 1 then (itF max (fun j => (f 12) (65 * (sx xs (i + 1)) + j)) 0 0 (((f 10) (sx xs (i + 1))).toNat + 1) + 3) else (f 11) (sx xs (i + 1))))])
    refine lv_istore (lv' := [(6, .int (iI (if (sx xs (i + 2)) = 0 then (f 10) (sx xs (i + 1)) else if (sx xs (i + 2)) = 1 then (itF max (fun j => (f 12) (65 * (sx xs (i + 1)) + j)) 0 0 (((f 10) (sx xs (i + 1))).toNat + 1) + 3) else (f 11) (sx xs (i + 1))))), (5, .int (iI (0))), (0, .ref b), (1, .ref cx), (2, .ref (A 26)), (3, .ref ao), (4, .int (iI (i)))]) hx hb d_L_law_534 hl (by decide) rfl (fun ls hl => ?_)
    refine lv_aload_n hx hb d_L_law_536 rfl (lv_at hl 4 rfl) ?_
    refine rd_call (ex_runV (C := "LathePiecesModel") (As := []) (rest := []) ⟨hx, hb, hml, hown, hG⟩ (q_thrown hC A (vS v 0 0) f ((ao, .inl (k 1, al 1 o')) :: wc')) (cb_code (n := 0) hG g_709 g_3 g_706 rfl rfl (by decide +kernel) ⟨Nat.le_of_ble_eq_true rfl, Nat.le_of_ble_eq_true rfl⟩) (hG _ g_707) (hG _ g_708) (kd_V (kd_pre h0 hS hP) (kd_recv hK hP (q0 := 0) (ci := 6) rfl rfl rfl)) rfl rfl hl.1 rfl (lv_room (Nat.le_of_ble_eq_true rfl)) d_L_law_537 ⟨(show cells + 2 + 0 + 0 ≤ 601024 by omega), (show slots + 12 + 0 + 0 ≤ 7293034 by omega)⟩) (fun v9 h9 => ?_)
    subst h9
    show W _ _ _ _ _ _ _ _ _ _ _ _ _ _ _ (F0 m9 540 ls [.int (iI (0))])
    refine lv_iload hx hb d_L_law_540 (lv_at hl 1 rfl) ?_
    refine ri_icmp_eq (tgt := 547) hx hb d_L_law_542 (by decide) (by decide) (by decide) (fun _ => ?_) (fun c542 => absurd rfl c542)
    refine lv_iload hx hb d_L_law_547 (lv_at hl 1 rfl) ?_
    refine ri_if_ne (tgt := 564) hx hb d_L_law_549 (by decide) (by decide) (fun c549 => absurd rfl c549) (fun _ => ?_)
    refine lv_aload_n hx hb d_L_law_552 rfl (lv_at hl 5 rfl) ?_
    refine ri_iconst hx hb d_L_law_553 ?_
    replace hP := wl_Pp hP (pm_lf (mWd k A (vS v 0 0) f) (ao, .inl (k 1, al 1 o')) wc')
    replace hD := wl_Dp hD (pm_lf (mWd k A (vS v 0 0) f) (ao, .inl (k 1, al 1 o')) wc')
    refine ra_lald hx hb hK hP 0 rfl (by omega) (by omega) d_L_law_554 ?_
    refine tp_l (y := jJ (tw (if (sx xs (i + 2)) = 0 then (f 10) (sx xs (i + 1)) else if (sx xs (i + 2)) = 1 then (itF max (fun j => (f 12) (65 * (sx xs (i + 1)) + j)) 0 0 (((f 10) (sx xs (i + 1))).toNat + 1) + 3) else (f 11) (sx xs (i + 1))))) (congrArg jJ ho) ?_
    refine lv_iload hx hb d_L_law_555 (lv_at hl 0 rfl) ?_
    refine ri_i2lw hx hb d_L_law_557 ?_
    refine lc_same (tgt := 564) hx hb d_L_law_558 d_L_law_559 (by decide) ?_
    refine lv_goto (tgt := 1941) hx hb d_L_law_564 (by decide) ?_
    replace hP := wl_Pp hP (pm_lb (mWd k A (vS v 0 0) f) (ao, .inl (k 1, al 1 o')) wc')
    replace hD := wl_Dp hD (pm_lb (mWd k A (vS v 0 0) f) (ao, .inl (k 1, al 1 o')) wc')
    refine W.widen (k := cells + 9) (n := slots + 167) (by omega) (by omega) ?_
    exact kk (vS v 0 0) f wc' o' H locs ls (Cst.code hW2 0) (Iv.code hI2 0) hP hD hS (lv_sub hl [2, 3, 4, 5, 6] rfl)
  · show W _ _ _ _ _ _ _ _ _ _ _ _ _ _ _ (F0 m9 516 ls [.int (iI (1))])
    refine lv_istore (lv' := [(5, .int (iI (1))), (0, .ref b), (1, .ref cx), (2, .ref (A 26)), (3, .ref ao), (4, .int (iI (i)))]) hx hb d_L_law_516 hl (by decide) rfl (fun ls hl => ?_)
    refine lv_aload_n hx hb d_L_law_518 rfl (lv_at hl 3 rfl) ?_
    refine lv_aload_n hx hb d_L_law_519 rfl (lv_at hl 1 rfl) ?_
    refine lv_iload hx hb d_L_law_520 (lv_at hl 5 rfl) ?_
    refine ri_iconst hx hb d_L_law_522 ?_
    refine ri_iadd hx hb d_L_law_523 ?_
    refine sc_ld hx hb hX hbl hS (by omega) hL3 d_L_law_524 ?_
    refine lv_aload_n hx hb d_L_law_525 rfl (lv_at hl 1 rfl) ?_
    refine lv_iload hx hb d_L_law_526 (lv_at hl 5 rfl) ?_
    refine ri_iconst hx hb d_L_law_528 ?_
    refine ri_iadd hx hb d_L_law_529 ?_
    refine sc_ld hx hb hX hbl hS (by omega) hL3 d_L_law_530 ?_
    replace hP := wl_Pp hP (pm_law wc' (ao, .inl (k 1, al 1 o')) (mWd k A v f))
    replace hD := wl_Dp hD (pm_law wc' (ao, .inl (k 1, al 1 o')) (mWd k A v f))
    refine wd_callC h0 hS (ex_runV (C := "LathePiecesModel") (As := [.int (iI (sx xs (i + 1))), .int (iI (sx xs (i + 2)))]) (rest := []) ⟨hx, hb, hml, hown, hG⟩ (q_about hC A hI ((ao, .inl (k 1, al 1 o')) :: wc') (sx xs (i + 1)) (sx xs (i + 2)) (sx_rg _ _) (sx_rg _ _)) (cb_code (n := 2) hG g_776 g_3 g_773 rfl rfl (by decide +kernel) ⟨Nat.le_of_ble_eq_true rfl, Nat.le_of_ble_eq_true rfl⟩) (hG _ g_774) (hG _ g_775) (kd_V (kd_preW h0 hS hP hD) (kd_recv hK hP (q0 := 0) (ci := 6) rfl rfl rfl)) rfl rfl hl.1 rfl (lv_room (Nat.le_of_ble_eq_true rfl)) d_L_law_531 ⟨(show cells + 2 + 0 ≤ 601024 by omega), (show slots + 12 + 0 ≤ 7293034 by omega)⟩) (fun E ws9 hE H locs hP hD hS q T0 hT0 hq => False.elim hE) (fun v9 ws9 h9 H locs hP hD hS => ?_)
    obtain ⟨rfl, rfl⟩ := h9.1 hq0
    show W _ _ _ _ _ _ _ _ _ _ _ _ _ _ _ (F0 m9 534 ls [.int (iI (0))])
    refine lv_istore (lv' := [(6, .int (iI (0))), (5, .int (iI (1))), (0, .ref b), (1, .ref cx), (2, .ref (A 26)), (3, .ref ao), (4, .int (iI (i)))]) hx hb d_L_law_534 hl (by decide) rfl (fun ls hl => ?_)
    refine lv_aload_n hx hb d_L_law_536 rfl (lv_at hl 4 rfl) ?_
    refine rd_call (ex_runV (C := "LathePiecesModel") (As := []) (rest := []) ⟨hx, hb, hml, hown, hG⟩ (q_thrown hC A (vS v 0 1) f ((ao, .inl (k 1, al 1 o')) :: wc')) (cb_code (n := 0) hG g_709 g_3 g_706 rfl rfl (by decide +kernel) ⟨Nat.le_of_ble_eq_true rfl, Nat.le_of_ble_eq_true rfl⟩) (hG _ g_707) (hG _ g_708) (kd_V (kd_pre h0 hS hP) (kd_recv hK hP (q0 := 0) (ci := 6) rfl rfl rfl)) rfl rfl hl.1 rfl (lv_room (Nat.le_of_ble_eq_true rfl)) d_L_law_537 ⟨(show cells + 2 + 0 + 0 ≤ 601024 by omega), (show slots + 12 + 0 + 0 ≤ 7293034 by omega)⟩) (fun v9 h9 => ?_)
    subst h9
    show W _ _ _ _ _ _ _ _ _ _ _ _ _ _ _ (F0 m9 540 ls [.int (iI (1))])
    refine lv_iload hx hb d_L_law_540 (lv_at hl 1 rfl) ?_
    refine ri_icmp_eq (tgt := 547) hx hb d_L_law_542 (by decide) (by decide) (by decide) (fun _ => ?_) (fun c542 => absurd rfl c542)
    refine lv_iload hx hb d_L_law_547 (lv_at hl 1 rfl) ?_
    refine ri_if_ne (tgt := 564) hx hb d_L_law_549 (by decide) (by decide) (fun _ => ?_) (fun c549 => absurd c549 (by decide))
    refine lv_goto (tgt := 1941) hx hb d_L_law_564 (by decide) ?_
    replace hP := wl_Pp hP (pm_law (mWd k A (vS v 0 1) f) (ao, .inl (k 1, al 1 o')) wc')
    replace hD := wl_Dp hD (pm_law (mWd k A (vS v 0 1) f) (ao, .inl (k 1, al 1 o')) wc')
    refine W.widen (k := cells + 9) (n := slots + 167) (by omega) (by omega) ?_
    exact kk (vS v 0 1) f wc' o' H locs ls (Cst.code hW2 1) (Iv.code hI 1) hP hD hS (lv_sub hl [2, 3, 4, 5, 6] rfl)
set_option maxHeartbeats 4000000 in
set_option maxRecDepth 100000 in
theorem t_tool {p9 : Program} {l : Launch} {e9 : Env} {s : State} {m9 : MethodId} {below9 : List Frame} {meth9 : Method} {c9 : Code} {Q9 : State → Prop} {b L : Nat} {xs : Nat → Int32} {D : va_G} {k : Nat → ClassId} (C0 : LwC p9 l s m9 c9 b L xs D k) {cx : Nat} {A : Nat → Nat} {ao : Nat} {i : Int} {cells slots : Nat} (hi : 0 ≤ i ∧ i + 5 < L) (hc : cells + 9 ≤ 601024) (hs : slots + 167 ≤ 7293034) (kk : LwK p9 l e9 s m9 below9 meth9 c9 b D k cx A ao i (cells + 9) (slots + 167) Q9) {v : Nat → Int} {f : Nat → Int → Int} {wc : va_W} {o9 : Int → Int} {H : Heap} {locs : List Loc} {ls : Array Slot} (hI : Iv v f) (hW : Cst k cx v f wc) (hP : va_P D classes (wc ++ ((ao, .inl (k 1, al 1 o9)) :: mWd k A v f)) H) (hD : va_D (aL s) (wc ++ ((ao, .inl (k 1, al 1 o9)) :: mWd k A v f))) (hS : va_S (aL s) s.heap H locs) (hl : lv_has ls 8 [(0, .ref b), (1, .ref cx), (2, .ref (A 26)), (3, .ref ao), (4, .int (iI (i)))]) : W p9 l e9 room_1 s m9 #[Value.ref b] below9 meth9 c9 H locs cells slots Q9 (F0 m9 567 ls []) := by
  obtain ⟨hx, hb, hml, hown, hG, hX, hbl, hL3, hC⟩ := id C0
  have h0 : La s s := ⟨State.WarmedH.refl s, Nat.le_refl _, fun _ _ => rfl⟩
  have hK := cx_K hC h0
  refine lv_aload_n hx hb d_L_law_567 rfl (lv_at hl 1 rfl) ?_
  refine lv_aload_n hx hb d_L_law_568 rfl (lv_at hl 0 rfl) ?_
  refine lv_iload hx hb d_L_law_569 (lv_at hl 4 rfl) ?_
  refine ri_iconst hx hb d_L_law_571 ?_
  refine ri_iadd hx hb d_L_law_572 ?_
  refine sc_ld hx hb hX hbl hS (by omega) hL3 d_L_law_573 ?_
  refine lv_aload_n hx hb d_L_law_574 rfl (lv_at hl 3 rfl) ?_
  refine wd_callC h0 hS (ex_runS (As := [.ref cx, .int (iI (sx xs (i + 1))), .ref ao]) (rest := []) ⟨hx, hb, hml, hown, hG⟩ (w_tool hC hI hW (mWd k A v f) ao o9 (sx xs (i + 1)) (sx_rg _ _)) (cb_with (n := 3) hG g_343 g_0 g_341 rfl rfl (by decide +kernel) ⟨Nat.le_of_ble_eq_true rfl, Nat.le_of_ble_eq_true rfl⟩) (hG _ g_342) (kd_preW h0 hS hP hD) rfl rfl hl.1 rfl (lv_room (Nat.le_of_ble_eq_true rfl)) d_L_law_575 ⟨(show cells + 3 ≤ 601024 by omega), (show slots + 20 ≤ 7293034 by omega)⟩) (fun E ws9 hE H locs hP hD hS q T0 hT0 hq => False.elim hE) (fun v9 ws9 h9 H locs hP hD hS => ?_)
  obtain ⟨wc', o', kz, rfl, rfl, h9⟩ := h9
  rcases h9 with ⟨rfl, hq0, ho, hW2, hI2⟩ | ⟨rfl, hq0, hW2⟩ | ⟨rfl, hq0, hW2⟩
  · show W _ _ _ _ _ _ _ _ _ _ _ _ _ _ _ (F0 m9 578 ls [.int (iI (0))])
    refine lv_istore (lv' := [(5, .int (iI (0))), (0, .ref b), (1, .ref cx), (2, .ref (A 26)), (3, .ref ao), (4, .int (iI (i)))]) hx hb d_L_law_578 hl (by decide) rfl (fun ls hl => ?_)
    refine lv_aload_n hx hb d_L_law_580 rfl (lv_at hl 3 rfl) ?_
    refine lv_aload_n hx hb d_L_law_581 rfl (lv_at hl 1 rfl) ?_
    refine lv_iload hx hb d_L_law_582 (lv_at hl 5 rfl) ?_
    refine ri_iconst hx hb d_L_law_584 ?_
    refine ri_iadd hx hb d_L_law_585 ?_
    refine sc_ld hx hb hX hbl hS (by omega) hL3 d_L_law_586 ?_
    replace hP := wl_Pp hP (pm_law wc' (ao, .inl (k 1, al 1 o')) (mWd k A v f))
    replace hD := wl_Dp hD (pm_law wc' (ao, .inl (k 1, al 1 o')) (mWd k A v f))
    refine wd_callC h0 hS (ex_runV (C := "LathePiecesModel") (As := [.int (iI (sx xs (i + 1)))]) (rest := []) ⟨hx, hb, hml, hown, hG⟩ (q_tool hC A hI ((ao, .inl (k 1, al 1 o')) :: wc') (sx xs (i + 1)) (sx_rg _ _)) (cb_code (n := 1) hG g_785 g_3 g_782 rfl rfl (by decide +kernel) ⟨Nat.le_of_ble_eq_true rfl, Nat.le_of_ble_eq_true rfl⟩) (hG _ g_783) (hG _ g_784) (kd_V (kd_preW h0 hS hP hD) (kd_recv hK hP (q0 := 0) (ci := 6) rfl rfl rfl)) rfl rfl hl.1 rfl (lv_room (Nat.le_of_ble_eq_true rfl)) d_L_law_587 ⟨(show cells + 3 + 0 ≤ 601024 by omega), (show slots + 20 + 0 ≤ 7293034 by omega)⟩) (fun E ws9 hE H locs hP hD hS q T0 hT0 hq => False.elim hE) (fun v9 ws9 h9 H locs hP hD hS => ?_)
    obtain ⟨rfl, rfl⟩ := h9.2.2 hq0
    show W _ _ _ _ _ _ _ _ _ _ _ _ _ _ _ (F0 m9 590 ls [.int (iI ((v 13)))])
    refine lv_istore (lv' := [(6, .int (iI ((v 13)))), (5, .int (iI (0))), (0, .ref b), (1, .ref cx), (2, .ref (A 26)), (3, .ref ao), (4, .int (iI (i)))]) hx hb d_L_law_590 hl (by decide) rfl (fun ls hl => ?_)
    refine lv_aload_n hx hb d_L_law_592 rfl (lv_at hl 4 rfl) ?_
    refine rd_call (ex_runV (C := "LathePiecesModel") (As := []) (rest := []) ⟨hx, hb, hml, hown, hG⟩ (q_thrown hC A (vS (vS v 0 0) 13 (v 13 + 1)) (fS f 14 (zU (f 14) (v 13) (sx xs (i + 1)))) ((ao, .inl (k 1, al 1 o')) :: wc')) (cb_code (n := 0) hG g_709 g_3 g_706 rfl rfl (by decide +kernel) ⟨Nat.le_of_ble_eq_true rfl, Nat.le_of_ble_eq_true rfl⟩) (hG _ g_707) (hG _ g_708) (kd_V (kd_pre h0 hS hP) (kd_recv hK hP (q0 := 0) (ci := 6) rfl rfl rfl)) rfl rfl hl.1 rfl (lv_room (Nat.le_of_ble_eq_true rfl)) d_L_law_593 ⟨(show cells + 3 + 0 + 0 ≤ 601024 by omega), (show slots + 20 + 0 + 0 ≤ 7293034 by omega)⟩) (fun v9 h9 => ?_)
    subst h9
    show W _ _ _ _ _ _ _ _ _ _ _ _ _ _ _ (F0 m9 596 ls [.int (iI (0))])
    refine lv_iload hx hb d_L_law_596 (lv_at hl 1 rfl) ?_
    refine ri_icmp_eq (tgt := 603) hx hb d_L_law_598 (by decide) (by decide) (by decide) (fun _ => ?_) (fun c598 => absurd rfl c598)
    refine lv_iload hx hb d_L_law_603 (lv_at hl 1 rfl) ?_
    refine ri_if_ne (tgt := 620) hx hb d_L_law_605 (by decide) (by decide) (fun c605 => absurd rfl c605) (fun _ => ?_)
    refine lv_aload_n hx hb d_L_law_608 rfl (lv_at hl 5 rfl) ?_
    refine ri_iconst hx hb d_L_law_609 ?_
    replace hP := wl_Pp hP (pm_lf (mWd k A (vS (vS v 0 0) 13 (v 13 + 1)) (fS f 14 (zU (f 14) (v 13) (sx xs (i + 1))))) (ao, .inl (k 1, al 1 o')) wc')
    replace hD := wl_Dp hD (pm_lf (mWd k A (vS (vS v 0 0) 13 (v 13 + 1)) (fS f 14 (zU (f 14) (v 13) (sx xs (i + 1))))) (ao, .inl (k 1, al 1 o')) wc')
    refine ra_lald hx hb hK hP 0 rfl (by omega) (by omega) d_L_law_610 ?_
    refine tp_l (y := jJ (tw ((v 13)))) (congrArg jJ ho) ?_
    refine lv_iload hx hb d_L_law_611 (lv_at hl 0 rfl) ?_
    refine ri_i2lw hx hb d_L_law_613 ?_
    refine lc_same (tgt := 620) hx hb d_L_law_614 d_L_law_615 (by decide) ?_
    refine lv_goto (tgt := 1941) hx hb d_L_law_620 (by decide) ?_
    replace hP := wl_Pp hP (pm_lb (mWd k A (vS (vS v 0 0) 13 (v 13 + 1)) (fS f 14 (zU (f 14) (v 13) (sx xs (i + 1))))) (ao, .inl (k 1, al 1 o')) wc')
    replace hD := wl_Dp hD (pm_lb (mWd k A (vS (vS v 0 0) 13 (v 13 + 1)) (fS f 14 (zU (f 14) (v 13) (sx xs (i + 1))))) (ao, .inl (k 1, al 1 o')) wc')
    refine W.widen (k := cells + 9) (n := slots + 167) (by omega) (by omega) ?_
    exact kk (vS (vS v 0 0) 13 (v 13 + 1)) (fS f 14 (zU (f 14) (v 13) (sx xs (i + 1)))) wc' o' H locs ls hW2 hI2 hP hD hS (lv_sub hl [2, 3, 4, 5, 6] rfl)
  · show W _ _ _ _ _ _ _ _ _ _ _ _ _ _ _ (F0 m9 578 ls [.int (iI (1))])
    refine lv_istore (lv' := [(5, .int (iI (1))), (0, .ref b), (1, .ref cx), (2, .ref (A 26)), (3, .ref ao), (4, .int (iI (i)))]) hx hb d_L_law_578 hl (by decide) rfl (fun ls hl => ?_)
    refine lv_aload_n hx hb d_L_law_580 rfl (lv_at hl 3 rfl) ?_
    refine lv_aload_n hx hb d_L_law_581 rfl (lv_at hl 1 rfl) ?_
    refine lv_iload hx hb d_L_law_582 (lv_at hl 5 rfl) ?_
    refine ri_iconst hx hb d_L_law_584 ?_
    refine ri_iadd hx hb d_L_law_585 ?_
    refine sc_ld hx hb hX hbl hS (by omega) hL3 d_L_law_586 ?_
    replace hP := wl_Pp hP (pm_law wc' (ao, .inl (k 1, al 1 o')) (mWd k A v f))
    replace hD := wl_Dp hD (pm_law wc' (ao, .inl (k 1, al 1 o')) (mWd k A v f))
    refine wd_callC h0 hS (ex_runV (C := "LathePiecesModel") (As := [.int (iI (sx xs (i + 1)))]) (rest := []) ⟨hx, hb, hml, hown, hG⟩ (q_tool hC A hI ((ao, .inl (k 1, al 1 o')) :: wc') (sx xs (i + 1)) (sx_rg _ _)) (cb_code (n := 1) hG g_785 g_3 g_782 rfl rfl (by decide +kernel) ⟨Nat.le_of_ble_eq_true rfl, Nat.le_of_ble_eq_true rfl⟩) (hG _ g_783) (hG _ g_784) (kd_V (kd_preW h0 hS hP hD) (kd_recv hK hP (q0 := 0) (ci := 6) rfl rfl rfl)) rfl rfl hl.1 rfl (lv_room (Nat.le_of_ble_eq_true rfl)) d_L_law_587 ⟨(show cells + 3 + 0 ≤ 601024 by omega), (show slots + 20 + 0 ≤ 7293034 by omega)⟩) (fun E ws9 hE H locs hP hD hS q T0 hT0 hq => False.elim hE) (fun v9 ws9 h9 H locs hP hD hS => ?_)
    obtain ⟨rfl, rfl⟩ := h9.1 hq0
    show W _ _ _ _ _ _ _ _ _ _ _ _ _ _ _ (F0 m9 590 ls [.int (iI (0))])
    refine lv_istore (lv' := [(6, .int (iI (0))), (5, .int (iI (1))), (0, .ref b), (1, .ref cx), (2, .ref (A 26)), (3, .ref ao), (4, .int (iI (i)))]) hx hb d_L_law_590 hl (by decide) rfl (fun ls hl => ?_)
    refine lv_aload_n hx hb d_L_law_592 rfl (lv_at hl 4 rfl) ?_
    refine rd_call (ex_runV (C := "LathePiecesModel") (As := []) (rest := []) ⟨hx, hb, hml, hown, hG⟩ (q_thrown hC A (vS v 0 1) f ((ao, .inl (k 1, al 1 o')) :: wc')) (cb_code (n := 0) hG g_709 g_3 g_706 rfl rfl (by decide +kernel) ⟨Nat.le_of_ble_eq_true rfl, Nat.le_of_ble_eq_true rfl⟩) (hG _ g_707) (hG _ g_708) (kd_V (kd_pre h0 hS hP) (kd_recv hK hP (q0 := 0) (ci := 6) rfl rfl rfl)) rfl rfl hl.1 rfl (lv_room (Nat.le_of_ble_eq_true rfl)) d_L_law_593 ⟨(show cells + 3 + 0 + 0 ≤ 601024 by omega), (show slots + 20 + 0 + 0 ≤ 7293034 by omega)⟩) (fun v9 h9 => ?_)
    subst h9
    show W _ _ _ _ _ _ _ _ _ _ _ _ _ _ _ (F0 m9 596 ls [.int (iI (1))])
    refine lv_iload hx hb d_L_law_596 (lv_at hl 1 rfl) ?_
    refine ri_icmp_eq (tgt := 603) hx hb d_L_law_598 (by decide) (by decide) (by decide) (fun _ => ?_) (fun c598 => absurd rfl c598)
    refine lv_iload hx hb d_L_law_603 (lv_at hl 1 rfl) ?_
    refine ri_if_ne (tgt := 620) hx hb d_L_law_605 (by decide) (by decide) (fun _ => ?_) (fun c605 => absurd c605 (by decide))
    refine lv_goto (tgt := 1941) hx hb d_L_law_620 (by decide) ?_
    replace hP := wl_Pp hP (pm_law (mWd k A (vS v 0 1) f) (ao, .inl (k 1, al 1 o')) wc')
    replace hD := wl_Dp hD (pm_law (mWd k A (vS v 0 1) f) (ao, .inl (k 1, al 1 o')) wc')
    refine W.widen (k := cells + 9) (n := slots + 167) (by omega) (by omega) ?_
    exact kk (vS v 0 1) f wc' o' H locs ls (Cst.code hW2 1) (Iv.code hI 1) hP hD hS (lv_sub hl [2, 3, 4, 5, 6] rfl)
  · show W _ _ _ _ _ _ _ _ _ _ _ _ _ _ _ (F0 m9 578 ls [.int (iI (2))])
    refine lv_istore (lv' := [(5, .int (iI (2))), (0, .ref b), (1, .ref cx), (2, .ref (A 26)), (3, .ref ao), (4, .int (iI (i)))]) hx hb d_L_law_578 hl (by decide) rfl (fun ls hl => ?_)
    refine lv_aload_n hx hb d_L_law_580 rfl (lv_at hl 3 rfl) ?_
    refine lv_aload_n hx hb d_L_law_581 rfl (lv_at hl 1 rfl) ?_
    refine lv_iload hx hb d_L_law_582 (lv_at hl 5 rfl) ?_
    refine ri_iconst hx hb d_L_law_584 ?_
    refine ri_iadd hx hb d_L_law_585 ?_
    refine sc_ld hx hb hX hbl hS (by omega) hL3 d_L_law_586 ?_
    replace hP := wl_Pp hP (pm_law wc' (ao, .inl (k 1, al 1 o')) (mWd k A v f))
    replace hD := wl_Dp hD (pm_law wc' (ao, .inl (k 1, al 1 o')) (mWd k A v f))
    refine wd_callC h0 hS (ex_runV (C := "LathePiecesModel") (As := [.int (iI (sx xs (i + 1)))]) (rest := []) ⟨hx, hb, hml, hown, hG⟩ (q_tool hC A hI ((ao, .inl (k 1, al 1 o')) :: wc') (sx xs (i + 1)) (sx_rg _ _)) (cb_code (n := 1) hG g_785 g_3 g_782 rfl rfl (by decide +kernel) ⟨Nat.le_of_ble_eq_true rfl, Nat.le_of_ble_eq_true rfl⟩) (hG _ g_783) (hG _ g_784) (kd_V (kd_preW h0 hS hP hD) (kd_recv hK hP (q0 := 0) (ci := 6) rfl rfl rfl)) rfl rfl hl.1 rfl (lv_room (Nat.le_of_ble_eq_true rfl)) d_L_law_587 ⟨(show cells + 3 + 0 ≤ 601024 by omega), (show slots + 20 + 0 ≤ 7293034 by omega)⟩) (fun E ws9 hE H locs hP hD hS q T0 hT0 hq => False.elim hE) (fun v9 ws9 h9 H locs hP hD hS => ?_)
    obtain ⟨rfl, rfl⟩ := h9.2.1 hq0
    show W _ _ _ _ _ _ _ _ _ _ _ _ _ _ _ (F0 m9 590 ls [.int (iI (0))])
    refine lv_istore (lv' := [(6, .int (iI (0))), (5, .int (iI (2))), (0, .ref b), (1, .ref cx), (2, .ref (A 26)), (3, .ref ao), (4, .int (iI (i)))]) hx hb d_L_law_590 hl (by decide) rfl (fun ls hl => ?_)
    refine lv_aload_n hx hb d_L_law_592 rfl (lv_at hl 4 rfl) ?_
    refine rd_call (ex_runV (C := "LathePiecesModel") (As := []) (rest := []) ⟨hx, hb, hml, hown, hG⟩ (q_thrown hC A (vS v 0 2) f ((ao, .inl (k 1, al 1 o')) :: wc')) (cb_code (n := 0) hG g_709 g_3 g_706 rfl rfl (by decide +kernel) ⟨Nat.le_of_ble_eq_true rfl, Nat.le_of_ble_eq_true rfl⟩) (hG _ g_707) (hG _ g_708) (kd_V (kd_pre h0 hS hP) (kd_recv hK hP (q0 := 0) (ci := 6) rfl rfl rfl)) rfl rfl hl.1 rfl (lv_room (Nat.le_of_ble_eq_true rfl)) d_L_law_593 ⟨(show cells + 3 + 0 + 0 ≤ 601024 by omega), (show slots + 20 + 0 + 0 ≤ 7293034 by omega)⟩) (fun v9 h9 => ?_)
    subst h9
    show W _ _ _ _ _ _ _ _ _ _ _ _ _ _ _ (F0 m9 596 ls [.int (iI (2))])
    refine lv_iload hx hb d_L_law_596 (lv_at hl 1 rfl) ?_
    refine ri_icmp_eq (tgt := 603) hx hb d_L_law_598 (by decide) (by decide) (by decide) (fun _ => ?_) (fun c598 => absurd rfl c598)
    refine lv_iload hx hb d_L_law_603 (lv_at hl 1 rfl) ?_
    refine ri_if_ne (tgt := 620) hx hb d_L_law_605 (by decide) (by decide) (fun _ => ?_) (fun c605 => absurd c605 (by decide))
    refine lv_goto (tgt := 1941) hx hb d_L_law_620 (by decide) ?_
    replace hP := wl_Pp hP (pm_law (mWd k A (vS v 0 2) f) (ao, .inl (k 1, al 1 o')) wc')
    replace hD := wl_Dp hD (pm_law (mWd k A (vS v 0 2) f) (ao, .inl (k 1, al 1 o')) wc')
    refine W.widen (k := cells + 9) (n := slots + 167) (by omega) (by omega) ?_
    exact kk (vS v 0 2) f wc' o' H locs ls (Cst.code hW2 2) (Iv.code hI 2) hP hD hS (lv_sub hl [2, 3, 4, 5, 6] rfl)
set_option maxHeartbeats 4000000 in
set_option maxRecDepth 100000 in
theorem t_reached {p9 : Program} {l : Launch} {e9 : Env} {s : State} {m9 : MethodId} {below9 : List Frame} {meth9 : Method} {c9 : Code} {Q9 : State → Prop} {b L : Nat} {xs : Nat → Int32} {D : va_G} {k : Nat → ClassId} (C0 : LwC p9 l s m9 c9 b L xs D k) {cx : Nat} {A : Nat → Nat} {ao : Nat} {i : Int} {cells slots : Nat} (hi : 0 ≤ i ∧ i + 5 < L) (hc : cells + 9 ≤ 601024) (hs : slots + 167 ≤ 7293034) (kk : LwK p9 l e9 s m9 below9 meth9 c9 b D k cx A ao i (cells + 9) (slots + 167) Q9) {v : Nat → Int} {f : Nat → Int → Int} {wc : va_W} {o9 : Int → Int} {H : Heap} {locs : List Loc} {ls : Array Slot} (hI : Iv v f) (hW : Cst k cx v f wc) (hP : va_P D classes (wc ++ ((ao, .inl (k 1, al 1 o9)) :: mWd k A v f)) H) (hD : va_D (aL s) (wc ++ ((ao, .inl (k 1, al 1 o9)) :: mWd k A v f))) (hS : va_S (aL s) s.heap H locs) (hl : lv_has ls 8 [(0, .ref b), (1, .ref cx), (2, .ref (A 26)), (3, .ref ao), (4, .int (iI (i)))]) : W p9 l e9 room_1 s m9 #[Value.ref b] below9 meth9 c9 H locs cells slots Q9 (F0 m9 623 ls []) := by
  obtain ⟨hx, hb, hml, hown, hG, hX, hbl, hL3, hC⟩ := id C0
  have h0 : La s s := ⟨State.WarmedH.refl s, Nat.le_refl _, fun _ _ => rfl⟩
  have hK := cx_K hC h0
  refine lv_aload_n hx hb d_L_law_623 rfl (lv_at hl 1 rfl) ?_
  refine lv_aload_n hx hb d_L_law_624 rfl (lv_at hl 0 rfl) ?_
  refine lv_iload hx hb d_L_law_625 (lv_at hl 4 rfl) ?_
  refine ri_iconst hx hb d_L_law_627 ?_
  refine ri_iadd hx hb d_L_law_628 ?_
  refine sc_ld hx hb hX hbl hS (by omega) hL3 d_L_law_629 ?_
  refine lv_aload_n hx hb d_L_law_630 rfl (lv_at hl 0 rfl) ?_
  refine lv_iload hx hb d_L_law_631 (lv_at hl 4 rfl) ?_
  refine ri_iconst hx hb d_L_law_633 ?_
  refine ri_iadd hx hb d_L_law_634 ?_
  refine sc_ld hx hb hX hbl hS (by omega) hL3 d_L_law_635 ?_
  refine lv_aload_n hx hb d_L_law_636 rfl (lv_at hl 0 rfl) ?_
  refine lv_iload hx hb d_L_law_637 (lv_at hl 4 rfl) ?_
  refine ri_iconst hx hb d_L_law_639 ?_
  refine ri_iadd hx hb d_L_law_640 ?_
  refine sc_ld hx hb hX hbl hS (by omega) hL3 d_L_law_641 ?_
  refine lv_aload_n hx hb d_L_law_642 rfl (lv_at hl 3 rfl) ?_
  refine wd_callC h0 hS (ex_runS (As := [.ref cx, .int (iI (sx xs (i + 1))), .int (iI (sx xs (i + 2))), .int (iI (sx xs (i + 3))), .ref ao]) (rest := []) ⟨hx, hb, hml, hown, hG⟩ (w_reached hC hI hW (mWd k A v f) ao o9 (sx xs (i + 1)) (sx xs (i + 2)) (sx_rg _ _) (sx_rg _ _) (sx xs (i + 3)) (sx_rg _ _)) (cb_with (n := 5) hG g_362 g_0 g_360 rfl rfl (by decide +kernel) ⟨Nat.le_of_ble_eq_true rfl, Nat.le_of_ble_eq_true rfl⟩) (hG _ g_361) (kd_preW h0 hS hP hD) rfl rfl hl.1 rfl (lv_room (Nat.le_of_ble_eq_true rfl)) d_L_law_643 ⟨(show cells + 6 ≤ 601024 by omega), (show slots + 149 ≤ 7293034 by omega)⟩) (fun E ws9 hE H locs hP hD hS q T0 hT0 hq => False.elim hE) (fun v9 ws9 h9 H locs hP hD hS => ?_)
  obtain ⟨wc', o', kz, rfl, rfl, h9⟩ := h9
  rcases h9 with ⟨rfl, hq0, ho, hW2, hI2⟩ | ⟨rfl, hq0, hW2⟩
  · show W _ _ _ _ _ _ _ _ _ _ _ _ _ _ _ (F0 m9 646 ls [.int (iI (0))])
    refine lv_istore (lv' := [(5, .int (iI (0))), (0, .ref b), (1, .ref cx), (2, .ref (A 26)), (3, .ref ao), (4, .int (iI (i)))]) hx hb d_L_law_646 hl (by decide) rfl (fun ls hl => ?_)
    refine lv_aload_n hx hb d_L_law_648 rfl (lv_at hl 3 rfl) ?_
    refine lv_aload_n hx hb d_L_law_649 rfl (lv_at hl 1 rfl) ?_
    refine lv_iload hx hb d_L_law_650 (lv_at hl 5 rfl) ?_
    refine ri_iconst hx hb d_L_law_652 ?_
    refine ri_iadd hx hb d_L_law_653 ?_
    refine sc_ld hx hb hX hbl hS (by omega) hL3 d_L_law_654 ?_
    refine lv_aload_n hx hb d_L_law_655 rfl (lv_at hl 1 rfl) ?_
    refine lv_iload hx hb d_L_law_656 (lv_at hl 5 rfl) ?_
    refine ri_iconst hx hb d_L_law_658 ?_
    refine ri_iadd hx hb d_L_law_659 ?_
    refine sc_ld hx hb hX hbl hS (by omega) hL3 d_L_law_660 ?_
    refine lv_aload_n hx hb d_L_law_661 rfl (lv_at hl 1 rfl) ?_
    refine lv_iload hx hb d_L_law_662 (lv_at hl 5 rfl) ?_
    refine ri_iconst hx hb d_L_law_664 ?_
    refine ri_iadd hx hb d_L_law_665 ?_
    refine sc_ld hx hb hX hbl hS (by omega) hL3 d_L_law_666 ?_
    replace hP := wl_Pp hP (pm_law wc' (ao, .inl (k 1, al 1 o')) (mWd k A v f))
    replace hD := wl_Dp hD (pm_law wc' (ao, .inl (k 1, al 1 o')) (mWd k A v f))
    refine wd_callC h0 hS (ex_runV (C := "LathePiecesModel") (As := [.int (iI (sx xs (i + 1))), .int (iI (sx xs (i + 2))), .int (iI (sx xs (i + 3)))]) (rest := []) ⟨hx, hb, hml, hown, hG⟩ (q_reached hC A hI ((ao, .inl (k 1, al 1 o')) :: wc') (sx xs (i + 1)) (sx xs (i + 2)) (sx_rg _ _) (sx_rg _ _) (sx xs (i + 3)) (sx_rg _ _)) (cb_code (n := 3) hG g_790 g_3 g_787 rfl rfl (by decide +kernel) ⟨Nat.le_of_ble_eq_true rfl, Nat.le_of_ble_eq_true rfl⟩) (hG _ g_788) (hG _ g_789) (kd_V (kd_preW h0 hS hP hD) (kd_recv hK hP (q0 := 0) (ci := 6) rfl rfl rfl)) rfl rfl hl.1 rfl (lv_room (Nat.le_of_ble_eq_true rfl)) d_L_law_667 ⟨(show cells + 6 + 0 ≤ 601024 by omega), (show slots + 149 + 0 ≤ 7293034 by omega)⟩) (fun E ws9 hE H locs hP hD hS q T0 hT0 hq => False.elim hE) (fun v9 ws9 h9 H locs hP hD hS => ?_)
    obtain ⟨g15, g16, rfl, rfl⟩ := h9.2 hq0
    show W _ _ _ _ _ _ _ _ _ _ _ _ _ _ _ (F0 m9 670 ls [.int (iI ((loA (fun j => (f 12) (65 * (sx xs (i + 1)) + j)) (htF ((f 14) (sx xs (i + 2))).toNat) ((f 14) (sx xs (i + 2))).toNat ((f 10) (sx xs (i + 1))).toNat) (sx xs (i + 3))))])
    refine lv_istore (lv' := [(6, .int (iI ((loA (fun j => (f 12) (65 * (sx xs (i + 1)) + j)) (htF ((f 14) (sx xs (i + 2))).toNat) ((f 14) (sx xs (i + 2))).toNat ((f 10) (sx xs (i + 1))).toNat) (sx xs (i + 3))))), (5, .int (iI (0))), (0, .ref b), (1, .ref cx), (2, .ref (A 26)), (3, .ref ao), (4, .int (iI (i)))]) hx hb d_L_law_670 hl (by decide) rfl (fun ls hl => ?_)
    refine lv_aload_n hx hb d_L_law_672 rfl (lv_at hl 4 rfl) ?_
    refine rd_call (ex_runV (C := "LathePiecesModel") (As := []) (rest := []) ⟨hx, hb, hml, hown, hG⟩ (q_thrown hC A (vS v 0 0) (fS (fS f 15 g15) 16 g16) ((ao, .inl (k 1, al 1 o')) :: wc')) (cb_code (n := 0) hG g_709 g_3 g_706 rfl rfl (by decide +kernel) ⟨Nat.le_of_ble_eq_true rfl, Nat.le_of_ble_eq_true rfl⟩) (hG _ g_707) (hG _ g_708) (kd_V (kd_pre h0 hS hP) (kd_recv hK hP (q0 := 0) (ci := 6) rfl rfl rfl)) rfl rfl hl.1 rfl (lv_room (Nat.le_of_ble_eq_true rfl)) d_L_law_673 ⟨(show cells + 6 + 0 + 0 ≤ 601024 by omega), (show slots + 149 + 0 + 0 ≤ 7293034 by omega)⟩) (fun v9 h9 => ?_)
    subst h9
    show W _ _ _ _ _ _ _ _ _ _ _ _ _ _ _ (F0 m9 676 ls [.int (iI (0))])
    refine lv_iload hx hb d_L_law_676 (lv_at hl 1 rfl) ?_
    refine ri_icmp_eq (tgt := 683) hx hb d_L_law_678 (by decide) (by decide) (by decide) (fun _ => ?_) (fun c678 => absurd rfl c678)
    refine lv_iload hx hb d_L_law_683 (lv_at hl 1 rfl) ?_
    refine ri_if_ne (tgt := 700) hx hb d_L_law_685 (by decide) (by decide) (fun c685 => absurd rfl c685) (fun _ => ?_)
    refine lv_aload_n hx hb d_L_law_688 rfl (lv_at hl 5 rfl) ?_
    refine ri_iconst hx hb d_L_law_689 ?_
    replace hP := wl_Pp hP (pm_lf (mWd k A (vS v 0 0) (fS (fS f 15 g15) 16 g16)) (ao, .inl (k 1, al 1 o')) wc')
    replace hD := wl_Dp hD (pm_lf (mWd k A (vS v 0 0) (fS (fS f 15 g15) 16 g16)) (ao, .inl (k 1, al 1 o')) wc')
    refine ra_lald hx hb hK hP 0 rfl (by omega) (by omega) d_L_law_690 ?_
    refine tp_l (y := jJ (tw ((loA (fun j => (f 12) (65 * (sx xs (i + 1)) + j)) (htF ((f 14) (sx xs (i + 2))).toNat) ((f 14) (sx xs (i + 2))).toNat ((f 10) (sx xs (i + 1))).toNat) (sx xs (i + 3))))) (congrArg jJ ho) ?_
    refine lv_iload hx hb d_L_law_691 (lv_at hl 0 rfl) ?_
    refine ri_i2lw hx hb d_L_law_693 ?_
    refine lc_same (tgt := 700) hx hb d_L_law_694 d_L_law_695 (by decide) ?_
    refine lv_goto (tgt := 1941) hx hb d_L_law_700 (by decide) ?_
    replace hP := wl_Pp hP (pm_lb (mWd k A (vS v 0 0) (fS (fS f 15 g15) 16 g16)) (ao, .inl (k 1, al 1 o')) wc')
    replace hD := wl_Dp hD (pm_lb (mWd k A (vS v 0 0) (fS (fS f 15 g15) 16 g16)) (ao, .inl (k 1, al 1 o')) wc')
    refine W.widen (k := cells + 9) (n := slots + 167) (by omega) (by omega) ?_
    exact kk (vS v 0 0) (fS (fS f 15 g15) 16 g16) wc' o' H locs ls (Cst.rows (Cst.code hW2 0) g15 g16) (Iv.rows (Iv.code hI2 0) g15 g16) hP hD hS (lv_sub hl [2, 3, 4, 5, 6] rfl)
  · show W _ _ _ _ _ _ _ _ _ _ _ _ _ _ _ (F0 m9 646 ls [.int (iI (1))])
    refine lv_istore (lv' := [(5, .int (iI (1))), (0, .ref b), (1, .ref cx), (2, .ref (A 26)), (3, .ref ao), (4, .int (iI (i)))]) hx hb d_L_law_646 hl (by decide) rfl (fun ls hl => ?_)
    refine lv_aload_n hx hb d_L_law_648 rfl (lv_at hl 3 rfl) ?_
    refine lv_aload_n hx hb d_L_law_649 rfl (lv_at hl 1 rfl) ?_
    refine lv_iload hx hb d_L_law_650 (lv_at hl 5 rfl) ?_
    refine ri_iconst hx hb d_L_law_652 ?_
    refine ri_iadd hx hb d_L_law_653 ?_
    refine sc_ld hx hb hX hbl hS (by omega) hL3 d_L_law_654 ?_
    refine lv_aload_n hx hb d_L_law_655 rfl (lv_at hl 1 rfl) ?_
    refine lv_iload hx hb d_L_law_656 (lv_at hl 5 rfl) ?_
    refine ri_iconst hx hb d_L_law_658 ?_
    refine ri_iadd hx hb d_L_law_659 ?_
    refine sc_ld hx hb hX hbl hS (by omega) hL3 d_L_law_660 ?_
    refine lv_aload_n hx hb d_L_law_661 rfl (lv_at hl 1 rfl) ?_
    refine lv_iload hx hb d_L_law_662 (lv_at hl 5 rfl) ?_
    refine ri_iconst hx hb d_L_law_664 ?_
    refine ri_iadd hx hb d_L_law_665 ?_
    refine sc_ld hx hb hX hbl hS (by omega) hL3 d_L_law_666 ?_
    replace hP := wl_Pp hP (pm_law wc' (ao, .inl (k 1, al 1 o')) (mWd k A v f))
    replace hD := wl_Dp hD (pm_law wc' (ao, .inl (k 1, al 1 o')) (mWd k A v f))
    refine wd_callC h0 hS (ex_runV (C := "LathePiecesModel") (As := [.int (iI (sx xs (i + 1))), .int (iI (sx xs (i + 2))), .int (iI (sx xs (i + 3)))]) (rest := []) ⟨hx, hb, hml, hown, hG⟩ (q_reached hC A hI ((ao, .inl (k 1, al 1 o')) :: wc') (sx xs (i + 1)) (sx xs (i + 2)) (sx_rg _ _) (sx_rg _ _) (sx xs (i + 3)) (sx_rg _ _)) (cb_code (n := 3) hG g_790 g_3 g_787 rfl rfl (by decide +kernel) ⟨Nat.le_of_ble_eq_true rfl, Nat.le_of_ble_eq_true rfl⟩) (hG _ g_788) (hG _ g_789) (kd_V (kd_preW h0 hS hP hD) (kd_recv hK hP (q0 := 0) (ci := 6) rfl rfl rfl)) rfl rfl hl.1 rfl (lv_room (Nat.le_of_ble_eq_true rfl)) d_L_law_667 ⟨(show cells + 6 + 0 ≤ 601024 by omega), (show slots + 149 + 0 ≤ 7293034 by omega)⟩) (fun E ws9 hE H locs hP hD hS q T0 hT0 hq => False.elim hE) (fun v9 ws9 h9 H locs hP hD hS => ?_)
    obtain ⟨rfl, rfl⟩ := h9.1 hq0
    show W _ _ _ _ _ _ _ _ _ _ _ _ _ _ _ (F0 m9 670 ls [.int (iI (0))])
    refine lv_istore (lv' := [(6, .int (iI (0))), (5, .int (iI (1))), (0, .ref b), (1, .ref cx), (2, .ref (A 26)), (3, .ref ao), (4, .int (iI (i)))]) hx hb d_L_law_670 hl (by decide) rfl (fun ls hl => ?_)
    refine lv_aload_n hx hb d_L_law_672 rfl (lv_at hl 4 rfl) ?_
    refine rd_call (ex_runV (C := "LathePiecesModel") (As := []) (rest := []) ⟨hx, hb, hml, hown, hG⟩ (q_thrown hC A (vS v 0 1) f ((ao, .inl (k 1, al 1 o')) :: wc')) (cb_code (n := 0) hG g_709 g_3 g_706 rfl rfl (by decide +kernel) ⟨Nat.le_of_ble_eq_true rfl, Nat.le_of_ble_eq_true rfl⟩) (hG _ g_707) (hG _ g_708) (kd_V (kd_pre h0 hS hP) (kd_recv hK hP (q0 := 0) (ci := 6) rfl rfl rfl)) rfl rfl hl.1 rfl (lv_room (Nat.le_of_ble_eq_true rfl)) d_L_law_673 ⟨(show cells + 6 + 0 + 0 ≤ 601024 by omega), (show slots + 149 + 0 + 0 ≤ 7293034 by omega)⟩) (fun v9 h9 => ?_)
    subst h9
    show W _ _ _ _ _ _ _ _ _ _ _ _ _ _ _ (F0 m9 676 ls [.int (iI (1))])
    refine lv_iload hx hb d_L_law_676 (lv_at hl 1 rfl) ?_
    refine ri_icmp_eq (tgt := 683) hx hb d_L_law_678 (by decide) (by decide) (by decide) (fun _ => ?_) (fun c678 => absurd rfl c678)
    refine lv_iload hx hb d_L_law_683 (lv_at hl 1 rfl) ?_
    refine ri_if_ne (tgt := 700) hx hb d_L_law_685 (by decide) (by decide) (fun _ => ?_) (fun c685 => absurd c685 (by decide))
    refine lv_goto (tgt := 1941) hx hb d_L_law_700 (by decide) ?_
    replace hP := wl_Pp hP (pm_law (mWd k A (vS v 0 1) f) (ao, .inl (k 1, al 1 o')) wc')
    replace hD := wl_Dp hD (pm_law (mWd k A (vS v 0 1) f) (ao, .inl (k 1, al 1 o')) wc')
    refine W.widen (k := cells + 9) (n := slots + 167) (by omega) (by omega) ?_
    exact kk (vS v 0 1) f wc' o' H locs ls (Cst.code hW2 1) (Iv.code hI 1) hP hD hS (lv_sub hl [2, 3, 4, 5, 6] rfl)
set_option maxHeartbeats 4000000 in
set_option maxRecDepth 100000 in
theorem t_left {p9 : Program} {l : Launch} {e9 : Env} {s : State} {m9 : MethodId} {below9 : List Frame} {meth9 : Method} {c9 : Code} {Q9 : State → Prop} {b L : Nat} {xs : Nat → Int32} {D : va_G} {k : Nat → ClassId} (C0 : LwC p9 l s m9 c9 b L xs D k) {cx : Nat} {A : Nat → Nat} {ao : Nat} {i : Int} {cells slots : Nat} (hi : 0 ≤ i ∧ i + 5 < L) (hc : cells + 9 ≤ 601024) (hs : slots + 167 ≤ 7293034) (kk : LwK p9 l e9 s m9 below9 meth9 c9 b D k cx A ao i (cells + 9) (slots + 167) Q9) {v : Nat → Int} {f : Nat → Int → Int} {wc : va_W} {o9 : Int → Int} {H : Heap} {locs : List Loc} {ls : Array Slot} (hI : Iv v f) (hW : Cst k cx v f wc) (hP : va_P D classes (wc ++ ((ao, .inl (k 1, al 1 o9)) :: mWd k A v f)) H) (hD : va_D (aL s) (wc ++ ((ao, .inl (k 1, al 1 o9)) :: mWd k A v f))) (hS : va_S (aL s) s.heap H locs) (hl : lv_has ls 8 [(0, .ref b), (1, .ref cx), (2, .ref (A 26)), (3, .ref ao), (4, .int (iI (i)))]) : W p9 l e9 room_1 s m9 #[Value.ref b] below9 meth9 c9 H locs cells slots Q9 (F0 m9 703 ls []) := by
  obtain ⟨hx, hb, hml, hown, hG, hX, hbl, hL3, hC⟩ := id C0
  have h0 : La s s := ⟨State.WarmedH.refl s, Nat.le_refl _, fun _ _ => rfl⟩
  have hK := cx_K hC h0
  refine lv_aload_n hx hb d_L_law_703 rfl (lv_at hl 1 rfl) ?_
  refine lv_aload_n hx hb d_L_law_704 rfl (lv_at hl 0 rfl) ?_
  refine lv_iload hx hb d_L_law_705 (lv_at hl 4 rfl) ?_
  refine ri_iconst hx hb d_L_law_707 ?_
  refine ri_iadd hx hb d_L_law_708 ?_
  refine sc_ld hx hb hX hbl hS (by omega) hL3 d_L_law_709 ?_
  refine lv_aload_n hx hb d_L_law_710 rfl (lv_at hl 0 rfl) ?_
  refine lv_iload hx hb d_L_law_711 (lv_at hl 4 rfl) ?_
  refine ri_iconst hx hb d_L_law_713 ?_
  refine ri_iadd hx hb d_L_law_714 ?_
  refine sc_ld hx hb hX hbl hS (by omega) hL3 d_L_law_715 ?_
  refine lv_aload_n hx hb d_L_law_716 rfl (lv_at hl 3 rfl) ?_
  refine wd_callC h0 hS (ex_runS (As := [.ref cx, .int (iI (sx xs (i + 1))), .int (iI (sx xs (i + 2))), .ref ao]) (rest := []) ⟨hx, hb, hml, hown, hG⟩ (w_left hC hI hW (mWd k A v f) ao o9 (sx xs (i + 1)) (sx xs (i + 2)) (sx_rg _ _) (sx_rg _ _)) (cb_with (n := 4) hG g_399 g_0 g_397 rfl rfl (by decide +kernel) ⟨Nat.le_of_ble_eq_true rfl, Nat.le_of_ble_eq_true rfl⟩) (hG _ g_398) (kd_preW h0 hS hP hD) rfl rfl hl.1 rfl (lv_room (Nat.le_of_ble_eq_true rfl)) d_L_law_717 ⟨(show cells + 6 ≤ 601024 by omega), (show slots + 149 ≤ 7293034 by omega)⟩) (fun E ws9 hE H locs hP hD hS q T0 hT0 hq => False.elim hE) (fun v9 ws9 h9 H locs hP hD hS => ?_)
  obtain ⟨wc', o', kz, rfl, rfl, h9⟩ := h9
  rcases h9 with ⟨rfl, hq0, ho, hW2, hI2⟩ | ⟨rfl, hq0, hW2⟩
  · show W _ _ _ _ _ _ _ _ _ _ _ _ _ _ _ (F0 m9 720 ls [.int (iI (0))])
    refine lv_istore (lv' := [(5, .int (iI (0))), (0, .ref b), (1, .ref cx), (2, .ref (A 26)), (3, .ref ao), (4, .int (iI (i)))]) hx hb d_L_law_720 hl (by decide) rfl (fun ls hl => ?_)
    refine lv_aload_n hx hb d_L_law_722 rfl (lv_at hl 3 rfl) ?_
    refine lv_aload_n hx hb d_L_law_723 rfl (lv_at hl 1 rfl) ?_
    refine lv_iload hx hb d_L_law_724 (lv_at hl 5 rfl) ?_
    refine ri_iconst hx hb d_L_law_726 ?_
    refine ri_iadd hx hb d_L_law_727 ?_
    refine sc_ld hx hb hX hbl hS (by omega) hL3 d_L_law_728 ?_
    refine lv_aload_n hx hb d_L_law_729 rfl (lv_at hl 1 rfl) ?_
    refine lv_iload hx hb d_L_law_730 (lv_at hl 5 rfl) ?_
    refine ri_iconst hx hb d_L_law_732 ?_
    refine ri_iadd hx hb d_L_law_733 ?_
    refine sc_ld hx hb hX hbl hS (by omega) hL3 d_L_law_734 ?_
    replace hP := wl_Pp hP (pm_law wc' (ao, .inl (k 1, al 1 o')) (mWd k A v f))
    replace hD := wl_Dp hD (pm_law wc' (ao, .inl (k 1, al 1 o')) (mWd k A v f))
    refine wd_callC h0 hS (ex_runV (C := "LathePiecesModel") (As := [.int (iI (sx xs (i + 1))), .int (iI (sx xs (i + 2)))]) (rest := []) ⟨hx, hb, hml, hown, hG⟩ (q_left hC A hI ((ao, .inl (k 1, al 1 o')) :: wc') (sx xs (i + 1)) (sx xs (i + 2)) (sx_rg _ _) (sx_rg _ _)) (cb_code (n := 2) hG g_798 g_3 g_795 rfl rfl (by decide +kernel) ⟨Nat.le_of_ble_eq_true rfl, Nat.le_of_ble_eq_true rfl⟩) (hG _ g_796) (hG _ g_797) (kd_V (kd_preW h0 hS hP hD) (kd_recv hK hP (q0 := 0) (ci := 6) rfl rfl rfl)) rfl rfl hl.1 rfl (lv_room (Nat.le_of_ble_eq_true rfl)) d_L_law_735 ⟨(show cells + 6 + 0 ≤ 601024 by omega), (show slots + 149 + 0 ≤ 7293034 by omega)⟩) (fun E ws9 hE H locs hP hD hS q T0 hT0 hq => False.elim hE) (fun v9 ws9 h9 H locs hP hD hS => ?_)
    obtain ⟨g15, g16, rfl, rfl⟩ := h9.2 hq0
    show W _ _ _ _ _ _ _ _ _ _ _ _ _ _ _ (F0 m9 738 ls [.int (iI (cnF (fun j => decide ((f 12) (65 * (sx xs (i + 1)) + j) < (loA (fun j => (f 12) (65 * (sx xs (i + 1)) + j)) (htF ((f 14) (sx xs (i + 2))).toNat) ((f 14) (sx xs (i + 2))).toNat ((f 10) (sx xs (i + 1))).toNat) j)) 0 (((f 10) (sx xs (i + 1))).toNat + 1)))])
    refine lv_istore (lv' := [(6, .int (iI (cnF (fun j => decide ((f 12) (65 * (sx xs (i + 1)) + j) < (loA (fun j => (f 12) (65 * (sx xs (i + 1)) + j)) (htF ((f 14) (sx xs (i + 2))).toNat) ((f 14) (sx xs (i + 2))).toNat ((f 10) (sx xs (i + 1))).toNat) j)) 0 (((f 10) (sx xs (i + 1))).toNat + 1)))), (5, .int (iI (0))), (0, .ref b), (1, .ref cx), (2, .ref (A 26)), (3, .ref ao), (4, .int (iI (i)))]) hx hb d_L_law_738 hl (by decide) rfl (fun ls hl => ?_)
    refine lv_aload_n hx hb d_L_law_740 rfl (lv_at hl 4 rfl) ?_
    refine rd_call (ex_runV (C := "LathePiecesModel") (As := []) (rest := []) ⟨hx, hb, hml, hown, hG⟩ (q_thrown hC A (vS v 0 0) (fS (fS f 15 g15) 16 g16) ((ao, .inl (k 1, al 1 o')) :: wc')) (cb_code (n := 0) hG g_709 g_3 g_706 rfl rfl (by decide +kernel) ⟨Nat.le_of_ble_eq_true rfl, Nat.le_of_ble_eq_true rfl⟩) (hG _ g_707) (hG _ g_708) (kd_V (kd_pre h0 hS hP) (kd_recv hK hP (q0 := 0) (ci := 6) rfl rfl rfl)) rfl rfl hl.1 rfl (lv_room (Nat.le_of_ble_eq_true rfl)) d_L_law_741 ⟨(show cells + 6 + 0 + 0 ≤ 601024 by omega), (show slots + 149 + 0 + 0 ≤ 7293034 by omega)⟩) (fun v9 h9 => ?_)
    subst h9
    show W _ _ _ _ _ _ _ _ _ _ _ _ _ _ _ (F0 m9 744 ls [.int (iI (0))])
    refine lv_iload hx hb d_L_law_744 (lv_at hl 1 rfl) ?_
    refine ri_icmp_eq (tgt := 751) hx hb d_L_law_746 (by decide) (by decide) (by decide) (fun _ => ?_) (fun c746 => absurd rfl c746)
    refine lv_iload hx hb d_L_law_751 (lv_at hl 1 rfl) ?_
    refine ri_if_ne (tgt := 768) hx hb d_L_law_753 (by decide) (by decide) (fun c753 => absurd rfl c753) (fun _ => ?_)
    refine lv_aload_n hx hb d_L_law_756 rfl (lv_at hl 5 rfl) ?_
    refine ri_iconst hx hb d_L_law_757 ?_
    replace hP := wl_Pp hP (pm_lf (mWd k A (vS v 0 0) (fS (fS f 15 g15) 16 g16)) (ao, .inl (k 1, al 1 o')) wc')
    replace hD := wl_Dp hD (pm_lf (mWd k A (vS v 0 0) (fS (fS f 15 g15) 16 g16)) (ao, .inl (k 1, al 1 o')) wc')
    refine ra_lald hx hb hK hP 0 rfl (by omega) (by omega) d_L_law_758 ?_
    refine tp_l (y := jJ (tw (cnF (fun j => decide ((f 12) (65 * (sx xs (i + 1)) + j) < (loA (fun j => (f 12) (65 * (sx xs (i + 1)) + j)) (htF ((f 14) (sx xs (i + 2))).toNat) ((f 14) (sx xs (i + 2))).toNat ((f 10) (sx xs (i + 1))).toNat) j)) 0 (((f 10) (sx xs (i + 1))).toNat + 1)))) (congrArg jJ ho) ?_
    refine lv_iload hx hb d_L_law_759 (lv_at hl 0 rfl) ?_
    refine ri_i2lw hx hb d_L_law_761 ?_
    refine lc_same (tgt := 768) hx hb d_L_law_762 d_L_law_763 (by decide) ?_
    refine lv_goto (tgt := 1941) hx hb d_L_law_768 (by decide) ?_
    replace hP := wl_Pp hP (pm_lb (mWd k A (vS v 0 0) (fS (fS f 15 g15) 16 g16)) (ao, .inl (k 1, al 1 o')) wc')
    replace hD := wl_Dp hD (pm_lb (mWd k A (vS v 0 0) (fS (fS f 15 g15) 16 g16)) (ao, .inl (k 1, al 1 o')) wc')
    refine W.widen (k := cells + 9) (n := slots + 167) (by omega) (by omega) ?_
    exact kk (vS v 0 0) (fS (fS f 15 g15) 16 g16) wc' o' H locs ls (Cst.rows (Cst.code hW2 0) g15 g16) (Iv.rows (Iv.code hI2 0) g15 g16) hP hD hS (lv_sub hl [2, 3, 4, 5, 6] rfl)
  · show W _ _ _ _ _ _ _ _ _ _ _ _ _ _ _ (F0 m9 720 ls [.int (iI (1))])
    refine lv_istore (lv' := [(5, .int (iI (1))), (0, .ref b), (1, .ref cx), (2, .ref (A 26)), (3, .ref ao), (4, .int (iI (i)))]) hx hb d_L_law_720 hl (by decide) rfl (fun ls hl => ?_)
    refine lv_aload_n hx hb d_L_law_722 rfl (lv_at hl 3 rfl) ?_
    refine lv_aload_n hx hb d_L_law_723 rfl (lv_at hl 1 rfl) ?_
    refine lv_iload hx hb d_L_law_724 (lv_at hl 5 rfl) ?_
    refine ri_iconst hx hb d_L_law_726 ?_
    refine ri_iadd hx hb d_L_law_727 ?_
    refine sc_ld hx hb hX hbl hS (by omega) hL3 d_L_law_728 ?_
    refine lv_aload_n hx hb d_L_law_729 rfl (lv_at hl 1 rfl) ?_
    refine lv_iload hx hb d_L_law_730 (lv_at hl 5 rfl) ?_
    refine ri_iconst hx hb d_L_law_732 ?_
    refine ri_iadd hx hb d_L_law_733 ?_
    refine sc_ld hx hb hX hbl hS (by omega) hL3 d_L_law_734 ?_
    replace hP := wl_Pp hP (pm_law wc' (ao, .inl (k 1, al 1 o')) (mWd k A v f))
    replace hD := wl_Dp hD (pm_law wc' (ao, .inl (k 1, al 1 o')) (mWd k A v f))
    refine wd_callC h0 hS (ex_runV (C := "LathePiecesModel") (As := [.int (iI (sx xs (i + 1))), .int (iI (sx xs (i + 2)))]) (rest := []) ⟨hx, hb, hml, hown, hG⟩ (q_left hC A hI ((ao, .inl (k 1, al 1 o')) :: wc') (sx xs (i + 1)) (sx xs (i + 2)) (sx_rg _ _) (sx_rg _ _)) (cb_code (n := 2) hG g_798 g_3 g_795 rfl rfl (by decide +kernel) ⟨Nat.le_of_ble_eq_true rfl, Nat.le_of_ble_eq_true rfl⟩) (hG _ g_796) (hG _ g_797) (kd_V (kd_preW h0 hS hP hD) (kd_recv hK hP (q0 := 0) (ci := 6) rfl rfl rfl)) rfl rfl hl.1 rfl (lv_room (Nat.le_of_ble_eq_true rfl)) d_L_law_735 ⟨(show cells + 6 + 0 ≤ 601024 by omega), (show slots + 149 + 0 ≤ 7293034 by omega)⟩) (fun E ws9 hE H locs hP hD hS q T0 hT0 hq => False.elim hE) (fun v9 ws9 h9 H locs hP hD hS => ?_)
    obtain ⟨rfl, rfl⟩ := h9.1 hq0
    show W _ _ _ _ _ _ _ _ _ _ _ _ _ _ _ (F0 m9 738 ls [.int (iI (0))])
    refine lv_istore (lv' := [(6, .int (iI (0))), (5, .int (iI (1))), (0, .ref b), (1, .ref cx), (2, .ref (A 26)), (3, .ref ao), (4, .int (iI (i)))]) hx hb d_L_law_738 hl (by decide) rfl (fun ls hl => ?_)
    refine lv_aload_n hx hb d_L_law_740 rfl (lv_at hl 4 rfl) ?_
    refine rd_call (ex_runV (C := "LathePiecesModel") (As := []) (rest := []) ⟨hx, hb, hml, hown, hG⟩ (q_thrown hC A (vS v 0 1) f ((ao, .inl (k 1, al 1 o')) :: wc')) (cb_code (n := 0) hG g_709 g_3 g_706 rfl rfl (by decide +kernel) ⟨Nat.le_of_ble_eq_true rfl, Nat.le_of_ble_eq_true rfl⟩) (hG _ g_707) (hG _ g_708) (kd_V (kd_pre h0 hS hP) (kd_recv hK hP (q0 := 0) (ci := 6) rfl rfl rfl)) rfl rfl hl.1 rfl (lv_room (Nat.le_of_ble_eq_true rfl)) d_L_law_741 ⟨(show cells + 6 + 0 + 0 ≤ 601024 by omega), (show slots + 149 + 0 + 0 ≤ 7293034 by omega)⟩) (fun v9 h9 => ?_)
    subst h9
    show W _ _ _ _ _ _ _ _ _ _ _ _ _ _ _ (F0 m9 744 ls [.int (iI (1))])
    refine lv_iload hx hb d_L_law_744 (lv_at hl 1 rfl) ?_
    refine ri_icmp_eq (tgt := 751) hx hb d_L_law_746 (by decide) (by decide) (by decide) (fun _ => ?_) (fun c746 => absurd rfl c746)
    refine lv_iload hx hb d_L_law_751 (lv_at hl 1 rfl) ?_
    refine ri_if_ne (tgt := 768) hx hb d_L_law_753 (by decide) (by decide) (fun _ => ?_) (fun c753 => absurd c753 (by decide))
    refine lv_goto (tgt := 1941) hx hb d_L_law_768 (by decide) ?_
    replace hP := wl_Pp hP (pm_law (mWd k A (vS v 0 1) f) (ao, .inl (k 1, al 1 o')) wc')
    replace hD := wl_Dp hD (pm_law (mWd k A (vS v 0 1) f) (ao, .inl (k 1, al 1 o')) wc')
    refine W.widen (k := cells + 9) (n := slots + 167) (by omega) (by omega) ?_
    exact kk (vS v 0 1) f wc' o' H locs ls (Cst.code hW2 1) (Iv.code hI 1) hP hD hS (lv_sub hl [2, 3, 4, 5, 6] rfl)
set_option maxHeartbeats 4000000 in
set_option maxRecDepth 100000 in
theorem t_passes {p9 : Program} {l : Launch} {e9 : Env} {s : State} {m9 : MethodId} {below9 : List Frame} {meth9 : Method} {c9 : Code} {Q9 : State → Prop} {b L : Nat} {xs : Nat → Int32} {D : va_G} {k : Nat → ClassId} (C0 : LwC p9 l s m9 c9 b L xs D k) {cx : Nat} {A : Nat → Nat} {ao : Nat} {i : Int} {cells slots : Nat} (hi : 0 ≤ i ∧ i + 5 < L) (hc : cells + 9 ≤ 601024) (hs : slots + 167 ≤ 7293034) (kk : LwK p9 l e9 s m9 below9 meth9 c9 b D k cx A ao i (cells + 9) (slots + 167) Q9) {v : Nat → Int} {f : Nat → Int → Int} {wc : va_W} {o9 : Int → Int} {H : Heap} {locs : List Loc} {ls : Array Slot} (hI : Iv v f) (hW : Cst k cx v f wc) (hP : va_P D classes (wc ++ ((ao, .inl (k 1, al 1 o9)) :: mWd k A v f)) H) (hD : va_D (aL s) (wc ++ ((ao, .inl (k 1, al 1 o9)) :: mWd k A v f))) (hS : va_S (aL s) s.heap H locs) (hl : lv_has ls 8 [(0, .ref b), (1, .ref cx), (2, .ref (A 26)), (3, .ref ao), (4, .int (iI (i)))]) : W p9 l e9 room_1 s m9 #[Value.ref b] below9 meth9 c9 H locs cells slots Q9 (F0 m9 771 ls []) := by
  obtain ⟨hx, hb, hml, hown, hG, hX, hbl, hL3, hC⟩ := id C0
  have h0 : La s s := ⟨State.WarmedH.refl s, Nat.le_refl _, fun _ _ => rfl⟩
  have hK := cx_K hC h0
  refine lv_aload_n hx hb d_L_law_771 rfl (lv_at hl 1 rfl) ?_
  refine lv_aload_n hx hb d_L_law_772 rfl (lv_at hl 0 rfl) ?_
  refine lv_iload hx hb d_L_law_773 (lv_at hl 4 rfl) ?_
  refine ri_iconst hx hb d_L_law_775 ?_
  refine ri_iadd hx hb d_L_law_776 ?_
  refine sc_ld hx hb hX hbl hS (by omega) hL3 d_L_law_777 ?_
  refine lv_aload_n hx hb d_L_law_778 rfl (lv_at hl 0 rfl) ?_
  refine lv_iload hx hb d_L_law_779 (lv_at hl 4 rfl) ?_
  refine ri_iconst hx hb d_L_law_781 ?_
  refine ri_iadd hx hb d_L_law_782 ?_
  refine sc_ld hx hb hX hbl hS (by omega) hL3 d_L_law_783 ?_
  refine lv_aload_n hx hb d_L_law_784 rfl (lv_at hl 0 rfl) ?_
  refine lv_iload hx hb d_L_law_785 (lv_at hl 4 rfl) ?_
  refine ri_iconst hx hb d_L_law_787 ?_
  refine ri_iadd hx hb d_L_law_788 ?_
  refine sc_ld hx hb hX hbl hS (by omega) hL3 d_L_law_789 ?_
  refine lv_aload_n hx hb d_L_law_790 rfl (lv_at hl 0 rfl) ?_
  refine lv_iload hx hb d_L_law_791 (lv_at hl 4 rfl) ?_
  refine ri_iconst hx hb d_L_law_793 ?_
  refine ri_iadd hx hb d_L_law_794 ?_
  refine sc_ld hx hb hX hbl hS (by omega) hL3 d_L_law_795 ?_
  refine lv_aload_n hx hb d_L_law_796 rfl (lv_at hl 3 rfl) ?_
  refine wd_callC h0 hS (ex_runS (As := [.ref cx, .int (iI (sx xs (i + 1))), .int (iI (sx xs (i + 2))), .int (iI (sx xs (i + 3))), .int (iI (sx xs (i + 4))), .ref ao]) (rest := []) ⟨hx, hb, hml, hown, hG⟩ (w_passes hC hI hW (mWd k A v f) ao o9 (sx xs (i + 1)) (sx xs (i + 2)) (sx_rg _ _) (sx_rg _ _) (sx xs (i + 3)) (sx xs (i + 4)) (sx_rg _ _) (sx_rg _ _)) (cb_with (n := 6) hG g_410 g_0 g_408 rfl rfl (by decide +kernel) ⟨Nat.le_of_ble_eq_true rfl, Nat.le_of_ble_eq_true rfl⟩) (hG _ g_409) (kd_preW h0 hS hP hD) rfl rfl hl.1 rfl (lv_room (Nat.le_of_ble_eq_true rfl)) d_L_law_797 ⟨(show cells + 8 ≤ 601024 by omega), (show slots + 161 ≤ 7293034 by omega)⟩) (fun E ws9 hE H locs hP hD hS q T0 hT0 hq => False.elim hE) (fun v9 ws9 h9 H locs hP hD hS => ?_)
  obtain ⟨wc', o', kz, rfl, rfl, h9⟩ := h9
  rcases h9 with ⟨rfl, hq0, ho, hW2, hI2⟩ | ⟨rfl, hq0, hW2⟩ | ⟨rfl, hq0, hW2⟩
  · show W _ _ _ _ _ _ _ _ _ _ _ _ _ _ _ (F0 m9 800 ls [.int (iI (0))])
    refine lv_istore (lv' := [(5, .int (iI (0))), (0, .ref b), (1, .ref cx), (2, .ref (A 26)), (3, .ref ao), (4, .int (iI (i)))]) hx hb d_L_law_800 hl (by decide) rfl (fun ls hl => ?_)
    refine lv_aload_n hx hb d_L_law_802 rfl (lv_at hl 3 rfl) ?_
    refine lv_aload_n hx hb d_L_law_803 rfl (lv_at hl 1 rfl) ?_
    refine lv_iload hx hb d_L_law_804 (lv_at hl 5 rfl) ?_
    refine ri_iconst hx hb d_L_law_806 ?_
    refine ri_iadd hx hb d_L_law_807 ?_
    refine sc_ld hx hb hX hbl hS (by omega) hL3 d_L_law_808 ?_
    refine lv_aload_n hx hb d_L_law_809 rfl (lv_at hl 1 rfl) ?_
    refine lv_iload hx hb d_L_law_810 (lv_at hl 5 rfl) ?_
    refine ri_iconst hx hb d_L_law_812 ?_
    refine ri_iadd hx hb d_L_law_813 ?_
    refine sc_ld hx hb hX hbl hS (by omega) hL3 d_L_law_814 ?_
    refine lv_aload_n hx hb d_L_law_815 rfl (lv_at hl 1 rfl) ?_
    refine lv_iload hx hb d_L_law_816 (lv_at hl 5 rfl) ?_
    refine ri_iconst hx hb d_L_law_818 ?_
    refine ri_iadd hx hb d_L_law_819 ?_
    refine sc_ld hx hb hX hbl hS (by omega) hL3 d_L_law_820 ?_
    refine lv_aload_n hx hb d_L_law_821 rfl (lv_at hl 1 rfl) ?_
    refine lv_iload hx hb d_L_law_822 (lv_at hl 5 rfl) ?_
    refine ri_iconst hx hb d_L_law_824 ?_
    refine ri_iadd hx hb d_L_law_825 ?_
    refine sc_ld hx hb hX hbl hS (by omega) hL3 d_L_law_826 ?_
    replace hP := wl_Pp hP (pm_law wc' (ao, .inl (k 1, al 1 o')) (mWd k A v f))
    replace hD := wl_Dp hD (pm_law wc' (ao, .inl (k 1, al 1 o')) (mWd k A v f))
    refine wd_callC h0 hS (ex_runV (C := "LathePiecesModel") (As := [.int (iI (sx xs (i + 1))), .int (iI (sx xs (i + 2))), .int (iI (sx xs (i + 3))), .int (iI (sx xs (i + 4)))]) (rest := []) ⟨hx, hb, hml, hown, hG⟩ (q_passes hC A hI ((ao, .inl (k 1, al 1 o')) :: wc') (sx xs (i + 1)) (sx xs (i + 2)) (sx_rg _ _) (sx_rg _ _) (sx xs (i + 3)) (sx xs (i + 4)) (sx_rg _ _) (sx_rg _ _)) (cb_code (n := 4) hG g_802 g_3 g_799 rfl rfl (by decide +kernel) ⟨Nat.le_of_ble_eq_true rfl, Nat.le_of_ble_eq_true rfl⟩) (hG _ g_800) (hG _ g_801) (kd_V (kd_preW h0 hS hP hD) (kd_recv hK hP (q0 := 0) (ci := 6) rfl rfl rfl)) rfl rfl hl.1 rfl (lv_room (Nat.le_of_ble_eq_true rfl)) d_L_law_827 ⟨(show cells + 8 + 0 ≤ 601024 by omega), (show slots + 161 + 0 ≤ 7293034 by omega)⟩) (fun E ws9 hE H locs hP hD hS q T0 hT0 hq => False.elim hE) (fun v9 ws9 h9 H locs hP hD hS => ?_)
    obtain ⟨g15, g16, rfl, rfl⟩ := h9.2.2 hq0
    show W _ _ _ _ _ _ _ _ _ _ _ _ _ _ _ (F0 m9 830 ls [.int (iI (((itF max (fun j => (f 12) (65 * (sx xs (i + 1)) + j)) 0 0 (((f 10) (sx xs (i + 1))).toNat + 1) + 3) - itF min (fun j => min ((loA (fun j => (f 12) (65 * (sx xs (i + 1)) + j)) (htF ((f 14) (sx xs (i + 2))).toNat) ((f 14) (sx xs (i + 2))).toNat ((f 10) (sx xs (i + 1))).toNat) j + (sx xs (i + 4))) (itF max (fun j => (f 12) (65 * (sx xs (i + 1)) + j)) 0 0 (((f 10) (sx xs (i + 1))).toNat + 1) + 3)) (itF max (fun j => (f 12) (65 * (sx xs (i + 1)) + j)) 0 0 (((f 10) (sx xs (i + 1))).toNat + 1) + 3) 0 (((f 10) (sx xs (i + 1))).toNat + 1) + (sx xs (i + 3)) - 1).tdiv (sx xs (i + 3))))])
    refine lv_istore (lv' := [(6, .int (iI (((itF max (fun j => (f 12) (65 * (sx xs (i + 1)) + j)) 0 0 (((f 10) (sx xs (i + 1))).toNat + 1) + 3) - itF min (fun j => min ((loA (fun j => (f 12) (65 * (sx xs (i + 1)) + j)) (htF ((f 14) (sx xs (i + 2))).toNat) ((f 14) (sx xs (i + 2))).toNat ((f 10) (sx xs (i + 1))).toNat) j + (sx xs (i + 4))) (itF max (fun j => (f 12) (65 * (sx xs (i + 1)) + j)) 0 0 (((f 10) (sx xs (i + 1))).toNat + 1) + 3)) (itF max (fun j => (f 12) (65 * (sx xs (i + 1)) + j)) 0 0 (((f 10) (sx xs (i + 1))).toNat + 1) + 3) 0 (((f 10) (sx xs (i + 1))).toNat + 1) + (sx xs (i + 3)) - 1).tdiv (sx xs (i + 3))))), (5, .int (iI (0))), (0, .ref b), (1, .ref cx), (2, .ref (A 26)), (3, .ref ao), (4, .int (iI (i)))]) hx hb d_L_law_830 hl (by decide) rfl (fun ls hl => ?_)
    refine lv_aload_n hx hb d_L_law_832 rfl (lv_at hl 4 rfl) ?_
    refine rd_call (ex_runV (C := "LathePiecesModel") (As := []) (rest := []) ⟨hx, hb, hml, hown, hG⟩ (q_thrown hC A (vS v 0 0) (fS (fS f 15 g15) 16 g16) ((ao, .inl (k 1, al 1 o')) :: wc')) (cb_code (n := 0) hG g_709 g_3 g_706 rfl rfl (by decide +kernel) ⟨Nat.le_of_ble_eq_true rfl, Nat.le_of_ble_eq_true rfl⟩) (hG _ g_707) (hG _ g_708) (kd_V (kd_pre h0 hS hP) (kd_recv hK hP (q0 := 0) (ci := 6) rfl rfl rfl)) rfl rfl hl.1 rfl (lv_room (Nat.le_of_ble_eq_true rfl)) d_L_law_833 ⟨(show cells + 8 + 0 + 0 ≤ 601024 by omega), (show slots + 161 + 0 + 0 ≤ 7293034 by omega)⟩) (fun v9 h9 => ?_)
    subst h9
    show W _ _ _ _ _ _ _ _ _ _ _ _ _ _ _ (F0 m9 836 ls [.int (iI (0))])
    refine lv_iload hx hb d_L_law_836 (lv_at hl 1 rfl) ?_
    refine ri_icmp_eq (tgt := 843) hx hb d_L_law_838 (by decide) (by decide) (by decide) (fun _ => ?_) (fun c838 => absurd rfl c838)
    refine lv_iload hx hb d_L_law_843 (lv_at hl 1 rfl) ?_
    refine ri_if_ne (tgt := 860) hx hb d_L_law_845 (by decide) (by decide) (fun c845 => absurd rfl c845) (fun _ => ?_)
    refine lv_aload_n hx hb d_L_law_848 rfl (lv_at hl 5 rfl) ?_
    refine ri_iconst hx hb d_L_law_849 ?_
    replace hP := wl_Pp hP (pm_lf (mWd k A (vS v 0 0) (fS (fS f 15 g15) 16 g16)) (ao, .inl (k 1, al 1 o')) wc')
    replace hD := wl_Dp hD (pm_lf (mWd k A (vS v 0 0) (fS (fS f 15 g15) 16 g16)) (ao, .inl (k 1, al 1 o')) wc')
    refine ra_lald hx hb hK hP 0 rfl (by omega) (by omega) d_L_law_850 ?_
    refine tp_l (y := jJ (tw (((itF max (fun j => (f 12) (65 * (sx xs (i + 1)) + j)) 0 0 (((f 10) (sx xs (i + 1))).toNat + 1) + 3) - itF min (fun j => min ((loA (fun j => (f 12) (65 * (sx xs (i + 1)) + j)) (htF ((f 14) (sx xs (i + 2))).toNat) ((f 14) (sx xs (i + 2))).toNat ((f 10) (sx xs (i + 1))).toNat) j + (sx xs (i + 4))) (itF max (fun j => (f 12) (65 * (sx xs (i + 1)) + j)) 0 0 (((f 10) (sx xs (i + 1))).toNat + 1) + 3)) (itF max (fun j => (f 12) (65 * (sx xs (i + 1)) + j)) 0 0 (((f 10) (sx xs (i + 1))).toNat + 1) + 3) 0 (((f 10) (sx xs (i + 1))).toNat + 1) + (sx xs (i + 3)) - 1).tdiv (sx xs (i + 3))))) (congrArg jJ ho) ?_
    refine lv_iload hx hb d_L_law_851 (lv_at hl 0 rfl) ?_
    refine ri_i2lw hx hb d_L_law_853 ?_
    refine lc_same (tgt := 860) hx hb d_L_law_854 d_L_law_855 (by decide) ?_
    refine lv_goto (tgt := 1941) hx hb d_L_law_860 (by decide) ?_
    replace hP := wl_Pp hP (pm_lb (mWd k A (vS v 0 0) (fS (fS f 15 g15) 16 g16)) (ao, .inl (k 1, al 1 o')) wc')
    replace hD := wl_Dp hD (pm_lb (mWd k A (vS v 0 0) (fS (fS f 15 g15) 16 g16)) (ao, .inl (k 1, al 1 o')) wc')
    refine W.widen (k := cells + 9) (n := slots + 167) (by omega) (by omega) ?_
    exact kk (vS v 0 0) (fS (fS f 15 g15) 16 g16) wc' o' H locs ls (Cst.rows (Cst.code hW2 0) g15 g16) (Iv.rows (Iv.code hI2 0) g15 g16) hP hD hS (lv_sub hl [2, 3, 4, 5, 6] rfl)
  · show W _ _ _ _ _ _ _ _ _ _ _ _ _ _ _ (F0 m9 800 ls [.int (iI (1))])
    refine lv_istore (lv' := [(5, .int (iI (1))), (0, .ref b), (1, .ref cx), (2, .ref (A 26)), (3, .ref ao), (4, .int (iI (i)))]) hx hb d_L_law_800 hl (by decide) rfl (fun ls hl => ?_)
    refine lv_aload_n hx hb d_L_law_802 rfl (lv_at hl 3 rfl) ?_
    refine lv_aload_n hx hb d_L_law_803 rfl (lv_at hl 1 rfl) ?_
    refine lv_iload hx hb d_L_law_804 (lv_at hl 5 rfl) ?_
    refine ri_iconst hx hb d_L_law_806 ?_
    refine ri_iadd hx hb d_L_law_807 ?_
    refine sc_ld hx hb hX hbl hS (by omega) hL3 d_L_law_808 ?_
    refine lv_aload_n hx hb d_L_law_809 rfl (lv_at hl 1 rfl) ?_
    refine lv_iload hx hb d_L_law_810 (lv_at hl 5 rfl) ?_
    refine ri_iconst hx hb d_L_law_812 ?_
    refine ri_iadd hx hb d_L_law_813 ?_
    refine sc_ld hx hb hX hbl hS (by omega) hL3 d_L_law_814 ?_
    refine lv_aload_n hx hb d_L_law_815 rfl (lv_at hl 1 rfl) ?_
    refine lv_iload hx hb d_L_law_816 (lv_at hl 5 rfl) ?_
    refine ri_iconst hx hb d_L_law_818 ?_
    refine ri_iadd hx hb d_L_law_819 ?_
    refine sc_ld hx hb hX hbl hS (by omega) hL3 d_L_law_820 ?_
    refine lv_aload_n hx hb d_L_law_821 rfl (lv_at hl 1 rfl) ?_
    refine lv_iload hx hb d_L_law_822 (lv_at hl 5 rfl) ?_
    refine ri_iconst hx hb d_L_law_824 ?_
    refine ri_iadd hx hb d_L_law_825 ?_
    refine sc_ld hx hb hX hbl hS (by omega) hL3 d_L_law_826 ?_
    replace hP := wl_Pp hP (pm_law wc' (ao, .inl (k 1, al 1 o')) (mWd k A v f))
    replace hD := wl_Dp hD (pm_law wc' (ao, .inl (k 1, al 1 o')) (mWd k A v f))
    refine wd_callC h0 hS (ex_runV (C := "LathePiecesModel") (As := [.int (iI (sx xs (i + 1))), .int (iI (sx xs (i + 2))), .int (iI (sx xs (i + 3))), .int (iI (sx xs (i + 4)))]) (rest := []) ⟨hx, hb, hml, hown, hG⟩ (q_passes hC A hI ((ao, .inl (k 1, al 1 o')) :: wc') (sx xs (i + 1)) (sx xs (i + 2)) (sx_rg _ _) (sx_rg _ _) (sx xs (i + 3)) (sx xs (i + 4)) (sx_rg _ _) (sx_rg _ _)) (cb_code (n := 4) hG g_802 g_3 g_799 rfl rfl (by decide +kernel) ⟨Nat.le_of_ble_eq_true rfl, Nat.le_of_ble_eq_true rfl⟩) (hG _ g_800) (hG _ g_801) (kd_V (kd_preW h0 hS hP hD) (kd_recv hK hP (q0 := 0) (ci := 6) rfl rfl rfl)) rfl rfl hl.1 rfl (lv_room (Nat.le_of_ble_eq_true rfl)) d_L_law_827 ⟨(show cells + 8 + 0 ≤ 601024 by omega), (show slots + 161 + 0 ≤ 7293034 by omega)⟩) (fun E ws9 hE H locs hP hD hS q T0 hT0 hq => False.elim hE) (fun v9 ws9 h9 H locs hP hD hS => ?_)
    obtain ⟨rfl, rfl⟩ := h9.1 hq0
    show W _ _ _ _ _ _ _ _ _ _ _ _ _ _ _ (F0 m9 830 ls [.int (iI (0))])
    refine lv_istore (lv' := [(6, .int (iI (0))), (5, .int (iI (1))), (0, .ref b), (1, .ref cx), (2, .ref (A 26)), (3, .ref ao), (4, .int (iI (i)))]) hx hb d_L_law_830 hl (by decide) rfl (fun ls hl => ?_)
    refine lv_aload_n hx hb d_L_law_832 rfl (lv_at hl 4 rfl) ?_
    refine rd_call (ex_runV (C := "LathePiecesModel") (As := []) (rest := []) ⟨hx, hb, hml, hown, hG⟩ (q_thrown hC A (vS v 0 1) f ((ao, .inl (k 1, al 1 o')) :: wc')) (cb_code (n := 0) hG g_709 g_3 g_706 rfl rfl (by decide +kernel) ⟨Nat.le_of_ble_eq_true rfl, Nat.le_of_ble_eq_true rfl⟩) (hG _ g_707) (hG _ g_708) (kd_V (kd_pre h0 hS hP) (kd_recv hK hP (q0 := 0) (ci := 6) rfl rfl rfl)) rfl rfl hl.1 rfl (lv_room (Nat.le_of_ble_eq_true rfl)) d_L_law_833 ⟨(show cells + 8 + 0 + 0 ≤ 601024 by omega), (show slots + 161 + 0 + 0 ≤ 7293034 by omega)⟩) (fun v9 h9 => ?_)
    subst h9
    show W _ _ _ _ _ _ _ _ _ _ _ _ _ _ _ (F0 m9 836 ls [.int (iI (1))])
    refine lv_iload hx hb d_L_law_836 (lv_at hl 1 rfl) ?_
    refine ri_icmp_eq (tgt := 843) hx hb d_L_law_838 (by decide) (by decide) (by decide) (fun _ => ?_) (fun c838 => absurd rfl c838)
    refine lv_iload hx hb d_L_law_843 (lv_at hl 1 rfl) ?_
    refine ri_if_ne (tgt := 860) hx hb d_L_law_845 (by decide) (by decide) (fun _ => ?_) (fun c845 => absurd c845 (by decide))
    refine lv_goto (tgt := 1941) hx hb d_L_law_860 (by decide) ?_
    replace hP := wl_Pp hP (pm_law (mWd k A (vS v 0 1) f) (ao, .inl (k 1, al 1 o')) wc')
    replace hD := wl_Dp hD (pm_law (mWd k A (vS v 0 1) f) (ao, .inl (k 1, al 1 o')) wc')
    refine W.widen (k := cells + 9) (n := slots + 167) (by omega) (by omega) ?_
    exact kk (vS v 0 1) f wc' o' H locs ls (Cst.code hW2 1) (Iv.code hI 1) hP hD hS (lv_sub hl [2, 3, 4, 5, 6] rfl)
  · show W _ _ _ _ _ _ _ _ _ _ _ _ _ _ _ (F0 m9 800 ls [.int (iI (2))])
    refine lv_istore (lv' := [(5, .int (iI (2))), (0, .ref b), (1, .ref cx), (2, .ref (A 26)), (3, .ref ao), (4, .int (iI (i)))]) hx hb d_L_law_800 hl (by decide) rfl (fun ls hl => ?_)
    refine lv_aload_n hx hb d_L_law_802 rfl (lv_at hl 3 rfl) ?_
    refine lv_aload_n hx hb d_L_law_803 rfl (lv_at hl 1 rfl) ?_
    refine lv_iload hx hb d_L_law_804 (lv_at hl 5 rfl) ?_
    refine ri_iconst hx hb d_L_law_806 ?_
    refine ri_iadd hx hb d_L_law_807 ?_
    refine sc_ld hx hb hX hbl hS (by omega) hL3 d_L_law_808 ?_
    refine lv_aload_n hx hb d_L_law_809 rfl (lv_at hl 1 rfl) ?_
    refine lv_iload hx hb d_L_law_810 (lv_at hl 5 rfl) ?_
    refine ri_iconst hx hb d_L_law_812 ?_
    refine ri_iadd hx hb d_L_law_813 ?_
    refine sc_ld hx hb hX hbl hS (by omega) hL3 d_L_law_814 ?_
    refine lv_aload_n hx hb d_L_law_815 rfl (lv_at hl 1 rfl) ?_
    refine lv_iload hx hb d_L_law_816 (lv_at hl 5 rfl) ?_
    refine ri_iconst hx hb d_L_law_818 ?_
    refine ri_iadd hx hb d_L_law_819 ?_
    refine sc_ld hx hb hX hbl hS (by omega) hL3 d_L_law_820 ?_
    refine lv_aload_n hx hb d_L_law_821 rfl (lv_at hl 1 rfl) ?_
    refine lv_iload hx hb d_L_law_822 (lv_at hl 5 rfl) ?_
    refine ri_iconst hx hb d_L_law_824 ?_
    refine ri_iadd hx hb d_L_law_825 ?_
    refine sc_ld hx hb hX hbl hS (by omega) hL3 d_L_law_826 ?_
    replace hP := wl_Pp hP (pm_law wc' (ao, .inl (k 1, al 1 o')) (mWd k A v f))
    replace hD := wl_Dp hD (pm_law wc' (ao, .inl (k 1, al 1 o')) (mWd k A v f))
    refine wd_callC h0 hS (ex_runV (C := "LathePiecesModel") (As := [.int (iI (sx xs (i + 1))), .int (iI (sx xs (i + 2))), .int (iI (sx xs (i + 3))), .int (iI (sx xs (i + 4)))]) (rest := []) ⟨hx, hb, hml, hown, hG⟩ (q_passes hC A hI ((ao, .inl (k 1, al 1 o')) :: wc') (sx xs (i + 1)) (sx xs (i + 2)) (sx_rg _ _) (sx_rg _ _) (sx xs (i + 3)) (sx xs (i + 4)) (sx_rg _ _) (sx_rg _ _)) (cb_code (n := 4) hG g_802 g_3 g_799 rfl rfl (by decide +kernel) ⟨Nat.le_of_ble_eq_true rfl, Nat.le_of_ble_eq_true rfl⟩) (hG _ g_800) (hG _ g_801) (kd_V (kd_preW h0 hS hP hD) (kd_recv hK hP (q0 := 0) (ci := 6) rfl rfl rfl)) rfl rfl hl.1 rfl (lv_room (Nat.le_of_ble_eq_true rfl)) d_L_law_827 ⟨(show cells + 8 + 0 ≤ 601024 by omega), (show slots + 161 + 0 ≤ 7293034 by omega)⟩) (fun E ws9 hE H locs hP hD hS q T0 hT0 hq => False.elim hE) (fun v9 ws9 h9 H locs hP hD hS => ?_)
    obtain ⟨rfl, rfl⟩ := h9.2.1 hq0
    show W _ _ _ _ _ _ _ _ _ _ _ _ _ _ _ (F0 m9 830 ls [.int (iI (0))])
    refine lv_istore (lv' := [(6, .int (iI (0))), (5, .int (iI (2))), (0, .ref b), (1, .ref cx), (2, .ref (A 26)), (3, .ref ao), (4, .int (iI (i)))]) hx hb d_L_law_830 hl (by decide) rfl (fun ls hl => ?_)
    refine lv_aload_n hx hb d_L_law_832 rfl (lv_at hl 4 rfl) ?_
    refine rd_call (ex_runV (C := "LathePiecesModel") (As := []) (rest := []) ⟨hx, hb, hml, hown, hG⟩ (q_thrown hC A (vS v 0 2) f ((ao, .inl (k 1, al 1 o')) :: wc')) (cb_code (n := 0) hG g_709 g_3 g_706 rfl rfl (by decide +kernel) ⟨Nat.le_of_ble_eq_true rfl, Nat.le_of_ble_eq_true rfl⟩) (hG _ g_707) (hG _ g_708) (kd_V (kd_pre h0 hS hP) (kd_recv hK hP (q0 := 0) (ci := 6) rfl rfl rfl)) rfl rfl hl.1 rfl (lv_room (Nat.le_of_ble_eq_true rfl)) d_L_law_833 ⟨(show cells + 8 + 0 + 0 ≤ 601024 by omega), (show slots + 161 + 0 + 0 ≤ 7293034 by omega)⟩) (fun v9 h9 => ?_)
    subst h9
    show W _ _ _ _ _ _ _ _ _ _ _ _ _ _ _ (F0 m9 836 ls [.int (iI (2))])
    refine lv_iload hx hb d_L_law_836 (lv_at hl 1 rfl) ?_
    refine ri_icmp_eq (tgt := 843) hx hb d_L_law_838 (by decide) (by decide) (by decide) (fun _ => ?_) (fun c838 => absurd rfl c838)
    refine lv_iload hx hb d_L_law_843 (lv_at hl 1 rfl) ?_
    refine ri_if_ne (tgt := 860) hx hb d_L_law_845 (by decide) (by decide) (fun _ => ?_) (fun c845 => absurd c845 (by decide))
    refine lv_goto (tgt := 1941) hx hb d_L_law_860 (by decide) ?_
    replace hP := wl_Pp hP (pm_law (mWd k A (vS v 0 2) f) (ao, .inl (k 1, al 1 o')) wc')
    replace hD := wl_Dp hD (pm_law (mWd k A (vS v 0 2) f) (ao, .inl (k 1, al 1 o')) wc')
    refine W.widen (k := cells + 9) (n := slots + 167) (by omega) (by omega) ?_
    exact kk (vS v 0 2) f wc' o' H locs ls (Cst.code hW2 2) (Iv.code hI 2) hP hD hS (lv_sub hl [2, 3, 4, 5, 6] rfl)
set_option maxHeartbeats 4000000 in
set_option maxRecDepth 100000 in
theorem t_cut {p9 : Program} {l : Launch} {e9 : Env} {s : State} {m9 : MethodId} {below9 : List Frame} {meth9 : Method} {c9 : Code} {Q9 : State → Prop} {b L : Nat} {xs : Nat → Int32} {D : va_G} {k : Nat → ClassId} (C0 : LwC p9 l s m9 c9 b L xs D k) {cx : Nat} {A : Nat → Nat} {ao : Nat} {i : Int} {cells slots : Nat} (hi : 0 ≤ i ∧ i + 5 < L) (hc : cells + 9 ≤ 601024) (hs : slots + 167 ≤ 7293034) (kk : LwK p9 l e9 s m9 below9 meth9 c9 b D k cx A ao i (cells + 9) (slots + 167) Q9) {v : Nat → Int} {f : Nat → Int → Int} {wc : va_W} {o9 : Int → Int} {H : Heap} {locs : List Loc} {ls : Array Slot} (hI : Iv v f) (hW : Cst k cx v f wc) (hP : va_P D classes (wc ++ ((ao, .inl (k 1, al 1 o9)) :: mWd k A v f)) H) (hD : va_D (aL s) (wc ++ ((ao, .inl (k 1, al 1 o9)) :: mWd k A v f))) (hS : va_S (aL s) s.heap H locs) (hl : lv_has ls 8 [(0, .ref b), (1, .ref cx), (2, .ref (A 26)), (3, .ref ao), (4, .int (iI (i)))]) : W p9 l e9 room_1 s m9 #[Value.ref b] below9 meth9 c9 H locs cells slots Q9 (F0 m9 863 ls []) := by
  obtain ⟨hx, hb, hml, hown, hG, hX, hbl, hL3, hC⟩ := id C0
  have h0 : La s s := ⟨State.WarmedH.refl s, Nat.le_refl _, fun _ _ => rfl⟩
  have hK := cx_K hC h0
  refine lv_aload_n hx hb d_L_law_863 rfl (lv_at hl 1 rfl) ?_
  refine lv_aload_n hx hb d_L_law_864 rfl (lv_at hl 0 rfl) ?_
  refine lv_iload hx hb d_L_law_865 (lv_at hl 4 rfl) ?_
  refine ri_iconst hx hb d_L_law_867 ?_
  refine ri_iadd hx hb d_L_law_868 ?_
  refine sc_ld hx hb hX hbl hS (by omega) hL3 d_L_law_869 ?_
  refine lv_aload_n hx hb d_L_law_870 rfl (lv_at hl 0 rfl) ?_
  refine lv_iload hx hb d_L_law_871 (lv_at hl 4 rfl) ?_
  refine ri_iconst hx hb d_L_law_873 ?_
  refine ri_iadd hx hb d_L_law_874 ?_
  refine sc_ld hx hb hX hbl hS (by omega) hL3 d_L_law_875 ?_
  refine lv_aload_n hx hb d_L_law_876 rfl (lv_at hl 0 rfl) ?_
  refine lv_iload hx hb d_L_law_877 (lv_at hl 4 rfl) ?_
  refine ri_iconst hx hb d_L_law_879 ?_
  refine ri_iadd hx hb d_L_law_880 ?_
  refine sc_ld hx hb hX hbl hS (by omega) hL3 d_L_law_881 ?_
  refine lv_aload_n hx hb d_L_law_882 rfl (lv_at hl 0 rfl) ?_
  refine lv_iload hx hb d_L_law_883 (lv_at hl 4 rfl) ?_
  refine ri_iconst hx hb d_L_law_885 ?_
  refine ri_iadd hx hb d_L_law_886 ?_
  refine sc_ld hx hb hX hbl hS (by omega) hL3 d_L_law_887 ?_
  refine lv_aload_n hx hb d_L_law_888 rfl (lv_at hl 0 rfl) ?_
  refine lv_iload hx hb d_L_law_889 (lv_at hl 4 rfl) ?_
  refine ri_iconst hx hb d_L_law_891 ?_
  refine ri_iadd hx hb d_L_law_892 ?_
  refine sc_ld hx hb hX hbl hS (by omega) hL3 d_L_law_893 ?_
  refine lv_aload_n hx hb d_L_law_894 rfl (lv_at hl 3 rfl) ?_
  refine wd_callC h0 hS (ex_runS (As := [.ref cx, .int (iI (sx xs (i + 1))), .int (iI (sx xs (i + 2))), .int (iI (sx xs (i + 3))), .int (iI (sx xs (i + 4))), .int (iI (sx xs (i + 5))), .ref ao]) (rest := []) ⟨hx, hb, hml, hown, hG⟩ (w_cut hC hI hW (mWd k A v f) ao o9 (sx xs (i + 1)) (sx xs (i + 2)) (sx_rg _ _) (sx_rg _ _) (sx xs (i + 3)) (sx xs (i + 4)) (sx_rg _ _) (sx_rg _ _) (sx xs (i + 5)) (sx_rg _ _)) (cb_with (n := 7) hG g_428 g_0 g_426 rfl rfl (by decide +kernel) ⟨Nat.le_of_ble_eq_true rfl, Nat.le_of_ble_eq_true rfl⟩) (hG _ g_427) (kd_preW h0 hS hP hD) rfl rfl hl.1 rfl (lv_room (Nat.le_of_ble_eq_true rfl)) d_L_law_895 ⟨(show cells + 9 ≤ 601024 by omega), (show slots + 167 ≤ 7293034 by omega)⟩) (fun E ws9 hE H locs hP hD hS q T0 hT0 hq => False.elim hE) (fun v9 ws9 h9 H locs hP hD hS => ?_)
  obtain ⟨wc', o', kz, rfl, rfl, h9⟩ := h9
  rcases h9 with ⟨rfl, hq0, ho, hW2, hI2⟩ | ⟨rfl, hq0, hW2⟩ | ⟨rfl, hq0, hW2⟩
  · show W _ _ _ _ _ _ _ _ _ _ _ _ _ _ _ (F0 m9 898 ls [.int (iI (0))])
    refine lv_istore (lv' := [(5, .int (iI (0))), (0, .ref b), (1, .ref cx), (2, .ref (A 26)), (3, .ref ao), (4, .int (iI (i)))]) hx hb d_L_law_898 hl (by decide) rfl (fun ls hl => ?_)
    refine lv_aload_n hx hb d_L_law_900 rfl (lv_at hl 3 rfl) ?_
    refine lv_aload_n hx hb d_L_law_901 rfl (lv_at hl 1 rfl) ?_
    refine lv_iload hx hb d_L_law_902 (lv_at hl 5 rfl) ?_
    refine ri_iconst hx hb d_L_law_904 ?_
    refine ri_iadd hx hb d_L_law_905 ?_
    refine sc_ld hx hb hX hbl hS (by omega) hL3 d_L_law_906 ?_
    refine lv_aload_n hx hb d_L_law_907 rfl (lv_at hl 1 rfl) ?_
    refine lv_iload hx hb d_L_law_908 (lv_at hl 5 rfl) ?_
    refine ri_iconst hx hb d_L_law_910 ?_
    refine ri_iadd hx hb d_L_law_911 ?_
    refine sc_ld hx hb hX hbl hS (by omega) hL3 d_L_law_912 ?_
    refine lv_aload_n hx hb d_L_law_913 rfl (lv_at hl 1 rfl) ?_
    refine lv_iload hx hb d_L_law_914 (lv_at hl 5 rfl) ?_
    refine ri_iconst hx hb d_L_law_916 ?_
    refine ri_iadd hx hb d_L_law_917 ?_
    refine sc_ld hx hb hX hbl hS (by omega) hL3 d_L_law_918 ?_
    refine lv_aload_n hx hb d_L_law_919 rfl (lv_at hl 1 rfl) ?_
    refine lv_iload hx hb d_L_law_920 (lv_at hl 5 rfl) ?_
    refine ri_iconst hx hb d_L_law_922 ?_
    refine ri_iadd hx hb d_L_law_923 ?_
    refine sc_ld hx hb hX hbl hS (by omega) hL3 d_L_law_924 ?_
    refine lv_aload_n hx hb d_L_law_925 rfl (lv_at hl 1 rfl) ?_
    refine lv_iload hx hb d_L_law_926 (lv_at hl 5 rfl) ?_
    refine ri_iconst hx hb d_L_law_928 ?_
    refine ri_iadd hx hb d_L_law_929 ?_
    refine sc_ld hx hb hX hbl hS (by omega) hL3 d_L_law_930 ?_
    replace hP := wl_Pp hP (pm_law wc' (ao, .inl (k 1, al 1 o')) (mWd k A v f))
    replace hD := wl_Dp hD (pm_law wc' (ao, .inl (k 1, al 1 o')) (mWd k A v f))
    refine wd_callC h0 hS (ex_runV (C := "LathePiecesModel") (As := [.int (iI (sx xs (i + 1))), .int (iI (sx xs (i + 2))), .int (iI (sx xs (i + 3))), .int (iI (sx xs (i + 4))), .int (iI (sx xs (i + 5)))]) (rest := []) ⟨hx, hb, hml, hown, hG⟩ (q_cut hC A hI ((ao, .inl (k 1, al 1 o')) :: wc') (sx xs (i + 1)) (sx xs (i + 2)) (sx_rg _ _) (sx_rg _ _) (sx xs (i + 3)) (sx xs (i + 4)) (sx_rg _ _) (sx_rg _ _) (sx xs (i + 5)) (sx_rg _ _)) (cb_code (n := 5) hG g_816 g_3 g_813 rfl rfl (by decide +kernel) ⟨Nat.le_of_ble_eq_true rfl, Nat.le_of_ble_eq_true rfl⟩) (hG _ g_814) (hG _ g_815) (kd_V (kd_preW h0 hS hP hD) (kd_recv hK hP (q0 := 0) (ci := 6) rfl rfl rfl)) rfl rfl hl.1 rfl (lv_room (Nat.le_of_ble_eq_true rfl)) d_L_law_931 ⟨(show cells + 9 + 0 ≤ 601024 by omega), (show slots + 167 + 0 ≤ 7293034 by omega)⟩) (fun E ws9 hE H locs hP hD hS q T0 hT0 hq => False.elim hE) (fun v9 ws9 h9 H locs hP hD hS => ?_)
    obtain ⟨g15, g16, rfl, rfl⟩ := h9.2.2 hq0
    show W _ _ _ _ _ _ _ _ _ _ _ _ _ _ _ (F0 m9 934 ls [.int (iI (cnF (fun j => decide (min ((loA (fun j => (f 12) (65 * (sx xs (i + 1)) + j)) (htF ((f 14) (sx xs (i + 2))).toNat) ((f 14) (sx xs (i + 2))).toNat ((f 10) (sx xs (i + 1))).toNat) j + (sx xs (i + 4))) (itF max (fun j => (f 12) (65 * (sx xs (i + 1)) + j)) 0 0 (((f 10) (sx xs (i + 1))).toNat + 1) + 3) < (itF max (fun j => (f 12) (65 * (sx xs (i + 1)) + j)) 0 0 (((f 10) (sx xs (i + 1))).toNat + 1) + 3) - ((sx xs (i + 5)) - 1) * (sx xs (i + 3)))) 0 (((f 10) (sx xs (i + 1))).toNat + 1)))])
    refine lv_istore (lv' := [(6, .int (iI (cnF (fun j => decide (min ((loA (fun j => (f 12) (65 * (sx xs (i + 1)) + j)) (htF ((f 14) (sx xs (i + 2))).toNat) ((f 14) (sx xs (i + 2))).toNat ((f 10) (sx xs (i + 1))).toNat) j + (sx xs (i + 4))) (itF max (fun j => (f 12) (65 * (sx xs (i + 1)) + j)) 0 0 (((f 10) (sx xs (i + 1))).toNat + 1) + 3) < (itF max (fun j => (f 12) (65 * (sx xs (i + 1)) + j)) 0 0 (((f 10) (sx xs (i + 1))).toNat + 1) + 3) - ((sx xs (i + 5)) - 1) * (sx xs (i + 3)))) 0 (((f 10) (sx xs (i + 1))).toNat + 1)))), (5, .int (iI (0))), (0, .ref b), (1, .ref cx), (2, .ref (A 26)), (3, .ref ao), (4, .int (iI (i)))]) hx hb d_L_law_934 hl (by decide) rfl (fun ls hl => ?_)
    refine lv_aload_n hx hb d_L_law_936 rfl (lv_at hl 4 rfl) ?_
    refine rd_call (ex_runV (C := "LathePiecesModel") (As := []) (rest := []) ⟨hx, hb, hml, hown, hG⟩ (q_thrown hC A (vS v 0 0) (fS (fS f 15 g15) 16 g16) ((ao, .inl (k 1, al 1 o')) :: wc')) (cb_code (n := 0) hG g_709 g_3 g_706 rfl rfl (by decide +kernel) ⟨Nat.le_of_ble_eq_true rfl, Nat.le_of_ble_eq_true rfl⟩) (hG _ g_707) (hG _ g_708) (kd_V (kd_pre h0 hS hP) (kd_recv hK hP (q0 := 0) (ci := 6) rfl rfl rfl)) rfl rfl hl.1 rfl (lv_room (Nat.le_of_ble_eq_true rfl)) d_L_law_937 ⟨(show cells + 9 + 0 + 0 ≤ 601024 by omega), (show slots + 167 + 0 + 0 ≤ 7293034 by omega)⟩) (fun v9 h9 => ?_)
    subst h9
    show W _ _ _ _ _ _ _ _ _ _ _ _ _ _ _ (F0 m9 940 ls [.int (iI (0))])
    refine lv_iload hx hb d_L_law_940 (lv_at hl 1 rfl) ?_
    refine ri_icmp_eq (tgt := 947) hx hb d_L_law_942 (by decide) (by decide) (by decide) (fun _ => ?_) (fun c942 => absurd rfl c942)
    refine lv_iload hx hb d_L_law_947 (lv_at hl 1 rfl) ?_
    refine ri_if_ne (tgt := 964) hx hb d_L_law_949 (by decide) (by decide) (fun c949 => absurd rfl c949) (fun _ => ?_)
    refine lv_aload_n hx hb d_L_law_952 rfl (lv_at hl 5 rfl) ?_
    refine ri_iconst hx hb d_L_law_953 ?_
    replace hP := wl_Pp hP (pm_lf (mWd k A (vS v 0 0) (fS (fS f 15 g15) 16 g16)) (ao, .inl (k 1, al 1 o')) wc')
    replace hD := wl_Dp hD (pm_lf (mWd k A (vS v 0 0) (fS (fS f 15 g15) 16 g16)) (ao, .inl (k 1, al 1 o')) wc')
    refine ra_lald hx hb hK hP 0 rfl (by omega) (by omega) d_L_law_954 ?_
    refine tp_l (y := jJ (tw (cnF (fun j => decide (min ((loA (fun j => (f 12) (65 * (sx xs (i + 1)) + j)) (htF ((f 14) (sx xs (i + 2))).toNat) ((f 14) (sx xs (i + 2))).toNat ((f 10) (sx xs (i + 1))).toNat) j + (sx xs (i + 4))) (itF max (fun j => (f 12) (65 * (sx xs (i + 1)) + j)) 0 0 (((f 10) (sx xs (i + 1))).toNat + 1) + 3) < (itF max (fun j => (f 12) (65 * (sx xs (i + 1)) + j)) 0 0 (((f 10) (sx xs (i + 1))).toNat + 1) + 3) - ((sx xs (i + 5)) - 1) * (sx xs (i + 3)))) 0 (((f 10) (sx xs (i + 1))).toNat + 1)))) (congrArg jJ ho) ?_
    refine lv_iload hx hb d_L_law_955 (lv_at hl 0 rfl) ?_
    refine ri_i2lw hx hb d_L_law_957 ?_
    refine lc_same (tgt := 964) hx hb d_L_law_958 d_L_law_959 (by decide) ?_
    refine lv_goto (tgt := 1941) hx hb d_L_law_964 (by decide) ?_
    replace hP := wl_Pp hP (pm_lb (mWd k A (vS v 0 0) (fS (fS f 15 g15) 16 g16)) (ao, .inl (k 1, al 1 o')) wc')
    replace hD := wl_Dp hD (pm_lb (mWd k A (vS v 0 0) (fS (fS f 15 g15) 16 g16)) (ao, .inl (k 1, al 1 o')) wc')
    refine W.widen (k := cells + 9) (n := slots + 167) (by omega) (by omega) ?_
    exact kk (vS v 0 0) (fS (fS f 15 g15) 16 g16) wc' o' H locs ls (Cst.rows (Cst.code hW2 0) g15 g16) (Iv.rows (Iv.code hI2 0) g15 g16) hP hD hS (lv_sub hl [2, 3, 4, 5, 6] rfl)
  · show W _ _ _ _ _ _ _ _ _ _ _ _ _ _ _ (F0 m9 898 ls [.int (iI (1))])
    refine lv_istore (lv' := [(5, .int (iI (1))), (0, .ref b), (1, .ref cx), (2, .ref (A 26)), (3, .ref ao), (4, .int (iI (i)))]) hx hb d_L_law_898 hl (by decide) rfl (fun ls hl => ?_)
    refine lv_aload_n hx hb d_L_law_900 rfl (lv_at hl 3 rfl) ?_
    refine lv_aload_n hx hb d_L_law_901 rfl (lv_at hl 1 rfl) ?_
    refine lv_iload hx hb d_L_law_902 (lv_at hl 5 rfl) ?_
    refine ri_iconst hx hb d_L_law_904 ?_
    refine ri_iadd hx hb d_L_law_905 ?_
    refine sc_ld hx hb hX hbl hS (by omega) hL3 d_L_law_906 ?_
    refine lv_aload_n hx hb d_L_law_907 rfl (lv_at hl 1 rfl) ?_
    refine lv_iload hx hb d_L_law_908 (lv_at hl 5 rfl) ?_
    refine ri_iconst hx hb d_L_law_910 ?_
    refine ri_iadd hx hb d_L_law_911 ?_
    refine sc_ld hx hb hX hbl hS (by omega) hL3 d_L_law_912 ?_
    refine lv_aload_n hx hb d_L_law_913 rfl (lv_at hl 1 rfl) ?_
    refine lv_iload hx hb d_L_law_914 (lv_at hl 5 rfl) ?_
    refine ri_iconst hx hb d_L_law_916 ?_
    refine ri_iadd hx hb d_L_law_917 ?_
    refine sc_ld hx hb hX hbl hS (by omega) hL3 d_L_law_918 ?_
    refine lv_aload_n hx hb d_L_law_919 rfl (lv_at hl 1 rfl) ?_
    refine lv_iload hx hb d_L_law_920 (lv_at hl 5 rfl) ?_
    refine ri_iconst hx hb d_L_law_922 ?_
    refine ri_iadd hx hb d_L_law_923 ?_
    refine sc_ld hx hb hX hbl hS (by omega) hL3 d_L_law_924 ?_
    refine lv_aload_n hx hb d_L_law_925 rfl (lv_at hl 1 rfl) ?_
    refine lv_iload hx hb d_L_law_926 (lv_at hl 5 rfl) ?_
    refine ri_iconst hx hb d_L_law_928 ?_
    refine ri_iadd hx hb d_L_law_929 ?_
    refine sc_ld hx hb hX hbl hS (by omega) hL3 d_L_law_930 ?_
    replace hP := wl_Pp hP (pm_law wc' (ao, .inl (k 1, al 1 o')) (mWd k A v f))
    replace hD := wl_Dp hD (pm_law wc' (ao, .inl (k 1, al 1 o')) (mWd k A v f))
    refine wd_callC h0 hS (ex_runV (C := "LathePiecesModel") (As := [.int (iI (sx xs (i + 1))), .int (iI (sx xs (i + 2))), .int (iI (sx xs (i + 3))), .int (iI (sx xs (i + 4))), .int (iI (sx xs (i + 5)))]) (rest := []) ⟨hx, hb, hml, hown, hG⟩ (q_cut hC A hI ((ao, .inl (k 1, al 1 o')) :: wc') (sx xs (i + 1)) (sx xs (i + 2)) (sx_rg _ _) (sx_rg _ _) (sx xs (i + 3)) (sx xs (i + 4)) (sx_rg _ _) (sx_rg _ _) (sx xs (i + 5)) (sx_rg _ _)) (cb_code (n := 5) hG g_816 g_3 g_813 rfl rfl (by decide +kernel) ⟨Nat.le_of_ble_eq_true rfl, Nat.le_of_ble_eq_true rfl⟩) (hG _ g_814) (hG _ g_815) (kd_V (kd_preW h0 hS hP hD) (kd_recv hK hP (q0 := 0) (ci := 6) rfl rfl rfl)) rfl rfl hl.1 rfl (lv_room (Nat.le_of_ble_eq_true rfl)) d_L_law_931 ⟨(show cells + 9 + 0 ≤ 601024 by omega), (show slots + 167 + 0 ≤ 7293034 by omega)⟩) (fun E ws9 hE H locs hP hD hS q T0 hT0 hq => False.elim hE) (fun v9 ws9 h9 H locs hP hD hS => ?_)
    obtain ⟨rfl, rfl⟩ := h9.1 hq0
    show W _ _ _ _ _ _ _ _ _ _ _ _ _ _ _ (F0 m9 934 ls [.int (iI (0))])
    refine lv_istore (lv' := [(6, .int (iI (0))), (5, .int (iI (1))), (0, .ref b), (1, .ref cx), (2, .ref (A 26)), (3, .ref ao), (4, .int (iI (i)))]) hx hb d_L_law_934 hl (by decide) rfl (fun ls hl => ?_)
    refine lv_aload_n hx hb d_L_law_936 rfl (lv_at hl 4 rfl) ?_
    refine rd_call (ex_runV (C := "LathePiecesModel") (As := []) (rest := []) ⟨hx, hb, hml, hown, hG⟩ (q_thrown hC A (vS v 0 1) f ((ao, .inl (k 1, al 1 o')) :: wc')) (cb_code (n := 0) hG g_709 g_3 g_706 rfl rfl (by decide +kernel) ⟨Nat.le_of_ble_eq_true rfl, Nat.le_of_ble_eq_true rfl⟩) (hG _ g_707) (hG _ g_708) (kd_V (kd_pre h0 hS hP) (kd_recv hK hP (q0 := 0) (ci := 6) rfl rfl rfl)) rfl rfl hl.1 rfl (lv_room (Nat.le_of_ble_eq_true rfl)) d_L_law_937 ⟨(show cells + 9 + 0 + 0 ≤ 601024 by omega), (show slots + 167 + 0 + 0 ≤ 7293034 by omega)⟩) (fun v9 h9 => ?_)
    subst h9
    show W _ _ _ _ _ _ _ _ _ _ _ _ _ _ _ (F0 m9 940 ls [.int (iI (1))])
    refine lv_iload hx hb d_L_law_940 (lv_at hl 1 rfl) ?_
    refine ri_icmp_eq (tgt := 947) hx hb d_L_law_942 (by decide) (by decide) (by decide) (fun _ => ?_) (fun c942 => absurd rfl c942)
    refine lv_iload hx hb d_L_law_947 (lv_at hl 1 rfl) ?_
    refine ri_if_ne (tgt := 964) hx hb d_L_law_949 (by decide) (by decide) (fun _ => ?_) (fun c949 => absurd c949 (by decide))
    refine lv_goto (tgt := 1941) hx hb d_L_law_964 (by decide) ?_
    replace hP := wl_Pp hP (pm_law (mWd k A (vS v 0 1) f) (ao, .inl (k 1, al 1 o')) wc')
    replace hD := wl_Dp hD (pm_law (mWd k A (vS v 0 1) f) (ao, .inl (k 1, al 1 o')) wc')
    refine W.widen (k := cells + 9) (n := slots + 167) (by omega) (by omega) ?_
    exact kk (vS v 0 1) f wc' o' H locs ls (Cst.code hW2 1) (Iv.code hI 1) hP hD hS (lv_sub hl [2, 3, 4, 5, 6] rfl)
  · show W _ _ _ _ _ _ _ _ _ _ _ _ _ _ _ (F0 m9 898 ls [.int (iI (2))])
    refine lv_istore (lv' := [(5, .int (iI (2))), (0, .ref b), (1, .ref cx), (2, .ref (A 26)), (3, .ref ao), (4, .int (iI (i)))]) hx hb d_L_law_898 hl (by decide) rfl (fun ls hl => ?_)
    refine lv_aload_n hx hb d_L_law_900 rfl (lv_at hl 3 rfl) ?_
    refine lv_aload_n hx hb d_L_law_901 rfl (lv_at hl 1 rfl) ?_
    refine lv_iload hx hb d_L_law_902 (lv_at hl 5 rfl) ?_
    refine ri_iconst hx hb d_L_law_904 ?_
    refine ri_iadd hx hb d_L_law_905 ?_
    refine sc_ld hx hb hX hbl hS (by omega) hL3 d_L_law_906 ?_
    refine lv_aload_n hx hb d_L_law_907 rfl (lv_at hl 1 rfl) ?_
    refine lv_iload hx hb d_L_law_908 (lv_at hl 5 rfl) ?_
    refine ri_iconst hx hb d_L_law_910 ?_
    refine ri_iadd hx hb d_L_law_911 ?_
    refine sc_ld hx hb hX hbl hS (by omega) hL3 d_L_law_912 ?_
    refine lv_aload_n hx hb d_L_law_913 rfl (lv_at hl 1 rfl) ?_
    refine lv_iload hx hb d_L_law_914 (lv_at hl 5 rfl) ?_
    refine ri_iconst hx hb d_L_law_916 ?_
    refine ri_iadd hx hb d_L_law_917 ?_
    refine sc_ld hx hb hX hbl hS (by omega) hL3 d_L_law_918 ?_
    refine lv_aload_n hx hb d_L_law_919 rfl (lv_at hl 1 rfl) ?_
    refine lv_iload hx hb d_L_law_920 (lv_at hl 5 rfl) ?_
    refine ri_iconst hx hb d_L_law_922 ?_
    refine ri_iadd hx hb d_L_law_923 ?_
    refine sc_ld hx hb hX hbl hS (by omega) hL3 d_L_law_924 ?_
    refine lv_aload_n hx hb d_L_law_925 rfl (lv_at hl 1 rfl) ?_
    refine lv_iload hx hb d_L_law_926 (lv_at hl 5 rfl) ?_
    refine ri_iconst hx hb d_L_law_928 ?_
    refine ri_iadd hx hb d_L_law_929 ?_
    refine sc_ld hx hb hX hbl hS (by omega) hL3 d_L_law_930 ?_
    replace hP := wl_Pp hP (pm_law wc' (ao, .inl (k 1, al 1 o')) (mWd k A v f))
    replace hD := wl_Dp hD (pm_law wc' (ao, .inl (k 1, al 1 o')) (mWd k A v f))
    refine wd_callC h0 hS (ex_runV (C := "LathePiecesModel") (As := [.int (iI (sx xs (i + 1))), .int (iI (sx xs (i + 2))), .int (iI (sx xs (i + 3))), .int (iI (sx xs (i + 4))), .int (iI (sx xs (i + 5)))]) (rest := []) ⟨hx, hb, hml, hown, hG⟩ (q_cut hC A hI ((ao, .inl (k 1, al 1 o')) :: wc') (sx xs (i + 1)) (sx xs (i + 2)) (sx_rg _ _) (sx_rg _ _) (sx xs (i + 3)) (sx xs (i + 4)) (sx_rg _ _) (sx_rg _ _) (sx xs (i + 5)) (sx_rg _ _)) (cb_code (n := 5) hG g_816 g_3 g_813 rfl rfl (by decide +kernel) ⟨Nat.le_of_ble_eq_true rfl, Nat.le_of_ble_eq_true rfl⟩) (hG _ g_814) (hG _ g_815) (kd_V (kd_preW h0 hS hP hD) (kd_recv hK hP (q0 := 0) (ci := 6) rfl rfl rfl)) rfl rfl hl.1 rfl (lv_room (Nat.le_of_ble_eq_true rfl)) d_L_law_931 ⟨(show cells + 9 + 0 ≤ 601024 by omega), (show slots + 167 + 0 ≤ 7293034 by omega)⟩) (fun E ws9 hE H locs hP hD hS q T0 hT0 hq => False.elim hE) (fun v9 ws9 h9 H locs hP hD hS => ?_)
    obtain ⟨rfl, rfl⟩ := h9.2.1 hq0
    show W _ _ _ _ _ _ _ _ _ _ _ _ _ _ _ (F0 m9 934 ls [.int (iI (0))])
    refine lv_istore (lv' := [(6, .int (iI (0))), (5, .int (iI (2))), (0, .ref b), (1, .ref cx), (2, .ref (A 26)), (3, .ref ao), (4, .int (iI (i)))]) hx hb d_L_law_934 hl (by decide) rfl (fun ls hl => ?_)
    refine lv_aload_n hx hb d_L_law_936 rfl (lv_at hl 4 rfl) ?_
    refine rd_call (ex_runV (C := "LathePiecesModel") (As := []) (rest := []) ⟨hx, hb, hml, hown, hG⟩ (q_thrown hC A (vS v 0 2) f ((ao, .inl (k 1, al 1 o')) :: wc')) (cb_code (n := 0) hG g_709 g_3 g_706 rfl rfl (by decide +kernel) ⟨Nat.le_of_ble_eq_true rfl, Nat.le_of_ble_eq_true rfl⟩) (hG _ g_707) (hG _ g_708) (kd_V (kd_pre h0 hS hP) (kd_recv hK hP (q0 := 0) (ci := 6) rfl rfl rfl)) rfl rfl hl.1 rfl (lv_room (Nat.le_of_ble_eq_true rfl)) d_L_law_937 ⟨(show cells + 9 + 0 + 0 ≤ 601024 by omega), (show slots + 167 + 0 + 0 ≤ 7293034 by omega)⟩) (fun v9 h9 => ?_)
    subst h9
    show W _ _ _ _ _ _ _ _ _ _ _ _ _ _ _ (F0 m9 940 ls [.int (iI (2))])
    refine lv_iload hx hb d_L_law_940 (lv_at hl 1 rfl) ?_
    refine ri_icmp_eq (tgt := 947) hx hb d_L_law_942 (by decide) (by decide) (by decide) (fun _ => ?_) (fun c942 => absurd rfl c942)
    refine lv_iload hx hb d_L_law_947 (lv_at hl 1 rfl) ?_
    refine ri_if_ne (tgt := 964) hx hb d_L_law_949 (by decide) (by decide) (fun _ => ?_) (fun c949 => absurd c949 (by decide))
    refine lv_goto (tgt := 1941) hx hb d_L_law_964 (by decide) ?_
    replace hP := wl_Pp hP (pm_law (mWd k A (vS v 0 2) f) (ao, .inl (k 1, al 1 o')) wc')
    replace hD := wl_Dp hD (pm_law (mWd k A (vS v 0 2) f) (ao, .inl (k 1, al 1 o')) wc')
    refine W.widen (k := cells + 9) (n := slots + 167) (by omega) (by omega) ?_
    exact kk (vS v 0 2) f wc' o' H locs ls (Cst.code hW2 2) (Iv.code hI 2) hP hD hS (lv_sub hl [2, 3, 4, 5, 6] rfl)
set_option maxHeartbeats 4000000 in
set_option maxRecDepth 100000 in
theorem t_steady {p9 : Program} {l : Launch} {e9 : Env} {s : State} {m9 : MethodId} {below9 : List Frame} {meth9 : Method} {c9 : Code} {Q9 : State → Prop} {b L : Nat} {xs : Nat → Int32} {D : va_G} {k : Nat → ClassId} (C0 : LwC p9 l s m9 c9 b L xs D k) {cx : Nat} {A : Nat → Nat} {ao : Nat} {i : Int} {cells slots : Nat} (hi : 0 ≤ i ∧ i + 5 < L) (hc : cells + 9 ≤ 601024) (hs : slots + 167 ≤ 7293034) (kk : LwK p9 l e9 s m9 below9 meth9 c9 b D k cx A ao i (cells + 9) (slots + 167) Q9) {v : Nat → Int} {f : Nat → Int → Int} {wc : va_W} {o9 : Int → Int} {H : Heap} {locs : List Loc} {ls : Array Slot} (hI : Iv v f) (hW : Cst k cx v f wc) (hP : va_P D classes (wc ++ ((ao, .inl (k 1, al 1 o9)) :: mWd k A v f)) H) (hD : va_D (aL s) (wc ++ ((ao, .inl (k 1, al 1 o9)) :: mWd k A v f))) (hS : va_S (aL s) s.heap H locs) (hl : lv_has ls 8 [(0, .ref b), (1, .ref cx), (2, .ref (A 26)), (3, .ref ao), (4, .int (iI (i)))]) : W p9 l e9 room_1 s m9 #[Value.ref b] below9 meth9 c9 H locs cells slots Q9 (F0 m9 967 ls []) := by
  obtain ⟨hx, hb, hml, hown, hG, hX, hbl, hL3, hC⟩ := id C0
  have h0 : La s s := ⟨State.WarmedH.refl s, Nat.le_refl _, fun _ _ => rfl⟩
  have hK := cx_K hC h0
  refine lv_aload_n hx hb d_L_law_967 rfl (lv_at hl 1 rfl) ?_
  refine lv_aload_n hx hb d_L_law_968 rfl (lv_at hl 0 rfl) ?_
  refine lv_iload hx hb d_L_law_969 (lv_at hl 4 rfl) ?_
  refine ri_iconst hx hb d_L_law_971 ?_
  refine ri_iadd hx hb d_L_law_972 ?_
  refine sc_ld hx hb hX hbl hS (by omega) hL3 d_L_law_973 ?_
  refine lv_aload_n hx hb d_L_law_974 rfl (lv_at hl 0 rfl) ?_
  refine lv_iload hx hb d_L_law_975 (lv_at hl 4 rfl) ?_
  refine ri_iconst hx hb d_L_law_977 ?_
  refine ri_iadd hx hb d_L_law_978 ?_
  refine sc_ld hx hb hX hbl hS (by omega) hL3 d_L_law_979 ?_
  refine lv_aload_n hx hb d_L_law_980 rfl (lv_at hl 0 rfl) ?_
  refine lv_iload hx hb d_L_law_981 (lv_at hl 4 rfl) ?_
  refine ri_iconst hx hb d_L_law_983 ?_
  refine ri_iadd hx hb d_L_law_984 ?_
  refine sc_ld hx hb hX hbl hS (by omega) hL3 d_L_law_985 ?_
  refine lv_aload_n hx hb d_L_law_986 rfl (lv_at hl 3 rfl) ?_
  refine wd_callC h0 hS (ex_runS (As := [.ref cx, .int (iI (sx xs (i + 1))), .int (iI (sx xs (i + 2))), .int (iI (sx xs (i + 3))), .ref ao]) (rest := []) ⟨hx, hb, hml, hown, hG⟩ (w_steady hC hI hW (mWd k A v f) ao o9 (sx xs (i + 1)) (sx xs (i + 2)) (sx xs (i + 3)) (sx_rg _ _) (sx_rg _ _) (sx_rg _ _)) (cb_with (n := 5) hG g_443 g_0 g_441 rfl rfl (by decide +kernel) ⟨Nat.le_of_ble_eq_true rfl, Nat.le_of_ble_eq_true rfl⟩) (hG _ g_442) (kd_preW h0 hS hP hD) rfl rfl hl.1 rfl (lv_room (Nat.le_of_ble_eq_true rfl)) d_L_law_987 ⟨(show cells + 4 ≤ 601024 by omega), (show slots + 24 ≤ 7293034 by omega)⟩) (fun E ws9 hE H locs hP hD hS q T0 hT0 hq => False.elim hE) (fun v9 ws9 h9 H locs hP hD hS => ?_)
  obtain ⟨wc', o', kz, rfl, rfl, h9⟩ := h9
  rcases h9 with ⟨rfl, hq0, ho, hW2, hI2⟩ | ⟨rfl, hq0, hW2⟩ | ⟨rfl, hq0, hW2⟩ | ⟨rfl, hq0, hW2⟩
  · show W _ _ _ _ _ _ _ _ _ _ _ _ _ _ _ (F0 m9 990 ls [.int (iI (0))])
    refine lv_istore (lv' := [(5, .int (iI (0))), (0, .ref b), (1, .ref cx), (2, .ref (A 26)), (3, .ref ao), (4, .int (iI (i)))]) hx hb d_L_law_990 hl (by decide) rfl (fun ls hl => ?_)
    refine lv_aload_n hx hb d_L_law_992 rfl (lv_at hl 3 rfl) ?_
    refine lv_aload_n hx hb d_L_law_993 rfl (lv_at hl 1 rfl) ?_
    refine lv_iload hx hb d_L_law_994 (lv_at hl 5 rfl) ?_
    refine ri_iconst hx hb d_L_law_996 ?_
    refine ri_iadd hx hb d_L_law_997 ?_
    refine sc_ld hx hb hX hbl hS (by omega) hL3 d_L_law_998 ?_
    refine lv_aload_n hx hb d_L_law_999 rfl (lv_at hl 1 rfl) ?_
    refine lv_iload hx hb d_L_law_1000 (lv_at hl 5 rfl) ?_
    refine ri_iconst hx hb d_L_law_1002 ?_
    refine ri_iadd hx hb d_L_law_1003 ?_
    refine sc_ld hx hb hX hbl hS (by omega) hL3 d_L_law_1004 ?_
    refine lv_aload_n hx hb d_L_law_1005 rfl (lv_at hl 1 rfl) ?_
    refine lv_iload hx hb d_L_law_1006 (lv_at hl 5 rfl) ?_
    refine ri_iconst hx hb d_L_law_1008 ?_
    refine ri_iadd hx hb d_L_law_1009 ?_
    refine sc_ld hx hb hX hbl hS (by omega) hL3 d_L_law_1010 ?_
    replace hP := wl_Pp hP (pm_law wc' (ao, .inl (k 1, al 1 o')) (mWd k A v f))
    replace hD := wl_Dp hD (pm_law wc' (ao, .inl (k 1, al 1 o')) (mWd k A v f))
    refine wd_callC h0 hS (ex_runV (C := "LathePiecesModel") (As := [.int (iI (sx xs (i + 1))), .int (iI (sx xs (i + 2))), .int (iI (sx xs (i + 3)))]) (rest := []) ⟨hx, hb, hml, hown, hG⟩ (q_steady hC A hI ((ao, .inl (k 1, al 1 o')) :: wc') (sx xs (i + 1)) (sx xs (i + 2)) (sx xs (i + 3)) (sx_rg _ _) (sx_rg _ _) (sx_rg _ _)) (cb_code (n := 3) hG g_820 g_3 g_817 rfl rfl (by decide +kernel) ⟨Nat.le_of_ble_eq_true rfl, Nat.le_of_ble_eq_true rfl⟩) (hG _ g_818) (hG _ g_819) (kd_V (kd_preW h0 hS hP hD) (kd_recv hK hP (q0 := 0) (ci := 6) rfl rfl rfl)) rfl rfl hl.1 rfl (lv_room (Nat.le_of_ble_eq_true rfl)) d_L_law_1011 ⟨(show cells + 4 + 0 ≤ 601024 by omega), (show slots + 24 + 0 ≤ 7293034 by omega)⟩) (fun E ws9 hE H locs hP hD hS q T0 hT0 hq => False.elim hE) (fun v9 ws9 h9 H locs hP hD hS => ?_)
    obtain ⟨rfl, rfl⟩ := h9.2.2.2 hq0
    show W _ _ _ _ _ _ _ _ _ _ _ _ _ _ _ (F0 m9 1014 ls [.int (iI (stF (fun j => (f 12) (65 * (sx xs (i + 1)) + j)) (sx xs (i + 2)) ((f 10) (sx xs (i + 1))).toNat ((sx xs (i + 3)).toNat + 1)))])
    refine lv_istore (lv' := [(6, .int (iI (stF (fun j => (f 12) (65 * (sx xs (i + 1)) + j)) (sx xs (i + 2)) ((f 10) (sx xs (i + 1))).toNat ((sx xs (i + 3)).toNat + 1)))), (5, .int (iI (0))), (0, .ref b), (1, .ref cx), (2, .ref (A 26)), (3, .ref ao), (4, .int (iI (i)))]) hx hb d_L_law_1014 hl (by decide) rfl (fun ls hl => ?_)
    refine lv_aload_n hx hb d_L_law_1016 rfl (lv_at hl 4 rfl) ?_
    refine rd_call (ex_runV (C := "LathePiecesModel") (As := []) (rest := []) ⟨hx, hb, hml, hown, hG⟩ (q_thrown hC A (vS v 0 0) f ((ao, .inl (k 1, al 1 o')) :: wc')) (cb_code (n := 0) hG g_709 g_3 g_706 rfl rfl (by decide +kernel) ⟨Nat.le_of_ble_eq_true rfl, Nat.le_of_ble_eq_true rfl⟩) (hG _ g_707) (hG _ g_708) (kd_V (kd_pre h0 hS hP) (kd_recv hK hP (q0 := 0) (ci := 6) rfl rfl rfl)) rfl rfl hl.1 rfl (lv_room (Nat.le_of_ble_eq_true rfl)) d_L_law_1017 ⟨(show cells + 4 + 0 + 0 ≤ 601024 by omega), (show slots + 24 + 0 + 0 ≤ 7293034 by omega)⟩) (fun v9 h9 => ?_)
    subst h9
    show W _ _ _ _ _ _ _ _ _ _ _ _ _ _ _ (F0 m9 1020 ls [.int (iI (0))])
    refine lv_iload hx hb d_L_law_1020 (lv_at hl 1 rfl) ?_
    refine ri_icmp_eq (tgt := 1027) hx hb d_L_law_1022 (by decide) (by decide) (by decide) (fun _ => ?_) (fun c1022 => absurd rfl c1022)
    refine lv_iload hx hb d_L_law_1027 (lv_at hl 1 rfl) ?_
    refine ri_if_ne (tgt := 1044) hx hb d_L_law_1029 (by decide) (by decide) (fun c1029 => absurd rfl c1029) (fun _ => ?_)
    refine lv_aload_n hx hb d_L_law_1032 rfl (lv_at hl 5 rfl) ?_
    refine ri_iconst hx hb d_L_law_1033 ?_
    replace hP := wl_Pp hP (pm_lf (mWd k A (vS v 0 0) f) (ao, .inl (k 1, al 1 o')) wc')
    replace hD := wl_Dp hD (pm_lf (mWd k A (vS v 0 0) f) (ao, .inl (k 1, al 1 o')) wc')
    refine ra_lald hx hb hK hP 0 rfl (by omega) (by omega) d_L_law_1034 ?_
    refine tp_l (y := jJ (tw (stF (fun j => (f 12) (65 * (sx xs (i + 1)) + j)) (sx xs (i + 2)) ((f 10) (sx xs (i + 1))).toNat ((sx xs (i + 3)).toNat + 1)))) (congrArg jJ ho) ?_
    refine lv_iload hx hb d_L_law_1035 (lv_at hl 0 rfl) ?_
    refine ri_i2lw hx hb d_L_law_1037 ?_
    refine lc_same (tgt := 1044) hx hb d_L_law_1038 d_L_law_1039 (by decide) ?_
    refine lv_goto (tgt := 1941) hx hb d_L_law_1044 (by decide) ?_
    replace hP := wl_Pp hP (pm_lb (mWd k A (vS v 0 0) f) (ao, .inl (k 1, al 1 o')) wc')
    replace hD := wl_Dp hD (pm_lb (mWd k A (vS v 0 0) f) (ao, .inl (k 1, al 1 o')) wc')
    refine W.widen (k := cells + 9) (n := slots + 167) (by omega) (by omega) ?_
    exact kk (vS v 0 0) f wc' o' H locs ls (Cst.code hW2 0) (Iv.code hI2 0) hP hD hS (lv_sub hl [2, 3, 4, 5, 6] rfl)
  · show W _ _ _ _ _ _ _ _ _ _ _ _ _ _ _ (F0 m9 990 ls [.int (iI (1))])
    refine lv_istore (lv' := [(5, .int (iI (1))), (0, .ref b), (1, .ref cx), (2, .ref (A 26)), (3, .ref ao), (4, .int (iI (i)))]) hx hb d_L_law_990 hl (by decide) rfl (fun ls hl => ?_)
    refine lv_aload_n hx hb d_L_law_992 rfl (lv_at hl 3 rfl) ?_
    refine lv_aload_n hx hb d_L_law_993 rfl (lv_at hl 1 rfl) ?_
    refine lv_iload hx hb d_L_law_994 (lv_at hl 5 rfl) ?_
    refine ri_iconst hx hb d_L_law_996 ?_
    refine ri_iadd hx hb d_L_law_997 ?_
    refine sc_ld hx hb hX hbl hS (by omega) hL3 d_L_law_998 ?_
    refine lv_aload_n hx hb d_L_law_999 rfl (lv_at hl 1 rfl) ?_
    refine lv_iload hx hb d_L_law_1000 (lv_at hl 5 rfl) ?_
    refine ri_iconst hx hb d_L_law_1002 ?_
    refine ri_iadd hx hb d_L_law_1003 ?_
    refine sc_ld hx hb hX hbl hS (by omega) hL3 d_L_law_1004 ?_
    refine lv_aload_n hx hb d_L_law_1005 rfl (lv_at hl 1 rfl) ?_
    refine lv_iload hx hb d_L_law_1006 (lv_at hl 5 rfl) ?_
    refine ri_iconst hx hb d_L_law_1008 ?_
    refine ri_iadd hx hb d_L_law_1009 ?_
    refine sc_ld hx hb hX hbl hS (by omega) hL3 d_L_law_1010 ?_
    replace hP := wl_Pp hP (pm_law wc' (ao, .inl (k 1, al 1 o')) (mWd k A v f))
    replace hD := wl_Dp hD (pm_law wc' (ao, .inl (k 1, al 1 o')) (mWd k A v f))
    refine wd_callC h0 hS (ex_runV (C := "LathePiecesModel") (As := [.int (iI (sx xs (i + 1))), .int (iI (sx xs (i + 2))), .int (iI (sx xs (i + 3)))]) (rest := []) ⟨hx, hb, hml, hown, hG⟩ (q_steady hC A hI ((ao, .inl (k 1, al 1 o')) :: wc') (sx xs (i + 1)) (sx xs (i + 2)) (sx xs (i + 3)) (sx_rg _ _) (sx_rg _ _) (sx_rg _ _)) (cb_code (n := 3) hG g_820 g_3 g_817 rfl rfl (by decide +kernel) ⟨Nat.le_of_ble_eq_true rfl, Nat.le_of_ble_eq_true rfl⟩) (hG _ g_818) (hG _ g_819) (kd_V (kd_preW h0 hS hP hD) (kd_recv hK hP (q0 := 0) (ci := 6) rfl rfl rfl)) rfl rfl hl.1 rfl (lv_room (Nat.le_of_ble_eq_true rfl)) d_L_law_1011 ⟨(show cells + 4 + 0 ≤ 601024 by omega), (show slots + 24 + 0 ≤ 7293034 by omega)⟩) (fun E ws9 hE H locs hP hD hS q T0 hT0 hq => False.elim hE) (fun v9 ws9 h9 H locs hP hD hS => ?_)
    obtain ⟨rfl, rfl⟩ := h9.1 hq0
    show W _ _ _ _ _ _ _ _ _ _ _ _ _ _ _ (F0 m9 1014 ls [.int (iI (0))])
    refine lv_istore (lv' := [(6, .int (iI (0))), (5, .int (iI (1))), (0, .ref b), (1, .ref cx), (2, .ref (A 26)), (3, .ref ao), (4, .int (iI (i)))]) hx hb d_L_law_1014 hl (by decide) rfl (fun ls hl => ?_)
    refine lv_aload_n hx hb d_L_law_1016 rfl (lv_at hl 4 rfl) ?_
    refine rd_call (ex_runV (C := "LathePiecesModel") (As := []) (rest := []) ⟨hx, hb, hml, hown, hG⟩ (q_thrown hC A (vS v 0 1) f ((ao, .inl (k 1, al 1 o')) :: wc')) (cb_code (n := 0) hG g_709 g_3 g_706 rfl rfl (by decide +kernel) ⟨Nat.le_of_ble_eq_true rfl, Nat.le_of_ble_eq_true rfl⟩) (hG _ g_707) (hG _ g_708) (kd_V (kd_pre h0 hS hP) (kd_recv hK hP (q0 := 0) (ci := 6) rfl rfl rfl)) rfl rfl hl.1 rfl (lv_room (Nat.le_of_ble_eq_true rfl)) d_L_law_1017 ⟨(show cells + 4 + 0 + 0 ≤ 601024 by omega), (show slots + 24 + 0 + 0 ≤ 7293034 by omega)⟩) (fun v9 h9 => ?_)
    subst h9
    show W _ _ _ _ _ _ _ _ _ _ _ _ _ _ _ (F0 m9 1020 ls [.int (iI (1))])
    refine lv_iload hx hb d_L_law_1020 (lv_at hl 1 rfl) ?_
    refine ri_icmp_eq (tgt := 1027) hx hb d_L_law_1022 (by decide) (by decide) (by decide) (fun _ => ?_) (fun c1022 => absurd rfl c1022)
    refine lv_iload hx hb d_L_law_1027 (lv_at hl 1 rfl) ?_
    refine ri_if_ne (tgt := 1044) hx hb d_L_law_1029 (by decide) (by decide) (fun _ => ?_) (fun c1029 => absurd c1029 (by decide))
    refine lv_goto (tgt := 1941) hx hb d_L_law_1044 (by decide) ?_
    replace hP := wl_Pp hP (pm_law (mWd k A (vS v 0 1) f) (ao, .inl (k 1, al 1 o')) wc')
    replace hD := wl_Dp hD (pm_law (mWd k A (vS v 0 1) f) (ao, .inl (k 1, al 1 o')) wc')
    refine W.widen (k := cells + 9) (n := slots + 167) (by omega) (by omega) ?_
    exact kk (vS v 0 1) f wc' o' H locs ls (Cst.code hW2 1) (Iv.code hI 1) hP hD hS (lv_sub hl [2, 3, 4, 5, 6] rfl)
  · show W _ _ _ _ _ _ _ _ _ _ _ _ _ _ _ (F0 m9 990 ls [.int (iI (2))])
    refine lv_istore (lv' := [(5, .int (iI (2))), (0, .ref b), (1, .ref cx), (2, .ref (A 26)), (3, .ref ao), (4, .int (iI (i)))]) hx hb d_L_law_990 hl (by decide) rfl (fun ls hl => ?_)
    refine lv_aload_n hx hb d_L_law_992 rfl (lv_at hl 3 rfl) ?_
    refine lv_aload_n hx hb d_L_law_993 rfl (lv_at hl 1 rfl) ?_
    refine lv_iload hx hb d_L_law_994 (lv_at hl 5 rfl) ?_
    refine ri_iconst hx hb d_L_law_996 ?_
    refine ri_iadd hx hb d_L_law_997 ?_
    refine sc_ld hx hb hX hbl hS (by omega) hL3 d_L_law_998 ?_
    refine lv_aload_n hx hb d_L_law_999 rfl (lv_at hl 1 rfl) ?_
    refine lv_iload hx hb d_L_law_1000 (lv_at hl 5 rfl) ?_
    refine ri_iconst hx hb d_L_law_1002 ?_
    refine ri_iadd hx hb d_L_law_1003 ?_
    refine sc_ld hx hb hX hbl hS (by omega) hL3 d_L_law_1004 ?_
    refine lv_aload_n hx hb d_L_law_1005 rfl (lv_at hl 1 rfl) ?_
    refine lv_iload hx hb d_L_law_1006 (lv_at hl 5 rfl) ?_
    refine ri_iconst hx hb d_L_law_1008 ?_
    refine ri_iadd hx hb d_L_law_1009 ?_
    refine sc_ld hx hb hX hbl hS (by omega) hL3 d_L_law_1010 ?_
    replace hP := wl_Pp hP (pm_law wc' (ao, .inl (k 1, al 1 o')) (mWd k A v f))
    replace hD := wl_Dp hD (pm_law wc' (ao, .inl (k 1, al 1 o')) (mWd k A v f))
    refine wd_callC h0 hS (ex_runV (C := "LathePiecesModel") (As := [.int (iI (sx xs (i + 1))), .int (iI (sx xs (i + 2))), .int (iI (sx xs (i + 3)))]) (rest := []) ⟨hx, hb, hml, hown, hG⟩ (q_steady hC A hI ((ao, .inl (k 1, al 1 o')) :: wc') (sx xs (i + 1)) (sx xs (i + 2)) (sx xs (i + 3)) (sx_rg _ _) (sx_rg _ _) (sx_rg _ _)) (cb_code (n := 3) hG g_820 g_3 g_817 rfl rfl (by decide +kernel) ⟨Nat.le_of_ble_eq_true rfl, Nat.le_of_ble_eq_true rfl⟩) (hG _ g_818) (hG _ g_819) (kd_V (kd_preW h0 hS hP hD) (kd_recv hK hP (q0 := 0) (ci := 6) rfl rfl rfl)) rfl rfl hl.1 rfl (lv_room (Nat.le_of_ble_eq_true rfl)) d_L_law_1011 ⟨(show cells + 4 + 0 ≤ 601024 by omega), (show slots + 24 + 0 ≤ 7293034 by omega)⟩) (fun E ws9 hE H locs hP hD hS q T0 hT0 hq => False.elim hE) (fun v9 ws9 h9 H locs hP hD hS => ?_)
    obtain ⟨rfl, rfl⟩ := h9.2.1 hq0
    show W _ _ _ _ _ _ _ _ _ _ _ _ _ _ _ (F0 m9 1014 ls [.int (iI (0))])
    refine lv_istore (lv' := [(6, .int (iI (0))), (5, .int (iI (2))), (0, .ref b), (1, .ref cx), (2, .ref (A 26)), (3, .ref ao), (4, .int (iI (i)))]) hx hb d_L_law_1014 hl (by decide) rfl (fun ls hl => ?_)
    refine lv_aload_n hx hb d_L_law_1016 rfl (lv_at hl 4 rfl) ?_
    refine rd_call (ex_runV (C := "LathePiecesModel") (As := []) (rest := []) ⟨hx, hb, hml, hown, hG⟩ (q_thrown hC A (vS v 0 2) f ((ao, .inl (k 1, al 1 o')) :: wc')) (cb_code (n := 0) hG g_709 g_3 g_706 rfl rfl (by decide +kernel) ⟨Nat.le_of_ble_eq_true rfl, Nat.le_of_ble_eq_true rfl⟩) (hG _ g_707) (hG _ g_708) (kd_V (kd_pre h0 hS hP) (kd_recv hK hP (q0 := 0) (ci := 6) rfl rfl rfl)) rfl rfl hl.1 rfl (lv_room (Nat.le_of_ble_eq_true rfl)) d_L_law_1017 ⟨(show cells + 4 + 0 + 0 ≤ 601024 by omega), (show slots + 24 + 0 + 0 ≤ 7293034 by omega)⟩) (fun v9 h9 => ?_)
    subst h9
    show W _ _ _ _ _ _ _ _ _ _ _ _ _ _ _ (F0 m9 1020 ls [.int (iI (2))])
    refine lv_iload hx hb d_L_law_1020 (lv_at hl 1 rfl) ?_
    refine ri_icmp_eq (tgt := 1027) hx hb d_L_law_1022 (by decide) (by decide) (by decide) (fun _ => ?_) (fun c1022 => absurd rfl c1022)
    refine lv_iload hx hb d_L_law_1027 (lv_at hl 1 rfl) ?_
    refine ri_if_ne (tgt := 1044) hx hb d_L_law_1029 (by decide) (by decide) (fun _ => ?_) (fun c1029 => absurd c1029 (by decide))
    refine lv_goto (tgt := 1941) hx hb d_L_law_1044 (by decide) ?_
    replace hP := wl_Pp hP (pm_law (mWd k A (vS v 0 2) f) (ao, .inl (k 1, al 1 o')) wc')
    replace hD := wl_Dp hD (pm_law (mWd k A (vS v 0 2) f) (ao, .inl (k 1, al 1 o')) wc')
    refine W.widen (k := cells + 9) (n := slots + 167) (by omega) (by omega) ?_
    exact kk (vS v 0 2) f wc' o' H locs ls (Cst.code hW2 2) (Iv.code hI 2) hP hD hS (lv_sub hl [2, 3, 4, 5, 6] rfl)
  · show W _ _ _ _ _ _ _ _ _ _ _ _ _ _ _ (F0 m9 990 ls [.int (iI (3))])
    refine lv_istore (lv' := [(5, .int (iI (3))), (0, .ref b), (1, .ref cx), (2, .ref (A 26)), (3, .ref ao), (4, .int (iI (i)))]) hx hb d_L_law_990 hl (by decide) rfl (fun ls hl => ?_)
    refine lv_aload_n hx hb d_L_law_992 rfl (lv_at hl 3 rfl) ?_
    refine lv_aload_n hx hb d_L_law_993 rfl (lv_at hl 1 rfl) ?_
    refine lv_iload hx hb d_L_law_994 (lv_at hl 5 rfl) ?_
    refine ri_iconst hx hb d_L_law_996 ?_
    refine ri_iadd hx hb d_L_law_997 ?_
    refine sc_ld hx hb hX hbl hS (by omega) hL3 d_L_law_998 ?_
    refine lv_aload_n hx hb d_L_law_999 rfl (lv_at hl 1 rfl) ?_
    refine lv_iload hx hb d_L_law_1000 (lv_at hl 5 rfl) ?_
    refine ri_iconst hx hb d_L_law_1002 ?_
    refine ri_iadd hx hb d_L_law_1003 ?_
    refine sc_ld hx hb hX hbl hS (by omega) hL3 d_L_law_1004 ?_
    refine lv_aload_n hx hb d_L_law_1005 rfl (lv_at hl 1 rfl) ?_
    refine lv_iload hx hb d_L_law_1006 (lv_at hl 5 rfl) ?_
    refine ri_iconst hx hb d_L_law_1008 ?_
    refine ri_iadd hx hb d_L_law_1009 ?_
    refine sc_ld hx hb hX hbl hS (by omega) hL3 d_L_law_1010 ?_
    replace hP := wl_Pp hP (pm_law wc' (ao, .inl (k 1, al 1 o')) (mWd k A v f))
    replace hD := wl_Dp hD (pm_law wc' (ao, .inl (k 1, al 1 o')) (mWd k A v f))
    refine wd_callC h0 hS (ex_runV (C := "LathePiecesModel") (As := [.int (iI (sx xs (i + 1))), .int (iI (sx xs (i + 2))), .int (iI (sx xs (i + 3)))]) (rest := []) ⟨hx, hb, hml, hown, hG⟩ (q_steady hC A hI ((ao, .inl (k 1, al 1 o')) :: wc') (sx xs (i + 1)) (sx xs (i + 2)) (sx xs (i + 3)) (sx_rg _ _) (sx_rg _ _) (sx_rg _ _)) (cb_code (n := 3) hG g_820 g_3 g_817 rfl rfl (by decide +kernel) ⟨Nat.le_of_ble_eq_true rfl, Nat.le_of_ble_eq_true rfl⟩) (hG _ g_818) (hG _ g_819) (kd_V (kd_preW h0 hS hP hD) (kd_recv hK hP (q0 := 0) (ci := 6) rfl rfl rfl)) rfl rfl hl.1 rfl (lv_room (Nat.le_of_ble_eq_true rfl)) d_L_law_1011 ⟨(show cells + 4 + 0 ≤ 601024 by omega), (show slots + 24 + 0 ≤ 7293034 by omega)⟩) (fun E ws9 hE H locs hP hD hS q T0 hT0 hq => False.elim hE) (fun v9 ws9 h9 H locs hP hD hS => ?_)
    obtain ⟨rfl, rfl⟩ := h9.2.2.1 hq0
    show W _ _ _ _ _ _ _ _ _ _ _ _ _ _ _ (F0 m9 1014 ls [.int (iI (0))])
    refine lv_istore (lv' := [(6, .int (iI (0))), (5, .int (iI (3))), (0, .ref b), (1, .ref cx), (2, .ref (A 26)), (3, .ref ao), (4, .int (iI (i)))]) hx hb d_L_law_1014 hl (by decide) rfl (fun ls hl => ?_)
    refine lv_aload_n hx hb d_L_law_1016 rfl (lv_at hl 4 rfl) ?_
    refine rd_call (ex_runV (C := "LathePiecesModel") (As := []) (rest := []) ⟨hx, hb, hml, hown, hG⟩ (q_thrown hC A (vS v 0 3) f ((ao, .inl (k 1, al 1 o')) :: wc')) (cb_code (n := 0) hG g_709 g_3 g_706 rfl rfl (by decide +kernel) ⟨Nat.le_of_ble_eq_true rfl, Nat.le_of_ble_eq_true rfl⟩) (hG _ g_707) (hG _ g_708) (kd_V (kd_pre h0 hS hP) (kd_recv hK hP (q0 := 0) (ci := 6) rfl rfl rfl)) rfl rfl hl.1 rfl (lv_room (Nat.le_of_ble_eq_true rfl)) d_L_law_1017 ⟨(show cells + 4 + 0 + 0 ≤ 601024 by omega), (show slots + 24 + 0 + 0 ≤ 7293034 by omega)⟩) (fun v9 h9 => ?_)
    subst h9
    show W _ _ _ _ _ _ _ _ _ _ _ _ _ _ _ (F0 m9 1020 ls [.int (iI (3))])
    refine lv_iload hx hb d_L_law_1020 (lv_at hl 1 rfl) ?_
    refine ri_icmp_eq (tgt := 1027) hx hb d_L_law_1022 (by decide) (by decide) (by decide) (fun _ => ?_) (fun c1022 => absurd rfl c1022)
    refine lv_iload hx hb d_L_law_1027 (lv_at hl 1 rfl) ?_
    refine ri_if_ne (tgt := 1044) hx hb d_L_law_1029 (by decide) (by decide) (fun _ => ?_) (fun c1029 => absurd c1029 (by decide))
    refine lv_goto (tgt := 1941) hx hb d_L_law_1044 (by decide) ?_
    replace hP := wl_Pp hP (pm_law (mWd k A (vS v 0 3) f) (ao, .inl (k 1, al 1 o')) wc')
    replace hD := wl_Dp hD (pm_law (mWd k A (vS v 0 3) f) (ao, .inl (k 1, al 1 o')) wc')
    refine W.widen (k := cells + 9) (n := slots + 167) (by omega) (by omega) ?_
    exact kk (vS v 0 3) f wc' o' H locs ls (Cst.code hW2 3) (Iv.code hI 3) hP hD hS (lv_sub hl [2, 3, 4, 5, 6] rfl)
set_option maxHeartbeats 4000000 in
set_option maxRecDepth 100000 in
theorem t_volume {p9 : Program} {l : Launch} {e9 : Env} {s : State} {m9 : MethodId} {below9 : List Frame} {meth9 : Method} {c9 : Code} {Q9 : State → Prop} {b L : Nat} {xs : Nat → Int32} {D : va_G} {k : Nat → ClassId} (C0 : LwC p9 l s m9 c9 b L xs D k) {cx : Nat} {A : Nat → Nat} {ao : Nat} {i : Int} {cells slots : Nat} (hi : 0 ≤ i ∧ i + 5 < L) (hc : cells + 9 ≤ 601024) (hs : slots + 167 ≤ 7293034) (kk : LwK p9 l e9 s m9 below9 meth9 c9 b D k cx A ao i (cells + 9) (slots + 167) Q9) {v : Nat → Int} {f : Nat → Int → Int} {wc : va_W} {o9 : Int → Int} {H : Heap} {locs : List Loc} {ls : Array Slot} (hI : Iv v f) (hW : Cst k cx v f wc) (hP : va_P D classes (wc ++ ((ao, .inl (k 1, al 1 o9)) :: mWd k A v f)) H) (hD : va_D (aL s) (wc ++ ((ao, .inl (k 1, al 1 o9)) :: mWd k A v f))) (hS : va_S (aL s) s.heap H locs) (hl : lv_has ls 8 [(0, .ref b), (1, .ref cx), (2, .ref (A 26)), (3, .ref ao), (4, .int (iI (i)))]) : W p9 l e9 room_1 s m9 #[Value.ref b] below9 meth9 c9 H locs cells slots Q9 (F0 m9 1047 ls []) := by
  obtain ⟨hx, hb, hml, hown, hG, hX, hbl, hL3, hC⟩ := id C0
  have h0 : La s s := ⟨State.WarmedH.refl s, Nat.le_refl _, fun _ _ => rfl⟩
  have hK := cx_K hC h0
  by_cases hz5 : sx xs (i + 2) = 0
  · refine lv_aload_n hx hb d_L_law_1047 rfl (lv_at hl 1 rfl) ?_
    refine lv_aload_n hx hb d_L_law_1048 rfl (lv_at hl 0 rfl) ?_
    refine lv_iload hx hb d_L_law_1049 (lv_at hl 4 rfl) ?_
    refine ri_iconst hx hb d_L_law_1051 ?_
    refine ri_iadd hx hb d_L_law_1052 ?_
    refine sc_ld hx hb hX hbl hS (by omega) hL3 d_L_law_1053 ?_
    refine lv_aload_n hx hb d_L_law_1054 rfl (lv_at hl 0 rfl) ?_
    refine lv_iload hx hb d_L_law_1055 (lv_at hl 4 rfl) ?_
    refine ri_iconst hx hb d_L_law_1057 ?_
    refine ri_iadd hx hb d_L_law_1058 ?_
    refine sc_ld hx hb hX hbl hS (by omega) hL3 d_L_law_1059 ?_
    refine ri_if_eq (tgt := 1067) hx hb d_L_law_1060 (by decide) (sx_rg _ _) (fun c1060 => ?_) (fun c1060 => ?_)
    · refine ri_iconst hx hb d_L_law_1067 ?_
      refine lv_aload_n hx hb d_L_law_1068 rfl (lv_at hl 3 rfl) ?_
      refine wd_callC h0 hS (ex_runS (As := [.ref cx, .int (iI (sx xs (i + 1))), .int (iI (0)), .ref ao]) (rest := []) ⟨hx, hb, hml, hown, hG⟩ (w_volume hC hI hW (mWd k A v f) ao o9 (sx xs (i + 1)) (0) (sx_rg _ _) (by decide)) (cb_with (n := 4) hG g_457 g_0 g_455 rfl rfl (by decide +kernel) ⟨Nat.le_of_ble_eq_true rfl, Nat.le_of_ble_eq_true rfl⟩) (hG _ g_456) (kd_preW h0 hS hP hD) rfl rfl hl.1 rfl (lv_room (Nat.le_of_ble_eq_true rfl)) d_L_law_1069 ⟨(show cells + 1 ≤ 601024 by omega), (show slots + 6 ≤ 7293034 by omega)⟩) (fun E ws9 hE H locs hP hD hS q T0 hT0 hq => False.elim hE) (fun v9 ws9 h9 H locs hP hD hS => ?_)
      obtain ⟨wc', o', kz, rfl, rfl, h9⟩ := h9
      rcases h9 with ⟨rfl, hq0, ho, hW2, hI2⟩ | ⟨rfl, hq0, hW2⟩
      · show W _ _ _ _ _ _ _ _ _ _ _ _ _ _ _ (F0 m9 1072 ls [.int (iI (0))])
        refine lv_istore (lv' := [(5, .int (iI (0))), (0, .ref b), (1, .ref cx), (2, .ref (A 26)), (3, .ref ao), (4, .int (iI (i)))]) hx hb d_L_law_1072 hl (by decide) rfl (fun ls hl => ?_)
        refine lv_aload_n hx hb d_L_law_1074 rfl (lv_at hl 3 rfl) ?_
        refine lv_aload_n hx hb d_L_law_1075 rfl (lv_at hl 1 rfl) ?_
        refine lv_iload hx hb d_L_law_1076 (lv_at hl 5 rfl) ?_
        refine ri_iconst hx hb d_L_law_1078 ?_
        refine ri_iadd hx hb d_L_law_1079 ?_
        refine sc_ld hx hb hX hbl hS (by omega) hL3 d_L_law_1080 ?_
        refine lv_aload_n hx hb d_L_law_1081 rfl (lv_at hl 1 rfl) ?_
        refine lv_iload hx hb d_L_law_1082 (lv_at hl 5 rfl) ?_
        refine ri_iconst hx hb d_L_law_1084 ?_
        refine ri_iadd hx hb d_L_law_1085 ?_
        refine sc_ld hx hb hX hbl hS (by omega) hL3 d_L_law_1086 ?_
        refine ri_if_eq (tgt := 1094) hx hb d_L_law_1087 (by decide) (sx_rg _ _) (fun c1087 => ?_) (fun c1087 => ?_)
        · refine ri_iconst hx hb d_L_law_1094 ?_
          replace hP := wl_Pp hP (pm_law wc' (ao, .inl (k 1, al 1 o')) (mWd k A v f))
          replace hD := wl_Dp hD (pm_law wc' (ao, .inl (k 1, al 1 o')) (mWd k A v f))
          refine wd_callC h0 hS (ex_runV (C := "LathePiecesModel") (As := [.int (iI (sx xs (i + 1))), .int (iI (0))]) (rest := []) ⟨hx, hb, hml, hown, hG⟩ (q_volume hC A hI ((ao, .inl (k 1, al 1 o')) :: wc') (sx xs (i + 1)) (0) (sx_rg _ _) (Or.inl rfl)) (cb_code (n := 2) hG g_828 g_3 g_825 rfl rfl (by decide +kernel) ⟨Nat.le_of_ble_eq_true rfl, Nat.le_of_ble_eq_true rfl⟩) (hG _ g_826) (hG _ g_827) (kd_V (kd_preW h0 hS hP hD) (kd_recv hK hP (q0 := 0) (ci := 6) rfl rfl rfl)) rfl rfl hl.1 rfl (lv_room (Nat.le_of_ble_eq_true rfl)) d_L_law_1095 ⟨(show cells + 1 + 0 ≤ 601024 by omega), (show slots + 6 + 0 ≤ 7293034 by omega)⟩) (fun E ws9 hE H locs hP hD hS q T0 hT0 hq => False.elim hE) (fun v9 ws9 h9 H locs hP hD hS => ?_)
          obtain ⟨rfl, rfl⟩ := h9.2 hq0
          show W _ _ _ _ _ _ _ _ _ _ _ _ _ _ _ (F0 m9 1098 ls [.long (jJ (if (0 : Int) = 0 then (itF (fun a b => a + b) (sqF (fun j => (f 12) (65 * (sx xs (i + 1)) + j)) (0 : Int)) 0 1 ((f 10) (sx xs (i + 1))).toNat * 314159).tdiv 100000 else (itF (fun a b => a + b) (sqF (fun j => (f 12) (65 * (sx xs (i + 1)) + j)) (0 : Int)) 0 1 ((f 10) (sx xs (i + 1))).toNat * 314160).tdiv 100000 + 1))])
          refine lv_lstore (lv' := [(6, .long (jJ (if (0 : Int) = 0 then (itF (fun a b => a + b) (sqF (fun j => (f 12) (65 * (sx xs (i + 1)) + j)) (0 : Int)) 0 1 ((f 10) (sx xs (i + 1))).toNat * 314159).tdiv 100000 else (itF (fun a b => a + b) (sqF (fun j => (f 12) (65 * (sx xs (i + 1)) + j)) (0 : Int)) 0 1 ((f 10) (sx xs (i + 1))).toNat * 314160).tdiv 100000 + 1))), (5, .int (iI (0))), (0, .ref b), (1, .ref cx), (2, .ref (A 26)), (3, .ref ao), (4, .int (iI (i)))]) hx hb d_L_law_1098 hl (by decide) rfl (fun ls hl => ?_)
          refine lv_aload_n hx hb d_L_law_1100 rfl (lv_at hl 4 rfl) ?_
          refine rd_call (ex_runV (C := "LathePiecesModel") (As := []) (rest := []) ⟨hx, hb, hml, hown, hG⟩ (q_thrown hC A (vS v 0 0) f ((ao, .inl (k 1, al 1 o')) :: wc')) (cb_code (n := 0) hG g_709 g_3 g_706 rfl rfl (by decide +kernel) ⟨Nat.le_of_ble_eq_true rfl, Nat.le_of_ble_eq_true rfl⟩) (hG _ g_707) (hG _ g_708) (kd_V (kd_pre h0 hS hP) (kd_recv hK hP (q0 := 0) (ci := 6) rfl rfl rfl)) rfl rfl hl.1 rfl (lv_room (Nat.le_of_ble_eq_true rfl)) d_L_law_1101 ⟨(show cells + 1 + 0 + 0 ≤ 601024 by omega), (show slots + 6 + 0 + 0 ≤ 7293034 by omega)⟩) (fun v9 h9 => ?_)
          subst h9
          show W _ _ _ _ _ _ _ _ _ _ _ _ _ _ _ (F0 m9 1104 ls [.int (iI (0))])
          refine lv_iload hx hb d_L_law_1104 (lv_at hl 1 rfl) ?_
          refine ri_icmp_eq (tgt := 1111) hx hb d_L_law_1106 (by decide) (by decide) (by decide) (fun _ => ?_) (fun c1106 => absurd rfl c1106)
          refine lv_iload hx hb d_L_law_1111 (lv_at hl 1 rfl) ?_
          refine ri_if_ne (tgt := 1127) hx hb d_L_law_1113 (by decide) (by decide) (fun c1113 => absurd rfl c1113) (fun _ => ?_)
          refine lv_aload_n hx hb d_L_law_1116 rfl (lv_at hl 5 rfl) ?_
          refine ri_iconst hx hb d_L_law_1117 ?_
          replace hP := wl_Pp hP (pm_lf (mWd k A (vS v 0 0) f) (ao, .inl (k 1, al 1 o')) wc')
          replace hD := wl_Dp hD (pm_lf (mWd k A (vS v 0 0) f) (ao, .inl (k 1, al 1 o')) wc')
          refine ra_lald hx hb hK hP 0 rfl (by omega) (by omega) d_L_law_1118 ?_
          refine tp_l (y := jJ (if (0 : Int) = 0 then (itF (fun a b => a + b) (sqF (fun j => (f 12) (65 * (sx xs (i + 1)) + j)) (0 : Int)) 0 1 ((f 10) (sx xs (i + 1))).toNat * 314159).tdiv 100000 else (itF (fun a b => a + b) (sqF (fun j => (f 12) (65 * (sx xs (i + 1)) + j)) (0 : Int)) 0 1 ((f 10) (sx xs (i + 1))).toNat * 314160).tdiv 100000 + 1)) (congrArg jJ ho) ?_
          refine lv_lload hx hb d_L_law_1119 (lv_at hl 0 rfl) ?_
          refine lc_same (tgt := 1127) hx hb d_L_law_1121 d_L_law_1122 (by decide) ?_
          refine lv_goto (tgt := 1941) hx hb d_L_law_1127 (by decide) ?_
          replace hP := wl_Pp hP (pm_lb (mWd k A (vS v 0 0) f) (ao, .inl (k 1, al 1 o')) wc')
          replace hD := wl_Dp hD (pm_lb (mWd k A (vS v 0 0) f) (ao, .inl (k 1, al 1 o')) wc')
          refine W.widen (k := cells + 9) (n := slots + 167) (by omega) (by omega) ?_
          exact kk (vS v 0 0) f wc' o' H locs ls (Cst.code hW2 0) (Iv.code hI2 0) hP hD hS (lv_sub hl [2, 3, 4, 5, 6] rfl)
        · exact absurd hz5 c1087
      · show W _ _ _ _ _ _ _ _ _ _ _ _ _ _ _ (F0 m9 1072 ls [.int (iI (1))])
        refine lv_istore (lv' := [(5, .int (iI (1))), (0, .ref b), (1, .ref cx), (2, .ref (A 26)), (3, .ref ao), (4, .int (iI (i)))]) hx hb d_L_law_1072 hl (by decide) rfl (fun ls hl => ?_)
        refine lv_aload_n hx hb d_L_law_1074 rfl (lv_at hl 3 rfl) ?_
        refine lv_aload_n hx hb d_L_law_1075 rfl (lv_at hl 1 rfl) ?_
        refine lv_iload hx hb d_L_law_1076 (lv_at hl 5 rfl) ?_
        refine ri_iconst hx hb d_L_law_1078 ?_
        refine ri_iadd hx hb d_L_law_1079 ?_
        refine sc_ld hx hb hX hbl hS (by omega) hL3 d_L_law_1080 ?_
        refine lv_aload_n hx hb d_L_law_1081 rfl (lv_at hl 1 rfl) ?_
        refine lv_iload hx hb d_L_law_1082 (lv_at hl 5 rfl) ?_
        refine ri_iconst hx hb d_L_law_1084 ?_
        refine ri_iadd hx hb d_L_law_1085 ?_
        refine sc_ld hx hb hX hbl hS (by omega) hL3 d_L_law_1086 ?_
        refine ri_if_eq (tgt := 1094) hx hb d_L_law_1087 (by decide) (sx_rg _ _) (fun c1087 => ?_) (fun c1087 => ?_)
        · refine ri_iconst hx hb d_L_law_1094 ?_
          replace hP := wl_Pp hP (pm_law wc' (ao, .inl (k 1, al 1 o')) (mWd k A v f))
          replace hD := wl_Dp hD (pm_law wc' (ao, .inl (k 1, al 1 o')) (mWd k A v f))
          refine wd_callC h0 hS (ex_runV (C := "LathePiecesModel") (As := [.int (iI (sx xs (i + 1))), .int (iI (0))]) (rest := []) ⟨hx, hb, hml, hown, hG⟩ (q_volume hC A hI ((ao, .inl (k 1, al 1 o')) :: wc') (sx xs (i + 1)) (0) (sx_rg _ _) (Or.inl rfl)) (cb_code (n := 2) hG g_828 g_3 g_825 rfl rfl (by decide +kernel) ⟨Nat.le_of_ble_eq_true rfl, Nat.le_of_ble_eq_true rfl⟩) (hG _ g_826) (hG _ g_827) (kd_V (kd_preW h0 hS hP hD) (kd_recv hK hP (q0 := 0) (ci := 6) rfl rfl rfl)) rfl rfl hl.1 rfl (lv_room (Nat.le_of_ble_eq_true rfl)) d_L_law_1095 ⟨(show cells + 1 + 0 ≤ 601024 by omega), (show slots + 6 + 0 ≤ 7293034 by omega)⟩) (fun E ws9 hE H locs hP hD hS q T0 hT0 hq => False.elim hE) (fun v9 ws9 h9 H locs hP hD hS => ?_)
          obtain ⟨rfl, rfl⟩ := h9.1 hq0
          show W _ _ _ _ _ _ _ _ _ _ _ _ _ _ _ (F0 m9 1098 ls [.long (jJ (0))])
          refine lv_lstore (lv' := [(6, .long (jJ (0))), (5, .int (iI (1))), (0, .ref b), (1, .ref cx), (2, .ref (A 26)), (3, .ref ao), (4, .int (iI (i)))]) hx hb d_L_law_1098 hl (by decide) rfl (fun ls hl => ?_)
          refine lv_aload_n hx hb d_L_law_1100 rfl (lv_at hl 4 rfl) ?_
          refine rd_call (ex_runV (C := "LathePiecesModel") (As := []) (rest := []) ⟨hx, hb, hml, hown, hG⟩ (q_thrown hC A (vS v 0 1) f ((ao, .inl (k 1, al 1 o')) :: wc')) (cb_code (n := 0) hG g_709 g_3 g_706 rfl rfl (by decide +kernel) ⟨Nat.le_of_ble_eq_true rfl, Nat.le_of_ble_eq_true rfl⟩) (hG _ g_707) (hG _ g_708) (kd_V (kd_pre h0 hS hP) (kd_recv hK hP (q0 := 0) (ci := 6) rfl rfl rfl)) rfl rfl hl.1 rfl (lv_room (Nat.le_of_ble_eq_true rfl)) d_L_law_1101 ⟨(show cells + 1 + 0 + 0 ≤ 601024 by omega), (show slots + 6 + 0 + 0 ≤ 7293034 by omega)⟩) (fun v9 h9 => ?_)
          subst h9
          show W _ _ _ _ _ _ _ _ _ _ _ _ _ _ _ (F0 m9 1104 ls [.int (iI (1))])
          refine lv_iload hx hb d_L_law_1104 (lv_at hl 1 rfl) ?_
          refine ri_icmp_eq (tgt := 1111) hx hb d_L_law_1106 (by decide) (by decide) (by decide) (fun _ => ?_) (fun c1106 => absurd rfl c1106)
          refine lv_iload hx hb d_L_law_1111 (lv_at hl 1 rfl) ?_
          refine ri_if_ne (tgt := 1127) hx hb d_L_law_1113 (by decide) (by decide) (fun _ => ?_) (fun c1113 => absurd c1113 (by decide))
          refine lv_goto (tgt := 1941) hx hb d_L_law_1127 (by decide) ?_
          replace hP := wl_Pp hP (pm_law (mWd k A (vS v 0 1) f) (ao, .inl (k 1, al 1 o')) wc')
          replace hD := wl_Dp hD (pm_law (mWd k A (vS v 0 1) f) (ao, .inl (k 1, al 1 o')) wc')
          refine W.widen (k := cells + 9) (n := slots + 167) (by omega) (by omega) ?_
          exact kk (vS v 0 1) f wc' o' H locs ls (Cst.code hW2 1) (Iv.code hI 1) hP hD hS (lv_sub hl [2, 3, 4, 5, 6] rfl)
        · exact absurd hz5 c1087
    · exact absurd hz5 c1060
  · refine lv_aload_n hx hb d_L_law_1047 rfl (lv_at hl 1 rfl) ?_
    refine lv_aload_n hx hb d_L_law_1048 rfl (lv_at hl 0 rfl) ?_
    refine lv_iload hx hb d_L_law_1049 (lv_at hl 4 rfl) ?_
    refine ri_iconst hx hb d_L_law_1051 ?_
    refine ri_iadd hx hb d_L_law_1052 ?_
    refine sc_ld hx hb hX hbl hS (by omega) hL3 d_L_law_1053 ?_
    refine lv_aload_n hx hb d_L_law_1054 rfl (lv_at hl 0 rfl) ?_
    refine lv_iload hx hb d_L_law_1055 (lv_at hl 4 rfl) ?_
    refine ri_iconst hx hb d_L_law_1057 ?_
    refine ri_iadd hx hb d_L_law_1058 ?_
    refine sc_ld hx hb hX hbl hS (by omega) hL3 d_L_law_1059 ?_
    refine ri_if_eq (tgt := 1067) hx hb d_L_law_1060 (by decide) (sx_rg _ _) (fun c1060 => ?_) (fun c1060 => ?_)
    · exact absurd c1060 hz5
    · refine ri_iconst hx hb d_L_law_1063 ?_
      refine lv_goto (tgt := 1068) hx hb d_L_law_1064 (by decide) ?_
      refine lv_aload_n hx hb d_L_law_1068 rfl (lv_at hl 3 rfl) ?_
      refine wd_callC h0 hS (ex_runS (As := [.ref cx, .int (iI (sx xs (i + 1))), .int (iI (1)), .ref ao]) (rest := []) ⟨hx, hb, hml, hown, hG⟩ (w_volume hC hI hW (mWd k A v f) ao o9 (sx xs (i + 1)) (1) (sx_rg _ _) (by decide)) (cb_with (n := 4) hG g_457 g_0 g_455 rfl rfl (by decide +kernel) ⟨Nat.le_of_ble_eq_true rfl, Nat.le_of_ble_eq_true rfl⟩) (hG _ g_456) (kd_preW h0 hS hP hD) rfl rfl hl.1 rfl (lv_room (Nat.le_of_ble_eq_true rfl)) d_L_law_1069 ⟨(show cells + 1 ≤ 601024 by omega), (show slots + 6 ≤ 7293034 by omega)⟩) (fun E ws9 hE H locs hP hD hS q T0 hT0 hq => False.elim hE) (fun v9 ws9 h9 H locs hP hD hS => ?_)
      obtain ⟨wc', o', kz, rfl, rfl, h9⟩ := h9
      rcases h9 with ⟨rfl, hq0, ho, hW2, hI2⟩ | ⟨rfl, hq0, hW2⟩
      · show W _ _ _ _ _ _ _ _ _ _ _ _ _ _ _ (F0 m9 1072 ls [.int (iI (0))])
        refine lv_istore (lv' := [(5, .int (iI (0))), (0, .ref b), (1, .ref cx), (2, .ref (A 26)), (3, .ref ao), (4, .int (iI (i)))]) hx hb d_L_law_1072 hl (by decide) rfl (fun ls hl => ?_)
        refine lv_aload_n hx hb d_L_law_1074 rfl (lv_at hl 3 rfl) ?_
        refine lv_aload_n hx hb d_L_law_1075 rfl (lv_at hl 1 rfl) ?_
        refine lv_iload hx hb d_L_law_1076 (lv_at hl 5 rfl) ?_
        refine ri_iconst hx hb d_L_law_1078 ?_
        refine ri_iadd hx hb d_L_law_1079 ?_
        refine sc_ld hx hb hX hbl hS (by omega) hL3 d_L_law_1080 ?_
        refine lv_aload_n hx hb d_L_law_1081 rfl (lv_at hl 1 rfl) ?_
        refine lv_iload hx hb d_L_law_1082 (lv_at hl 5 rfl) ?_
        refine ri_iconst hx hb d_L_law_1084 ?_
        refine ri_iadd hx hb d_L_law_1085 ?_
        refine sc_ld hx hb hX hbl hS (by omega) hL3 d_L_law_1086 ?_
        refine ri_if_eq (tgt := 1094) hx hb d_L_law_1087 (by decide) (sx_rg _ _) (fun c1087 => ?_) (fun c1087 => ?_)
        · exact absurd c1087 hz5
        · refine ri_iconst hx hb d_L_law_1090 ?_
          refine lv_goto (tgt := 1095) hx hb d_L_law_1091 (by decide) ?_
          replace hP := wl_Pp hP (pm_law wc' (ao, .inl (k 1, al 1 o')) (mWd k A v f))
          replace hD := wl_Dp hD (pm_law wc' (ao, .inl (k 1, al 1 o')) (mWd k A v f))
          refine wd_callC h0 hS (ex_runV (C := "LathePiecesModel") (As := [.int (iI (sx xs (i + 1))), .int (iI (1))]) (rest := []) ⟨hx, hb, hml, hown, hG⟩ (q_volume hC A hI ((ao, .inl (k 1, al 1 o')) :: wc') (sx xs (i + 1)) (1) (sx_rg _ _) (Or.inr rfl)) (cb_code (n := 2) hG g_828 g_3 g_825 rfl rfl (by decide +kernel) ⟨Nat.le_of_ble_eq_true rfl, Nat.le_of_ble_eq_true rfl⟩) (hG _ g_826) (hG _ g_827) (kd_V (kd_preW h0 hS hP hD) (kd_recv hK hP (q0 := 0) (ci := 6) rfl rfl rfl)) rfl rfl hl.1 rfl (lv_room (Nat.le_of_ble_eq_true rfl)) d_L_law_1095 ⟨(show cells + 1 + 0 ≤ 601024 by omega), (show slots + 6 + 0 ≤ 7293034 by omega)⟩) (fun E ws9 hE H locs hP hD hS q T0 hT0 hq => False.elim hE) (fun v9 ws9 h9 H locs hP hD hS => ?_)
          obtain ⟨rfl, rfl⟩ := h9.2 hq0
          show W _ _ _ _ _ _ _ _ _ _ _ _ _ _ _ (F0 m9 1098 ls [.long (jJ (if (1 : Int) = 0 then (itF (fun a b => a + b) (sqF (fun j => (f 12) (65 * (sx xs (i + 1)) + j)) (1 : Int)) 0 1 ((f 10) (sx xs (i + 1))).toNat * 314159).tdiv 100000 else (itF (fun a b => a + b) (sqF (fun j => (f 12) (65 * (sx xs (i + 1)) + j)) (1 : Int)) 0 1 ((f 10) (sx xs (i + 1))).toNat * 314160).tdiv 100000 + 1))])
          refine lv_lstore (lv' := [(6, .long (jJ (if (1 : Int) = 0 then (itF (fun a b => a + b) (sqF (fun j => (f 12) (65 * (sx xs (i + 1)) + j)) (1 : Int)) 0 1 ((f 10) (sx xs (i + 1))).toNat * 314159).tdiv 100000 else (itF (fun a b => a + b) (sqF (fun j => (f 12) (65 * (sx xs (i + 1)) + j)) (1 : Int)) 0 1 ((f 10) (sx xs (i + 1))).toNat * 314160).tdiv 100000 + 1))), (5, .int (iI (0))), (0, .ref b), (1, .ref cx), (2, .ref (A 26)), (3, .ref ao), (4, .int (iI (i)))]) hx hb d_L_law_1098 hl (by decide) rfl (fun ls hl => ?_)
          refine lv_aload_n hx hb d_L_law_1100 rfl (lv_at hl 4 rfl) ?_
          refine rd_call (ex_runV (C := "LathePiecesModel") (As := []) (rest := []) ⟨hx, hb, hml, hown, hG⟩ (q_thrown hC A (vS v 0 0) f ((ao, .inl (k 1, al 1 o')) :: wc')) (cb_code (n := 0) hG g_709 g_3 g_706 rfl rfl (by decide +kernel) ⟨Nat.le_of_ble_eq_true rfl, Nat.le_of_ble_eq_true rfl⟩) (hG _ g_707) (hG _ g_708) (kd_V (kd_pre h0 hS hP) (kd_recv hK hP (q0 := 0) (ci := 6) rfl rfl rfl)) rfl rfl hl.1 rfl (lv_room (Nat.le_of_ble_eq_true rfl)) d_L_law_1101 ⟨(show cells + 1 + 0 + 0 ≤ 601024 by omega), (show slots + 6 + 0 + 0 ≤ 7293034 by omega)⟩) (fun v9 h9 => ?_)
          subst h9
          show W _ _ _ _ _ _ _ _ _ _ _ _ _ _ _ (F0 m9 1104 ls [.int (iI (0))])
          refine lv_iload hx hb d_L_law_1104 (lv_at hl 1 rfl) ?_
          refine ri_icmp_eq (tgt := 1111) hx hb d_L_law_1106 (by decide) (by decide) (by decide) (fun _ => ?_) (fun c1106 => absurd rfl c1106)
          refine lv_iload hx hb d_L_law_1111 (lv_at hl 1 rfl) ?_
          refine ri_if_ne (tgt := 1127) hx hb d_L_law_1113 (by decide) (by decide) (fun c1113 => absurd rfl c1113) (fun _ => ?_)
          refine lv_aload_n hx hb d_L_law_1116 rfl (lv_at hl 5 rfl) ?_
          refine ri_iconst hx hb d_L_law_1117 ?_
          replace hP := wl_Pp hP (pm_lf (mWd k A (vS v 0 0) f) (ao, .inl (k 1, al 1 o')) wc')
          replace hD := wl_Dp hD (pm_lf (mWd k A (vS v 0 0) f) (ao, .inl (k 1, al 1 o')) wc')
          refine ra_lald hx hb hK hP 0 rfl (by omega) (by omega) d_L_law_1118 ?_
          refine tp_l (y := jJ (if (1 : Int) = 0 then (itF (fun a b => a + b) (sqF (fun j => (f 12) (65 * (sx xs (i + 1)) + j)) (1 : Int)) 0 1 ((f 10) (sx xs (i + 1))).toNat * 314159).tdiv 100000 else (itF (fun a b => a + b) (sqF (fun j => (f 12) (65 * (sx xs (i + 1)) + j)) (1 : Int)) 0 1 ((f 10) (sx xs (i + 1))).toNat * 314160).tdiv 100000 + 1)) (congrArg jJ ho) ?_
          refine lv_lload hx hb d_L_law_1119 (lv_at hl 0 rfl) ?_
          refine lc_same (tgt := 1127) hx hb d_L_law_1121 d_L_law_1122 (by decide) ?_
          refine lv_goto (tgt := 1941) hx hb d_L_law_1127 (by decide) ?_
          replace hP := wl_Pp hP (pm_lb (mWd k A (vS v 0 0) f) (ao, .inl (k 1, al 1 o')) wc')
          replace hD := wl_Dp hD (pm_lb (mWd k A (vS v 0 0) f) (ao, .inl (k 1, al 1 o')) wc')
          refine W.widen (k := cells + 9) (n := slots + 167) (by omega) (by omega) ?_
          exact kk (vS v 0 0) f wc' o' H locs ls (Cst.code hW2 0) (Iv.code hI2 0) hP hD hS (lv_sub hl [2, 3, 4, 5, 6] rfl)
      · show W _ _ _ _ _ _ _ _ _ _ _ _ _ _ _ (F0 m9 1072 ls [.int (iI (1))])
        refine lv_istore (lv' := [(5, .int (iI (1))), (0, .ref b), (1, .ref cx), (2, .ref (A 26)), (3, .ref ao), (4, .int (iI (i)))]) hx hb d_L_law_1072 hl (by decide) rfl (fun ls hl => ?_)
        refine lv_aload_n hx hb d_L_law_1074 rfl (lv_at hl 3 rfl) ?_
        refine lv_aload_n hx hb d_L_law_1075 rfl (lv_at hl 1 rfl) ?_
        refine lv_iload hx hb d_L_law_1076 (lv_at hl 5 rfl) ?_
        refine ri_iconst hx hb d_L_law_1078 ?_
        refine ri_iadd hx hb d_L_law_1079 ?_
        refine sc_ld hx hb hX hbl hS (by omega) hL3 d_L_law_1080 ?_
        refine lv_aload_n hx hb d_L_law_1081 rfl (lv_at hl 1 rfl) ?_
        refine lv_iload hx hb d_L_law_1082 (lv_at hl 5 rfl) ?_
        refine ri_iconst hx hb d_L_law_1084 ?_
        refine ri_iadd hx hb d_L_law_1085 ?_
        refine sc_ld hx hb hX hbl hS (by omega) hL3 d_L_law_1086 ?_
        refine ri_if_eq (tgt := 1094) hx hb d_L_law_1087 (by decide) (sx_rg _ _) (fun c1087 => ?_) (fun c1087 => ?_)
        · exact absurd c1087 hz5
        · refine ri_iconst hx hb d_L_law_1090 ?_
          refine lv_goto (tgt := 1095) hx hb d_L_law_1091 (by decide) ?_
          replace hP := wl_Pp hP (pm_law wc' (ao, .inl (k 1, al 1 o')) (mWd k A v f))
          replace hD := wl_Dp hD (pm_law wc' (ao, .inl (k 1, al 1 o')) (mWd k A v f))
          refine wd_callC h0 hS (ex_runV (C := "LathePiecesModel") (As := [.int (iI (sx xs (i + 1))), .int (iI (1))]) (rest := []) ⟨hx, hb, hml, hown, hG⟩ (q_volume hC A hI ((ao, .inl (k 1, al 1 o')) :: wc') (sx xs (i + 1)) (1) (sx_rg _ _) (Or.inr rfl)) (cb_code (n := 2) hG g_828 g_3 g_825 rfl rfl (by decide +kernel) ⟨Nat.le_of_ble_eq_true rfl, Nat.le_of_ble_eq_true rfl⟩) (hG _ g_826) (hG _ g_827) (kd_V (kd_preW h0 hS hP hD) (kd_recv hK hP (q0 := 0) (ci := 6) rfl rfl rfl)) rfl rfl hl.1 rfl (lv_room (Nat.le_of_ble_eq_true rfl)) d_L_law_1095 ⟨(show cells + 1 + 0 ≤ 601024 by omega), (show slots + 6 + 0 ≤ 7293034 by omega)⟩) (fun E ws9 hE H locs hP hD hS q T0 hT0 hq => False.elim hE) (fun v9 ws9 h9 H locs hP hD hS => ?_)
          obtain ⟨rfl, rfl⟩ := h9.1 hq0
          show W _ _ _ _ _ _ _ _ _ _ _ _ _ _ _ (F0 m9 1098 ls [.long (jJ (0))])
          refine lv_lstore (lv' := [(6, .long (jJ (0))), (5, .int (iI (1))), (0, .ref b), (1, .ref cx), (2, .ref (A 26)), (3, .ref ao), (4, .int (iI (i)))]) hx hb d_L_law_1098 hl (by decide) rfl (fun ls hl => ?_)
          refine lv_aload_n hx hb d_L_law_1100 rfl (lv_at hl 4 rfl) ?_
          refine rd_call (ex_runV (C := "LathePiecesModel") (As := []) (rest := []) ⟨hx, hb, hml, hown, hG⟩ (q_thrown hC A (vS v 0 1) f ((ao, .inl (k 1, al 1 o')) :: wc')) (cb_code (n := 0) hG g_709 g_3 g_706 rfl rfl (by decide +kernel) ⟨Nat.le_of_ble_eq_true rfl, Nat.le_of_ble_eq_true rfl⟩) (hG _ g_707) (hG _ g_708) (kd_V (kd_pre h0 hS hP) (kd_recv hK hP (q0 := 0) (ci := 6) rfl rfl rfl)) rfl rfl hl.1 rfl (lv_room (Nat.le_of_ble_eq_true rfl)) d_L_law_1101 ⟨(show cells + 1 + 0 + 0 ≤ 601024 by omega), (show slots + 6 + 0 + 0 ≤ 7293034 by omega)⟩) (fun v9 h9 => ?_)
          subst h9
          show W _ _ _ _ _ _ _ _ _ _ _ _ _ _ _ (F0 m9 1104 ls [.int (iI (1))])
          refine lv_iload hx hb d_L_law_1104 (lv_at hl 1 rfl) ?_
          refine ri_icmp_eq (tgt := 1111) hx hb d_L_law_1106 (by decide) (by decide) (by decide) (fun _ => ?_) (fun c1106 => absurd rfl c1106)
          refine lv_iload hx hb d_L_law_1111 (lv_at hl 1 rfl) ?_
          refine ri_if_ne (tgt := 1127) hx hb d_L_law_1113 (by decide) (by decide) (fun _ => ?_) (fun c1113 => absurd c1113 (by decide))
          refine lv_goto (tgt := 1941) hx hb d_L_law_1127 (by decide) ?_
          replace hP := wl_Pp hP (pm_law (mWd k A (vS v 0 1) f) (ao, .inl (k 1, al 1 o')) wc')
          replace hD := wl_Dp hD (pm_law (mWd k A (vS v 0 1) f) (ao, .inl (k 1, al 1 o')) wc')
          refine W.widen (k := cells + 9) (n := slots + 167) (by omega) (by omega) ?_
          exact kk (vS v 0 1) f wc' o' H locs ls (Cst.code hW2 1) (Iv.code hI 1) hP hD hS (lv_sub hl [2, 3, 4, 5, 6] rfl)
set_option maxHeartbeats 4000000 in
set_option maxRecDepth 100000 in
theorem t_hollow {p9 : Program} {l : Launch} {e9 : Env} {s : State} {m9 : MethodId} {below9 : List Frame} {meth9 : Method} {c9 : Code} {Q9 : State → Prop} {b L : Nat} {xs : Nat → Int32} {D : va_G} {k : Nat → ClassId} (C0 : LwC p9 l s m9 c9 b L xs D k) {cx : Nat} {A : Nat → Nat} {ao : Nat} {i : Int} {cells slots : Nat} (hi : 0 ≤ i ∧ i + 5 < L) (hc : cells + 9 ≤ 601024) (hs : slots + 167 ≤ 7293034) (kk : LwK p9 l e9 s m9 below9 meth9 c9 b D k cx A ao i (cells + 9) (slots + 167) Q9) {v : Nat → Int} {f : Nat → Int → Int} {wc : va_W} {o9 : Int → Int} {H : Heap} {locs : List Loc} {ls : Array Slot} (hI : Iv v f) (hW : Cst k cx v f wc) (hP : va_P D classes (wc ++ ((ao, .inl (k 1, al 1 o9)) :: mWd k A v f)) H) (hD : va_D (aL s) (wc ++ ((ao, .inl (k 1, al 1 o9)) :: mWd k A v f))) (hS : va_S (aL s) s.heap H locs) (hl : lv_has ls 8 [(0, .ref b), (1, .ref cx), (2, .ref (A 26)), (3, .ref ao), (4, .int (iI (i)))]) : W p9 l e9 room_1 s m9 #[Value.ref b] below9 meth9 c9 H locs cells slots Q9 (F0 m9 1130 ls []) := by
  obtain ⟨hx, hb, hml, hown, hG, hX, hbl, hL3, hC⟩ := id C0
  have h0 : La s s := ⟨State.WarmedH.refl s, Nat.le_refl _, fun _ _ => rfl⟩
  have hK := cx_K hC h0
  refine lv_aload_n hx hb d_L_law_1130 rfl (lv_at hl 1 rfl) ?_
  refine lv_aload_n hx hb d_L_law_1131 rfl (lv_at hl 0 rfl) ?_
  refine lv_iload hx hb d_L_law_1132 (lv_at hl 4 rfl) ?_
  refine ri_iconst hx hb d_L_law_1134 ?_
  refine ri_iadd hx hb d_L_law_1135 ?_
  refine sc_ld hx hb hX hbl hS (by omega) hL3 d_L_law_1136 ?_
  refine lv_aload_n hx hb d_L_law_1137 rfl (lv_at hl 0 rfl) ?_
  refine lv_iload hx hb d_L_law_1138 (lv_at hl 4 rfl) ?_
  refine ri_iconst hx hb d_L_law_1140 ?_
  refine ri_iadd hx hb d_L_law_1141 ?_
  refine sc_ld hx hb hX hbl hS (by omega) hL3 d_L_law_1142 ?_
  refine lv_aload_n hx hb d_L_law_1143 rfl (lv_at hl 0 rfl) ?_
  refine lv_iload hx hb d_L_law_1144 (lv_at hl 4 rfl) ?_
  refine ri_iconst hx hb d_L_law_1146 ?_
  refine ri_iadd hx hb d_L_law_1147 ?_
  refine sc_ld hx hb hX hbl hS (by omega) hL3 d_L_law_1148 ?_
  refine lv_aload_n hx hb d_L_law_1149 rfl (lv_at hl 3 rfl) ?_
  refine wd_callC h0 hS (ex_runS (As := [.ref cx, .int (iI (sx xs (i + 1))), .int (iI (sx xs (i + 2))), .int (iI (sx xs (i + 3))), .ref ao]) (rest := []) ⟨hx, hb, hml, hown, hG⟩ (w_hollow hC hI hW (mWd k A v f) ao o9 (sx xs (i + 1)) (sx xs (i + 2)) (sx xs (i + 3)) (sx_rg _ _) (sx_rg _ _) (sx_rg _ _)) (cb_with (n := 5) hG g_471 g_0 g_469 rfl rfl (by decide +kernel) ⟨Nat.le_of_ble_eq_true rfl, Nat.le_of_ble_eq_true rfl⟩) (hG _ g_470) (kd_preW h0 hS hP hD) rfl rfl hl.1 rfl (lv_room (Nat.le_of_ble_eq_true rfl)) d_L_law_1150 ⟨(show cells + 3 ≤ 601024 by omega), (show slots + 18 ≤ 7293034 by omega)⟩) (fun E ws9 hE H locs hP hD hS q T0 hT0 hq => False.elim hE) (fun v9 ws9 h9 H locs hP hD hS => ?_)
  obtain ⟨wc', o', kz, rfl, rfl, h9⟩ := h9
  rcases h9 with ⟨rfl, hq0, ho, hW2, hI2⟩ | ⟨rfl, hq0, hW2⟩ | ⟨rfl, hq0, hW2⟩
  · show W _ _ _ _ _ _ _ _ _ _ _ _ _ _ _ (F0 m9 1153 ls [.int (iI (0))])
    refine lv_istore (lv' := [(5, .int (iI (0))), (0, .ref b), (1, .ref cx), (2, .ref (A 26)), (3, .ref ao), (4, .int (iI (i)))]) hx hb d_L_law_1153 hl (by decide) rfl (fun ls hl => ?_)
    refine lv_aload_n hx hb d_L_law_1155 rfl (lv_at hl 3 rfl) ?_
    refine lv_aload_n hx hb d_L_law_1156 rfl (lv_at hl 1 rfl) ?_
    refine lv_iload hx hb d_L_law_1157 (lv_at hl 5 rfl) ?_
    refine ri_iconst hx hb d_L_law_1159 ?_
    refine ri_iadd hx hb d_L_law_1160 ?_
    refine sc_ld hx hb hX hbl hS (by omega) hL3 d_L_law_1161 ?_
    refine lv_aload_n hx hb d_L_law_1162 rfl (lv_at hl 1 rfl) ?_
    refine lv_iload hx hb d_L_law_1163 (lv_at hl 5 rfl) ?_
    refine ri_iconst hx hb d_L_law_1165 ?_
    refine ri_iadd hx hb d_L_law_1166 ?_
    refine sc_ld hx hb hX hbl hS (by omega) hL3 d_L_law_1167 ?_
    refine lv_aload_n hx hb d_L_law_1168 rfl (lv_at hl 1 rfl) ?_
    refine lv_iload hx hb d_L_law_1169 (lv_at hl 5 rfl) ?_
    refine ri_iconst hx hb d_L_law_1171 ?_
    refine ri_iadd hx hb d_L_law_1172 ?_
    refine sc_ld hx hb hX hbl hS (by omega) hL3 d_L_law_1173 ?_
    replace hP := wl_Pp hP (pm_law wc' (ao, .inl (k 1, al 1 o')) (mWd k A v f))
    replace hD := wl_Dp hD (pm_law wc' (ao, .inl (k 1, al 1 o')) (mWd k A v f))
    refine wd_callC h0 hS (ex_runV (C := "LathePiecesModel") (As := [.int (iI (sx xs (i + 1))), .int (iI (sx xs (i + 2))), .int (iI (sx xs (i + 3)))]) (rest := []) ⟨hx, hb, hml, hown, hG⟩ (q_hollow hC A hI ((ao, .inl (k 1, al 1 o')) :: wc') (sx xs (i + 1)) (sx xs (i + 2)) (sx xs (i + 3)) (sx_rg _ _) (sx_rg _ _) (sx_rg _ _)) (cb_code (n := 3) hG g_835 g_3 g_832 rfl rfl (by decide +kernel) ⟨Nat.le_of_ble_eq_true rfl, Nat.le_of_ble_eq_true rfl⟩) (hG _ g_833) (hG _ g_834) (kd_V (kd_preW h0 hS hP hD) (kd_recv hK hP (q0 := 0) (ci := 6) rfl rfl rfl)) rfl rfl hl.1 rfl (lv_room (Nat.le_of_ble_eq_true rfl)) d_L_law_1174 ⟨(show cells + 3 + 0 ≤ 601024 by omega), (show slots + 18 + 0 ≤ 7293034 by omega)⟩) (fun E ws9 hE H locs hP hD hS q T0 hT0 hq => False.elim hE) (fun v9 ws9 h9 H locs hP hD hS => ?_)
    obtain ⟨rfl, rfl⟩ := h9.2.2 hq0
    show W _ _ _ _ _ _ _ _ _ _ _ _ _ _ _ (F0 m9 1177 ls [.int (iI (hoF (fun j => (f 12) (65 * (sx xs (i + 1)) + j)) ((sx xs (i + 2)) + (sx xs (i + 3))) (((f 10) (sx xs (i + 1))).toNat + 1)))])
    refine lv_istore (lv' := [(6, .int (iI (hoF (fun j => (f 12) (65 * (sx xs (i + 1)) + j)) ((sx xs (i + 2)) + (sx xs (i + 3))) (((f 10) (sx xs (i + 1))).toNat + 1)))), (5, .int (iI (0))), (0, .ref b), (1, .ref cx), (2, .ref (A 26)), (3, .ref ao), (4, .int (iI (i)))]) hx hb d_L_law_1177 hl (by decide) rfl (fun ls hl => ?_)
    refine lv_aload_n hx hb d_L_law_1179 rfl (lv_at hl 4 rfl) ?_
    refine rd_call (ex_runV (C := "LathePiecesModel") (As := []) (rest := []) ⟨hx, hb, hml, hown, hG⟩ (q_thrown hC A (vS v 0 0) f ((ao, .inl (k 1, al 1 o')) :: wc')) (cb_code (n := 0) hG g_709 g_3 g_706 rfl rfl (by decide +kernel) ⟨Nat.le_of_ble_eq_true rfl, Nat.le_of_ble_eq_true rfl⟩) (hG _ g_707) (hG _ g_708) (kd_V (kd_pre h0 hS hP) (kd_recv hK hP (q0 := 0) (ci := 6) rfl rfl rfl)) rfl rfl hl.1 rfl (lv_room (Nat.le_of_ble_eq_true rfl)) d_L_law_1180 ⟨(show cells + 3 + 0 + 0 ≤ 601024 by omega), (show slots + 18 + 0 + 0 ≤ 7293034 by omega)⟩) (fun v9 h9 => ?_)
    subst h9
    show W _ _ _ _ _ _ _ _ _ _ _ _ _ _ _ (F0 m9 1183 ls [.int (iI (0))])
    refine lv_iload hx hb d_L_law_1183 (lv_at hl 1 rfl) ?_
    refine ri_icmp_eq (tgt := 1190) hx hb d_L_law_1185 (by decide) (by decide) (by decide) (fun _ => ?_) (fun c1185 => absurd rfl c1185)
    refine lv_iload hx hb d_L_law_1190 (lv_at hl 1 rfl) ?_
    refine ri_if_ne (tgt := 1207) hx hb d_L_law_1192 (by decide) (by decide) (fun c1192 => absurd rfl c1192) (fun _ => ?_)
    refine lv_aload_n hx hb d_L_law_1195 rfl (lv_at hl 5 rfl) ?_
    refine ri_iconst hx hb d_L_law_1196 ?_
    replace hP := wl_Pp hP (pm_lf (mWd k A (vS v 0 0) f) (ao, .inl (k 1, al 1 o')) wc')
    replace hD := wl_Dp hD (pm_lf (mWd k A (vS v 0 0) f) (ao, .inl (k 1, al 1 o')) wc')
    refine ra_lald hx hb hK hP 0 rfl (by omega) (by omega) d_L_law_1197 ?_
    refine tp_l (y := jJ (tw (hoF (fun j => (f 12) (65 * (sx xs (i + 1)) + j)) ((sx xs (i + 2)) + (sx xs (i + 3))) (((f 10) (sx xs (i + 1))).toNat + 1)))) (congrArg jJ ho) ?_
    refine lv_iload hx hb d_L_law_1198 (lv_at hl 0 rfl) ?_
    refine ri_i2lw hx hb d_L_law_1200 ?_
    refine lc_same (tgt := 1207) hx hb d_L_law_1201 d_L_law_1202 (by decide) ?_
    refine lv_goto (tgt := 1941) hx hb d_L_law_1207 (by decide) ?_
    replace hP := wl_Pp hP (pm_lb (mWd k A (vS v 0 0) f) (ao, .inl (k 1, al 1 o')) wc')
    replace hD := wl_Dp hD (pm_lb (mWd k A (vS v 0 0) f) (ao, .inl (k 1, al 1 o')) wc')
    refine W.widen (k := cells + 9) (n := slots + 167) (by omega) (by omega) ?_
    exact kk (vS v 0 0) f wc' o' H locs ls (Cst.code hW2 0) (Iv.code hI2 0) hP hD hS (lv_sub hl [2, 3, 4, 5, 6] rfl)
  · show W _ _ _ _ _ _ _ _ _ _ _ _ _ _ _ (F0 m9 1153 ls [.int (iI (1))])
    refine lv_istore (lv' := [(5, .int (iI (1))), (0, .ref b), (1, .ref cx), (2, .ref (A 26)), (3, .ref ao), (4, .int (iI (i)))]) hx hb d_L_law_1153 hl (by decide) rfl (fun ls hl => ?_)
    refine lv_aload_n hx hb d_L_law_1155 rfl (lv_at hl 3 rfl) ?_
    refine lv_aload_n hx hb d_L_law_1156 rfl (lv_at hl 1 rfl) ?_
    refine lv_iload hx hb d_L_law_1157 (lv_at hl 5 rfl) ?_
    refine ri_iconst hx hb d_L_law_1159 ?_
    refine ri_iadd hx hb d_L_law_1160 ?_
    refine sc_ld hx hb hX hbl hS (by omega) hL3 d_L_law_1161 ?_
    refine lv_aload_n hx hb d_L_law_1162 rfl (lv_at hl 1 rfl) ?_
    refine lv_iload hx hb d_L_law_1163 (lv_at hl 5 rfl) ?_
    refine ri_iconst hx hb d_L_law_1165 ?_
    refine ri_iadd hx hb d_L_law_1166 ?_
    refine sc_ld hx hb hX hbl hS (by omega) hL3 d_L_law_1167 ?_
    refine lv_aload_n hx hb d_L_law_1168 rfl (lv_at hl 1 rfl) ?_
    refine lv_iload hx hb d_L_law_1169 (lv_at hl 5 rfl) ?_
    refine ri_iconst hx hb d_L_law_1171 ?_
    refine ri_iadd hx hb d_L_law_1172 ?_
    refine sc_ld hx hb hX hbl hS (by omega) hL3 d_L_law_1173 ?_
    replace hP := wl_Pp hP (pm_law wc' (ao, .inl (k 1, al 1 o')) (mWd k A v f))
    replace hD := wl_Dp hD (pm_law wc' (ao, .inl (k 1, al 1 o')) (mWd k A v f))
    refine wd_callC h0 hS (ex_runV (C := "LathePiecesModel") (As := [.int (iI (sx xs (i + 1))), .int (iI (sx xs (i + 2))), .int (iI (sx xs (i + 3)))]) (rest := []) ⟨hx, hb, hml, hown, hG⟩ (q_hollow hC A hI ((ao, .inl (k 1, al 1 o')) :: wc') (sx xs (i + 1)) (sx xs (i + 2)) (sx xs (i + 3)) (sx_rg _ _) (sx_rg _ _) (sx_rg _ _)) (cb_code (n := 3) hG g_835 g_3 g_832 rfl rfl (by decide +kernel) ⟨Nat.le_of_ble_eq_true rfl, Nat.le_of_ble_eq_true rfl⟩) (hG _ g_833) (hG _ g_834) (kd_V (kd_preW h0 hS hP hD) (kd_recv hK hP (q0 := 0) (ci := 6) rfl rfl rfl)) rfl rfl hl.1 rfl (lv_room (Nat.le_of_ble_eq_true rfl)) d_L_law_1174 ⟨(show cells + 3 + 0 ≤ 601024 by omega), (show slots + 18 + 0 ≤ 7293034 by omega)⟩) (fun E ws9 hE H locs hP hD hS q T0 hT0 hq => False.elim hE) (fun v9 ws9 h9 H locs hP hD hS => ?_)
    obtain ⟨rfl, rfl⟩ := h9.1 hq0
    show W _ _ _ _ _ _ _ _ _ _ _ _ _ _ _ (F0 m9 1177 ls [.int (iI (0))])
    refine lv_istore (lv' := [(6, .int (iI (0))), (5, .int (iI (1))), (0, .ref b), (1, .ref cx), (2, .ref (A 26)), (3, .ref ao), (4, .int (iI (i)))]) hx hb d_L_law_1177 hl (by decide) rfl (fun ls hl => ?_)
    refine lv_aload_n hx hb d_L_law_1179 rfl (lv_at hl 4 rfl) ?_
    refine rd_call (ex_runV (C := "LathePiecesModel") (As := []) (rest := []) ⟨hx, hb, hml, hown, hG⟩ (q_thrown hC A (vS v 0 1) f ((ao, .inl (k 1, al 1 o')) :: wc')) (cb_code (n := 0) hG g_709 g_3 g_706 rfl rfl (by decide +kernel) ⟨Nat.le_of_ble_eq_true rfl, Nat.le_of_ble_eq_true rfl⟩) (hG _ g_707) (hG _ g_708) (kd_V (kd_pre h0 hS hP) (kd_recv hK hP (q0 := 0) (ci := 6) rfl rfl rfl)) rfl rfl hl.1 rfl (lv_room (Nat.le_of_ble_eq_true rfl)) d_L_law_1180 ⟨(show cells + 3 + 0 + 0 ≤ 601024 by omega), (show slots + 18 + 0 + 0 ≤ 7293034 by omega)⟩) (fun v9 h9 => ?_)
    subst h9
    show W _ _ _ _ _ _ _ _ _ _ _ _ _ _ _ (F0 m9 1183 ls [.int (iI (1))])
    refine lv_iload hx hb d_L_law_1183 (lv_at hl 1 rfl) ?_
    refine ri_icmp_eq (tgt := 1190) hx hb d_L_law_1185 (by decide) (by decide) (by decide) (fun _ => ?_) (fun c1185 => absurd rfl c1185)
    refine lv_iload hx hb d_L_law_1190 (lv_at hl 1 rfl) ?_
    refine ri_if_ne (tgt := 1207) hx hb d_L_law_1192 (by decide) (by decide) (fun _ => ?_) (fun c1192 => absurd c1192 (by decide))
    refine lv_goto (tgt := 1941) hx hb d_L_law_1207 (by decide) ?_
    replace hP := wl_Pp hP (pm_law (mWd k A (vS v 0 1) f) (ao, .inl (k 1, al 1 o')) wc')
    replace hD := wl_Dp hD (pm_law (mWd k A (vS v 0 1) f) (ao, .inl (k 1, al 1 o')) wc')
    refine W.widen (k := cells + 9) (n := slots + 167) (by omega) (by omega) ?_
    exact kk (vS v 0 1) f wc' o' H locs ls (Cst.code hW2 1) (Iv.code hI 1) hP hD hS (lv_sub hl [2, 3, 4, 5, 6] rfl)
  · show W _ _ _ _ _ _ _ _ _ _ _ _ _ _ _ (F0 m9 1153 ls [.int (iI (2))])
    refine lv_istore (lv' := [(5, .int (iI (2))), (0, .ref b), (1, .ref cx), (2, .ref (A 26)), (3, .ref ao), (4, .int (iI (i)))]) hx hb d_L_law_1153 hl (by decide) rfl (fun ls hl => ?_)
    refine lv_aload_n hx hb d_L_law_1155 rfl (lv_at hl 3 rfl) ?_
    refine lv_aload_n hx hb d_L_law_1156 rfl (lv_at hl 1 rfl) ?_
    refine lv_iload hx hb d_L_law_1157 (lv_at hl 5 rfl) ?_
    refine ri_iconst hx hb d_L_law_1159 ?_
    refine ri_iadd hx hb d_L_law_1160 ?_
    refine sc_ld hx hb hX hbl hS (by omega) hL3 d_L_law_1161 ?_
    refine lv_aload_n hx hb d_L_law_1162 rfl (lv_at hl 1 rfl) ?_
    refine lv_iload hx hb d_L_law_1163 (lv_at hl 5 rfl) ?_
    refine ri_iconst hx hb d_L_law_1165 ?_
    refine ri_iadd hx hb d_L_law_1166 ?_
    refine sc_ld hx hb hX hbl hS (by omega) hL3 d_L_law_1167 ?_
    refine lv_aload_n hx hb d_L_law_1168 rfl (lv_at hl 1 rfl) ?_
    refine lv_iload hx hb d_L_law_1169 (lv_at hl 5 rfl) ?_
    refine ri_iconst hx hb d_L_law_1171 ?_
    refine ri_iadd hx hb d_L_law_1172 ?_
    refine sc_ld hx hb hX hbl hS (by omega) hL3 d_L_law_1173 ?_
    replace hP := wl_Pp hP (pm_law wc' (ao, .inl (k 1, al 1 o')) (mWd k A v f))
    replace hD := wl_Dp hD (pm_law wc' (ao, .inl (k 1, al 1 o')) (mWd k A v f))
    refine wd_callC h0 hS (ex_runV (C := "LathePiecesModel") (As := [.int (iI (sx xs (i + 1))), .int (iI (sx xs (i + 2))), .int (iI (sx xs (i + 3)))]) (rest := []) ⟨hx, hb, hml, hown, hG⟩ (q_hollow hC A hI ((ao, .inl (k 1, al 1 o')) :: wc') (sx xs (i + 1)) (sx xs (i + 2)) (sx xs (i + 3)) (sx_rg _ _) (sx_rg _ _) (sx_rg _ _)) (cb_code (n := 3) hG g_835 g_3 g_832 rfl rfl (by decide +kernel) ⟨Nat.le_of_ble_eq_true rfl, Nat.le_of_ble_eq_true rfl⟩) (hG _ g_833) (hG _ g_834) (kd_V (kd_preW h0 hS hP hD) (kd_recv hK hP (q0 := 0) (ci := 6) rfl rfl rfl)) rfl rfl hl.1 rfl (lv_room (Nat.le_of_ble_eq_true rfl)) d_L_law_1174 ⟨(show cells + 3 + 0 ≤ 601024 by omega), (show slots + 18 + 0 ≤ 7293034 by omega)⟩) (fun E ws9 hE H locs hP hD hS q T0 hT0 hq => False.elim hE) (fun v9 ws9 h9 H locs hP hD hS => ?_)
    obtain ⟨rfl, rfl⟩ := h9.2.1 hq0
    show W _ _ _ _ _ _ _ _ _ _ _ _ _ _ _ (F0 m9 1177 ls [.int (iI (0))])
    refine lv_istore (lv' := [(6, .int (iI (0))), (5, .int (iI (2))), (0, .ref b), (1, .ref cx), (2, .ref (A 26)), (3, .ref ao), (4, .int (iI (i)))]) hx hb d_L_law_1177 hl (by decide) rfl (fun ls hl => ?_)
    refine lv_aload_n hx hb d_L_law_1179 rfl (lv_at hl 4 rfl) ?_
    refine rd_call (ex_runV (C := "LathePiecesModel") (As := []) (rest := []) ⟨hx, hb, hml, hown, hG⟩ (q_thrown hC A (vS v 0 2) f ((ao, .inl (k 1, al 1 o')) :: wc')) (cb_code (n := 0) hG g_709 g_3 g_706 rfl rfl (by decide +kernel) ⟨Nat.le_of_ble_eq_true rfl, Nat.le_of_ble_eq_true rfl⟩) (hG _ g_707) (hG _ g_708) (kd_V (kd_pre h0 hS hP) (kd_recv hK hP (q0 := 0) (ci := 6) rfl rfl rfl)) rfl rfl hl.1 rfl (lv_room (Nat.le_of_ble_eq_true rfl)) d_L_law_1180 ⟨(show cells + 3 + 0 + 0 ≤ 601024 by omega), (show slots + 18 + 0 + 0 ≤ 7293034 by omega)⟩) (fun v9 h9 => ?_)
    subst h9
    show W _ _ _ _ _ _ _ _ _ _ _ _ _ _ _ (F0 m9 1183 ls [.int (iI (2))])
    refine lv_iload hx hb d_L_law_1183 (lv_at hl 1 rfl) ?_
    refine ri_icmp_eq (tgt := 1190) hx hb d_L_law_1185 (by decide) (by decide) (by decide) (fun _ => ?_) (fun c1185 => absurd rfl c1185)
    refine lv_iload hx hb d_L_law_1190 (lv_at hl 1 rfl) ?_
    refine ri_if_ne (tgt := 1207) hx hb d_L_law_1192 (by decide) (by decide) (fun _ => ?_) (fun c1192 => absurd c1192 (by decide))
    refine lv_goto (tgt := 1941) hx hb d_L_law_1207 (by decide) ?_
    replace hP := wl_Pp hP (pm_law (mWd k A (vS v 0 2) f) (ao, .inl (k 1, al 1 o')) wc')
    replace hD := wl_Dp hD (pm_law (mWd k A (vS v 0 2) f) (ao, .inl (k 1, al 1 o')) wc')
    refine W.widen (k := cells + 9) (n := slots + 167) (by omega) (by omega) ?_
    exact kk (vS v 0 2) f wc' o' H locs ls (Cst.code hW2 2) (Iv.code hI 2) hP hD hS (lv_sub hl [2, 3, 4, 5, 6] rfl)
set_option maxHeartbeats 4000000 in
set_option maxRecDepth 100000 in
theorem t_copy {p9 : Program} {l : Launch} {e9 : Env} {s : State} {m9 : MethodId} {below9 : List Frame} {meth9 : Method} {c9 : Code} {Q9 : State → Prop} {b L : Nat} {xs : Nat → Int32} {D : va_G} {k : Nat → ClassId} (C0 : LwC p9 l s m9 c9 b L xs D k) {cx : Nat} {A : Nat → Nat} {ao : Nat} {i : Int} {cells slots : Nat} (hi : 0 ≤ i ∧ i + 5 < L) (hc : cells + 9 ≤ 601024) (hs : slots + 167 ≤ 7293034) (kk : LwK p9 l e9 s m9 below9 meth9 c9 b D k cx A ao i (cells + 9) (slots + 167) Q9) {v : Nat → Int} {f : Nat → Int → Int} {wc : va_W} {o9 : Int → Int} {H : Heap} {locs : List Loc} {ls : Array Slot} (hI : Iv v f) (hW : Cst k cx v f wc) (hP : va_P D classes (wc ++ ((ao, .inl (k 1, al 1 o9)) :: mWd k A v f)) H) (hD : va_D (aL s) (wc ++ ((ao, .inl (k 1, al 1 o9)) :: mWd k A v f))) (hS : va_S (aL s) s.heap H locs) (hl : lv_has ls 8 [(0, .ref b), (1, .ref cx), (2, .ref (A 26)), (3, .ref ao), (4, .int (iI (i)))]) : W p9 l e9 room_1 s m9 #[Value.ref b] below9 meth9 c9 H locs cells slots Q9 (F0 m9 1210 ls []) := by
  obtain ⟨hx, hb, hml, hown, hG, hX, hbl, hL3, hC⟩ := id C0
  have h0 : La s s := ⟨State.WarmedH.refl s, Nat.le_refl _, fun _ _ => rfl⟩
  have hK := cx_K hC h0
  refine lv_aload_n hx hb d_L_law_1210 rfl (lv_at hl 1 rfl) ?_
  refine lv_aload_n hx hb d_L_law_1211 rfl (lv_at hl 0 rfl) ?_
  refine lv_iload hx hb d_L_law_1212 (lv_at hl 4 rfl) ?_
  refine ri_iconst hx hb d_L_law_1214 ?_
  refine ri_iadd hx hb d_L_law_1215 ?_
  refine sc_ld hx hb hX hbl hS (by omega) hL3 d_L_law_1216 ?_
  refine lv_aload_n hx hb d_L_law_1217 rfl (lv_at hl 0 rfl) ?_
  refine lv_iload hx hb d_L_law_1218 (lv_at hl 4 rfl) ?_
  refine ri_iconst hx hb d_L_law_1220 ?_
  refine ri_iadd hx hb d_L_law_1221 ?_
  refine sc_ld hx hb hX hbl hS (by omega) hL3 d_L_law_1222 ?_
  refine lv_aload_n hx hb d_L_law_1223 rfl (lv_at hl 3 rfl) ?_
  refine wd_callC h0 hS (ex_runS (As := [.ref cx, .int (iI (sx xs (i + 1))), .int (iI (sx xs (i + 2))), .ref ao]) (rest := []) ⟨hx, hb, hml, hown, hG⟩ (w_copy hC hI hW (mWd k A v f) ao o9 (sx xs (i + 1)) (sx xs (i + 2)) (sx_rg _ _) (sx_rg _ _)) (cb_with (n := 4) hG g_482 g_0 g_480 rfl rfl (by decide +kernel) ⟨Nat.le_of_ble_eq_true rfl, Nat.le_of_ble_eq_true rfl⟩) (hG _ g_481) (kd_preW h0 hS hP hD) rfl rfl hl.1 rfl (lv_room (Nat.le_of_ble_eq_true rfl)) d_L_law_1224 ⟨(show cells + 2 ≤ 601024 by omega), (show slots + 12 ≤ 7293034 by omega)⟩) (fun E ws9 hE H locs hP hD hS q T0 hT0 hq => False.elim hE) (fun v9 ws9 h9 H locs hP hD hS => ?_)
  obtain ⟨wc', o', kz, rfl, rfl, h9⟩ := h9
  rcases h9 with ⟨rfl, hq0, ho, hW2, hI2⟩ | ⟨rfl, hq0, hW2⟩
  · show W _ _ _ _ _ _ _ _ _ _ _ _ _ _ _ (F0 m9 1227 ls [.int (iI (0))])
    refine lv_istore (lv' := [(5, .int (iI (0))), (0, .ref b), (1, .ref cx), (2, .ref (A 26)), (3, .ref ao), (4, .int (iI (i)))]) hx hb d_L_law_1227 hl (by decide) rfl (fun ls hl => ?_)
    refine lv_aload_n hx hb d_L_law_1229 rfl (lv_at hl 3 rfl) ?_
    refine lv_aload_n hx hb d_L_law_1230 rfl (lv_at hl 1 rfl) ?_
    refine lv_iload hx hb d_L_law_1231 (lv_at hl 5 rfl) ?_
    refine ri_iconst hx hb d_L_law_1233 ?_
    refine ri_iadd hx hb d_L_law_1234 ?_
    refine sc_ld hx hb hX hbl hS (by omega) hL3 d_L_law_1235 ?_
    refine lv_aload_n hx hb d_L_law_1236 rfl (lv_at hl 1 rfl) ?_
    refine lv_iload hx hb d_L_law_1237 (lv_at hl 5 rfl) ?_
    refine ri_iconst hx hb d_L_law_1239 ?_
    refine ri_iadd hx hb d_L_law_1240 ?_
    refine sc_ld hx hb hX hbl hS (by omega) hL3 d_L_law_1241 ?_
    replace hP := wl_Pp hP (pm_law wc' (ao, .inl (k 1, al 1 o')) (mWd k A v f))
    replace hD := wl_Dp hD (pm_law wc' (ao, .inl (k 1, al 1 o')) (mWd k A v f))
    refine wd_callC h0 hS (ex_runV (C := "LathePiecesModel") (As := [.int (iI (sx xs (i + 1))), .int (iI (sx xs (i + 2)))]) (rest := []) ⟨hx, hb, hml, hown, hG⟩ (q_copy hC A hI ((ao, .inl (k 1, al 1 o')) :: wc') (sx xs (i + 1)) (sx xs (i + 2)) (sx_rg _ _) (sx_rg _ _)) (cb_code (n := 2) hG g_839 g_3 g_836 rfl rfl (by decide +kernel) ⟨Nat.le_of_ble_eq_true rfl, Nat.le_of_ble_eq_true rfl⟩) (hG _ g_837) (hG _ g_838) (kd_V (kd_preW h0 hS hP hD) (kd_recv hK hP (q0 := 0) (ci := 6) rfl rfl rfl)) rfl rfl hl.1 rfl (lv_room (Nat.le_of_ble_eq_true rfl)) d_L_law_1242 ⟨(show cells + 2 + 0 ≤ 601024 by omega), (show slots + 12 + 0 ≤ 7293034 by omega)⟩) (fun E ws9 hE H locs hP hD hS q T0 hT0 hq => False.elim hE) (fun v9 ws9 h9 H locs hP hD hS => ?_)
    obtain ⟨rfl, rfl⟩ := h9.2 hq0
    show W _ _ _ _ _ _ _ _ _ _ _ _ _ _ _ (F0 m9 1245 ls [.int (iI (itF max (fun j => (((f 12) (65 * (sx xs (i + 1)) + j) - (f 12) (65 * (sx xs (i + 2)) + j)).natAbs : Int)) 0 0 (min ((f 10) (sx xs (i + 1))).toNat ((f 10) (sx xs (i + 2))).toNat + 1)))])
    refine lv_istore (lv' := [(6, .int (iI (itF max (fun j => (((f 12) (65 * (sx xs (i + 1)) + j) - (f 12) (65 * (sx xs (i + 2)) + j)).natAbs : Int)) 0 0 (min ((f 10) (sx xs (i + 1))).toNat ((f 10) (sx xs (i + 2))).toNat + 1)))), (5, .int (iI (0))), (0, .ref b), (1, .ref cx), (2, .ref (A 26)), (3, .ref ao), (4, .int (iI (i)))]) hx hb d_L_law_1245 hl (by decide) rfl (fun ls hl => ?_)
    refine lv_aload_n hx hb d_L_law_1247 rfl (lv_at hl 4 rfl) ?_
    refine rd_call (ex_runV (C := "LathePiecesModel") (As := []) (rest := []) ⟨hx, hb, hml, hown, hG⟩ (q_thrown hC A (vS v 0 0) f ((ao, .inl (k 1, al 1 o')) :: wc')) (cb_code (n := 0) hG g_709 g_3 g_706 rfl rfl (by decide +kernel) ⟨Nat.le_of_ble_eq_true rfl, Nat.le_of_ble_eq_true rfl⟩) (hG _ g_707) (hG _ g_708) (kd_V (kd_pre h0 hS hP) (kd_recv hK hP (q0 := 0) (ci := 6) rfl rfl rfl)) rfl rfl hl.1 rfl (lv_room (Nat.le_of_ble_eq_true rfl)) d_L_law_1248 ⟨(show cells + 2 + 0 + 0 ≤ 601024 by omega), (show slots + 12 + 0 + 0 ≤ 7293034 by omega)⟩) (fun v9 h9 => ?_)
    subst h9
    show W _ _ _ _ _ _ _ _ _ _ _ _ _ _ _ (F0 m9 1251 ls [.int (iI (0))])
    refine lv_iload hx hb d_L_law_1251 (lv_at hl 1 rfl) ?_
    refine ri_icmp_eq (tgt := 1258) hx hb d_L_law_1253 (by decide) (by decide) (by decide) (fun _ => ?_) (fun c1253 => absurd rfl c1253)
    refine lv_iload hx hb d_L_law_1258 (lv_at hl 1 rfl) ?_
    refine ri_if_ne (tgt := 1275) hx hb d_L_law_1260 (by decide) (by decide) (fun c1260 => absurd rfl c1260) (fun _ => ?_)
    refine lv_aload_n hx hb d_L_law_1263 rfl (lv_at hl 5 rfl) ?_
    refine ri_iconst hx hb d_L_law_1264 ?_
    replace hP := wl_Pp hP (pm_lf (mWd k A (vS v 0 0) f) (ao, .inl (k 1, al 1 o')) wc')
    replace hD := wl_Dp hD (pm_lf (mWd k A (vS v 0 0) f) (ao, .inl (k 1, al 1 o')) wc')
    refine ra_lald hx hb hK hP 0 rfl (by omega) (by omega) d_L_law_1265 ?_
    refine tp_l (y := jJ (tw (itF max (fun j => (((f 12) (65 * (sx xs (i + 1)) + j) - (f 12) (65 * (sx xs (i + 2)) + j)).natAbs : Int)) 0 0 (min ((f 10) (sx xs (i + 1))).toNat ((f 10) (sx xs (i + 2))).toNat + 1)))) (congrArg jJ ho) ?_
    refine lv_iload hx hb d_L_law_1266 (lv_at hl 0 rfl) ?_
    refine ri_i2lw hx hb d_L_law_1268 ?_
    refine lc_same (tgt := 1275) hx hb d_L_law_1269 d_L_law_1270 (by decide) ?_
    refine lv_goto (tgt := 1941) hx hb d_L_law_1275 (by decide) ?_
    replace hP := wl_Pp hP (pm_lb (mWd k A (vS v 0 0) f) (ao, .inl (k 1, al 1 o')) wc')
    replace hD := wl_Dp hD (pm_lb (mWd k A (vS v 0 0) f) (ao, .inl (k 1, al 1 o')) wc')
    refine W.widen (k := cells + 9) (n := slots + 167) (by omega) (by omega) ?_
    exact kk (vS v 0 0) f wc' o' H locs ls (Cst.code hW2 0) (Iv.code hI2 0) hP hD hS (lv_sub hl [2, 3, 4, 5, 6] rfl)
  · show W _ _ _ _ _ _ _ _ _ _ _ _ _ _ _ (F0 m9 1227 ls [.int (iI (1))])
    refine lv_istore (lv' := [(5, .int (iI (1))), (0, .ref b), (1, .ref cx), (2, .ref (A 26)), (3, .ref ao), (4, .int (iI (i)))]) hx hb d_L_law_1227 hl (by decide) rfl (fun ls hl => ?_)
    refine lv_aload_n hx hb d_L_law_1229 rfl (lv_at hl 3 rfl) ?_
    refine lv_aload_n hx hb d_L_law_1230 rfl (lv_at hl 1 rfl) ?_
    refine lv_iload hx hb d_L_law_1231 (lv_at hl 5 rfl) ?_
    refine ri_iconst hx hb d_L_law_1233 ?_
    refine ri_iadd hx hb d_L_law_1234 ?_
    refine sc_ld hx hb hX hbl hS (by omega) hL3 d_L_law_1235 ?_
    refine lv_aload_n hx hb d_L_law_1236 rfl (lv_at hl 1 rfl) ?_
    refine lv_iload hx hb d_L_law_1237 (lv_at hl 5 rfl) ?_
    refine ri_iconst hx hb d_L_law_1239 ?_
    refine ri_iadd hx hb d_L_law_1240 ?_
    refine sc_ld hx hb hX hbl hS (by omega) hL3 d_L_law_1241 ?_
    replace hP := wl_Pp hP (pm_law wc' (ao, .inl (k 1, al 1 o')) (mWd k A v f))
    replace hD := wl_Dp hD (pm_law wc' (ao, .inl (k 1, al 1 o')) (mWd k A v f))
    refine wd_callC h0 hS (ex_runV (C := "LathePiecesModel") (As := [.int (iI (sx xs (i + 1))), .int (iI (sx xs (i + 2)))]) (rest := []) ⟨hx, hb, hml, hown, hG⟩ (q_copy hC A hI ((ao, .inl (k 1, al 1 o')) :: wc') (sx xs (i + 1)) (sx xs (i + 2)) (sx_rg _ _) (sx_rg _ _)) (cb_code (n := 2) hG g_839 g_3 g_836 rfl rfl (by decide +kernel) ⟨Nat.le_of_ble_eq_true rfl, Nat.le_of_ble_eq_true rfl⟩) (hG _ g_837) (hG _ g_838) (kd_V (kd_preW h0 hS hP hD) (kd_recv hK hP (q0 := 0) (ci := 6) rfl rfl rfl)) rfl rfl hl.1 rfl (lv_room (Nat.le_of_ble_eq_true rfl)) d_L_law_1242 ⟨(show cells + 2 + 0 ≤ 601024 by omega), (show slots + 12 + 0 ≤ 7293034 by omega)⟩) (fun E ws9 hE H locs hP hD hS q T0 hT0 hq => False.elim hE) (fun v9 ws9 h9 H locs hP hD hS => ?_)
    obtain ⟨rfl, rfl⟩ := h9.1 hq0
    show W _ _ _ _ _ _ _ _ _ _ _ _ _ _ _ (F0 m9 1245 ls [.int (iI (0))])
    refine lv_istore (lv' := [(6, .int (iI (0))), (5, .int (iI (1))), (0, .ref b), (1, .ref cx), (2, .ref (A 26)), (3, .ref ao), (4, .int (iI (i)))]) hx hb d_L_law_1245 hl (by decide) rfl (fun ls hl => ?_)
    refine lv_aload_n hx hb d_L_law_1247 rfl (lv_at hl 4 rfl) ?_
    refine rd_call (ex_runV (C := "LathePiecesModel") (As := []) (rest := []) ⟨hx, hb, hml, hown, hG⟩ (q_thrown hC A (vS v 0 1) f ((ao, .inl (k 1, al 1 o')) :: wc')) (cb_code (n := 0) hG g_709 g_3 g_706 rfl rfl (by decide +kernel) ⟨Nat.le_of_ble_eq_true rfl, Nat.le_of_ble_eq_true rfl⟩) (hG _ g_707) (hG _ g_708) (kd_V (kd_pre h0 hS hP) (kd_recv hK hP (q0 := 0) (ci := 6) rfl rfl rfl)) rfl rfl hl.1 rfl (lv_room (Nat.le_of_ble_eq_true rfl)) d_L_law_1248 ⟨(show cells + 2 + 0 + 0 ≤ 601024 by omega), (show slots + 12 + 0 + 0 ≤ 7293034 by omega)⟩) (fun v9 h9 => ?_)
    subst h9
    show W _ _ _ _ _ _ _ _ _ _ _ _ _ _ _ (F0 m9 1251 ls [.int (iI (1))])
    refine lv_iload hx hb d_L_law_1251 (lv_at hl 1 rfl) ?_
    refine ri_icmp_eq (tgt := 1258) hx hb d_L_law_1253 (by decide) (by decide) (by decide) (fun _ => ?_) (fun c1253 => absurd rfl c1253)
    refine lv_iload hx hb d_L_law_1258 (lv_at hl 1 rfl) ?_
    refine ri_if_ne (tgt := 1275) hx hb d_L_law_1260 (by decide) (by decide) (fun _ => ?_) (fun c1260 => absurd c1260 (by decide))
    refine lv_goto (tgt := 1941) hx hb d_L_law_1275 (by decide) ?_
    replace hP := wl_Pp hP (pm_law (mWd k A (vS v 0 1) f) (ao, .inl (k 1, al 1 o')) wc')
    replace hD := wl_Dp hD (pm_law (mWd k A (vS v 0 1) f) (ao, .inl (k 1, al 1 o')) wc')
    refine W.widen (k := cells + 9) (n := slots + 167) (by omega) (by omega) ?_
    exact kk (vS v 0 1) f wc' o' H locs ls (Cst.code hW2 1) (Iv.code hI 1) hP hD hS (lv_sub hl [2, 3, 4, 5, 6] rfl)
set_option maxHeartbeats 4000000 in
set_option maxRecDepth 100000 in
theorem t_ring {p9 : Program} {l : Launch} {e9 : Env} {s : State} {m9 : MethodId} {below9 : List Frame} {meth9 : Method} {c9 : Code} {Q9 : State → Prop} {b L : Nat} {xs : Nat → Int32} {D : va_G} {k : Nat → ClassId} (C0 : LwC p9 l s m9 c9 b L xs D k) {cx : Nat} {A : Nat → Nat} {ao : Nat} {i : Int} {cells slots : Nat} (hi : 0 ≤ i ∧ i + 5 < L) (hc : cells + 9 ≤ 601024) (hs : slots + 167 ≤ 7293034) (kk : LwK p9 l e9 s m9 below9 meth9 c9 b D k cx A ao i (cells + 9) (slots + 167) Q9) {v : Nat → Int} {f : Nat → Int → Int} {wc : va_W} {o9 : Int → Int} {H : Heap} {locs : List Loc} {ls : Array Slot} (hI : Iv v f) (hW : Cst k cx v f wc) (hP : va_P D classes (wc ++ ((ao, .inl (k 1, al 1 o9)) :: mWd k A v f)) H) (hD : va_D (aL s) (wc ++ ((ao, .inl (k 1, al 1 o9)) :: mWd k A v f))) (hS : va_S (aL s) s.heap H locs) (hl : lv_has ls 8 [(0, .ref b), (1, .ref cx), (2, .ref (A 26)), (3, .ref ao), (4, .int (iI (i)))]) : W p9 l e9 room_1 s m9 #[Value.ref b] below9 meth9 c9 H locs cells slots Q9 (F0 m9 1278 ls []) := by
  obtain ⟨hx, hb, hml, hown, hG, hX, hbl, hL3, hC⟩ := id C0
  have h0 : La s s := ⟨State.WarmedH.refl s, Nat.le_refl _, fun _ _ => rfl⟩
  have hK := cx_K hC h0
  refine lv_aload_n hx hb d_L_law_1278 rfl (lv_at hl 1 rfl) ?_
  refine lv_aload_n hx hb d_L_law_1279 rfl (lv_at hl 3 rfl) ?_
  refine wd_callC h0 hS (ex_runS (As := [.ref cx, .ref ao]) (rest := []) ⟨hx, hb, hml, hown, hG⟩ (w_ring hC hI hW (mWd k A v f) ao o9 ) (cb_with (n := 2) hG g_494 g_0 g_492 rfl rfl (by decide +kernel) ⟨Nat.le_of_ble_eq_true rfl, Nat.le_of_ble_eq_true rfl⟩) (hG _ g_493) (kd_preW h0 hS hP hD) rfl rfl hl.1 rfl (lv_room (Nat.le_of_ble_eq_true rfl)) d_L_law_1280 ⟨(show cells + 4 ≤ 601024 by omega), (show slots + 42 ≤ 7293034 by omega)⟩) (fun E ws9 hE H locs hP hD hS q T0 hT0 hq => False.elim hE) (fun v9 ws9 h9 H locs hP hD hS => ?_)
  obtain ⟨wc', o', kz, rfl, rfl, h9⟩ := h9
  rcases h9 with ⟨rfl, hq0, ho, hW2, hI2⟩ | ⟨rfl, hq0, hW2⟩
  · show W _ _ _ _ _ _ _ _ _ _ _ _ _ _ _ (F0 m9 1283 ls [.int (iI (0))])
    refine lv_istore (lv' := [(5, .int (iI (0))), (0, .ref b), (1, .ref cx), (2, .ref (A 26)), (3, .ref ao), (4, .int (iI (i)))]) hx hb d_L_law_1283 hl (by decide) rfl (fun ls hl => ?_)
    refine lv_aload_n hx hb d_L_law_1285 rfl (lv_at hl 3 rfl) ?_
    replace hP := wl_Pp hP (pm_law wc' (ao, .inl (k 1, al 1 o')) (mWd k A v f))
    replace hD := wl_Dp hD (pm_law wc' (ao, .inl (k 1, al 1 o')) (mWd k A v f))
    refine wd_callC h0 hS (ex_runV (C := "LathePiecesModel") (As := []) (rest := []) ⟨hx, hb, hml, hown, hG⟩ (q_ring hC A hI ((ao, .inl (k 1, al 1 o')) :: wc') ) (cb_code (n := 0) hG g_843 g_3 g_840 rfl rfl (by decide +kernel) ⟨Nat.le_of_ble_eq_true rfl, Nat.le_of_ble_eq_true rfl⟩) (hG _ g_841) (hG _ g_842) (kd_V (kd_preW h0 hS hP hD) (kd_recv hK hP (q0 := 0) (ci := 6) rfl rfl rfl)) rfl rfl hl.1 rfl (lv_room (Nat.le_of_ble_eq_true rfl)) d_L_law_1286 ⟨(show cells + 4 + 0 ≤ 601024 by omega), (show slots + 42 + 0 ≤ 7293034 by omega)⟩) (fun E ws9 hE H locs hP hD hS q T0 hT0 hq => False.elim hE) (fun v9 ws9 h9 H locs hP hD hS => ?_)
    obtain ⟨rfl, rfl⟩ := h9.2 hq0
    show W _ _ _ _ _ _ _ _ _ _ _ _ _ _ _ (F0 m9 1289 ls [.int (iI ((v 17)))])
    refine lv_istore (lv' := [(6, .int (iI ((v 17)))), (5, .int (iI (0))), (0, .ref b), (1, .ref cx), (2, .ref (A 26)), (3, .ref ao), (4, .int (iI (i)))]) hx hb d_L_law_1289 hl (by decide) rfl (fun ls hl => ?_)
    refine lv_aload_n hx hb d_L_law_1291 rfl (lv_at hl 4 rfl) ?_
    refine rd_call (ex_runV (C := "LathePiecesModel") (As := []) (rest := []) ⟨hx, hb, hml, hown, hG⟩ (q_thrown hC A (vS (vS v 0 0) 17 (v 17 + 1)) f ((ao, .inl (k 1, al 1 o')) :: wc')) (cb_code (n := 0) hG g_709 g_3 g_706 rfl rfl (by decide +kernel) ⟨Nat.le_of_ble_eq_true rfl, Nat.le_of_ble_eq_true rfl⟩) (hG _ g_707) (hG _ g_708) (kd_V (kd_pre h0 hS hP) (kd_recv hK hP (q0 := 0) (ci := 6) rfl rfl rfl)) rfl rfl hl.1 rfl (lv_room (Nat.le_of_ble_eq_true rfl)) d_L_law_1292 ⟨(show cells + 4 + 0 + 0 ≤ 601024 by omega), (show slots + 42 + 0 + 0 ≤ 7293034 by omega)⟩) (fun v9 h9 => ?_)
    subst h9
    show W _ _ _ _ _ _ _ _ _ _ _ _ _ _ _ (F0 m9 1295 ls [.int (iI (0))])
    refine lv_iload hx hb d_L_law_1295 (lv_at hl 1 rfl) ?_
    refine ri_icmp_eq (tgt := 1302) hx hb d_L_law_1297 (by decide) (by decide) (by decide) (fun _ => ?_) (fun c1297 => absurd rfl c1297)
    refine lv_iload hx hb d_L_law_1302 (lv_at hl 1 rfl) ?_
    refine ri_if_ne (tgt := 1319) hx hb d_L_law_1304 (by decide) (by decide) (fun c1304 => absurd rfl c1304) (fun _ => ?_)
    refine lv_aload_n hx hb d_L_law_1307 rfl (lv_at hl 5 rfl) ?_
    refine ri_iconst hx hb d_L_law_1308 ?_
    replace hP := wl_Pp hP (pm_lf (mWd k A (vS (vS v 0 0) 17 (v 17 + 1)) f) (ao, .inl (k 1, al 1 o')) wc')
    replace hD := wl_Dp hD (pm_lf (mWd k A (vS (vS v 0 0) 17 (v 17 + 1)) f) (ao, .inl (k 1, al 1 o')) wc')
    refine ra_lald hx hb hK hP 0 rfl (by omega) (by omega) d_L_law_1309 ?_
    refine tp_l (y := jJ (tw ((v 17)))) (congrArg jJ ho) ?_
    refine lv_iload hx hb d_L_law_1310 (lv_at hl 0 rfl) ?_
    refine ri_i2lw hx hb d_L_law_1312 ?_
    refine lc_same (tgt := 1319) hx hb d_L_law_1313 d_L_law_1314 (by decide) ?_
    refine lv_goto (tgt := 1941) hx hb d_L_law_1319 (by decide) ?_
    replace hP := wl_Pp hP (pm_lb (mWd k A (vS (vS v 0 0) 17 (v 17 + 1)) f) (ao, .inl (k 1, al 1 o')) wc')
    replace hD := wl_Dp hD (pm_lb (mWd k A (vS (vS v 0 0) 17 (v 17 + 1)) f) (ao, .inl (k 1, al 1 o')) wc')
    refine W.widen (k := cells + 9) (n := slots + 167) (by omega) (by omega) ?_
    exact kk (vS (vS v 0 0) 17 (v 17 + 1)) f wc' o' H locs ls hW2 hI2 hP hD hS (lv_sub hl [2, 3, 4, 5, 6] rfl)
  · show W _ _ _ _ _ _ _ _ _ _ _ _ _ _ _ (F0 m9 1283 ls [.int (iI (1))])
    refine lv_istore (lv' := [(5, .int (iI (1))), (0, .ref b), (1, .ref cx), (2, .ref (A 26)), (3, .ref ao), (4, .int (iI (i)))]) hx hb d_L_law_1283 hl (by decide) rfl (fun ls hl => ?_)
    refine lv_aload_n hx hb d_L_law_1285 rfl (lv_at hl 3 rfl) ?_
    replace hP := wl_Pp hP (pm_law wc' (ao, .inl (k 1, al 1 o')) (mWd k A v f))
    replace hD := wl_Dp hD (pm_law wc' (ao, .inl (k 1, al 1 o')) (mWd k A v f))
    refine wd_callC h0 hS (ex_runV (C := "LathePiecesModel") (As := []) (rest := []) ⟨hx, hb, hml, hown, hG⟩ (q_ring hC A hI ((ao, .inl (k 1, al 1 o')) :: wc') ) (cb_code (n := 0) hG g_843 g_3 g_840 rfl rfl (by decide +kernel) ⟨Nat.le_of_ble_eq_true rfl, Nat.le_of_ble_eq_true rfl⟩) (hG _ g_841) (hG _ g_842) (kd_V (kd_preW h0 hS hP hD) (kd_recv hK hP (q0 := 0) (ci := 6) rfl rfl rfl)) rfl rfl hl.1 rfl (lv_room (Nat.le_of_ble_eq_true rfl)) d_L_law_1286 ⟨(show cells + 4 + 0 ≤ 601024 by omega), (show slots + 42 + 0 ≤ 7293034 by omega)⟩) (fun E ws9 hE H locs hP hD hS q T0 hT0 hq => False.elim hE) (fun v9 ws9 h9 H locs hP hD hS => ?_)
    obtain ⟨rfl, rfl⟩ := h9.1 hq0
    show W _ _ _ _ _ _ _ _ _ _ _ _ _ _ _ (F0 m9 1289 ls [.int (iI (0))])
    refine lv_istore (lv' := [(6, .int (iI (0))), (5, .int (iI (1))), (0, .ref b), (1, .ref cx), (2, .ref (A 26)), (3, .ref ao), (4, .int (iI (i)))]) hx hb d_L_law_1289 hl (by decide) rfl (fun ls hl => ?_)
    refine lv_aload_n hx hb d_L_law_1291 rfl (lv_at hl 4 rfl) ?_
    refine rd_call (ex_runV (C := "LathePiecesModel") (As := []) (rest := []) ⟨hx, hb, hml, hown, hG⟩ (q_thrown hC A (vS v 0 1) f ((ao, .inl (k 1, al 1 o')) :: wc')) (cb_code (n := 0) hG g_709 g_3 g_706 rfl rfl (by decide +kernel) ⟨Nat.le_of_ble_eq_true rfl, Nat.le_of_ble_eq_true rfl⟩) (hG _ g_707) (hG _ g_708) (kd_V (kd_pre h0 hS hP) (kd_recv hK hP (q0 := 0) (ci := 6) rfl rfl rfl)) rfl rfl hl.1 rfl (lv_room (Nat.le_of_ble_eq_true rfl)) d_L_law_1292 ⟨(show cells + 4 + 0 + 0 ≤ 601024 by omega), (show slots + 42 + 0 + 0 ≤ 7293034 by omega)⟩) (fun v9 h9 => ?_)
    subst h9
    show W _ _ _ _ _ _ _ _ _ _ _ _ _ _ _ (F0 m9 1295 ls [.int (iI (1))])
    refine lv_iload hx hb d_L_law_1295 (lv_at hl 1 rfl) ?_
    refine ri_icmp_eq (tgt := 1302) hx hb d_L_law_1297 (by decide) (by decide) (by decide) (fun _ => ?_) (fun c1297 => absurd rfl c1297)
    refine lv_iload hx hb d_L_law_1302 (lv_at hl 1 rfl) ?_
    refine ri_if_ne (tgt := 1319) hx hb d_L_law_1304 (by decide) (by decide) (fun _ => ?_) (fun c1304 => absurd c1304 (by decide))
    refine lv_goto (tgt := 1941) hx hb d_L_law_1319 (by decide) ?_
    replace hP := wl_Pp hP (pm_law (mWd k A (vS v 0 1) f) (ao, .inl (k 1, al 1 o')) wc')
    replace hD := wl_Dp hD (pm_law (mWd k A (vS v 0 1) f) (ao, .inl (k 1, al 1 o')) wc')
    refine W.widen (k := cells + 9) (n := slots + 167) (by omega) (by omega) ?_
    exact kk (vS v 0 1) f wc' o' H locs ls (Cst.code hW2 1) (Iv.code hI 1) hP hD hS (lv_sub hl [2, 3, 4, 5, 6] rfl)
set_option maxHeartbeats 4000000 in
set_option maxRecDepth 100000 in
theorem t_wedge {p9 : Program} {l : Launch} {e9 : Env} {s : State} {m9 : MethodId} {below9 : List Frame} {meth9 : Method} {c9 : Code} {Q9 : State → Prop} {b L : Nat} {xs : Nat → Int32} {D : va_G} {k : Nat → ClassId} (C0 : LwC p9 l s m9 c9 b L xs D k) {cx : Nat} {A : Nat → Nat} {ao : Nat} {i : Int} {cells slots : Nat} (hi : 0 ≤ i ∧ i + 5 < L) (hc : cells + 9 ≤ 601024) (hs : slots + 167 ≤ 7293034) (kk : LwK p9 l e9 s m9 below9 meth9 c9 b D k cx A ao i (cells + 9) (slots + 167) Q9) {v : Nat → Int} {f : Nat → Int → Int} {wc : va_W} {o9 : Int → Int} {H : Heap} {locs : List Loc} {ls : Array Slot} (hI : Iv v f) (hW : Cst k cx v f wc) (hP : va_P D classes (wc ++ ((ao, .inl (k 1, al 1 o9)) :: mWd k A v f)) H) (hD : va_D (aL s) (wc ++ ((ao, .inl (k 1, al 1 o9)) :: mWd k A v f))) (hS : va_S (aL s) s.heap H locs) (hl : lv_has ls 8 [(0, .ref b), (1, .ref cx), (2, .ref (A 26)), (3, .ref ao), (4, .int (iI (i)))]) : W p9 l e9 room_1 s m9 #[Value.ref b] below9 meth9 c9 H locs cells slots Q9 (F0 m9 1322 ls []) := by
  obtain ⟨hx, hb, hml, hown, hG, hX, hbl, hL3, hC⟩ := id C0
  have h0 : La s s := ⟨State.WarmedH.refl s, Nat.le_refl _, fun _ _ => rfl⟩
  have hK := cx_K hC h0
  refine lv_aload_n hx hb d_L_law_1322 rfl (lv_at hl 1 rfl) ?_
  refine lv_aload_n hx hb d_L_law_1323 rfl (lv_at hl 0 rfl) ?_
  refine lv_iload hx hb d_L_law_1324 (lv_at hl 4 rfl) ?_
  refine ri_iconst hx hb d_L_law_1326 ?_
  refine ri_iadd hx hb d_L_law_1327 ?_
  refine sc_ld hx hb hX hbl hS (by omega) hL3 d_L_law_1328 ?_
  refine lv_aload_n hx hb d_L_law_1329 rfl (lv_at hl 0 rfl) ?_
  refine lv_iload hx hb d_L_law_1330 (lv_at hl 4 rfl) ?_
  refine ri_iconst hx hb d_L_law_1332 ?_
  refine ri_iadd hx hb d_L_law_1333 ?_
  refine sc_ld hx hb hX hbl hS (by omega) hL3 d_L_law_1334 ?_
  refine lv_aload_n hx hb d_L_law_1335 rfl (lv_at hl 0 rfl) ?_
  refine lv_iload hx hb d_L_law_1336 (lv_at hl 4 rfl) ?_
  refine ri_iconst hx hb d_L_law_1338 ?_
  refine ri_iadd hx hb d_L_law_1339 ?_
  refine sc_ld hx hb hX hbl hS (by omega) hL3 d_L_law_1340 ?_
  refine lv_aload_n hx hb d_L_law_1341 rfl (lv_at hl 3 rfl) ?_
  refine wd_callC h0 hS (ex_runS (As := [.ref cx, .int (iI (sx xs (i + 1))), .int (iI (sx xs (i + 2))), .int (iI (sx xs (i + 3))), .ref ao]) (rest := []) ⟨hx, hb, hml, hown, hG⟩ (w_wedge hC hI hW (mWd k A v f) ao o9 (sx xs (i + 1)) (sx xs (i + 2)) (sx xs (i + 3)) (sx_rg _ _) (sx_rg _ _) (sx_rg _ _)) (cb_with (n := 5) hG g_523 g_0 g_521 rfl rfl (by decide +kernel) ⟨Nat.le_of_ble_eq_true rfl, Nat.le_of_ble_eq_true rfl⟩) (hG _ g_522) (kd_preW h0 hS hP hD) rfl rfl hl.1 rfl (lv_room (Nat.le_of_ble_eq_true rfl)) d_L_law_1342 ⟨(show cells + 4 ≤ 601024 by omega), (show slots + 24 ≤ 7293034 by omega)⟩) (fun E ws9 hE H locs hP hD hS q T0 hT0 hq => False.elim hE) (fun v9 ws9 h9 H locs hP hD hS => ?_)
  obtain ⟨wc', o', kz, rfl, rfl, h9⟩ := h9
  rcases h9 with ⟨rfl, hq0, ho, hW2, hI2⟩ | ⟨rfl, hq0, hW2⟩ | ⟨rfl, hq0, hW2⟩ | ⟨rfl, hq0, hW2⟩
  · show W _ _ _ _ _ _ _ _ _ _ _ _ _ _ _ (F0 m9 1345 ls [.int (iI (0))])
    refine lv_istore (lv' := [(5, .int (iI (0))), (0, .ref b), (1, .ref cx), (2, .ref (A 26)), (3, .ref ao), (4, .int (iI (i)))]) hx hb d_L_law_1345 hl (by decide) rfl (fun ls hl => ?_)
    refine lv_aload_n hx hb d_L_law_1347 rfl (lv_at hl 3 rfl) ?_
    refine lv_aload_n hx hb d_L_law_1348 rfl (lv_at hl 1 rfl) ?_
    refine lv_iload hx hb d_L_law_1349 (lv_at hl 5 rfl) ?_
    refine ri_iconst hx hb d_L_law_1351 ?_
    refine ri_iadd hx hb d_L_law_1352 ?_
    refine sc_ld hx hb hX hbl hS (by omega) hL3 d_L_law_1353 ?_
    refine lv_aload_n hx hb d_L_law_1354 rfl (lv_at hl 1 rfl) ?_
    refine lv_iload hx hb d_L_law_1355 (lv_at hl 5 rfl) ?_
    refine ri_iconst hx hb d_L_law_1357 ?_
    refine ri_iadd hx hb d_L_law_1358 ?_
    refine sc_ld hx hb hX hbl hS (by omega) hL3 d_L_law_1359 ?_
    refine lv_aload_n hx hb d_L_law_1360 rfl (lv_at hl 1 rfl) ?_
    refine lv_iload hx hb d_L_law_1361 (lv_at hl 5 rfl) ?_
    refine ri_iconst hx hb d_L_law_1363 ?_
    refine ri_iadd hx hb d_L_law_1364 ?_
    refine sc_ld hx hb hX hbl hS (by omega) hL3 d_L_law_1365 ?_
    replace hP := wl_Pp hP (pm_law wc' (ao, .inl (k 1, al 1 o')) (mWd k A v f))
    replace hD := wl_Dp hD (pm_law wc' (ao, .inl (k 1, al 1 o')) (mWd k A v f))
    refine wd_callC h0 hS (ex_runV (C := "LathePiecesModel") (As := [.int (iI (sx xs (i + 1))), .int (iI (sx xs (i + 2))), .int (iI (sx xs (i + 3)))]) (rest := []) ⟨hx, hb, hml, hown, hG⟩ (q_wedge hC A hI ((ao, .inl (k 1, al 1 o')) :: wc') (sx xs (i + 1)) (sx xs (i + 2)) (sx xs (i + 3)) (sx_rg _ _) (sx_rg _ _) (sx_rg _ _)) (cb_code (n := 3) hG g_847 g_3 g_844 rfl rfl (by decide +kernel) ⟨Nat.le_of_ble_eq_true rfl, Nat.le_of_ble_eq_true rfl⟩) (hG _ g_845) (hG _ g_846) (kd_V (kd_preW h0 hS hP hD) (kd_recv hK hP (q0 := 0) (ci := 6) rfl rfl rfl)) rfl rfl hl.1 rfl (lv_room (Nat.le_of_ble_eq_true rfl)) d_L_law_1366 ⟨(show cells + 4 + 0 ≤ 601024 by omega), (show slots + 24 + 0 ≤ 7293034 by omega)⟩) (fun E ws9 hE H locs hP hD hS q T0 hT0 hq => False.elim hE) (fun v9 ws9 h9 H locs hP hD hS => ?_)
    obtain ⟨rfl, rfl⟩ := h9.2.2.2 hq0
    show W _ _ _ _ _ _ _ _ _ _ _ _ _ _ _ (F0 m9 1369 ls [.int (iI ((f 18) (sx xs (i + 1)) + 1))])
    refine lv_istore (lv' := [(6, .int (iI ((f 18) (sx xs (i + 1)) + 1))), (5, .int (iI (0))), (0, .ref b), (1, .ref cx), (2, .ref (A 26)), (3, .ref ao), (4, .int (iI (i)))]) hx hb d_L_law_1369 hl (by decide) rfl (fun ls hl => ?_)
    refine lv_aload_n hx hb d_L_law_1371 rfl (lv_at hl 4 rfl) ?_
    refine rd_call (ex_runV (C := "LathePiecesModel") (As := []) (rest := []) ⟨hx, hb, hml, hown, hG⟩ (q_thrown hC A (vS v 0 0) (fS (fS (fS f 18 (zU (f 18) (sx xs (i + 1)) (f 18 (sx xs (i + 1)) + 1))) 19 (zU (f 19) (16 * (sx xs (i + 1)) + f 18 (sx xs (i + 1))) (sx xs (i + 2)))) 20 (zU (f 20) (16 * (sx xs (i + 1)) + f 18 (sx xs (i + 1))) (sx xs (i + 3)))) ((ao, .inl (k 1, al 1 o')) :: wc')) (cb_code (n := 0) hG g_709 g_3 g_706 rfl rfl (by decide +kernel) ⟨Nat.le_of_ble_eq_true rfl, Nat.le_of_ble_eq_true rfl⟩) (hG _ g_707) (hG _ g_708) (kd_V (kd_pre h0 hS hP) (kd_recv hK hP (q0 := 0) (ci := 6) rfl rfl rfl)) rfl rfl hl.1 rfl (lv_room (Nat.le_of_ble_eq_true rfl)) d_L_law_1372 ⟨(show cells + 4 + 0 + 0 ≤ 601024 by omega), (show slots + 24 + 0 + 0 ≤ 7293034 by omega)⟩) (fun v9 h9 => ?_)
    subst h9
    show W _ _ _ _ _ _ _ _ _ _ _ _ _ _ _ (F0 m9 1375 ls [.int (iI (0))])
    refine lv_iload hx hb d_L_law_1375 (lv_at hl 1 rfl) ?_
    refine ri_icmp_eq (tgt := 1382) hx hb d_L_law_1377 (by decide) (by decide) (by decide) (fun _ => ?_) (fun c1377 => absurd rfl c1377)
    refine lv_iload hx hb d_L_law_1382 (lv_at hl 1 rfl) ?_
    refine ri_if_ne (tgt := 1399) hx hb d_L_law_1384 (by decide) (by decide) (fun c1384 => absurd rfl c1384) (fun _ => ?_)
    refine lv_aload_n hx hb d_L_law_1387 rfl (lv_at hl 5 rfl) ?_
    refine ri_iconst hx hb d_L_law_1388 ?_
    replace hP := wl_Pp hP (pm_lf (mWd k A (vS v 0 0) (fS (fS (fS f 18 (zU (f 18) (sx xs (i + 1)) (f 18 (sx xs (i + 1)) + 1))) 19 (zU (f 19) (16 * (sx xs (i + 1)) + f 18 (sx xs (i + 1))) (sx xs (i + 2)))) 20 (zU (f 20) (16 * (sx xs (i + 1)) + f 18 (sx xs (i + 1))) (sx xs (i + 3))))) (ao, .inl (k 1, al 1 o')) wc')
    replace hD := wl_Dp hD (pm_lf (mWd k A (vS v 0 0) (fS (fS (fS f 18 (zU (f 18) (sx xs (i + 1)) (f 18 (sx xs (i + 1)) + 1))) 19 (zU (f 19) (16 * (sx xs (i + 1)) + f 18 (sx xs (i + 1))) (sx xs (i + 2)))) 20 (zU (f 20) (16 * (sx xs (i + 1)) + f 18 (sx xs (i + 1))) (sx xs (i + 3))))) (ao, .inl (k 1, al 1 o')) wc')
    refine ra_lald hx hb hK hP 0 rfl (by omega) (by omega) d_L_law_1389 ?_
    refine tp_l (y := jJ (tw ((f 18) (sx xs (i + 1)) + 1))) (congrArg jJ ho) ?_
    refine lv_iload hx hb d_L_law_1390 (lv_at hl 0 rfl) ?_
    refine ri_i2lw hx hb d_L_law_1392 ?_
    refine lc_same (tgt := 1399) hx hb d_L_law_1393 d_L_law_1394 (by decide) ?_
    refine lv_goto (tgt := 1941) hx hb d_L_law_1399 (by decide) ?_
    replace hP := wl_Pp hP (pm_lb (mWd k A (vS v 0 0) (fS (fS (fS f 18 (zU (f 18) (sx xs (i + 1)) (f 18 (sx xs (i + 1)) + 1))) 19 (zU (f 19) (16 * (sx xs (i + 1)) + f 18 (sx xs (i + 1))) (sx xs (i + 2)))) 20 (zU (f 20) (16 * (sx xs (i + 1)) + f 18 (sx xs (i + 1))) (sx xs (i + 3))))) (ao, .inl (k 1, al 1 o')) wc')
    replace hD := wl_Dp hD (pm_lb (mWd k A (vS v 0 0) (fS (fS (fS f 18 (zU (f 18) (sx xs (i + 1)) (f 18 (sx xs (i + 1)) + 1))) 19 (zU (f 19) (16 * (sx xs (i + 1)) + f 18 (sx xs (i + 1))) (sx xs (i + 2)))) 20 (zU (f 20) (16 * (sx xs (i + 1)) + f 18 (sx xs (i + 1))) (sx xs (i + 3))))) (ao, .inl (k 1, al 1 o')) wc')
    refine W.widen (k := cells + 9) (n := slots + 167) (by omega) (by omega) ?_
    exact kk (vS v 0 0) (fS (fS (fS f 18 (zU (f 18) (sx xs (i + 1)) (f 18 (sx xs (i + 1)) + 1))) 19 (zU (f 19) (16 * (sx xs (i + 1)) + f 18 (sx xs (i + 1))) (sx xs (i + 2)))) 20 (zU (f 20) (16 * (sx xs (i + 1)) + f 18 (sx xs (i + 1))) (sx xs (i + 3)))) wc' o' H locs ls hW2 hI2 hP hD hS (lv_sub hl [2, 3, 4, 5, 6] rfl)
  · show W _ _ _ _ _ _ _ _ _ _ _ _ _ _ _ (F0 m9 1345 ls [.int (iI (1))])
    refine lv_istore (lv' := [(5, .int (iI (1))), (0, .ref b), (1, .ref cx), (2, .ref (A 26)), (3, .ref ao), (4, .int (iI (i)))]) hx hb d_L_law_1345 hl (by decide) rfl (fun ls hl => ?_)
    refine lv_aload_n hx hb d_L_law_1347 rfl (lv_at hl 3 rfl) ?_
    refine lv_aload_n hx hb d_L_law_1348 rfl (lv_at hl 1 rfl) ?_
    refine lv_iload hx hb d_L_law_1349 (lv_at hl 5 rfl) ?_
    refine ri_iconst hx hb d_L_law_1351 ?_
    refine ri_iadd hx hb d_L_law_1352 ?_
    refine sc_ld hx hb hX hbl hS (by omega) hL3 d_L_law_1353 ?_
    refine lv_aload_n hx hb d_L_law_1354 rfl (lv_at hl 1 rfl) ?_
    refine lv_iload hx hb d_L_law_1355 (lv_at hl 5 rfl) ?_
    refine ri_iconst hx hb d_L_law_1357 ?_
    refine ri_iadd hx hb d_L_law_1358 ?_
    refine sc_ld hx hb hX hbl hS (by omega) hL3 d_L_law_1359 ?_
    refine lv_aload_n hx hb d_L_law_1360 rfl (lv_at hl 1 rfl) ?_
    refine lv_iload hx hb d_L_law_1361 (lv_at hl 5 rfl) ?_
    refine ri_iconst hx hb d_L_law_1363 ?_
    refine ri_iadd hx hb d_L_law_1364 ?_
    refine sc_ld hx hb hX hbl hS (by omega) hL3 d_L_law_1365 ?_
    replace hP := wl_Pp hP (pm_law wc' (ao, .inl (k 1, al 1 o')) (mWd k A v f))
    replace hD := wl_Dp hD (pm_law wc' (ao, .inl (k 1, al 1 o')) (mWd k A v f))
    refine wd_callC h0 hS (ex_runV (C := "LathePiecesModel") (As := [.int (iI (sx xs (i + 1))), .int (iI (sx xs (i + 2))), .int (iI (sx xs (i + 3)))]) (rest := []) ⟨hx, hb, hml, hown, hG⟩ (q_wedge hC A hI ((ao, .inl (k 1, al 1 o')) :: wc') (sx xs (i + 1)) (sx xs (i + 2)) (sx xs (i + 3)) (sx_rg _ _) (sx_rg _ _) (sx_rg _ _)) (cb_code (n := 3) hG g_847 g_3 g_844 rfl rfl (by decide +kernel) ⟨Nat.le_of_ble_eq_true rfl, Nat.le_of_ble_eq_true rfl⟩) (hG _ g_845) (hG _ g_846) (kd_V (kd_preW h0 hS hP hD) (kd_recv hK hP (q0 := 0) (ci := 6) rfl rfl rfl)) rfl rfl hl.1 rfl (lv_room (Nat.le_of_ble_eq_true rfl)) d_L_law_1366 ⟨(show cells + 4 + 0 ≤ 601024 by omega), (show slots + 24 + 0 ≤ 7293034 by omega)⟩) (fun E ws9 hE H locs hP hD hS q T0 hT0 hq => False.elim hE) (fun v9 ws9 h9 H locs hP hD hS => ?_)
    obtain ⟨rfl, rfl⟩ := h9.1 hq0
    show W _ _ _ _ _ _ _ _ _ _ _ _ _ _ _ (F0 m9 1369 ls [.int (iI (0))])
    refine lv_istore (lv' := [(6, .int (iI (0))), (5, .int (iI (1))), (0, .ref b), (1, .ref cx), (2, .ref (A 26)), (3, .ref ao), (4, .int (iI (i)))]) hx hb d_L_law_1369 hl (by decide) rfl (fun ls hl => ?_)
    refine lv_aload_n hx hb d_L_law_1371 rfl (lv_at hl 4 rfl) ?_
    refine rd_call (ex_runV (C := "LathePiecesModel") (As := []) (rest := []) ⟨hx, hb, hml, hown, hG⟩ (q_thrown hC A (vS v 0 1) f ((ao, .inl (k 1, al 1 o')) :: wc')) (cb_code (n := 0) hG g_709 g_3 g_706 rfl rfl (by decide +kernel) ⟨Nat.le_of_ble_eq_true rfl, Nat.le_of_ble_eq_true rfl⟩) (hG _ g_707) (hG _ g_708) (kd_V (kd_pre h0 hS hP) (kd_recv hK hP (q0 := 0) (ci := 6) rfl rfl rfl)) rfl rfl hl.1 rfl (lv_room (Nat.le_of_ble_eq_true rfl)) d_L_law_1372 ⟨(show cells + 4 + 0 + 0 ≤ 601024 by omega), (show slots + 24 + 0 + 0 ≤ 7293034 by omega)⟩) (fun v9 h9 => ?_)
    subst h9
    show W _ _ _ _ _ _ _ _ _ _ _ _ _ _ _ (F0 m9 1375 ls [.int (iI (1))])
    refine lv_iload hx hb d_L_law_1375 (lv_at hl 1 rfl) ?_
    refine ri_icmp_eq (tgt := 1382) hx hb d_L_law_1377 (by decide) (by decide) (by decide) (fun _ => ?_) (fun c1377 => absurd rfl c1377)
    refine lv_iload hx hb d_L_law_1382 (lv_at hl 1 rfl) ?_
    refine ri_if_ne (tgt := 1399) hx hb d_L_law_1384 (by decide) (by decide) (fun _ => ?_) (fun c1384 => absurd c1384 (by decide))
    refine lv_goto (tgt := 1941) hx hb d_L_law_1399 (by decide) ?_
    replace hP := wl_Pp hP (pm_law (mWd k A (vS v 0 1) f) (ao, .inl (k 1, al 1 o')) wc')
    replace hD := wl_Dp hD (pm_law (mWd k A (vS v 0 1) f) (ao, .inl (k 1, al 1 o')) wc')
    refine W.widen (k := cells + 9) (n := slots + 167) (by omega) (by omega) ?_
    exact kk (vS v 0 1) f wc' o' H locs ls (Cst.code hW2 1) (Iv.code hI 1) hP hD hS (lv_sub hl [2, 3, 4, 5, 6] rfl)
  · show W _ _ _ _ _ _ _ _ _ _ _ _ _ _ _ (F0 m9 1345 ls [.int (iI (2))])
    refine lv_istore (lv' := [(5, .int (iI (2))), (0, .ref b), (1, .ref cx), (2, .ref (A 26)), (3, .ref ao), (4, .int (iI (i)))]) hx hb d_L_law_1345 hl (by decide) rfl (fun ls hl => ?_)
    refine lv_aload_n hx hb d_L_law_1347 rfl (lv_at hl 3 rfl) ?_
    refine lv_aload_n hx hb d_L_law_1348 rfl (lv_at hl 1 rfl) ?_
    refine lv_iload hx hb d_L_law_1349 (lv_at hl 5 rfl) ?_
    refine ri_iconst hx hb d_L_law_1351 ?_
    refine ri_iadd hx hb d_L_law_1352 ?_
    refine sc_ld hx hb hX hbl hS (by omega) hL3 d_L_law_1353 ?_
    refine lv_aload_n hx hb d_L_law_1354 rfl (lv_at hl 1 rfl) ?_
    refine lv_iload hx hb d_L_law_1355 (lv_at hl 5 rfl) ?_
    refine ri_iconst hx hb d_L_law_1357 ?_
    refine ri_iadd hx hb d_L_law_1358 ?_
    refine sc_ld hx hb hX hbl hS (by omega) hL3 d_L_law_1359 ?_
    refine lv_aload_n hx hb d_L_law_1360 rfl (lv_at hl 1 rfl) ?_
    refine lv_iload hx hb d_L_law_1361 (lv_at hl 5 rfl) ?_
    refine ri_iconst hx hb d_L_law_1363 ?_
    refine ri_iadd hx hb d_L_law_1364 ?_
    refine sc_ld hx hb hX hbl hS (by omega) hL3 d_L_law_1365 ?_
    replace hP := wl_Pp hP (pm_law wc' (ao, .inl (k 1, al 1 o')) (mWd k A v f))
    replace hD := wl_Dp hD (pm_law wc' (ao, .inl (k 1, al 1 o')) (mWd k A v f))
    refine wd_callC h0 hS (ex_runV (C := "LathePiecesModel") (As := [.int (iI (sx xs (i + 1))), .int (iI (sx xs (i + 2))), .int (iI (sx xs (i + 3)))]) (rest := []) ⟨hx, hb, hml, hown, hG⟩ (q_wedge hC A hI ((ao, .inl (k 1, al 1 o')) :: wc') (sx xs (i + 1)) (sx xs (i + 2)) (sx xs (i + 3)) (sx_rg _ _) (sx_rg _ _) (sx_rg _ _)) (cb_code (n := 3) hG g_847 g_3 g_844 rfl rfl (by decide +kernel) ⟨Nat.le_of_ble_eq_true rfl, Nat.le_of_ble_eq_true rfl⟩) (hG _ g_845) (hG _ g_846) (kd_V (kd_preW h0 hS hP hD) (kd_recv hK hP (q0 := 0) (ci := 6) rfl rfl rfl)) rfl rfl hl.1 rfl (lv_room (Nat.le_of_ble_eq_true rfl)) d_L_law_1366 ⟨(show cells + 4 + 0 ≤ 601024 by omega), (show slots + 24 + 0 ≤ 7293034 by omega)⟩) (fun E ws9 hE H locs hP hD hS q T0 hT0 hq => False.elim hE) (fun v9 ws9 h9 H locs hP hD hS => ?_)
    obtain ⟨rfl, rfl⟩ := h9.2.1 hq0
    show W _ _ _ _ _ _ _ _ _ _ _ _ _ _ _ (F0 m9 1369 ls [.int (iI (0))])
    refine lv_istore (lv' := [(6, .int (iI (0))), (5, .int (iI (2))), (0, .ref b), (1, .ref cx), (2, .ref (A 26)), (3, .ref ao), (4, .int (iI (i)))]) hx hb d_L_law_1369 hl (by decide) rfl (fun ls hl => ?_)
    refine lv_aload_n hx hb d_L_law_1371 rfl (lv_at hl 4 rfl) ?_
    refine rd_call (ex_runV (C := "LathePiecesModel") (As := []) (rest := []) ⟨hx, hb, hml, hown, hG⟩ (q_thrown hC A (vS v 0 2) f ((ao, .inl (k 1, al 1 o')) :: wc')) (cb_code (n := 0) hG g_709 g_3 g_706 rfl rfl (by decide +kernel) ⟨Nat.le_of_ble_eq_true rfl, Nat.le_of_ble_eq_true rfl⟩) (hG _ g_707) (hG _ g_708) (kd_V (kd_pre h0 hS hP) (kd_recv hK hP (q0 := 0) (ci := 6) rfl rfl rfl)) rfl rfl hl.1 rfl (lv_room (Nat.le_of_ble_eq_true rfl)) d_L_law_1372 ⟨(show cells + 4 + 0 + 0 ≤ 601024 by omega), (show slots + 24 + 0 + 0 ≤ 7293034 by omega)⟩) (fun v9 h9 => ?_)
    subst h9
    show W _ _ _ _ _ _ _ _ _ _ _ _ _ _ _ (F0 m9 1375 ls [.int (iI (2))])
    refine lv_iload hx hb d_L_law_1375 (lv_at hl 1 rfl) ?_
    refine ri_icmp_eq (tgt := 1382) hx hb d_L_law_1377 (by decide) (by decide) (by decide) (fun _ => ?_) (fun c1377 => absurd rfl c1377)
    refine lv_iload hx hb d_L_law_1382 (lv_at hl 1 rfl) ?_
    refine ri_if_ne (tgt := 1399) hx hb d_L_law_1384 (by decide) (by decide) (fun _ => ?_) (fun c1384 => absurd c1384 (by decide))
    refine lv_goto (tgt := 1941) hx hb d_L_law_1399 (by decide) ?_
    replace hP := wl_Pp hP (pm_law (mWd k A (vS v 0 2) f) (ao, .inl (k 1, al 1 o')) wc')
    replace hD := wl_Dp hD (pm_law (mWd k A (vS v 0 2) f) (ao, .inl (k 1, al 1 o')) wc')
    refine W.widen (k := cells + 9) (n := slots + 167) (by omega) (by omega) ?_
    exact kk (vS v 0 2) f wc' o' H locs ls (Cst.code hW2 2) (Iv.code hI 2) hP hD hS (lv_sub hl [2, 3, 4, 5, 6] rfl)
  · show W _ _ _ _ _ _ _ _ _ _ _ _ _ _ _ (F0 m9 1345 ls [.int (iI (3))])
    refine lv_istore (lv' := [(5, .int (iI (3))), (0, .ref b), (1, .ref cx), (2, .ref (A 26)), (3, .ref ao), (4, .int (iI (i)))]) hx hb d_L_law_1345 hl (by decide) rfl (fun ls hl => ?_)
    refine lv_aload_n hx hb d_L_law_1347 rfl (lv_at hl 3 rfl) ?_
    refine lv_aload_n hx hb d_L_law_1348 rfl (lv_at hl 1 rfl) ?_
    refine lv_iload hx hb d_L_law_1349 (lv_at hl 5 rfl) ?_
    refine ri_iconst hx hb d_L_law_1351 ?_
    refine ri_iadd hx hb d_L_law_1352 ?_
    refine sc_ld hx hb hX hbl hS (by omega) hL3 d_L_law_1353 ?_
    refine lv_aload_n hx hb d_L_law_1354 rfl (lv_at hl 1 rfl) ?_
    refine lv_iload hx hb d_L_law_1355 (lv_at hl 5 rfl) ?_
    refine ri_iconst hx hb d_L_law_1357 ?_
    refine ri_iadd hx hb d_L_law_1358 ?_
    refine sc_ld hx hb hX hbl hS (by omega) hL3 d_L_law_1359 ?_
    refine lv_aload_n hx hb d_L_law_1360 rfl (lv_at hl 1 rfl) ?_
    refine lv_iload hx hb d_L_law_1361 (lv_at hl 5 rfl) ?_
    refine ri_iconst hx hb d_L_law_1363 ?_
    refine ri_iadd hx hb d_L_law_1364 ?_
    refine sc_ld hx hb hX hbl hS (by omega) hL3 d_L_law_1365 ?_
    replace hP := wl_Pp hP (pm_law wc' (ao, .inl (k 1, al 1 o')) (mWd k A v f))
    replace hD := wl_Dp hD (pm_law wc' (ao, .inl (k 1, al 1 o')) (mWd k A v f))
    refine wd_callC h0 hS (ex_runV (C := "LathePiecesModel") (As := [.int (iI (sx xs (i + 1))), .int (iI (sx xs (i + 2))), .int (iI (sx xs (i + 3)))]) (rest := []) ⟨hx, hb, hml, hown, hG⟩ (q_wedge hC A hI ((ao, .inl (k 1, al 1 o')) :: wc') (sx xs (i + 1)) (sx xs (i + 2)) (sx xs (i + 3)) (sx_rg _ _) (sx_rg _ _) (sx_rg _ _)) (cb_code (n := 3) hG g_847 g_3 g_844 rfl rfl (by decide +kernel) ⟨Nat.le_of_ble_eq_true rfl, Nat.le_of_ble_eq_true rfl⟩) (hG _ g_845) (hG _ g_846) (kd_V (kd_preW h0 hS hP hD) (kd_recv hK hP (q0 := 0) (ci := 6) rfl rfl rfl)) rfl rfl hl.1 rfl (lv_room (Nat.le_of_ble_eq_true rfl)) d_L_law_1366 ⟨(show cells + 4 + 0 ≤ 601024 by omega), (show slots + 24 + 0 ≤ 7293034 by omega)⟩) (fun E ws9 hE H locs hP hD hS q T0 hT0 hq => False.elim hE) (fun v9 ws9 h9 H locs hP hD hS => ?_)
    obtain ⟨rfl, rfl⟩ := h9.2.2.1 hq0
    show W _ _ _ _ _ _ _ _ _ _ _ _ _ _ _ (F0 m9 1369 ls [.int (iI (0))])
    refine lv_istore (lv' := [(6, .int (iI (0))), (5, .int (iI (3))), (0, .ref b), (1, .ref cx), (2, .ref (A 26)), (3, .ref ao), (4, .int (iI (i)))]) hx hb d_L_law_1369 hl (by decide) rfl (fun ls hl => ?_)
    refine lv_aload_n hx hb d_L_law_1371 rfl (lv_at hl 4 rfl) ?_
    refine rd_call (ex_runV (C := "LathePiecesModel") (As := []) (rest := []) ⟨hx, hb, hml, hown, hG⟩ (q_thrown hC A (vS v 0 3) f ((ao, .inl (k 1, al 1 o')) :: wc')) (cb_code (n := 0) hG g_709 g_3 g_706 rfl rfl (by decide +kernel) ⟨Nat.le_of_ble_eq_true rfl, Nat.le_of_ble_eq_true rfl⟩) (hG _ g_707) (hG _ g_708) (kd_V (kd_pre h0 hS hP) (kd_recv hK hP (q0 := 0) (ci := 6) rfl rfl rfl)) rfl rfl hl.1 rfl (lv_room (Nat.le_of_ble_eq_true rfl)) d_L_law_1372 ⟨(show cells + 4 + 0 + 0 ≤ 601024 by omega), (show slots + 24 + 0 + 0 ≤ 7293034 by omega)⟩) (fun v9 h9 => ?_)
    subst h9
    show W _ _ _ _ _ _ _ _ _ _ _ _ _ _ _ (F0 m9 1375 ls [.int (iI (3))])
    refine lv_iload hx hb d_L_law_1375 (lv_at hl 1 rfl) ?_
    refine ri_icmp_eq (tgt := 1382) hx hb d_L_law_1377 (by decide) (by decide) (by decide) (fun _ => ?_) (fun c1377 => absurd rfl c1377)
    refine lv_iload hx hb d_L_law_1382 (lv_at hl 1 rfl) ?_
    refine ri_if_ne (tgt := 1399) hx hb d_L_law_1384 (by decide) (by decide) (fun _ => ?_) (fun c1384 => absurd c1384 (by decide))
    refine lv_goto (tgt := 1941) hx hb d_L_law_1399 (by decide) ?_
    replace hP := wl_Pp hP (pm_law (mWd k A (vS v 0 3) f) (ao, .inl (k 1, al 1 o')) wc')
    replace hD := wl_Dp hD (pm_law (mWd k A (vS v 0 3) f) (ao, .inl (k 1, al 1 o')) wc')
    refine W.widen (k := cells + 9) (n := slots + 167) (by omega) (by omega) ?_
    exact kk (vS v 0 3) f wc' o' H locs ls (Cst.code hW2 3) (Iv.code hI 3) hP hD hS (lv_sub hl [2, 3, 4, 5, 6] rfl)
set_option maxHeartbeats 4000000 in
set_option maxRecDepth 100000 in
theorem t_mitre {p9 : Program} {l : Launch} {e9 : Env} {s : State} {m9 : MethodId} {below9 : List Frame} {meth9 : Method} {c9 : Code} {Q9 : State → Prop} {b L : Nat} {xs : Nat → Int32} {D : va_G} {k : Nat → ClassId} (C0 : LwC p9 l s m9 c9 b L xs D k) {cx : Nat} {A : Nat → Nat} {ao : Nat} {i : Int} {cells slots : Nat} (hi : 0 ≤ i ∧ i + 5 < L) (hc : cells + 9 ≤ 601024) (hs : slots + 167 ≤ 7293034) (kk : LwK p9 l e9 s m9 below9 meth9 c9 b D k cx A ao i (cells + 9) (slots + 167) Q9) {v : Nat → Int} {f : Nat → Int → Int} {wc : va_W} {o9 : Int → Int} {H : Heap} {locs : List Loc} {ls : Array Slot} (hI : Iv v f) (hW : Cst k cx v f wc) (hP : va_P D classes (wc ++ ((ao, .inl (k 1, al 1 o9)) :: mWd k A v f)) H) (hD : va_D (aL s) (wc ++ ((ao, .inl (k 1, al 1 o9)) :: mWd k A v f))) (hS : va_S (aL s) s.heap H locs) (hl : lv_has ls 8 [(0, .ref b), (1, .ref cx), (2, .ref (A 26)), (3, .ref ao), (4, .int (iI (i)))]) : W p9 l e9 room_1 s m9 #[Value.ref b] below9 meth9 c9 H locs cells slots Q9 (F0 m9 1402 ls []) := by
  obtain ⟨hx, hb, hml, hown, hG, hX, hbl, hL3, hC⟩ := id C0
  have h0 : La s s := ⟨State.WarmedH.refl s, Nat.le_refl _, fun _ _ => rfl⟩
  have hK := cx_K hC h0
  refine lv_aload_n hx hb d_L_law_1402 rfl (lv_at hl 1 rfl) ?_
  refine lv_aload_n hx hb d_L_law_1403 rfl (lv_at hl 0 rfl) ?_
  refine lv_iload hx hb d_L_law_1404 (lv_at hl 4 rfl) ?_
  refine ri_iconst hx hb d_L_law_1406 ?_
  refine ri_iadd hx hb d_L_law_1407 ?_
  refine sc_ld hx hb hX hbl hS (by omega) hL3 d_L_law_1408 ?_
  refine lv_aload_n hx hb d_L_law_1409 rfl (lv_at hl 0 rfl) ?_
  refine lv_iload hx hb d_L_law_1410 (lv_at hl 4 rfl) ?_
  refine ri_iconst hx hb d_L_law_1412 ?_
  refine ri_iadd hx hb d_L_law_1413 ?_
  refine sc_ld hx hb hX hbl hS (by omega) hL3 d_L_law_1414 ?_
  refine lv_aload_n hx hb d_L_law_1415 rfl (lv_at hl 0 rfl) ?_
  refine lv_iload hx hb d_L_law_1416 (lv_at hl 4 rfl) ?_
  refine ri_iconst hx hb d_L_law_1418 ?_
  refine ri_iadd hx hb d_L_law_1419 ?_
  refine sc_ld hx hb hX hbl hS (by omega) hL3 d_L_law_1420 ?_
  refine lv_aload_n hx hb d_L_law_1421 rfl (lv_at hl 3 rfl) ?_
  refine wd_callC h0 hS (ex_runS (As := [.ref cx, .int (iI (sx xs (i + 1))), .int (iI (sx xs (i + 2))), .int (iI (sx xs (i + 3))), .ref ao]) (rest := []) ⟨hx, hb, hml, hown, hG⟩ (w_mitre hC hI hW (mWd k A v f) ao o9 (sx xs (i + 1)) (sx xs (i + 2)) (sx xs (i + 3)) (sx_rg _ _) (sx_rg _ _) (sx_rg _ _)) (cb_with (n := 5) hG g_540 g_0 g_538 rfl rfl (by decide +kernel) ⟨Nat.le_of_ble_eq_true rfl, Nat.le_of_ble_eq_true rfl⟩) (hG _ g_539) (kd_preW h0 hS hP hD) rfl rfl hl.1 rfl (lv_room (Nat.le_of_ble_eq_true rfl)) d_L_law_1422 ⟨(show cells + 3 ≤ 601024 by omega), (show slots + 18 ≤ 7293034 by omega)⟩) (fun E ws9 hE H locs hP hD hS q T0 hT0 hq => False.elim hE) (fun v9 ws9 h9 H locs hP hD hS => ?_)
  obtain ⟨wc', o', kz, rfl, rfl, h9⟩ := h9
  rcases h9 with ⟨rfl, hq0, ho, hW2, hI2⟩ | ⟨rfl, hq0, hW2⟩
  · show W _ _ _ _ _ _ _ _ _ _ _ _ _ _ _ (F0 m9 1425 ls [.int (iI (0))])
    refine lv_istore (lv' := [(5, .int (iI (0))), (0, .ref b), (1, .ref cx), (2, .ref (A 26)), (3, .ref ao), (4, .int (iI (i)))]) hx hb d_L_law_1425 hl (by decide) rfl (fun ls hl => ?_)
    refine lv_aload_n hx hb d_L_law_1427 rfl (lv_at hl 3 rfl) ?_
    refine lv_aload_n hx hb d_L_law_1428 rfl (lv_at hl 1 rfl) ?_
    refine lv_iload hx hb d_L_law_1429 (lv_at hl 5 rfl) ?_
    refine ri_iconst hx hb d_L_law_1431 ?_
    refine ri_iadd hx hb d_L_law_1432 ?_
    refine sc_ld hx hb hX hbl hS (by omega) hL3 d_L_law_1433 ?_
    refine lv_aload_n hx hb d_L_law_1434 rfl (lv_at hl 1 rfl) ?_
    refine lv_iload hx hb d_L_law_1435 (lv_at hl 5 rfl) ?_
    refine ri_iconst hx hb d_L_law_1437 ?_
    refine ri_iadd hx hb d_L_law_1438 ?_
    refine sc_ld hx hb hX hbl hS (by omega) hL3 d_L_law_1439 ?_
    refine lv_aload_n hx hb d_L_law_1440 rfl (lv_at hl 1 rfl) ?_
    refine lv_iload hx hb d_L_law_1441 (lv_at hl 5 rfl) ?_
    refine ri_iconst hx hb d_L_law_1443 ?_
    refine ri_iadd hx hb d_L_law_1444 ?_
    refine sc_ld hx hb hX hbl hS (by omega) hL3 d_L_law_1445 ?_
    replace hP := wl_Pp hP (pm_law wc' (ao, .inl (k 1, al 1 o')) (mWd k A v f))
    replace hD := wl_Dp hD (pm_law wc' (ao, .inl (k 1, al 1 o')) (mWd k A v f))
    refine wd_callC h0 hS (ex_runV (C := "LathePiecesModel") (As := [.int (iI (sx xs (i + 1))), .int (iI (sx xs (i + 2))), .int (iI (sx xs (i + 3)))]) (rest := []) ⟨hx, hb, hml, hown, hG⟩ (q_mitre hC A hI ((ao, .inl (k 1, al 1 o')) :: wc') (sx xs (i + 1)) (sx xs (i + 2)) (sx xs (i + 3)) (sx_rg _ _) (sx_rg _ _) (sx_rg _ _)) (cb_code (n := 3) hG g_852 g_3 g_849 rfl rfl (by decide +kernel) ⟨Nat.le_of_ble_eq_true rfl, Nat.le_of_ble_eq_true rfl⟩) (hG _ g_850) (hG _ g_851) (kd_V (kd_preW h0 hS hP hD) (kd_recv hK hP (q0 := 0) (ci := 6) rfl rfl rfl)) rfl rfl hl.1 rfl (lv_room (Nat.le_of_ble_eq_true rfl)) d_L_law_1446 ⟨(show cells + 3 + 0 ≤ 601024 by omega), (show slots + 18 + 0 ≤ 7293034 by omega)⟩) (fun E ws9 hE H locs hP hD hS q T0 hT0 hq => False.elim hE) (fun v9 ws9 h9 H locs hP hD hS => ?_)
    obtain ⟨rfl, rfl⟩ := h9.2 hq0
    show W _ _ _ _ _ _ _ _ _ _ _ _ _ _ _ (F0 m9 1449 ls [.long (jJ (frP ((f 19) (16 * (sx xs (i + 1)) + (sx xs (i + 2)))) (2 * (f 20) (16 * (sx xs (i + 1)) + (sx xs (i + 2)))) (sx xs (i + 3))))])
    refine lv_lstore (lv' := [(6, .long (jJ (frP ((f 19) (16 * (sx xs (i + 1)) + (sx xs (i + 2)))) (2 * (f 20) (16 * (sx xs (i + 1)) + (sx xs (i + 2)))) (sx xs (i + 3))))), (5, .int (iI (0))), (0, .ref b), (1, .ref cx), (2, .ref (A 26)), (3, .ref ao), (4, .int (iI (i)))]) hx hb d_L_law_1449 hl (by decide) rfl (fun ls hl => ?_)
    refine lv_aload_n hx hb d_L_law_1451 rfl (lv_at hl 4 rfl) ?_
    refine rd_call (ex_runV (C := "LathePiecesModel") (As := []) (rest := []) ⟨hx, hb, hml, hown, hG⟩ (q_thrown hC A (vS v 0 0) f ((ao, .inl (k 1, al 1 o')) :: wc')) (cb_code (n := 0) hG g_709 g_3 g_706 rfl rfl (by decide +kernel) ⟨Nat.le_of_ble_eq_true rfl, Nat.le_of_ble_eq_true rfl⟩) (hG _ g_707) (hG _ g_708) (kd_V (kd_pre h0 hS hP) (kd_recv hK hP (q0 := 0) (ci := 6) rfl rfl rfl)) rfl rfl hl.1 rfl (lv_room (Nat.le_of_ble_eq_true rfl)) d_L_law_1452 ⟨(show cells + 3 + 0 + 0 ≤ 601024 by omega), (show slots + 18 + 0 + 0 ≤ 7293034 by omega)⟩) (fun v9 h9 => ?_)
    subst h9
    show W _ _ _ _ _ _ _ _ _ _ _ _ _ _ _ (F0 m9 1455 ls [.int (iI (0))])
    refine lv_iload hx hb d_L_law_1455 (lv_at hl 1 rfl) ?_
    refine ri_icmp_eq (tgt := 1462) hx hb d_L_law_1457 (by decide) (by decide) (by decide) (fun _ => ?_) (fun c1457 => absurd rfl c1457)
    refine lv_iload hx hb d_L_law_1462 (lv_at hl 1 rfl) ?_
    refine ri_if_ne (tgt := 1478) hx hb d_L_law_1464 (by decide) (by decide) (fun c1464 => absurd rfl c1464) (fun _ => ?_)
    refine lv_aload_n hx hb d_L_law_1467 rfl (lv_at hl 5 rfl) ?_
    refine ri_iconst hx hb d_L_law_1468 ?_
    replace hP := wl_Pp hP (pm_lf (mWd k A (vS v 0 0) f) (ao, .inl (k 1, al 1 o')) wc')
    replace hD := wl_Dp hD (pm_lf (mWd k A (vS v 0 0) f) (ao, .inl (k 1, al 1 o')) wc')
    refine ra_lald hx hb hK hP 0 rfl (by omega) (by omega) d_L_law_1469 ?_
    refine tp_l (y := jJ (frP ((f 19) (16 * (sx xs (i + 1)) + (sx xs (i + 2)))) (2 * (f 20) (16 * (sx xs (i + 1)) + (sx xs (i + 2)))) (sx xs (i + 3)))) (congrArg jJ ho) ?_
    refine lv_lload hx hb d_L_law_1470 (lv_at hl 0 rfl) ?_
    refine lc_same (tgt := 1478) hx hb d_L_law_1472 d_L_law_1473 (by decide) ?_
    refine lv_goto (tgt := 1941) hx hb d_L_law_1478 (by decide) ?_
    replace hP := wl_Pp hP (pm_lb (mWd k A (vS v 0 0) f) (ao, .inl (k 1, al 1 o')) wc')
    replace hD := wl_Dp hD (pm_lb (mWd k A (vS v 0 0) f) (ao, .inl (k 1, al 1 o')) wc')
    refine W.widen (k := cells + 9) (n := slots + 167) (by omega) (by omega) ?_
    exact kk (vS v 0 0) f wc' o' H locs ls (Cst.code hW2 0) (Iv.code hI2 0) hP hD hS (lv_sub hl [2, 3, 4, 5, 6] rfl)
  · show W _ _ _ _ _ _ _ _ _ _ _ _ _ _ _ (F0 m9 1425 ls [.int (iI (1))])
    refine lv_istore (lv' := [(5, .int (iI (1))), (0, .ref b), (1, .ref cx), (2, .ref (A 26)), (3, .ref ao), (4, .int (iI (i)))]) hx hb d_L_law_1425 hl (by decide) rfl (fun ls hl => ?_)
    refine lv_aload_n hx hb d_L_law_1427 rfl (lv_at hl 3 rfl) ?_
    refine lv_aload_n hx hb d_L_law_1428 rfl (lv_at hl 1 rfl) ?_
    refine lv_iload hx hb d_L_law_1429 (lv_at hl 5 rfl) ?_
    refine ri_iconst hx hb d_L_law_1431 ?_
    refine ri_iadd hx hb d_L_law_1432 ?_
    refine sc_ld hx hb hX hbl hS (by omega) hL3 d_L_law_1433 ?_
    refine lv_aload_n hx hb d_L_law_1434 rfl (lv_at hl 1 rfl) ?_
    refine lv_iload hx hb d_L_law_1435 (lv_at hl 5 rfl) ?_
    refine ri_iconst hx hb d_L_law_1437 ?_
    refine ri_iadd hx hb d_L_law_1438 ?_
    refine sc_ld hx hb hX hbl hS (by omega) hL3 d_L_law_1439 ?_
    refine lv_aload_n hx hb d_L_law_1440 rfl (lv_at hl 1 rfl) ?_
    refine lv_iload hx hb d_L_law_1441 (lv_at hl 5 rfl) ?_
    refine ri_iconst hx hb d_L_law_1443 ?_
    refine ri_iadd hx hb d_L_law_1444 ?_
    refine sc_ld hx hb hX hbl hS (by omega) hL3 d_L_law_1445 ?_
    replace hP := wl_Pp hP (pm_law wc' (ao, .inl (k 1, al 1 o')) (mWd k A v f))
    replace hD := wl_Dp hD (pm_law wc' (ao, .inl (k 1, al 1 o')) (mWd k A v f))
    refine wd_callC h0 hS (ex_runV (C := "LathePiecesModel") (As := [.int (iI (sx xs (i + 1))), .int (iI (sx xs (i + 2))), .int (iI (sx xs (i + 3)))]) (rest := []) ⟨hx, hb, hml, hown, hG⟩ (q_mitre hC A hI ((ao, .inl (k 1, al 1 o')) :: wc') (sx xs (i + 1)) (sx xs (i + 2)) (sx xs (i + 3)) (sx_rg _ _) (sx_rg _ _) (sx_rg _ _)) (cb_code (n := 3) hG g_852 g_3 g_849 rfl rfl (by decide +kernel) ⟨Nat.le_of_ble_eq_true rfl, Nat.le_of_ble_eq_true rfl⟩) (hG _ g_850) (hG _ g_851) (kd_V (kd_preW h0 hS hP hD) (kd_recv hK hP (q0 := 0) (ci := 6) rfl rfl rfl)) rfl rfl hl.1 rfl (lv_room (Nat.le_of_ble_eq_true rfl)) d_L_law_1446 ⟨(show cells + 3 + 0 ≤ 601024 by omega), (show slots + 18 + 0 ≤ 7293034 by omega)⟩) (fun E ws9 hE H locs hP hD hS q T0 hT0 hq => False.elim hE) (fun v9 ws9 h9 H locs hP hD hS => ?_)
    obtain ⟨rfl, rfl⟩ := h9.1 hq0
    show W _ _ _ _ _ _ _ _ _ _ _ _ _ _ _ (F0 m9 1449 ls [.long (jJ (0))])
    refine lv_lstore (lv' := [(6, .long (jJ (0))), (5, .int (iI (1))), (0, .ref b), (1, .ref cx), (2, .ref (A 26)), (3, .ref ao), (4, .int (iI (i)))]) hx hb d_L_law_1449 hl (by decide) rfl (fun ls hl => ?_)
    refine lv_aload_n hx hb d_L_law_1451 rfl (lv_at hl 4 rfl) ?_
    refine rd_call (ex_runV (C := "LathePiecesModel") (As := []) (rest := []) ⟨hx, hb, hml, hown, hG⟩ (q_thrown hC A (vS v 0 1) f ((ao, .inl (k 1, al 1 o')) :: wc')) (cb_code (n := 0) hG g_709 g_3 g_706 rfl rfl (by decide +kernel) ⟨Nat.le_of_ble_eq_true rfl, Nat.le_of_ble_eq_true rfl⟩) (hG _ g_707) (hG _ g_708) (kd_V (kd_pre h0 hS hP) (kd_recv hK hP (q0 := 0) (ci := 6) rfl rfl rfl)) rfl rfl hl.1 rfl (lv_room (Nat.le_of_ble_eq_true rfl)) d_L_law_1452 ⟨(show cells + 3 + 0 + 0 ≤ 601024 by omega), (show slots + 18 + 0 + 0 ≤ 7293034 by omega)⟩) (fun v9 h9 => ?_)
    subst h9
    show W _ _ _ _ _ _ _ _ _ _ _ _ _ _ _ (F0 m9 1455 ls [.int (iI (1))])
    refine lv_iload hx hb d_L_law_1455 (lv_at hl 1 rfl) ?_
    refine ri_icmp_eq (tgt := 1462) hx hb d_L_law_1457 (by decide) (by decide) (by decide) (fun _ => ?_) (fun c1457 => absurd rfl c1457)
    refine lv_iload hx hb d_L_law_1462 (lv_at hl 1 rfl) ?_
    refine ri_if_ne (tgt := 1478) hx hb d_L_law_1464 (by decide) (by decide) (fun _ => ?_) (fun c1464 => absurd c1464 (by decide))
    refine lv_goto (tgt := 1941) hx hb d_L_law_1478 (by decide) ?_
    replace hP := wl_Pp hP (pm_law (mWd k A (vS v 0 1) f) (ao, .inl (k 1, al 1 o')) wc')
    replace hD := wl_Dp hD (pm_law (mWd k A (vS v 0 1) f) (ao, .inl (k 1, al 1 o')) wc')
    refine W.widen (k := cells + 9) (n := slots + 167) (by omega) (by omega) ?_
    exact kk (vS v 0 1) f wc' o' H locs ls (Cst.code hW2 1) (Iv.code hI 1) hP hD hS (lv_sub hl [2, 3, 4, 5, 6] rfl)
set_option maxHeartbeats 4000000 in
set_option maxRecDepth 100000 in
theorem t_gap {p9 : Program} {l : Launch} {e9 : Env} {s : State} {m9 : MethodId} {below9 : List Frame} {meth9 : Method} {c9 : Code} {Q9 : State → Prop} {b L : Nat} {xs : Nat → Int32} {D : va_G} {k : Nat → ClassId} (C0 : LwC p9 l s m9 c9 b L xs D k) {cx : Nat} {A : Nat → Nat} {ao : Nat} {i : Int} {cells slots : Nat} (hi : 0 ≤ i ∧ i + 5 < L) (hc : cells + 9 ≤ 601024) (hs : slots + 167 ≤ 7293034) (kk : LwK p9 l e9 s m9 below9 meth9 c9 b D k cx A ao i (cells + 9) (slots + 167) Q9) {v : Nat → Int} {f : Nat → Int → Int} {wc : va_W} {o9 : Int → Int} {H : Heap} {locs : List Loc} {ls : Array Slot} (hI : Iv v f) (hW : Cst k cx v f wc) (hP : va_P D classes (wc ++ ((ao, .inl (k 1, al 1 o9)) :: mWd k A v f)) H) (hD : va_D (aL s) (wc ++ ((ao, .inl (k 1, al 1 o9)) :: mWd k A v f))) (hS : va_S (aL s) s.heap H locs) (hl : lv_has ls 8 [(0, .ref b), (1, .ref cx), (2, .ref (A 26)), (3, .ref ao), (4, .int (iI (i)))]) : W p9 l e9 room_1 s m9 #[Value.ref b] below9 meth9 c9 H locs cells slots Q9 (F0 m9 1481 ls []) := by
  obtain ⟨hx, hb, hml, hown, hG, hX, hbl, hL3, hC⟩ := id C0
  have h0 : La s s := ⟨State.WarmedH.refl s, Nat.le_refl _, fun _ _ => rfl⟩
  have hK := cx_K hC h0
  refine lv_aload_n hx hb d_L_law_1481 rfl (lv_at hl 1 rfl) ?_
  refine lv_aload_n hx hb d_L_law_1482 rfl (lv_at hl 0 rfl) ?_
  refine lv_iload hx hb d_L_law_1483 (lv_at hl 4 rfl) ?_
  refine ri_iconst hx hb d_L_law_1485 ?_
  refine ri_iadd hx hb d_L_law_1486 ?_
  refine sc_ld hx hb hX hbl hS (by omega) hL3 d_L_law_1487 ?_
  refine lv_aload_n hx hb d_L_law_1488 rfl (lv_at hl 0 rfl) ?_
  refine lv_iload hx hb d_L_law_1489 (lv_at hl 4 rfl) ?_
  refine ri_iconst hx hb d_L_law_1491 ?_
  refine ri_iadd hx hb d_L_law_1492 ?_
  refine sc_ld hx hb hX hbl hS (by omega) hL3 d_L_law_1493 ?_
  refine lv_aload_n hx hb d_L_law_1494 rfl (lv_at hl 3 rfl) ?_
  refine wd_callC h0 hS (ex_runS (As := [.ref cx, .int (iI (sx xs (i + 1))), .int (iI (sx xs (i + 2))), .ref ao]) (rest := []) ⟨hx, hb, hml, hown, hG⟩ (w_gap hC hI hW (mWd k A v f) ao o9 (sx xs (i + 1)) (sx xs (i + 2)) (sx_rg _ _) (sx_rg _ _)) (cb_with (n := 4) hG g_562 g_0 g_560 rfl rfl (by decide +kernel) ⟨Nat.le_of_ble_eq_true rfl, Nat.le_of_ble_eq_true rfl⟩) (hG _ g_561) (kd_preW h0 hS hP hD) rfl rfl hl.1 rfl (lv_room (Nat.le_of_ble_eq_true rfl)) d_L_law_1495 ⟨(show cells + 2 ≤ 601024 by omega), (show slots + 12 ≤ 7293034 by omega)⟩) (fun E ws9 hE H locs hP hD hS q T0 hT0 hq => False.elim hE) (fun v9 ws9 h9 H locs hP hD hS => ?_)
  obtain ⟨wc', o', kz, rfl, rfl, h9⟩ := h9
  rcases h9 with ⟨rfl, hq0, ho, hW2, hI2⟩ | ⟨rfl, hq0, hW2⟩
  · show W _ _ _ _ _ _ _ _ _ _ _ _ _ _ _ (F0 m9 1498 ls [.int (iI (0))])
    refine lv_istore (lv' := [(5, .int (iI (0))), (0, .ref b), (1, .ref cx), (2, .ref (A 26)), (3, .ref ao), (4, .int (iI (i)))]) hx hb d_L_law_1498 hl (by decide) rfl (fun ls hl => ?_)
    refine lv_aload_n hx hb d_L_law_1500 rfl (lv_at hl 3 rfl) ?_
    refine lv_aload_n hx hb d_L_law_1501 rfl (lv_at hl 1 rfl) ?_
    refine lv_iload hx hb d_L_law_1502 (lv_at hl 5 rfl) ?_
    refine ri_iconst hx hb d_L_law_1504 ?_
    refine ri_iadd hx hb d_L_law_1505 ?_
    refine sc_ld hx hb hX hbl hS (by omega) hL3 d_L_law_1506 ?_
    refine lv_aload_n hx hb d_L_law_1507 rfl (lv_at hl 1 rfl) ?_
    refine lv_iload hx hb d_L_law_1508 (lv_at hl 5 rfl) ?_
    refine ri_iconst hx hb d_L_law_1510 ?_
    refine ri_iadd hx hb d_L_law_1511 ?_
    refine sc_ld hx hb hX hbl hS (by omega) hL3 d_L_law_1512 ?_
    replace hP := wl_Pp hP (pm_law wc' (ao, .inl (k 1, al 1 o')) (mWd k A v f))
    replace hD := wl_Dp hD (pm_law wc' (ao, .inl (k 1, al 1 o')) (mWd k A v f))
    refine wd_callC h0 hS (ex_runV (C := "LathePiecesModel") (As := [.int (iI (sx xs (i + 1))), .int (iI (sx xs (i + 2)))]) (rest := []) ⟨hx, hb, hml, hown, hG⟩ (q_gap hC A hI ((ao, .inl (k 1, al 1 o')) :: wc') (sx xs (i + 1)) (sx xs (i + 2)) (sx_rg _ _) (sx_rg _ _)) (cb_code (n := 2) hG g_859 g_3 g_856 rfl rfl (by decide +kernel) ⟨Nat.le_of_ble_eq_true rfl, Nat.le_of_ble_eq_true rfl⟩) (hG _ g_857) (hG _ g_858) (kd_V (kd_preW h0 hS hP hD) (kd_recv hK hP (q0 := 0) (ci := 6) rfl rfl rfl)) rfl rfl hl.1 rfl (lv_room (Nat.le_of_ble_eq_true rfl)) d_L_law_1513 ⟨(show cells + 2 + 0 ≤ 601024 by omega), (show slots + 12 + 0 ≤ 7293034 by omega)⟩) (fun E ws9 hE H locs hP hD hS q T0 hT0 hq => False.elim hE) (fun v9 ws9 h9 H locs hP hD hS => ?_)
    obtain ⟨rfl, rfl⟩ := h9.2 hq0
    show W _ _ _ _ _ _ _ _ _ _ _ _ _ _ _ (F0 m9 1516 ls [.long (jJ (frP (9979200 - smF (fun j => (f 19) (16 * (sx xs (i + 1)) + j)) (fun j => (f 20) (16 * (sx xs (i + 1)) + j)) ((f 18) (sx xs (i + 1))).toNat) 27720 (sx xs (i + 2))))])
    refine lv_lstore (lv' := [(6, .long (jJ (frP (9979200 - smF (fun j => (f 19) (16 * (sx xs (i + 1)) + j)) (fun j => (f 20) (16 * (sx xs (i + 1)) + j)) ((f 18) (sx xs (i + 1))).toNat) 27720 (sx xs (i + 2))))), (5, .int (iI (0))), (0, .ref b), (1, .ref cx), (2, .ref (A 26)), (3, .ref ao), (4, .int (iI (i)))]) hx hb d_L_law_1516 hl (by decide) rfl (fun ls hl => ?_)
    refine lv_aload_n hx hb d_L_law_1518 rfl (lv_at hl 4 rfl) ?_
    refine rd_call (ex_runV (C := "LathePiecesModel") (As := []) (rest := []) ⟨hx, hb, hml, hown, hG⟩ (q_thrown hC A (vS v 0 0) f ((ao, .inl (k 1, al 1 o')) :: wc')) (cb_code (n := 0) hG g_709 g_3 g_706 rfl rfl (by decide +kernel) ⟨Nat.le_of_ble_eq_true rfl, Nat.le_of_ble_eq_true rfl⟩) (hG _ g_707) (hG _ g_708) (kd_V (kd_pre h0 hS hP) (kd_recv hK hP (q0 := 0) (ci := 6) rfl rfl rfl)) rfl rfl hl.1 rfl (lv_room (Nat.le_of_ble_eq_true rfl)) d_L_law_1519 ⟨(show cells + 2 + 0 + 0 ≤ 601024 by omega), (show slots + 12 + 0 + 0 ≤ 7293034 by omega)⟩) (fun v9 h9 => ?_)
    subst h9
    show W _ _ _ _ _ _ _ _ _ _ _ _ _ _ _ (F0 m9 1522 ls [.int (iI (0))])
    refine lv_iload hx hb d_L_law_1522 (lv_at hl 1 rfl) ?_
    refine ri_icmp_eq (tgt := 1529) hx hb d_L_law_1524 (by decide) (by decide) (by decide) (fun _ => ?_) (fun c1524 => absurd rfl c1524)
    refine lv_iload hx hb d_L_law_1529 (lv_at hl 1 rfl) ?_
    refine ri_if_ne (tgt := 1545) hx hb d_L_law_1531 (by decide) (by decide) (fun c1531 => absurd rfl c1531) (fun _ => ?_)
    refine lv_aload_n hx hb d_L_law_1534 rfl (lv_at hl 5 rfl) ?_
    refine ri_iconst hx hb d_L_law_1535 ?_
    replace hP := wl_Pp hP (pm_lf (mWd k A (vS v 0 0) f) (ao, .inl (k 1, al 1 o')) wc')
    replace hD := wl_Dp hD (pm_lf (mWd k A (vS v 0 0) f) (ao, .inl (k 1, al 1 o')) wc')
    refine ra_lald hx hb hK hP 0 rfl (by omega) (by omega) d_L_law_1536 ?_
    refine tp_l (y := jJ (frP (9979200 - smF (fun j => (f 19) (16 * (sx xs (i + 1)) + j)) (fun j => (f 20) (16 * (sx xs (i + 1)) + j)) ((f 18) (sx xs (i + 1))).toNat) 27720 (sx xs (i + 2)))) (congrArg jJ ho) ?_
    refine lv_lload hx hb d_L_law_1537 (lv_at hl 0 rfl) ?_
    refine lc_same (tgt := 1545) hx hb d_L_law_1539 d_L_law_1540 (by decide) ?_
    refine lv_goto (tgt := 1941) hx hb d_L_law_1545 (by decide) ?_
    replace hP := wl_Pp hP (pm_lb (mWd k A (vS v 0 0) f) (ao, .inl (k 1, al 1 o')) wc')
    replace hD := wl_Dp hD (pm_lb (mWd k A (vS v 0 0) f) (ao, .inl (k 1, al 1 o')) wc')
    refine W.widen (k := cells + 9) (n := slots + 167) (by omega) (by omega) ?_
    exact kk (vS v 0 0) f wc' o' H locs ls (Cst.code hW2 0) (Iv.code hI2 0) hP hD hS (lv_sub hl [2, 3, 4, 5, 6] rfl)
  · show W _ _ _ _ _ _ _ _ _ _ _ _ _ _ _ (F0 m9 1498 ls [.int (iI (1))])
    refine lv_istore (lv' := [(5, .int (iI (1))), (0, .ref b), (1, .ref cx), (2, .ref (A 26)), (3, .ref ao), (4, .int (iI (i)))]) hx hb d_L_law_1498 hl (by decide) rfl (fun ls hl => ?_)
    refine lv_aload_n hx hb d_L_law_1500 rfl (lv_at hl 3 rfl) ?_
    refine lv_aload_n hx hb d_L_law_1501 rfl (lv_at hl 1 rfl) ?_
    refine lv_iload hx hb d_L_law_1502 (lv_at hl 5 rfl) ?_
    refine ri_iconst hx hb d_L_law_1504 ?_
    refine ri_iadd hx hb d_L_law_1505 ?_
    refine sc_ld hx hb hX hbl hS (by omega) hL3 d_L_law_1506 ?_
    refine lv_aload_n hx hb d_L_law_1507 rfl (lv_at hl 1 rfl) ?_
    refine lv_iload hx hb d_L_law_1508 (lv_at hl 5 rfl) ?_
    refine ri_iconst hx hb d_L_law_1510 ?_
    refine ri_iadd hx hb d_L_law_1511 ?_
    refine sc_ld hx hb hX hbl hS (by omega) hL3 d_L_law_1512 ?_
    replace hP := wl_Pp hP (pm_law wc' (ao, .inl (k 1, al 1 o')) (mWd k A v f))
    replace hD := wl_Dp hD (pm_law wc' (ao, .inl (k 1, al 1 o')) (mWd k A v f))
    refine wd_callC h0 hS (ex_runV (C := "LathePiecesModel") (As := [.int (iI (sx xs (i + 1))), .int (iI (sx xs (i + 2)))]) (rest := []) ⟨hx, hb, hml, hown, hG⟩ (q_gap hC A hI ((ao, .inl (k 1, al 1 o')) :: wc') (sx xs (i + 1)) (sx xs (i + 2)) (sx_rg _ _) (sx_rg _ _)) (cb_code (n := 2) hG g_859 g_3 g_856 rfl rfl (by decide +kernel) ⟨Nat.le_of_ble_eq_true rfl, Nat.le_of_ble_eq_true rfl⟩) (hG _ g_857) (hG _ g_858) (kd_V (kd_preW h0 hS hP hD) (kd_recv hK hP (q0 := 0) (ci := 6) rfl rfl rfl)) rfl rfl hl.1 rfl (lv_room (Nat.le_of_ble_eq_true rfl)) d_L_law_1513 ⟨(show cells + 2 + 0 ≤ 601024 by omega), (show slots + 12 + 0 ≤ 7293034 by omega)⟩) (fun E ws9 hE H locs hP hD hS q T0 hT0 hq => False.elim hE) (fun v9 ws9 h9 H locs hP hD hS => ?_)
    obtain ⟨rfl, rfl⟩ := h9.1 hq0
    show W _ _ _ _ _ _ _ _ _ _ _ _ _ _ _ (F0 m9 1516 ls [.long (jJ (0))])
    refine lv_lstore (lv' := [(6, .long (jJ (0))), (5, .int (iI (1))), (0, .ref b), (1, .ref cx), (2, .ref (A 26)), (3, .ref ao), (4, .int (iI (i)))]) hx hb d_L_law_1516 hl (by decide) rfl (fun ls hl => ?_)
    refine lv_aload_n hx hb d_L_law_1518 rfl (lv_at hl 4 rfl) ?_
    refine rd_call (ex_runV (C := "LathePiecesModel") (As := []) (rest := []) ⟨hx, hb, hml, hown, hG⟩ (q_thrown hC A (vS v 0 1) f ((ao, .inl (k 1, al 1 o')) :: wc')) (cb_code (n := 0) hG g_709 g_3 g_706 rfl rfl (by decide +kernel) ⟨Nat.le_of_ble_eq_true rfl, Nat.le_of_ble_eq_true rfl⟩) (hG _ g_707) (hG _ g_708) (kd_V (kd_pre h0 hS hP) (kd_recv hK hP (q0 := 0) (ci := 6) rfl rfl rfl)) rfl rfl hl.1 rfl (lv_room (Nat.le_of_ble_eq_true rfl)) d_L_law_1519 ⟨(show cells + 2 + 0 + 0 ≤ 601024 by omega), (show slots + 12 + 0 + 0 ≤ 7293034 by omega)⟩) (fun v9 h9 => ?_)
    subst h9
    show W _ _ _ _ _ _ _ _ _ _ _ _ _ _ _ (F0 m9 1522 ls [.int (iI (1))])
    refine lv_iload hx hb d_L_law_1522 (lv_at hl 1 rfl) ?_
    refine ri_icmp_eq (tgt := 1529) hx hb d_L_law_1524 (by decide) (by decide) (by decide) (fun _ => ?_) (fun c1524 => absurd rfl c1524)
    refine lv_iload hx hb d_L_law_1529 (lv_at hl 1 rfl) ?_
    refine ri_if_ne (tgt := 1545) hx hb d_L_law_1531 (by decide) (by decide) (fun _ => ?_) (fun c1531 => absurd c1531 (by decide))
    refine lv_goto (tgt := 1941) hx hb d_L_law_1545 (by decide) ?_
    replace hP := wl_Pp hP (pm_law (mWd k A (vS v 0 1) f) (ao, .inl (k 1, al 1 o')) wc')
    replace hD := wl_Dp hD (pm_law (mWd k A (vS v 0 1) f) (ao, .inl (k 1, al 1 o')) wc')
    refine W.widen (k := cells + 9) (n := slots + 167) (by omega) (by omega) ?_
    exact kk (vS v 0 1) f wc' o' H locs ls (Cst.code hW2 1) (Iv.code hI 1) hP hD hS (lv_sub hl [2, 3, 4, 5, 6] rfl)
set_option maxHeartbeats 4000000 in
set_option maxRecDepth 100000 in
theorem t_closes {p9 : Program} {l : Launch} {e9 : Env} {s : State} {m9 : MethodId} {below9 : List Frame} {meth9 : Method} {c9 : Code} {Q9 : State → Prop} {b L : Nat} {xs : Nat → Int32} {D : va_G} {k : Nat → ClassId} (C0 : LwC p9 l s m9 c9 b L xs D k) {cx : Nat} {A : Nat → Nat} {ao : Nat} {i : Int} {cells slots : Nat} (hi : 0 ≤ i ∧ i + 5 < L) (hc : cells + 9 ≤ 601024) (hs : slots + 167 ≤ 7293034) (kk : LwK p9 l e9 s m9 below9 meth9 c9 b D k cx A ao i (cells + 9) (slots + 167) Q9) {v : Nat → Int} {f : Nat → Int → Int} {wc : va_W} {o9 : Int → Int} {H : Heap} {locs : List Loc} {ls : Array Slot} (hI : Iv v f) (hW : Cst k cx v f wc) (hP : va_P D classes (wc ++ ((ao, .inl (k 1, al 1 o9)) :: mWd k A v f)) H) (hD : va_D (aL s) (wc ++ ((ao, .inl (k 1, al 1 o9)) :: mWd k A v f))) (hS : va_S (aL s) s.heap H locs) (hl : lv_has ls 8 [(0, .ref b), (1, .ref cx), (2, .ref (A 26)), (3, .ref ao), (4, .int (iI (i)))]) : W p9 l e9 room_1 s m9 #[Value.ref b] below9 meth9 c9 H locs cells slots Q9 (F0 m9 1548 ls []) := by
  obtain ⟨hx, hb, hml, hown, hG, hX, hbl, hL3, hC⟩ := id C0
  have h0 : La s s := ⟨State.WarmedH.refl s, Nat.le_refl _, fun _ _ => rfl⟩
  have hK := cx_K hC h0
  refine lv_aload_n hx hb d_L_law_1548 rfl (lv_at hl 1 rfl) ?_
  refine lv_aload_n hx hb d_L_law_1549 rfl (lv_at hl 0 rfl) ?_
  refine lv_iload hx hb d_L_law_1550 (lv_at hl 4 rfl) ?_
  refine ri_iconst hx hb d_L_law_1552 ?_
  refine ri_iadd hx hb d_L_law_1553 ?_
  refine sc_ld hx hb hX hbl hS (by omega) hL3 d_L_law_1554 ?_
  refine lv_aload_n hx hb d_L_law_1555 rfl (lv_at hl 3 rfl) ?_
  refine wd_callC h0 hS (ex_runS (As := [.ref cx, .int (iI (sx xs (i + 1))), .ref ao]) (rest := []) ⟨hx, hb, hml, hown, hG⟩ (w_closes hC hI hW (mWd k A v f) ao o9 (sx xs (i + 1)) (sx_rg _ _)) (cb_with (n := 3) hG g_575 g_0 g_573 rfl rfl (by decide +kernel) ⟨Nat.le_of_ble_eq_true rfl, Nat.le_of_ble_eq_true rfl⟩) (hG _ g_574) (kd_preW h0 hS hP hD) rfl rfl hl.1 rfl (lv_room (Nat.le_of_ble_eq_true rfl)) d_L_law_1556 ⟨(show cells + 1 ≤ 601024 by omega), (show slots + 6 ≤ 7293034 by omega)⟩) (fun E ws9 hE H locs hP hD hS q T0 hT0 hq => False.elim hE) (fun v9 ws9 h9 H locs hP hD hS => ?_)
  obtain ⟨wc', o', kz, rfl, rfl, h9⟩ := h9
  rcases h9 with ⟨rfl, hq0, ho, hW2, hI2⟩ | ⟨rfl, hq0, hW2⟩
  · show W _ _ _ _ _ _ _ _ _ _ _ _ _ _ _ (F0 m9 1559 ls [.int (iI (0))])
    refine lv_istore (lv' := [(5, .int (iI (0))), (0, .ref b), (1, .ref cx), (2, .ref (A 26)), (3, .ref ao), (4, .int (iI (i)))]) hx hb d_L_law_1559 hl (by decide) rfl (fun ls hl => ?_)
    refine lv_aload_n hx hb d_L_law_1561 rfl (lv_at hl 3 rfl) ?_
    refine lv_aload_n hx hb d_L_law_1562 rfl (lv_at hl 1 rfl) ?_
    refine lv_iload hx hb d_L_law_1563 (lv_at hl 5 rfl) ?_
    refine ri_iconst hx hb d_L_law_1565 ?_
    refine ri_iadd hx hb d_L_law_1566 ?_
    refine sc_ld hx hb hX hbl hS (by omega) hL3 d_L_law_1567 ?_
    replace hP := wl_Pp hP (pm_law wc' (ao, .inl (k 1, al 1 o')) (mWd k A v f))
    replace hD := wl_Dp hD (pm_law wc' (ao, .inl (k 1, al 1 o')) (mWd k A v f))
    refine wd_callC h0 hS (ex_runV (C := "LathePiecesModel") (As := [.int (iI (sx xs (i + 1)))]) (rest := []) ⟨hx, hb, hml, hown, hG⟩ (q_closes hC A hI ((ao, .inl (k 1, al 1 o')) :: wc') (sx xs (i + 1)) (sx_rg _ _)) (cb_code (n := 1) hG g_869 g_3 g_866 rfl rfl (by decide +kernel) ⟨Nat.le_of_ble_eq_true rfl, Nat.le_of_ble_eq_true rfl⟩) (hG _ g_867) (hG _ g_868) (kd_V (kd_preW h0 hS hP hD) (kd_recv hK hP (q0 := 0) (ci := 6) rfl rfl rfl)) rfl rfl hl.1 rfl (lv_room (Nat.le_of_ble_eq_true rfl)) d_L_law_1568 ⟨(show cells + 1 + 0 ≤ 601024 by omega), (show slots + 6 + 0 ≤ 7293034 by omega)⟩) (fun E ws9 hE H locs hP hD hS q T0 hT0 hq => False.elim hE) (fun v9 ws9 h9 H locs hP hD hS => ?_)
    obtain ⟨rfl, rfl⟩ := h9.2 hq0
    show W _ _ _ _ _ _ _ _ _ _ _ _ _ _ _ (F0 m9 1571 ls [.int (iI (if 9979200 - smF (fun j => (f 19) (16 * (sx xs (i + 1)) + j)) (fun j => (f 20) (16 * (sx xs (i + 1)) + j)) ((f 18) (sx xs (i + 1))).toNat = 0 then 1 else 0))])
    refine lv_istore (lv' := [(6, .int (iI (if 9979200 - smF (fun j => (f 19) (16 * (sx xs (i + 1)) + j)) (fun j => (f 20) (16 * (sx xs (i + 1)) + j)) ((f 18) (sx xs (i + 1))).toNat = 0 then 1 else 0))), (5, .int (iI (0))), (0, .ref b), (1, .ref cx), (2, .ref (A 26)), (3, .ref ao), (4, .int (iI (i)))]) hx hb d_L_law_1571 hl (by decide) rfl (fun ls hl => ?_)
    refine lv_aload_n hx hb d_L_law_1573 rfl (lv_at hl 4 rfl) ?_
    refine rd_call (ex_runV (C := "LathePiecesModel") (As := []) (rest := []) ⟨hx, hb, hml, hown, hG⟩ (q_thrown hC A (vS v 0 0) f ((ao, .inl (k 1, al 1 o')) :: wc')) (cb_code (n := 0) hG g_709 g_3 g_706 rfl rfl (by decide +kernel) ⟨Nat.le_of_ble_eq_true rfl, Nat.le_of_ble_eq_true rfl⟩) (hG _ g_707) (hG _ g_708) (kd_V (kd_pre h0 hS hP) (kd_recv hK hP (q0 := 0) (ci := 6) rfl rfl rfl)) rfl rfl hl.1 rfl (lv_room (Nat.le_of_ble_eq_true rfl)) d_L_law_1574 ⟨(show cells + 1 + 0 + 0 ≤ 601024 by omega), (show slots + 6 + 0 + 0 ≤ 7293034 by omega)⟩) (fun v9 h9 => ?_)
    subst h9
    show W _ _ _ _ _ _ _ _ _ _ _ _ _ _ _ (F0 m9 1577 ls [.int (iI (0))])
    refine lv_iload hx hb d_L_law_1577 (lv_at hl 1 rfl) ?_
    refine ri_icmp_eq (tgt := 1584) hx hb d_L_law_1579 (by decide) (by decide) (by decide) (fun _ => ?_) (fun c1579 => absurd rfl c1579)
    refine lv_iload hx hb d_L_law_1584 (lv_at hl 1 rfl) ?_
    refine ri_if_ne (tgt := 1608) hx hb d_L_law_1586 (by decide) (by decide) (fun c1586 => absurd rfl c1586) (fun _ => ?_)
    refine lv_aload_n hx hb d_L_law_1589 rfl (lv_at hl 5 rfl) ?_
    refine ri_iconst hx hb d_L_law_1590 ?_
    replace hP := wl_Pp hP (pm_lf (mWd k A (vS v 0 0) f) (ao, .inl (k 1, al 1 o')) wc')
    replace hD := wl_Dp hD (pm_lf (mWd k A (vS v 0 0) f) (ao, .inl (k 1, al 1 o')) wc')
    refine ra_lald hx hb hK hP 0 rfl (by omega) (by omega) d_L_law_1591 ?_
    refine tp_l (y := jJ (if 9979200 - smF (fun j => (f 19) (16 * (sx xs (i + 1)) + j)) (fun j => (f 20) (16 * (sx xs (i + 1)) + j)) ((f 18) (sx xs (i + 1))).toNat = 0 then 1 else 0)) (congrArg jJ ho) ?_
    refine lv_iload hx hb d_L_law_1592 (lv_at hl 0 rfl) ?_
    have hz2 : (if 9979200 - smF (fun j => (f 19) (16 * (sx xs (i + 1)) + j)) (fun j => (f 20) (16 * (sx xs (i + 1)) + j)) ((f 18) (sx xs (i + 1))).toNat = 0 then 1 else 0 : Int) = 0 ∨ (if 9979200 - smF (fun j => (f 19) (16 * (sx xs (i + 1)) + j)) (fun j => (f 20) (16 * (sx xs (i + 1)) + j)) ((f 18) (sx xs (i + 1))).toNat = 0 then 1 else 0 : Int) = 1 := ite01 _
    refine ri_if_eq (tgt := 1601) hx hb d_L_law_1594 (by decide) (by rcases hz2 with h | h <;> rw [h] <;> decide) (fun c1594 => ?_) (fun c1594 => ?_)
    · have hz3 : (0 : Int) = (if 9979200 - smF (fun j => (f 19) (16 * (sx xs (i + 1)) + j)) (fun j => (f 20) (16 * (sx xs (i + 1)) + j)) ((f 18) (sx xs (i + 1))).toNat = 0 then 1 else 0) := c1594.symm
      refine ri_lconst (z := 0) hx hb d_L_law_1601 rfl ?_
      refine tp_l (y := jJ (if 9979200 - smF (fun j => (f 19) (16 * (sx xs (i + 1)) + j)) (fun j => (f 20) (16 * (sx xs (i + 1)) + j)) ((f 18) (sx xs (i + 1))).toNat = 0 then 1 else 0)) (congrArg jJ hz3) ?_
      refine lc_same (tgt := 1608) hx hb d_L_law_1602 d_L_law_1603 (by decide) ?_
      refine lv_goto (tgt := 1941) hx hb d_L_law_1608 (by decide) ?_
      replace hP := wl_Pp hP (pm_lb (mWd k A (vS v 0 0) f) (ao, .inl (k 1, al 1 o')) wc')
      replace hD := wl_Dp hD (pm_lb (mWd k A (vS v 0 0) f) (ao, .inl (k 1, al 1 o')) wc')
      refine W.widen (k := cells + 9) (n := slots + 167) (by omega) (by omega) ?_
      exact kk (vS v 0 0) f wc' o' H locs ls (Cst.code hW2 0) (Iv.code hI2 0) hP hD hS (lv_sub hl [2, 3, 4, 5, 6] rfl)
    · have hz3 : (1 : Int) = (if 9979200 - smF (fun j => (f 19) (16 * (sx xs (i + 1)) + j)) (fun j => (f 20) (16 * (sx xs (i + 1)) + j)) ((f 18) (sx xs (i + 1))).toNat = 0 then 1 else 0) := (hz2.resolve_left c1594).symm
      refine ri_lconst (z := 1) hx hb d_L_law_1597 rfl ?_
      refine lv_goto (tgt := 1602) hx hb d_L_law_1598 (by decide) ?_
      refine tp_l (y := jJ (if 9979200 - smF (fun j => (f 19) (16 * (sx xs (i + 1)) + j)) (fun j => (f 20) (16 * (sx xs (i + 1)) + j)) ((f 18) (sx xs (i + 1))).toNat = 0 then 1 else 0)) (congrArg jJ hz3) ?_
      refine lc_same (tgt := 1608) hx hb d_L_law_1602 d_L_law_1603 (by decide) ?_
      refine lv_goto (tgt := 1941) hx hb d_L_law_1608 (by decide) ?_
      replace hP := wl_Pp hP (pm_lb (mWd k A (vS v 0 0) f) (ao, .inl (k 1, al 1 o')) wc')
      replace hD := wl_Dp hD (pm_lb (mWd k A (vS v 0 0) f) (ao, .inl (k 1, al 1 o')) wc')
      refine W.widen (k := cells + 9) (n := slots + 167) (by omega) (by omega) ?_
      exact kk (vS v 0 0) f wc' o' H locs ls (Cst.code hW2 0) (Iv.code hI2 0) hP hD hS (lv_sub hl [2, 3, 4, 5, 6] rfl)
  · show W _ _ _ _ _ _ _ _ _ _ _ _ _ _ _ (F0 m9 1559 ls [.int (iI (1))])
    refine lv_istore (lv' := [(5, .int (iI (1))), (0, .ref b), (1, .ref cx), (2, .ref (A 26)), (3, .ref ao), (4, .int (iI (i)))]) hx hb d_L_law_1559 hl (by decide) rfl (fun ls hl => ?_)
    refine lv_aload_n hx hb d_L_law_1561 rfl (lv_at hl 3 rfl) ?_
    refine lv_aload_n hx hb d_L_law_1562 rfl (lv_at hl 1 rfl) ?_
    refine lv_iload hx hb d_L_law_1563 (lv_at hl 5 rfl) ?_
    refine ri_iconst hx hb d_L_law_1565 ?_
    refine ri_iadd hx hb d_L_law_1566 ?_
    refine sc_ld hx hb hX hbl hS (by omega) hL3 d_L_law_1567 ?_
    replace hP := wl_Pp hP (pm_law wc' (ao, .inl (k 1, al 1 o')) (mWd k A v f))
    replace hD := wl_Dp hD (pm_law wc' (ao, .inl (k 1, al 1 o')) (mWd k A v f))
    refine wd_callC h0 hS (ex_runV (C := "LathePiecesModel") (As := [.int (iI (sx xs (i + 1)))]) (rest := []) ⟨hx, hb, hml, hown, hG⟩ (q_closes hC A hI ((ao, .inl (k 1, al 1 o')) :: wc') (sx xs (i + 1)) (sx_rg _ _)) (cb_code (n := 1) hG g_869 g_3 g_866 rfl rfl (by decide +kernel) ⟨Nat.le_of_ble_eq_true rfl, Nat.le_of_ble_eq_true rfl⟩) (hG _ g_867) (hG _ g_868) (kd_V (kd_preW h0 hS hP hD) (kd_recv hK hP (q0 := 0) (ci := 6) rfl rfl rfl)) rfl rfl hl.1 rfl (lv_room (Nat.le_of_ble_eq_true rfl)) d_L_law_1568 ⟨(show cells + 1 + 0 ≤ 601024 by omega), (show slots + 6 + 0 ≤ 7293034 by omega)⟩) (fun E ws9 hE H locs hP hD hS q T0 hT0 hq => False.elim hE) (fun v9 ws9 h9 H locs hP hD hS => ?_)
    obtain ⟨rfl, rfl⟩ := h9.1 hq0
    show W _ _ _ _ _ _ _ _ _ _ _ _ _ _ _ (F0 m9 1571 ls [.int (iI (0))])
    refine lv_istore (lv' := [(6, .int (iI (0))), (5, .int (iI (1))), (0, .ref b), (1, .ref cx), (2, .ref (A 26)), (3, .ref ao), (4, .int (iI (i)))]) hx hb d_L_law_1571 hl (by decide) rfl (fun ls hl => ?_)
    refine lv_aload_n hx hb d_L_law_1573 rfl (lv_at hl 4 rfl) ?_
    refine rd_call (ex_runV (C := "LathePiecesModel") (As := []) (rest := []) ⟨hx, hb, hml, hown, hG⟩ (q_thrown hC A (vS v 0 1) f ((ao, .inl (k 1, al 1 o')) :: wc')) (cb_code (n := 0) hG g_709 g_3 g_706 rfl rfl (by decide +kernel) ⟨Nat.le_of_ble_eq_true rfl, Nat.le_of_ble_eq_true rfl⟩) (hG _ g_707) (hG _ g_708) (kd_V (kd_pre h0 hS hP) (kd_recv hK hP (q0 := 0) (ci := 6) rfl rfl rfl)) rfl rfl hl.1 rfl (lv_room (Nat.le_of_ble_eq_true rfl)) d_L_law_1574 ⟨(show cells + 1 + 0 + 0 ≤ 601024 by omega), (show slots + 6 + 0 + 0 ≤ 7293034 by omega)⟩) (fun v9 h9 => ?_)
    subst h9
    show W _ _ _ _ _ _ _ _ _ _ _ _ _ _ _ (F0 m9 1577 ls [.int (iI (1))])
    refine lv_iload hx hb d_L_law_1577 (lv_at hl 1 rfl) ?_
    refine ri_icmp_eq (tgt := 1584) hx hb d_L_law_1579 (by decide) (by decide) (by decide) (fun _ => ?_) (fun c1579 => absurd rfl c1579)
    refine lv_iload hx hb d_L_law_1584 (lv_at hl 1 rfl) ?_
    refine ri_if_ne (tgt := 1608) hx hb d_L_law_1586 (by decide) (by decide) (fun _ => ?_) (fun c1586 => absurd c1586 (by decide))
    refine lv_goto (tgt := 1941) hx hb d_L_law_1608 (by decide) ?_
    replace hP := wl_Pp hP (pm_law (mWd k A (vS v 0 1) f) (ao, .inl (k 1, al 1 o')) wc')
    replace hD := wl_Dp hD (pm_law (mWd k A (vS v 0 1) f) (ao, .inl (k 1, al 1 o')) wc')
    refine W.widen (k := cells + 9) (n := slots + 167) (by omega) (by omega) ?_
    exact kk (vS v 0 1) f wc' o' H locs ls (Cst.code hW2 1) (Iv.code hI 1) hP hD hS (lv_sub hl [2, 3, 4, 5, 6] rfl)
set_option maxHeartbeats 4000000 in
set_option maxRecDepth 100000 in
theorem t_flute {p9 : Program} {l : Launch} {e9 : Env} {s : State} {m9 : MethodId} {below9 : List Frame} {meth9 : Method} {c9 : Code} {Q9 : State → Prop} {b L : Nat} {xs : Nat → Int32} {D : va_G} {k : Nat → ClassId} (C0 : LwC p9 l s m9 c9 b L xs D k) {cx : Nat} {A : Nat → Nat} {ao : Nat} {i : Int} {cells slots : Nat} (hi : 0 ≤ i ∧ i + 5 < L) (hc : cells + 9 ≤ 601024) (hs : slots + 167 ≤ 7293034) (kk : LwK p9 l e9 s m9 below9 meth9 c9 b D k cx A ao i (cells + 9) (slots + 167) Q9) {v : Nat → Int} {f : Nat → Int → Int} {wc : va_W} {o9 : Int → Int} {H : Heap} {locs : List Loc} {ls : Array Slot} (hI : Iv v f) (hW : Cst k cx v f wc) (hP : va_P D classes (wc ++ ((ao, .inl (k 1, al 1 o9)) :: mWd k A v f)) H) (hD : va_D (aL s) (wc ++ ((ao, .inl (k 1, al 1 o9)) :: mWd k A v f))) (hS : va_S (aL s) s.heap H locs) (hl : lv_has ls 8 [(0, .ref b), (1, .ref cx), (2, .ref (A 26)), (3, .ref ao), (4, .int (iI (i)))]) : W p9 l e9 room_1 s m9 #[Value.ref b] below9 meth9 c9 H locs cells slots Q9 (F0 m9 1611 ls []) := by
  obtain ⟨hx, hb, hml, hown, hG, hX, hbl, hL3, hC⟩ := id C0
  have h0 : La s s := ⟨State.WarmedH.refl s, Nat.le_refl _, fun _ _ => rfl⟩
  have hK := cx_K hC h0
  refine lv_aload_n hx hb d_L_law_1611 rfl (lv_at hl 1 rfl) ?_
  refine lv_aload_n hx hb d_L_law_1612 rfl (lv_at hl 0 rfl) ?_
  refine lv_iload hx hb d_L_law_1613 (lv_at hl 4 rfl) ?_
  refine ri_iconst hx hb d_L_law_1615 ?_
  refine ri_iadd hx hb d_L_law_1616 ?_
  refine sc_ld hx hb hX hbl hS (by omega) hL3 d_L_law_1617 ?_
  refine lv_aload_n hx hb d_L_law_1618 rfl (lv_at hl 0 rfl) ?_
  refine lv_iload hx hb d_L_law_1619 (lv_at hl 4 rfl) ?_
  refine ri_iconst hx hb d_L_law_1621 ?_
  refine ri_iadd hx hb d_L_law_1622 ?_
  refine sc_ld hx hb hX hbl hS (by omega) hL3 d_L_law_1623 ?_
  refine lv_aload_n hx hb d_L_law_1624 rfl (lv_at hl 0 rfl) ?_
  refine lv_iload hx hb d_L_law_1625 (lv_at hl 4 rfl) ?_
  refine ri_iconst hx hb d_L_law_1627 ?_
  refine ri_iadd hx hb d_L_law_1628 ?_
  refine sc_ld hx hb hX hbl hS (by omega) hL3 d_L_law_1629 ?_
  refine lv_aload_n hx hb d_L_law_1630 rfl (lv_at hl 3 rfl) ?_
  refine wd_callC h0 hS (ex_runS (As := [.ref cx, .int (iI (sx xs (i + 1))), .int (iI (sx xs (i + 2))), .int (iI (sx xs (i + 3))), .ref ao]) (rest := []) ⟨hx, hb, hml, hown, hG⟩ (w_flute hC hI hW (mWd k A v f) ao o9 (sx xs (i + 1)) (sx xs (i + 2)) (sx xs (i + 3)) (sx_rg _ _) (sx_rg _ _) (sx_rg _ _)) (cb_with (n := 5) hG g_582 g_0 g_580 rfl rfl (by decide +kernel) ⟨Nat.le_of_ble_eq_true rfl, Nat.le_of_ble_eq_true rfl⟩) (hG _ g_581) (kd_preW h0 hS hP hD) rfl rfl hl.1 rfl (lv_room (Nat.le_of_ble_eq_true rfl)) d_L_law_1631 ⟨(show cells + 3 ≤ 601024 by omega), (show slots + 18 ≤ 7293034 by omega)⟩) (fun E ws9 hE H locs hP hD hS q T0 hT0 hq => False.elim hE) (fun v9 ws9 h9 H locs hP hD hS => ?_)
  obtain ⟨wc', o', kz, rfl, rfl, h9⟩ := h9
  rcases h9 with ⟨rfl, hq0, ho, hW2, hI2⟩ | ⟨rfl, hq0, hW2⟩ | ⟨rfl, hq0, hW2⟩
  · show W _ _ _ _ _ _ _ _ _ _ _ _ _ _ _ (F0 m9 1634 ls [.int (iI (0))])
    refine lv_istore (lv' := [(5, .int (iI (0))), (0, .ref b), (1, .ref cx), (2, .ref (A 26)), (3, .ref ao), (4, .int (iI (i)))]) hx hb d_L_law_1634 hl (by decide) rfl (fun ls hl => ?_)
    refine lv_aload_n hx hb d_L_law_1636 rfl (lv_at hl 3 rfl) ?_
    refine lv_aload_n hx hb d_L_law_1637 rfl (lv_at hl 1 rfl) ?_
    refine lv_iload hx hb d_L_law_1638 (lv_at hl 5 rfl) ?_
    refine ri_iconst hx hb d_L_law_1640 ?_
    refine ri_iadd hx hb d_L_law_1641 ?_
    refine sc_ld hx hb hX hbl hS (by omega) hL3 d_L_law_1642 ?_
    refine lv_aload_n hx hb d_L_law_1643 rfl (lv_at hl 1 rfl) ?_
    refine lv_iload hx hb d_L_law_1644 (lv_at hl 5 rfl) ?_
    refine ri_iconst hx hb d_L_law_1646 ?_
    refine ri_iadd hx hb d_L_law_1647 ?_
    refine sc_ld hx hb hX hbl hS (by omega) hL3 d_L_law_1648 ?_
    refine lv_aload_n hx hb d_L_law_1649 rfl (lv_at hl 1 rfl) ?_
    refine lv_iload hx hb d_L_law_1650 (lv_at hl 5 rfl) ?_
    refine ri_iconst hx hb d_L_law_1652 ?_
    refine ri_iadd hx hb d_L_law_1653 ?_
    refine sc_ld hx hb hX hbl hS (by omega) hL3 d_L_law_1654 ?_
    replace hP := wl_Pp hP (pm_law wc' (ao, .inl (k 1, al 1 o')) (mWd k A v f))
    replace hD := wl_Dp hD (pm_law wc' (ao, .inl (k 1, al 1 o')) (mWd k A v f))
    refine wd_callC h0 hS (ex_runV (C := "LathePiecesModel") (As := [.int (iI (sx xs (i + 1))), .int (iI (sx xs (i + 2))), .int (iI (sx xs (i + 3)))]) (rest := []) ⟨hx, hb, hml, hown, hG⟩ (q_flute hC A hI ((ao, .inl (k 1, al 1 o')) :: wc') (sx xs (i + 1)) (sx xs (i + 2)) (sx xs (i + 3)) (sx_rg _ _) (sx_rg _ _) (sx_rg _ _)) (cb_code (n := 3) hG g_873 g_3 g_870 rfl rfl (by decide +kernel) ⟨Nat.le_of_ble_eq_true rfl, Nat.le_of_ble_eq_true rfl⟩) (hG _ g_871) (hG _ g_872) (kd_V (kd_preW h0 hS hP hD) (kd_recv hK hP (q0 := 0) (ci := 6) rfl rfl rfl)) rfl rfl hl.1 rfl (lv_room (Nat.le_of_ble_eq_true rfl)) d_L_law_1655 ⟨(show cells + 3 + 0 ≤ 601024 by omega), (show slots + 18 + 0 ≤ 7293034 by omega)⟩) (fun E ws9 hE H locs hP hD hS q T0 hT0 hq => False.elim hE) (fun v9 ws9 h9 H locs hP hD hS => ?_)
    obtain ⟨rfl, rfl⟩ := h9.2.2 hq0
    show W _ _ _ _ _ _ _ _ _ _ _ _ _ _ _ (F0 m9 1658 ls [.long (jJ (frP ((sx xs (i + 2)) * 360) (sx xs (i + 1)) (sx xs (i + 3))))])
    refine lv_lstore (lv' := [(6, .long (jJ (frP ((sx xs (i + 2)) * 360) (sx xs (i + 1)) (sx xs (i + 3))))), (5, .int (iI (0))), (0, .ref b), (1, .ref cx), (2, .ref (A 26)), (3, .ref ao), (4, .int (iI (i)))]) hx hb d_L_law_1658 hl (by decide) rfl (fun ls hl => ?_)
    refine lv_aload_n hx hb d_L_law_1660 rfl (lv_at hl 4 rfl) ?_
    refine rd_call (ex_runV (C := "LathePiecesModel") (As := []) (rest := []) ⟨hx, hb, hml, hown, hG⟩ (q_thrown hC A (vS v 0 0) f ((ao, .inl (k 1, al 1 o')) :: wc')) (cb_code (n := 0) hG g_709 g_3 g_706 rfl rfl (by decide +kernel) ⟨Nat.le_of_ble_eq_true rfl, Nat.le_of_ble_eq_true rfl⟩) (hG _ g_707) (hG _ g_708) (kd_V (kd_pre h0 hS hP) (kd_recv hK hP (q0 := 0) (ci := 6) rfl rfl rfl)) rfl rfl hl.1 rfl (lv_room (Nat.le_of_ble_eq_true rfl)) d_L_law_1661 ⟨(show cells + 3 + 0 + 0 ≤ 601024 by omega), (show slots + 18 + 0 + 0 ≤ 7293034 by omega)⟩) (fun v9 h9 => ?_)
    subst h9
    show W _ _ _ _ _ _ _ _ _ _ _ _ _ _ _ (F0 m9 1664 ls [.int (iI (0))])
    refine lv_iload hx hb d_L_law_1664 (lv_at hl 1 rfl) ?_
    refine ri_icmp_eq (tgt := 1671) hx hb d_L_law_1666 (by decide) (by decide) (by decide) (fun _ => ?_) (fun c1666 => absurd rfl c1666)
    refine lv_iload hx hb d_L_law_1671 (lv_at hl 1 rfl) ?_
    refine ri_if_ne (tgt := 1687) hx hb d_L_law_1673 (by decide) (by decide) (fun c1673 => absurd rfl c1673) (fun _ => ?_)
    refine lv_aload_n hx hb d_L_law_1676 rfl (lv_at hl 5 rfl) ?_
    refine ri_iconst hx hb d_L_law_1677 ?_
    replace hP := wl_Pp hP (pm_lf (mWd k A (vS v 0 0) f) (ao, .inl (k 1, al 1 o')) wc')
    replace hD := wl_Dp hD (pm_lf (mWd k A (vS v 0 0) f) (ao, .inl (k 1, al 1 o')) wc')
    refine ra_lald hx hb hK hP 0 rfl (by omega) (by omega) d_L_law_1678 ?_
    refine tp_l (y := jJ (frP ((sx xs (i + 2)) * 360) (sx xs (i + 1)) (sx xs (i + 3)))) (congrArg jJ ho) ?_
    refine lv_lload hx hb d_L_law_1679 (lv_at hl 0 rfl) ?_
    refine lc_same (tgt := 1687) hx hb d_L_law_1681 d_L_law_1682 (by decide) ?_
    refine lv_goto (tgt := 1941) hx hb d_L_law_1687 (by decide) ?_
    replace hP := wl_Pp hP (pm_lb (mWd k A (vS v 0 0) f) (ao, .inl (k 1, al 1 o')) wc')
    replace hD := wl_Dp hD (pm_lb (mWd k A (vS v 0 0) f) (ao, .inl (k 1, al 1 o')) wc')
    refine W.widen (k := cells + 9) (n := slots + 167) (by omega) (by omega) ?_
    exact kk (vS v 0 0) f wc' o' H locs ls (Cst.code hW2 0) (Iv.code hI2 0) hP hD hS (lv_sub hl [2, 3, 4, 5, 6] rfl)
  · show W _ _ _ _ _ _ _ _ _ _ _ _ _ _ _ (F0 m9 1634 ls [.int (iI (1))])
    refine lv_istore (lv' := [(5, .int (iI (1))), (0, .ref b), (1, .ref cx), (2, .ref (A 26)), (3, .ref ao), (4, .int (iI (i)))]) hx hb d_L_law_1634 hl (by decide) rfl (fun ls hl => ?_)
    refine lv_aload_n hx hb d_L_law_1636 rfl (lv_at hl 3 rfl) ?_
    refine lv_aload_n hx hb d_L_law_1637 rfl (lv_at hl 1 rfl) ?_
    refine lv_iload hx hb d_L_law_1638 (lv_at hl 5 rfl) ?_
    refine ri_iconst hx hb d_L_law_1640 ?_
    refine ri_iadd hx hb d_L_law_1641 ?_
    refine sc_ld hx hb hX hbl hS (by omega) hL3 d_L_law_1642 ?_
    refine lv_aload_n hx hb d_L_law_1643 rfl (lv_at hl 1 rfl) ?_
    refine lv_iload hx hb d_L_law_1644 (lv_at hl 5 rfl) ?_
    refine ri_iconst hx hb d_L_law_1646 ?_
    refine ri_iadd hx hb d_L_law_1647 ?_
    refine sc_ld hx hb hX hbl hS (by omega) hL3 d_L_law_1648 ?_
    refine lv_aload_n hx hb d_L_law_1649 rfl (lv_at hl 1 rfl) ?_
    refine lv_iload hx hb d_L_law_1650 (lv_at hl 5 rfl) ?_
    refine ri_iconst hx hb d_L_law_1652 ?_
    refine ri_iadd hx hb d_L_law_1653 ?_
    refine sc_ld hx hb hX hbl hS (by omega) hL3 d_L_law_1654 ?_
    replace hP := wl_Pp hP (pm_law wc' (ao, .inl (k 1, al 1 o')) (mWd k A v f))
    replace hD := wl_Dp hD (pm_law wc' (ao, .inl (k 1, al 1 o')) (mWd k A v f))
    refine wd_callC h0 hS (ex_runV (C := "LathePiecesModel") (As := [.int (iI (sx xs (i + 1))), .int (iI (sx xs (i + 2))), .int (iI (sx xs (i + 3)))]) (rest := []) ⟨hx, hb, hml, hown, hG⟩ (q_flute hC A hI ((ao, .inl (k 1, al 1 o')) :: wc') (sx xs (i + 1)) (sx xs (i + 2)) (sx xs (i + 3)) (sx_rg _ _) (sx_rg _ _) (sx_rg _ _)) (cb_code (n := 3) hG g_873 g_3 g_870 rfl rfl (by decide +kernel) ⟨Nat.le_of_ble_eq_true rfl, Nat.le_of_ble_eq_true rfl⟩) (hG _ g_871) (hG _ g_872) (kd_V (kd_preW h0 hS hP hD) (kd_recv hK hP (q0 := 0) (ci := 6) rfl rfl rfl)) rfl rfl hl.1 rfl (lv_room (Nat.le_of_ble_eq_true rfl)) d_L_law_1655 ⟨(show cells + 3 + 0 ≤ 601024 by omega), (show slots + 18 + 0 ≤ 7293034 by omega)⟩) (fun E ws9 hE H locs hP hD hS q T0 hT0 hq => False.elim hE) (fun v9 ws9 h9 H locs hP hD hS => ?_)
    obtain ⟨rfl, rfl⟩ := h9.1 hq0
    show W _ _ _ _ _ _ _ _ _ _ _ _ _ _ _ (F0 m9 1658 ls [.long (jJ (0))])
    refine lv_lstore (lv' := [(6, .long (jJ (0))), (5, .int (iI (1))), (0, .ref b), (1, .ref cx), (2, .ref (A 26)), (3, .ref ao), (4, .int (iI (i)))]) hx hb d_L_law_1658 hl (by decide) rfl (fun ls hl => ?_)
    refine lv_aload_n hx hb d_L_law_1660 rfl (lv_at hl 4 rfl) ?_
    refine rd_call (ex_runV (C := "LathePiecesModel") (As := []) (rest := []) ⟨hx, hb, hml, hown, hG⟩ (q_thrown hC A (vS v 0 1) f ((ao, .inl (k 1, al 1 o')) :: wc')) (cb_code (n := 0) hG g_709 g_3 g_706 rfl rfl (by decide +kernel) ⟨Nat.le_of_ble_eq_true rfl, Nat.le_of_ble_eq_true rfl⟩) (hG _ g_707) (hG _ g_708) (kd_V (kd_pre h0 hS hP) (kd_recv hK hP (q0 := 0) (ci := 6) rfl rfl rfl)) rfl rfl hl.1 rfl (lv_room (Nat.le_of_ble_eq_true rfl)) d_L_law_1661 ⟨(show cells + 3 + 0 + 0 ≤ 601024 by omega), (show slots + 18 + 0 + 0 ≤ 7293034 by omega)⟩) (fun v9 h9 => ?_)
    subst h9
    show W _ _ _ _ _ _ _ _ _ _ _ _ _ _ _ (F0 m9 1664 ls [.int (iI (1))])
    refine lv_iload hx hb d_L_law_1664 (lv_at hl 1 rfl) ?_
    refine ri_icmp_eq (tgt := 1671) hx hb d_L_law_1666 (by decide) (by decide) (by decide) (fun _ => ?_) (fun c1666 => absurd rfl c1666)
    refine lv_iload hx hb d_L_law_1671 (lv_at hl 1 rfl) ?_
    refine ri_if_ne (tgt := 1687) hx hb d_L_law_1673 (by decide) (by decide) (fun _ => ?_) (fun c1673 => absurd c1673 (by decide))
    refine lv_goto (tgt := 1941) hx hb d_L_law_1687 (by decide) ?_
    replace hP := wl_Pp hP (pm_law (mWd k A (vS v 0 1) f) (ao, .inl (k 1, al 1 o')) wc')
    replace hD := wl_Dp hD (pm_law (mWd k A (vS v 0 1) f) (ao, .inl (k 1, al 1 o')) wc')
    refine W.widen (k := cells + 9) (n := slots + 167) (by omega) (by omega) ?_
    exact kk (vS v 0 1) f wc' o' H locs ls (Cst.code hW2 1) (Iv.code hI 1) hP hD hS (lv_sub hl [2, 3, 4, 5, 6] rfl)
  · show W _ _ _ _ _ _ _ _ _ _ _ _ _ _ _ (F0 m9 1634 ls [.int (iI (2))])
    refine lv_istore (lv' := [(5, .int (iI (2))), (0, .ref b), (1, .ref cx), (2, .ref (A 26)), (3, .ref ao), (4, .int (iI (i)))]) hx hb d_L_law_1634 hl (by decide) rfl (fun ls hl => ?_)
    refine lv_aload_n hx hb d_L_law_1636 rfl (lv_at hl 3 rfl) ?_
    refine lv_aload_n hx hb d_L_law_1637 rfl (lv_at hl 1 rfl) ?_
    refine lv_iload hx hb d_L_law_1638 (lv_at hl 5 rfl) ?_
    refine ri_iconst hx hb d_L_law_1640 ?_
    refine ri_iadd hx hb d_L_law_1641 ?_
    refine sc_ld hx hb hX hbl hS (by omega) hL3 d_L_law_1642 ?_
    refine lv_aload_n hx hb d_L_law_1643 rfl (lv_at hl 1 rfl) ?_
    refine lv_iload hx hb d_L_law_1644 (lv_at hl 5 rfl) ?_
    refine ri_iconst hx hb d_L_law_1646 ?_
    refine ri_iadd hx hb d_L_law_1647 ?_
    refine sc_ld hx hb hX hbl hS (by omega) hL3 d_L_law_1648 ?_
    refine lv_aload_n hx hb d_L_law_1649 rfl (lv_at hl 1 rfl) ?_
    refine lv_iload hx hb d_L_law_1650 (lv_at hl 5 rfl) ?_
    refine ri_iconst hx hb d_L_law_1652 ?_
    refine ri_iadd hx hb d_L_law_1653 ?_
    refine sc_ld hx hb hX hbl hS (by omega) hL3 d_L_law_1654 ?_
    replace hP := wl_Pp hP (pm_law wc' (ao, .inl (k 1, al 1 o')) (mWd k A v f))
    replace hD := wl_Dp hD (pm_law wc' (ao, .inl (k 1, al 1 o')) (mWd k A v f))
    refine wd_callC h0 hS (ex_runV (C := "LathePiecesModel") (As := [.int (iI (sx xs (i + 1))), .int (iI (sx xs (i + 2))), .int (iI (sx xs (i + 3)))]) (rest := []) ⟨hx, hb, hml, hown, hG⟩ (q_flute hC A hI ((ao, .inl (k 1, al 1 o')) :: wc') (sx xs (i + 1)) (sx xs (i + 2)) (sx xs (i + 3)) (sx_rg _ _) (sx_rg _ _) (sx_rg _ _)) (cb_code (n := 3) hG g_873 g_3 g_870 rfl rfl (by decide +kernel) ⟨Nat.le_of_ble_eq_true rfl, Nat.le_of_ble_eq_true rfl⟩) (hG _ g_871) (hG _ g_872) (kd_V (kd_preW h0 hS hP hD) (kd_recv hK hP (q0 := 0) (ci := 6) rfl rfl rfl)) rfl rfl hl.1 rfl (lv_room (Nat.le_of_ble_eq_true rfl)) d_L_law_1655 ⟨(show cells + 3 + 0 ≤ 601024 by omega), (show slots + 18 + 0 ≤ 7293034 by omega)⟩) (fun E ws9 hE H locs hP hD hS q T0 hT0 hq => False.elim hE) (fun v9 ws9 h9 H locs hP hD hS => ?_)
    obtain ⟨rfl, rfl⟩ := h9.2.1 hq0
    show W _ _ _ _ _ _ _ _ _ _ _ _ _ _ _ (F0 m9 1658 ls [.long (jJ (0))])
    refine lv_lstore (lv' := [(6, .long (jJ (0))), (5, .int (iI (2))), (0, .ref b), (1, .ref cx), (2, .ref (A 26)), (3, .ref ao), (4, .int (iI (i)))]) hx hb d_L_law_1658 hl (by decide) rfl (fun ls hl => ?_)
    refine lv_aload_n hx hb d_L_law_1660 rfl (lv_at hl 4 rfl) ?_
    refine rd_call (ex_runV (C := "LathePiecesModel") (As := []) (rest := []) ⟨hx, hb, hml, hown, hG⟩ (q_thrown hC A (vS v 0 2) f ((ao, .inl (k 1, al 1 o')) :: wc')) (cb_code (n := 0) hG g_709 g_3 g_706 rfl rfl (by decide +kernel) ⟨Nat.le_of_ble_eq_true rfl, Nat.le_of_ble_eq_true rfl⟩) (hG _ g_707) (hG _ g_708) (kd_V (kd_pre h0 hS hP) (kd_recv hK hP (q0 := 0) (ci := 6) rfl rfl rfl)) rfl rfl hl.1 rfl (lv_room (Nat.le_of_ble_eq_true rfl)) d_L_law_1661 ⟨(show cells + 3 + 0 + 0 ≤ 601024 by omega), (show slots + 18 + 0 + 0 ≤ 7293034 by omega)⟩) (fun v9 h9 => ?_)
    subst h9
    show W _ _ _ _ _ _ _ _ _ _ _ _ _ _ _ (F0 m9 1664 ls [.int (iI (2))])
    refine lv_iload hx hb d_L_law_1664 (lv_at hl 1 rfl) ?_
    refine ri_icmp_eq (tgt := 1671) hx hb d_L_law_1666 (by decide) (by decide) (by decide) (fun _ => ?_) (fun c1666 => absurd rfl c1666)
    refine lv_iload hx hb d_L_law_1671 (lv_at hl 1 rfl) ?_
    refine ri_if_ne (tgt := 1687) hx hb d_L_law_1673 (by decide) (by decide) (fun _ => ?_) (fun c1673 => absurd c1673 (by decide))
    refine lv_goto (tgt := 1941) hx hb d_L_law_1687 (by decide) ?_
    replace hP := wl_Pp hP (pm_law (mWd k A (vS v 0 2) f) (ao, .inl (k 1, al 1 o')) wc')
    replace hD := wl_Dp hD (pm_law (mWd k A (vS v 0 2) f) (ao, .inl (k 1, al 1 o')) wc')
    refine W.widen (k := cells + 9) (n := slots + 167) (by omega) (by omega) ?_
    exact kk (vS v 0 2) f wc' o' H locs ls (Cst.code hW2 2) (Iv.code hI 2) hP hD hS (lv_sub hl [2, 3, 4, 5, 6] rfl)
set_option maxHeartbeats 4000000 in
set_option maxRecDepth 100000 in
theorem t_thread {p9 : Program} {l : Launch} {e9 : Env} {s : State} {m9 : MethodId} {below9 : List Frame} {meth9 : Method} {c9 : Code} {Q9 : State → Prop} {b L : Nat} {xs : Nat → Int32} {D : va_G} {k : Nat → ClassId} (C0 : LwC p9 l s m9 c9 b L xs D k) {cx : Nat} {A : Nat → Nat} {ao : Nat} {i : Int} {cells slots : Nat} (hi : 0 ≤ i ∧ i + 5 < L) (hc : cells + 9 ≤ 601024) (hs : slots + 167 ≤ 7293034) (kk : LwK p9 l e9 s m9 below9 meth9 c9 b D k cx A ao i (cells + 9) (slots + 167) Q9) {v : Nat → Int} {f : Nat → Int → Int} {wc : va_W} {o9 : Int → Int} {H : Heap} {locs : List Loc} {ls : Array Slot} (hI : Iv v f) (hW : Cst k cx v f wc) (hP : va_P D classes (wc ++ ((ao, .inl (k 1, al 1 o9)) :: mWd k A v f)) H) (hD : va_D (aL s) (wc ++ ((ao, .inl (k 1, al 1 o9)) :: mWd k A v f))) (hS : va_S (aL s) s.heap H locs) (hl : lv_has ls 8 [(0, .ref b), (1, .ref cx), (2, .ref (A 26)), (3, .ref ao), (4, .int (iI (i)))]) : W p9 l e9 room_1 s m9 #[Value.ref b] below9 meth9 c9 H locs cells slots Q9 (F0 m9 1690 ls []) := by
  obtain ⟨hx, hb, hml, hown, hG, hX, hbl, hL3, hC⟩ := id C0
  have h0 : La s s := ⟨State.WarmedH.refl s, Nat.le_refl _, fun _ _ => rfl⟩
  have hK := cx_K hC h0
  refine lv_aload_n hx hb d_L_law_1690 rfl (lv_at hl 1 rfl) ?_
  refine lv_aload_n hx hb d_L_law_1691 rfl (lv_at hl 0 rfl) ?_
  refine lv_iload hx hb d_L_law_1692 (lv_at hl 4 rfl) ?_
  refine ri_iconst hx hb d_L_law_1694 ?_
  refine ri_iadd hx hb d_L_law_1695 ?_
  refine sc_ld hx hb hX hbl hS (by omega) hL3 d_L_law_1696 ?_
  refine lv_aload_n hx hb d_L_law_1697 rfl (lv_at hl 0 rfl) ?_
  refine lv_iload hx hb d_L_law_1698 (lv_at hl 4 rfl) ?_
  refine ri_iconst hx hb d_L_law_1700 ?_
  refine ri_iadd hx hb d_L_law_1701 ?_
  refine sc_ld hx hb hX hbl hS (by omega) hL3 d_L_law_1702 ?_
  refine wd_callC h0 hS (ex_runS (As := [.ref cx, .int (iI (sx xs (i + 1))), .int (iI (sx xs (i + 2)))]) (rest := []) ⟨hx, hb, hml, hown, hG⟩ (w_thread hC hI hW ((ao, .inl (k 1, al 1 o9)) :: mWd k A v f) (sx xs (i + 1)) (sx xs (i + 2)) (sx_rg _ _) (sx_rg _ _)) (cb_with (n := 3) hG g_590 g_0 g_588 rfl rfl (by decide +kernel) ⟨Nat.le_of_ble_eq_true rfl, Nat.le_of_ble_eq_true rfl⟩) (hG _ g_589) (kd_preW h0 hS hP hD) rfl rfl hl.1 rfl (lv_room (Nat.le_of_ble_eq_true rfl)) d_L_law_1703 ⟨(show cells + 2 ≤ 601024 by omega), (show slots + 12 ≤ 7293034 by omega)⟩) (fun E ws9 hE H locs hP hD hS q T0 hT0 hq => False.elim hE) (fun v9 ws9 h9 H locs hP hD hS => ?_)
  obtain ⟨wc', kz, rfl, rfl, h9⟩ := h9
  rcases h9 with ⟨rfl, hq0, hW2, hI2⟩ | ⟨rfl, hq0, hW2⟩
  · show W _ _ _ _ _ _ _ _ _ _ _ _ _ _ _ (F0 m9 1706 ls [.int (iI (0))])
    refine lv_istore (lv' := [(5, .int (iI (0))), (0, .ref b), (1, .ref cx), (2, .ref (A 26)), (3, .ref ao), (4, .int (iI (i)))]) hx hb d_L_law_1706 hl (by decide) rfl (fun ls hl => ?_)
    refine lv_aload_n hx hb d_L_law_1708 rfl (lv_at hl 3 rfl) ?_
    refine lv_aload_n hx hb d_L_law_1709 rfl (lv_at hl 1 rfl) ?_
    refine lv_iload hx hb d_L_law_1710 (lv_at hl 5 rfl) ?_
    refine ri_iconst hx hb d_L_law_1712 ?_
    refine ri_iadd hx hb d_L_law_1713 ?_
    refine sc_ld hx hb hX hbl hS (by omega) hL3 d_L_law_1714 ?_
    refine lv_aload_n hx hb d_L_law_1715 rfl (lv_at hl 1 rfl) ?_
    refine lv_iload hx hb d_L_law_1716 (lv_at hl 5 rfl) ?_
    refine ri_iconst hx hb d_L_law_1718 ?_
    refine ri_iadd hx hb d_L_law_1719 ?_
    refine sc_ld hx hb hX hbl hS (by omega) hL3 d_L_law_1720 ?_
    replace hP := wl_Pp hP (pm_law wc' (ao, .inl (k 1, al 1 o9)) (mWd k A v f))
    replace hD := wl_Dp hD (pm_law wc' (ao, .inl (k 1, al 1 o9)) (mWd k A v f))
    refine wd_callC h0 hS (ex_runV (C := "LathePiecesModel") (As := [.int (iI (sx xs (i + 1))), .int (iI (sx xs (i + 2)))]) (rest := []) ⟨hx, hb, hml, hown, hG⟩ (q_thread hC A hI ((ao, .inl (k 1, al 1 o9)) :: wc') (sx xs (i + 1)) (sx xs (i + 2)) (sx_rg _ _) (sx_rg _ _)) (cb_code (n := 2) hG g_879 g_3 g_876 rfl rfl (by decide +kernel) ⟨Nat.le_of_ble_eq_true rfl, Nat.le_of_ble_eq_true rfl⟩) (hG _ g_877) (hG _ g_878) (kd_V (kd_preW h0 hS hP hD) (kd_recv hK hP (q0 := 0) (ci := 6) rfl rfl rfl)) rfl rfl hl.1 rfl (lv_room (Nat.le_of_ble_eq_true rfl)) d_L_law_1721 ⟨(show cells + 2 + 0 ≤ 601024 by omega), (show slots + 12 + 0 ≤ 7293034 by omega)⟩) (fun E ws9 hE H locs hP hD hS q T0 hT0 hq => False.elim hE) (fun v9 ws9 h9 H locs hP hD hS => ?_)
    obtain ⟨rfl, rfl⟩ := h9.2 hq0
    show W _ _ _ _ _ _ _ _ _ _ _ _ _ _ _ (F0 m9 1724 ls [])
    refine lv_aload_n hx hb d_L_law_1724 rfl (lv_at hl 3 rfl) ?_
    refine rd_call (ex_runV (C := "LathePiecesModel") (As := []) (rest := []) ⟨hx, hb, hml, hown, hG⟩ (q_thrown hC A (vS (vS (vS v 0 0) 21 (sx xs (i + 1))) 22 (sx xs (i + 2))) f ((ao, .inl (k 1, al 1 o9)) :: wc')) (cb_code (n := 0) hG g_709 g_3 g_706 rfl rfl (by decide +kernel) ⟨Nat.le_of_ble_eq_true rfl, Nat.le_of_ble_eq_true rfl⟩) (hG _ g_707) (hG _ g_708) (kd_V (kd_pre h0 hS hP) (kd_recv hK hP (q0 := 0) (ci := 6) rfl rfl rfl)) rfl rfl hl.1 rfl (lv_room (Nat.le_of_ble_eq_true rfl)) d_L_law_1725 ⟨(show cells + 2 + 0 + 0 ≤ 601024 by omega), (show slots + 12 + 0 + 0 ≤ 7293034 by omega)⟩) (fun v9 h9 => ?_)
    subst h9
    show W _ _ _ _ _ _ _ _ _ _ _ _ _ _ _ (F0 m9 1728 ls [.int (iI (0))])
    refine lv_iload hx hb d_L_law_1728 (lv_at hl 0 rfl) ?_
    refine ri_icmp_eq (tgt := 1735) hx hb d_L_law_1730 (by decide) (by decide) (by decide) (fun _ => ?_) (fun c1730 => absurd rfl c1730)
    refine lv_goto (tgt := 1941) hx hb d_L_law_1735 (by decide) ?_
    replace hP := wl_Pp hP (pm_law (mWd k A (vS (vS (vS v 0 0) 21 (sx xs (i + 1))) 22 (sx xs (i + 2))) f) (ao, .inl (k 1, al 1 o9)) wc')
    replace hD := wl_Dp hD (pm_law (mWd k A (vS (vS (vS v 0 0) 21 (sx xs (i + 1))) 22 (sx xs (i + 2))) f) (ao, .inl (k 1, al 1 o9)) wc')
    refine W.widen (k := cells + 9) (n := slots + 167) (by omega) (by omega) ?_
    exact kk (vS (vS (vS v 0 0) 21 (sx xs (i + 1))) 22 (sx xs (i + 2))) f wc' o9 H locs ls hW2 hI2 hP hD hS (lv_sub hl [1, 2, 3, 4, 5] rfl)
  · show W _ _ _ _ _ _ _ _ _ _ _ _ _ _ _ (F0 m9 1706 ls [.int (iI (1))])
    refine lv_istore (lv' := [(5, .int (iI (1))), (0, .ref b), (1, .ref cx), (2, .ref (A 26)), (3, .ref ao), (4, .int (iI (i)))]) hx hb d_L_law_1706 hl (by decide) rfl (fun ls hl => ?_)
    refine lv_aload_n hx hb d_L_law_1708 rfl (lv_at hl 3 rfl) ?_
    refine lv_aload_n hx hb d_L_law_1709 rfl (lv_at hl 1 rfl) ?_
    refine lv_iload hx hb d_L_law_1710 (lv_at hl 5 rfl) ?_
    refine ri_iconst hx hb d_L_law_1712 ?_
    refine ri_iadd hx hb d_L_law_1713 ?_
    refine sc_ld hx hb hX hbl hS (by omega) hL3 d_L_law_1714 ?_
    refine lv_aload_n hx hb d_L_law_1715 rfl (lv_at hl 1 rfl) ?_
    refine lv_iload hx hb d_L_law_1716 (lv_at hl 5 rfl) ?_
    refine ri_iconst hx hb d_L_law_1718 ?_
    refine ri_iadd hx hb d_L_law_1719 ?_
    refine sc_ld hx hb hX hbl hS (by omega) hL3 d_L_law_1720 ?_
    replace hP := wl_Pp hP (pm_law wc' (ao, .inl (k 1, al 1 o9)) (mWd k A v f))
    replace hD := wl_Dp hD (pm_law wc' (ao, .inl (k 1, al 1 o9)) (mWd k A v f))
    refine wd_callC h0 hS (ex_runV (C := "LathePiecesModel") (As := [.int (iI (sx xs (i + 1))), .int (iI (sx xs (i + 2)))]) (rest := []) ⟨hx, hb, hml, hown, hG⟩ (q_thread hC A hI ((ao, .inl (k 1, al 1 o9)) :: wc') (sx xs (i + 1)) (sx xs (i + 2)) (sx_rg _ _) (sx_rg _ _)) (cb_code (n := 2) hG g_879 g_3 g_876 rfl rfl (by decide +kernel) ⟨Nat.le_of_ble_eq_true rfl, Nat.le_of_ble_eq_true rfl⟩) (hG _ g_877) (hG _ g_878) (kd_V (kd_preW h0 hS hP hD) (kd_recv hK hP (q0 := 0) (ci := 6) rfl rfl rfl)) rfl rfl hl.1 rfl (lv_room (Nat.le_of_ble_eq_true rfl)) d_L_law_1721 ⟨(show cells + 2 + 0 ≤ 601024 by omega), (show slots + 12 + 0 ≤ 7293034 by omega)⟩) (fun E ws9 hE H locs hP hD hS q T0 hT0 hq => False.elim hE) (fun v9 ws9 h9 H locs hP hD hS => ?_)
    obtain ⟨rfl, rfl⟩ := h9.1 hq0
    show W _ _ _ _ _ _ _ _ _ _ _ _ _ _ _ (F0 m9 1724 ls [])
    refine lv_aload_n hx hb d_L_law_1724 rfl (lv_at hl 3 rfl) ?_
    refine rd_call (ex_runV (C := "LathePiecesModel") (As := []) (rest := []) ⟨hx, hb, hml, hown, hG⟩ (q_thrown hC A (vS v 0 1) f ((ao, .inl (k 1, al 1 o9)) :: wc')) (cb_code (n := 0) hG g_709 g_3 g_706 rfl rfl (by decide +kernel) ⟨Nat.le_of_ble_eq_true rfl, Nat.le_of_ble_eq_true rfl⟩) (hG _ g_707) (hG _ g_708) (kd_V (kd_pre h0 hS hP) (kd_recv hK hP (q0 := 0) (ci := 6) rfl rfl rfl)) rfl rfl hl.1 rfl (lv_room (Nat.le_of_ble_eq_true rfl)) d_L_law_1725 ⟨(show cells + 2 + 0 + 0 ≤ 601024 by omega), (show slots + 12 + 0 + 0 ≤ 7293034 by omega)⟩) (fun v9 h9 => ?_)
    subst h9
    show W _ _ _ _ _ _ _ _ _ _ _ _ _ _ _ (F0 m9 1728 ls [.int (iI (1))])
    refine lv_iload hx hb d_L_law_1728 (lv_at hl 0 rfl) ?_
    refine ri_icmp_eq (tgt := 1735) hx hb d_L_law_1730 (by decide) (by decide) (by decide) (fun _ => ?_) (fun c1730 => absurd rfl c1730)
    refine lv_goto (tgt := 1941) hx hb d_L_law_1735 (by decide) ?_
    replace hP := wl_Pp hP (pm_law (mWd k A (vS v 0 1) f) (ao, .inl (k 1, al 1 o9)) wc')
    replace hD := wl_Dp hD (pm_law (mWd k A (vS v 0 1) f) (ao, .inl (k 1, al 1 o9)) wc')
    refine W.widen (k := cells + 9) (n := slots + 167) (by omega) (by omega) ?_
    exact kk (vS v 0 1) f wc' o9 H locs ls (Cst.code hW2 1) (Iv.code hI 1) hP hD hS (lv_sub hl [1, 2, 3, 4, 5] rfl)
set_option maxHeartbeats 4000000 in
set_option maxRecDepth 100000 in
theorem t_threadAt {p9 : Program} {l : Launch} {e9 : Env} {s : State} {m9 : MethodId} {below9 : List Frame} {meth9 : Method} {c9 : Code} {Q9 : State → Prop} {b L : Nat} {xs : Nat → Int32} {D : va_G} {k : Nat → ClassId} (C0 : LwC p9 l s m9 c9 b L xs D k) {cx : Nat} {A : Nat → Nat} {ao : Nat} {i : Int} {cells slots : Nat} (hi : 0 ≤ i ∧ i + 5 < L) (hc : cells + 9 ≤ 601024) (hs : slots + 167 ≤ 7293034) (kk : LwK p9 l e9 s m9 below9 meth9 c9 b D k cx A ao i (cells + 9) (slots + 167) Q9) {v : Nat → Int} {f : Nat → Int → Int} {wc : va_W} {o9 : Int → Int} {H : Heap} {locs : List Loc} {ls : Array Slot} (hI : Iv v f) (hW : Cst k cx v f wc) (hP : va_P D classes (wc ++ ((ao, .inl (k 1, al 1 o9)) :: mWd k A v f)) H) (hD : va_D (aL s) (wc ++ ((ao, .inl (k 1, al 1 o9)) :: mWd k A v f))) (hS : va_S (aL s) s.heap H locs) (hl : lv_has ls 8 [(0, .ref b), (1, .ref cx), (2, .ref (A 26)), (3, .ref ao), (4, .int (iI (i)))]) : W p9 l e9 room_1 s m9 #[Value.ref b] below9 meth9 c9 H locs cells slots Q9 (F0 m9 1738 ls []) := by
  obtain ⟨hx, hb, hml, hown, hG, hX, hbl, hL3, hC⟩ := id C0
  have h0 : La s s := ⟨State.WarmedH.refl s, Nat.le_refl _, fun _ _ => rfl⟩
  have hK := cx_K hC h0
  refine lv_aload_n hx hb d_L_law_1738 rfl (lv_at hl 1 rfl) ?_
  refine lv_aload_n hx hb d_L_law_1739 rfl (lv_at hl 0 rfl) ?_
  refine lv_iload hx hb d_L_law_1740 (lv_at hl 4 rfl) ?_
  refine ri_iconst hx hb d_L_law_1742 ?_
  refine ri_iadd hx hb d_L_law_1743 ?_
  refine sc_ld hx hb hX hbl hS (by omega) hL3 d_L_law_1744 ?_
  refine lv_aload_n hx hb d_L_law_1745 rfl (lv_at hl 0 rfl) ?_
  refine lv_iload hx hb d_L_law_1746 (lv_at hl 4 rfl) ?_
  refine ri_iconst hx hb d_L_law_1748 ?_
  refine ri_iadd hx hb d_L_law_1749 ?_
  refine sc_ld hx hb hX hbl hS (by omega) hL3 d_L_law_1750 ?_
  refine lv_aload_n hx hb d_L_law_1751 rfl (lv_at hl 3 rfl) ?_
  refine wd_callC h0 hS (ex_runS (As := [.ref cx, .int (iI (sx xs (i + 1))), .int (iI (sx xs (i + 2))), .ref ao]) (rest := []) ⟨hx, hb, hml, hown, hG⟩ (w_threadAt hC hI hW (mWd k A v f) ao o9 (sx xs (i + 1)) (sx xs (i + 2)) (sx_rg _ _) (sx_rg _ _)) (cb_with (n := 4) hG g_597 g_0 g_595 rfl rfl (by decide +kernel) ⟨Nat.le_of_ble_eq_true rfl, Nat.le_of_ble_eq_true rfl⟩) (hG _ g_596) (kd_preW h0 hS hP hD) rfl rfl hl.1 rfl (lv_room (Nat.le_of_ble_eq_true rfl)) d_L_law_1752 ⟨(show cells + 3 ≤ 601024 by omega), (show slots + 18 ≤ 7293034 by omega)⟩) (fun E ws9 hE H locs hP hD hS q T0 hT0 hq => False.elim hE) (fun v9 ws9 h9 H locs hP hD hS => ?_)
  obtain ⟨wc', o', kz, rfl, rfl, h9⟩ := h9
  rcases h9 with ⟨rfl, hq0, ho, hW2, hI2⟩ | ⟨rfl, hq0, hW2⟩ | ⟨rfl, hq0, hW2⟩ | ⟨rfl, hq0, hW2⟩
  · show W _ _ _ _ _ _ _ _ _ _ _ _ _ _ _ (F0 m9 1755 ls [.int (iI (0))])
    refine lv_istore (lv' := [(5, .int (iI (0))), (0, .ref b), (1, .ref cx), (2, .ref (A 26)), (3, .ref ao), (4, .int (iI (i)))]) hx hb d_L_law_1755 hl (by decide) rfl (fun ls hl => ?_)
    refine lv_aload_n hx hb d_L_law_1757 rfl (lv_at hl 3 rfl) ?_
    refine lv_aload_n hx hb d_L_law_1758 rfl (lv_at hl 1 rfl) ?_
    refine lv_iload hx hb d_L_law_1759 (lv_at hl 5 rfl) ?_
    refine ri_iconst hx hb d_L_law_1761 ?_
    refine ri_iadd hx hb d_L_law_1762 ?_
    refine sc_ld hx hb hX hbl hS (by omega) hL3 d_L_law_1763 ?_
    refine lv_aload_n hx hb d_L_law_1764 rfl (lv_at hl 1 rfl) ?_
    refine lv_iload hx hb d_L_law_1765 (lv_at hl 5 rfl) ?_
    refine ri_iconst hx hb d_L_law_1767 ?_
    refine ri_iadd hx hb d_L_law_1768 ?_
    refine sc_ld hx hb hX hbl hS (by omega) hL3 d_L_law_1769 ?_
    replace hP := wl_Pp hP (pm_law wc' (ao, .inl (k 1, al 1 o')) (mWd k A v f))
    replace hD := wl_Dp hD (pm_law wc' (ao, .inl (k 1, al 1 o')) (mWd k A v f))
    refine wd_callC h0 hS (ex_runV (C := "LathePiecesModel") (As := [.int (iI (sx xs (i + 1))), .int (iI (sx xs (i + 2)))]) (rest := []) ⟨hx, hb, hml, hown, hG⟩ (q_threadAt hC A hI ((ao, .inl (k 1, al 1 o')) :: wc') (sx xs (i + 1)) (sx xs (i + 2)) (sx_rg _ _) (sx_rg _ _)) (cb_code (n := 2) hG g_883 g_3 g_880 rfl rfl (by decide +kernel) ⟨Nat.le_of_ble_eq_true rfl, Nat.le_of_ble_eq_true rfl⟩) (hG _ g_881) (hG _ g_882) (kd_V (kd_preW h0 hS hP hD) (kd_recv hK hP (q0 := 0) (ci := 6) rfl rfl rfl)) rfl rfl hl.1 rfl (lv_room (Nat.le_of_ble_eq_true rfl)) d_L_law_1770 ⟨(show cells + 3 + 0 ≤ 601024 by omega), (show slots + 18 + 0 ≤ 7293034 by omega)⟩) (fun E ws9 hE H locs hP hD hS q T0 hT0 hq => False.elim hE) (fun v9 ws9 h9 H locs hP hD hS => ?_)
    obtain ⟨rfl, rfl⟩ := h9.2.2.2 hq0
    show W _ _ _ _ _ _ _ _ _ _ _ _ _ _ _ (F0 m9 1773 ls [.long (jJ (frP ((sx xs (i + 1)) * (v 21)) (v 22) (sx xs (i + 2))))])
    refine lv_lstore (lv' := [(6, .long (jJ (frP ((sx xs (i + 1)) * (v 21)) (v 22) (sx xs (i + 2))))), (5, .int (iI (0))), (0, .ref b), (1, .ref cx), (2, .ref (A 26)), (3, .ref ao), (4, .int (iI (i)))]) hx hb d_L_law_1773 hl (by decide) rfl (fun ls hl => ?_)
    refine lv_aload_n hx hb d_L_law_1775 rfl (lv_at hl 4 rfl) ?_
    refine rd_call (ex_runV (C := "LathePiecesModel") (As := []) (rest := []) ⟨hx, hb, hml, hown, hG⟩ (q_thrown hC A (vS v 0 0) f ((ao, .inl (k 1, al 1 o')) :: wc')) (cb_code (n := 0) hG g_709 g_3 g_706 rfl rfl (by decide +kernel) ⟨Nat.le_of_ble_eq_true rfl, Nat.le_of_ble_eq_true rfl⟩) (hG _ g_707) (hG _ g_708) (kd_V (kd_pre h0 hS hP) (kd_recv hK hP (q0 := 0) (ci := 6) rfl rfl rfl)) rfl rfl hl.1 rfl (lv_room (Nat.le_of_ble_eq_true rfl)) d_L_law_1776 ⟨(show cells + 3 + 0 + 0 ≤ 601024 by omega), (show slots + 18 + 0 + 0 ≤ 7293034 by omega)⟩) (fun v9 h9 => ?_)
    subst h9
    show W _ _ _ _ _ _ _ _ _ _ _ _ _ _ _ (F0 m9 1779 ls [.int (iI (0))])
    refine lv_iload hx hb d_L_law_1779 (lv_at hl 1 rfl) ?_
    refine ri_icmp_eq (tgt := 1786) hx hb d_L_law_1781 (by decide) (by decide) (by decide) (fun _ => ?_) (fun c1781 => absurd rfl c1781)
    refine lv_iload hx hb d_L_law_1786 (lv_at hl 1 rfl) ?_
    refine ri_if_ne (tgt := 1802) hx hb d_L_law_1788 (by decide) (by decide) (fun c1788 => absurd rfl c1788) (fun _ => ?_)
    refine lv_aload_n hx hb d_L_law_1791 rfl (lv_at hl 5 rfl) ?_
    refine ri_iconst hx hb d_L_law_1792 ?_
    replace hP := wl_Pp hP (pm_lf (mWd k A (vS v 0 0) f) (ao, .inl (k 1, al 1 o')) wc')
    replace hD := wl_Dp hD (pm_lf (mWd k A (vS v 0 0) f) (ao, .inl (k 1, al 1 o')) wc')
    refine ra_lald hx hb hK hP 0 rfl (by omega) (by omega) d_L_law_1793 ?_
    refine tp_l (y := jJ (frP ((sx xs (i + 1)) * (v 21)) (v 22) (sx xs (i + 2)))) (congrArg jJ ho) ?_
    refine lv_lload hx hb d_L_law_1794 (lv_at hl 0 rfl) ?_
    refine lc_same (tgt := 1802) hx hb d_L_law_1796 d_L_law_1797 (by decide) ?_
    refine lv_goto (tgt := 1941) hx hb d_L_law_1802 (by decide) ?_
    replace hP := wl_Pp hP (pm_lb (mWd k A (vS v 0 0) f) (ao, .inl (k 1, al 1 o')) wc')
    replace hD := wl_Dp hD (pm_lb (mWd k A (vS v 0 0) f) (ao, .inl (k 1, al 1 o')) wc')
    refine W.widen (k := cells + 9) (n := slots + 167) (by omega) (by omega) ?_
    exact kk (vS v 0 0) f wc' o' H locs ls (Cst.code hW2 0) (Iv.code hI2 0) hP hD hS (lv_sub hl [2, 3, 4, 5, 6] rfl)
  · show W _ _ _ _ _ _ _ _ _ _ _ _ _ _ _ (F0 m9 1755 ls [.int (iI (1))])
    refine lv_istore (lv' := [(5, .int (iI (1))), (0, .ref b), (1, .ref cx), (2, .ref (A 26)), (3, .ref ao), (4, .int (iI (i)))]) hx hb d_L_law_1755 hl (by decide) rfl (fun ls hl => ?_)
    refine lv_aload_n hx hb d_L_law_1757 rfl (lv_at hl 3 rfl) ?_
    refine lv_aload_n hx hb d_L_law_1758 rfl (lv_at hl 1 rfl) ?_
    refine lv_iload hx hb d_L_law_1759 (lv_at hl 5 rfl) ?_
    refine ri_iconst hx hb d_L_law_1761 ?_
    refine ri_iadd hx hb d_L_law_1762 ?_
    refine sc_ld hx hb hX hbl hS (by omega) hL3 d_L_law_1763 ?_
    refine lv_aload_n hx hb d_L_law_1764 rfl (lv_at hl 1 rfl) ?_
    refine lv_iload hx hb d_L_law_1765 (lv_at hl 5 rfl) ?_
    refine ri_iconst hx hb d_L_law_1767 ?_
    refine ri_iadd hx hb d_L_law_1768 ?_
    refine sc_ld hx hb hX hbl hS (by omega) hL3 d_L_law_1769 ?_
    replace hP := wl_Pp hP (pm_law wc' (ao, .inl (k 1, al 1 o')) (mWd k A v f))
    replace hD := wl_Dp hD (pm_law wc' (ao, .inl (k 1, al 1 o')) (mWd k A v f))
    refine wd_callC h0 hS (ex_runV (C := "LathePiecesModel") (As := [.int (iI (sx xs (i + 1))), .int (iI (sx xs (i + 2)))]) (rest := []) ⟨hx, hb, hml, hown, hG⟩ (q_threadAt hC A hI ((ao, .inl (k 1, al 1 o')) :: wc') (sx xs (i + 1)) (sx xs (i + 2)) (sx_rg _ _) (sx_rg _ _)) (cb_code (n := 2) hG g_883 g_3 g_880 rfl rfl (by decide +kernel) ⟨Nat.le_of_ble_eq_true rfl, Nat.le_of_ble_eq_true rfl⟩) (hG _ g_881) (hG _ g_882) (kd_V (kd_preW h0 hS hP hD) (kd_recv hK hP (q0 := 0) (ci := 6) rfl rfl rfl)) rfl rfl hl.1 rfl (lv_room (Nat.le_of_ble_eq_true rfl)) d_L_law_1770 ⟨(show cells + 3 + 0 ≤ 601024 by omega), (show slots + 18 + 0 ≤ 7293034 by omega)⟩) (fun E ws9 hE H locs hP hD hS q T0 hT0 hq => False.elim hE) (fun v9 ws9 h9 H locs hP hD hS => ?_)
    obtain ⟨rfl, rfl⟩ := h9.1 hq0
    show W _ _ _ _ _ _ _ _ _ _ _ _ _ _ _ (F0 m9 1773 ls [.long (jJ (0))])
    refine lv_lstore (lv' := [(6, .long (jJ (0))), (5, .int (iI (1))), (0, .ref b), (1, .ref cx), (2, .ref (A 26)), (3, .ref ao), (4, .int (iI (i)))]) hx hb d_L_law_1773 hl (by decide) rfl (fun ls hl => ?_)
    refine lv_aload_n hx hb d_L_law_1775 rfl (lv_at hl 4 rfl) ?_
    refine rd_call (ex_runV (C := "LathePiecesModel") (As := []) (rest := []) ⟨hx, hb, hml, hown, hG⟩ (q_thrown hC A (vS v 0 1) f ((ao, .inl (k 1, al 1 o')) :: wc')) (cb_code (n := 0) hG g_709 g_3 g_706 rfl rfl (by decide +kernel) ⟨Nat.le_of_ble_eq_true rfl, Nat.le_of_ble_eq_true rfl⟩) (hG _ g_707) (hG _ g_708) (kd_V (kd_pre h0 hS hP) (kd_recv hK hP (q0 := 0) (ci := 6) rfl rfl rfl)) rfl rfl hl.1 rfl (lv_room (Nat.le_of_ble_eq_true rfl)) d_L_law_1776 ⟨(show cells + 3 + 0 + 0 ≤ 601024 by omega), (show slots + 18 + 0 + 0 ≤ 7293034 by omega)⟩) (fun v9 h9 => ?_)
    subst h9
    show W _ _ _ _ _ _ _ _ _ _ _ _ _ _ _ (F0 m9 1779 ls [.int (iI (1))])
    refine lv_iload hx hb d_L_law_1779 (lv_at hl 1 rfl) ?_
    refine ri_icmp_eq (tgt := 1786) hx hb d_L_law_1781 (by decide) (by decide) (by decide) (fun _ => ?_) (fun c1781 => absurd rfl c1781)
    refine lv_iload hx hb d_L_law_1786 (lv_at hl 1 rfl) ?_
    refine ri_if_ne (tgt := 1802) hx hb d_L_law_1788 (by decide) (by decide) (fun _ => ?_) (fun c1788 => absurd c1788 (by decide))
    refine lv_goto (tgt := 1941) hx hb d_L_law_1802 (by decide) ?_
    replace hP := wl_Pp hP (pm_law (mWd k A (vS v 0 1) f) (ao, .inl (k 1, al 1 o')) wc')
    replace hD := wl_Dp hD (pm_law (mWd k A (vS v 0 1) f) (ao, .inl (k 1, al 1 o')) wc')
    refine W.widen (k := cells + 9) (n := slots + 167) (by omega) (by omega) ?_
    exact kk (vS v 0 1) f wc' o' H locs ls (Cst.code hW2 1) (Iv.code hI 1) hP hD hS (lv_sub hl [2, 3, 4, 5, 6] rfl)
  · show W _ _ _ _ _ _ _ _ _ _ _ _ _ _ _ (F0 m9 1755 ls [.int (iI (2))])
    refine lv_istore (lv' := [(5, .int (iI (2))), (0, .ref b), (1, .ref cx), (2, .ref (A 26)), (3, .ref ao), (4, .int (iI (i)))]) hx hb d_L_law_1755 hl (by decide) rfl (fun ls hl => ?_)
    refine lv_aload_n hx hb d_L_law_1757 rfl (lv_at hl 3 rfl) ?_
    refine lv_aload_n hx hb d_L_law_1758 rfl (lv_at hl 1 rfl) ?_
    refine lv_iload hx hb d_L_law_1759 (lv_at hl 5 rfl) ?_
    refine ri_iconst hx hb d_L_law_1761 ?_
    refine ri_iadd hx hb d_L_law_1762 ?_
    refine sc_ld hx hb hX hbl hS (by omega) hL3 d_L_law_1763 ?_
    refine lv_aload_n hx hb d_L_law_1764 rfl (lv_at hl 1 rfl) ?_
    refine lv_iload hx hb d_L_law_1765 (lv_at hl 5 rfl) ?_
    refine ri_iconst hx hb d_L_law_1767 ?_
    refine ri_iadd hx hb d_L_law_1768 ?_
    refine sc_ld hx hb hX hbl hS (by omega) hL3 d_L_law_1769 ?_
    replace hP := wl_Pp hP (pm_law wc' (ao, .inl (k 1, al 1 o')) (mWd k A v f))
    replace hD := wl_Dp hD (pm_law wc' (ao, .inl (k 1, al 1 o')) (mWd k A v f))
    refine wd_callC h0 hS (ex_runV (C := "LathePiecesModel") (As := [.int (iI (sx xs (i + 1))), .int (iI (sx xs (i + 2)))]) (rest := []) ⟨hx, hb, hml, hown, hG⟩ (q_threadAt hC A hI ((ao, .inl (k 1, al 1 o')) :: wc') (sx xs (i + 1)) (sx xs (i + 2)) (sx_rg _ _) (sx_rg _ _)) (cb_code (n := 2) hG g_883 g_3 g_880 rfl rfl (by decide +kernel) ⟨Nat.le_of_ble_eq_true rfl, Nat.le_of_ble_eq_true rfl⟩) (hG _ g_881) (hG _ g_882) (kd_V (kd_preW h0 hS hP hD) (kd_recv hK hP (q0 := 0) (ci := 6) rfl rfl rfl)) rfl rfl hl.1 rfl (lv_room (Nat.le_of_ble_eq_true rfl)) d_L_law_1770 ⟨(show cells + 3 + 0 ≤ 601024 by omega), (show slots + 18 + 0 ≤ 7293034 by omega)⟩) (fun E ws9 hE H locs hP hD hS q T0 hT0 hq => False.elim hE) (fun v9 ws9 h9 H locs hP hD hS => ?_)
    obtain ⟨rfl, rfl⟩ := h9.2.1 hq0
    show W _ _ _ _ _ _ _ _ _ _ _ _ _ _ _ (F0 m9 1773 ls [.long (jJ (0))])
    refine lv_lstore (lv' := [(6, .long (jJ (0))), (5, .int (iI (2))), (0, .ref b), (1, .ref cx), (2, .ref (A 26)), (3, .ref ao), (4, .int (iI (i)))]) hx hb d_L_law_1773 hl (by decide) rfl (fun ls hl => ?_)
    refine lv_aload_n hx hb d_L_law_1775 rfl (lv_at hl 4 rfl) ?_
    refine rd_call (ex_runV (C := "LathePiecesModel") (As := []) (rest := []) ⟨hx, hb, hml, hown, hG⟩ (q_thrown hC A (vS v 0 2) f ((ao, .inl (k 1, al 1 o')) :: wc')) (cb_code (n := 0) hG g_709 g_3 g_706 rfl rfl (by decide +kernel) ⟨Nat.le_of_ble_eq_true rfl, Nat.le_of_ble_eq_true rfl⟩) (hG _ g_707) (hG _ g_708) (kd_V (kd_pre h0 hS hP) (kd_recv hK hP (q0 := 0) (ci := 6) rfl rfl rfl)) rfl rfl hl.1 rfl (lv_room (Nat.le_of_ble_eq_true rfl)) d_L_law_1776 ⟨(show cells + 3 + 0 + 0 ≤ 601024 by omega), (show slots + 18 + 0 + 0 ≤ 7293034 by omega)⟩) (fun v9 h9 => ?_)
    subst h9
    show W _ _ _ _ _ _ _ _ _ _ _ _ _ _ _ (F0 m9 1779 ls [.int (iI (2))])
    refine lv_iload hx hb d_L_law_1779 (lv_at hl 1 rfl) ?_
    refine ri_icmp_eq (tgt := 1786) hx hb d_L_law_1781 (by decide) (by decide) (by decide) (fun _ => ?_) (fun c1781 => absurd rfl c1781)
    refine lv_iload hx hb d_L_law_1786 (lv_at hl 1 rfl) ?_
    refine ri_if_ne (tgt := 1802) hx hb d_L_law_1788 (by decide) (by decide) (fun _ => ?_) (fun c1788 => absurd c1788 (by decide))
    refine lv_goto (tgt := 1941) hx hb d_L_law_1802 (by decide) ?_
    replace hP := wl_Pp hP (pm_law (mWd k A (vS v 0 2) f) (ao, .inl (k 1, al 1 o')) wc')
    replace hD := wl_Dp hD (pm_law (mWd k A (vS v 0 2) f) (ao, .inl (k 1, al 1 o')) wc')
    refine W.widen (k := cells + 9) (n := slots + 167) (by omega) (by omega) ?_
    exact kk (vS v 0 2) f wc' o' H locs ls (Cst.code hW2 2) (Iv.code hI 2) hP hD hS (lv_sub hl [2, 3, 4, 5, 6] rfl)
  · show W _ _ _ _ _ _ _ _ _ _ _ _ _ _ _ (F0 m9 1755 ls [.int (iI (3))])
    refine lv_istore (lv' := [(5, .int (iI (3))), (0, .ref b), (1, .ref cx), (2, .ref (A 26)), (3, .ref ao), (4, .int (iI (i)))]) hx hb d_L_law_1755 hl (by decide) rfl (fun ls hl => ?_)
    refine lv_aload_n hx hb d_L_law_1757 rfl (lv_at hl 3 rfl) ?_
    refine lv_aload_n hx hb d_L_law_1758 rfl (lv_at hl 1 rfl) ?_
    refine lv_iload hx hb d_L_law_1759 (lv_at hl 5 rfl) ?_
    refine ri_iconst hx hb d_L_law_1761 ?_
    refine ri_iadd hx hb d_L_law_1762 ?_
    refine sc_ld hx hb hX hbl hS (by omega) hL3 d_L_law_1763 ?_
    refine lv_aload_n hx hb d_L_law_1764 rfl (lv_at hl 1 rfl) ?_
    refine lv_iload hx hb d_L_law_1765 (lv_at hl 5 rfl) ?_
    refine ri_iconst hx hb d_L_law_1767 ?_
    refine ri_iadd hx hb d_L_law_1768 ?_
    refine sc_ld hx hb hX hbl hS (by omega) hL3 d_L_law_1769 ?_
    replace hP := wl_Pp hP (pm_law wc' (ao, .inl (k 1, al 1 o')) (mWd k A v f))
    replace hD := wl_Dp hD (pm_law wc' (ao, .inl (k 1, al 1 o')) (mWd k A v f))
    refine wd_callC h0 hS (ex_runV (C := "LathePiecesModel") (As := [.int (iI (sx xs (i + 1))), .int (iI (sx xs (i + 2)))]) (rest := []) ⟨hx, hb, hml, hown, hG⟩ (q_threadAt hC A hI ((ao, .inl (k 1, al 1 o')) :: wc') (sx xs (i + 1)) (sx xs (i + 2)) (sx_rg _ _) (sx_rg _ _)) (cb_code (n := 2) hG g_883 g_3 g_880 rfl rfl (by decide +kernel) ⟨Nat.le_of_ble_eq_true rfl, Nat.le_of_ble_eq_true rfl⟩) (hG _ g_881) (hG _ g_882) (kd_V (kd_preW h0 hS hP hD) (kd_recv hK hP (q0 := 0) (ci := 6) rfl rfl rfl)) rfl rfl hl.1 rfl (lv_room (Nat.le_of_ble_eq_true rfl)) d_L_law_1770 ⟨(show cells + 3 + 0 ≤ 601024 by omega), (show slots + 18 + 0 ≤ 7293034 by omega)⟩) (fun E ws9 hE H locs hP hD hS q T0 hT0 hq => False.elim hE) (fun v9 ws9 h9 H locs hP hD hS => ?_)
    obtain ⟨rfl, rfl⟩ := h9.2.2.1 hq0
    show W _ _ _ _ _ _ _ _ _ _ _ _ _ _ _ (F0 m9 1773 ls [.long (jJ (0))])
    refine lv_lstore (lv' := [(6, .long (jJ (0))), (5, .int (iI (3))), (0, .ref b), (1, .ref cx), (2, .ref (A 26)), (3, .ref ao), (4, .int (iI (i)))]) hx hb d_L_law_1773 hl (by decide) rfl (fun ls hl => ?_)
    refine lv_aload_n hx hb d_L_law_1775 rfl (lv_at hl 4 rfl) ?_
    refine rd_call (ex_runV (C := "LathePiecesModel") (As := []) (rest := []) ⟨hx, hb, hml, hown, hG⟩ (q_thrown hC A (vS v 0 3) f ((ao, .inl (k 1, al 1 o')) :: wc')) (cb_code (n := 0) hG g_709 g_3 g_706 rfl rfl (by decide +kernel) ⟨Nat.le_of_ble_eq_true rfl, Nat.le_of_ble_eq_true rfl⟩) (hG _ g_707) (hG _ g_708) (kd_V (kd_pre h0 hS hP) (kd_recv hK hP (q0 := 0) (ci := 6) rfl rfl rfl)) rfl rfl hl.1 rfl (lv_room (Nat.le_of_ble_eq_true rfl)) d_L_law_1776 ⟨(show cells + 3 + 0 + 0 ≤ 601024 by omega), (show slots + 18 + 0 + 0 ≤ 7293034 by omega)⟩) (fun v9 h9 => ?_)
    subst h9
    show W _ _ _ _ _ _ _ _ _ _ _ _ _ _ _ (F0 m9 1779 ls [.int (iI (3))])
    refine lv_iload hx hb d_L_law_1779 (lv_at hl 1 rfl) ?_
    refine ri_icmp_eq (tgt := 1786) hx hb d_L_law_1781 (by decide) (by decide) (by decide) (fun _ => ?_) (fun c1781 => absurd rfl c1781)
    refine lv_iload hx hb d_L_law_1786 (lv_at hl 1 rfl) ?_
    refine ri_if_ne (tgt := 1802) hx hb d_L_law_1788 (by decide) (by decide) (fun _ => ?_) (fun c1788 => absurd c1788 (by decide))
    refine lv_goto (tgt := 1941) hx hb d_L_law_1802 (by decide) ?_
    replace hP := wl_Pp hP (pm_law (mWd k A (vS v 0 3) f) (ao, .inl (k 1, al 1 o')) wc')
    replace hD := wl_Dp hD (pm_law (mWd k A (vS v 0 3) f) (ao, .inl (k 1, al 1 o')) wc')
    refine W.widen (k := cells + 9) (n := slots + 167) (by omega) (by omega) ?_
    exact kk (vS v 0 3) f wc' o' H locs ls (Cst.code hW2 3) (Iv.code hI 3) hP hD hS (lv_sub hl [2, 3, 4, 5, 6] rfl)
set_option maxHeartbeats 4000000 in
set_option maxRecDepth 100000 in
theorem t_row {p9 : Program} {l : Launch} {e9 : Env} {s : State} {m9 : MethodId} {below9 : List Frame} {meth9 : Method} {c9 : Code} {Q9 : State → Prop} {b L : Nat} {xs : Nat → Int32} {D : va_G} {k : Nat → ClassId} (C0 : LwC p9 l s m9 c9 b L xs D k) {cx : Nat} {A : Nat → Nat} {ao : Nat} {i : Int} {cells slots : Nat} (hi : 0 ≤ i ∧ i + 5 < L) (hc : cells + 9 ≤ 601024) (hs : slots + 167 ≤ 7293034) (kk : LwK p9 l e9 s m9 below9 meth9 c9 b D k cx A ao i (cells + 9) (slots + 167) Q9) {v : Nat → Int} {f : Nat → Int → Int} {wc : va_W} {o9 : Int → Int} {H : Heap} {locs : List Loc} {ls : Array Slot} (hI : Iv v f) (hW : Cst k cx v f wc) (hP : va_P D classes (wc ++ ((ao, .inl (k 1, al 1 o9)) :: mWd k A v f)) H) (hD : va_D (aL s) (wc ++ ((ao, .inl (k 1, al 1 o9)) :: mWd k A v f))) (hS : va_S (aL s) s.heap H locs) (hl : lv_has ls 8 [(0, .ref b), (1, .ref cx), (2, .ref (A 26)), (3, .ref ao), (4, .int (iI (i)))]) : W p9 l e9 room_1 s m9 #[Value.ref b] below9 meth9 c9 H locs cells slots Q9 (F0 m9 1805 ls []) := by
  obtain ⟨hx, hb, hml, hown, hG, hX, hbl, hL3, hC⟩ := id C0
  have h0 : La s s := ⟨State.WarmedH.refl s, Nat.le_refl _, fun _ _ => rfl⟩
  have hK := cx_K hC h0
  refine lv_aload_n hx hb d_L_law_1805 rfl (lv_at hl 1 rfl) ?_
  refine lv_aload_n hx hb d_L_law_1806 rfl (lv_at hl 0 rfl) ?_
  refine lv_iload hx hb d_L_law_1807 (lv_at hl 4 rfl) ?_
  refine ri_iconst hx hb d_L_law_1809 ?_
  refine ri_iadd hx hb d_L_law_1810 ?_
  refine sc_ld hx hb hX hbl hS (by omega) hL3 d_L_law_1811 ?_
  refine lv_aload_n hx hb d_L_law_1812 rfl (lv_at hl 0 rfl) ?_
  refine lv_iload hx hb d_L_law_1813 (lv_at hl 4 rfl) ?_
  refine ri_iconst hx hb d_L_law_1815 ?_
  refine ri_iadd hx hb d_L_law_1816 ?_
  refine sc_ld hx hb hX hbl hS (by omega) hL3 d_L_law_1817 ?_
  refine lv_aload_n hx hb d_L_law_1818 rfl (lv_at hl 3 rfl) ?_
  refine wd_callC h0 hS (ex_runS (As := [.ref cx, .int (iI (sx xs (i + 1))), .int (iI (sx xs (i + 2))), .ref ao]) (rest := []) ⟨hx, hb, hml, hown, hG⟩ (w_row hC hI hW (mWd k A v f) ao o9 (sx xs (i + 1)) (sx xs (i + 2)) (sx_rg _ _) (sx_rg _ _)) (cb_with (n := 4) hG g_606 g_0 g_604 rfl rfl (by decide +kernel) ⟨Nat.le_of_ble_eq_true rfl, Nat.le_of_ble_eq_true rfl⟩) (hG _ g_605) (kd_preW h0 hS hP hD) rfl rfl hl.1 rfl (lv_room (Nat.le_of_ble_eq_true rfl)) d_L_law_1819 ⟨(show cells + 3 ≤ 601024 by omega), (show slots + 18 ≤ 7293034 by omega)⟩) (fun E ws9 hE H locs hP hD hS q T0 hT0 hq => False.elim hE) (fun v9 ws9 h9 H locs hP hD hS => ?_)
  obtain ⟨wc', o', kz, rfl, rfl, h9⟩ := h9
  rcases h9 with ⟨rfl, hq0, ho, hW2, hI2⟩ | ⟨rfl, hq0, hW2⟩ | ⟨rfl, hq0, hW2⟩
  · show W _ _ _ _ _ _ _ _ _ _ _ _ _ _ _ (F0 m9 1822 ls [.int (iI (0))])
    refine lv_istore (lv' := [(5, .int (iI (0))), (0, .ref b), (1, .ref cx), (2, .ref (A 26)), (3, .ref ao), (4, .int (iI (i)))]) hx hb d_L_law_1822 hl (by decide) rfl (fun ls hl => ?_)
    refine lv_aload_n hx hb d_L_law_1824 rfl (lv_at hl 3 rfl) ?_
    refine lv_aload_n hx hb d_L_law_1825 rfl (lv_at hl 1 rfl) ?_
    refine lv_iload hx hb d_L_law_1826 (lv_at hl 5 rfl) ?_
    refine ri_iconst hx hb d_L_law_1828 ?_
    refine ri_iadd hx hb d_L_law_1829 ?_
    refine sc_ld hx hb hX hbl hS (by omega) hL3 d_L_law_1830 ?_
    refine lv_aload_n hx hb d_L_law_1831 rfl (lv_at hl 1 rfl) ?_
    refine lv_iload hx hb d_L_law_1832 (lv_at hl 5 rfl) ?_
    refine ri_iconst hx hb d_L_law_1834 ?_
    refine ri_iadd hx hb d_L_law_1835 ?_
    refine sc_ld hx hb hX hbl hS (by omega) hL3 d_L_law_1836 ?_
    replace hP := wl_Pp hP (pm_law wc' (ao, .inl (k 1, al 1 o')) (mWd k A v f))
    replace hD := wl_Dp hD (pm_law wc' (ao, .inl (k 1, al 1 o')) (mWd k A v f))
    refine wd_callC h0 hS (ex_runV (C := "LathePiecesModel") (As := [.int (iI (sx xs (i + 1))), .int (iI (sx xs (i + 2)))]) (rest := []) ⟨hx, hb, hml, hown, hG⟩ (q_row hC A hI ((ao, .inl (k 1, al 1 o')) :: wc') (sx xs (i + 1)) (sx xs (i + 2)) (sx_rg _ _) (sx_rg _ _)) (cb_code (n := 2) hG g_887 g_3 g_884 rfl rfl (by decide +kernel) ⟨Nat.le_of_ble_eq_true rfl, Nat.le_of_ble_eq_true rfl⟩) (hG _ g_885) (hG _ g_886) (kd_V (kd_preW h0 hS hP hD) (kd_recv hK hP (q0 := 0) (ci := 6) rfl rfl rfl)) rfl rfl hl.1 rfl (lv_room (Nat.le_of_ble_eq_true rfl)) d_L_law_1837 ⟨(show cells + 3 + 0 ≤ 601024 by omega), (show slots + 18 + 0 ≤ 7293034 by omega)⟩) (fun E ws9 hE H locs hP hD hS q T0 hT0 hq => False.elim hE) (fun v9 ws9 h9 H locs hP hD hS => ?_)
    obtain ⟨rfl, rfl⟩ := h9.2.2 hq0
    show W _ _ _ _ _ _ _ _ _ _ _ _ _ _ _ (F0 m9 1840 ls [.int (iI ((v 23) + 1))])
    refine lv_istore (lv' := [(6, .int (iI ((v 23) + 1))), (5, .int (iI (0))), (0, .ref b), (1, .ref cx), (2, .ref (A 26)), (3, .ref ao), (4, .int (iI (i)))]) hx hb d_L_law_1840 hl (by decide) rfl (fun ls hl => ?_)
    refine lv_aload_n hx hb d_L_law_1842 rfl (lv_at hl 4 rfl) ?_
    refine rd_call (ex_runV (C := "LathePiecesModel") (As := []) (rest := []) ⟨hx, hb, hml, hown, hG⟩ (q_thrown hC A (vS (vS v 0 0) 23 (v 23 + 1)) (fS (fS f 24 (zU (f 24) (v 23) (sx xs (i + 1)))) 25 (zU (f 25) (v 23) (sx xs (i + 2)))) ((ao, .inl (k 1, al 1 o')) :: wc')) (cb_code (n := 0) hG g_709 g_3 g_706 rfl rfl (by decide +kernel) ⟨Nat.le_of_ble_eq_true rfl, Nat.le_of_ble_eq_true rfl⟩) (hG _ g_707) (hG _ g_708) (kd_V (kd_pre h0 hS hP) (kd_recv hK hP (q0 := 0) (ci := 6) rfl rfl rfl)) rfl rfl hl.1 rfl (lv_room (Nat.le_of_ble_eq_true rfl)) d_L_law_1843 ⟨(show cells + 3 + 0 + 0 ≤ 601024 by omega), (show slots + 18 + 0 + 0 ≤ 7293034 by omega)⟩) (fun v9 h9 => ?_)
    subst h9
    show W _ _ _ _ _ _ _ _ _ _ _ _ _ _ _ (F0 m9 1846 ls [.int (iI (0))])
    refine lv_iload hx hb d_L_law_1846 (lv_at hl 1 rfl) ?_
    refine ri_icmp_eq (tgt := 1853) hx hb d_L_law_1848 (by decide) (by decide) (by decide) (fun _ => ?_) (fun c1848 => absurd rfl c1848)
    refine lv_iload hx hb d_L_law_1853 (lv_at hl 1 rfl) ?_
    refine ri_if_ne (tgt := 1870) hx hb d_L_law_1855 (by decide) (by decide) (fun c1855 => absurd rfl c1855) (fun _ => ?_)
    refine lv_aload_n hx hb d_L_law_1858 rfl (lv_at hl 5 rfl) ?_
    refine ri_iconst hx hb d_L_law_1859 ?_
    replace hP := wl_Pp hP (pm_lf (mWd k A (vS (vS v 0 0) 23 (v 23 + 1)) (fS (fS f 24 (zU (f 24) (v 23) (sx xs (i + 1)))) 25 (zU (f 25) (v 23) (sx xs (i + 2))))) (ao, .inl (k 1, al 1 o')) wc')
    replace hD := wl_Dp hD (pm_lf (mWd k A (vS (vS v 0 0) 23 (v 23 + 1)) (fS (fS f 24 (zU (f 24) (v 23) (sx xs (i + 1)))) 25 (zU (f 25) (v 23) (sx xs (i + 2))))) (ao, .inl (k 1, al 1 o')) wc')
    refine ra_lald hx hb hK hP 0 rfl (by omega) (by omega) d_L_law_1860 ?_
    refine tp_l (y := jJ (tw ((v 23) + 1))) (congrArg jJ ho) ?_
    refine lv_iload hx hb d_L_law_1861 (lv_at hl 0 rfl) ?_
    refine ri_i2lw hx hb d_L_law_1863 ?_
    refine lc_same (tgt := 1870) hx hb d_L_law_1864 d_L_law_1865 (by decide) ?_
    refine lv_goto (tgt := 1941) hx hb d_L_law_1870 (by decide) ?_
    replace hP := wl_Pp hP (pm_lb (mWd k A (vS (vS v 0 0) 23 (v 23 + 1)) (fS (fS f 24 (zU (f 24) (v 23) (sx xs (i + 1)))) 25 (zU (f 25) (v 23) (sx xs (i + 2))))) (ao, .inl (k 1, al 1 o')) wc')
    replace hD := wl_Dp hD (pm_lb (mWd k A (vS (vS v 0 0) 23 (v 23 + 1)) (fS (fS f 24 (zU (f 24) (v 23) (sx xs (i + 1)))) 25 (zU (f 25) (v 23) (sx xs (i + 2))))) (ao, .inl (k 1, al 1 o')) wc')
    refine W.widen (k := cells + 9) (n := slots + 167) (by omega) (by omega) ?_
    exact kk (vS (vS v 0 0) 23 (v 23 + 1)) (fS (fS f 24 (zU (f 24) (v 23) (sx xs (i + 1)))) 25 (zU (f 25) (v 23) (sx xs (i + 2)))) wc' o' H locs ls hW2 hI2 hP hD hS (lv_sub hl [2, 3, 4, 5, 6] rfl)
  · show W _ _ _ _ _ _ _ _ _ _ _ _ _ _ _ (F0 m9 1822 ls [.int (iI (1))])
    refine lv_istore (lv' := [(5, .int (iI (1))), (0, .ref b), (1, .ref cx), (2, .ref (A 26)), (3, .ref ao), (4, .int (iI (i)))]) hx hb d_L_law_1822 hl (by decide) rfl (fun ls hl => ?_)
    refine lv_aload_n hx hb d_L_law_1824 rfl (lv_at hl 3 rfl) ?_
    refine lv_aload_n hx hb d_L_law_1825 rfl (lv_at hl 1 rfl) ?_
    refine lv_iload hx hb d_L_law_1826 (lv_at hl 5 rfl) ?_
    refine ri_iconst hx hb d_L_law_1828 ?_
    refine ri_iadd hx hb d_L_law_1829 ?_
    refine sc_ld hx hb hX hbl hS (by omega) hL3 d_L_law_1830 ?_
    refine lv_aload_n hx hb d_L_law_1831 rfl (lv_at hl 1 rfl) ?_
    refine lv_iload hx hb d_L_law_1832 (lv_at hl 5 rfl) ?_
    refine ri_iconst hx hb d_L_law_1834 ?_
    refine ri_iadd hx hb d_L_law_1835 ?_
    refine sc_ld hx hb hX hbl hS (by omega) hL3 d_L_law_1836 ?_
    replace hP := wl_Pp hP (pm_law wc' (ao, .inl (k 1, al 1 o')) (mWd k A v f))
    replace hD := wl_Dp hD (pm_law wc' (ao, .inl (k 1, al 1 o')) (mWd k A v f))
    refine wd_callC h0 hS (ex_runV (C := "LathePiecesModel") (As := [.int (iI (sx xs (i + 1))), .int (iI (sx xs (i + 2)))]) (rest := []) ⟨hx, hb, hml, hown, hG⟩ (q_row hC A hI ((ao, .inl (k 1, al 1 o')) :: wc') (sx xs (i + 1)) (sx xs (i + 2)) (sx_rg _ _) (sx_rg _ _)) (cb_code (n := 2) hG g_887 g_3 g_884 rfl rfl (by decide +kernel) ⟨Nat.le_of_ble_eq_true rfl, Nat.le_of_ble_eq_true rfl⟩) (hG _ g_885) (hG _ g_886) (kd_V (kd_preW h0 hS hP hD) (kd_recv hK hP (q0 := 0) (ci := 6) rfl rfl rfl)) rfl rfl hl.1 rfl (lv_room (Nat.le_of_ble_eq_true rfl)) d_L_law_1837 ⟨(show cells + 3 + 0 ≤ 601024 by omega), (show slots + 18 + 0 ≤ 7293034 by omega)⟩) (fun E ws9 hE H locs hP hD hS q T0 hT0 hq => False.elim hE) (fun v9 ws9 h9 H locs hP hD hS => ?_)
    obtain ⟨rfl, rfl⟩ := h9.1 hq0
    show W _ _ _ _ _ _ _ _ _ _ _ _ _ _ _ (F0 m9 1840 ls [.int (iI (0))])
    refine lv_istore (lv' := [(6, .int (iI (0))), (5, .int (iI (1))), (0, .ref b), (1, .ref cx), (2, .ref (A 26)), (3, .ref ao), (4, .int (iI (i)))]) hx hb d_L_law_1840 hl (by decide) rfl (fun ls hl => ?_)
    refine lv_aload_n hx hb d_L_law_1842 rfl (lv_at hl 4 rfl) ?_
    refine rd_call (ex_runV (C := "LathePiecesModel") (As := []) (rest := []) ⟨hx, hb, hml, hown, hG⟩ (q_thrown hC A (vS v 0 1) f ((ao, .inl (k 1, al 1 o')) :: wc')) (cb_code (n := 0) hG g_709 g_3 g_706 rfl rfl (by decide +kernel) ⟨Nat.le_of_ble_eq_true rfl, Nat.le_of_ble_eq_true rfl⟩) (hG _ g_707) (hG _ g_708) (kd_V (kd_pre h0 hS hP) (kd_recv hK hP (q0 := 0) (ci := 6) rfl rfl rfl)) rfl rfl hl.1 rfl (lv_room (Nat.le_of_ble_eq_true rfl)) d_L_law_1843 ⟨(show cells + 3 + 0 + 0 ≤ 601024 by omega), (show slots + 18 + 0 + 0 ≤ 7293034 by omega)⟩) (fun v9 h9 => ?_)
    subst h9
    show W _ _ _ _ _ _ _ _ _ _ _ _ _ _ _ (F0 m9 1846 ls [.int (iI (1))])
    refine lv_iload hx hb d_L_law_1846 (lv_at hl 1 rfl) ?_
    refine ri_icmp_eq (tgt := 1853) hx hb d_L_law_1848 (by decide) (by decide) (by decide) (fun _ => ?_) (fun c1848 => absurd rfl c1848)
    refine lv_iload hx hb d_L_law_1853 (lv_at hl 1 rfl) ?_
    refine ri_if_ne (tgt := 1870) hx hb d_L_law_1855 (by decide) (by decide) (fun _ => ?_) (fun c1855 => absurd c1855 (by decide))
    refine lv_goto (tgt := 1941) hx hb d_L_law_1870 (by decide) ?_
    replace hP := wl_Pp hP (pm_law (mWd k A (vS v 0 1) f) (ao, .inl (k 1, al 1 o')) wc')
    replace hD := wl_Dp hD (pm_law (mWd k A (vS v 0 1) f) (ao, .inl (k 1, al 1 o')) wc')
    refine W.widen (k := cells + 9) (n := slots + 167) (by omega) (by omega) ?_
    exact kk (vS v 0 1) f wc' o' H locs ls (Cst.code hW2 1) (Iv.code hI 1) hP hD hS (lv_sub hl [2, 3, 4, 5, 6] rfl)
  · show W _ _ _ _ _ _ _ _ _ _ _ _ _ _ _ (F0 m9 1822 ls [.int (iI (2))])
    refine lv_istore (lv' := [(5, .int (iI (2))), (0, .ref b), (1, .ref cx), (2, .ref (A 26)), (3, .ref ao), (4, .int (iI (i)))]) hx hb d_L_law_1822 hl (by decide) rfl (fun ls hl => ?_)
    refine lv_aload_n hx hb d_L_law_1824 rfl (lv_at hl 3 rfl) ?_
    refine lv_aload_n hx hb d_L_law_1825 rfl (lv_at hl 1 rfl) ?_
    refine lv_iload hx hb d_L_law_1826 (lv_at hl 5 rfl) ?_
    refine ri_iconst hx hb d_L_law_1828 ?_
    refine ri_iadd hx hb d_L_law_1829 ?_
    refine sc_ld hx hb hX hbl hS (by omega) hL3 d_L_law_1830 ?_
    refine lv_aload_n hx hb d_L_law_1831 rfl (lv_at hl 1 rfl) ?_
    refine lv_iload hx hb d_L_law_1832 (lv_at hl 5 rfl) ?_
    refine ri_iconst hx hb d_L_law_1834 ?_
    refine ri_iadd hx hb d_L_law_1835 ?_
    refine sc_ld hx hb hX hbl hS (by omega) hL3 d_L_law_1836 ?_
    replace hP := wl_Pp hP (pm_law wc' (ao, .inl (k 1, al 1 o')) (mWd k A v f))
    replace hD := wl_Dp hD (pm_law wc' (ao, .inl (k 1, al 1 o')) (mWd k A v f))
    refine wd_callC h0 hS (ex_runV (C := "LathePiecesModel") (As := [.int (iI (sx xs (i + 1))), .int (iI (sx xs (i + 2)))]) (rest := []) ⟨hx, hb, hml, hown, hG⟩ (q_row hC A hI ((ao, .inl (k 1, al 1 o')) :: wc') (sx xs (i + 1)) (sx xs (i + 2)) (sx_rg _ _) (sx_rg _ _)) (cb_code (n := 2) hG g_887 g_3 g_884 rfl rfl (by decide +kernel) ⟨Nat.le_of_ble_eq_true rfl, Nat.le_of_ble_eq_true rfl⟩) (hG _ g_885) (hG _ g_886) (kd_V (kd_preW h0 hS hP hD) (kd_recv hK hP (q0 := 0) (ci := 6) rfl rfl rfl)) rfl rfl hl.1 rfl (lv_room (Nat.le_of_ble_eq_true rfl)) d_L_law_1837 ⟨(show cells + 3 + 0 ≤ 601024 by omega), (show slots + 18 + 0 ≤ 7293034 by omega)⟩) (fun E ws9 hE H locs hP hD hS q T0 hT0 hq => False.elim hE) (fun v9 ws9 h9 H locs hP hD hS => ?_)
    obtain ⟨rfl, rfl⟩ := h9.2.1 hq0
    show W _ _ _ _ _ _ _ _ _ _ _ _ _ _ _ (F0 m9 1840 ls [.int (iI (0))])
    refine lv_istore (lv' := [(6, .int (iI (0))), (5, .int (iI (2))), (0, .ref b), (1, .ref cx), (2, .ref (A 26)), (3, .ref ao), (4, .int (iI (i)))]) hx hb d_L_law_1840 hl (by decide) rfl (fun ls hl => ?_)
    refine lv_aload_n hx hb d_L_law_1842 rfl (lv_at hl 4 rfl) ?_
    refine rd_call (ex_runV (C := "LathePiecesModel") (As := []) (rest := []) ⟨hx, hb, hml, hown, hG⟩ (q_thrown hC A (vS v 0 2) f ((ao, .inl (k 1, al 1 o')) :: wc')) (cb_code (n := 0) hG g_709 g_3 g_706 rfl rfl (by decide +kernel) ⟨Nat.le_of_ble_eq_true rfl, Nat.le_of_ble_eq_true rfl⟩) (hG _ g_707) (hG _ g_708) (kd_V (kd_pre h0 hS hP) (kd_recv hK hP (q0 := 0) (ci := 6) rfl rfl rfl)) rfl rfl hl.1 rfl (lv_room (Nat.le_of_ble_eq_true rfl)) d_L_law_1843 ⟨(show cells + 3 + 0 + 0 ≤ 601024 by omega), (show slots + 18 + 0 + 0 ≤ 7293034 by omega)⟩) (fun v9 h9 => ?_)
    subst h9
    show W _ _ _ _ _ _ _ _ _ _ _ _ _ _ _ (F0 m9 1846 ls [.int (iI (2))])
    refine lv_iload hx hb d_L_law_1846 (lv_at hl 1 rfl) ?_
    refine ri_icmp_eq (tgt := 1853) hx hb d_L_law_1848 (by decide) (by decide) (by decide) (fun _ => ?_) (fun c1848 => absurd rfl c1848)
    refine lv_iload hx hb d_L_law_1853 (lv_at hl 1 rfl) ?_
    refine ri_if_ne (tgt := 1870) hx hb d_L_law_1855 (by decide) (by decide) (fun _ => ?_) (fun c1855 => absurd c1855 (by decide))
    refine lv_goto (tgt := 1941) hx hb d_L_law_1870 (by decide) ?_
    replace hP := wl_Pp hP (pm_law (mWd k A (vS v 0 2) f) (ao, .inl (k 1, al 1 o')) wc')
    replace hD := wl_Dp hD (pm_law (mWd k A (vS v 0 2) f) (ao, .inl (k 1, al 1 o')) wc')
    refine W.widen (k := cells + 9) (n := slots + 167) (by omega) (by omega) ?_
    exact kk (vS v 0 2) f wc' o' H locs ls (Cst.code hW2 2) (Iv.code hI 2) hP hD hS (lv_sub hl [2, 3, 4, 5, 6] rfl)
set_option maxHeartbeats 4000000 in
set_option maxRecDepth 100000 in
theorem t_speed {p9 : Program} {l : Launch} {e9 : Env} {s : State} {m9 : MethodId} {below9 : List Frame} {meth9 : Method} {c9 : Code} {Q9 : State → Prop} {b L : Nat} {xs : Nat → Int32} {D : va_G} {k : Nat → ClassId} (C0 : LwC p9 l s m9 c9 b L xs D k) {cx : Nat} {A : Nat → Nat} {ao : Nat} {i : Int} {cells slots : Nat} (hi : 0 ≤ i ∧ i + 5 < L) (hc : cells + 9 ≤ 601024) (hs : slots + 167 ≤ 7293034) (kk : LwK p9 l e9 s m9 below9 meth9 c9 b D k cx A ao i (cells + 9) (slots + 167) Q9) {v : Nat → Int} {f : Nat → Int → Int} {wc : va_W} {o9 : Int → Int} {H : Heap} {locs : List Loc} {ls : Array Slot} (hI : Iv v f) (hW : Cst k cx v f wc) (hP : va_P D classes (wc ++ ((ao, .inl (k 1, al 1 o9)) :: mWd k A v f)) H) (hD : va_D (aL s) (wc ++ ((ao, .inl (k 1, al 1 o9)) :: mWd k A v f))) (hS : va_S (aL s) s.heap H locs) (hl : lv_has ls 8 [(0, .ref b), (1, .ref cx), (2, .ref (A 26)), (3, .ref ao), (4, .int (iI (i)))]) : W p9 l e9 room_1 s m9 #[Value.ref b] below9 meth9 c9 H locs cells slots Q9 (F0 m9 1873 ls []) := by
  obtain ⟨hx, hb, hml, hown, hG, hX, hbl, hL3, hC⟩ := id C0
  have h0 : La s s := ⟨State.WarmedH.refl s, Nat.le_refl _, fun _ _ => rfl⟩
  have hK := cx_K hC h0
  refine lv_aload_n hx hb d_L_law_1873 rfl (lv_at hl 1 rfl) ?_
  refine lv_aload_n hx hb d_L_law_1874 rfl (lv_at hl 0 rfl) ?_
  refine lv_iload hx hb d_L_law_1875 (lv_at hl 4 rfl) ?_
  refine ri_iconst hx hb d_L_law_1877 ?_
  refine ri_iadd hx hb d_L_law_1878 ?_
  refine sc_ld hx hb hX hbl hS (by omega) hL3 d_L_law_1879 ?_
  refine lv_aload_n hx hb d_L_law_1880 rfl (lv_at hl 0 rfl) ?_
  refine lv_iload hx hb d_L_law_1881 (lv_at hl 4 rfl) ?_
  refine ri_iconst hx hb d_L_law_1883 ?_
  refine ri_iadd hx hb d_L_law_1884 ?_
  refine sc_ld hx hb hX hbl hS (by omega) hL3 d_L_law_1885 ?_
  refine lv_aload_n hx hb d_L_law_1886 rfl (lv_at hl 3 rfl) ?_
  refine wd_callC h0 hS (ex_runS (As := [.ref cx, .int (iI (sx xs (i + 1))), .int (iI (sx xs (i + 2))), .ref ao]) (rest := []) ⟨hx, hb, hml, hown, hG⟩ (w_speed hC hI hW (mWd k A v f) ao o9 (sx xs (i + 1)) (sx xs (i + 2)) (sx_rg _ _) (sx_rg _ _)) (cb_with (n := 4) hG g_615 g_0 g_613 rfl rfl (by decide +kernel) ⟨Nat.le_of_ble_eq_true rfl, Nat.le_of_ble_eq_true rfl⟩) (hG _ g_614) (kd_preW h0 hS hP hD) rfl rfl hl.1 rfl (lv_room (Nat.le_of_ble_eq_true rfl)) d_L_law_1887 ⟨(show cells + 3 ≤ 601024 by omega), (show slots + 18 ≤ 7293034 by omega)⟩) (fun E ws9 hE H locs hP hD hS q T0 hT0 hq => False.elim hE) (fun v9 ws9 h9 H locs hP hD hS => ?_)
  obtain ⟨wc', o', kz, rfl, rfl, h9⟩ := h9
  rcases h9 with ⟨rfl, hq0, ho, hW2, hI2⟩ | ⟨rfl, hq0, hW2⟩ | ⟨rfl, hq0, hW2⟩
  · show W _ _ _ _ _ _ _ _ _ _ _ _ _ _ _ (F0 m9 1890 ls [.int (iI (0))])
    refine lv_istore (lv' := [(5, .int (iI (0))), (0, .ref b), (1, .ref cx), (2, .ref (A 26)), (3, .ref ao), (4, .int (iI (i)))]) hx hb d_L_law_1890 hl (by decide) rfl (fun ls hl => ?_)
    refine lv_aload_n hx hb d_L_law_1892 rfl (lv_at hl 3 rfl) ?_
    refine lv_aload_n hx hb d_L_law_1893 rfl (lv_at hl 1 rfl) ?_
    refine lv_iload hx hb d_L_law_1894 (lv_at hl 5 rfl) ?_
    refine ri_iconst hx hb d_L_law_1896 ?_
    refine ri_iadd hx hb d_L_law_1897 ?_
    refine sc_ld hx hb hX hbl hS (by omega) hL3 d_L_law_1898 ?_
    refine lv_aload_n hx hb d_L_law_1899 rfl (lv_at hl 1 rfl) ?_
    refine lv_iload hx hb d_L_law_1900 (lv_at hl 5 rfl) ?_
    refine ri_iconst hx hb d_L_law_1902 ?_
    refine ri_iadd hx hb d_L_law_1903 ?_
    refine sc_ld hx hb hX hbl hS (by omega) hL3 d_L_law_1904 ?_
    replace hP := wl_Pp hP (pm_law wc' (ao, .inl (k 1, al 1 o')) (mWd k A v f))
    replace hD := wl_Dp hD (pm_law wc' (ao, .inl (k 1, al 1 o')) (mWd k A v f))
    refine wd_callC h0 hS (ex_runV (C := "LathePiecesModel") (As := [.int (iI (sx xs (i + 1))), .int (iI (sx xs (i + 2)))]) (rest := []) ⟨hx, hb, hml, hown, hG⟩ (q_speed hC A hI ((ao, .inl (k 1, al 1 o')) :: wc') (sx xs (i + 1)) (sx xs (i + 2)) (sx_rg _ _) (sx_rg _ _)) (cb_code (n := 2) hG g_892 g_3 g_889 rfl rfl (by decide +kernel) ⟨Nat.le_of_ble_eq_true rfl, Nat.le_of_ble_eq_true rfl⟩) (hG _ g_890) (hG _ g_891) (kd_V (kd_preW h0 hS hP hD) (kd_recv hK hP (q0 := 0) (ci := 6) rfl rfl rfl)) rfl rfl hl.1 rfl (lv_room (Nat.le_of_ble_eq_true rfl)) d_L_law_1905 ⟨(show cells + 3 + 0 ≤ 601024 by omega), (show slots + 18 + 0 ≤ 7293034 by omega)⟩) (fun E ws9 hE H locs hP hD hS q T0 hT0 hq => False.elim hE) (fun v9 ws9 h9 H locs hP hD hS => ?_)
    obtain ⟨rfl, rfl⟩ := h9.2.2 hq0
    show W _ _ _ _ _ _ _ _ _ _ _ _ _ _ _ (F0 m9 1908 ls [.int (iI ((f 25) (min (spF (f 24) ((f 12) (65 * (sx xs (i + 1)) + (sx xs (i + 2)))) (v 23).toNat) ((v 23) - 1))))])
    refine lv_istore (lv' := [(6, .int (iI ((f 25) (min (spF (f 24) ((f 12) (65 * (sx xs (i + 1)) + (sx xs (i + 2)))) (v 23).toNat) ((v 23) - 1))))), (5, .int (iI (0))), (0, .ref b), (1, .ref cx), (2, .ref (A 26)), (3, .ref ao), (4, .int (iI (i)))]) hx hb d_L_law_1908 hl (by decide) rfl (fun ls hl => ?_)
    refine lv_aload_n hx hb d_L_law_1910 rfl (lv_at hl 4 rfl) ?_
    refine rd_call (ex_runV (C := "LathePiecesModel") (As := []) (rest := []) ⟨hx, hb, hml, hown, hG⟩ (q_thrown hC A (vS v 0 0) f ((ao, .inl (k 1, al 1 o')) :: wc')) (cb_code (n := 0) hG g_709 g_3 g_706 rfl rfl (by decide +kernel) ⟨Nat.le_of_ble_eq_true rfl, Nat.le_of_ble_eq_true rfl⟩) (hG _ g_707) (hG _ g_708) (kd_V (kd_pre h0 hS hP) (kd_recv hK hP (q0 := 0) (ci := 6) rfl rfl rfl)) rfl rfl hl.1 rfl (lv_room (Nat.le_of_ble_eq_true rfl)) d_L_law_1911 ⟨(show cells + 3 + 0 + 0 ≤ 601024 by omega), (show slots + 18 + 0 + 0 ≤ 7293034 by omega)⟩) (fun v9 h9 => ?_)
    subst h9
    show W _ _ _ _ _ _ _ _ _ _ _ _ _ _ _ (F0 m9 1914 ls [.int (iI (0))])
    refine lv_iload hx hb d_L_law_1914 (lv_at hl 1 rfl) ?_
    refine ri_icmp_eq (tgt := 1921) hx hb d_L_law_1916 (by decide) (by decide) (by decide) (fun _ => ?_) (fun c1916 => absurd rfl c1916)
    refine lv_iload hx hb d_L_law_1921 (lv_at hl 1 rfl) ?_
    refine ri_if_ne (tgt := 1938) hx hb d_L_law_1923 (by decide) (by decide) (fun c1923 => absurd rfl c1923) (fun _ => ?_)
    refine lv_aload_n hx hb d_L_law_1926 rfl (lv_at hl 5 rfl) ?_
    refine ri_iconst hx hb d_L_law_1927 ?_
    replace hP := wl_Pp hP (pm_lf (mWd k A (vS v 0 0) f) (ao, .inl (k 1, al 1 o')) wc')
    replace hD := wl_Dp hD (pm_lf (mWd k A (vS v 0 0) f) (ao, .inl (k 1, al 1 o')) wc')
    refine ra_lald hx hb hK hP 0 rfl (by omega) (by omega) d_L_law_1928 ?_
    refine tp_l (y := jJ (tw ((f 25) (min (spF (f 24) ((f 12) (65 * (sx xs (i + 1)) + (sx xs (i + 2)))) (v 23).toNat) ((v 23) - 1))))) (congrArg jJ ho) ?_
    refine lv_iload hx hb d_L_law_1929 (lv_at hl 0 rfl) ?_
    refine ri_i2lw hx hb d_L_law_1931 ?_
    refine lc_same (tgt := 1938) hx hb d_L_law_1932 d_L_law_1933 (by decide) ?_
    refine lv_goto (tgt := 1941) hx hb d_L_law_1938 (by decide) ?_
    replace hP := wl_Pp hP (pm_lb (mWd k A (vS v 0 0) f) (ao, .inl (k 1, al 1 o')) wc')
    replace hD := wl_Dp hD (pm_lb (mWd k A (vS v 0 0) f) (ao, .inl (k 1, al 1 o')) wc')
    refine W.widen (k := cells + 9) (n := slots + 167) (by omega) (by omega) ?_
    exact kk (vS v 0 0) f wc' o' H locs ls (Cst.code hW2 0) (Iv.code hI2 0) hP hD hS (lv_sub hl [2, 3, 4, 5, 6] rfl)
  · show W _ _ _ _ _ _ _ _ _ _ _ _ _ _ _ (F0 m9 1890 ls [.int (iI (1))])
    refine lv_istore (lv' := [(5, .int (iI (1))), (0, .ref b), (1, .ref cx), (2, .ref (A 26)), (3, .ref ao), (4, .int (iI (i)))]) hx hb d_L_law_1890 hl (by decide) rfl (fun ls hl => ?_)
    refine lv_aload_n hx hb d_L_law_1892 rfl (lv_at hl 3 rfl) ?_
    refine lv_aload_n hx hb d_L_law_1893 rfl (lv_at hl 1 rfl) ?_
    refine lv_iload hx hb d_L_law_1894 (lv_at hl 5 rfl) ?_
    refine ri_iconst hx hb d_L_law_1896 ?_
    refine ri_iadd hx hb d_L_law_1897 ?_
    refine sc_ld hx hb hX hbl hS (by omega) hL3 d_L_law_1898 ?_
    refine lv_aload_n hx hb d_L_law_1899 rfl (lv_at hl 1 rfl) ?_
    refine lv_iload hx hb d_L_law_1900 (lv_at hl 5 rfl) ?_
    refine ri_iconst hx hb d_L_law_1902 ?_
    refine ri_iadd hx hb d_L_law_1903 ?_
    refine sc_ld hx hb hX hbl hS (by omega) hL3 d_L_law_1904 ?_
    replace hP := wl_Pp hP (pm_law wc' (ao, .inl (k 1, al 1 o')) (mWd k A v f))
    replace hD := wl_Dp hD (pm_law wc' (ao, .inl (k 1, al 1 o')) (mWd k A v f))
    refine wd_callC h0 hS (ex_runV (C := "LathePiecesModel") (As := [.int (iI (sx xs (i + 1))), .int (iI (sx xs (i + 2)))]) (rest := []) ⟨hx, hb, hml, hown, hG⟩ (q_speed hC A hI ((ao, .inl (k 1, al 1 o')) :: wc') (sx xs (i + 1)) (sx xs (i + 2)) (sx_rg _ _) (sx_rg _ _)) (cb_code (n := 2) hG g_892 g_3 g_889 rfl rfl (by decide +kernel) ⟨Nat.le_of_ble_eq_true rfl, Nat.le_of_ble_eq_true rfl⟩) (hG _ g_890) (hG _ g_891) (kd_V (kd_preW h0 hS hP hD) (kd_recv hK hP (q0 := 0) (ci := 6) rfl rfl rfl)) rfl rfl hl.1 rfl (lv_room (Nat.le_of_ble_eq_true rfl)) d_L_law_1905 ⟨(show cells + 3 + 0 ≤ 601024 by omega), (show slots + 18 + 0 ≤ 7293034 by omega)⟩) (fun E ws9 hE H locs hP hD hS q T0 hT0 hq => False.elim hE) (fun v9 ws9 h9 H locs hP hD hS => ?_)
    obtain ⟨rfl, rfl⟩ := h9.1 hq0
    show W _ _ _ _ _ _ _ _ _ _ _ _ _ _ _ (F0 m9 1908 ls [.int (iI (0))])
    refine lv_istore (lv' := [(6, .int (iI (0))), (5, .int (iI (1))), (0, .ref b), (1, .ref cx), (2, .ref (A 26)), (3, .ref ao), (4, .int (iI (i)))]) hx hb d_L_law_1908 hl (by decide) rfl (fun ls hl => ?_)
    refine lv_aload_n hx hb d_L_law_1910 rfl (lv_at hl 4 rfl) ?_
    refine rd_call (ex_runV (C := "LathePiecesModel") (As := []) (rest := []) ⟨hx, hb, hml, hown, hG⟩ (q_thrown hC A (vS v 0 1) f ((ao, .inl (k 1, al 1 o')) :: wc')) (cb_code (n := 0) hG g_709 g_3 g_706 rfl rfl (by decide +kernel) ⟨Nat.le_of_ble_eq_true rfl, Nat.le_of_ble_eq_true rfl⟩) (hG _ g_707) (hG _ g_708) (kd_V (kd_pre h0 hS hP) (kd_recv hK hP (q0 := 0) (ci := 6) rfl rfl rfl)) rfl rfl hl.1 rfl (lv_room (Nat.le_of_ble_eq_true rfl)) d_L_law_1911 ⟨(show cells + 3 + 0 + 0 ≤ 601024 by omega), (show slots + 18 + 0 + 0 ≤ 7293034 by omega)⟩) (fun v9 h9 => ?_)
    subst h9
    show W _ _ _ _ _ _ _ _ _ _ _ _ _ _ _ (F0 m9 1914 ls [.int (iI (1))])
    refine lv_iload hx hb d_L_law_1914 (lv_at hl 1 rfl) ?_
    refine ri_icmp_eq (tgt := 1921) hx hb d_L_law_1916 (by decide) (by decide) (by decide) (fun _ => ?_) (fun c1916 => absurd rfl c1916)
    refine lv_iload hx hb d_L_law_1921 (lv_at hl 1 rfl) ?_
    refine ri_if_ne (tgt := 1938) hx hb d_L_law_1923 (by decide) (by decide) (fun _ => ?_) (fun c1923 => absurd c1923 (by decide))
    refine lv_goto (tgt := 1941) hx hb d_L_law_1938 (by decide) ?_
    replace hP := wl_Pp hP (pm_law (mWd k A (vS v 0 1) f) (ao, .inl (k 1, al 1 o')) wc')
    replace hD := wl_Dp hD (pm_law (mWd k A (vS v 0 1) f) (ao, .inl (k 1, al 1 o')) wc')
    refine W.widen (k := cells + 9) (n := slots + 167) (by omega) (by omega) ?_
    exact kk (vS v 0 1) f wc' o' H locs ls (Cst.code hW2 1) (Iv.code hI 1) hP hD hS (lv_sub hl [2, 3, 4, 5, 6] rfl)
  · show W _ _ _ _ _ _ _ _ _ _ _ _ _ _ _ (F0 m9 1890 ls [.int (iI (2))])
    refine lv_istore (lv' := [(5, .int (iI (2))), (0, .ref b), (1, .ref cx), (2, .ref (A 26)), (3, .ref ao), (4, .int (iI (i)))]) hx hb d_L_law_1890 hl (by decide) rfl (fun ls hl => ?_)
    refine lv_aload_n hx hb d_L_law_1892 rfl (lv_at hl 3 rfl) ?_
    refine lv_aload_n hx hb d_L_law_1893 rfl (lv_at hl 1 rfl) ?_
    refine lv_iload hx hb d_L_law_1894 (lv_at hl 5 rfl) ?_
    refine ri_iconst hx hb d_L_law_1896 ?_
    refine ri_iadd hx hb d_L_law_1897 ?_
    refine sc_ld hx hb hX hbl hS (by omega) hL3 d_L_law_1898 ?_
    refine lv_aload_n hx hb d_L_law_1899 rfl (lv_at hl 1 rfl) ?_
    refine lv_iload hx hb d_L_law_1900 (lv_at hl 5 rfl) ?_
    refine ri_iconst hx hb d_L_law_1902 ?_
    refine ri_iadd hx hb d_L_law_1903 ?_
    refine sc_ld hx hb hX hbl hS (by omega) hL3 d_L_law_1904 ?_
    replace hP := wl_Pp hP (pm_law wc' (ao, .inl (k 1, al 1 o')) (mWd k A v f))
    replace hD := wl_Dp hD (pm_law wc' (ao, .inl (k 1, al 1 o')) (mWd k A v f))
    refine wd_callC h0 hS (ex_runV (C := "LathePiecesModel") (As := [.int (iI (sx xs (i + 1))), .int (iI (sx xs (i + 2)))]) (rest := []) ⟨hx, hb, hml, hown, hG⟩ (q_speed hC A hI ((ao, .inl (k 1, al 1 o')) :: wc') (sx xs (i + 1)) (sx xs (i + 2)) (sx_rg _ _) (sx_rg _ _)) (cb_code (n := 2) hG g_892 g_3 g_889 rfl rfl (by decide +kernel) ⟨Nat.le_of_ble_eq_true rfl, Nat.le_of_ble_eq_true rfl⟩) (hG _ g_890) (hG _ g_891) (kd_V (kd_preW h0 hS hP hD) (kd_recv hK hP (q0 := 0) (ci := 6) rfl rfl rfl)) rfl rfl hl.1 rfl (lv_room (Nat.le_of_ble_eq_true rfl)) d_L_law_1905 ⟨(show cells + 3 + 0 ≤ 601024 by omega), (show slots + 18 + 0 ≤ 7293034 by omega)⟩) (fun E ws9 hE H locs hP hD hS q T0 hT0 hq => False.elim hE) (fun v9 ws9 h9 H locs hP hD hS => ?_)
    obtain ⟨rfl, rfl⟩ := h9.2.1 hq0
    show W _ _ _ _ _ _ _ _ _ _ _ _ _ _ _ (F0 m9 1908 ls [.int (iI (0))])
    refine lv_istore (lv' := [(6, .int (iI (0))), (5, .int (iI (2))), (0, .ref b), (1, .ref cx), (2, .ref (A 26)), (3, .ref ao), (4, .int (iI (i)))]) hx hb d_L_law_1908 hl (by decide) rfl (fun ls hl => ?_)
    refine lv_aload_n hx hb d_L_law_1910 rfl (lv_at hl 4 rfl) ?_
    refine rd_call (ex_runV (C := "LathePiecesModel") (As := []) (rest := []) ⟨hx, hb, hml, hown, hG⟩ (q_thrown hC A (vS v 0 2) f ((ao, .inl (k 1, al 1 o')) :: wc')) (cb_code (n := 0) hG g_709 g_3 g_706 rfl rfl (by decide +kernel) ⟨Nat.le_of_ble_eq_true rfl, Nat.le_of_ble_eq_true rfl⟩) (hG _ g_707) (hG _ g_708) (kd_V (kd_pre h0 hS hP) (kd_recv hK hP (q0 := 0) (ci := 6) rfl rfl rfl)) rfl rfl hl.1 rfl (lv_room (Nat.le_of_ble_eq_true rfl)) d_L_law_1911 ⟨(show cells + 3 + 0 + 0 ≤ 601024 by omega), (show slots + 18 + 0 + 0 ≤ 7293034 by omega)⟩) (fun v9 h9 => ?_)
    subst h9
    show W _ _ _ _ _ _ _ _ _ _ _ _ _ _ _ (F0 m9 1914 ls [.int (iI (2))])
    refine lv_iload hx hb d_L_law_1914 (lv_at hl 1 rfl) ?_
    refine ri_icmp_eq (tgt := 1921) hx hb d_L_law_1916 (by decide) (by decide) (by decide) (fun _ => ?_) (fun c1916 => absurd rfl c1916)
    refine lv_iload hx hb d_L_law_1921 (lv_at hl 1 rfl) ?_
    refine ri_if_ne (tgt := 1938) hx hb d_L_law_1923 (by decide) (by decide) (fun _ => ?_) (fun c1923 => absurd c1923 (by decide))
    refine lv_goto (tgt := 1941) hx hb d_L_law_1938 (by decide) ?_
    replace hP := wl_Pp hP (pm_law (mWd k A (vS v 0 2) f) (ao, .inl (k 1, al 1 o')) wc')
    replace hD := wl_Dp hD (pm_law (mWd k A (vS v 0 2) f) (ao, .inl (k 1, al 1 o')) wc')
    refine W.widen (k := cells + 9) (n := slots + 167) (by omega) (by omega) ?_
    exact kk (vS v 0 2) f wc' o' H locs ls (Cst.code hW2 2) (Iv.code hI 2) hP hD hS (lv_sub hl [2, 3, 4, 5, 6] rfl)
