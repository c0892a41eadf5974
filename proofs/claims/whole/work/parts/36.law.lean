/-! The law's loop, from its head to its end. -/
section LawLoop
variable {p9 : Program} {l : Launch} {e9 : Env} {s : State} {m9 : MethodId} {below9 : List Frame} {meth9 : Method} {c9 : Code} {Q9 : State → Prop} {b L : Nat} {xs : Nat → Int32} {D : va_G} {k : Nat → ClassId}
set_option maxHeartbeats 4000000 in
set_option maxRecDepth 100000 in
/-- one turn: from the switch on -/
theorem law_turn (C0 : LwC p9 l s m9 c9 b L xs D k) {cx : Nat} {A : Nat → Nat} {ao : Nat} {i : Int} {cells slots : Nat} (hi : 0 ≤ i ∧ i + 5 < L) (hc : cells + 9 ≤ 601024) (hs : slots + 167 ≤ 7293034) (kk : LwK p9 l e9 s m9 below9 meth9 c9 b D k cx A ao i (cells + 9) (slots + 167) Q9) {v : Nat → Int} {f : Nat → Int → Int} {wc : va_W} {o9 : Int → Int} {H : Heap} {locs : List Loc} {ls : Array Slot} (hI : Iv v f) (hW : Cst k cx v f wc) (hP : va_P D classes (wc ++ ((ao, .inl (k 1, al 1 o9)) :: mWd k A v f)) H) (hD : va_D (aL s) (wc ++ ((ao, .inl (k 1, al 1 o9)) :: mWd k A v f))) (hS : va_S (aL s) s.heap H locs) (hl : lv_has ls 8 [(0, .ref b), (1, .ref cx), (2, .ref (A 26)), (3, .ref ao), (4, .int (iI (i)))]) (x : Int32) :
    W p9 l e9 room_1 s m9 #[Value.ref b] below9 meth9 c9 H locs cells slots Q9 (F0 m9 40 ls [.int x]) := by
  obtain ⟨hx, hb, -⟩ := id C0
  by_cases h : x.toInt < 0 ∨ 24 < x.toInt
  · refine lv_tableOut (tgt := 1941) hx hb d_L_law_40 h (by decide) ?_
    refine W.widen (k := cells + 9) (n := slots + 167) (by omega) (by omega) ?_
    exact kk v f wc o9 H locs ls hW hI hP hD hS hl
  · have h1 : ¬ x.toInt < 0 := fun q => h (Or.inl q)
    have h2 : ¬ 24 < x.toInt := fun q => h (Or.inr q)
    rcases (show x.toInt = 0 ∨ x.toInt = 1 ∨ x.toInt = 2 ∨ x.toInt = 3 ∨ x.toInt = 4 ∨ x.toInt = 5 ∨ x.toInt = 6 ∨ x.toInt = 7 ∨ x.toInt = 8 ∨ x.toInt = 9 ∨ x.toInt = 10 ∨ x.toInt = 11 ∨ x.toInt = 12 ∨ x.toInt = 13 ∨ x.toInt = 14 ∨ x.toInt = 15 ∨ x.toInt = 16 ∨ x.toInt = 17 ∨ x.toInt = 18 ∨ x.toInt = 19 ∨ x.toInt = 20 ∨ x.toInt = 21 ∨ x.toInt = 22 ∨ x.toInt = 23 ∨ x.toInt = 24 by omega) with h3 | h3 | h3 | h3 | h3 | h3 | h3 | h3 | h3 | h3 | h3 | h3 | h3 | h3 | h3 | h3 | h3 | h3 | h3 | h3 | h3 | h3 | h3 | h3 | h3
    · exact lv_tableIn (off := 116) (tgt := 156) hx hb d_L_law_40 h1 h2 (by rw [h3]; rfl) (by decide) (t_start C0 hi hc hs kk hI hW hP hD hS hl)
    · exact lv_tableIn (off := 152) (tgt := 192) hx hb d_L_law_40 h1 h2 (by rw [h3]; rfl) (by decide) (t_line C0 hi hc hs kk hI hW hP hD hS hl)
    · exact lv_tableIn (off := 220) (tgt := 260) hx hb d_L_law_40 h1 h2 (by rw [h3]; rfl) (by decide) (t_arc C0 hi hc hs kk hI hW hP hD hS hl)
    · exact lv_tableIn (off := 347) (tgt := 387) hx hb d_L_law_40 h1 h2 (by rw [h3]; rfl) (by decide) (t_turn C0 hi hc hs kk hI hW hP hD hS hl)
    · exact lv_tableIn (off := 391) (tgt := 431) hx hb d_L_law_40 h1 h2 (by rw [h3]; rfl) (by decide) (t_radius C0 hi hc hs kk hI hW hP hD hS hl)
    · exact lv_tableIn (off := 459) (tgt := 499) hx hb d_L_law_40 h1 h2 (by rw [h3]; rfl) (by decide) (t_about C0 hi hc hs kk hI hW hP hD hS hl)
    · exact lv_tableIn (off := 527) (tgt := 567) hx hb d_L_law_40 h1 h2 (by rw [h3]; rfl) (by decide) (t_tool C0 hi hc hs kk hI hW hP hD hS hl)
    · exact lv_tableIn (off := 583) (tgt := 623) hx hb d_L_law_40 h1 h2 (by rw [h3]; rfl) (by decide) (t_reached C0 hi hc hs kk hI hW hP hD hS hl)
    · exact lv_tableIn (off := 663) (tgt := 703) hx hb d_L_law_40 h1 h2 (by rw [h3]; rfl) (by decide) (t_left C0 hi hc hs kk hI hW hP hD hS hl)
    · exact lv_tableIn (off := 731) (tgt := 771) hx hb d_L_law_40 h1 h2 (by rw [h3]; rfl) (by decide) (t_passes C0 hi hc hs kk hI hW hP hD hS hl)
    · exact lv_tableIn (off := 823) (tgt := 863) hx hb d_L_law_40 h1 h2 (by rw [h3]; rfl) (by decide) (t_cut C0 hi hc hs kk hI hW hP hD hS hl)
    · exact lv_tableIn (off := 927) (tgt := 967) hx hb d_L_law_40 h1 h2 (by rw [h3]; rfl) (by decide) (t_steady C0 hi hc hs kk hI hW hP hD hS hl)
    · exact lv_tableIn (off := 1007) (tgt := 1047) hx hb d_L_law_40 h1 h2 (by rw [h3]; rfl) (by decide) (t_volume C0 hi hc hs kk hI hW hP hD hS hl)
    · exact lv_tableIn (off := 1090) (tgt := 1130) hx hb d_L_law_40 h1 h2 (by rw [h3]; rfl) (by decide) (t_hollow C0 hi hc hs kk hI hW hP hD hS hl)
    · exact lv_tableIn (off := 1170) (tgt := 1210) hx hb d_L_law_40 h1 h2 (by rw [h3]; rfl) (by decide) (t_copy C0 hi hc hs kk hI hW hP hD hS hl)
    · exact lv_tableIn (off := 1238) (tgt := 1278) hx hb d_L_law_40 h1 h2 (by rw [h3]; rfl) (by decide) (t_ring C0 hi hc hs kk hI hW hP hD hS hl)
    · exact lv_tableIn (off := 1282) (tgt := 1322) hx hb d_L_law_40 h1 h2 (by rw [h3]; rfl) (by decide) (t_wedge C0 hi hc hs kk hI hW hP hD hS hl)
    · exact lv_tableIn (off := 1362) (tgt := 1402) hx hb d_L_law_40 h1 h2 (by rw [h3]; rfl) (by decide) (t_mitre C0 hi hc hs kk hI hW hP hD hS hl)
    · exact lv_tableIn (off := 1441) (tgt := 1481) hx hb d_L_law_40 h1 h2 (by rw [h3]; rfl) (by decide) (t_gap C0 hi hc hs kk hI hW hP hD hS hl)
    · exact lv_tableIn (off := 1508) (tgt := 1548) hx hb d_L_law_40 h1 h2 (by rw [h3]; rfl) (by decide) (t_closes C0 hi hc hs kk hI hW hP hD hS hl)
    · exact lv_tableIn (off := 1571) (tgt := 1611) hx hb d_L_law_40 h1 h2 (by rw [h3]; rfl) (by decide) (t_flute C0 hi hc hs kk hI hW hP hD hS hl)
    · exact lv_tableIn (off := 1650) (tgt := 1690) hx hb d_L_law_40 h1 h2 (by rw [h3]; rfl) (by decide) (t_thread C0 hi hc hs kk hI hW hP hD hS hl)
    · exact lv_tableIn (off := 1698) (tgt := 1738) hx hb d_L_law_40 h1 h2 (by rw [h3]; rfl) (by decide) (t_threadAt C0 hi hc hs kk hI hW hP hD hS hl)
    · exact lv_tableIn (off := 1765) (tgt := 1805) hx hb d_L_law_40 h1 h2 (by rw [h3]; rfl) (by decide) (t_row C0 hi hc hs kk hI hW hP hD hS hl)
    · exact lv_tableIn (off := 1833) (tgt := 1873) hx hb d_L_law_40 h1 h2 (by rw [h3]; rfl) (by decide) (t_speed C0 hi hc hs kk hI hW hP hD hS hl)
set_option maxHeartbeats 4000000 in
set_option maxRecDepth 100000 in
theorem law_loop (C0 : LwC p9 l s m9 c9 b L xs D k) (cx : Nat) (A : Nat → Nat) (ao : Nat) (kex : ∀ (H : Heap) (locs : List Loc) (ls : Array Slot) (cells slots : Nat), cells ≤ 601024 → slots ≤ 7293034 → va_S (aL s) s.heap H locs → W p9 l e9 room_1 s m9 #[Value.ref b] below9 meth9 c9 H locs cells slots Q9 (F0 m9 1947 ls [])) :
    ∀ (n : Nat) (i : Int) (cells slots : Nat) (v : Nat → Int) (f : Nat → Int → Int) (wc : va_W) (o9 : Int → Int) (H : Heap) (locs : List Loc) (ls : Array Slot), 0 ≤ i → i ≤ L → (L : Int) < i + 6 * n + 6 → cells + 9 * n ≤ 601024 → slots + 167 * n ≤ 7293034 → Iv v f → Cst k cx v f wc → va_P D classes (wc ++ ((ao, .inl (k 1, al 1 o9)) :: mWd k A v f)) H → va_D (aL s) (wc ++ ((ao, .inl (k 1, al 1 o9)) :: mWd k A v f)) → va_S (aL s) s.heap H locs → lv_has ls 8 [(0, .ref b), (1, .ref cx), (2, .ref (A 26)), (3, .ref ao), (4, .int (iI (i)))] →
      W p9 l e9 room_1 s m9 #[Value.ref b] below9 meth9 c9 H locs cells slots Q9 (F0 m9 23 ls []) := by
  obtain ⟨hx, hb, hml, hown, hG, hX, hbl, hL3, hC⟩ := id C0
  intro n
  induction n with
  | zero =>
    intro i cells slots v f wc o9 H locs ls hi0 hiL hn hc hs hI hW hP hD hS hl
    refine lv_iload hx hb d_L_law_23 (lv_at hl 4 rfl) ?_
    refine lv_aload_n hx hb d_L_law_25 rfl (lv_at hl 0 rfl) ?_
    refine sc_len hx hb hX hbl hS d_L_law_26 ?_
    refine ri_bipush hx hb d_L_law_27 (by decide) ?_
    refine ri_isub hx hb d_L_law_29 ?_
    refine ri_icmp_gt (tgt := 1947) hx hb d_L_law_30 (by decide) (by omega) (by omega) (fun c30 => ?_) (fun c30 => absurd c30 (by omega))
    exact kex H locs ls cells slots (by omega) (by omega) hS
  | succ n ih =>
    intro i cells slots v f wc o9 H locs ls hi0 hiL hn hc hs hI hW hP hD hS hl
    refine lv_iload hx hb d_L_law_23 (lv_at hl 4 rfl) ?_
    refine lv_aload_n hx hb d_L_law_25 rfl (lv_at hl 0 rfl) ?_
    refine sc_len hx hb hX hbl hS d_L_law_26 ?_
    refine ri_bipush hx hb d_L_law_27 (by decide) ?_
    refine ri_isub hx hb d_L_law_29 ?_
    refine ri_icmp_gt (tgt := 1947) hx hb d_L_law_30 (by decide) (by omega) (by omega) (fun c30 => ?_) (fun c30 => ?_)
    · exact kex H locs ls cells slots (by omega) (by omega) hS
    · refine lv_aload_n hx hb d_L_law_33 rfl (lv_at hl 0 rfl) ?_
      refine lv_iload hx hb d_L_law_34 (lv_at hl 4 rfl) ?_
      refine sc_ld hx hb hX hbl hS (by omega) hL3 d_L_law_36 ?_
      refine ri_bipush hx hb d_L_law_37 (by decide) ?_
      refine lv_iand hx hb d_L_law_39 ?_
      refine law_turn C0 (by omega) (by omega) (by omega) (fun v f wc o9 H locs ls hW hI hP hD hS hl => ?_) hI hW hP hD hS hl _
      refine lv_iinc (v := iI (i + 6)) (lv' := [(4, .int (iI (i + 6))), (0, .ref b), (1, .ref cx), (2, .ref (A 26)), (3, .ref ao)]) hx hb d_L_law_1941 hl (k := 4) rfl (ii_add _ _) (by decide) rfl (fun ls hl => ?_)
      refine lv_goto (tgt := 23) hx hb d_L_law_1944 (by decide) ?_
      exact ih (i + 6) (cells + 9) (slots + 167) v f wc o9 H locs ls (by omega) (by omega) (by omega) (by omega) (by omega) hI hW hP hD hS (lv_sub hl [1, 2, 3, 4, 0] rfl)
end LawLoop
/-! What the tables give at the start. -/
theorem ak_prim {s : State} {a : Array Value} {ty : FieldType} (hp : ∀ c : ClassId, va_RA s c ty = (s.vm.findClass ("[" ++ ty.toString) = some c)) (h : (Cond.arrayClass ty).before a s = true) : ∃ c : ClassId, ArrOfT s c ty ∧ va_RA s c ty := by
  obtain ⟨c, kA, comp, h1, h2, h3⟩ := Cond.arrayClass_spec h
  exact ⟨c, fun n z => ⟨fun k h => (by cases h), kA, h2, comp, h3⟩, by rw [hp]; exact h1⟩
theorem ak_obj {s : State} {a : Array Value} {C : String} (h : (Cond.arrayOver (.object C)).before a s = true) : ∃ c : ClassId, ArrOfT s c (.object C) ∧ va_RA s c (.object C) := by
  obtain ⟨comp, c, kA, h1, -, h2, h3, h4⟩ := Cond.arrayOver_spec h
  exact ⟨c, fun n z => ⟨fun k h => (by cases h), kA, h2, comp, h3⟩, kA, comp, h2, h3, h1, h4⟩
set_option maxHeartbeats 4000000 in
theorem ak_K {s : State} {a : Array Value} (h : ∀ w ∈ lw_tbl, w.before a s = true) : ∃ (D : va_G) (k : Nat → ClassId), va_K D classes (tysOf k) s := by
  have hG : ∀ w ∈ GW, w.before a s = true := fun w hw => h w (gw_tbl hw)
  obtain ⟨c0, i0, hn0⟩ := u_known (C := R_N) (T := F_N) (N := 1) (n := 1) hG in_N (hG _ g_349)
  obtain ⟨c1, i1, hn1⟩ := u_known (C := R_P) (T := F_P) (N := 4) (n := 4) hG in_P (hG _ g_263)
  obtain ⟨c2, i2, hn2⟩ := u_known (C := R_F) (T := F_F) (N := 5) (n := 5) hG in_F (hG _ g_26)
  obtain ⟨c3, i3, hn3⟩ := u_known (C := R_R) (T := F_R) (N := 1) (n := 1) hG in_R (hG _ g_376)
  obtain ⟨c4, i4, hn4⟩ := u_known (C := R_G) (T := F_G) (N := 4) (n := 4) hG in_G (hG _ g_500)
  obtain ⟨c5, i5, hn5⟩ := u_known (C := R_C) (T := F_C) (N := 13) (n := 13) hG in_C (hG _ g_18)
  obtain ⟨c6, i6, hn6⟩ := u_known (C := R_M) (T := F_M) (N := 26) (n := 26) hG in_M (hG _ g_622)
  obtain ⟨k0, hk0⟩ := ak_prim (fun _ => rfl) (hG _ g_53)
  obtain ⟨k1, hk1⟩ := ak_prim (fun _ => rfl) (hG _ g_893)
  obtain ⟨k2, hk2⟩ := ak_obj (h _ g_55)
  obtain ⟨k3, hk3⟩ := ak_obj (h _ g_57)
  obtain ⟨k4, hk4⟩ := ak_obj (h _ g_59)
  obtain ⟨k5, hk5⟩ := ak_obj (h _ g_61)
  refine ⟨(fun j => if j = 0 then c0 else if j = 1 then c1 else if j = 2 then c2 else if j = 3 then c3 else if j = 4 then c4 else if j = 5 then c5 else c6, fun j => if j = 0 then i0 else if j = 1 then i1 else if j = 2 then i2 else if j = 3 then i3 else if j = 4 then i4 else if j = 5 then i5 else i6), fun j => if j = 0 then k0 else if j = 1 then k1 else if j = 2 then k2 else if j = 3 then k3 else if j = 4 then k4 else k5, fun j q hq => ?_, fun j q hq => ?_⟩
  · match j, hq with
    | 0, hq => cases hq; exact hn0
    | 1, hq => cases hq; exact hn1
    | 2, hq => cases hq; exact hn2
    | 3, hq => cases hq; exact hn3
    | 4, hq => cases hq; exact hn4
    | 5, hq => cases hq; exact hn5
    | 6, hq => cases hq; exact hn6
    | j + 7, hq => simp [classes] at hq
  · match j, hq with
    | 0, hq => cases hq; exact hk0
    | 1, hq => cases hq; exact hk1
    | 2, hq => cases hq; exact hk2
    | 3, hq => cases hq; exact hk3
    | 4, hq => cases hq; exact hk4
    | 5, hq => cases hq; exact hk5
    | j + 6, hq => simp [tysOf] at hq
theorem st_Iv : Iv (fun _ => 0) (fun _ _ => 0) := by
  refine ⟨⟨Or.inl rfl, fun _ => rfl, ⟨by decide, by decide⟩, ⟨by decide, by decide, by decide⟩, ⟨by decide, by decide⟩, fun w h1 h2 => absurd h2 (by show ¬ w < 0; omega)⟩, ⟨⟨by decide, by decide⟩, fun w h1 h2 => absurd h2 (by show ¬ w < 0; omega), fun w h1 h2 => absurd h2 (by show ¬ w < 0; omega), fun w h1 h2 => absurd h2 (by show ¬ w < 0; omega), fun w h1 h2 => absurd h2 (by show ¬ w < 0; omega)⟩, ⟨⟨by decide, by decide⟩, fun w h1 h2 => absurd h2 (by show ¬ w < 0; omega)⟩, ⟨⟨by decide, by decide⟩, fun w h1 h2 => absurd h2 (by show ¬ w < 0; omega), fun w h1 h2 => absurd h2 (by show ¬ w < 0; omega), fun _ _ _ => rfl⟩, Or.inl rfl, ⟨by decide, by decide⟩, fun w h1 h2 => absurd h2 (by show ¬ w < 0; omega), fun w h1 h2 => absurd h2 (by show ¬ w < 0; omega)⟩
theorem st_gQ0 (a : Int → Nat) : gQ 0 a = fun _ => none := funext fun j => if_neg (by omega)
theorem st_Cst (k : Nat → ClassId) (cx cf cp cn ce cg cu ct cr : Nat) : Cst k cx (fun _ => 0) (fun _ _ => 0) (cFx k cx cf cp cn ce cg cu ct cr 0 0 0 0 0 0 0 0 0 0 (fun _ => 0) (fun _ => 0) (fun _ => 0) (fun _ => none) (fun _ => none) (fun _ => none) (fun _ => none)) := by
  refine ⟨cf, cp, cn, ce, cg, cu, ct, cr, fun _ => 0, fun _ => 0, fun _ => 0, fun _ _ => 0, fun _ => 0, fun _ => 0, fun _ => none, fun _ => 0, fun _ => 0, fun _ => 0, fun _ _ => 0, fun _ _ => 0, [], ?_, ?_, ?_, ?_, ?_, ?_, ?_⟩
  · rw [st_gQ0]; rfl
  · exact ⟨rfl, fun w x h1 h2 => absurd h2 (by show ¬ w < 0; omega), fun _ _ _ => ⟨Int.le_refl 0, (by decide : (0 : Int) ≤ 500)⟩⟩
  · exact fun w h1 h2 => absurd h2 (by show ¬ w < 0; omega)
  · exact fun w h1 h2 => absurd h2 (by show ¬ w < 0; omega)
  · exact fun w h1 h2 => absurd h2 (by show ¬ w < 0; omega)
  · exact fun _ _ _ _ _ _ => Or.inl rfl
  · exact fun w h1 h2 => absurd h2 (by show ¬ w < 0; omega)
/-! THE CLAIM OUT OF ONE WALK OF THE LAW'S BODY. Your part is whole_start (and what it stands on); all else here is the same for every law, but numbers. -/
def R_law : String := "LathePiecesLaw"
def lw_P (b : Addr) (xs : List Int32) (args : Array Value) (s : State) : Prop := args = #[.ref b] ∧ s.IntsAt b xs ∧ xs.length ≤ 3072 ∧ (Jvm.Cond.and given_1 narrow_1).before args s = true
def lw_Q (_ : Array Value) (s : State) (o : Outcome) (t : State) : Prop := o = .returned (some (.int 1)) ∧ Framed s o t [] 601024 7293034
def lw_Z (below : List Frame) (a : Array Value) (s : State) : State → Prop := fun t => ∃ o, t.status = .running ∧ Ended t below o ∧ lw_Q a s o t
/-- the law's own end, with 1 on the stack, nothing written that was there before, its room as the claim has it -/
theorem lw_ret {p : Program} {l : Launch} {e : Env} {s : State} {m : MethodId} {below : List Frame} {meth : Method} {c : Code} {b : Nat} (hx : p.tables.exec = Jvm.exec) (hb : c.code = code) (hr : meth.sig.returnType = ret) (hlocks : meth.locks = false) {pc : Nat} {H : Heap} {ls : Array Slot} (hdg : decode code pc = .ok (.ireturn, 1)) : W p l e room_1 s m #[Value.ref b] below meth c H [] 601024 7293034 (lw_Z below #[Value.ref b] s) (F0 m pc ls [.int 1]) := by
  intro T hT X
  obtain ⟨fs, hret, hrun, hended, hW, hframe⟩ := X.leave (v := some (.int 1)) (hlocks := hlocks) (fun h => by rw [hr] at h; cases h)
  have hmeth' : T.vm.method? m = some meth := X.method'
  refine ⟨T.setFrames fs, ?_, .returned (some (.int 1)), hrun, hended, rfl, ⟨_, rfl⟩, hW, hframe⟩
  jvm_step X.here [X.here.top, hx, hb, hdg, hmeth', hr, ret, narrow_b1]
  (try refine ⟨rfl, ?_⟩); (try refine ⟨rfl, ?_⟩)
  first | (intro acts; rw [hret _ acts rfl rfl rfl]) | rw [hret _ _ rfl rfl rfl]
  exact Steps.refl _
/-- what holds at the law's entry: the machine, the code, the tables' words (any of lw_tbl by 'hts w (by decide +kernel)'), the script of L ints xs at the cell b, what the Statement gives of the start (any of its parts by flat_of_before) -/
def lw_At (p : Program) (s : State) (m : MethodId) (meth : Method) (c : Code) (b L : Nat) (xs : Nat → Int32) : Prop :=
  p.tables.exec = Jvm.exec ∧ c.code = code ∧ meth.sig.returnType = ret ∧ c.maxLocals = 8 ∧ s.vm.findClass R_law = some m.cls ∧ (∀ w ∈ lw_tbl, w.before #[Value.ref b] s = true) ∧ va_X b L xs s s.heap ∧ b < s.heap.size ∧ meth.locks = false ∧ (Jvm.Cond.and given_1 narrow_1).before #[Value.ref b] s = true
theorem pm_rot2 (a b c : Nat × va_E) (T : va_W) : (a :: b :: c :: T).Perm (b :: c :: a :: T) := (List.Perm.swap b a (c :: T)).trans (List.Perm.cons b (List.Perm.swap c a T))
theorem st_pc (k : Nat → ClassId) (cx cf cp cn ce cg cu ct cr : Nat) : List.Perm ([(ct, .inl (k 0, ai 8 (fun _ => 0))), (cu, .inl (k 0, ai 8 (fun _ => 0))), (cg, .inl (k 5, aq 6 (fun _ => none))), (ce, .inl (k 4, aq 36 (fun _ => none))), (cn, .inl (k 3, aq 6 (fun _ => none))), (cp, .inl (k 2, aq 6 (fun _ => none))), (cr, .inl (k 0, ai 65 (fun _ => 0))), (cf, .inr (2, [.ref cr, .int (iI (0)), .int (iI (0)), .int (iI (0)), .int (iI (0))])), (cx, .inr (5, [.ref cf, .ref cp, .int (iI (0)), .ref cn, .int (iI (0)), .ref ce, .ref cg, .int (iI (0)), .ref cu, .ref ct, .int (iI (0)), .int (iI (0)), .int (iI (0))]))] : va_W) (cFx k cx cf cp cn ce cg cu ct cr 0 0 0 0 0 0 0 0 0 0 (fun _ => 0) (fun _ => 0) (fun _ => 0) (fun _ => none) (fun _ => none) (fun _ => none) (fun _ => none)) :=
  (show List.Perm ([(ct, .inl (k 0, ai 8 (fun _ => 0))), (cu, .inl (k 0, ai 8 (fun _ => 0))), (cg, .inl (k 5, aq 6 (fun _ => none))), (ce, .inl (k 4, aq 36 (fun _ => none))), (cn, .inl (k 3, aq 6 (fun _ => none))), (cp, .inl (k 2, aq 6 (fun _ => none))), (cr, .inl (k 0, ai 65 (fun _ => 0))), (cf, .inr (2, [.ref cr, .int (iI (0)), .int (iI (0)), .int (iI (0)), .int (iI (0))])), (cx, .inr (5, [.ref cf, .ref cp, .int (iI (0)), .ref cn, .int (iI (0)), .ref ce, .ref cg, .int (iI (0)), .ref cu, .ref ct, .int (iI (0)), .int (iI (0)), .int (iI (0))]))] : va_W) ([(cx, .inr (5, [.ref cf, .ref cp, .int (iI (0)), .ref cn, .int (iI (0)), .ref ce, .ref cg, .int (iI (0)), .ref cu, .ref ct, .int (iI (0)), .int (iI (0)), .int (iI (0))])), (cf, .inr (2, [.ref cr, .int (iI (0)), .int (iI (0)), .int (iI (0)), .int (iI (0))])), (cr, .inl (k 0, ai 65 (fun _ => 0))), (cp, .inl (k 2, aq 6 (fun _ => none))), (cn, .inl (k 3, aq 6 (fun _ => none))), (ce, .inl (k 4, aq 36 (fun _ => none))), (cg, .inl (k 5, aq 6 (fun _ => none))), (cu, .inl (k 0, ai 8 (fun _ => 0))), (ct, .inl (k 0, ai 8 (fun _ => 0)))] : va_W) from (List.reverse_perm _).symm).trans (pm_rot2 (cx, .inr (5, [.ref cf, .ref cp, .int (iI (0)), .ref cn, .int (iI (0)), .ref ce, .ref cg, .int (iI (0)), .ref cu, .ref ct, .int (iI (0)), .int (iI (0)), .int (iI (0))])) (cf, .inr (2, [.ref cr, .int (iI (0)), .int (iI (0)), .int (iI (0)), .int (iI (0))])) (cr, .inl (k 0, ai 65 (fun _ => 0))) ([(cp, .inl (k 2, aq 6 (fun _ => none))), (cn, .inl (k 3, aq 6 (fun _ => none))), (ce, .inl (k 4, aq 36 (fun _ => none))), (cg, .inl (k 5, aq 6 (fun _ => none))), (cu, .inl (k 0, ai 8 (fun _ => 0))), (ct, .inl (k 0, ai 8 (fun _ => 0)))] : va_W))
theorem st_pm (k : Nat → ClassId) (am a4 a5 a6 a7 a8 a10 a11 a12 a14 a15 a16 a18 a19 a20 a24 a25 : Nat) (wr : va_W) : List.Perm (((a25, .inl (k 0, ai 8 (fun _ => 0))) :: (a24, .inl (k 0, ai 8 (fun _ => 0))) :: (a20, .inl (k 0, ai 96 (fun _ => 0))) :: (a19, .inl (k 0, ai 96 (fun _ => 0))) :: (a18, .inl (k 0, ai 6 (fun _ => 0))) :: (a16, .inl (k 0, ai 65 (fun _ => 0))) :: (a15, .inl (k 0, ai 65 (fun _ => 0))) :: (a14, .inl (k 0, ai 6 (fun _ => 0))) :: (a12, .inl (k 0, ai 390 (fun _ => 0))) :: (a11, .inl (k 0, ai 6 (fun _ => 0))) :: (a10, .inl (k 0, ai 6 (fun _ => 0))) :: (a8, .inl (k 0, ai 64 (fun _ => 0))) :: (a7, .inl (k 0, ai 64 (fun _ => 0))) :: (a6, .inl (k 0, ai 64 (fun _ => 0))) :: (a5, .inl (k 0, ai 64 (fun _ => 0))) :: (a4, .inl (k 0, ai 64 (fun _ => 0))) :: (am, .inr (6, [.int (iI (0)), .int (iI (0)), .int (iI (0)), .int (iI (0)), .ref a4, .ref a5, .ref a6, .ref a7, .ref a8, .int (iI (0)), .ref a10, .ref a11, .ref a12, .int (iI (0)), .ref a14, .ref a15, .ref a16, .int (iI (0)), .ref a18, .ref a19, .ref a20, .int (iI (0)), .int (iI (0)), .int (iI (0)), .ref a24, .ref a25])) :: wr : va_W)) (mWd k (fun j => bif Nat.beq j 4 then a4 else bif Nat.beq j 5 then a5 else bif Nat.beq j 6 then a6 else bif Nat.beq j 7 then a7 else bif Nat.beq j 8 then a8 else bif Nat.beq j 10 then a10 else bif Nat.beq j 11 then a11 else bif Nat.beq j 12 then a12 else bif Nat.beq j 14 then a14 else bif Nat.beq j 15 then a15 else bif Nat.beq j 16 then a16 else bif Nat.beq j 18 then a18 else bif Nat.beq j 19 then a19 else bif Nat.beq j 20 then a20 else bif Nat.beq j 24 then a24 else bif Nat.beq j 25 then a25 else am) (fun _ => 0) (fun _ _ => 0) ++ wr) := by
  show List.Perm ((mWd k (fun j => bif Nat.beq j 4 then a4 else bif Nat.beq j 5 then a5 else bif Nat.beq j 6 then a6 else bif Nat.beq j 7 then a7 else bif Nat.beq j 8 then a8 else bif Nat.beq j 10 then a10 else bif Nat.beq j 11 then a11 else bif Nat.beq j 12 then a12 else bif Nat.beq j 14 then a14 else bif Nat.beq j 15 then a15 else bif Nat.beq j 16 then a16 else bif Nat.beq j 18 then a18 else bif Nat.beq j 19 then a19 else bif Nat.beq j 20 then a20 else bif Nat.beq j 24 then a24 else bif Nat.beq j 25 then a25 else am) (fun _ => 0) (fun _ _ => 0)).reverse ++ wr) _
  exact List.Perm.append_right wr (List.reverse_perm _)
set_option maxHeartbeats 4000000 in
set_option maxRecDepth 100000 in
/-- THE LAW, from its entry -/
theorem whole_start {p9 : Program} {e9 : Env} {s : State} {m9 : MethodId} {below9 : List Frame} {meth9 : Method} {c9 : Code} (l : Launch) (hfl : l.stackTraces = false) {b L : Nat} {xs : Nat → Int32} (hL : L ≤ 3072) (C0 : lw_At p9 s m9 meth9 c9 b L xs) : W p9 l e9 room_1 s m9 #[Value.ref b] below9 meth9 c9 s.heap [] 0 0 (lw_Z below9 #[Value.ref b] s) (entryFrame m9 ([Value.ref b] : List Value).toArray 8) := by
  obtain ⟨hx, hb, hr, hml, hown, hts, hX, hbl, hlocks, hgv⟩ := id C0
  replace hown : s.vm.findClass "LathePiecesLaw" = some m9.cls := hown
  obtain ⟨D, k, hK⟩ := ak_K hts
  have hgf := flat_of_before _ hgv
  have hC : Cx l s D k := ⟨hfl, ⟨_, hts, hgf _ (by decide +kernel), hgf _ (by decide +kernel)⟩, hK, va_Nc.of (hgf _ (by decide +kernel)), va_Nc.of (hgf _ (by decide +kernel)), va_Nc.of (hgf _ (by decide +kernel)), va_Nc.of (hgf _ (by decide +kernel)), va_Nc.of (hgf _ (by decide +kernel)), va_Nc.of (hgf _ (by decide +kernel))⟩
  have hG : ∀ w ∈ GW, w.before #[Value.ref b] s = true := fun w hw => hts w (gw_tbl hw)
  have h0 : La s s := ⟨State.WarmedH.refl s, Nat.le_refl _, fun _ _ => rfl⟩
  have hA : ∀ q : Nat, s.heap.size ≤ q → aL s q := fun _ h => h
  have hS : va_S (aL s) s.heap s.heap [] := va_S.rf
  have hP : va_P D classes [] s.heap := fun j q h => by simp at h
  have hD : va_D (aL s) [] := ⟨fun i j p q h => by simp at h, fun j q h => by simp at h⟩
  have hl := lv_entry ([.ref b]) (n := 8) (Nat.le_of_ble_eq_true rfl)
  rw [lg_entry_eq]
  generalize (lg_sl ([.ref b]) ++ List.replicate (8 - (lg_sl ([.ref b])).length) Slot.unset).toArray = ls at hl ⊢
  replace hl : lv_has ls 8 [(0, .ref b)] := hl
  refine ra_new (ci := 5) (fs := [.null, .null, .int (iI (0)), .null, .int (iI (0)), .null, .null, .int (iI (0)), .null, .null, .int (iI (0)), .int (iI (0)), .int (iI (0))]) (C := R_C) (T := F_C) (N := 13) hx hb hG in_C t_C t_C_ok hown g_17 g_18 g_1 hK hP hD hS hA rfl (fun j hj => by rcases (show j = 0 ∨ j = 1 ∨ j = 2 ∨ j = 3 ∨ j = 4 ∨ j = 5 ∨ j = 6 ∨ j = 7 ∨ j = 8 ∨ j = 9 ∨ j = 10 ∨ j = 11 ∨ j = 12 by omega) with rfl | rfl | rfl | rfl | rfl | rfl | rfl | rfl | rfl | rfl | rfl | rfl | rfl <;> rfl) (Nat.le_of_ble_eq_true rfl) (Nat.le_of_ble_eq_true rfl) d_L_law_0 (fun cx H hP hD hS => ?_)
  refine lv_dup hx hb d_L_law_3 rfl ?_
  refine wd_callC h0 hS (ex_runI (As := []) (rest := [.ref cx]) (b := cx) ⟨hx, hb, hml, hown, hG⟩ (c_C_init hC cx []) (cb_code (n := 0) hG g_21 g_1 g_19 rfl rfl (by decide +kernel) ⟨Nat.le_of_ble_eq_true rfl, Nat.le_of_ble_eq_true rfl⟩) (hG _ g_20) rfl (hG _ g_21) (kd_preW h0 hS hP hD) rfl rfl hl.1 rfl (lv_room (Nat.le_of_ble_eq_true rfl)) d_L_law_4 ⟨Nat.le_of_ble_eq_true rfl, Nat.le_of_ble_eq_true rfl⟩) (fun E ws9 hE H locs hP hD hS q T0 hT0 hq => False.elim hE) (fun v9 ws9 h9 H locs hP hD hS => ?_)
  obtain ⟨cf, cr, cp, cn, ce, cg, cu, ct, rfl, rfl⟩ := h9
  show W _ _ _ _ _ _ _ _ _ _ _ _ _ _ _ (F0 m9 7 ls [.ref cx])
  replace hP : va_P D classes (cFx k cx cf cp cn ce cg cu ct cr 0 0 0 0 0 0 0 0 0 0 (fun _ => 0) (fun _ => 0) (fun _ => 0) (fun _ => none) (fun _ => none) (fun _ => none) (fun _ => none)) H := wl_Pp hP (st_pc k cx cf cp cn ce cg cu ct cr)
  replace hD : va_D (aL s) (cFx k cx cf cp cn ce cg cu ct cr 0 0 0 0 0 0 0 0 0 0 (fun _ => 0) (fun _ => 0) (fun _ => 0) (fun _ => none) (fun _ => none) (fun _ => none) (fun _ => none)) := wl_Dp hD (st_pc k cx cf cp cn ce cg cu ct cr)
  refine lv_astore_n (lv' := [(1, .ref cx), (0, .ref b)]) hx hb d_L_law_7 rfl hl (by decide) rfl (fun ls hl => ?_)
  refine ra_new (ci := 6) (fs := [.int (iI (0)), .int (iI (0)), .int (iI (0)), .int (iI (0)), .null, .null, .null, .null, .null, .int (iI (0)), .null, .null, .null, .int (iI (0)), .null, .null, .null, .int (iI (0)), .null, .null, .null, .int (iI (0)), .int (iI (0)), .int (iI (0)), .null, .null]) (C := R_M) (T := F_M) (N := 26) hx hb hG in_M t_M t_M_ok hown g_621 g_622 g_3 hK hP hD hS hA rfl (fun j hj => by rcases (show j = 0 ∨ j = 1 ∨ j = 2 ∨ j = 3 ∨ j = 4 ∨ j = 5 ∨ j = 6 ∨ j = 7 ∨ j = 8 ∨ j = 9 ∨ j = 10 ∨ j = 11 ∨ j = 12 ∨ j = 13 ∨ j = 14 ∨ j = 15 ∨ j = 16 ∨ j = 17 ∨ j = 18 ∨ j = 19 ∨ j = 20 ∨ j = 21 ∨ j = 22 ∨ j = 23 ∨ j = 24 ∨ j = 25 by omega) with rfl | rfl | rfl | rfl | rfl | rfl | rfl | rfl | rfl | rfl | rfl | rfl | rfl | rfl | rfl | rfl | rfl | rfl | rfl | rfl | rfl | rfl | rfl | rfl | rfl | rfl <;> rfl) (Nat.le_of_ble_eq_true rfl) (Nat.le_of_ble_eq_true rfl) d_L_law_8 (fun am H hP hD hS => ?_)
  refine lv_dup hx hb d_L_law_11 rfl ?_
  refine wd_callC h0 hS (ex_runI (As := []) (rest := [.ref am]) (b := am) ⟨hx, hb, hml, hown, hG⟩ (c_M_init hC am (cFx k cx cf cp cn ce cg cu ct cr 0 0 0 0 0 0 0 0 0 0 (fun _ => 0) (fun _ => 0) (fun _ => 0) (fun _ => none) (fun _ => none) (fun _ => none) (fun _ => none))) (cb_code (n := 0) hG g_625 g_3 g_623 rfl rfl (by decide +kernel) ⟨Nat.le_of_ble_eq_true rfl, Nat.le_of_ble_eq_true rfl⟩) (hG _ g_624) rfl (hG _ g_625) (kd_preW h0 hS hP hD) rfl rfl hl.1 rfl (lv_room (Nat.le_of_ble_eq_true rfl)) d_L_law_12 ⟨Nat.le_of_ble_eq_true rfl, Nat.le_of_ble_eq_true rfl⟩) (fun E ws9 hE H locs hP hD hS q T0 hT0 hq => False.elim hE) (fun v9 ws9 h9 H locs hP hD hS => ?_)
  obtain ⟨a4, a5, a6, a7, a8, a10, a11, a12, a14, a15, a16, a18, a19, a20, a24, a25, rfl, rfl⟩ := h9
  show W _ _ _ _ _ _ _ _ _ _ _ _ _ _ _ (F0 m9 15 ls [.ref am])
  obtain ⟨A, hAe⟩ : ∃ A : Nat → Nat, A = (fun j => bif Nat.beq j 4 then a4 else bif Nat.beq j 5 then a5 else bif Nat.beq j 6 then a6 else bif Nat.beq j 7 then a7 else bif Nat.beq j 8 then a8 else bif Nat.beq j 10 then a10 else bif Nat.beq j 11 then a11 else bif Nat.beq j 12 then a12 else bif Nat.beq j 14 then a14 else bif Nat.beq j 15 then a15 else bif Nat.beq j 16 then a16 else bif Nat.beq j 18 then a18 else bif Nat.beq j 19 then a19 else bif Nat.beq j 20 then a20 else bif Nat.beq j 24 then a24 else bif Nat.beq j 25 then a25 else am) := ⟨_, rfl⟩
  replace hP : va_P D classes (mWd k A (fun _ => 0) (fun _ _ => 0) ++ (cFx k cx cf cp cn ce cg cu ct cr 0 0 0 0 0 0 0 0 0 0 (fun _ => 0) (fun _ => 0) (fun _ => 0) (fun _ => none) (fun _ => none) (fun _ => none) (fun _ => none))) H := by subst hAe; exact wl_Pp hP (st_pm k am a4 a5 a6 a7 a8 a10 a11 a12 a14 a15 a16 a18 a19 a20 a24 a25 (cFx k cx cf cp cn ce cg cu ct cr 0 0 0 0 0 0 0 0 0 0 (fun _ => 0) (fun _ => 0) (fun _ => 0) (fun _ => none) (fun _ => none) (fun _ => none) (fun _ => none)))
  replace hD : va_D (aL s) (mWd k A (fun _ => 0) (fun _ _ => 0) ++ (cFx k cx cf cp cn ce cg cu ct cr 0 0 0 0 0 0 0 0 0 0 (fun _ => 0) (fun _ => 0) (fun _ => 0) (fun _ => none) (fun _ => none) (fun _ => none) (fun _ => none))) := by subst hAe; exact wl_Dp hD (st_pm k am a4 a5 a6 a7 a8 a10 a11 a12 a14 a15 a16 a18 a19 a20 a24 a25 (cFx k cx cf cp cn ce cg cu ct cr 0 0 0 0 0 0 0 0 0 0 (fun _ => 0) (fun _ => 0) (fun _ => 0) (fun _ => none) (fun _ => none) (fun _ => none) (fun _ => none)))
  have hAm : am = A 26 := by subst hAe; rfl
  rw [hAm]
  refine lv_astore_n (lv' := [(2, .ref (A 26)), (1, .ref cx), (0, .ref b)]) hx hb d_L_law_15 rfl hl (by decide) rfl (fun ls hl => ?_)
  refine ri_iconst hx hb d_L_law_16 ?_
  refine ra_newl (N := 1) hx hb hG g_893 hK hP hD hS hA rfl (by omega) (by exact Nat.le_of_ble_eq_true rfl) (by exact Nat.le_of_ble_eq_true rfl) d_L_law_17 (fun ao H hP hD hS => ?_)
  refine lv_astore_n (lv' := [(3, .ref ao), (2, .ref (A 26)), (1, .ref cx), (0, .ref b)]) hx hb d_L_law_19 rfl hl (by decide) rfl (fun ls hl => ?_)
  refine ri_iconst hx hb d_L_law_20 ?_
  refine lv_istore (lv' := [(4, .int (iI (0))), (3, .ref ao), (2, .ref (A 26)), (1, .ref cx), (0, .ref b)]) hx hb d_L_law_21 hl (by decide) rfl (fun ls hl => ?_)
  replace hP := wl_Pp hP (pm_lb (mWd k A (fun _ => 0) (fun _ _ => 0)) (ao, .inl (k 1, al 1 (fun _ => 0))) (cFx k cx cf cp cn ce cg cu ct cr 0 0 0 0 0 0 0 0 0 0 (fun _ => 0) (fun _ => 0) (fun _ => 0) (fun _ => none) (fun _ => none) (fun _ => none) (fun _ => none)))
  replace hD := wl_Dp hD (pm_lb (mWd k A (fun _ => 0) (fun _ _ => 0)) (ao, .inl (k 1, al 1 (fun _ => 0))) (cFx k cx cf cp cn ce cg cu ct cr 0 0 0 0 0 0 0 0 0 0 (fun _ => 0) (fun _ => 0) (fun _ => 0) (fun _ => none) (fun _ => none) (fun _ => none) (fun _ => none)))
  refine W.widen (k := 100) (n := 2000) (Nat.le_of_ble_eq_true rfl) (Nat.le_of_ble_eq_true rfl) ?_
  refine law_loop ⟨hx, hb, hml, hown, hG, hX, hbl, hL, hC⟩ cx A ao (fun H locs ls cells slots hc hs hS => ?_) 512 0 100 2000 (fun _ => 0) (fun _ _ => 0) (cFx k cx cf cp cn ce cg cu ct cr 0 0 0 0 0 0 0 0 0 0 (fun _ => 0) (fun _ => 0) (fun _ => 0) (fun _ => none) (fun _ => none) (fun _ => none) (fun _ => none)) (fun _ => 0) H locs ls (Int.le_refl 0) (by omega) (by omega) (Nat.le_of_ble_eq_true rfl) (Nat.le_of_ble_eq_true rfl) st_Iv (st_Cst k cx cf cp cn ce cg cu ct cr) hP hD hS (lv_sub hl [4, 3, 2, 1, 0] rfl)
  refine va_forget hS.2.2 ?_
  refine W.widen hc hs ?_
  refine ri_iconst hx hb d_L_law_1947 ?_
  refine tp_i (y := 1) rfl ?_
  exact lw_ret hx hb hr hlocks d_L_law_1948
set_option maxHeartbeats 4000000 in
theorem lw_walk (l : Launch) (hfl : l.stackTraces = false) (b : Addr) (xs : List Int32) : MetFree l x (headSpec (Jvm.Cond.code x code maxLocals ret :: tables_1) room_1) (lw_P b xs) (fun _ _ _ _ _ => True) lw_Q := by
  refine MetFree.of_bodyS (code := code) (maxLocals := maxLocals) (ret := ret) (by decide) ?_ ?_
  · intro args s m h hn
    obtain ⟨meth, c, h1, h2, h3, h4, h5, h6, -, -⟩ := Cond.code_spec hn (atoms_spec (ws := Jvm.Cond.code x code maxLocals ret :: tables_1) h _ List.mem_cons_self)
    exact ⟨meth, c, h1, h2, h3, h4, h5, h6⟩
  · intro p e s m args below meth c s₁ B hml0 hP _
    obtain ⟨rfl, hx, hbd, hgv⟩ := hP
    obtain ⟨scr, harrAt, hlist, hof, hsmall⟩ := hx
    obtain ⟨hcb, hkn, -, -⟩ := State.arrayAt?_spec harrAt
    have hown : s.vm.findClass R_law = some m.cls := findClass_of_methodNamed B.named
    have hts0 : ∀ c ∈ (Jvm.Cond.code x code maxLocals ret :: tables_1), c.before #[Value.ref b] s = true := atoms_spec (ws := Jvm.Cond.code x code maxLocals ret :: tables_1) B.pre
    have hts : ∀ w ∈ lw_tbl, w.before #[Value.ref b] s = true := k2_hts_sels lw_privs (fun w hw => hts0 w (List.mem_cons_of_mem _ hw)) lw_privs_ok
    have hml : c.maxLocals = 8 := B.maxLocals_eq (hts0 _ List.mem_cons_self)
    have X₀ : Stand p l e room_1 s m #[Value.ref b] below meth c s₁ [] 0 0 := Stand.of_body B
    have hh0 : s₁.heap = s.heap := by rw [B.state]; rfl
    have hsz : scr.slots.size = xs.length := by rw [← Array.length_toList, hlist, List.length_map]
    have hval : ∀ j : Nat, j < xs.length → scr.slots[j]? = some (.int (xs.getD j 0)) := fun j hj => by
      rw [← Array.getElem?_toList, hlist]
      simp [hj]
    have hbl : b < s.heap.size := (Array.getElem?_eq_some_iff.mp hcb).1
    have hX : va_X b xs.length (fun j => xs.getD j 0) s s.heap := ⟨scr, hcb, hof, hkn, hsz, hval⟩
    have K : W p l e room_1 s m #[Value.ref b] below meth c s₁.heap [] 0 0 (lw_Z below #[Value.ref b] s) (entryFrame m ([Value.ref b] : List Value).toArray 8) := by
      rw [hh0]
      exact whole_start l hfl hbd ⟨B.exec, B.bytes, B.returns, hml, hown, hts, hX, hbl, B.notSynchronized, hgv⟩
    obtain ⟨t, a1, o, b1, b2, b3⟩ := K s₁ rfl X₀
    exact ⟨t, o, a1, b1, b2, b3⟩
theorem lw_pre_spec {args : Array Value} {s : State} (h : (Jvm.Cond.and given_1 narrow_1).before args s = true) (hr : rest_1_c.before args s = true) : ∃ (b : Addr) (xs : List Int32), lw_P b xs args s := by
  have hs := flat_of_before _ h
  have hq := flat_of_before _ hr
  have hc : (Cond.count 1).before args s = true := hs _ (by decide +kernel)
  have harr : (Cond.arrayOf (.arg 0) .int).before args s = true := hs _ (by decide +kernel)
  have hle : (Cond.le (.length (.arg 0)) (.int 3072)).before args s = true := hs _ (by decide +kernel)
  have hlen : (Cond.isInt (.length (.arg 0))).before args s = true := hq _ (by decide +kernel)
  have hall : (Cond.all (.arg 0) (.isInt (.elem (.arg 0) (.index 0)))).before args s = true := hq _ (by decide +kernel)
  obtain ⟨b, xs, hb, hx⟩ := State.ints_of_pre rfl harr hlen hall
  have hsm : xs.length < 2 ^ 31 := hx.choose_spec.2.2.2
  have hev : (Term.length (.arg 0)).eval args s none [] s = some (.int xs.length.toInt32) := hx.length_eval hb
  have hv := Cond.le_ints hev (show (Term.int 3072).eval args s none [] s = some (.int 3072) from rfl)
  have hd : xs.length.toInt32 ≤ 3072 := by
    simpa [Cond.before, Cond.holds, hv] using hle
  have hN : xs.length ≤ 3072 := (Int32.ofNat_le_ofNat hsm (by decide)).mp (show Int32.ofNat xs.length ≤ Int32.ofNat 3072 from hd)
  exact ⟨b, xs, Cond.one_arg hc (show args[0]? = some (.ref b) from hb), hx, hN, h⟩
theorem lw_comes (l : Launch) (hfl : l.stackTraces = false) : Comes l x (Jvm.Cond.code x code maxLocals ret :: tables_1) room_1 (fun tb e args s => Calls_1 tb e args s ∧ rest_1 tb e args s ∧ Pre_1 tb e args s)
    (fun _ _ args s o t => lw_Q args s o t) := by
  intro p e ha hc hk s m args below hf hfit hheap happ hpre
  obtain ⟨b, xs, hP⟩ := lw_pre_spec hpre.2.2 hpre.2.1
  obtain ⟨k, o, h1, h2, h3, hQ⟩ := lw_walk l hfl b xs p e ha hc hk s m args below hf ((Spec.applies_iff_loose hf).mp happ).1 hP trivial
  exact ⟨k, o, h1, h2, h3, hQ⟩
theorem lw_frame {s t : State} {o : Outcome} {args : Array Value} (h : Framed s o t [] 601024 7293034) :
    Framed s o t (fieldLocs frame_1_writes args s ++ arrayLocs frame_1_arrays args s ++ staticLocs frame_1_statics s) 601024 7293034 := h
theorem lw_limb (L : Cond) (hL : ∀ (args : Array Value) (s t : State), L.after args s (.returned (some (.int 1))) t = true) :
    ArmFor flags0 classFile x code maxLocals ret World_1 tables_1 room_1 Calls_1 rest_1 Pre_1
      (fun tb e a s o t => postC L tb e a s o t ∧ Framed s o t (fieldLocs frame_1_writes a s ++ arrayLocs frame_1_arrays a s ++ staticLocs frame_1_statics s) 601024 7293034) := by
  intro l hf0 _ _ p e ha hc hk s m args below hf hfit hheap happ hpre
  have hfl : l.stackTraces = false := by unfold Launch.stackTraces; rw [hf0]; decide
  obtain ⟨k, o, h1, h2, h3, rfl, hF⟩ := lw_comes l hfl p e ha hc hk s m args below hf hfit hheap happ hpre
  exact ⟨k, _, h1, h2, h3, hL args s _, lw_frame hF⟩
theorem i_vc : Claimed_1_1 ∧ Claimed_1_2 := ⟨lw_limb limb_1_1 (fun args s t => by simp [limb_1_1, Cond.after, Cond.holds, Cond.value]), lw_limb limb_1_2 (fun args s t => Cond.after_iff.mpr (by
  first | (rw [show limb_1_2 = Cond.eq .result (.int 1) from rfl, Cond.eq_ints (x := 1) (y := 1) rfl rfl]; simp; done) | (simp [limb_1_2, Cond.value, Term.eval]; done)))⟩
