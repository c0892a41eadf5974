/-! The class's public methods. -/
section TabRows
variable {p : Program} {l : Launch} {e : Env} {R : Room} {s : State} {m : MethodId} {args : Array Value} {below : List Frame} {meth : Method} {c : Code} {H : Heap} {locs : List Loc} {cells slots : Nat} {Q : State → Prop} {cc : ByteArray} {pc : Nat} {ls : Array Slot} {rest : List Value}
theorem ri_tabOut (hx : p.tables.exec = Jvm.exec) (hb : c.code = cc) {dflt lo hi : Int} {offs : Array Int} {len tgt : Nat} {z : Int} (hz : In32 z) (hdg : decode cc pc = .ok (.tableswitch dflt lo hi offs, len)) (h : z < lo ∨ hi < z) (ht : (pc : Int) + dflt = (tgt : Int))
    (k : W p l e R s m args below meth c H locs cells slots Q (F0 m tgt ls rest)) : W p l e R s m args below meth c H locs cells slots Q (F0 m pc ls (.int (iI z) :: rest)) := lv_tableOut hx hb hdg (by rw [ii_to hz]; exact h) ht k
theorem ri_tabIn (hx : p.tables.exec = Jvm.exec) (hb : c.code = cc) {dflt lo hi : Int} {offs : Array Int} {len tgt : Nat} {z off : Int} (hz : In32 z) (hdg : decode cc pc = .ok (.tableswitch dflt lo hi offs, len)) (h : lo ≤ z ∧ z ≤ hi) (ho : offs[(z - lo).toNat]? = some off) (ht : (pc : Int) + off = (tgt : Int))
    (k : W p l e R s m args below meth c H locs cells slots Q (F0 m tgt ls rest)) : W p l e R s m args below meth c H locs cells slots Q (F0 m pc ls (.int (iI z) :: rest)) := lv_tableIn hx hb hdg (by rw [ii_to hz]; omega) (by rw [ii_to hz]; omega) (by rw [ii_to hz]; exact ho) ht k
end TabRows
theorem fr_ok {a : Int} {b : Nat} (ha : -1099511627776 < a ∧ a < 1099511627776) (hb : b < 1099511627776) : 2 * (b * a.natAbs) < 2 ^ 100 := by
  have h1 : b * a.natAbs ≤ 1099511627776 * 1099511627776 := Nat.mul_le_mul (by omega) (by omega)
  omega
/-- the held places, one behind the other -/
def stF (r : Int → Int) (span : Int) (L : Nat) : Nat → Int
  | 0 => 0
  | n + 1 => if stF r span L n < L then nhF r span (stF r span L n) (L - stF r span L n).toNat else stF r span L n
theorem stF_s {r : Int → Int} {span : Int} {L n : Nat} (h : stF r span L n < L) : stF r span L (n + 1) = nhF r span (stF r span L n) (L - stF r span L n).toNat := if_pos h
theorem stF_e {r : Int → Int} {span : Int} {L n : Nat} (h : ¬ stF r span L n < L) (m : Nat) : stF r span L (n + m) = stF r span L n := by
  induction m with
  | zero => rfl
  | succ m ih => rw [show n + (m + 1) = (n + m) + 1 by omega, stF, ih, if_neg h]
theorem stF_rg (r : Int → Int) (span : Int) (L n : Nat) : 0 ≤ stF r span L n ∧ stF r span L n ≤ L + 1 ∧ (stF r span L n < L → n ≤ stF r span L n) := by
  induction n with
  | zero => exact ⟨Int.le_refl _, by show (0 : Int) ≤ _; omega, fun _ => Int.le_refl _⟩
  | succ n ih =>
    by_cases h : stF r span L n < L
    · rw [stF_s h]
      have h1 := nhF_rg r span (stF r span L n) (L - stF r span L n).toNat
      have h2 := ih.2.2 h
      omega
    · rw [show n + 1 = n + 1 from rfl, stF_e h 1]
      omega
/-- the RINGs -/
def smF (ga gb : Int → Int) (n : Nat) : Int := itF (fun a b => a + b) (fun j => ga j * (27720 / gb j)) 0 0 n
theorem smF_s (ga gb : Int → Int) (n : Nat) : smF ga gb (n + 1) = smF ga gb n + ga (0 + n) * (27720 / gb (0 + n)) := rfl
theorem smF_rg {ga gb : Int → Int} (n : Nat) (hn : n ≤ 16) (h : ∀ j : Int, 0 ≤ j → j < n → (1 ≤ ga j ∧ ga j ≤ 3600) ∧ 1 ≤ gb j ∧ gb j ≤ 12) : 0 ≤ smF ga gb n ∧ smF ga gb n ≤ n * 99792000 := by
  induction n with
  | zero => exact ⟨Int.le_refl _, Int.le_refl _⟩
  | succ n ih =>
    rw [smF_s]
    have h1 := ih (by omega) (fun j g1 g2 => h j g1 (by omega))
    have h2 := h (0 + n) (by omega) (by omega)
    have h3 : 0 ≤ 27720 / gb (0 + n) ∧ 27720 / gb (0 + n) ≤ 27720 := ⟨Int.ediv_nonneg (by decide) (by omega), Int.ediv_le_self _ (by decide)⟩
    have h4 : ga (0 + n) * (27720 / gb (0 + n)) ≤ 3600 * 27720 := Int.mul_le_mul h2.1.2 h3.2 h3.1 (by decide)
    have h5 : 0 ≤ ga (0 + n) * (27720 / gb (0 + n)) := Int.mul_nonneg (by omega) h3.1
    omega
def RgOk (k : Nat → ClassId) (ng : Int) (ga g1 g2 : Int → Nat) (ct9 : Int → Int) (gA gB : Int → Int → Int) (tl : va_W) : Prop :=
  ∀ i : Int, 0 ≤ i → i < ng → 0 ≤ ct9 i ∧ ct9 i ≤ 16 ∧ (∀ j : Int, 0 ≤ j → j < ct9 i → (1 ≤ gA i j ∧ gA i j ≤ 3600) ∧ 1 ≤ gB i j ∧ gB i j ≤ 12) ∧
    (ga i, .inr (4, [.ref (g1 i), .ref (g2 i), .int (iI (ct9 i)), .long (jJ (smF (gA i) (gB i) (ct9 i).toNat))])) ∈ tl ∧ (g1 i, .inl (k 0, ai 16 (gA i))) ∈ tl ∧ (g2 i, .inl (k 0, ai 16 (gB i))) ∈ tl
theorem rg_get {k : Nat → ClassId} {ng : Int} {ga g1 g2 : Int → Nat} {ct9 : Int → Int} {gA gB : Int → Int → Int} {tl : va_W} (h : RgOk k ng ga g1 g2 ct9 gA gB tl) {i : Int} (h0 : 0 ≤ i) (h1 : i < ng) :
    ∃ (i1 i2 i3 : Nat), (0 ≤ ct9 i ∧ ct9 i ≤ 16) ∧ (∀ j : Int, 0 ≤ j → j < ct9 i → (1 ≤ gA i j ∧ gA i j ≤ 3600) ∧ 1 ≤ gB i j ∧ gB i j ≤ 12) ∧ (0 ≤ smF (gA i) (gB i) (ct9 i).toNat ∧ smF (gA i) (gB i) (ct9 i).toNat ≤ 1596672000) ∧
      tl[i1]? = some (ga i, .inr (4, [.ref (g1 i), .ref (g2 i), .int (iI (ct9 i)), .long (jJ (smF (gA i) (gB i) (ct9 i).toNat))])) ∧ tl[i2]? = some (g1 i, .inl (k 0, ai 16 (gA i))) ∧ tl[i3]? = some (g2 i, .inl (k 0, ai 16 (gB i))) := by
  obtain ⟨q1, q2, q3, q4, q5, q6⟩ := h i h0 h1
  obtain ⟨i1, e1⟩ := List.getElem?_of_mem q4
  obtain ⟨i2, e2⟩ := List.getElem?_of_mem q5
  obtain ⟨i3, e3⟩ := List.getElem?_of_mem q6
  have q7 := smF_rg (ga := gA i) (gb := gB i) (ct9 i).toNat (by omega) (fun j g1 g2 => q3 j g1 (by omega))
  exact ⟨i1, i2, i3, ⟨q1, q2⟩, q3, by omega, e1, e2, e3⟩
theorem wl_Ps {D : va_G} {cl : List vw_C} {ws : va_W} {H : Heap} (h : va_P D cl ws H) {a : Nat} {x : Nat × va_E} (e1 : ws[a]? = some x) : va_P D cl [x] H := wl_P1 h (List.mem_of_getElem? e1)
theorem wl_P4 {D : va_G} {cl : List vw_C} {ws : va_W} {H : Heap} (h : va_P D cl ws H) {a b c d : Nat} {x y z u : Nat × va_E} (e1 : ws[a]? = some x) (e2 : ws[b]? = some y) (e3 : ws[c]? = some z) (e4 : ws[d]? = some u) : va_P D cl [x, y, z, u] H := (wl_P2 h e1 e2).app (wl_P2 h e3 e4)
theorem wl_P3 {D : va_G} {cl : List vw_C} {ws : va_W} {H : Heap} (h : va_P D cl ws H) {a b c : Nat} {x y z : Nat × va_E} (e1 : ws[a]? = some x) (e2 : ws[b]? = some y) (e3 : ws[c]? = some z) : va_P D cl [x, y, z] H := (wl_Ps h e1).app (wl_P2 h e2 e3)
set_option maxHeartbeats 4000000 in
set_option maxRecDepth 100000 in
theorem c_C_radius {l : Launch} {s0 : State} {D : va_G} {k : Nat → ClassId} (hC : Cx l s0 D k) (cx cf cp cn ce cg cu ct : Nat) (np nt ng nr ia ib : Int) (pa pq : Int → Nat) (ln bl wm : Int → Int) (pf : Int → Int → Int) (rs tl : va_W) (hpc : PcOk k np pa pq ln bl wm pf rs) (hrs : ∀ q ∈ rs, q ∈ tl) (hnp : 0 ≤ np ∧ np ≤ 6) (p x : Int) (hp : In32 p) (hx9 : In32 x) : ThM l s0 y_C_radius { frames := 8, cells := 2, slots := 12, locals := 135 } [.ref cx, .int (iI (p)), .int (iI (x))] (fun H => va_P D classes ((cx, .inr (5, [.ref cf, .ref cp, .int (iI (np)), .ref cn, .int (iI (nt)), .ref ce, .ref cg, .int (iI (ng)), .ref cu, .ref ct, .int (iI (nr)), .int (iI (ia)), .int (iI (ib))])) :: (cp, .inl (k 2, aq 6 (gQ np pa))) :: tl) H) (fun v => 0 ≤ p ∧ p < np ∧ 0 ≤ x ∧ x ≤ ln p ∧ v = some (.int (iI (pf p x)))) (fun E => E = xIO ∧ ¬ (0 ≤ p ∧ p < np ∧ 0 ≤ x ∧ x ≤ ln p)) 2 12 := by
  refine ex_ofW (cc := b_C_radius) (maxL := 3) (ret := (some .int)) (hh := []) (by decide +kernel) (Or.inl ⟨g_307, rfl⟩) ?_
  intro p9 e9 s m9 args9 below9 meth9 c9 s9 B9 hml htab hv
  obtain ⟨rfl, h0, hP⟩ := hv
  have hx := B9.exec
  have hb := B9.bytes
  have hr := B9.returns
  have hG := atoms_spec (ws := GW) B9.pre
  have hown : s.vm.findClass "LathePieces" = some m9.cls := findClass_of_methodNamed B9.named
  have hlocks := B9.notSynchronized
  have hK := cx_K hC h0
  have hS : va_S (aL s0) s.heap s.heap [] := va_S.rf
  have hl := lv_entry ([.ref cx, .int (iI (p)), .int (iI (x))]) (n := 3) (Nat.le_of_ble_eq_true rfl)
  rw [lg_entry_eq]
  generalize (lg_sl ([.ref cx, .int (iI (p)), .int (iI (x))]) ++ List.replicate (3 - (lg_sl ([.ref cx, .int (iI (p)), .int (iI (x))])).length) Slot.unset).toArray = ls at hl ⊢
  replace hl : lv_has ls 3 [(0, .ref cx), (1, .int (iI (p))), (2, .int (iI (x)))] := hl
  refine lv_aload_n hx hb d_C_radius_0 rfl (lv_at hl 0 rfl) ?_
  refine lv_iload_n hx hb d_C_radius_1 rfl (lv_at hl 1 rfl) ?_
  refine lv_iload_n hx hb d_C_radius_2 rfl (lv_at hl 2 rfl) ?_
  refine th_call h0 hS htab hlocks (Nat.le_of_ble_eq_true rfl) (Nat.le_of_ble_eq_true rfl) (ex_runV (C := "LathePieces") (As := [.int (iI (p)), .int (iI (x))]) (rest := []) ⟨hx, hb, hml, hown, hG⟩ (c_C_radiusAt hC cx cf cp cn ce cg cu ct np nt ng nr ia ib pa pq ln bl wm pf rs tl hpc hrs hnp p x hp hx9) (cb_code (n := 2) hG g_311 g_1 g_308 rfl rfl (by decide +kernel) ⟨Nat.le_of_ble_eq_true rfl, Nat.le_of_ble_eq_true rfl⟩) (hG _ g_310) (hG _ gs_C_radiusAt) (kd_V ⟨fun _ _ _ _ q => q, fun U hU hW => ⟨rfl, la_next h0 (fun _ z => z) hS U hU hW, (by show va_P D classes _ U.heap; rw [hU]; exact hP)⟩⟩ (kd_recv hK hP (q0 := 0) (ci := 5) rfl rfl rfl)) rfl rfl hl.1 rfl (lv_room (Nat.le_of_ble_eq_true rfl)) d_C_radius_3 ⟨Nat.le_of_ble_eq_true rfl, Nat.le_of_ble_eq_true rfl⟩) (fun E hE t hla hz ho => ⟨hE, hla, hz, ho⟩) (fun v9 h9 locs hS => ?_)
  obtain ⟨q1, q2, q3, q4, rfl⟩ := h9
  show W _ _ _ _ _ _ _ _ _ _ _ _ _ _ _ (F0 m9 6 ls [.int (iI (pf p x))])
  exact re_i hx hb hr hlocks (fun t ht hW => ⟨⟨q1, q2, q3, q4, rfl⟩, ht⟩) hS.2.2 (Nat.le_of_ble_eq_true rfl) (Nat.le_of_ble_eq_true rfl) d_C_radius_6

set_option maxHeartbeats 4000000 in
set_option maxRecDepth 100000 in
theorem c_C_about {l : Launch} {s0 : State} {D : va_G} {k : Nat → ClassId} (hC : Cx l s0 D k) (cx cf cp cn ce cg cu ct : Nat) (np nt ng nr ia ib : Int) (pa pq : Int → Nat) (ln bl wm : Int → Int) (pf : Int → Int → Int) (rs tl : va_W) (hpc : PcOk k np pa pq ln bl wm pf rs) (hrs : ∀ q ∈ rs, q ∈ tl) (hnp : 0 ≤ np ∧ np ≤ 6) (p wh : Int) (hp : In32 p) (hwh : In32 wh) : ThM l s0 y_C_about { frames := 7, cells := 2, slots := 12, locals := 112 } [.ref cx, .int (iI (p)), .int (iI (wh))] (fun H => va_P D classes ((cx, .inr (5, [.ref cf, .ref cp, .int (iI (np)), .ref cn, .int (iI (nt)), .ref ce, .ref cg, .int (iI (ng)), .ref cu, .ref ct, .int (iI (nr)), .int (iI (ia)), .int (iI (ib))])) :: (cp, .inl (k 2, aq 6 (gQ np pa))) :: tl) H) (fun v => 0 ≤ p ∧ p < np ∧ 0 ≤ wh ∧ wh ≤ 2 ∧ v = some (.int (iI (if wh = 0 then ln p else if wh = 1 then bl p else wm p)))) (fun E => E = xIO ∧ ¬ (0 ≤ p ∧ p < np ∧ 0 ≤ wh ∧ wh ≤ 2)) 2 12 := by
  refine ex_ofW (cc := b_C_about) (maxL := 4) (ret := (some .int)) (hh := []) (by decide +kernel) (Or.inl ⟨g_339, rfl⟩) ?_
  intro p9 e9 s m9 args9 below9 meth9 c9 s9 B9 hml htab hv
  obtain ⟨rfl, h0, hP⟩ := hv
  have hx := B9.exec
  have hb := B9.bytes
  have hr := B9.returns
  have hG := atoms_spec (ws := GW) B9.pre
  have hown : s.vm.findClass "LathePieces" = some m9.cls := findClass_of_methodNamed B9.named
  have hlocks := B9.notSynchronized
  have hK := cx_K hC h0
  have hS : va_S (aL s0) s.heap s.heap [] := va_S.rf
  have hl := lv_entry ([.ref cx, .int (iI (p)), .int (iI (wh))]) (n := 4) (Nat.le_of_ble_eq_true rfl)
  rw [lg_entry_eq]
  generalize (lg_sl ([.ref cx, .int (iI (p)), .int (iI (wh))]) ++ List.replicate (4 - (lg_sl ([.ref cx, .int (iI (p)), .int (iI (wh))])).length) Slot.unset).toArray = ls at hl ⊢
  replace hl : lv_has ls 4 [(0, .ref cx), (1, .int (iI (p))), (2, .int (iI (wh)))] := hl
  refine lv_aload_n hx hb d_C_about_0 rfl (lv_at hl 0 rfl) ?_
  refine lv_iload_n hx hb d_C_about_1 rfl (lv_at hl 1 rfl) ?_
  refine th_call h0 hS htab hlocks (Nat.le_of_ble_eq_true rfl) (Nat.le_of_ble_eq_true rfl) (ex_runV (C := "LathePieces") (As := [.int (iI (p))]) (rest := []) ⟨hx, hb, hml, hown, hG⟩ (c_C_pieceAt hC cx cf cp cn ce cg cu ct np nt ng nr ia ib pa p (by omega) hnp) (cb_code (n := 1) hG g_315 g_1 g_312 rfl rfl (by decide +kernel) ⟨Nat.le_of_ble_eq_true rfl, Nat.le_of_ble_eq_true rfl⟩) (hG _ g_314) (hG _ gs_C_pieceAt) (kd_V ⟨fun _ _ _ _ q => q, fun U hU hW => ⟨rfl, la_next h0 (fun _ z => z) hS U hU hW, (by show va_P D classes _ U.heap; rw [hU]; exact (va_P.sub hP [0, 1] rfl))⟩⟩ (kd_recv hK hP (q0 := 0) (ci := 5) rfl rfl rfl)) rfl rfl hl.1 rfl (lv_room (Nat.le_of_ble_eq_true rfl)) d_C_about_2 ⟨Nat.le_of_ble_eq_true rfl, Nat.le_of_ble_eq_true rfl⟩) (fun E hE t hla hz ho => ⟨⟨hE.1, fun q => hE.2 ⟨q.1, q.2.1⟩⟩, hla, hz, ho⟩) (fun v9 h9 locs hS => ?_)
  obtain ⟨q1, q2, rfl⟩ := h9
  show W _ _ _ _ _ _ _ _ _ _ _ _ _ _ _ (F0 m9 5 ls [.ref (pa p)])
  obtain ⟨i1, i2, L, hL, hL64, hpr, hbl, hbr, e1, e2⟩ := pc_get hpc hrs q1 q2
  refine lv_astore_n (lv' := [(3, .ref (pa p)), (0, .ref cx), (1, .int (iI (p))), (2, .int (iI (wh)))]) hx hb d_C_about_5 rfl hl (by decide) rfl (fun ls hl => ?_)
  refine lv_iload_n hx hb d_C_about_6 rfl (lv_at hl 3 rfl) ?_
  by_cases h0w : wh = 0
  · subst h0w
    refine ri_tabIn (tgt := 32) hx hb (by decide) d_C_about_7 (by decide) rfl (by decide) ?_
    refine lv_aload_n hx hb d_C_about_32 rfl (lv_at hl 0 rfl) ?_
    refine va_get (D := D) (ci := 1) (v := .int (iI ((L : Int)))) (C := R_P) (T := F_P) (N := 4) hx hb hG in_P hown hK hP (i1 + 2) e1 rfl 1 (by decide) (hG _ g_286) (fun _ h9 => h9) rfl d_C_about_33 ?_
    exact re_i hx hb hr hlocks (fun t ht hW => ⟨⟨q1, q2, by decide, by decide, by rw [if_pos rfl, hL]⟩, ht⟩) hS.2.2 (Nat.le_of_ble_eq_true rfl) (Nat.le_of_ble_eq_true rfl) d_C_about_36
  by_cases h1w : wh = 1
  · subst h1w
    refine ri_tabIn (tgt := 37) hx hb (by decide) d_C_about_7 (by decide) rfl (by decide) ?_
    refine lv_aload_n hx hb d_C_about_37 rfl (lv_at hl 0 rfl) ?_
    refine va_get (D := D) (ci := 1) (v := .int (iI (bl p))) (C := R_P) (T := F_P) (N := 4) hx hb hG in_P hown hK hP (i1 + 2) e1 rfl 2 (by decide) (hG _ g_288) (fun _ h9 => h9) rfl d_C_about_38 ?_
    exact re_i hx hb hr hlocks (fun t ht hW => ⟨⟨q1, q2, by decide, by decide, by rw [if_neg (by decide), if_pos (by decide)]⟩, ht⟩) hS.2.2 (Nat.le_of_ble_eq_true rfl) (Nat.le_of_ble_eq_true rfl) d_C_about_41
  by_cases h2w : wh = 2
  · subst h2w
    refine ri_tabIn (tgt := 42) hx hb (by decide) d_C_about_7 (by decide) rfl (by decide) ?_
    refine lv_aload_n hx hb d_C_about_42 rfl (lv_at hl 0 rfl) ?_
    refine va_get (D := D) (ci := 1) (v := .int (iI (wm p))) (C := R_P) (T := F_P) (N := 4) hx hb hG in_P hown hK hP (i1 + 2) e1 rfl 3 (by decide) (hG _ g_290) (fun _ h9 => h9) rfl d_C_about_43 ?_
    exact re_i hx hb hr hlocks (fun t ht hW => ⟨⟨q1, q2, by decide, by decide, by rw [if_neg (by decide), if_neg (by decide)]⟩, ht⟩) hS.2.2 (Nat.le_of_ble_eq_true rfl) (Nat.le_of_ble_eq_true rfl) d_C_about_46
  refine ri_tabOut (tgt := 47) hx hb hwh d_C_about_7 (by omega) (by decide) ?_
  exact tk_throw (kl := 2) hC h0 hx hb hown xA_IO (by decide +kernel) g_318 g_316 g_13 g_340 hS (hl.1.trans hml.symm) d_C_about_47 d_C_about_50 (Or.inl ⟨rfl, d_C_about_51⟩) d_C_about_53 d_C_about_56 htab hlocks (Nat.le_of_ble_eq_true rfl) (Nat.le_of_ble_eq_true rfl) (Nat.le_of_ble_eq_true rfl) (Nat.le_of_ble_eq_true rfl) (fun t hla hz ho => ⟨⟨rfl, by omega⟩, hla, hz, ho⟩) (Nat.le_of_ble_eq_true rfl) (Nat.le_of_ble_eq_true rfl)

set_option maxHeartbeats 4000000 in
set_option maxRecDepth 100000 in
theorem c_C_steady {l : Launch} {s0 : State} {D : va_G} {k : Nat → ClassId} (hC : Cx l s0 D k) (cx cf cp cn ce cg cu ct : Nat) (np nt ng nr ia ib : Int) (pa pq : Int → Nat) (ln bl wm : Int → Int) (pf : Int → Int → Int) (rs tl : va_W) (hpc : PcOk k np pa pq ln bl wm pf rs) (hrs : ∀ q ∈ rs, q ∈ tl) (hnp : 0 ≤ np ∧ np ≤ 6) (p sp kk : Int) (hp : In32 p) (hsp : In32 sp) (hkk : In32 kk) : ThM l s0 y_C_steady { frames := 7, cells := 4, slots := 24, locals := 112 } [.ref cx, .int (iI (p)), .int (iI (sp)), .int (iI (kk))] (fun H => va_P D classes ((cx, .inr (5, [.ref cf, .ref cp, .int (iI (np)), .ref cn, .int (iI (nt)), .ref ce, .ref cg, .int (iI (ng)), .ref cu, .ref ct, .int (iI (nr)), .int (iI (ia)), .int (iI (ib))])) :: (cp, .inl (k 2, aq 6 (gQ np pa))) :: tl) H) (fun v => (0 ≤ p ∧ p < np) ∧ (1 ≤ sp ∧ sp ≤ 500) ∧ 0 ≤ kk ∧ stF (pf p) sp (ln p).toNat (kk.toNat + 1) < ln p ∧ v = some (.int (iI (stF (pf p) sp (ln p).toNat (kk.toNat + 1))))) (fun E => E = xIO ∧ ¬ (0 ≤ p ∧ p < np) ∨ E = xIA ∧ (0 ≤ p ∧ p < np) ∧ ¬ ((1 ≤ sp ∧ sp ≤ 500) ∧ 0 ≤ kk) ∨ E = xIS ∧ (0 ≤ p ∧ p < np) ∧ (1 ≤ sp ∧ sp ≤ 500) ∧ 0 ≤ kk ∧ ¬ stF (pf p) sp (ln p).toNat (kk.toNat + 1) < ln p) 4 24 := by
  refine ex_ofW (cc := b_C_steady) (maxL := 8) (ret := (some .int)) (hh := []) (by decide +kernel) (Or.inl ⟨g_447, rfl⟩) ?_
  intro p9 e9 s m9 args9 below9 meth9 c9 s9 B9 hml htab hv
  obtain ⟨rfl, h0, hP⟩ := hv
  have hx := B9.exec
  have hb := B9.bytes
  have hr := B9.returns
  have hG := atoms_spec (ws := GW) B9.pre
  have hown : s.vm.findClass "LathePieces" = some m9.cls := findClass_of_methodNamed B9.named
  have hlocks := B9.notSynchronized
  have hK := cx_K hC h0
  have hS : va_S (aL s0) s.heap s.heap [] := va_S.rf
  have hl := lv_entry ([.ref cx, .int (iI (p)), .int (iI (sp)), .int (iI (kk))]) (n := 8) (Nat.le_of_ble_eq_true rfl)
  rw [lg_entry_eq]
  generalize (lg_sl ([.ref cx, .int (iI (p)), .int (iI (sp)), .int (iI (kk))]) ++ List.replicate (8 - (lg_sl ([.ref cx, .int (iI (p)), .int (iI (sp)), .int (iI (kk))])).length) Slot.unset).toArray = ls at hl ⊢
  replace hl : lv_has ls 8 [(0, .ref cx), (1, .int (iI (p))), (2, .int (iI (sp))), (3, .int (iI (kk)))] := hl
  refine lv_aload_n hx hb d_C_steady_0 rfl (lv_at hl 0 rfl) ?_
  refine lv_iload_n hx hb d_C_steady_1 rfl (lv_at hl 1 rfl) ?_
  refine th_call h0 hS htab hlocks (Nat.le_of_ble_eq_true rfl) (Nat.le_of_ble_eq_true rfl) (ex_runV (C := "LathePieces") (As := [.int (iI (p))]) (rest := []) ⟨hx, hb, hml, hown, hG⟩ (c_C_pieceAt hC cx cf cp cn ce cg cu ct np nt ng nr ia ib pa p (by omega) hnp) (cb_code (n := 1) hG g_315 g_1 g_312 rfl rfl (by decide +kernel) ⟨Nat.le_of_ble_eq_true rfl, Nat.le_of_ble_eq_true rfl⟩) (hG _ g_314) (hG _ gs_C_pieceAt) (kd_V ⟨fun _ _ _ _ q => q, fun U hU hW => ⟨rfl, la_next h0 (fun _ z => z) hS U hU hW, (by show va_P D classes _ U.heap; rw [hU]; exact (va_P.sub hP [0, 1] rfl))⟩⟩ (kd_recv hK hP (q0 := 0) (ci := 5) rfl rfl rfl)) rfl rfl hl.1 rfl (lv_room (Nat.le_of_ble_eq_true rfl)) d_C_steady_2 ⟨Nat.le_of_ble_eq_true rfl, Nat.le_of_ble_eq_true rfl⟩) (fun E hE t hla hz ho => ⟨Or.inl ⟨hE.1, hE.2⟩, hla, hz, ho⟩) (fun v9 h9 locs hS => ?_)
  obtain ⟨q1, q2, rfl⟩ := h9
  show W _ _ _ _ _ _ _ _ _ _ _ _ _ _ _ (F0 m9 5 ls [.ref (pa p)])
  obtain ⟨i1, i2, L, hL, hL64, hpr, hbl, hbr, e1, e2⟩ := pc_get hpc hrs q1 q2
  have gL : (ln p).toNat = L := by omega
  refine lv_astore (lv' := [(4, .ref (pa p)), (0, .ref cx), (1, .int (iI (p))), (2, .int (iI (sp))), (3, .int (iI (kk)))]) hx hb d_C_steady_5 hl (by decide) rfl (fun ls hl => ?_)
  refine lv_iload_n hx hb d_C_steady_7 rfl (lv_at hl 3 rfl) ?_
  refine ri_iconst hx hb d_C_steady_8 ?_
  refine ri_sipush hx hb d_C_steady_9 (by decide) ?_
  refine th_call h0 hS htab hlocks (Nat.le_of_ble_eq_true rfl) (Nat.le_of_ble_eq_true rfl) (ex_runS (As := [.int (iI (sp)), .int (iI (1)), .int (iI (500))]) (rest := []) ⟨hx, hb, hml, hown, hG⟩ (c_C_checkNumber hC (sp) (1) (500) (by omega) (by omega) (by omega)) (cb_code (n := 3) hG g_112 g_1 g_110 rfl rfl (by decide +kernel) ⟨Nat.le_of_ble_eq_true rfl, Nat.le_of_ble_eq_true rfl⟩) (hG _ g_111) ⟨fun _ _ _ _ q => q, fun U hU hW => ⟨rfl, la_next h0 (fun _ z => z) hS U hU hW, trivial⟩⟩ rfl rfl hl.1 rfl (lv_room (Nat.le_of_ble_eq_true rfl)) d_C_steady_12 ⟨Nat.le_of_ble_eq_true rfl, Nat.le_of_ble_eq_true rfl⟩) (fun E hE t hla hz ho => ⟨Or.inr (Or.inl ⟨hE.1, ⟨q1, q2⟩, by omega⟩), hla, hz, ho⟩) (fun v9 h9 locs hS => ?_)
  obtain ⟨rfl, u1, u2⟩ := h9
  show W _ _ _ _ _ _ _ _ _ _ _ _ _ _ _ (F0 m9 15 ls [])
  refine lv_iload_n hx hb d_C_steady_15 rfl (lv_at hl 4 rfl) ?_
  refine ri_iconst hx hb d_C_steady_16 ?_
  refine th_call h0 hS htab hlocks (Nat.le_of_ble_eq_true rfl) (Nat.le_of_ble_eq_true rfl) (ex_runS (As := [.int (iI (kk)), .int (iI (0))]) (rest := []) ⟨hx, hb, hml, hown, hG⟩ (c_C_checkNotBelow hC (kk) (0) (by omega) (by omega)) (cb_code (n := 2) hG g_435 g_1 g_433 rfl rfl (by decide +kernel) ⟨Nat.le_of_ble_eq_true rfl, Nat.le_of_ble_eq_true rfl⟩) (hG _ g_434) ⟨fun _ _ _ _ q => q, fun U hU hW => ⟨rfl, la_next h0 (fun _ z => z) hS U hU hW, trivial⟩⟩ rfl rfl hl.1 rfl (lv_room (Nat.le_of_ble_eq_true rfl)) d_C_steady_17 ⟨Nat.le_of_ble_eq_true rfl, Nat.le_of_ble_eq_true rfl⟩) (fun E hE t hla hz ho => ⟨Or.inr (Or.inl ⟨hE.1, ⟨q1, q2⟩, by omega⟩), hla, hz, ho⟩) (fun v9 h9 locs hS => ?_)
  obtain ⟨rfl, z1⟩ := h9
  show W _ _ _ _ _ _ _ _ _ _ _ _ _ _ _ (F0 m9 20 ls [])
  refine lv_iload_n hx hb d_C_steady_20 rfl (lv_at hl 4 rfl) ?_
  refine lv_aload hx hb d_C_steady_21 (lv_at hl 0 rfl) ?_
  refine va_get (D := D) (ci := 1) (v := .int (iI ((L : Int)))) (C := R_P) (T := F_P) (N := 4) hx hb hG in_P hown hK hP (i1 + 2) e1 rfl 1 (by decide) (hG _ g_286) (fun _ h9 => h9) rfl d_C_steady_23 ?_
  refine rd_call (ex_runS (As := [.int (iI (kk)), .int (iI ((L : Int)))]) (rest := []) ⟨hx, hb, hml, hown, hG⟩ (c_J_min l kk L (by omega) (by omega)) (cb_code (n := 2) hG g_251 g_9 g_448 rfl rfl (by decide +kernel) ⟨Nat.le_of_ble_eq_true rfl, Nat.le_of_ble_eq_true rfl⟩) (hG _ g_250) ⟨fun _ _ _ _ q => q, fun _ _ _ => rfl⟩ rfl rfl hl.1 rfl (lv_room (Nat.le_of_ble_eq_true rfl)) d_C_steady_26 ⟨Nat.le_of_ble_eq_true rfl, Nat.le_of_ble_eq_true rfl⟩) (fun v9 h9 => ?_)
  obtain rfl := h9
  show W _ _ _ _ _ _ _ _ _ _ _ _ _ _ _ (F0 m9 29 ls [.int (iI (min kk (L : Int)))])
  refine lv_istore (lv' := [(5, .int (iI (min kk (L : Int)))), (4, .ref (pa p)), (0, .ref cx), (1, .int (iI (p))), (2, .int (iI (sp))), (3, .int (iI (kk)))]) hx hb d_C_steady_29 hl (by decide) rfl (fun ls hl => ?_)
  refine ri_iconst hx hb d_C_steady_31 ?_
  refine lv_istore (lv' := [(6, .int (iI (0))), (5, .int (iI (min kk (L : Int)))), (4, .ref (pa p)), (0, .ref cx), (1, .int (iI (p))), (2, .int (iI (sp))), (3, .int (iI (kk)))]) hx hb d_C_steady_32 hl (by decide) rfl (fun ls hl => ?_)
  refine ri_iconst hx hb d_C_steady_34 ?_
  refine lv_istore (lv' := [(7, .int (iI (0))), (6, .int (iI (0))), (5, .int (iI (min kk (L : Int)))), (4, .ref (pa p)), (0, .ref cx), (1, .int (iI (p))), (2, .int (iI (sp))), (3, .int (iI (kk)))]) hx hb d_C_steady_35 hl (by decide) rfl (fun ls hl => ?_)
  replace hl : lv_has ls 8 [(7, .int (iI (0 + ((0 : Nat) : Int)))), (6, .int (iI (stF (pf p) sp L 0))), (5, .int (iI (min kk (L : Int)))), (4, .ref (pa p)), (0, .ref cx), (1, .int (iI (p))), (2, .int (iI (sp))), (3, .int (iI (kk)))] := hl
  obtain ⟨κ, ν, hinv, hl1⟩ : ∃ (κ : Nat) (ν : Nat), ((ν : Int) + κ = min kk L + 1) ∧ lv_has ls 8 [(2, .int (iI (sp))), (4, .ref (pa p)), (5, .int (iI (min kk (L : Int)))), (6, .int (iI (stF (pf p) sp L ν))), (7, .int (iI (0 + (ν : Int))))] := ⟨(min kk L + 1).toNat, 0, (by omega), lv_sub hl [6, 3, 2, 1, 0] rfl⟩
  clear hl
  have hl := hl1
  clear hl1
  induction κ generalizing ν ls with
  | zero =>
    obtain h1 := hinv
    have h7 := stF_rg (pf p) sp L ν
    refine lv_iload hx hb d_C_steady_37 (lv_at hl 4 rfl) ?_
    refine lv_iload hx hb d_C_steady_39 (lv_at hl 2 rfl) ?_
    refine ri_icmp_gt (tgt := 70) hx hb d_C_steady_41 (by decide) (by omega) (by omega) (fun c41 => ?_) (fun c41 => ?_)
    · have hfin : (stF (pf p) sp L ν < L → stF (pf p) sp (ln p).toNat (kk.toNat + 1) < ln p) ∧ (stF (pf p) sp L ν < L → stF (pf p) sp L ν = stF (pf p) sp (ln p).toNat (kk.toNat + 1)) := by
        rw [gL]
        have e9 : stF (pf p) sp L ν < L → ν = kk.toNat + 1 := fun q => by have := h7.2.2 q; omega
        exact ⟨fun q => by rw [← e9 q]; omega, fun q => by rw [← e9 q]⟩
      have hnot : ¬ stF (pf p) sp L ν < L → ¬ stF (pf p) sp (ln p).toNat (kk.toNat + 1) < ln p := fun q => by
        rw [gL, show kk.toNat + 1 = ν + (kk.toNat + 1 - ν) by omega, stF_e q]
        omega
      refine lv_iload hx hb d_C_steady_70 (lv_at hl 3 rfl) ?_
      refine lv_aload hx hb d_C_steady_72 (lv_at hl 1 rfl) ?_
      refine va_get (D := D) (ci := 1) (v := .int (iI ((L : Int)))) (C := R_P) (T := F_P) (N := 4) hx hb hG in_P hown hK hP (i1 + 2) e1 rfl 1 (by decide) (hG _ g_286) (fun _ h9 => h9) rfl d_C_steady_74 ?_
      refine ri_icmp_lt (tgt := 90) hx hb d_C_steady_77 (by decide) (by omega) (by omega) (fun c77 => ?_) (fun c77 => ?_)
      · refine lv_iload hx hb d_C_steady_90 (lv_at hl 3 rfl) ?_
        exact re_i hx hb hr hlocks (fun t ht hW => ⟨⟨⟨q1, q2⟩, ⟨u1, u2⟩, z1, hfin.1 (by omega), by rw [← (hfin.2 (by omega))]⟩, ht⟩) hS.2.2 (Nat.le_of_ble_eq_true rfl) (Nat.le_of_ble_eq_true rfl) d_C_steady_92
      · exact tk_throw (kl := 2) hC h0 hx hb hown xA_IS (by decide +kernel) g_202 g_200 g_8 g_454 hS (hl.1.trans hml.symm) d_C_steady_80 d_C_steady_83 (Or.inl ⟨rfl, d_C_steady_84⟩) d_C_steady_86 d_C_steady_89 htab hlocks (Nat.le_of_ble_eq_true rfl) (Nat.le_of_ble_eq_true rfl) (Nat.le_of_ble_eq_true rfl) (Nat.le_of_ble_eq_true rfl) (fun t hla hz ho => ⟨Or.inr (Or.inr ⟨rfl, ⟨q1, q2⟩, ⟨u1, u2⟩, z1, hnot (by omega)⟩), hla, hz, ho⟩) (Nat.le_of_ble_eq_true rfl) (Nat.le_of_ble_eq_true rfl)
    · exact absurd c41 (by omega)
  | succ κ ih =>
    obtain h1 := hinv
    have h7 := stF_rg (pf p) sp L ν
    refine lv_iload hx hb d_C_steady_37 (lv_at hl 4 rfl) ?_
    refine lv_iload hx hb d_C_steady_39 (lv_at hl 2 rfl) ?_
    refine ri_icmp_gt (tgt := 70) hx hb d_C_steady_41 (by decide) (by omega) (by omega) (fun c41 => ?_) (fun c41 => ?_)
    · exact absurd c41 (by omega)
    · refine lv_iload hx hb d_C_steady_44 (lv_at hl 3 rfl) ?_
      refine lv_aload hx hb d_C_steady_46 (lv_at hl 1 rfl) ?_
      refine va_get (D := D) (ci := 1) (v := .int (iI ((L : Int)))) (C := R_P) (T := F_P) (N := 4) hx hb hG in_P hown hK hP (i1 + 2) e1 rfl 1 (by decide) (hG _ g_286) (fun _ h9 => h9) rfl d_C_steady_48 ?_
      refine ri_icmp_ge (tgt := 70) hx hb d_C_steady_51 (by decide) (by omega) (by omega) (fun c51 => ?_) (fun c51 => ?_)
      · have hfin : (stF (pf p) sp L ν < L → stF (pf p) sp (ln p).toNat (kk.toNat + 1) < ln p) ∧ (stF (pf p) sp L ν < L → stF (pf p) sp L ν = stF (pf p) sp (ln p).toNat (kk.toNat + 1)) := ⟨fun q => absurd q (by omega), fun q => absurd q (by omega)⟩
        have hnot : ¬ stF (pf p) sp L ν < L → ¬ stF (pf p) sp (ln p).toNat (kk.toNat + 1) < ln p := fun q => by
          rw [gL, show kk.toNat + 1 = ν + (kk.toNat + 1 - ν) by omega, stF_e q]
          omega
        refine lv_iload hx hb d_C_steady_70 (lv_at hl 3 rfl) ?_
        refine lv_aload hx hb d_C_steady_72 (lv_at hl 1 rfl) ?_
        refine va_get (D := D) (ci := 1) (v := .int (iI ((L : Int)))) (C := R_P) (T := F_P) (N := 4) hx hb hG in_P hown hK hP (i1 + 2) e1 rfl 1 (by decide) (hG _ g_286) (fun _ h9 => h9) rfl d_C_steady_74 ?_
        refine ri_icmp_lt (tgt := 90) hx hb d_C_steady_77 (by decide) (by omega) (by omega) (fun c77 => ?_) (fun c77 => ?_)
        · refine lv_iload hx hb d_C_steady_90 (lv_at hl 3 rfl) ?_
          exact re_i hx hb hr hlocks (fun t ht hW => ⟨⟨⟨q1, q2⟩, ⟨u1, u2⟩, z1, hfin.1 (by omega), by rw [← (hfin.2 (by omega))]⟩, ht⟩) hS.2.2 (Nat.le_of_ble_eq_true rfl) (Nat.le_of_ble_eq_true rfl) d_C_steady_92
        · exact tk_throw (kl := 2) hC h0 hx hb hown xA_IS (by decide +kernel) g_202 g_200 g_8 g_454 hS (hl.1.trans hml.symm) d_C_steady_80 d_C_steady_83 (Or.inl ⟨rfl, d_C_steady_84⟩) d_C_steady_86 d_C_steady_89 htab hlocks (Nat.le_of_ble_eq_true rfl) (Nat.le_of_ble_eq_true rfl) (Nat.le_of_ble_eq_true rfl) (Nat.le_of_ble_eq_true rfl) (fun t hla hz ho => ⟨Or.inr (Or.inr ⟨rfl, ⟨q1, q2⟩, ⟨u1, u2⟩, z1, hnot (by omega)⟩), hla, hz, ho⟩) (Nat.le_of_ble_eq_true rfl) (Nat.le_of_ble_eq_true rfl)
      · refine lv_aload hx hb d_C_steady_54 (lv_at hl 1 rfl) ?_
        refine lv_iload hx hb d_C_steady_56 (lv_at hl 3 rfl) ?_
        refine lv_iload_n hx hb d_C_steady_58 rfl (lv_at hl 0 rfl) ?_
        refine rd_call (ex_runV (C := "LathePieces$Piece") (As := [.int (iI (stF (pf p) sp L ν)), .int (iI (sp))]) (rest := []) ⟨hx, hb, hml, hown, hG⟩ (c_P_heldBehind hC (pa p) (pq p) L (pf p) (bl p) (wm p) hL64 hpr (stF (pf p) sp L ν) sp (by omega) ⟨u1, u2⟩) (cb_code (n := 2) hG g_452 g_10 g_449 rfl rfl (by decide +kernel) ⟨Nat.le_of_ble_eq_true rfl, Nat.le_of_ble_eq_true rfl⟩) (hG _ g_450) (hG _ g_451) (kd_V ⟨fun _ _ _ _ q => q, fun U hU hW => ⟨rfl, la_next h0 (fun _ z => z) hS U hU hW, (by show va_P D classes _ U.heap; rw [hU]; exact (wl_P2 hP (a := i1 + 2) (b := i2 + 2) e1 e2))⟩⟩ (kd_recv hK hP (q0 := (i1 + 2)) (ci := 1) rfl e1 rfl)) rfl rfl hl.1 rfl (lv_room (Nat.le_of_ble_eq_true rfl)) d_C_steady_59 ⟨Nat.le_of_ble_eq_true rfl, Nat.le_of_ble_eq_true rfl⟩) (fun v9 h9 => ?_)
        obtain rfl := h9
        show W _ _ _ _ _ _ _ _ _ _ _ _ _ _ _ (F0 m9 62 ls [.int (iI (nhF (pf p) sp (stF (pf p) sp L ν) (L - stF (pf p) sp L ν).toNat))])
        refine tp_i (congrArg iI (show nhF (pf p) sp (stF (pf p) sp L ν) (L - stF (pf p) sp L ν).toNat = stF (pf p) sp L (ν + 1) from (stF_s (by omega)).symm)) ?_
        refine lv_istore (lv' := [(6, .int (iI (stF (pf p) sp L (ν + 1)))), (2, .int (iI (sp))), (4, .ref (pa p)), (5, .int (iI (min kk (L : Int)))), (7, .int (iI (0 + (ν : Int))))]) hx hb d_C_steady_62 hl (by decide) rfl (fun ls hl => ?_)
        refine lv_iinc (v := iI (0 + ((ν + 1 : Nat) : Int))) (lv' := [(7, .int (iI (0 + ((ν + 1 : Nat) : Int)))), (6, .int (iI (stF (pf p) sp L (ν + 1)))), (2, .int (iI (sp))), (4, .ref (pa p)), (5, .int (iI (min kk (L : Int))))]) hx hb d_C_steady_64 hl (k := 4) rfl ((ii_add _ _).trans (congrArg iI (by omega))) (by decide) rfl (fun ls hl => ?_)
        refine lv_goto (tgt := 37) hx hb d_C_steady_67 (by decide) ?_
        exact ih ls (ν + 1) (by omega) (lv_sub hl [2, 3, 4, 1, 0] rfl)

theorem sqS_rg {r : Int → Int} {up : Int} (L : Nat) (h : ∀ j : Int, 0 ≤ j → j ≤ L → 0 ≤ r j ∧ r j ≤ 500) : 0 ≤ itF (fun a b => a + b) (sqF r up) 0 1 L ∧ itF (fun a b => a + b) (sqF r up) 0 1 L ≤ L * 250000 := by
  induction L with
  | zero => exact ⟨Int.le_refl _, Int.le_refl _⟩
  | succ n ih =>
    rw [itF_s]
    have h1 := ih (fun j g1 g2 => h j g1 (by omega))
    have h2 := h (1 + n - 1) (by omega) (by omega)
    have h3 := h (1 + n) (by omega) (by omega)
    have h4 : 0 ≤ sqF r up (1 + n) ∧ sqF r up (1 + n) ≤ 500 * 500 := by
      unfold sqF
      split <;> exact ⟨Int.mul_nonneg (by omega) (by omega), Int.mul_le_mul (by omega) (by omega) (by omega) (by decide)⟩
    omega
/-- VOLUME -/
def voF (r : Int → Int) (up : Int) (L : Nat) : Int := if up = 0 then (itF (fun a b => a + b) (sqF r up) 0 1 L * 314159).tdiv 100000 else (itF (fun a b => a + b) (sqF r up) 0 1 L * 314160).tdiv 100000 + 1
set_option maxHeartbeats 4000000 in
set_option maxRecDepth 100000 in
theorem c_C_volume {l : Launch} {s0 : State} {D : va_G} {k : Nat → ClassId} (hC : Cx l s0 D k) (cx cf cp cn ce cg cu ct : Nat) (np nt ng nr ia ib : Int) (pa pq : Int → Nat) (ln bl wm : Int → Int) (pf : Int → Int → Int) (rs tl : va_W) (hpc : PcOk k np pa pq ln bl wm pf rs) (hrs : ∀ q ∈ rs, q ∈ tl) (hnp : 0 ≤ np ∧ np ≤ 6) (p up : Int) (hp : In32 p) (hup : In32 up) : ThM l s0 y_C_volume { frames := 7, cells := 1, slots := 6, locals := 112 } [.ref cx, .int (iI (p)), .int (iI (up))] (fun H => va_P D classes ((cx, .inr (5, [.ref cf, .ref cp, .int (iI (np)), .ref cn, .int (iI (nt)), .ref ce, .ref cg, .int (iI (ng)), .ref cu, .ref ct, .int (iI (nr)), .int (iI (ia)), .int (iI (ib))])) :: (cp, .inl (k 2, aq 6 (gQ np pa))) :: tl) H) (fun v => 0 ≤ p ∧ p < np ∧ v = some (.long (jJ (if up = 0 then (itF (fun a b => a + b) (sqF (pf p) up) 0 1 (ln p).toNat * 314159).tdiv 100000 else (itF (fun a b => a + b) (sqF (pf p) up) 0 1 (ln p).toNat * 314160).tdiv 100000 + 1)))) (fun E => E = xIO ∧ ¬ (0 ≤ p ∧ p < np)) 1 6 := by
  refine ex_ofW (cc := b_C_volume) (maxL := 5) (ret := (some .long)) (hh := []) (by decide +kernel) (Or.inl ⟨g_461, rfl⟩) ?_
  intro p9 e9 s m9 args9 below9 meth9 c9 s9 B9 hml htab hv
  obtain ⟨rfl, h0, hP⟩ := hv
  have hx := B9.exec
  have hb := B9.bytes
  have hr := B9.returns
  have hG := atoms_spec (ws := GW) B9.pre
  have hown : s.vm.findClass "LathePieces" = some m9.cls := findClass_of_methodNamed B9.named
  have hlocks := B9.notSynchronized
  have hK := cx_K hC h0
  have hS : va_S (aL s0) s.heap s.heap [] := va_S.rf
  have hl := lv_entry ([.ref cx, .int (iI (p)), .int (iI (up))]) (n := 5) (Nat.le_of_ble_eq_true rfl)
  rw [lg_entry_eq]
  generalize (lg_sl ([.ref cx, .int (iI (p)), .int (iI (up))]) ++ List.replicate (5 - (lg_sl ([.ref cx, .int (iI (p)), .int (iI (up))])).length) Slot.unset).toArray = ls at hl ⊢
  replace hl : lv_has ls 5 [(0, .ref cx), (1, .int (iI (p))), (2, .int (iI (up)))] := hl
  refine lv_aload_n hx hb d_C_volume_0 rfl (lv_at hl 0 rfl) ?_
  refine lv_iload_n hx hb d_C_volume_1 rfl (lv_at hl 1 rfl) ?_
  refine th_call h0 hS htab hlocks (Nat.le_of_ble_eq_true rfl) (Nat.le_of_ble_eq_true rfl) (ex_runV (C := "LathePieces") (As := [.int (iI (p))]) (rest := []) ⟨hx, hb, hml, hown, hG⟩ (c_C_pieceAt hC cx cf cp cn ce cg cu ct np nt ng nr ia ib pa p (by omega) hnp) (cb_code (n := 1) hG g_315 g_1 g_312 rfl rfl (by decide +kernel) ⟨Nat.le_of_ble_eq_true rfl, Nat.le_of_ble_eq_true rfl⟩) (hG _ g_314) (hG _ gs_C_pieceAt) (kd_V ⟨fun _ _ _ _ q => q, fun U hU hW => ⟨rfl, la_next h0 (fun _ z => z) hS U hU hW, (by show va_P D classes _ U.heap; rw [hU]; exact (va_P.sub hP [0, 1] rfl))⟩⟩ (kd_recv hK hP (q0 := 0) (ci := 5) rfl rfl rfl)) rfl rfl hl.1 rfl (lv_room (Nat.le_of_ble_eq_true rfl)) d_C_volume_2 ⟨Nat.le_of_ble_eq_true rfl, Nat.le_of_ble_eq_true rfl⟩) (fun E hE t hla hz ho => ⟨hE, hla, hz, ho⟩) (fun v9 h9 locs hS => ?_)
  obtain ⟨q1, q2, rfl⟩ := h9
  show W _ _ _ _ _ _ _ _ _ _ _ _ _ _ _ (F0 m9 5 ls [.ref (pa p)])
  obtain ⟨i1, i2, L, hL, hL64, hpr, hbl, hbr, e1, e2⟩ := pc_get hpc hrs q1 q2
  have gL : (ln p).toNat = L := by omega
  refine lv_iload_n hx hb d_C_volume_5 rfl (lv_at hl 2 rfl) ?_
  refine rd_call (ex_runV (C := "LathePieces$Piece") (As := [.int (iI (up))]) (rest := []) ⟨hx, hb, hml, hown, hG⟩ (c_P_sumOfSquares hC (pa p) (pq p) L (pf p) (bl p) (wm p) hL64 hpr up hup) (cb_code (n := 1) hG g_465 g_10 g_462 rfl rfl (by decide +kernel) ⟨Nat.le_of_ble_eq_true rfl, Nat.le_of_ble_eq_true rfl⟩) (hG _ g_463) (hG _ g_464) (kd_V ⟨fun _ _ _ _ q => q, fun U hU hW => ⟨rfl, la_next h0 (fun _ z => z) hS U hU hW, (by show va_P D classes _ U.heap; rw [hU]; exact (wl_P2 hP (a := i1 + 2) (b := i2 + 2) e1 e2))⟩⟩ (kd_recv hK hP (q0 := (i1 + 2)) (ci := 1) rfl e1 rfl)) rfl rfl hl.1 rfl (lv_room (Nat.le_of_ble_eq_true rfl)) d_C_volume_6 ⟨Nat.le_of_ble_eq_true rfl, Nat.le_of_ble_eq_true rfl⟩) (fun v9 h9 => ?_)
  obtain rfl := h9
  show W _ _ _ _ _ _ _ _ _ _ _ _ _ _ _ (F0 m9 9 ls [.long (jJ (itF (fun a b => a + b) (sqF (pf p) up) 0 1 L))])
  have h7 : 0 ≤ itF (fun a b => a + b) (sqF (pf p) up) 0 1 L ∧ itF (fun a b => a + b) (sqF (pf p) up) 0 1 L ≤ L * 250000 := sqS_rg L (fun j g1 g2 => hpr j g1 g2)
  refine lv_lstore_n (lv' := [(3, .long (jJ (itF (fun a b => a + b) (sqF (pf p) up) 0 1 L))), (0, .ref cx), (1, .int (iI (p))), (2, .int (iI (up)))]) hx hb d_C_volume_9 rfl hl (by decide) rfl (fun ls hl => ?_)
  refine lv_iload_n hx hb d_C_volume_10 rfl (lv_at hl 3 rfl) ?_
  refine ri_if_eq (tgt := 28) hx hb d_C_volume_11 (by decide) (by omega) (fun c11 => ?_) (fun c11 => ?_)
  · refine lv_lload_n hx hb d_C_volume_28 rfl (lv_at hl 0 rfl) ?_
    refine lv_ldc2 (v := jJ 314159) hx hb hown (hG _ g_468) d_C_volume_29 ?_
    refine ri_lmul hx hb d_C_volume_32 ?_
    refine lv_ldc2 (v := jJ 100000) hx hb hown (hG _ g_467) d_C_volume_33 ?_
    refine ri_ldiv hx hb d_C_volume_36 (by omega) (by omega) (by omega) ?_
    exact re_l hx hb hr hlocks (fun t ht hW => ⟨⟨q1, q2, by rw [if_pos c11, gL]⟩, ht⟩) hS.2.2 (Nat.le_of_ble_eq_true rfl) (Nat.le_of_ble_eq_true rfl) d_C_volume_37
  · refine lv_lload_n hx hb d_C_volume_14 rfl (lv_at hl 0 rfl) ?_
    refine lv_ldc2 (v := jJ 314160) hx hb hown (hG _ g_466) d_C_volume_15 ?_
    refine ri_lmul hx hb d_C_volume_18 ?_
    refine lv_ldc2 (v := jJ 100000) hx hb hown (hG _ g_467) d_C_volume_19 ?_
    refine ri_ldiv hx hb d_C_volume_22 (by omega) (by omega) (by omega) ?_
    refine ri_lconst (z := 1) hx hb d_C_volume_23 rfl ?_
    refine ri_ladd hx hb d_C_volume_24 ?_
    refine lv_goto (tgt := 37) hx hb d_C_volume_25 (by decide) ?_
    exact re_l hx hb hr hlocks (fun t ht hW => ⟨⟨q1, q2, by rw [if_neg c11, gL]⟩, ht⟩) hS.2.2 (Nat.le_of_ble_eq_true rfl) (Nat.le_of_ble_eq_true rfl) d_C_volume_37

set_option maxHeartbeats 4000000 in
set_option maxRecDepth 100000 in
theorem c_C_hollow {l : Launch} {s0 : State} {D : va_G} {k : Nat → ClassId} (hC : Cx l s0 D k) (cx cf cp cn ce cg cu ct : Nat) (np nt ng nr ia ib : Int) (pa pq : Int → Nat) (ln bl wm : Int → Int) (pf : Int → Int → Int) (rs tl : va_W) (hpc : PcOk k np pa pq ln bl wm pf rs) (hrs : ∀ q ∈ rs, q ∈ tl) (hnp : 0 ≤ np ∧ np ≤ 6) (p wl9 br : Int) (hp : In32 p) (hwl : In32 wl9) (hbr9 : In32 br) : ThM l s0 y_C_hollow { frames := 7, cells := 3, slots := 18, locals := 112 } [.ref cx, .int (iI (p)), .int (iI (wl9)), .int (iI (br))] (fun H => va_P D classes ((cx, .inr (5, [.ref cf, .ref cp, .int (iI (np)), .ref cn, .int (iI (nt)), .ref ce, .ref cg, .int (iI (ng)), .ref cu, .ref ct, .int (iI (nr)), .int (iI (ia)), .int (iI (ib))])) :: (cp, .inl (k 2, aq 6 (gQ np pa))) :: tl) H) (fun v => (0 ≤ p ∧ p < np) ∧ (1 ≤ wl9 ∧ wl9 ≤ 100) ∧ (0 ≤ br ∧ br ≤ 100) ∧ v = some (.int (iI (hoF (pf p) (wl9 + br) ((ln p).toNat + 1))))) (fun E => E = xIO ∧ ¬ (0 ≤ p ∧ p < np) ∨ E = xIA ∧ (0 ≤ p ∧ p < np) ∧ ¬ ((1 ≤ wl9 ∧ wl9 ≤ 100) ∧ (0 ≤ br ∧ br ≤ 100))) 3 18 := by
  refine ex_ofW (cc := b_C_hollow) (maxL := 5) (ret := (some .int)) (hh := []) (by decide +kernel) (Or.inl ⟨g_475, rfl⟩) ?_
  intro p9 e9 s m9 args9 below9 meth9 c9 s9 B9 hml htab hv
  obtain ⟨rfl, h0, hP⟩ := hv
  have hx := B9.exec
  have hb := B9.bytes
  have hr := B9.returns
  have hG := atoms_spec (ws := GW) B9.pre
  have hown : s.vm.findClass "LathePieces" = some m9.cls := findClass_of_methodNamed B9.named
  have hlocks := B9.notSynchronized
  have hK := cx_K hC h0
  have hS : va_S (aL s0) s.heap s.heap [] := va_S.rf
  have hl := lv_entry ([.ref cx, .int (iI (p)), .int (iI (wl9)), .int (iI (br))]) (n := 5) (Nat.le_of_ble_eq_true rfl)
  rw [lg_entry_eq]
  generalize (lg_sl ([.ref cx, .int (iI (p)), .int (iI (wl9)), .int (iI (br))]) ++ List.replicate (5 - (lg_sl ([.ref cx, .int (iI (p)), .int (iI (wl9)), .int (iI (br))])).length) Slot.unset).toArray = ls at hl ⊢
  replace hl : lv_has ls 5 [(0, .ref cx), (1, .int (iI (p))), (2, .int (iI (wl9))), (3, .int (iI (br)))] := hl
  refine lv_aload_n hx hb d_C_hollow_0 rfl (lv_at hl 0 rfl) ?_
  refine lv_iload_n hx hb d_C_hollow_1 rfl (lv_at hl 1 rfl) ?_
  refine th_call h0 hS htab hlocks (Nat.le_of_ble_eq_true rfl) (Nat.le_of_ble_eq_true rfl) (ex_runV (C := "LathePieces") (As := [.int (iI (p))]) (rest := []) ⟨hx, hb, hml, hown, hG⟩ (c_C_pieceAt hC cx cf cp cn ce cg cu ct np nt ng nr ia ib pa p (by omega) hnp) (cb_code (n := 1) hG g_315 g_1 g_312 rfl rfl (by decide +kernel) ⟨Nat.le_of_ble_eq_true rfl, Nat.le_of_ble_eq_true rfl⟩) (hG _ g_314) (hG _ gs_C_pieceAt) (kd_V ⟨fun _ _ _ _ q => q, fun U hU hW => ⟨rfl, la_next h0 (fun _ z => z) hS U hU hW, (by show va_P D classes _ U.heap; rw [hU]; exact (va_P.sub hP [0, 1] rfl))⟩⟩ (kd_recv hK hP (q0 := 0) (ci := 5) rfl rfl rfl)) rfl rfl hl.1 rfl (lv_room (Nat.le_of_ble_eq_true rfl)) d_C_hollow_2 ⟨Nat.le_of_ble_eq_true rfl, Nat.le_of_ble_eq_true rfl⟩) (fun E hE t hla hz ho => ⟨Or.inl hE, hla, hz, ho⟩) (fun v9 h9 locs hS => ?_)
  obtain ⟨q1, q2, rfl⟩ := h9
  show W _ _ _ _ _ _ _ _ _ _ _ _ _ _ _ (F0 m9 5 ls [.ref (pa p)])
  obtain ⟨i1, i2, L, hL, hL64, hpr, hbl, hbr, e1, e2⟩ := pc_get hpc hrs q1 q2
  have gL : (ln p).toNat = L := by omega
  refine lv_astore (lv' := [(4, .ref (pa p)), (0, .ref cx), (1, .int (iI (p))), (2, .int (iI (wl9))), (3, .int (iI (br)))]) hx hb d_C_hollow_5 hl (by decide) rfl (fun ls hl => ?_)
  refine lv_iload_n hx hb d_C_hollow_7 rfl (lv_at hl 3 rfl) ?_
  refine ri_iconst hx hb d_C_hollow_8 ?_
  refine ri_bipush hx hb d_C_hollow_9 (by decide) ?_
  refine th_call h0 hS htab hlocks (Nat.le_of_ble_eq_true rfl) (Nat.le_of_ble_eq_true rfl) (ex_runS (As := [.int (iI (wl9)), .int (iI (1)), .int (iI (100))]) (rest := []) ⟨hx, hb, hml, hown, hG⟩ (c_C_checkNumber hC (wl9) (1) (100) (by omega) (by omega) (by omega)) (cb_code (n := 3) hG g_112 g_1 g_110 rfl rfl (by decide +kernel) ⟨Nat.le_of_ble_eq_true rfl, Nat.le_of_ble_eq_true rfl⟩) (hG _ g_111) ⟨fun _ _ _ _ q => q, fun U hU hW => ⟨rfl, la_next h0 (fun _ z => z) hS U hU hW, trivial⟩⟩ rfl rfl hl.1 rfl (lv_room (Nat.le_of_ble_eq_true rfl)) d_C_hollow_11 ⟨Nat.le_of_ble_eq_true rfl, Nat.le_of_ble_eq_true rfl⟩) (fun E hE t hla hz ho => ⟨Or.inr ⟨hE.1, ⟨q1, q2⟩, by omega⟩, hla, hz, ho⟩) (fun v9 h9 locs hS => ?_)
  obtain ⟨rfl, u1, u2⟩ := h9
  show W _ _ _ _ _ _ _ _ _ _ _ _ _ _ _ (F0 m9 14 ls [])
  refine lv_iload_n hx hb d_C_hollow_14 rfl (lv_at hl 4 rfl) ?_
  refine ri_iconst hx hb d_C_hollow_15 ?_
  refine ri_bipush hx hb d_C_hollow_16 (by decide) ?_
  refine th_call h0 hS htab hlocks (Nat.le_of_ble_eq_true rfl) (Nat.le_of_ble_eq_true rfl) (ex_runS (As := [.int (iI (br)), .int (iI (0)), .int (iI (100))]) (rest := []) ⟨hx, hb, hml, hown, hG⟩ (c_C_checkNumber hC (br) (0) (100) (by omega) (by omega) (by omega)) (cb_code (n := 3) hG g_112 g_1 g_110 rfl rfl (by decide +kernel) ⟨Nat.le_of_ble_eq_true rfl, Nat.le_of_ble_eq_true rfl⟩) (hG _ g_111) ⟨fun _ _ _ _ q => q, fun U hU hW => ⟨rfl, la_next h0 (fun _ z => z) hS U hU hW, trivial⟩⟩ rfl rfl hl.1 rfl (lv_room (Nat.le_of_ble_eq_true rfl)) d_C_hollow_18 ⟨Nat.le_of_ble_eq_true rfl, Nat.le_of_ble_eq_true rfl⟩) (fun E hE t hla hz ho => ⟨Or.inr ⟨hE.1, ⟨q1, q2⟩, by omega⟩, hla, hz, ho⟩) (fun v9 h9 locs hS => ?_)
  obtain ⟨rfl, z1, z2⟩ := h9
  show W _ _ _ _ _ _ _ _ _ _ _ _ _ _ _ (F0 m9 21 ls [])
  refine lv_aload hx hb d_C_hollow_21 (lv_at hl 0 rfl) ?_
  refine lv_iload_n hx hb d_C_hollow_23 rfl (lv_at hl 3 rfl) ?_
  refine lv_iload_n hx hb d_C_hollow_24 rfl (lv_at hl 4 rfl) ?_
  refine ri_iadd hx hb d_C_hollow_25 ?_
  refine rd_call (ex_runV (C := "LathePieces$Piece") (As := [.int (iI (wl9 + br))]) (rest := []) ⟨hx, hb, hml, hown, hG⟩ (c_P_lastPlacesFrom hC (pa p) (pq p) L (pf p) (bl p) (wm p) hL64 hpr (wl9 + br) (by omega)) (cb_code (n := 1) hG g_479 g_10 g_476 rfl rfl (by decide +kernel) ⟨Nat.le_of_ble_eq_true rfl, Nat.le_of_ble_eq_true rfl⟩) (hG _ g_477) (hG _ g_478) (kd_V ⟨fun _ _ _ _ q => q, fun U hU hW => ⟨rfl, la_next h0 (fun _ z => z) hS U hU hW, (by show va_P D classes _ U.heap; rw [hU]; exact (wl_P2 hP (a := i1 + 2) (b := i2 + 2) e1 e2))⟩⟩ (kd_recv hK hP (q0 := (i1 + 2)) (ci := 1) rfl e1 rfl)) rfl rfl hl.1 rfl (lv_room (Nat.le_of_ble_eq_true rfl)) d_C_hollow_26 ⟨Nat.le_of_ble_eq_true rfl, Nat.le_of_ble_eq_true rfl⟩) (fun v9 h9 => ?_)
  obtain rfl := h9
  show W _ _ _ _ _ _ _ _ _ _ _ _ _ _ _ (F0 m9 29 ls [.int (iI (hoF (pf p) (wl9 + br) (L + 1)))])
  exact re_i hx hb hr hlocks (fun t ht hW => ⟨⟨⟨q1, q2⟩, ⟨u1, u2⟩, ⟨z1, z2⟩, by rw [gL]⟩, ht⟩) hS.2.2 (Nat.le_of_ble_eq_true rfl) (Nat.le_of_ble_eq_true rfl) d_C_hollow_29

set_option maxHeartbeats 4000000 in
set_option maxRecDepth 100000 in
theorem c_C_copy {l : Launch} {s0 : State} {D : va_G} {k : Nat → ClassId} (hC : Cx l s0 D k) (cx cf cp cn ce cg cu ct : Nat) (np nt ng nr ia ib : Int) (pa pq : Int → Nat) (ln bl wm : Int → Int) (pf : Int → Int → Int) (rs tl : va_W) (hpc : PcOk k np pa pq ln bl wm pf rs) (hrs : ∀ q ∈ rs, q ∈ tl) (hnp : 0 ≤ np ∧ np ≤ 6) (p p2 : Int) (hp : In32 p) (hp2 : In32 p2) : ThM l s0 y_C_copy { frames := 7, cells := 2, slots := 12, locals := 112 } [.ref cx, .int (iI (p)), .int (iI (p2))] (fun H => va_P D classes ((cx, .inr (5, [.ref cf, .ref cp, .int (iI (np)), .ref cn, .int (iI (nt)), .ref ce, .ref cg, .int (iI (ng)), .ref cu, .ref ct, .int (iI (nr)), .int (iI (ia)), .int (iI (ib))])) :: (cp, .inl (k 2, aq 6 (gQ np pa))) :: tl) H) (fun v => 0 ≤ p ∧ p < np ∧ 0 ≤ p2 ∧ p2 < np ∧ v = some (.int (iI (itF max (fun j => ((pf p j - pf p2 j).natAbs : Int)) 0 0 (min (ln p).toNat (ln p2).toNat + 1))))) (fun E => E = xIO ∧ ¬ (0 ≤ p ∧ p < np ∧ 0 ≤ p2 ∧ p2 < np)) 2 12 := by
  refine ex_ofW (cc := b_C_copy) (maxL := 3) (ret := (some .int)) (hh := []) (by decide +kernel) (Or.inl ⟨g_486, rfl⟩) ?_
  intro p9 e9 s m9 args9 below9 meth9 c9 s9 B9 hml htab hv
  obtain ⟨rfl, h0, hP⟩ := hv
  have hx := B9.exec
  have hb := B9.bytes
  have hr := B9.returns
  have hG := atoms_spec (ws := GW) B9.pre
  have hown : s.vm.findClass "LathePieces" = some m9.cls := findClass_of_methodNamed B9.named
  have hlocks := B9.notSynchronized
  have hK := cx_K hC h0
  have hS : va_S (aL s0) s.heap s.heap [] := va_S.rf
  have hl := lv_entry ([.ref cx, .int (iI (p)), .int (iI (p2))]) (n := 3) (Nat.le_of_ble_eq_true rfl)
  rw [lg_entry_eq]
  generalize (lg_sl ([.ref cx, .int (iI (p)), .int (iI (p2))]) ++ List.replicate (3 - (lg_sl ([.ref cx, .int (iI (p)), .int (iI (p2))])).length) Slot.unset).toArray = ls at hl ⊢
  replace hl : lv_has ls 3 [(0, .ref cx), (1, .int (iI (p))), (2, .int (iI (p2)))] := hl
  refine lv_aload_n hx hb d_C_copy_0 rfl (lv_at hl 0 rfl) ?_
  refine lv_iload_n hx hb d_C_copy_1 rfl (lv_at hl 1 rfl) ?_
  refine th_call h0 hS htab hlocks (Nat.le_of_ble_eq_true rfl) (Nat.le_of_ble_eq_true rfl) (ex_runV (C := "LathePieces") (As := [.int (iI (p))]) (rest := []) ⟨hx, hb, hml, hown, hG⟩ (c_C_pieceAt hC cx cf cp cn ce cg cu ct np nt ng nr ia ib pa p (by omega) hnp) (cb_code (n := 1) hG g_315 g_1 g_312 rfl rfl (by decide +kernel) ⟨Nat.le_of_ble_eq_true rfl, Nat.le_of_ble_eq_true rfl⟩) (hG _ g_314) (hG _ gs_C_pieceAt) (kd_V ⟨fun _ _ _ _ q => q, fun U hU hW => ⟨rfl, la_next h0 (fun _ z => z) hS U hU hW, (by show va_P D classes _ U.heap; rw [hU]; exact (va_P.sub hP [0, 1] rfl))⟩⟩ (kd_recv hK hP (q0 := 0) (ci := 5) rfl rfl rfl)) rfl rfl hl.1 rfl (lv_room (Nat.le_of_ble_eq_true rfl)) d_C_copy_2 ⟨Nat.le_of_ble_eq_true rfl, Nat.le_of_ble_eq_true rfl⟩) (fun E hE t hla hz ho => ⟨⟨hE.1, fun q => hE.2 ⟨q.1, q.2.1⟩⟩, hla, hz, ho⟩) (fun v9 h9 locs hS => ?_)
  obtain ⟨q1, q2, rfl⟩ := h9
  show W _ _ _ _ _ _ _ _ _ _ _ _ _ _ _ (F0 m9 5 ls [.ref (pa p)])
  obtain ⟨i1, i2, L, hL, hL64, hpr, hbl, hbr, e1, e2⟩ := pc_get hpc hrs q1 q2
  have gL : (ln p).toNat = L := by omega
  refine lv_aload_n hx hb d_C_copy_5 rfl (lv_at hl 0 rfl) ?_
  refine lv_iload_n hx hb d_C_copy_6 rfl (lv_at hl 2 rfl) ?_
  refine th_call h0 hS htab hlocks (Nat.le_of_ble_eq_true rfl) (Nat.le_of_ble_eq_true rfl) (ex_runV (C := "LathePieces") (As := [.int (iI (p2))]) (rest := [.ref (pa p)]) ⟨hx, hb, hml, hown, hG⟩ (c_C_pieceAt hC cx cf cp cn ce cg cu ct np nt ng nr ia ib pa p2 (by omega) hnp) (cb_code (n := 1) hG g_315 g_1 g_312 rfl rfl (by decide +kernel) ⟨Nat.le_of_ble_eq_true rfl, Nat.le_of_ble_eq_true rfl⟩) (hG _ g_314) (hG _ gs_C_pieceAt) (kd_V ⟨fun _ _ _ _ q => q, fun U hU hW => ⟨rfl, la_next h0 (fun _ z => z) hS U hU hW, (by show va_P D classes _ U.heap; rw [hU]; exact (va_P.sub hP [0, 1] rfl))⟩⟩ (kd_recv hK hP (q0 := 0) (ci := 5) rfl rfl rfl)) rfl rfl hl.1 rfl (lv_room (Nat.le_of_ble_eq_true rfl)) d_C_copy_7 ⟨Nat.le_of_ble_eq_true rfl, Nat.le_of_ble_eq_true rfl⟩) (fun E hE t hla hz ho => ⟨⟨hE.1, fun q => hE.2 ⟨q.2.2.1, q.2.2.2⟩⟩, hla, hz, ho⟩) (fun v9 h9 locs hS => ?_)
  obtain ⟨q3, q4, rfl⟩ := h9
  show W _ _ _ _ _ _ _ _ _ _ _ _ _ _ _ (F0 m9 10 ls [.ref (pa p2), .ref (pa p)])
  obtain ⟨i1b, i2b, Lb, hLb, hL64b, hprb, hblb, hbrb, e1b, e2b⟩ := pc_get hpc hrs q3 q4
  have gLb : (ln p2).toNat = Lb := by omega
  refine rd_call (ex_runV (C := "LathePieces$Piece") (As := [.ref (pa p2)]) (rest := []) ⟨hx, hb, hml, hown, hG⟩ (c_P_greatestDifference hC (pa p) (pq p) L (pf p) (bl p) (wm p) hL64 hpr (pa p2) (pq p2) Lb (pf p2) (bl p2) (wm p2) hL64b hprb) (cb_code (n := 1) hG g_490 g_10 g_487 rfl rfl (by decide +kernel) ⟨Nat.le_of_ble_eq_true rfl, Nat.le_of_ble_eq_true rfl⟩) (hG _ g_488) (hG _ g_489) (kd_V ⟨fun _ _ _ _ q => q, fun U hU hW => ⟨rfl, la_next h0 (fun _ z => z) hS U hU hW, (by show va_P D classes _ U.heap; rw [hU]; exact (wl_P4 hP (a := i1 + 2) (b := i2 + 2) (c := i1b + 2) (d := i2b + 2) e1 e2 e1b e2b))⟩⟩ (kd_recv hK hP (q0 := (i1 + 2)) (ci := 1) rfl e1 rfl)) rfl rfl hl.1 rfl (lv_room (Nat.le_of_ble_eq_true rfl)) d_C_copy_10 ⟨Nat.le_of_ble_eq_true rfl, Nat.le_of_ble_eq_true rfl⟩) (fun v9 h9 => ?_)
  obtain rfl := h9
  show W _ _ _ _ _ _ _ _ _ _ _ _ _ _ _ (F0 m9 13 ls [.int (iI (itF max (fun j => ((pf p j - pf p2 j).natAbs : Int)) 0 0 (min L Lb + 1)))])
  exact re_i hx hb hr hlocks (fun t ht hW => ⟨⟨q1, q2, q3, q4, by rw [gL, gLb]⟩, ht⟩) hS.2.2 (Nat.le_of_ble_eq_true rfl) (Nat.le_of_ble_eq_true rfl) d_C_copy_13

set_option maxHeartbeats 4000000 in
set_option maxRecDepth 100000 in
theorem c_C_mitre {l : Launch} {s0 : State} {D : va_G} {k : Nat → ClassId} (hC : Cx l s0 D k) (cx cf cp cn ce cg cu ct : Nat) (np nt ng nr ia ib : Int) (ga g1 g2 : Int → Nat) (ct9 : Int → Int) (gA gB : Int → Int → Int) (tl : va_W) (hrg : RgOk k ng ga g1 g2 ct9 gA gB tl) (hng : 0 ≤ ng ∧ ng ≤ 6) (p x pt : Int) (hp : In32 p) (hx9 : In32 x) (hpt : In32 pt) : ThM l s0 y_C_mitre { frames := 7, cells := 3, slots := 18, locals := 112 } [.ref cx, .int (iI (p)), .int (iI (x)), .int (iI (pt))] (fun H => va_P D classes ((cx, .inr (5, [.ref cf, .ref cp, .int (iI (np)), .ref cn, .int (iI (nt)), .ref ce, .ref cg, .int (iI (ng)), .ref cu, .ref ct, .int (iI (nr)), .int (iI (ia)), .int (iI (ib))])) :: (cg, .inl (k 5, aq 6 (gQ ng ga))) :: tl) H) (fun v => 0 ≤ p ∧ p < ng ∧ 0 ≤ x ∧ x < ct9 p ∧ (pt = 0 ∨ pt = 1) ∧ v = some (.long (jJ (frP (gA p x) (2 * gB p x) pt)))) (fun E => E = xIO ∧ ¬ (0 ≤ p ∧ p < ng ∧ 0 ≤ x ∧ x < ct9 p ∧ (pt = 0 ∨ pt = 1))) 3 18 := by
  refine ex_ofW (cc := b_C_mitre) (maxL := 5) (ret := (some .long)) (hh := []) (by decide +kernel) (Or.inl ⟨g_544, rfl⟩) ?_
  intro p9 e9 s m9 args9 below9 meth9 c9 s9 B9 hml htab hv
  obtain ⟨rfl, h0, hP⟩ := hv
  have hx := B9.exec
  have hb := B9.bytes
  have hr := B9.returns
  have hG := atoms_spec (ws := GW) B9.pre
  have hown : s.vm.findClass "LathePieces" = some m9.cls := findClass_of_methodNamed B9.named
  have hlocks := B9.notSynchronized
  have hK := cx_K hC h0
  have hS : va_S (aL s0) s.heap s.heap [] := va_S.rf
  have hl := lv_entry ([.ref cx, .int (iI (p)), .int (iI (x)), .int (iI (pt))]) (n := 5) (Nat.le_of_ble_eq_true rfl)
  rw [lg_entry_eq]
  generalize (lg_sl ([.ref cx, .int (iI (p)), .int (iI (x)), .int (iI (pt))]) ++ List.replicate (5 - (lg_sl ([.ref cx, .int (iI (p)), .int (iI (x)), .int (iI (pt))])).length) Slot.unset).toArray = ls at hl ⊢
  replace hl : lv_has ls 5 [(0, .ref cx), (1, .int (iI (p))), (2, .int (iI (x))), (3, .int (iI (pt)))] := hl
  refine lv_aload_n hx hb d_C_mitre_0 rfl (lv_at hl 0 rfl) ?_
  refine lv_iload_n hx hb d_C_mitre_1 rfl (lv_at hl 1 rfl) ?_
  refine th_call h0 hS htab hlocks (Nat.le_of_ble_eq_true rfl) (Nat.le_of_ble_eq_true rfl) (ex_runV (C := "LathePieces") (As := [.int (iI (p))]) (rest := []) ⟨hx, hb, hml, hown, hG⟩ (c_C_ringAt hC cx cf cp cn ce cg cu ct np nt ng nr ia ib ga p hp hng) (cb_code (n := 1) hG g_531 g_1 g_528 rfl rfl (by decide +kernel) ⟨Nat.le_of_ble_eq_true rfl, Nat.le_of_ble_eq_true rfl⟩) (hG _ g_530) (hG _ gs_C_ringAt) (kd_V ⟨fun _ _ _ _ q => q, fun U hU hW => ⟨rfl, la_next h0 (fun _ z => z) hS U hU hW, (by show va_P D classes _ U.heap; rw [hU]; exact (va_P.sub hP [0, 1] rfl))⟩⟩ (kd_recv hK hP (q0 := 0) (ci := 5) rfl rfl rfl)) rfl rfl hl.1 rfl (lv_room (Nat.le_of_ble_eq_true rfl)) d_C_mitre_2 ⟨Nat.le_of_ble_eq_true rfl, Nat.le_of_ble_eq_true rfl⟩) (fun E hE t hla hz ho => ⟨⟨hE.1, fun q => hE.2 ⟨q.1, q.2.1⟩⟩, hla, hz, ho⟩) (fun v9 h9 locs hS => ?_)
  obtain ⟨q1, q2, rfl⟩ := h9
  show W _ _ _ _ _ _ _ _ _ _ _ _ _ _ _ (F0 m9 5 ls [.ref (ga p)])
  obtain ⟨i1, i2, i3, hct, hel, hsm, e1, e2, e3⟩ := rg_get hrg q1 q2
  refine lv_astore (lv' := [(4, .ref (ga p)), (0, .ref cx), (1, .int (iI (p))), (2, .int (iI (x))), (3, .int (iI (pt)))]) hx hb d_C_mitre_5 hl (by decide) rfl (fun ls hl => ?_)
  refine lv_iload_n hx hb d_C_mitre_7 rfl (lv_at hl 3 rfl) ?_
  refine ri_if_lt (tgt := 20) hx hb d_C_mitre_8 (by decide) (by omega) (fun c8 => ?_) (fun c8 => ?_)
  · exact tk_throw (kl := 2) hC h0 hx hb hown xA_IO (by decide +kernel) g_318 g_316 g_13 g_545 hS (hl.1.trans hml.symm) d_C_mitre_20 d_C_mitre_23 (Or.inl ⟨rfl, d_C_mitre_24⟩) d_C_mitre_26 d_C_mitre_29 htab hlocks (Nat.le_of_ble_eq_true rfl) (Nat.le_of_ble_eq_true rfl) (Nat.le_of_ble_eq_true rfl) (Nat.le_of_ble_eq_true rfl) (fun t hla hz ho => ⟨⟨rfl, by omega⟩, hla, hz, ho⟩) (Nat.le_of_ble_eq_true rfl) (Nat.le_of_ble_eq_true rfl)
  · refine lv_iload_n hx hb d_C_mitre_11 rfl (lv_at hl 3 rfl) ?_
    refine lv_aload hx hb d_C_mitre_12 (lv_at hl 0 rfl) ?_
    refine va_get (D := D) (ci := 4) (v := .int (iI (ct9 p))) (C := R_G) (T := F_G) (N := 4) hx hb hG in_G hown hK hP (i1 + 2) e1 rfl 2 (by decide) (hG _ g_510) (fun _ h9 => h9) rfl d_C_mitre_14 ?_
    refine ri_icmp_lt (tgt := 30) hx hb d_C_mitre_17 (by decide) (by omega) (by omega) (fun c17 => ?_) (fun c17 => ?_)
    · refine lv_iload_n hx hb d_C_mitre_30 rfl (lv_at hl 4 rfl) ?_
      refine th_call h0 hS htab hlocks (Nat.le_of_ble_eq_true rfl) (Nat.le_of_ble_eq_true rfl) (ex_runS (As := [.int (iI (pt))]) (rest := []) ⟨hx, hb, hml, hown, hG⟩ (c_C_checkPart hC pt (by omega)) (cb_code (n := 1) hG g_548 g_1 g_546 rfl rfl (by decide +kernel) ⟨Nat.le_of_ble_eq_true rfl, Nat.le_of_ble_eq_true rfl⟩) (hG _ g_547) ⟨fun _ _ _ _ q => q, fun U hU hW => ⟨rfl, la_next h0 (fun _ z => z) hS U hU hW, trivial⟩⟩ rfl rfl hl.1 rfl (lv_room (Nat.le_of_ble_eq_true rfl)) d_C_mitre_31 ⟨Nat.le_of_ble_eq_true rfl, Nat.le_of_ble_eq_true rfl⟩) (fun E hE t hla hz ho => ⟨⟨hE.1, fun q => hE.2 q.2.2.2.2⟩, hla, hz, ho⟩) (fun v9 h9 locs hS => ?_)
      obtain ⟨rfl, u1⟩ := h9
      show W _ _ _ _ _ _ _ _ _ _ _ _ _ _ _ (F0 m9 34 ls [])
      have h7 := hel x (by omega) (by omega)
      obtain ⟨b, hb5⟩ : ∃ b : Nat, (b : Int) = 2 * gB p x := ⟨(2 * gB p x).toNat, Int.toNat_of_nonneg (by omega)⟩
      refine lv_aload hx hb d_C_mitre_34 (lv_at hl 0 rfl) ?_
      refine va_get (D := D) (ci := 4) (v := .ref (g1 p)) (C := R_G) (T := F_G) (N := 4) hx hb hG in_G hown hK hP (i1 + 2) e1 rfl 0 (by decide) (hG _ g_506) (fun _ h9 => h9) rfl d_C_mitre_36 ?_
      refine lv_iload_n hx hb d_C_mitre_39 rfl (lv_at hl 3 rfl) ?_
      refine ra_iald hx hb hK hP (i2 + 2) e2 (by omega) (by omega) d_C_mitre_40 ?_
      refine ri_i2l hx hb d_C_mitre_41 (by omega) ?_
      refine lv_ldc2 (v := jJ 2) hx hb hown (hG _ g_550) d_C_mitre_42 ?_
      refine lv_aload hx hb d_C_mitre_45 (lv_at hl 0 rfl) ?_
      refine va_get (D := D) (ci := 4) (v := .ref (g2 p)) (C := R_G) (T := F_G) (N := 4) hx hb hG in_G hown hK hP (i1 + 2) e1 rfl 1 (by decide) (hG _ g_508) (fun _ h9 => h9) rfl d_C_mitre_47 ?_
      refine lv_iload_n hx hb d_C_mitre_50 rfl (lv_at hl 3 rfl) ?_
      refine ra_iald hx hb hK hP (i3 + 2) e3 (by omega) (by omega) d_C_mitre_51 ?_
      refine ri_i2l hx hb d_C_mitre_52 (by omega) ?_
      refine ri_lmul hx hb d_C_mitre_53 ?_
      refine tp_l (congrArg jJ (show 2 * ((gB p) x) = (b : Int) from hb5.symm)) ?_
      refine lv_iload_n hx hb d_C_mitre_54 rfl (lv_at hl 4 rfl) ?_
      refine rd_call (ex_runS (As := [.long (jJ ((gA p) (x))), .long (jJ ((b : Int))), .int (iI (pt))]) (rest := []) ⟨hx, hb, hml, hown, hG⟩ (c_C_fractionPart l (gA p x) b pt (by omega) (by omega) (fr_ok (by omega) (by omega)) (by omega)) (cb_code (n := 3) hG g_553 g_1 g_551 rfl rfl (by decide +kernel) ⟨Nat.le_of_ble_eq_true rfl, Nat.le_of_ble_eq_true rfl⟩) (hG _ g_552) ⟨fun _ _ _ _ q => q, fun _ _ _ => rfl⟩ rfl rfl hl.1 rfl (lv_room (Nat.le_of_ble_eq_true rfl)) d_C_mitre_55 ⟨Nat.le_of_ble_eq_true rfl, Nat.le_of_ble_eq_true rfl⟩) (fun v9 h9 => ?_)
      obtain rfl := h9
      show W _ _ _ _ _ _ _ _ _ _ _ _ _ _ _ (F0 m9 58 ls [.long (jJ (frP (gA p x) (b : Int) pt))])
      exact re_l hx hb hr hlocks (fun t ht hW => ⟨⟨q1, q2, by omega, by omega, u1, by rw [hb5]⟩, ht⟩) hS.2.2 (Nat.le_of_ble_eq_true rfl) (Nat.le_of_ble_eq_true rfl) d_C_mitre_58
    · exact tk_throw (kl := 2) hC h0 hx hb hown xA_IO (by decide +kernel) g_318 g_316 g_13 g_545 hS (hl.1.trans hml.symm) d_C_mitre_20 d_C_mitre_23 (Or.inl ⟨rfl, d_C_mitre_24⟩) d_C_mitre_26 d_C_mitre_29 htab hlocks (Nat.le_of_ble_eq_true rfl) (Nat.le_of_ble_eq_true rfl) (Nat.le_of_ble_eq_true rfl) (Nat.le_of_ble_eq_true rfl) (fun t hla hz ho => ⟨⟨rfl, by omega⟩, hla, hz, ho⟩) (Nat.le_of_ble_eq_true rfl) (Nat.le_of_ble_eq_true rfl)

set_option maxHeartbeats 4000000 in
set_option maxRecDepth 100000 in
theorem c_C_gap {l : Launch} {s0 : State} {D : va_G} {k : Nat → ClassId} (hC : Cx l s0 D k) (cx cf cp cn ce cg cu ct : Nat) (np nt ng nr ia ib : Int) (ga g1 g2 : Int → Nat) (ct9 : Int → Int) (gA gB : Int → Int → Int) (tl : va_W) (hrg : RgOk k ng ga g1 g2 ct9 gA gB tl) (hng : 0 ≤ ng ∧ ng ≤ 6) (p pt : Int) (hp : In32 p) (hpt : In32 pt) : ThM l s0 y_C_gap { frames := 7, cells := 2, slots := 12, locals := 112 } [.ref cx, .int (iI (p)), .int (iI (pt))] (fun H => va_P D classes ((cx, .inr (5, [.ref cf, .ref cp, .int (iI (np)), .ref cn, .int (iI (nt)), .ref ce, .ref cg, .int (iI (ng)), .ref cu, .ref ct, .int (iI (nr)), .int (iI (ia)), .int (iI (ib))])) :: (cg, .inl (k 5, aq 6 (gQ ng ga))) :: tl) H) (fun v => 0 ≤ p ∧ p < ng ∧ (pt = 0 ∨ pt = 1) ∧ v = some (.long (jJ (frP (9979200 - smF (gA p) (gB p) (ct9 p).toNat) 27720 pt)))) (fun E => E = xIO ∧ ¬ (0 ≤ p ∧ p < ng ∧ (pt = 0 ∨ pt = 1))) 2 12 := by
  refine ex_ofW (cc := b_C_gap) (maxL := 4) (ret := (some .long)) (hh := []) (by decide +kernel) (Or.inl ⟨g_566, rfl⟩) ?_
  intro p9 e9 s m9 args9 below9 meth9 c9 s9 B9 hml htab hv
  obtain ⟨rfl, h0, hP⟩ := hv
  have hx := B9.exec
  have hb := B9.bytes
  have hr := B9.returns
  have hG := atoms_spec (ws := GW) B9.pre
  have hown : s.vm.findClass "LathePieces" = some m9.cls := findClass_of_methodNamed B9.named
  have hlocks := B9.notSynchronized
  have hK := cx_K hC h0
  have hS : va_S (aL s0) s.heap s.heap [] := va_S.rf
  have hl := lv_entry ([.ref cx, .int (iI (p)), .int (iI (pt))]) (n := 4) (Nat.le_of_ble_eq_true rfl)
  rw [lg_entry_eq]
  generalize (lg_sl ([.ref cx, .int (iI (p)), .int (iI (pt))]) ++ List.replicate (4 - (lg_sl ([.ref cx, .int (iI (p)), .int (iI (pt))])).length) Slot.unset).toArray = ls at hl ⊢
  replace hl : lv_has ls 4 [(0, .ref cx), (1, .int (iI (p))), (2, .int (iI (pt)))] := hl
  refine lv_aload_n hx hb d_C_gap_0 rfl (lv_at hl 0 rfl) ?_
  refine lv_iload_n hx hb d_C_gap_1 rfl (lv_at hl 1 rfl) ?_
  refine th_call h0 hS htab hlocks (Nat.le_of_ble_eq_true rfl) (Nat.le_of_ble_eq_true rfl) (ex_runV (C := "LathePieces") (As := [.int (iI (p))]) (rest := []) ⟨hx, hb, hml, hown, hG⟩ (c_C_ringAt hC cx cf cp cn ce cg cu ct np nt ng nr ia ib ga p hp hng) (cb_code (n := 1) hG g_531 g_1 g_528 rfl rfl (by decide +kernel) ⟨Nat.le_of_ble_eq_true rfl, Nat.le_of_ble_eq_true rfl⟩) (hG _ g_530) (hG _ gs_C_ringAt) (kd_V ⟨fun _ _ _ _ q => q, fun U hU hW => ⟨rfl, la_next h0 (fun _ z => z) hS U hU hW, (by show va_P D classes _ U.heap; rw [hU]; exact (va_P.sub hP [0, 1] rfl))⟩⟩ (kd_recv hK hP (q0 := 0) (ci := 5) rfl rfl rfl)) rfl rfl hl.1 rfl (lv_room (Nat.le_of_ble_eq_true rfl)) d_C_gap_2 ⟨Nat.le_of_ble_eq_true rfl, Nat.le_of_ble_eq_true rfl⟩) (fun E hE t hla hz ho => ⟨⟨hE.1, fun q => hE.2 ⟨q.1, q.2.1⟩⟩, hla, hz, ho⟩) (fun v9 h9 locs hS => ?_)
  obtain ⟨q1, q2, rfl⟩ := h9
  show W _ _ _ _ _ _ _ _ _ _ _ _ _ _ _ (F0 m9 5 ls [.ref (ga p)])
  obtain ⟨i1, i2, i3, hct, hel, hsm, e1, e2, e3⟩ := rg_get hrg q1 q2
  refine lv_astore_n (lv' := [(3, .ref (ga p)), (0, .ref cx), (1, .int (iI (p))), (2, .int (iI (pt)))]) hx hb d_C_gap_5 rfl hl (by decide) rfl (fun ls hl => ?_)
  refine lv_iload_n hx hb d_C_gap_6 rfl (lv_at hl 3 rfl) ?_
  refine th_call h0 hS htab hlocks (Nat.le_of_ble_eq_true rfl) (Nat.le_of_ble_eq_true rfl) (ex_runS (As := [.int (iI (pt))]) (rest := []) ⟨hx, hb, hml, hown, hG⟩ (c_C_checkPart hC pt (by omega)) (cb_code (n := 1) hG g_548 g_1 g_546 rfl rfl (by decide +kernel) ⟨Nat.le_of_ble_eq_true rfl, Nat.le_of_ble_eq_true rfl⟩) (hG _ g_547) ⟨fun _ _ _ _ q => q, fun U hU hW => ⟨rfl, la_next h0 (fun _ z => z) hS U hU hW, trivial⟩⟩ rfl rfl hl.1 rfl (lv_room (Nat.le_of_ble_eq_true rfl)) d_C_gap_7 ⟨Nat.le_of_ble_eq_true rfl, Nat.le_of_ble_eq_true rfl⟩) (fun E hE t hla hz ho => ⟨⟨hE.1, fun q => hE.2 q.2.2⟩, hla, hz, ho⟩) (fun v9 h9 locs hS => ?_)
  obtain ⟨rfl, u1⟩ := h9
  show W _ _ _ _ _ _ _ _ _ _ _ _ _ _ _ (F0 m9 10 ls [])
  refine lv_aload_n hx hb d_C_gap_10 rfl (lv_at hl 0 rfl) ?_
  refine rd_call (ex_runV (C := "LathePieces$Ring") (As := []) (rest := []) ⟨hx, hb, hml, hown, hG⟩ (c_G_gapParts hC (ga p) (g1 p) (g2 p) (ct9 p) (smF (gA p) (gB p) (ct9 p).toNat)) (cb_code (n := 0) hG g_570 g_16 g_567 rfl rfl (by decide +kernel) ⟨Nat.le_of_ble_eq_true rfl, Nat.le_of_ble_eq_true rfl⟩) (hG _ g_568) (hG _ g_569) (kd_V ⟨fun _ _ _ _ q => q, fun U hU hW => ⟨rfl, la_next h0 (fun _ z => z) hS U hU hW, (by show va_P D classes _ U.heap; rw [hU]; exact (wl_Ps hP (a := i1 + 2) e1))⟩⟩ (kd_recv hK hP (q0 := (i1 + 2)) (ci := 4) rfl e1 rfl)) rfl rfl hl.1 rfl (lv_room (Nat.le_of_ble_eq_true rfl)) d_C_gap_11 ⟨Nat.le_of_ble_eq_true rfl, Nat.le_of_ble_eq_true rfl⟩) (fun v9 h9 => ?_)
  obtain rfl := h9
  show W _ _ _ _ _ _ _ _ _ _ _ _ _ _ _ (F0 m9 14 ls [.long (jJ (9979200 - smF (gA p) (gB p) (ct9 p).toNat))])
  refine lv_ldc2 (v := jJ 27720) hx hb hown (hG _ g_572) d_C_gap_14 ?_
  refine tp_l (congrArg jJ (show 27720 = ((27720 : Nat) : Int) from rfl)) ?_
  refine lv_iload_n hx hb d_C_gap_17 rfl (lv_at hl 3 rfl) ?_
  refine rd_call (ex_runS (As := [.long (jJ (9979200 - smF (gA p) (gB p) (ct9 p).toNat)), .long (jJ (((27720 : Nat) : Int))), .int (iI (pt))]) (rest := []) ⟨hx, hb, hml, hown, hG⟩ (c_C_fractionPart l (9979200 - smF (gA p) (gB p) (ct9 p).toNat) (27720 : Nat) pt (by omega) (by decide) (fr_ok (by omega) (by decide)) (by omega)) (cb_code (n := 3) hG g_553 g_1 g_551 rfl rfl (by decide +kernel) ⟨Nat.le_of_ble_eq_true rfl, Nat.le_of_ble_eq_true rfl⟩) (hG _ g_552) ⟨fun _ _ _ _ q => q, fun _ _ _ => rfl⟩ rfl rfl hl.1 rfl (lv_room (Nat.le_of_ble_eq_true rfl)) d_C_gap_18 ⟨Nat.le_of_ble_eq_true rfl, Nat.le_of_ble_eq_true rfl⟩) (fun v9 h9 => ?_)
  obtain rfl := h9
  show W _ _ _ _ _ _ _ _ _ _ _ _ _ _ _ (F0 m9 21 ls [.long (jJ (frP (9979200 - smF (gA p) (gB p) (ct9 p).toNat) ((27720 : Nat) : Int) pt))])
  exact re_l hx hb hr hlocks (fun t ht hW => ⟨⟨q1, q2, u1, rfl⟩, ht⟩) hS.2.2 (Nat.le_of_ble_eq_true rfl) (Nat.le_of_ble_eq_true rfl) d_C_gap_21

set_option maxHeartbeats 4000000 in
set_option maxRecDepth 100000 in
theorem c_C_closes {l : Launch} {s0 : State} {D : va_G} {k : Nat → ClassId} (hC : Cx l s0 D k) (cx cf cp cn ce cg cu ct : Nat) (np nt ng nr ia ib : Int) (ga g1 g2 : Int → Nat) (ct9 : Int → Int) (gA gB : Int → Int → Int) (tl : va_W) (hrg : RgOk k ng ga g1 g2 ct9 gA gB tl) (hng : 0 ≤ ng ∧ ng ≤ 6) (p : Int) (hp : In32 p) : ThM l s0 y_C_closes { frames := 7, cells := 1, slots := 6, locals := 112 } [.ref cx, .int (iI (p))] (fun H => va_P D classes ((cx, .inr (5, [.ref cf, .ref cp, .int (iI (np)), .ref cn, .int (iI (nt)), .ref ce, .ref cg, .int (iI (ng)), .ref cu, .ref ct, .int (iI (nr)), .int (iI (ia)), .int (iI (ib))])) :: (cg, .inl (k 5, aq 6 (gQ ng ga))) :: tl) H) (fun v => 0 ≤ p ∧ p < ng ∧ v = some (.int (iI (if 9979200 - smF (gA p) (gB p) (ct9 p).toNat = 0 then 1 else 0)))) (fun E => E = xIO ∧ ¬ (0 ≤ p ∧ p < ng)) 1 6 := by
  refine ex_ofW (cc := b_C_closes) (maxL := 2) (ret := (some .boolean)) (hh := []) (by decide +kernel) (Or.inl ⟨g_579, rfl⟩) ?_
  intro p9 e9 s m9 args9 below9 meth9 c9 s9 B9 hml htab hv
  obtain ⟨rfl, h0, hP⟩ := hv
  have hx := B9.exec
  have hb := B9.bytes
  have hr := B9.returns
  have hG := atoms_spec (ws := GW) B9.pre
  have hown : s.vm.findClass "LathePieces" = some m9.cls := findClass_of_methodNamed B9.named
  have hlocks := B9.notSynchronized
  have hK := cx_K hC h0
  have hS : va_S (aL s0) s.heap s.heap [] := va_S.rf
  have hl := lv_entry ([.ref cx, .int (iI (p))]) (n := 2) (Nat.le_of_ble_eq_true rfl)
  rw [lg_entry_eq]
  generalize (lg_sl ([.ref cx, .int (iI (p))]) ++ List.replicate (2 - (lg_sl ([.ref cx, .int (iI (p))])).length) Slot.unset).toArray = ls at hl ⊢
  replace hl : lv_has ls 2 [(0, .ref cx), (1, .int (iI (p)))] := hl
  refine lv_aload_n hx hb d_C_closes_0 rfl (lv_at hl 0 rfl) ?_
  refine lv_iload_n hx hb d_C_closes_1 rfl (lv_at hl 1 rfl) ?_
  refine th_call h0 hS htab hlocks (Nat.le_of_ble_eq_true rfl) (Nat.le_of_ble_eq_true rfl) (ex_runV (C := "LathePieces") (As := [.int (iI (p))]) (rest := []) ⟨hx, hb, hml, hown, hG⟩ (c_C_ringAt hC cx cf cp cn ce cg cu ct np nt ng nr ia ib ga p hp hng) (cb_code (n := 1) hG g_531 g_1 g_528 rfl rfl (by decide +kernel) ⟨Nat.le_of_ble_eq_true rfl, Nat.le_of_ble_eq_true rfl⟩) (hG _ g_530) (hG _ gs_C_ringAt) (kd_V ⟨fun _ _ _ _ q => q, fun U hU hW => ⟨rfl, la_next h0 (fun _ z => z) hS U hU hW, (by show va_P D classes _ U.heap; rw [hU]; exact (va_P.sub hP [0, 1] rfl))⟩⟩ (kd_recv hK hP (q0 := 0) (ci := 5) rfl rfl rfl)) rfl rfl hl.1 rfl (lv_room (Nat.le_of_ble_eq_true rfl)) d_C_closes_2 ⟨Nat.le_of_ble_eq_true rfl, Nat.le_of_ble_eq_true rfl⟩) (fun E hE t hla hz ho => ⟨hE, hla, hz, ho⟩) (fun v9 h9 locs hS => ?_)
  obtain ⟨q1, q2, rfl⟩ := h9
  show W _ _ _ _ _ _ _ _ _ _ _ _ _ _ _ (F0 m9 5 ls [.ref (ga p)])
  obtain ⟨i1, i2, i3, hct, hel, hsm, e1, e2, e3⟩ := rg_get hrg q1 q2
  refine rd_call (ex_runV (C := "LathePieces$Ring") (As := []) (rest := []) ⟨hx, hb, hml, hown, hG⟩ (c_G_gapParts hC (ga p) (g1 p) (g2 p) (ct9 p) (smF (gA p) (gB p) (ct9 p).toNat)) (cb_code (n := 0) hG g_570 g_16 g_567 rfl rfl (by decide +kernel) ⟨Nat.le_of_ble_eq_true rfl, Nat.le_of_ble_eq_true rfl⟩) (hG _ g_568) (hG _ g_569) (kd_V ⟨fun _ _ _ _ q => q, fun U hU hW => ⟨rfl, la_next h0 (fun _ z => z) hS U hU hW, (by show va_P D classes _ U.heap; rw [hU]; exact (wl_Ps hP (a := i1 + 2) e1))⟩⟩ (kd_recv hK hP (q0 := (i1 + 2)) (ci := 4) rfl e1 rfl)) rfl rfl hl.1 rfl (lv_room (Nat.le_of_ble_eq_true rfl)) d_C_closes_5 ⟨Nat.le_of_ble_eq_true rfl, Nat.le_of_ble_eq_true rfl⟩) (fun v9 h9 => ?_)
  obtain rfl := h9
  show W _ _ _ _ _ _ _ _ _ _ _ _ _ _ _ (F0 m9 8 ls [.long (jJ (9979200 - smF (gA p) (gB p) (ct9 p).toNat))])
  refine ri_lconst (z := 0) hx hb d_C_closes_8 rfl ?_
  refine ri_lc_ne (tgt := 17) hx hb d_C_closes_9 d_C_closes_10 (by decide) (by omega) (by omega) (fun c9 => ?_) (fun c9 => ?_)
  · refine ri_iconst hx hb d_C_closes_17 ?_
    exact re_z hx hb hr hlocks (Or.inl rfl) (fun t ht hW => ⟨⟨q1, q2, by rw [if_neg c9]⟩, ht⟩) hS.2.2 (Nat.le_of_ble_eq_true rfl) (Nat.le_of_ble_eq_true rfl) d_C_closes_18
  · refine ri_iconst hx hb d_C_closes_13 ?_
    refine lv_goto (tgt := 18) hx hb d_C_closes_14 (by decide) ?_
    exact re_z hx hb hr hlocks (Or.inr rfl) (fun t ht hW => ⟨⟨q1, q2, by rw [if_pos (by omega)]⟩, ht⟩) hS.2.2 (Nat.le_of_ble_eq_true rfl) (Nat.le_of_ble_eq_true rfl) d_C_closes_18

set_option maxHeartbeats 4000000 in
set_option maxRecDepth 100000 in
theorem c_C_flute {l : Launch} {s0 : State} {D : va_G} {k : Nat → ClassId} (hC : Cx l s0 D k) (cx : Nat) (n9 kk pt : Int) (hn9 : In32 n9) (hkk : In32 kk) (hpt : In32 pt) : ThM l s0 y_C_flute { frames := 7, cells := 3, slots := 18, locals := 112 } [.ref cx, .int (iI (n9)), .int (iI (kk)), .int (iI (pt))] (fun _ => True) (fun v => (pt = 0 ∨ pt = 1) ∧ (1 ≤ n9 ∧ n9 ≤ 1000) ∧ 0 ≤ kk ∧ kk < n9 ∧ v = some (.long (jJ (frP (kk * 360) n9 pt)))) (fun E => E = xIO ∧ ¬ (pt = 0 ∨ pt = 1) ∨ E = xIA ∧ (pt = 0 ∨ pt = 1) ∧ ¬ ((1 ≤ n9 ∧ n9 ≤ 1000) ∧ 0 ≤ kk ∧ kk < n9)) 3 18 := by
  refine ex_ofW (cc := b_C_flute) (maxL := 4) (ret := (some .long)) (hh := []) (by decide +kernel) (Or.inl ⟨g_586, rfl⟩) ?_
  intro p9 e9 s m9 args9 below9 meth9 c9 s9 B9 hml htab hv
  obtain ⟨rfl, h0, hP⟩ := hv
  have hx := B9.exec
  have hb := B9.bytes
  have hr := B9.returns
  have hG := atoms_spec (ws := GW) B9.pre
  have hown : s.vm.findClass "LathePieces" = some m9.cls := findClass_of_methodNamed B9.named
  have hlocks := B9.notSynchronized
  have hK := cx_K hC h0
  have hS : va_S (aL s0) s.heap s.heap [] := va_S.rf
  have hl := lv_entry ([.ref cx, .int (iI (n9)), .int (iI (kk)), .int (iI (pt))]) (n := 4) (Nat.le_of_ble_eq_true rfl)
  rw [lg_entry_eq]
  generalize (lg_sl ([.ref cx, .int (iI (n9)), .int (iI (kk)), .int (iI (pt))]) ++ List.replicate (4 - (lg_sl ([.ref cx, .int (iI (n9)), .int (iI (kk)), .int (iI (pt))])).length) Slot.unset).toArray = ls at hl ⊢
  replace hl : lv_has ls 4 [(0, .ref cx), (1, .int (iI (n9))), (2, .int (iI (kk))), (3, .int (iI (pt)))] := hl
  refine lv_iload_n hx hb d_C_flute_0 rfl (lv_at hl 3 rfl) ?_
  refine th_call h0 hS htab hlocks (Nat.le_of_ble_eq_true rfl) (Nat.le_of_ble_eq_true rfl) (ex_runS (As := [.int (iI (pt))]) (rest := []) ⟨hx, hb, hml, hown, hG⟩ (c_C_checkPart hC pt (by omega)) (cb_code (n := 1) hG g_548 g_1 g_546 rfl rfl (by decide +kernel) ⟨Nat.le_of_ble_eq_true rfl, Nat.le_of_ble_eq_true rfl⟩) (hG _ g_547) ⟨fun _ _ _ _ q => q, fun U hU hW => ⟨rfl, la_next h0 (fun _ z => z) hS U hU hW, trivial⟩⟩ rfl rfl hl.1 rfl (lv_room (Nat.le_of_ble_eq_true rfl)) d_C_flute_1 ⟨Nat.le_of_ble_eq_true rfl, Nat.le_of_ble_eq_true rfl⟩) (fun E hE t hla hz ho => ⟨Or.inl hE, hla, hz, ho⟩) (fun v9 h9 locs hS => ?_)
  obtain ⟨rfl, u0⟩ := h9
  show W _ _ _ _ _ _ _ _ _ _ _ _ _ _ _ (F0 m9 4 ls [])
  refine lv_iload_n hx hb d_C_flute_4 rfl (lv_at hl 1 rfl) ?_
  refine ri_iconst hx hb d_C_flute_5 ?_
  refine ri_sipush hx hb d_C_flute_6 (by decide) ?_
  refine th_call h0 hS htab hlocks (Nat.le_of_ble_eq_true rfl) (Nat.le_of_ble_eq_true rfl) (ex_runS (As := [.int (iI (n9)), .int (iI (1)), .int (iI (1000))]) (rest := []) ⟨hx, hb, hml, hown, hG⟩ (c_C_checkNumber hC (n9) (1) (1000) (by omega) (by omega) (by omega)) (cb_code (n := 3) hG g_112 g_1 g_110 rfl rfl (by decide +kernel) ⟨Nat.le_of_ble_eq_true rfl, Nat.le_of_ble_eq_true rfl⟩) (hG _ g_111) ⟨fun _ _ _ _ q => q, fun U hU hW => ⟨rfl, la_next h0 (fun _ z => z) hS U hU hW, trivial⟩⟩ rfl rfl hl.1 rfl (lv_room (Nat.le_of_ble_eq_true rfl)) d_C_flute_9 ⟨Nat.le_of_ble_eq_true rfl, Nat.le_of_ble_eq_true rfl⟩) (fun E hE t hla hz ho => ⟨Or.inr ⟨hE.1, u0, by omega⟩, hla, hz, ho⟩) (fun v9 h9 locs hS => ?_)
  obtain ⟨rfl, u1, u2⟩ := h9
  show W _ _ _ _ _ _ _ _ _ _ _ _ _ _ _ (F0 m9 12 ls [])
  refine lv_iload_n hx hb d_C_flute_12 rfl (lv_at hl 2 rfl) ?_
  refine ri_iconst hx hb d_C_flute_13 ?_
  refine lv_iload_n hx hb d_C_flute_14 rfl (lv_at hl 1 rfl) ?_
  refine ri_iconst hx hb d_C_flute_15 ?_
  refine ri_isub hx hb d_C_flute_16 ?_
  refine th_call h0 hS htab hlocks (Nat.le_of_ble_eq_true rfl) (Nat.le_of_ble_eq_true rfl) (ex_runS (As := [.int (iI (kk)), .int (iI (0)), .int (iI (n9 - 1))]) (rest := []) ⟨hx, hb, hml, hown, hG⟩ (c_C_checkNumber hC (kk) (0) (n9 - 1) (by omega) (by omega) (by omega)) (cb_code (n := 3) hG g_112 g_1 g_110 rfl rfl (by decide +kernel) ⟨Nat.le_of_ble_eq_true rfl, Nat.le_of_ble_eq_true rfl⟩) (hG _ g_111) ⟨fun _ _ _ _ q => q, fun U hU hW => ⟨rfl, la_next h0 (fun _ z => z) hS U hU hW, trivial⟩⟩ rfl rfl hl.1 rfl (lv_room (Nat.le_of_ble_eq_true rfl)) d_C_flute_17 ⟨Nat.le_of_ble_eq_true rfl, Nat.le_of_ble_eq_true rfl⟩) (fun E hE t hla hz ho => ⟨Or.inr ⟨hE.1, u0, by omega⟩, hla, hz, ho⟩) (fun v9 h9 locs hS => ?_)
  obtain ⟨rfl, z1, z2⟩ := h9
  show W _ _ _ _ _ _ _ _ _ _ _ _ _ _ _ (F0 m9 20 ls [])
  obtain ⟨b, hb5⟩ : ∃ b : Nat, (b : Int) = n9 := ⟨n9.toNat, Int.toNat_of_nonneg (by omega)⟩
  refine lv_iload_n hx hb d_C_flute_20 rfl (lv_at hl 2 rfl) ?_
  refine ri_i2l hx hb d_C_flute_21 (by omega) ?_
  refine lv_ldc2 (v := jJ 360) hx hb hown (hG _ g_587) d_C_flute_22 ?_
  refine ri_lmul hx hb d_C_flute_25 ?_
  refine lv_iload_n hx hb d_C_flute_26 rfl (lv_at hl 1 rfl) ?_
  refine ri_i2l hx hb d_C_flute_27 (by omega) ?_
  refine tp_l (congrArg jJ (show n9 = (b : Int) from hb5.symm)) ?_
  refine lv_iload_n hx hb d_C_flute_28 rfl (lv_at hl 3 rfl) ?_
  refine rd_call (ex_runS (As := [.long (jJ (kk * 360)), .long (jJ ((b : Int))), .int (iI (pt))]) (rest := []) ⟨hx, hb, hml, hown, hG⟩ (c_C_fractionPart l (kk * 360) b pt (by omega) (by omega) (fr_ok (by omega) (by omega)) (by omega)) (cb_code (n := 3) hG g_553 g_1 g_551 rfl rfl (by decide +kernel) ⟨Nat.le_of_ble_eq_true rfl, Nat.le_of_ble_eq_true rfl⟩) (hG _ g_552) ⟨fun _ _ _ _ q => q, fun _ _ _ => rfl⟩ rfl rfl hl.1 rfl (lv_room (Nat.le_of_ble_eq_true rfl)) d_C_flute_29 ⟨Nat.le_of_ble_eq_true rfl, Nat.le_of_ble_eq_true rfl⟩) (fun v9 h9 => ?_)
  obtain rfl := h9
  show W _ _ _ _ _ _ _ _ _ _ _ _ _ _ _ (F0 m9 32 ls [.long (jJ (frP (kk * 360) (b : Int) pt))])
  exact re_l hx hb hr hlocks (fun t ht hW => ⟨⟨u0, ⟨u1, u2⟩, z1, by omega, by rw [hb5]⟩, ht⟩) hS.2.2 (Nat.le_of_ble_eq_true rfl) (Nat.le_of_ble_eq_true rfl) d_C_flute_32

set_option maxHeartbeats 4000000 in
set_option maxRecDepth 100000 in
theorem c_C_threadAt {l : Launch} {s0 : State} {D : va_G} {k : Nat → ClassId} (hC : Cx l s0 D k) (cx cf cp cn ce cg cu ct : Nat) (np nt ng nr ia ib : Int) (hpi : ib = 0 ∨ (1 ≤ ia ∧ ia ≤ 1000) ∧ 1 ≤ ib ∧ ib ≤ 1000) (kk pt : Int) (hkk : In32 kk) (hpt : In32 pt) : ThM l s0 y_C_threadAt { frames := 7, cells := 3, slots := 18, locals := 112 } [.ref cx, .int (iI (kk)), .int (iI (pt))] (fun H => va_P D classes ([(cx, .inr (5, [.ref cf, .ref cp, .int (iI (np)), .ref cn, .int (iI (nt)), .ref ce, .ref cg, .int (iI (ng)), .ref cu, .ref ct, .int (iI (nr)), .int (iI (ia)), .int (iI (ib))]))]) H) (fun v => (pt = 0 ∨ pt = 1) ∧ (0 ≤ kk ∧ kk ≤ 100000) ∧ ¬ ib = 0 ∧ v = some (.long (jJ (frP (kk * ia) ib pt)))) (fun E => E = xIO ∧ ¬ (pt = 0 ∨ pt = 1) ∨ E = xIA ∧ (pt = 0 ∨ pt = 1) ∧ ¬ (0 ≤ kk ∧ kk ≤ 100000) ∨ E = xIS ∧ (pt = 0 ∨ pt = 1) ∧ (0 ≤ kk ∧ kk ≤ 100000) ∧ ib = 0) 3 18 := by
  refine ex_ofW (cc := b_C_threadAt) (maxL := 3) (ret := (some .long)) (hh := []) (by decide +kernel) (Or.inl ⟨g_601, rfl⟩) ?_
  intro p9 e9 s m9 args9 below9 meth9 c9 s9 B9 hml htab hv
  obtain ⟨rfl, h0, hP⟩ := hv
  have hx := B9.exec
  have hb := B9.bytes
  have hr := B9.returns
  have hG := atoms_spec (ws := GW) B9.pre
  have hown : s.vm.findClass "LathePieces" = some m9.cls := findClass_of_methodNamed B9.named
  have hlocks := B9.notSynchronized
  have hK := cx_K hC h0
  have hS : va_S (aL s0) s.heap s.heap [] := va_S.rf
  have hl := lv_entry ([.ref cx, .int (iI (kk)), .int (iI (pt))]) (n := 3) (Nat.le_of_ble_eq_true rfl)
  rw [lg_entry_eq]
  generalize (lg_sl ([.ref cx, .int (iI (kk)), .int (iI (pt))]) ++ List.replicate (3 - (lg_sl ([.ref cx, .int (iI (kk)), .int (iI (pt))])).length) Slot.unset).toArray = ls at hl ⊢
  replace hl : lv_has ls 3 [(0, .ref cx), (1, .int (iI (kk))), (2, .int (iI (pt)))] := hl
  refine lv_iload_n hx hb d_C_threadAt_0 rfl (lv_at hl 2 rfl) ?_
  refine th_call h0 hS htab hlocks (Nat.le_of_ble_eq_true rfl) (Nat.le_of_ble_eq_true rfl) (ex_runS (As := [.int (iI (pt))]) (rest := []) ⟨hx, hb, hml, hown, hG⟩ (c_C_checkPart hC pt (by omega)) (cb_code (n := 1) hG g_548 g_1 g_546 rfl rfl (by decide +kernel) ⟨Nat.le_of_ble_eq_true rfl, Nat.le_of_ble_eq_true rfl⟩) (hG _ g_547) ⟨fun _ _ _ _ q => q, fun U hU hW => ⟨rfl, la_next h0 (fun _ z => z) hS U hU hW, trivial⟩⟩ rfl rfl hl.1 rfl (lv_room (Nat.le_of_ble_eq_true rfl)) d_C_threadAt_1 ⟨Nat.le_of_ble_eq_true rfl, Nat.le_of_ble_eq_true rfl⟩) (fun E hE t hla hz ho => ⟨Or.inl hE, hla, hz, ho⟩) (fun v9 h9 locs hS => ?_)
  obtain ⟨rfl, u0⟩ := h9
  show W _ _ _ _ _ _ _ _ _ _ _ _ _ _ _ (F0 m9 4 ls [])
  refine lv_iload_n hx hb d_C_threadAt_4 rfl (lv_at hl 1 rfl) ?_
  refine ri_iconst hx hb d_C_threadAt_5 ?_
  refine lv_ldc (v := iI 100000) hx hb hown (hG _ g_602) d_C_threadAt_6 ?_
  refine th_call h0 hS htab hlocks (Nat.le_of_ble_eq_true rfl) (Nat.le_of_ble_eq_true rfl) (ex_runS (As := [.int (iI (kk)), .int (iI (0)), .int (iI (100000))]) (rest := []) ⟨hx, hb, hml, hown, hG⟩ (c_C_checkNumber hC (kk) (0) (100000) (by omega) (by omega) (by omega)) (cb_code (n := 3) hG g_112 g_1 g_110 rfl rfl (by decide +kernel) ⟨Nat.le_of_ble_eq_true rfl, Nat.le_of_ble_eq_true rfl⟩) (hG _ g_111) ⟨fun _ _ _ _ q => q, fun U hU hW => ⟨rfl, la_next h0 (fun _ z => z) hS U hU hW, trivial⟩⟩ rfl rfl hl.1 rfl (lv_room (Nat.le_of_ble_eq_true rfl)) d_C_threadAt_8 ⟨Nat.le_of_ble_eq_true rfl, Nat.le_of_ble_eq_true rfl⟩) (fun E hE t hla hz ho => ⟨Or.inr (Or.inl ⟨hE.1, u0, by omega⟩), hla, hz, ho⟩) (fun v9 h9 locs hS => ?_)
  obtain ⟨rfl, u1, u2⟩ := h9
  show W _ _ _ _ _ _ _ _ _ _ _ _ _ _ _ (F0 m9 11 ls [])
  refine lv_aload_n hx hb d_C_threadAt_11 rfl (lv_at hl 0 rfl) ?_
  refine va_get (D := D) (ci := 5) (v := .int (iI (ib))) (C := R_C) (T := F_C) (N := 13) hx hb hG in_C hown hK hP 0 rfl rfl 12 (by decide) (hG _ g_74) (fun _ h9 => h9) rfl d_C_threadAt_12 ?_
  refine ri_if_ne (tgt := 28) hx hb d_C_threadAt_15 (by decide) (by omega) (fun c15 => ?_) (fun c15 => ?_)
  · obtain ⟨b, hb5⟩ : ∃ b : Nat, (b : Int) = ib := ⟨ib.toNat, Int.toNat_of_nonneg (by omega)⟩
    have h7 : 0 ≤ kk * ia ∧ kk * ia ≤ 100000 * 1000 := ⟨Int.mul_nonneg u1 (by omega), Int.mul_le_mul u2 (by omega) (by omega) (by decide)⟩
    refine lv_iload_n hx hb d_C_threadAt_28 rfl (lv_at hl 1 rfl) ?_
    refine ri_i2l hx hb d_C_threadAt_29 (by omega) ?_
    refine lv_aload_n hx hb d_C_threadAt_30 rfl (lv_at hl 0 rfl) ?_
    refine va_get (D := D) (ci := 5) (v := .int (iI (ia))) (C := R_C) (T := F_C) (N := 13) hx hb hG in_C hown hK hP 0 rfl rfl 11 (by decide) (hG _ g_73) (fun _ h9 => h9) rfl d_C_threadAt_31 ?_
    refine ri_i2l hx hb d_C_threadAt_34 (by omega) ?_
    refine ri_lmul hx hb d_C_threadAt_35 ?_
    refine lv_aload_n hx hb d_C_threadAt_36 rfl (lv_at hl 0 rfl) ?_
    refine va_get (D := D) (ci := 5) (v := .int (iI (ib))) (C := R_C) (T := F_C) (N := 13) hx hb hG in_C hown hK hP 0 rfl rfl 12 (by decide) (hG _ g_74) (fun _ h9 => h9) rfl d_C_threadAt_37 ?_
    refine ri_i2l hx hb d_C_threadAt_40 (by omega) ?_
    refine tp_l (congrArg jJ (show ib = (b : Int) from hb5.symm)) ?_
    refine lv_iload_n hx hb d_C_threadAt_41 rfl (lv_at hl 2 rfl) ?_
    refine rd_call (ex_runS (As := [.long (jJ (kk * ia)), .long (jJ ((b : Int))), .int (iI (pt))]) (rest := []) ⟨hx, hb, hml, hown, hG⟩ (c_C_fractionPart l (kk * ia) b pt (by omega) (by omega) (fr_ok (by omega) (by omega)) (by omega)) (cb_code (n := 3) hG g_553 g_1 g_551 rfl rfl (by decide +kernel) ⟨Nat.le_of_ble_eq_true rfl, Nat.le_of_ble_eq_true rfl⟩) (hG _ g_552) ⟨fun _ _ _ _ q => q, fun _ _ _ => rfl⟩ rfl rfl hl.1 rfl (lv_room (Nat.le_of_ble_eq_true rfl)) d_C_threadAt_42 ⟨Nat.le_of_ble_eq_true rfl, Nat.le_of_ble_eq_true rfl⟩) (fun v9 h9 => ?_)
    obtain rfl := h9
    show W _ _ _ _ _ _ _ _ _ _ _ _ _ _ _ (F0 m9 45 ls [.long (jJ (frP (kk * ia) (b : Int) pt))])
    exact re_l hx hb hr hlocks (fun t ht hW => ⟨⟨u0, ⟨u1, u2⟩, c15, by rw [hb5]⟩, ht⟩) hS.2.2 (Nat.le_of_ble_eq_true rfl) (Nat.le_of_ble_eq_true rfl) d_C_threadAt_45
  · exact tk_throw (kl := 2) hC h0 hx hb hown xA_IS (by decide +kernel) g_202 g_200 g_8 g_603 hS (hl.1.trans hml.symm) d_C_threadAt_18 d_C_threadAt_21 (Or.inl ⟨rfl, d_C_threadAt_22⟩) d_C_threadAt_24 d_C_threadAt_27 htab hlocks (Nat.le_of_ble_eq_true rfl) (Nat.le_of_ble_eq_true rfl) (Nat.le_of_ble_eq_true rfl) (Nat.le_of_ble_eq_true rfl) (fun t hla hz ho => ⟨Or.inr (Or.inr ⟨rfl, u0, ⟨u1, u2⟩, by omega⟩), hla, hz, ho⟩) (Nat.le_of_ble_eq_true rfl) (Nat.le_of_ble_eq_true rfl)

/-- the row that is taken: the first whose radius reaches r, else the last -/
def spF (ru : Int → Int) (r : Int) : Nat → Int
  | 0 => 0
  | n + 1 => if spF ru r n = n ∧ ¬ r ≤ ru n then n + 1 else spF ru r n
theorem spF_rg (ru : Int → Int) (r : Int) (n : Nat) : 0 ≤ spF ru r n ∧ spF ru r n ≤ n := by
  induction n with
  | zero => exact ⟨Int.le_refl _, Int.le_refl _⟩
  | succ n ih => rw [spF]; split <;> omega
theorem spF_on {ru : Int → Int} {r : Int} {n : Nat} (h : spF ru r n = n) (h2 : ¬ r ≤ ru n) : spF ru r (n + 1) = ((n + 1 : Nat) : Int) := by
  rw [spF, if_pos ⟨h, h2⟩]
  omega
theorem spF_end {ru : Int → Int} {r : Int} {n : Nat} (h : spF ru r n = n) (h2 : r ≤ ru n) (m : Nat) : spF ru r (n + m) = n := by
  induction m with
  | zero => exact h
  | succ m ih =>
    rw [show n + (m + 1) = (n + m) + 1 by omega, spF, ih, if_neg ?_]
    rintro ⟨q1, q2⟩
    have : m = 0 := by omega
    subst this
    exact q2 h2
set_option maxHeartbeats 4000000 in
set_option maxRecDepth 100000 in
theorem c_C_speed {l : Launch} {s0 : State} {D : va_G} {k : Nat → ClassId} (hC : Cx l s0 D k) (cx cf cp cn ce cg cu ct : Nat) (np nt ng nr ia ib : Int) (pa pq : Int → Nat) (ln bl wm : Int → Int) (pf : Int → Int → Int) (rs tl : va_W) (hpc : PcOk k np pa pq ln bl wm pf rs) (hrs : ∀ q ∈ rs, q ∈ tl) (hnp : 0 ≤ np ∧ np ≤ 6) (ru rt : Int → Int) (hnr : 0 ≤ nr ∧ nr ≤ 8) (hrr9 : ∀ j : Int, 0 ≤ j → j < nr → 1 ≤ ru j ∧ ru j ≤ 500) (p x : Int) (hp : In32 p) (hx9 : In32 x) : ThM l s0 y_C_speed { frames := 8, cells := 3, slots := 18, locals := 135 } [.ref cx, .int (iI (p)), .int (iI (x))] (fun H => va_P D classes ((cx, .inr (5, [.ref cf, .ref cp, .int (iI (np)), .ref cn, .int (iI (nt)), .ref ce, .ref cg, .int (iI (ng)), .ref cu, .ref ct, .int (iI (nr)), .int (iI (ia)), .int (iI (ib))])) :: (cp, .inl (k 2, aq 6 (gQ np pa))) :: (cu, .inl (k 0, ai 8 ru)) :: (ct, .inl (k 0, ai 8 rt)) :: tl) H) (fun v => 0 ≤ p ∧ p < np ∧ 0 ≤ x ∧ x ≤ ln p ∧ ¬ nr = 0 ∧ v = some (.int (iI (rt (min (spF ru (pf p x) nr.toNat) (nr - 1)))))) (fun E => E = xIO ∧ ¬ (0 ≤ p ∧ p < np ∧ 0 ≤ x ∧ x ≤ ln p) ∨ E = xIS ∧ (0 ≤ p ∧ p < np ∧ 0 ≤ x ∧ x ≤ ln p) ∧ nr = 0) 3 18 := by
  refine ex_ofW (cc := b_C_speed) (maxL := 5) (ret := (some .int)) (hh := []) (by decide +kernel) (Or.inl ⟨g_619, rfl⟩) ?_
  intro p9 e9 s m9 args9 below9 meth9 c9 s9 B9 hml htab hv
  obtain ⟨rfl, h0, hP⟩ := hv
  have hx := B9.exec
  have hb := B9.bytes
  have hr := B9.returns
  have hG := atoms_spec (ws := GW) B9.pre
  have hown : s.vm.findClass "LathePieces" = some m9.cls := findClass_of_methodNamed B9.named
  have hlocks := B9.notSynchronized
  have hK := cx_K hC h0
  have hS : va_S (aL s0) s.heap s.heap [] := va_S.rf
  have hl := lv_entry ([.ref cx, .int (iI (p)), .int (iI (x))]) (n := 5) (Nat.le_of_ble_eq_true rfl)
  rw [lg_entry_eq]
  generalize (lg_sl ([.ref cx, .int (iI (p)), .int (iI (x))]) ++ List.replicate (5 - (lg_sl ([.ref cx, .int (iI (p)), .int (iI (x))])).length) Slot.unset).toArray = ls at hl ⊢
  replace hl : lv_has ls 5 [(0, .ref cx), (1, .int (iI (p))), (2, .int (iI (x)))] := hl
  refine lv_aload_n hx hb d_C_speed_0 rfl (lv_at hl 0 rfl) ?_
  refine lv_iload_n hx hb d_C_speed_1 rfl (lv_at hl 1 rfl) ?_
  refine lv_iload_n hx hb d_C_speed_2 rfl (lv_at hl 2 rfl) ?_
  refine th_call h0 hS htab hlocks (Nat.le_of_ble_eq_true rfl) (Nat.le_of_ble_eq_true rfl) (ex_runV (C := "LathePieces") (As := [.int (iI (p)), .int (iI (x))]) (rest := []) ⟨hx, hb, hml, hown, hG⟩ (c_C_radiusAt hC cx cf cp cn ce cg cu ct np nt ng nr ia ib pa pq ln bl wm pf rs tl hpc hrs hnp p x hp hx9) (cb_code (n := 2) hG g_311 g_1 g_308 rfl rfl (by decide +kernel) ⟨Nat.le_of_ble_eq_true rfl, Nat.le_of_ble_eq_true rfl⟩) (hG _ g_310) (hG _ gs_C_radiusAt) (kd_V ⟨fun _ _ _ _ q => q, fun U hU hW => ⟨rfl, la_next h0 (fun _ z => z) hS U hU hW, (by show va_P D classes _ U.heap; rw [hU]; exact (wl_Pm hP (fun q hq => by simp only [List.mem_cons] at hq ⊢; rcases hq with h | h | h <;> simp [h])))⟩⟩ (kd_recv hK hP (q0 := 0) (ci := 5) rfl rfl rfl)) rfl rfl hl.1 rfl (lv_room (Nat.le_of_ble_eq_true rfl)) d_C_speed_3 ⟨Nat.le_of_ble_eq_true rfl, Nat.le_of_ble_eq_true rfl⟩) (fun E hE t hla hz ho => ⟨Or.inl hE, hla, hz, ho⟩) (fun v9 h9 locs hS => ?_)
  obtain ⟨q1, q2, q3, q4, rfl⟩ := h9
  show W _ _ _ _ _ _ _ _ _ _ _ _ _ _ _ (F0 m9 6 ls [.int (iI (pf p x))])
  have h7 := (hpc p q1 q2).2.2.1 x q3 q4
  refine lv_istore_n (lv' := [(3, .int (iI (pf p x))), (0, .ref cx), (1, .int (iI (p))), (2, .int (iI (x)))]) hx hb d_C_speed_6 rfl hl (by decide) rfl (fun ls hl => ?_)
  refine lv_aload_n hx hb d_C_speed_7 rfl (lv_at hl 1 rfl) ?_
  refine va_get (D := D) (ci := 5) (v := .int (iI (nr))) (C := R_C) (T := F_C) (N := 13) hx hb hG in_C hown hK hP 0 rfl rfl 10 (by decide) (hG _ g_72) (fun _ h9 => h9) rfl d_C_speed_8 ?_
  refine ri_if_ne (tgt := 24) hx hb d_C_speed_11 (by decide) (by omega) (fun c11 => ?_) (fun c11 => ?_)
  · refine ri_iconst hx hb d_C_speed_24 ?_
    refine lv_istore (lv' := [(4, .int (iI (0))), (3, .int (iI (pf p x))), (0, .ref cx), (1, .int (iI (p))), (2, .int (iI (x)))]) hx hb d_C_speed_25 hl (by decide) rfl (fun ls hl => ?_)
    replace hl : lv_has ls 5 [(4, .int (iI (0 + ((0 : Nat) : Int)))), (3, .int (iI (pf p x))), (0, .ref cx), (1, .int (iI (p))), (2, .int (iI (x)))] := hl
    obtain ⟨κ, ν, hinv, hl1⟩ : ∃ (κ : Nat) (ν : Nat), ((ν : Int) + κ = nr ∧ spF ru (pf p x) ν = ν) ∧ lv_has ls 5 [(0, .ref cx), (3, .int (iI (pf p x))), (4, .int (iI (0 + (ν : Int))))] := ⟨nr.toNat, 0, ⟨by omega, rfl⟩, lv_sub hl [2, 1, 0] rfl⟩
    clear hl
    have hl := hl1
    clear hl1
    induction κ generalizing ν ls with
    | zero =>
      obtain ⟨h1, h2⟩ := hinv
      refine lv_iload hx hb d_C_speed_27 (lv_at hl 2 rfl) ?_
      refine lv_aload_n hx hb d_C_speed_29 rfl (lv_at hl 0 rfl) ?_
      refine va_get (D := D) (ci := 5) (v := .int (iI (nr))) (C := R_C) (T := F_C) (N := 13) hx hb hG in_C hown hK hP 0 rfl rfl 10 (by decide) (hG _ g_72) (fun _ h9 => h9) rfl d_C_speed_30 ?_
      refine ri_icmp_ge (tgt := 61) hx hb d_C_speed_33 (by decide) (by omega) (by omega) (fun c33 => ?_) (fun c33 => ?_)
      · refine lv_aload_n hx hb d_C_speed_61 rfl (lv_at hl 0 rfl) ?_
        refine va_get (D := D) (ci := 5) (v := .ref ct) (C := R_C) (T := F_C) (N := 13) hx hb hG in_C hown hK hP 0 rfl rfl 9 (by decide) (hG _ g_71) (fun _ h9 => h9) rfl d_C_speed_62 ?_
        refine lv_aload_n hx hb d_C_speed_65 rfl (lv_at hl 0 rfl) ?_
        refine va_get (D := D) (ci := 5) (v := .int (iI (nr))) (C := R_C) (T := F_C) (N := 13) hx hb hG in_C hown hK hP 0 rfl rfl 10 (by decide) (hG _ g_72) (fun _ h9 => h9) rfl d_C_speed_66 ?_
        refine ri_iconst hx hb d_C_speed_69 ?_
        refine ri_isub hx hb d_C_speed_70 ?_
        refine ra_iald hx hb hK hP 3 rfl (by omega) (by omega) d_C_speed_71 ?_
        exact re_i hx hb hr hlocks (fun t ht hW => ⟨⟨q1, q2, q3, q4, c11, congrArg (fun z => some (Value.int (iI (rt z)))) (show nr - 1 = min (spF ru (pf p x) nr.toNat) (nr - 1) from by rw [show nr.toNat = ν by omega, h2]; omega)⟩, ht⟩) hS.2.2 (Nat.le_of_ble_eq_true rfl) (Nat.le_of_ble_eq_true rfl) d_C_speed_72
      · exact absurd c33 (by omega)
    | succ κ ih =>
      obtain ⟨h1, h2⟩ := hinv
      refine lv_iload hx hb d_C_speed_27 (lv_at hl 2 rfl) ?_
      refine lv_aload_n hx hb d_C_speed_29 rfl (lv_at hl 0 rfl) ?_
      refine va_get (D := D) (ci := 5) (v := .int (iI (nr))) (C := R_C) (T := F_C) (N := 13) hx hb hG in_C hown hK hP 0 rfl rfl 10 (by decide) (hG _ g_72) (fun _ h9 => h9) rfl d_C_speed_30 ?_
      refine ri_icmp_ge (tgt := 61) hx hb d_C_speed_33 (by decide) (by omega) (by omega) (fun c33 => ?_) (fun c33 => ?_)
      · exact absurd c33 (by omega)
      · have h8 := hrr9 (0 + ν) (by omega) (by omega)
        refine lv_aload_n hx hb d_C_speed_36 rfl (lv_at hl 0 rfl) ?_
        refine va_get (D := D) (ci := 5) (v := .ref cu) (C := R_C) (T := F_C) (N := 13) hx hb hG in_C hown hK hP 0 rfl rfl 8 (by decide) (hG _ g_70) (fun _ h9 => h9) rfl d_C_speed_37 ?_
        refine lv_iload hx hb d_C_speed_40 (lv_at hl 2 rfl) ?_
        refine ra_iald hx hb hK hP 2 rfl (by omega) (by omega) d_C_speed_42 ?_
        refine lv_iload_n hx hb d_C_speed_43 rfl (lv_at hl 1 rfl) ?_
        refine ri_icmp_lt (tgt := 55) hx hb d_C_speed_44 (by decide) (by omega) (by omega) (fun c44 => ?_) (fun c44 => ?_)
        · rw [show (0 : Int) + ν = ν by omega] at c44
          refine lv_iinc (v := iI (0 + ((ν + 1 : Nat) : Int))) (lv' := [(4, .int (iI (0 + ((ν + 1 : Nat) : Int)))), (0, .ref cx), (3, .int (iI (pf p x)))]) hx hb d_C_speed_55 hl (k := 2) rfl ((ii_add _ _).trans (congrArg iI (by omega))) (by decide) rfl (fun ls hl => ?_)
          refine lv_goto (tgt := 27) hx hb d_C_speed_58 (by decide) ?_
          exact ih ls (ν + 1) ⟨by omega, spF_on h2 (by omega)⟩ (lv_sub hl [1, 2, 0] rfl)
        · rw [show (0 : Int) + ν = ν by omega] at c44
          refine lv_aload_n hx hb d_C_speed_47 rfl (lv_at hl 0 rfl) ?_
          refine va_get (D := D) (ci := 5) (v := .ref ct) (C := R_C) (T := F_C) (N := 13) hx hb hG in_C hown hK hP 0 rfl rfl 9 (by decide) (hG _ g_71) (fun _ h9 => h9) rfl d_C_speed_48 ?_
          refine lv_iload hx hb d_C_speed_51 (lv_at hl 2 rfl) ?_
          refine ra_iald hx hb hK hP 3 rfl (by omega) (by omega) d_C_speed_53 ?_
          exact re_i hx hb hr hlocks (fun t ht hW => ⟨⟨q1, q2, q3, q4, c11, congrArg (fun z => some (Value.int (iI (rt z)))) (show 0 + (ν : Int) = min (spF ru (pf p x) nr.toNat) (nr - 1) from by rw [show nr.toNat = ν + (κ + 1) by omega, spF_end h2 (by omega)]; omega)⟩, ht⟩) hS.2.2 (Nat.le_of_ble_eq_true rfl) (Nat.le_of_ble_eq_true rfl) d_C_speed_54
  · exact tk_throw (kl := 2) hC h0 hx hb hown xA_IS (by decide +kernel) g_202 g_200 g_8 g_620 hS (hl.1.trans hml.symm) d_C_speed_14 d_C_speed_17 (Or.inl ⟨rfl, d_C_speed_18⟩) d_C_speed_20 d_C_speed_23 htab hlocks (Nat.le_of_ble_eq_true rfl) (Nat.le_of_ble_eq_true rfl) (Nat.le_of_ble_eq_true rfl) (Nat.le_of_ble_eq_true rfl) (fun t hla hz ho => ⟨Or.inr ⟨rfl, ⟨q1, q2, q3, q4⟩, by omega⟩, hla, hz, ho⟩) (Nat.le_of_ble_eq_true rfl) (Nat.le_of_ble_eq_true rfl)

