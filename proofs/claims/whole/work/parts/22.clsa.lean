/-! The class's object and what belongs to it. -/
theorem cx_AO {l : Launch} {s0 U : State} {D : va_G} {k : Nat → ClassId} (hC : Cx l s0 D k) (h : La s0 U) {C : String} (hm : Cond.arrayOver (.object C) ∈ lw_tbl) : va_AO C U := by
  obtain ⟨-, ⟨a0, h1, -⟩, -⟩ := hC
  exact va_AO.moved h.1.alike (va_AO.of (h1 _ hm))
/-- an array of objects, the first n of them there -/
def gQ (n : Int) (a : Int → Nat) : Int → Option Nat := fun j => if 0 ≤ j ∧ j < n then some (a j) else none
theorem gQ_in {n j : Int} {a : Int → Nat} (h : 0 ≤ j ∧ j < n) : gQ n a j = some (a j) := if_pos h
theorem gQ_out {n j : Int} {a : Int → Nat} (h : ¬ (0 ≤ j ∧ j < n)) : gQ n a j = none := if_neg h
theorem gQ_put {n : Int} (hn : 0 ≤ n) (a : Int → Nat) (q : Nat) : zU (gQ n a) n (some q) = gQ (n + 1) (zU a n q) := by
  funext j
  show (if j = n then some q else (if 0 ≤ j ∧ j < n then some (a j) else none)) = (if 0 ≤ j ∧ j < n + 1 then some (if j = n then q else a j) else none)
  by_cases h : j = n
  · rw [if_pos h, if_pos (by omega), if_pos h]
  · rw [if_neg h, if_neg h]
    by_cases h2 : 0 ≤ j ∧ j < n
    · rw [if_pos h2, if_pos (by omega)]
    · rw [if_neg h2, if_neg (by omega)]
theorem gQ_0 (a : Int → Nat) : gQ 0 a = fun _ => none := by
  funext j
  exact if_neg (by omega)
/-- a TOOL's heights -/
noncomputable def htF (n : Nat) : Int → Int := seqF (fun _ => 0) (fun d => isq ((n : Int) * n - d * d)) 0 (n + 1)
theorem htF_in {n : Nat} {d : Int} (h : 0 ≤ d ∧ d ≤ n) : htF n d = isq ((n : Int) * n - d * d) := seqF_in (by omega)
theorem htF_rg {n : Nat} (hn : n ≤ 12) (d : Int) (h0 : 0 ≤ d) (h1 : d ≤ n) : 0 ≤ htF n d ∧ htF n d ≤ 12 := by
  rw [htF_in ⟨h0, h1⟩]
  have q1 : d * d ≤ (n : Int) * n := sq_mono h0 h1
  have q2 : 0 ≤ d * d := Int.mul_nonneg h0 h0
  have q3 : (n : Int) * n ≤ 12 * 12 := sq_mono (by omega) (by omega)
  exact ⟨(isq_spec (by omega)).1, isq_le (by omega) (by omega) (by omega)⟩
/-- the PIECEs -/
def PcOk (k : Nat → ClassId) (np : Int) (pa pq : Int → Nat) (ln bl wm : Int → Int) (pf : Int → Int → Int) (rs : va_W) : Prop :=
  ∀ i : Int, 0 ≤ i → i < np → 0 ≤ ln i ∧ ln i ≤ 64 ∧ (∀ j : Int, 0 ≤ j → j ≤ ln i → 0 ≤ pf i j ∧ pf i j ≤ 500) ∧ bl i = itF max (pf i) 0 0 ((ln i).toNat + 1) + 3 ∧
    (pa i, .inr (1, [.ref (pq i), .int (iI (ln i)), .int (iI (bl i)), .int (iI (wm i))])) ∈ rs ∧ (pq i, .inl (k 0, ai ((ln i).toNat + 1) (pf i))) ∈ rs
theorem pc_get {k : Nat → ClassId} {np : Int} {pa pq : Int → Nat} {ln bl wm : Int → Int} {pf : Int → Int → Int} {rs tl : va_W} (h : PcOk k np pa pq ln bl wm pf rs) (hrs : ∀ q ∈ rs, q ∈ tl) {i : Int} (h0 : 0 ≤ i) (h1 : i < np) :
    ∃ (i1 i2 L : Nat), (L : Int) = ln i ∧ L ≤ 64 ∧ (∀ j : Int, 0 ≤ j → j ≤ L → 0 ≤ pf i j ∧ pf i j ≤ 500) ∧ bl i = itF max (pf i) 0 0 (L + 1) + 3 ∧ (3 ≤ bl i ∧ bl i ≤ 503) ∧ tl[i1]? = some (pa i, .inr (1, [.ref (pq i), .int (iI ((L : Int))), .int (iI (bl i)), .int (iI (wm i))])) ∧ tl[i2]? = some (pq i, .inl (k 0, ai (L + 1) (pf i))) := by
  obtain ⟨q1, q2, q3, q4, q5, q6⟩ := h i h0 h1
  obtain ⟨i1, e1⟩ := List.getElem?_of_mem (hrs _ q5)
  obtain ⟨i2, e2⟩ := List.getElem?_of_mem (hrs _ q6)
  have q7 : (((ln i).toNat : Nat) : Int) = ln i := Int.toNat_of_nonneg q1
  have q8 : 0 ≤ itF max (pf i) 0 0 ((ln i).toNat + 1) ∧ itF max (pf i) 0 0 ((ln i).toNat + 1) ≤ 500 := itF_max _ (by omega) (fun j g1 g2 => (q3 j (by omega) (by omega)).2)
  exact ⟨i1, i2, (ln i).toNat, q7, by omega, fun j g1 g2 => q3 j g1 (by omega), q4, by omega, by rw [q7]; exact e1, e2⟩
/-- the TOOLs -/
def NoOk (k : Nat → ClassId) (nt : Int) (na nq : Int → Nat) (no : Int → Int) (rs : va_W) : Prop :=
  ∀ i : Int, 0 ≤ i → i < nt → 0 ≤ no i ∧ no i ≤ 12 ∧ (na i, .inr (0, [.ref (nq i)])) ∈ rs ∧ (nq i, .inl (k 0, ai ((no i).toNat + 1) (htF (no i).toNat))) ∈ rs
theorem no_get {k : Nat → ClassId} {nt : Int} {na nq : Int → Nat} {no : Int → Int} {rs tl : va_W} (h : NoOk k nt na nq no rs) (hrs : ∀ q ∈ rs, q ∈ tl) {i : Int} (h0 : 0 ≤ i) (h1 : i < nt) :
    ∃ (i1 i2 N : Nat), (N : Int) = no i ∧ N ≤ 12 ∧ tl[i1]? = some (na i, .inr (0, [.ref (nq i)])) ∧ tl[i2]? = some (nq i, .inl (k 0, ai (N + 1) (htF N))) := by
  obtain ⟨q1, q2, q5, q6⟩ := h i h0 h1
  obtain ⟨i1, e1⟩ := List.getElem?_of_mem (hrs _ q5)
  obtain ⟨i2, e2⟩ := List.getElem?_of_mem (hrs _ q6)
  exact ⟨i1, i2, (no i).toNat, Int.toNat_of_nonneg q1, by omega, e1, e2⟩
/-- the REACHes that were worked out -/
def RqOk (k : Nat → ClassId) (np nt : Int) (rq : Int → Option Nat) (ln no : Int → Int) (pf : Int → Int → Int) (rs : va_W) : Prop :=
  ∀ p t : Int, 0 ≤ p → p < 6 → 0 ≤ t → t < 6 → rq (p * 6 + t) = none ∨ (p < np ∧ t < nt ∧ ∃ a b : Nat, rq (p * 6 + t) = some a ∧ (a, .inr (3, [.ref b])) ∈ rs ∧ (b, .inl (k 0, ai ((ln p).toNat + 1) (loA (pf p) (htF (no t).toNat) (no t).toNat (ln p).toNat))) ∈ rs)
theorem PcOk.mono {k : Nat → ClassId} {np : Int} {pa pq : Int → Nat} {ln bl wm : Int → Int} {pf : Int → Int → Int} {rs rs' : va_W} (h : PcOk k np pa pq ln bl wm pf rs) (hs : ∀ q ∈ rs, q ∈ rs') : PcOk k np pa pq ln bl wm pf rs' :=
  fun i h0 h1 => by obtain ⟨q1, q2, q3, q4, q5, q6⟩ := h i h0 h1; exact ⟨q1, q2, q3, q4, hs _ q5, hs _ q6⟩
theorem NoOk.mono {k : Nat → ClassId} {nt : Int} {na nq : Int → Nat} {no : Int → Int} {rs rs' : va_W} (h : NoOk k nt na nq no rs) (hs : ∀ q ∈ rs, q ∈ rs') : NoOk k nt na nq no rs' :=
  fun i h0 h1 => by obtain ⟨q1, q2, q3, q4⟩ := h i h0 h1; exact ⟨q1, q2, hs _ q3, hs _ q4⟩
theorem RqOk.mono {k : Nat → ClassId} {np nt : Int} {rq : Int → Option Nat} {ln no : Int → Int} {pf : Int → Int → Int} {rs rs' : va_W} (h : RqOk k np nt rq ln no pf rs) (hs : ∀ q ∈ rs, q ∈ rs') : RqOk k np nt rq ln no pf rs' := by
  intro p t h0 h1 h2 h3
  rcases h p t h0 h1 h2 h3 with q | ⟨q1, q2, a, b, q3, q4, q5⟩
  · exact Or.inl q
  · exact Or.inr ⟨q1, q2, a, b, q3, hs _ q4, hs _ q5⟩
set_option maxHeartbeats 4000000 in
set_option maxRecDepth 100000 in
theorem c_C_pieceAt {l : Launch} {s0 : State} {D : va_G} {k : Nat → ClassId} (hC : Cx l s0 D k) (cx cf cp cn ce cg cu ct : Nat) (np nt ng nr ia ib : Int) (pa : Int → Nat) (p : Int) (hp : In32 p) (hn : 0 ≤ np ∧ np ≤ 6) : ThM l s0 y_C_pieceAt { frames := 6, cells := 1, slots := 6, locals := 90 } [.ref cx, .int (iI (p))] (fun H => va_P D classes ([(cx, .inr (5, [.ref cf, .ref cp, .int (iI (np)), .ref cn, .int (iI (nt)), .ref ce, .ref cg, .int (iI (ng)), .ref cu, .ref ct, .int (iI (nr)), .int (iI (ia)), .int (iI (ib))])), (cp, .inl (k 2, aq 6 (gQ np pa)))]) H) (fun v => 0 ≤ p ∧ p < np ∧ v = some (.ref (pa p))) (fun E => E = xIO ∧ ¬ (0 ≤ p ∧ p < np)) 1 6 := by
  refine ex_ofW (cc := b_C_pieceAt) (maxL := 3) (ret := (some (.object "LathePieces$Piece"))) (hh := []) (by decide +kernel) (Or.inl ⟨g_315, rfl⟩) ?_
  intro p9 e9 s m9 args9 below9 meth9 c9 s9 B9 hml htab hv
  obtain ⟨rfl, h0, hP⟩ := hv
  have hx := B9.exec
  have hb := B9.bytes
  have hr := B9.returns
  have hG := atoms_spec (ws := GW) B9.pre
  have hown : s.vm.findClass "LathePieces" = some m9.cls := findClass_of_methodNamed B9.named
  have hlocks := B9.notSynchronized
  have hK := cx_K hC h0
  have hS : va_S (aL s0) s.heap s.heap [] := va_S.rf
  have hl := lv_entry ([.ref cx, .int (iI (p))]) (n := 3) (Nat.le_of_ble_eq_true rfl)
  rw [lg_entry_eq]
  generalize (lg_sl ([.ref cx, .int (iI (p))]) ++ List.replicate (3 - (lg_sl ([.ref cx, .int (iI (p))])).length) Slot.unset).toArray = ls at hl ⊢
  replace hl : lv_has ls 3 [(0, .ref cx), (1, .int (iI (p)))] := hl
  refine lv_iload_n hx hb d_C_pieceAt_0 rfl (lv_at hl 1 rfl) ?_
  refine ri_if_lt (tgt := 19) hx hb d_C_pieceAt_1 (by decide) (by omega) (fun c1 => ?_) (fun c1 => ?_)
  · refine lv_null hx hb d_C_pieceAt_19 ?_
    refine lv_astore_nN (lv' := [(2, .null), (0, .ref cx), (1, .int (iI (p)))]) hx hb d_C_pieceAt_20 rfl hl (by decide) rfl (fun ls hl => ?_)
    refine lv_aload_nN hx hb d_C_pieceAt_21 rfl (lv_at hl 0 rfl) ?_
    refine lv_ifnonnullN hx hb d_C_pieceAt_22 ?_
    exact tk_throw (kl := 2) hC h0 hx hb hown xA_IO (by decide +kernel) g_318 g_316 g_13 g_325 hS (hl.1.trans hml.symm) d_C_pieceAt_25 d_C_pieceAt_28 (Or.inl ⟨rfl, d_C_pieceAt_29⟩) d_C_pieceAt_31 d_C_pieceAt_34 htab hlocks (Nat.le_of_ble_eq_true rfl) (Nat.le_of_ble_eq_true rfl) (Nat.le_of_ble_eq_true rfl) (Nat.le_of_ble_eq_true rfl) (fun t hla hz ho => ⟨⟨rfl, by omega⟩, hla, hz, ho⟩) (Nat.le_of_ble_eq_true rfl) (Nat.le_of_ble_eq_true rfl)
  · refine lv_iload_n hx hb d_C_pieceAt_4 rfl (lv_at hl 1 rfl) ?_
    refine ri_bipush hx hb d_C_pieceAt_5 (by decide) ?_
    refine ri_icmp_ge (tgt := 19) hx hb d_C_pieceAt_7 (by decide) (by omega) (by omega) (fun c7 => ?_) (fun c7 => ?_)
    · refine lv_null hx hb d_C_pieceAt_19 ?_
      refine lv_astore_nN (lv' := [(2, .null), (0, .ref cx), (1, .int (iI (p)))]) hx hb d_C_pieceAt_20 rfl hl (by decide) rfl (fun ls hl => ?_)
      refine lv_aload_nN hx hb d_C_pieceAt_21 rfl (lv_at hl 0 rfl) ?_
      refine lv_ifnonnullN hx hb d_C_pieceAt_22 ?_
      exact tk_throw (kl := 2) hC h0 hx hb hown xA_IO (by decide +kernel) g_318 g_316 g_13 g_325 hS (hl.1.trans hml.symm) d_C_pieceAt_25 d_C_pieceAt_28 (Or.inl ⟨rfl, d_C_pieceAt_29⟩) d_C_pieceAt_31 d_C_pieceAt_34 htab hlocks (Nat.le_of_ble_eq_true rfl) (Nat.le_of_ble_eq_true rfl) (Nat.le_of_ble_eq_true rfl) (Nat.le_of_ble_eq_true rfl) (fun t hla hz ho => ⟨⟨rfl, by omega⟩, hla, hz, ho⟩) (Nat.le_of_ble_eq_true rfl) (Nat.le_of_ble_eq_true rfl)
    · by_cases h5 : p < np
      · refine lv_aload_n hx hb d_C_pieceAt_10 rfl (lv_at hl 0 rfl) ?_
        refine va_get (D := D) (ci := 5) (v := .ref cp) (C := R_C) (T := F_C) (N := 13) hx hb hG in_C hown hK hP 0 rfl rfl 1 (by decide) (hG _ g_63) (fun _ h9 => h9) rfl d_C_pieceAt_11 ?_
        refine lv_iload_n hx hb d_C_pieceAt_14 rfl (lv_at hl 1 rfl) ?_
        refine ra_ald (o := some (pa p)) (v := .ref (pa p)) hx hb hK hP 1 2 rfl rfl (by omega) (by decide) (gQ_in (by omega)) rfl d_C_pieceAt_15 ?_
        refine lv_goto (tgt := 20) hx hb d_C_pieceAt_16 (by decide) ?_
        refine lv_astore_n (lv' := [(2, .ref (pa p)), (0, .ref cx), (1, .int (iI (p)))]) hx hb d_C_pieceAt_20 rfl hl (by decide) rfl (fun ls hl => ?_)
        refine lv_aload_n hx hb d_C_pieceAt_21 rfl (lv_at hl 0 rfl) ?_
        refine lv_ifnonnull (tgt := 35) hx hb d_C_pieceAt_22 (by decide) ?_
        refine lv_aload_n hx hb d_C_pieceAt_35 rfl (lv_at hl 0 rfl) ?_
        exact re_a hx hb hr (Or.inl ⟨_, rfl⟩) hlocks (fun t ht hW => ⟨⟨by omega, h5, rfl⟩, ht⟩) hS.2.2 (Nat.le_of_ble_eq_true rfl) (Nat.le_of_ble_eq_true rfl) d_C_pieceAt_36
      · refine lv_aload_n hx hb d_C_pieceAt_10 rfl (lv_at hl 0 rfl) ?_
        refine va_get (D := D) (ci := 5) (v := .ref cp) (C := R_C) (T := F_C) (N := 13) hx hb hG in_C hown hK hP 0 rfl rfl 1 (by decide) (hG _ g_63) (fun _ h9 => h9) rfl d_C_pieceAt_11 ?_
        refine lv_iload_n hx hb d_C_pieceAt_14 rfl (lv_at hl 1 rfl) ?_
        refine ra_ald (o := none) (v := .null) hx hb hK hP 1 2 rfl rfl (by omega) (by decide) (gQ_out (by omega)) rfl d_C_pieceAt_15 ?_
        refine lv_goto (tgt := 20) hx hb d_C_pieceAt_16 (by decide) ?_
        refine lv_astore_nN (lv' := [(2, .null), (0, .ref cx), (1, .int (iI (p)))]) hx hb d_C_pieceAt_20 rfl hl (by decide) rfl (fun ls hl => ?_)
        refine lv_aload_nN hx hb d_C_pieceAt_21 rfl (lv_at hl 0 rfl) ?_
        refine lv_ifnonnullN hx hb d_C_pieceAt_22 ?_
        exact tk_throw (kl := 2) hC h0 hx hb hown xA_IO (by decide +kernel) g_318 g_316 g_13 g_325 hS (hl.1.trans hml.symm) d_C_pieceAt_25 d_C_pieceAt_28 (Or.inl ⟨rfl, d_C_pieceAt_29⟩) d_C_pieceAt_31 d_C_pieceAt_34 htab hlocks (Nat.le_of_ble_eq_true rfl) (Nat.le_of_ble_eq_true rfl) (Nat.le_of_ble_eq_true rfl) (Nat.le_of_ble_eq_true rfl) (fun t hla hz ho => ⟨⟨rfl, by omega⟩, hla, hz, ho⟩) (Nat.le_of_ble_eq_true rfl) (Nat.le_of_ble_eq_true rfl)

set_option maxHeartbeats 4000000 in
set_option maxRecDepth 100000 in
theorem c_C_noseAt {l : Launch} {s0 : State} {D : va_G} {k : Nat → ClassId} (hC : Cx l s0 D k) (cx cf cp cn ce cg cu ct : Nat) (np nt ng nr ia ib : Int) (na : Int → Nat) (p : Int) (hp : In32 p) (hn : 0 ≤ nt ∧ nt ≤ 6) : ThM l s0 y_C_noseAt { frames := 6, cells := 1, slots := 6, locals := 90 } [.ref cx, .int (iI (p))] (fun H => va_P D classes ([(cx, .inr (5, [.ref cf, .ref cp, .int (iI (np)), .ref cn, .int (iI (nt)), .ref ce, .ref cg, .int (iI (ng)), .ref cu, .ref ct, .int (iI (nr)), .int (iI (ia)), .int (iI (ib))])), (cn, .inl (k 3, aq 6 (gQ nt na)))]) H) (fun v => 0 ≤ p ∧ p < nt ∧ v = some (.ref (na p))) (fun E => E = xIO ∧ ¬ (0 ≤ p ∧ p < nt)) 1 6 := by
  refine ex_ofW (cc := b_C_noseAt) (maxL := 3) (ret := (some (.object "LathePieces$Nose"))) (hh := []) (by decide +kernel) (Or.inl ⟨g_374, rfl⟩) ?_
  intro p9 e9 s m9 args9 below9 meth9 c9 s9 B9 hml htab hv
  obtain ⟨rfl, h0, hP⟩ := hv
  have hx := B9.exec
  have hb := B9.bytes
  have hr := B9.returns
  have hG := atoms_spec (ws := GW) B9.pre
  have hown : s.vm.findClass "LathePieces" = some m9.cls := findClass_of_methodNamed B9.named
  have hlocks := B9.notSynchronized
  have hK := cx_K hC h0
  have hS : va_S (aL s0) s.heap s.heap [] := va_S.rf
  have hl := lv_entry ([.ref cx, .int (iI (p))]) (n := 3) (Nat.le_of_ble_eq_true rfl)
  rw [lg_entry_eq]
  generalize (lg_sl ([.ref cx, .int (iI (p))]) ++ List.replicate (3 - (lg_sl ([.ref cx, .int (iI (p))])).length) Slot.unset).toArray = ls at hl ⊢
  replace hl : lv_has ls 3 [(0, .ref cx), (1, .int (iI (p)))] := hl
  refine lv_iload_n hx hb d_C_noseAt_0 rfl (lv_at hl 1 rfl) ?_
  refine ri_if_lt (tgt := 19) hx hb d_C_noseAt_1 (by decide) (by omega) (fun c1 => ?_) (fun c1 => ?_)
  · refine lv_null hx hb d_C_noseAt_19 ?_
    refine lv_astore_nN (lv' := [(2, .null), (0, .ref cx), (1, .int (iI (p)))]) hx hb d_C_noseAt_20 rfl hl (by decide) rfl (fun ls hl => ?_)
    refine lv_aload_nN hx hb d_C_noseAt_21 rfl (lv_at hl 0 rfl) ?_
    refine lv_ifnonnullN hx hb d_C_noseAt_22 ?_
    exact tk_throw (kl := 2) hC h0 hx hb hown xA_IO (by decide +kernel) g_318 g_316 g_13 g_375 hS (hl.1.trans hml.symm) d_C_noseAt_25 d_C_noseAt_28 (Or.inl ⟨rfl, d_C_noseAt_29⟩) d_C_noseAt_31 d_C_noseAt_34 htab hlocks (Nat.le_of_ble_eq_true rfl) (Nat.le_of_ble_eq_true rfl) (Nat.le_of_ble_eq_true rfl) (Nat.le_of_ble_eq_true rfl) (fun t hla hz ho => ⟨⟨rfl, by omega⟩, hla, hz, ho⟩) (Nat.le_of_ble_eq_true rfl) (Nat.le_of_ble_eq_true rfl)
  · refine lv_iload_n hx hb d_C_noseAt_4 rfl (lv_at hl 1 rfl) ?_
    refine ri_bipush hx hb d_C_noseAt_5 (by decide) ?_
    refine ri_icmp_ge (tgt := 19) hx hb d_C_noseAt_7 (by decide) (by omega) (by omega) (fun c7 => ?_) (fun c7 => ?_)
    · refine lv_null hx hb d_C_noseAt_19 ?_
      refine lv_astore_nN (lv' := [(2, .null), (0, .ref cx), (1, .int (iI (p)))]) hx hb d_C_noseAt_20 rfl hl (by decide) rfl (fun ls hl => ?_)
      refine lv_aload_nN hx hb d_C_noseAt_21 rfl (lv_at hl 0 rfl) ?_
      refine lv_ifnonnullN hx hb d_C_noseAt_22 ?_
      exact tk_throw (kl := 2) hC h0 hx hb hown xA_IO (by decide +kernel) g_318 g_316 g_13 g_375 hS (hl.1.trans hml.symm) d_C_noseAt_25 d_C_noseAt_28 (Or.inl ⟨rfl, d_C_noseAt_29⟩) d_C_noseAt_31 d_C_noseAt_34 htab hlocks (Nat.le_of_ble_eq_true rfl) (Nat.le_of_ble_eq_true rfl) (Nat.le_of_ble_eq_true rfl) (Nat.le_of_ble_eq_true rfl) (fun t hla hz ho => ⟨⟨rfl, by omega⟩, hla, hz, ho⟩) (Nat.le_of_ble_eq_true rfl) (Nat.le_of_ble_eq_true rfl)
    · by_cases h5 : p < nt
      · refine lv_aload_n hx hb d_C_noseAt_10 rfl (lv_at hl 0 rfl) ?_
        refine va_get (D := D) (ci := 5) (v := .ref cn) (C := R_C) (T := F_C) (N := 13) hx hb hG in_C hown hK hP 0 rfl rfl 3 (by decide) (hG _ g_65) (fun _ h9 => h9) rfl d_C_noseAt_11 ?_
        refine lv_iload_n hx hb d_C_noseAt_14 rfl (lv_at hl 1 rfl) ?_
        refine ra_ald (o := some (na p)) (v := .ref (na p)) hx hb hK hP 1 3 rfl rfl (by omega) (by decide) (gQ_in (by omega)) rfl d_C_noseAt_15 ?_
        refine lv_goto (tgt := 20) hx hb d_C_noseAt_16 (by decide) ?_
        refine lv_astore_n (lv' := [(2, .ref (na p)), (0, .ref cx), (1, .int (iI (p)))]) hx hb d_C_noseAt_20 rfl hl (by decide) rfl (fun ls hl => ?_)
        refine lv_aload_n hx hb d_C_noseAt_21 rfl (lv_at hl 0 rfl) ?_
        refine lv_ifnonnull (tgt := 35) hx hb d_C_noseAt_22 (by decide) ?_
        refine lv_aload_n hx hb d_C_noseAt_35 rfl (lv_at hl 0 rfl) ?_
        exact re_a hx hb hr (Or.inl ⟨_, rfl⟩) hlocks (fun t ht hW => ⟨⟨by omega, h5, rfl⟩, ht⟩) hS.2.2 (Nat.le_of_ble_eq_true rfl) (Nat.le_of_ble_eq_true rfl) d_C_noseAt_36
      · refine lv_aload_n hx hb d_C_noseAt_10 rfl (lv_at hl 0 rfl) ?_
        refine va_get (D := D) (ci := 5) (v := .ref cn) (C := R_C) (T := F_C) (N := 13) hx hb hG in_C hown hK hP 0 rfl rfl 3 (by decide) (hG _ g_65) (fun _ h9 => h9) rfl d_C_noseAt_11 ?_
        refine lv_iload_n hx hb d_C_noseAt_14 rfl (lv_at hl 1 rfl) ?_
        refine ra_ald (o := none) (v := .null) hx hb hK hP 1 3 rfl rfl (by omega) (by decide) (gQ_out (by omega)) rfl d_C_noseAt_15 ?_
        refine lv_goto (tgt := 20) hx hb d_C_noseAt_16 (by decide) ?_
        refine lv_astore_nN (lv' := [(2, .null), (0, .ref cx), (1, .int (iI (p)))]) hx hb d_C_noseAt_20 rfl hl (by decide) rfl (fun ls hl => ?_)
        refine lv_aload_nN hx hb d_C_noseAt_21 rfl (lv_at hl 0 rfl) ?_
        refine lv_ifnonnullN hx hb d_C_noseAt_22 ?_
        exact tk_throw (kl := 2) hC h0 hx hb hown xA_IO (by decide +kernel) g_318 g_316 g_13 g_375 hS (hl.1.trans hml.symm) d_C_noseAt_25 d_C_noseAt_28 (Or.inl ⟨rfl, d_C_noseAt_29⟩) d_C_noseAt_31 d_C_noseAt_34 htab hlocks (Nat.le_of_ble_eq_true rfl) (Nat.le_of_ble_eq_true rfl) (Nat.le_of_ble_eq_true rfl) (Nat.le_of_ble_eq_true rfl) (fun t hla hz ho => ⟨⟨rfl, by omega⟩, hla, hz, ho⟩) (Nat.le_of_ble_eq_true rfl) (Nat.le_of_ble_eq_true rfl)

set_option maxHeartbeats 4000000 in
set_option maxRecDepth 100000 in
theorem c_C_ringAt {l : Launch} {s0 : State} {D : va_G} {k : Nat → ClassId} (hC : Cx l s0 D k) (cx cf cp cn ce cg cu ct : Nat) (np nt ng nr ia ib : Int) (ga : Int → Nat) (p : Int) (hp : In32 p) (hn : 0 ≤ ng ∧ ng ≤ 6) : ThM l s0 y_C_ringAt { frames := 6, cells := 1, slots := 6, locals := 90 } [.ref cx, .int (iI (p))] (fun H => va_P D classes ([(cx, .inr (5, [.ref cf, .ref cp, .int (iI (np)), .ref cn, .int (iI (nt)), .ref ce, .ref cg, .int (iI (ng)), .ref cu, .ref ct, .int (iI (nr)), .int (iI (ia)), .int (iI (ib))])), (cg, .inl (k 5, aq 6 (gQ ng ga)))]) H) (fun v => 0 ≤ p ∧ p < ng ∧ v = some (.ref (ga p))) (fun E => E = xIO ∧ ¬ (0 ≤ p ∧ p < ng)) 1 6 := by
  refine ex_ofW (cc := b_C_ringAt) (maxL := 3) (ret := (some (.object "LathePieces$Ring"))) (hh := []) (by decide +kernel) (Or.inl ⟨g_531, rfl⟩) ?_
  intro p9 e9 s m9 args9 below9 meth9 c9 s9 B9 hml htab hv
  obtain ⟨rfl, h0, hP⟩ := hv
  have hx := B9.exec
  have hb := B9.bytes
  have hr := B9.returns
  have hG := atoms_spec (ws := GW) B9.pre
  have hown : s.vm.findClass "LathePieces" = some m9.cls := findClass_of_methodNamed B9.named
  have hlocks := B9.notSynchronized
  have hK := cx_K hC h0
  have hS : va_S (aL s0) s.heap s.heap [] := va_S.rf
  have hl := lv_entry ([.ref cx, .int (iI (p))]) (n := 3) (Nat.le_of_ble_eq_true rfl)
  rw [lg_entry_eq]
  generalize (lg_sl ([.ref cx, .int (iI (p))]) ++ List.replicate (3 - (lg_sl ([.ref cx, .int (iI (p))])).length) Slot.unset).toArray = ls at hl ⊢
  replace hl : lv_has ls 3 [(0, .ref cx), (1, .int (iI (p)))] := hl
  refine lv_iload_n hx hb d_C_ringAt_0 rfl (lv_at hl 1 rfl) ?_
  refine ri_if_lt (tgt := 19) hx hb d_C_ringAt_1 (by decide) (by omega) (fun c1 => ?_) (fun c1 => ?_)
  · refine lv_null hx hb d_C_ringAt_19 ?_
    refine lv_astore_nN (lv' := [(2, .null), (0, .ref cx), (1, .int (iI (p)))]) hx hb d_C_ringAt_20 rfl hl (by decide) rfl (fun ls hl => ?_)
    refine lv_aload_nN hx hb d_C_ringAt_21 rfl (lv_at hl 0 rfl) ?_
    refine lv_ifnonnullN hx hb d_C_ringAt_22 ?_
    exact tk_throw (kl := 2) hC h0 hx hb hown xA_IO (by decide +kernel) g_318 g_316 g_13 g_532 hS (hl.1.trans hml.symm) d_C_ringAt_25 d_C_ringAt_28 (Or.inl ⟨rfl, d_C_ringAt_29⟩) d_C_ringAt_31 d_C_ringAt_34 htab hlocks (Nat.le_of_ble_eq_true rfl) (Nat.le_of_ble_eq_true rfl) (Nat.le_of_ble_eq_true rfl) (Nat.le_of_ble_eq_true rfl) (fun t hla hz ho => ⟨⟨rfl, by omega⟩, hla, hz, ho⟩) (Nat.le_of_ble_eq_true rfl) (Nat.le_of_ble_eq_true rfl)
  · refine lv_iload_n hx hb d_C_ringAt_4 rfl (lv_at hl 1 rfl) ?_
    refine ri_bipush hx hb d_C_ringAt_5 (by decide) ?_
    refine ri_icmp_ge (tgt := 19) hx hb d_C_ringAt_7 (by decide) (by omega) (by omega) (fun c7 => ?_) (fun c7 => ?_)
    · refine lv_null hx hb d_C_ringAt_19 ?_
      refine lv_astore_nN (lv' := [(2, .null), (0, .ref cx), (1, .int (iI (p)))]) hx hb d_C_ringAt_20 rfl hl (by decide) rfl (fun ls hl => ?_)
      refine lv_aload_nN hx hb d_C_ringAt_21 rfl (lv_at hl 0 rfl) ?_
      refine lv_ifnonnullN hx hb d_C_ringAt_22 ?_
      exact tk_throw (kl := 2) hC h0 hx hb hown xA_IO (by decide +kernel) g_318 g_316 g_13 g_532 hS (hl.1.trans hml.symm) d_C_ringAt_25 d_C_ringAt_28 (Or.inl ⟨rfl, d_C_ringAt_29⟩) d_C_ringAt_31 d_C_ringAt_34 htab hlocks (Nat.le_of_ble_eq_true rfl) (Nat.le_of_ble_eq_true rfl) (Nat.le_of_ble_eq_true rfl) (Nat.le_of_ble_eq_true rfl) (fun t hla hz ho => ⟨⟨rfl, by omega⟩, hla, hz, ho⟩) (Nat.le_of_ble_eq_true rfl) (Nat.le_of_ble_eq_true rfl)
    · by_cases h5 : p < ng
      · refine lv_aload_n hx hb d_C_ringAt_10 rfl (lv_at hl 0 rfl) ?_
        refine va_get (D := D) (ci := 5) (v := .ref cg) (C := R_C) (T := F_C) (N := 13) hx hb hG in_C hown hK hP 0 rfl rfl 6 (by decide) (hG _ g_68) (fun _ h9 => h9) rfl d_C_ringAt_11 ?_
        refine lv_iload_n hx hb d_C_ringAt_14 rfl (lv_at hl 1 rfl) ?_
        refine ra_ald (o := some (ga p)) (v := .ref (ga p)) hx hb hK hP 1 5 rfl rfl (by omega) (by decide) (gQ_in (by omega)) rfl d_C_ringAt_15 ?_
        refine lv_goto (tgt := 20) hx hb d_C_ringAt_16 (by decide) ?_
        refine lv_astore_n (lv' := [(2, .ref (ga p)), (0, .ref cx), (1, .int (iI (p)))]) hx hb d_C_ringAt_20 rfl hl (by decide) rfl (fun ls hl => ?_)
        refine lv_aload_n hx hb d_C_ringAt_21 rfl (lv_at hl 0 rfl) ?_
        refine lv_ifnonnull (tgt := 35) hx hb d_C_ringAt_22 (by decide) ?_
        refine lv_aload_n hx hb d_C_ringAt_35 rfl (lv_at hl 0 rfl) ?_
        exact re_a hx hb hr (Or.inl ⟨_, rfl⟩) hlocks (fun t ht hW => ⟨⟨by omega, h5, rfl⟩, ht⟩) hS.2.2 (Nat.le_of_ble_eq_true rfl) (Nat.le_of_ble_eq_true rfl) d_C_ringAt_36
      · refine lv_aload_n hx hb d_C_ringAt_10 rfl (lv_at hl 0 rfl) ?_
        refine va_get (D := D) (ci := 5) (v := .ref cg) (C := R_C) (T := F_C) (N := 13) hx hb hG in_C hown hK hP 0 rfl rfl 6 (by decide) (hG _ g_68) (fun _ h9 => h9) rfl d_C_ringAt_11 ?_
        refine lv_iload_n hx hb d_C_ringAt_14 rfl (lv_at hl 1 rfl) ?_
        refine ra_ald (o := none) (v := .null) hx hb hK hP 1 5 rfl rfl (by omega) (by decide) (gQ_out (by omega)) rfl d_C_ringAt_15 ?_
        refine lv_goto (tgt := 20) hx hb d_C_ringAt_16 (by decide) ?_
        refine lv_astore_nN (lv' := [(2, .null), (0, .ref cx), (1, .int (iI (p)))]) hx hb d_C_ringAt_20 rfl hl (by decide) rfl (fun ls hl => ?_)
        refine lv_aload_nN hx hb d_C_ringAt_21 rfl (lv_at hl 0 rfl) ?_
        refine lv_ifnonnullN hx hb d_C_ringAt_22 ?_
        exact tk_throw (kl := 2) hC h0 hx hb hown xA_IO (by decide +kernel) g_318 g_316 g_13 g_532 hS (hl.1.trans hml.symm) d_C_ringAt_25 d_C_ringAt_28 (Or.inl ⟨rfl, d_C_ringAt_29⟩) d_C_ringAt_31 d_C_ringAt_34 htab hlocks (Nat.le_of_ble_eq_true rfl) (Nat.le_of_ble_eq_true rfl) (Nat.le_of_ble_eq_true rfl) (Nat.le_of_ble_eq_true rfl) (fun t hla hz ho => ⟨⟨rfl, by omega⟩, hla, hz, ho⟩) (Nat.le_of_ble_eq_true rfl) (Nat.le_of_ble_eq_true rfl)

set_option maxHeartbeats 4000000 in
set_option maxRecDepth 100000 in
theorem c_C_checkBehindLast {l : Launch} {s0 : State} {D : va_G} {k : Nat → ClassId} (hC : Cx l s0 D k) (cx cf cp cn ce cg cu ct : Nat) (np nt ng nr ia ib : Int) (cr : Nat) (bg la lr wy at9 : Int) (hbg : bg = 0 ∨ bg = 1) (hla : 0 ≤ la ∧ la ≤ 64) (hat : In32 at9) : ThM l s0 y_C_checkBehindLast { frames := 6, cells := 1, slots := 6, locals := 90 } [.ref cx, .int (iI (at9))] (fun H => va_P D classes ([(cf, .inr (2, [.ref cr, .int (iI (bg)), .int (iI (la)), .int (iI (lr)), .int (iI (wy))])), (cx, .inr (5, [.ref cf, .ref cp, .int (iI (np)), .ref cn, .int (iI (nt)), .ref ce, .ref cg, .int (iI (ng)), .ref cu, .ref ct, .int (iI (nr)), .int (iI (ia)), .int (iI (ib))]))]) H) (fun v => v = none ∧ bg = 1 ∧ la < at9) (fun E => (E = xIS ∧ bg = 0) ∨ (E = xIA ∧ bg = 1 ∧ at9 ≤ la)) 1 6 := by
  refine ex_ofW (cc := b_C_checkBehindLast) (maxL := 2) (ret := none) (hh := []) (by decide +kernel) (Or.inl ⟨g_199, rfl⟩) ?_
  intro p9 e9 s m9 args9 below9 meth9 c9 s9 B9 hml htab hv
  obtain ⟨rfl, h0, hP⟩ := hv
  have hx := B9.exec
  have hb := B9.bytes
  have hr := B9.returns
  have hG := atoms_spec (ws := GW) B9.pre
  have hown : s.vm.findClass "LathePieces" = some m9.cls := findClass_of_methodNamed B9.named
  have hlocks := B9.notSynchronized
  have hK := cx_K hC h0
  have hS : va_S (aL s0) s.heap s.heap [] := va_S.rf
  have hl := lv_entry ([.ref cx, .int (iI (at9))]) (n := 2) (Nat.le_of_ble_eq_true rfl)
  rw [lg_entry_eq]
  generalize (lg_sl ([.ref cx, .int (iI (at9))]) ++ List.replicate (2 - (lg_sl ([.ref cx, .int (iI (at9))])).length) Slot.unset).toArray = ls at hl ⊢
  replace hl : lv_has ls 2 [(0, .ref cx), (1, .int (iI (at9)))] := hl
  refine lv_aload_n hx hb d_C_checkBehindLast_0 rfl (lv_at hl 0 rfl) ?_
  refine va_get (D := D) (ci := 5) (v := .ref cf) (C := R_C) (T := F_C) (N := 13) hx hb hG in_C hown hK hP 1 rfl rfl 0 (by decide) (hG _ g_62) (fun _ h9 => h9) rfl d_C_checkBehindLast_1 ?_
  refine va_get (D := D) (ci := 2) (v := .int (iI (bg))) (C := R_F) (T := F_F) (N := 5) hx hb hG in_F hown hK hP 0 rfl rfl 1 (by decide) (hG _ g_34) (fun _ h9 => h9) rfl d_C_checkBehindLast_4 ?_
  refine ri_if_ne (tgt := 21) hx hb d_C_checkBehindLast_7 (by decide) (by omega) (fun c7 => ?_) (fun c7 => ?_)
  · refine lv_iload_n hx hb d_C_checkBehindLast_21 rfl (lv_at hl 1 rfl) ?_
    refine lv_aload_n hx hb d_C_checkBehindLast_22 rfl (lv_at hl 0 rfl) ?_
    refine va_get (D := D) (ci := 5) (v := .ref cf) (C := R_C) (T := F_C) (N := 13) hx hb hG in_C hown hK hP 1 rfl rfl 0 (by decide) (hG _ g_62) (fun _ h9 => h9) rfl d_C_checkBehindLast_23 ?_
    refine va_get (D := D) (ci := 2) (v := .int (iI (la))) (C := R_F) (T := F_F) (N := 5) hx hb hG in_F hown hK hP 0 rfl rfl 2 (by decide) (hG _ g_37) (fun _ h9 => h9) rfl d_C_checkBehindLast_26 ?_
    refine ri_icmp_gt (tgt := 43) hx hb d_C_checkBehindLast_29 (by decide) (by omega) (by omega) (fun c29 => ?_) (fun c29 => ?_)
    · exact re_v hx hb hr hlocks (fun t ht hW => ⟨⟨rfl, by omega, by omega⟩, ht⟩) hS.2.2 (Nat.le_of_ble_eq_true rfl) (Nat.le_of_ble_eq_true rfl) d_C_checkBehindLast_43
    · exact tk_throw (kl := 3) hC h0 hx hb hown xA_IA (by decide +kernel) g_115 g_113 g_7 g_216 hS (hl.1.trans hml.symm) d_C_checkBehindLast_32 d_C_checkBehindLast_35 (Or.inr ⟨rfl, d_C_checkBehindLast_36⟩) d_C_checkBehindLast_39 d_C_checkBehindLast_42 htab hlocks (Nat.le_of_ble_eq_true rfl) (Nat.le_of_ble_eq_true rfl) (Nat.le_of_ble_eq_true rfl) (Nat.le_of_ble_eq_true rfl) (fun t hla hz ho => ⟨Or.inr ⟨rfl, by omega, by omega⟩, hla, hz, ho⟩) (Nat.le_of_ble_eq_true rfl) (Nat.le_of_ble_eq_true rfl)
  · exact tk_throw (kl := 3) hC h0 hx hb hown xA_IS (by decide +kernel) g_202 g_200 g_8 g_209 hS (hl.1.trans hml.symm) d_C_checkBehindLast_10 d_C_checkBehindLast_13 (Or.inr ⟨rfl, d_C_checkBehindLast_14⟩) d_C_checkBehindLast_17 d_C_checkBehindLast_20 htab hlocks (Nat.le_of_ble_eq_true rfl) (Nat.le_of_ble_eq_true rfl) (Nat.le_of_ble_eq_true rfl) (Nat.le_of_ble_eq_true rfl) (fun t hla hz ho => ⟨Or.inl ⟨rfl, by omega⟩, hla, hz, ho⟩) (Nat.le_of_ble_eq_true rfl) (Nat.le_of_ble_eq_true rfl)

set_option maxHeartbeats 4000000 in
set_option maxRecDepth 100000 in
theorem c_C_radiusAt {l : Launch} {s0 : State} {D : va_G} {k : Nat → ClassId} (hC : Cx l s0 D k) (cx cf cp cn ce cg cu ct : Nat) (np nt ng nr ia ib : Int) (pa pq : Int → Nat) (ln bl wm : Int → Int) (pf : Int → Int → Int) (rs tl : va_W) (hpc : PcOk k np pa pq ln bl wm pf rs) (hrs : ∀ q ∈ rs, q ∈ tl) (hnp : 0 ≤ np ∧ np ≤ 6) (p x : Int) (hp : In32 p) (hx9 : In32 x) : ThM l s0 y_C_radiusAt { frames := 7, cells := 2, slots := 12, locals := 112 } [.ref cx, .int (iI (p)), .int (iI (x))] (fun H => va_P D classes ((cx, .inr (5, [.ref cf, .ref cp, .int (iI (np)), .ref cn, .int (iI (nt)), .ref ce, .ref cg, .int (iI (ng)), .ref cu, .ref ct, .int (iI (nr)), .int (iI (ia)), .int (iI (ib))])) :: (cp, .inl (k 2, aq 6 (gQ np pa))) :: tl) H) (fun v => 0 ≤ p ∧ p < np ∧ 0 ≤ x ∧ x ≤ ln p ∧ v = some (.int (iI (pf p x)))) (fun E => E = xIO ∧ ¬ (0 ≤ p ∧ p < np ∧ 0 ≤ x ∧ x ≤ ln p)) 2 12 := by
  refine ex_ofW (cc := b_C_radiusAt) (maxL := 4) (ret := (some .int)) (hh := []) (by decide +kernel) (Or.inl ⟨g_311, rfl⟩) ?_
  intro p9 e9 s m9 args9 below9 meth9 c9 s9 B9 hml htab hv
  obtain ⟨rfl, h0, hP⟩ := hv
  have hx := B9.exec
  have hb := B9.bytes
  have hr := B9.returns
  have hG := atoms_spec (ws := GW) B9.pre
  have hown : s.vm.findClass "LathePieces" = some m9.cls := findClass_of_methodNamed B9.named
  have hlocks := B9.notSynchronized
  have hK := cx_K hC h0
  have hS : va_S (aL s0) s.heap s.heap [] := va_S.rf
  have hl := lv_entry ([.ref cx, .int (iI (p)), .int (iI (x))]) (n := 4) (Nat.le_of_ble_eq_true rfl)
  rw [lg_entry_eq]
  generalize (lg_sl ([.ref cx, .int (iI (p)), .int (iI (x))]) ++ List.replicate (4 - (lg_sl ([.ref cx, .int (iI (p)), .int (iI (x))])).length) Slot.unset).toArray = ls at hl ⊢
  replace hl : lv_has ls 4 [(0, .ref cx), (1, .int (iI (p))), (2, .int (iI (x)))] := hl
  refine lv_aload_n hx hb d_C_radiusAt_0 rfl (lv_at hl 0 rfl) ?_
  refine lv_iload_n hx hb d_C_radiusAt_1 rfl (lv_at hl 1 rfl) ?_
  refine th_call h0 hS htab hlocks (Nat.le_of_ble_eq_true rfl) (Nat.le_of_ble_eq_true rfl) (ex_runV (C := "LathePieces") (As := [.int (iI (p))]) (rest := []) ⟨hx, hb, hml, hown, hG⟩ (c_C_pieceAt hC cx cf cp cn ce cg cu ct np nt ng nr ia ib pa p (by omega) hnp) (cb_code (n := 1) hG g_315 g_1 g_312 rfl rfl (by decide +kernel) ⟨Nat.le_of_ble_eq_true rfl, Nat.le_of_ble_eq_true rfl⟩) (hG _ g_314) (hG _ gs_C_pieceAt) (kd_V ⟨fun _ _ _ _ q => q, fun U hU hW => ⟨rfl, la_next h0 (fun _ z => z) hS U hU hW, (by show va_P D classes _ U.heap; rw [hU]; exact (va_P.sub hP [0, 1] rfl))⟩⟩ (kd_recv hK hP (q0 := 0) (ci := 5) rfl rfl rfl)) rfl rfl hl.1 rfl (lv_room (Nat.le_of_ble_eq_true rfl)) d_C_radiusAt_2 ⟨Nat.le_of_ble_eq_true rfl, Nat.le_of_ble_eq_true rfl⟩) (fun E hE t hla hz ho => ⟨⟨hE.1, fun q => hE.2 ⟨q.1, q.2.1⟩⟩, hla, hz, ho⟩) (fun v9 h9 locs hS => ?_)
  obtain ⟨q1, q2, rfl⟩ := h9
  show W _ _ _ _ _ _ _ _ _ _ _ _ _ _ _ (F0 m9 5 ls [.ref (pa p)])
  obtain ⟨i1, i2, L, hL, hL64, hpr, hbl, hbr, e1, e2⟩ := pc_get hpc hrs q1 q2
  refine lv_astore_n (lv' := [(3, .ref (pa p)), (0, .ref cx), (1, .int (iI (p))), (2, .int (iI (x)))]) hx hb d_C_radiusAt_5 rfl hl (by decide) rfl (fun ls hl => ?_)
  refine lv_iload_n hx hb d_C_radiusAt_6 rfl (lv_at hl 3 rfl) ?_
  refine ri_if_lt (tgt := 18) hx hb d_C_radiusAt_7 (by decide) (by omega) (fun c7 => ?_) (fun c7 => ?_)
  · exact tk_throw (kl := 2) hC h0 hx hb hown xA_IO (by decide +kernel) g_318 g_316 g_13 g_332 hS (hl.1.trans hml.symm) d_C_radiusAt_18 d_C_radiusAt_21 (Or.inl ⟨rfl, d_C_radiusAt_22⟩) d_C_radiusAt_24 d_C_radiusAt_27 htab hlocks (Nat.le_of_ble_eq_true rfl) (Nat.le_of_ble_eq_true rfl) (Nat.le_of_ble_eq_true rfl) (Nat.le_of_ble_eq_true rfl) (fun t hla hz ho => ⟨⟨rfl, by omega⟩, hla, hz, ho⟩) (Nat.le_of_ble_eq_true rfl) (Nat.le_of_ble_eq_true rfl)
  · refine lv_iload_n hx hb d_C_radiusAt_10 rfl (lv_at hl 3 rfl) ?_
    refine lv_aload_n hx hb d_C_radiusAt_11 rfl (lv_at hl 0 rfl) ?_
    refine va_get (D := D) (ci := 1) (v := .int (iI ((L : Int)))) (C := R_P) (T := F_P) (N := 4) hx hb hG in_P hown hK hP (i1 + 2) e1 rfl 1 (by decide) (hG _ g_286) (fun _ h9 => h9) rfl d_C_radiusAt_12 ?_
    refine ri_icmp_le (tgt := 28) hx hb d_C_radiusAt_15 (by decide) (by omega) (by omega) (fun c15 => ?_) (fun c15 => ?_)
    · refine lv_aload_n hx hb d_C_radiusAt_28 rfl (lv_at hl 0 rfl) ?_
      refine va_get (D := D) (ci := 1) (v := .ref (pq p)) (C := R_P) (T := F_P) (N := 4) hx hb hG in_P hown hK hP (i1 + 2) e1 rfl 0 (by decide) (hG _ g_284) (fun _ h9 => h9) rfl d_C_radiusAt_29 ?_
      refine lv_iload_n hx hb d_C_radiusAt_32 rfl (lv_at hl 3 rfl) ?_
      refine ra_iald hx hb hK hP (i2 + 2) e2 (by omega) (by omega) d_C_radiusAt_33 ?_
      exact re_i hx hb hr hlocks (fun t ht hW => ⟨⟨q1, q2, by omega, by omega, rfl⟩, ht⟩) hS.2.2 (Nat.le_of_ble_eq_true rfl) (Nat.le_of_ble_eq_true rfl) d_C_radiusAt_34
    · exact tk_throw (kl := 2) hC h0 hx hb hown xA_IO (by decide +kernel) g_318 g_316 g_13 g_332 hS (hl.1.trans hml.symm) d_C_radiusAt_18 d_C_radiusAt_21 (Or.inl ⟨rfl, d_C_radiusAt_22⟩) d_C_radiusAt_24 d_C_radiusAt_27 htab hlocks (Nat.le_of_ble_eq_true rfl) (Nat.le_of_ble_eq_true rfl) (Nat.le_of_ble_eq_true rfl) (Nat.le_of_ble_eq_true rfl) (fun t hla hz ho => ⟨⟨rfl, by omega⟩, hla, hz, ho⟩) (Nat.le_of_ble_eq_true rfl) (Nat.le_of_ble_eq_true rfl)

/-- one more REACH -/
theorem RqOk.put {k : Nat → ClassId} {np nt : Int} {rq : Int → Option Nat} {ln no : Int → Int} {pf : Int → Int → Int} {rs wn : va_W} {p t : Int} {a b : Nat} (h : RqOk k np nt rq ln no pf rs) (hp : 0 ≤ p ∧ p < np) (ht : 0 ≤ t ∧ t < nt) (hnp : np ≤ 6) (hnt : nt ≤ 6) (ha : (a, .inr (3, [.ref b])) ∈ wn) (hb : (b, .inl (k 0, ai ((ln p).toNat + 1) (loA (pf p) (htF (no t).toNat) (no t).toNat (ln p).toNat))) ∈ wn) :
    RqOk k np nt (zU rq (p * 6 + t) (some a)) ln no pf (wn ++ rs) := by
  intro p1 t1 h0 h1 h2 h3
  by_cases e : p1 * 6 + t1 = p * 6 + t
  · have e1 : p1 = p := by omega
    have e2 : t1 = t := by omega
    subst e1 e2
    exact Or.inr ⟨hp.2, ht.2, a, b, zU_eq, List.mem_append_left _ ha, List.mem_append_left _ hb⟩
  · rw [zU_ne e]
    exact h.mono (fun q hq => List.mem_append_right _ hq) p1 t1 h0 h1 h2 h3
theorem pm_new (X F T : va_W) : (X ++ (F ++ T)).Perm (F ++ (X ++ T)) := by
  rw [← List.append_assoc, ← List.append_assoc]
  exact List.perm_append_comm.append_right T
set_option maxHeartbeats 4000000 in
set_option maxRecDepth 100000 in
theorem c_C_reachOf {l : Launch} {s0 : State} {D : va_G} {k : Nat → ClassId} (hC : Cx l s0 D k) (cx cf cp cn ce cg cu ct cr : Nat) (np nt ng nr ia ib bg la lr wy : Int) (pr ru rt : Int → Int) (gg : Int → Option Nat) (pa pq : Int → Nat) (ln bl wm : Int → Int) (pf : Int → Int → Int) (rs tl : va_W) (hpc : PcOk k np pa pq ln bl wm pf rs) (hrs : ∀ q ∈ rs, q ∈ tl) (hnp : 0 ≤ np ∧ np ≤ 6) (na nq : Int → Nat) (no : Int → Int) (hno : NoOk k nt na nq no rs) (hnt : 0 ≤ nt ∧ nt ≤ 6) (rq : Int → Option Nat) (hrq : RqOk k np nt rq ln no pf rs) (p t : Int) (hp : In32 p) (ht : In32 t) : WdM l s0 D y_C_reachOf { frames := 7, cells := 5, slots := 143, locals := 112 } [.ref cx, .int (iI (p)), .int (iI (t))] ((cf, .inr (2, [.ref cr, .int (iI (bg)), .int (iI (la)), .int (iI (lr)), .int (iI (wy))])) :: (cr, .inl (k 0, ai 65 pr)) :: (cx, .inr (5, [.ref cf, .ref cp, .int (iI (np)), .ref cn, .int (iI (nt)), .ref ce, .ref cg, .int (iI (ng)), .ref cu, .ref ct, .int (iI (nr)), .int (iI (ia)), .int (iI (ib))])) :: (cp, .inl (k 2, aq 6 (gQ np pa))) :: (cn, .inl (k 3, aq 6 (gQ nt na))) :: (ce, .inl (k 4, aq 36 rq)) :: (cg, .inl (k 5, aq 6 gg)) :: (cu, .inl (k 0, ai 8 ru)) :: (ct, .inl (k 0, ai 8 rt)) :: tl) (fun v ws' => 0 ≤ p ∧ p < np ∧ 0 ≤ t ∧ t < nt ∧ ∃ (a b : Nat) (wn : va_W) (rq' : Int → Option Nat), v = some (.ref a) ∧ ws' = ((cf, .inr (2, [.ref cr, .int (iI (bg)), .int (iI (la)), .int (iI (lr)), .int (iI (wy))])) :: (cr, .inl (k 0, ai 65 pr)) :: (cx, .inr (5, [.ref cf, .ref cp, .int (iI (np)), .ref cn, .int (iI (nt)), .ref ce, .ref cg, .int (iI (ng)), .ref cu, .ref ct, .int (iI (nr)), .int (iI (ia)), .int (iI (ib))])) :: (cp, .inl (k 2, aq 6 (gQ np pa))) :: (cn, .inl (k 3, aq 6 (gQ nt na))) :: (ce, .inl (k 4, aq 36 rq')) :: (cg, .inl (k 5, aq 6 gg)) :: (cu, .inl (k 0, ai 8 ru)) :: (ct, .inl (k 0, ai 8 rt)) :: (wn ++ tl)) ∧ RqOk k np nt rq' ln no pf (wn ++ rs) ∧ (a, .inr (3, [.ref b])) ∈ wn ++ rs ∧ (b, .inl (k 0, ai ((ln p).toNat + 1) (loA (pf p) (htF (no t).toNat) (no t).toNat (ln p).toNat))) ∈ wn ++ rs) (fun E ws' => ws' = ((cf, .inr (2, [.ref cr, .int (iI (bg)), .int (iI (la)), .int (iI (lr)), .int (iI (wy))])) :: (cr, .inl (k 0, ai 65 pr)) :: (cx, .inr (5, [.ref cf, .ref cp, .int (iI (np)), .ref cn, .int (iI (nt)), .ref ce, .ref cg, .int (iI (ng)), .ref cu, .ref ct, .int (iI (nr)), .int (iI (ia)), .int (iI (ib))])) :: (cp, .inl (k 2, aq 6 (gQ np pa))) :: (cn, .inl (k 3, aq 6 (gQ nt na))) :: (ce, .inl (k 4, aq 36 rq)) :: (cg, .inl (k 5, aq 6 gg)) :: (cu, .inl (k 0, ai 8 ru)) :: (ct, .inl (k 0, ai 8 rt)) :: tl) ∧ E = xIO ∧ ¬ (0 ≤ p ∧ p < np ∧ 0 ≤ t ∧ t < nt)) 5 143 := by
  refine ex_ofW (cc := b_C_reachOf) (maxL := 7) (ret := (some (.object "LathePieces$Reach"))) (hh := []) (by decide +kernel) (Or.inl ⟨g_370, rfl⟩) ?_
  intro p9 e9 s m9 args9 below9 meth9 c9 s9 B9 hml htab hv
  obtain ⟨rfl, h0, hP, hD⟩ := hv
  have hx := B9.exec
  have hb := B9.bytes
  have hr := B9.returns
  have hG := atoms_spec (ws := GW) B9.pre
  have hown : s.vm.findClass "LathePieces" = some m9.cls := findClass_of_methodNamed B9.named
  have hlocks := B9.notSynchronized
  have hK := cx_K hC h0
  have hS : va_S (aL s0) s.heap s.heap [] := va_S.rf
  have hA : ∀ q : Nat, s.heap.size ≤ q → aL s0 q := fun q h => Nat.le_trans h0.2.1 h
  have hl := lv_entry ([.ref cx, .int (iI (p)), .int (iI (t))]) (n := 7) (Nat.le_of_ble_eq_true rfl)
  rw [lg_entry_eq]
  generalize (lg_sl ([.ref cx, .int (iI (p)), .int (iI (t))]) ++ List.replicate (7 - (lg_sl ([.ref cx, .int (iI (p)), .int (iI (t))])).length) Slot.unset).toArray = ls at hl ⊢
  replace hl : lv_has ls 7 [(0, .ref cx), (1, .int (iI (p))), (2, .int (iI (t)))] := hl
  refine lv_aload_n hx hb d_C_reachOf_0 rfl (lv_at hl 0 rfl) ?_
  refine lv_iload_n hx hb d_C_reachOf_1 rfl (lv_at hl 1 rfl) ?_
  refine th_call h0 hS htab hlocks (Nat.le_of_ble_eq_true rfl) (Nat.le_of_ble_eq_true rfl) (ex_runV (C := "LathePieces") (As := [.int (iI (p))]) (rest := []) ⟨hx, hb, hml, hown, hG⟩ (c_C_pieceAt hC cx cf cp cn ce cg cu ct np nt ng nr ia ib pa p (by omega) hnp) (cb_code (n := 1) hG g_315 g_1 g_312 rfl rfl (by decide +kernel) ⟨Nat.le_of_ble_eq_true rfl, Nat.le_of_ble_eq_true rfl⟩) (hG _ g_314) (hG _ gs_C_pieceAt) (kd_V ⟨fun _ _ _ _ q => q, fun U hU hW => ⟨rfl, la_next h0 (fun _ z => z) hS U hU hW, (by show va_P D classes _ U.heap; rw [hU]; exact (va_P.sub hP [2, 3] rfl))⟩⟩ (kd_recv hK hP (q0 := 2) (ci := 5) rfl rfl rfl)) rfl rfl hl.1 rfl (lv_room (Nat.le_of_ble_eq_true rfl)) d_C_reachOf_2 ⟨Nat.le_of_ble_eq_true rfl, Nat.le_of_ble_eq_true rfl⟩) (fun E hE t hla hz ho => ⟨_, ⟨rfl, hE.1, fun q => hE.2 ⟨q.1, q.2.1⟩⟩, hla, wl_Pk hP ho, hD⟩) (fun v9 h9 locs hS => ?_)
  obtain ⟨q1, q2, rfl⟩ := h9
  show W _ _ _ _ _ _ _ _ _ _ _ _ _ _ _ (F0 m9 5 ls [.ref (pa p)])
  obtain ⟨i1, i2, L, hL, hL64, hpr, hbl, hbr, e1, e2⟩ := pc_get hpc hrs q1 q2
  refine lv_astore_n (lv' := [(3, .ref (pa p)), (0, .ref cx), (1, .int (iI (p))), (2, .int (iI (t)))]) hx hb d_C_reachOf_5 rfl hl (by decide) rfl (fun ls hl => ?_)
  refine lv_aload_n hx hb d_C_reachOf_6 rfl (lv_at hl 1 rfl) ?_
  refine lv_iload_n hx hb d_C_reachOf_7 rfl (lv_at hl 3 rfl) ?_
  refine th_call h0 hS htab hlocks (Nat.le_of_ble_eq_true rfl) (Nat.le_of_ble_eq_true rfl) (ex_runV (C := "LathePieces") (As := [.int (iI (t))]) (rest := []) ⟨hx, hb, hml, hown, hG⟩ (c_C_noseAt hC cx cf cp cn ce cg cu ct np nt ng nr ia ib na t (by omega) hnt) (cb_code (n := 1) hG g_374 g_1 g_371 rfl rfl (by decide +kernel) ⟨Nat.le_of_ble_eq_true rfl, Nat.le_of_ble_eq_true rfl⟩) (hG _ g_373) (hG _ gs_C_noseAt) (kd_V ⟨fun _ _ _ _ q => q, fun U hU hW => ⟨rfl, la_next h0 (fun _ z => z) hS U hU hW, (by show va_P D classes _ U.heap; rw [hU]; exact (va_P.sub hP [2, 4] rfl))⟩⟩ (kd_recv hK hP (q0 := 2) (ci := 5) rfl rfl rfl)) rfl rfl hl.1 rfl (lv_room (Nat.le_of_ble_eq_true rfl)) d_C_reachOf_8 ⟨Nat.le_of_ble_eq_true rfl, Nat.le_of_ble_eq_true rfl⟩) (fun E hE t hla hz ho => ⟨_, ⟨rfl, hE.1, fun q => hE.2 ⟨q.2.2.1, q.2.2.2⟩⟩, hla, wl_Pk hP ho, hD⟩) (fun v9 h9 locs hS => ?_)
  obtain ⟨q3, q4, rfl⟩ := h9
  show W _ _ _ _ _ _ _ _ _ _ _ _ _ _ _ (F0 m9 11 ls [.ref (na t)])
  obtain ⟨j1, j2, N, hN, hN12, d1, d2⟩ := no_get hno hrs q3 q4
  have g1 : (ln p).toNat = L := by omega
  have g2 : (no t).toNat = N := by omega
  refine lv_astore (lv' := [(4, .ref (na t)), (3, .ref (pa p)), (0, .ref cx), (1, .int (iI (p))), (2, .int (iI (t)))]) hx hb d_C_reachOf_11 hl (by decide) rfl (fun ls hl => ?_)
  refine lv_iload_n hx hb d_C_reachOf_13 rfl (lv_at hl 3 rfl) ?_
  refine ri_bipush hx hb d_C_reachOf_14 (by decide) ?_
  refine ri_imul hx hb d_C_reachOf_16 ?_
  refine lv_iload_n hx hb d_C_reachOf_17 rfl (lv_at hl 4 rfl) ?_
  refine ri_iadd hx hb d_C_reachOf_18 ?_
  refine lv_istore (lv' := [(5, .int (iI ((p * 6) + t))), (4, .ref (na t)), (3, .ref (pa p)), (0, .ref cx), (1, .int (iI (p))), (2, .int (iI (t)))]) hx hb d_C_reachOf_19 hl (by decide) rfl (fun ls hl => ?_)
  refine lv_aload_n hx hb d_C_reachOf_21 rfl (lv_at hl 3 rfl) ?_
  refine va_get (D := D) (ci := 5) (v := .ref ce) (C := R_C) (T := F_C) (N := 13) hx hb hG in_C hown hK hP 2 rfl rfl 5 (by decide) (hG _ g_67) (fun _ h9 => h9) rfl d_C_reachOf_22 ?_
  refine lv_iload hx hb d_C_reachOf_25 (lv_at hl 0 rfl) ?_
  rcases hrq p t q1 (by omega) q3 (by omega) with h5 | ⟨-, -, a9, b9, h5, h6, h7⟩
  · refine ra_ald (o := none) (v := .null) hx hb hK hP 5 4 rfl rfl (by omega) (by decide) h5 rfl d_C_reachOf_27 ?_
    refine lv_astoreN (lv' := [(6, .null), (5, .int (iI ((p * 6) + t))), (4, .ref (na t)), (3, .ref (pa p)), (0, .ref cx), (1, .int (iI (p))), (2, .int (iI (t)))]) hx hb d_C_reachOf_28 hl (by decide) rfl (fun ls hl => ?_)
    refine lv_aloadN hx hb d_C_reachOf_30 (lv_at hl 0 rfl) ?_
    refine lv_ifnonnullN hx hb d_C_reachOf_32 ?_
    refine ra_new (ci := 3) (fs := [.null]) (C := R_R) (T := F_R) (N := 1) hx hb hG in_R t_R t_R_ok hown g_58 g_376 g_15 hK hP hD hS hA rfl (fun j hj => by rcases (show j = 0 by omega) with rfl <;> rfl) (Nat.le_of_ble_eq_true rfl) (Nat.le_of_ble_eq_true rfl) d_C_reachOf_35 (fun q5 H hP hD hS => ?_)
    refine lv_dup hx hb d_C_reachOf_38 rfl ?_
    refine lv_aload_n hx hb d_C_reachOf_39 rfl (lv_at hl 3 rfl) ?_
    refine va_get (D := D) (ci := 1) (v := .ref (pq p)) (C := R_P) (T := F_P) (N := 4) hx hb hG in_P hown hK hP (i1 + 10) e1 rfl 0 (by decide) (hG _ g_284) (fun _ h9 => h9) rfl d_C_reachOf_40 ?_
    refine lv_aload hx hb d_C_reachOf_43 (lv_at hl 2 rfl) ?_
    refine va_get (D := D) (ci := 0) (v := .ref (nq t)) (C := R_N) (T := F_N) (N := 1) hx hb hG in_N hown hK hP (j1 + 10) d1 rfl 0 (by decide) (hG _ g_356) (fun _ h9 => h9) rfl d_C_reachOf_45 ?_
    refine wd_call (pxW := fun _ _ => False) h0 hS htab hlocks (Nat.le_of_ble_eq_true rfl) (Nat.le_of_ble_eq_true rfl) (ex_runI (As := [.ref (pq p), .ref (nq t)]) (rest := [.ref q5]) (b := q5) ⟨hx, hb, hml, hown, hG⟩ (c_R_init hC q5 (pq p) (nq t) L N (i2 + 9) (j2 + 9) (pf p) (htF N) ((cf, .inr (2, [.ref cr, .int (iI (bg)), .int (iI (la)), .int (iI (lr)), .int (iI (wy))])) :: (cr, .inl (k 0, ai 65 pr)) :: (cx, .inr (5, [.ref cf, .ref cp, .int (iI (np)), .ref cn, .int (iI (nt)), .ref ce, .ref cg, .int (iI (ng)), .ref cu, .ref ct, .int (iI (nr)), .int (iI (ia)), .int (iI (ib))])) :: (cp, .inl (k 2, aq 6 (gQ np pa))) :: (cn, .inl (k 3, aq 6 (gQ nt na))) :: (ce, .inl (k 4, aq 36 rq)) :: (cg, .inl (k 5, aq 6 gg)) :: (cu, .inl (k 0, ai 8 ru)) :: (ct, .inl (k 0, ai 8 rt)) :: tl) e2 d2 hL64 hN12 hpr (htF_rg hN12)) (cb_code (n := 2) hG g_379 g_15 g_377 rfl rfl (by decide +kernel) ⟨Nat.le_of_ble_eq_true rfl, Nat.le_of_ble_eq_true rfl⟩) (hG _ g_378) rfl (hG _ g_379) (kd_preW h0 hS hP hD) rfl rfl hl.1 rfl (lv_room (Nat.le_of_ble_eq_true rfl)) d_C_reachOf_48 ⟨Nat.le_of_ble_eq_true rfl, Nat.le_of_ble_eq_true rfl⟩) (fun E ws9 hE t hwd => hE.elim) (fun v9 ws9 h9 H locs hP hD hS => ?_)
    obtain ⟨q6, q7, rfl, rfl⟩ := h9
    show W _ _ _ _ _ _ _ _ _ _ _ _ _ _ _ (F0 m9 51 ls [.ref q5])
    refine lv_astore (lv' := [(6, .ref q5), (5, .int (iI ((p * 6) + t))), (4, .ref (na t)), (3, .ref (pa p)), (0, .ref cx), (1, .int (iI (p))), (2, .int (iI (t)))]) hx hb d_C_reachOf_51 hl (by decide) rfl (fun ls hl => ?_)
    refine lv_aload_n hx hb d_C_reachOf_53 rfl (lv_at hl 4 rfl) ?_
    refine va_get (D := D) (ci := 5) (v := .ref ce) (C := R_C) (T := F_C) (N := 13) hx hb hG in_C hown hK hP 5 rfl rfl 5 (by decide) (hG _ g_67) (fun _ h9 => h9) rfl d_C_reachOf_54 ?_
    refine lv_iload hx hb d_C_reachOf_57 (lv_at hl 1 rfl) ?_
    refine lv_aload hx hb d_C_reachOf_59 (lv_at hl 0 rfl) ?_
    refine ra_ast hx hb hK hP hD hS 8 4 2 3 rfl rfl rfl rfl (by omega) (by decide) d_C_reachOf_61 (fun H locs hP hD hS => ?_)
    have hP : va_P D classes ((q7, .inl (k 0, ai (L + 1) (loA (pf p) (htF N) N L))) :: (q6, .inl (k 0, ai (L + 1) (liA (pf p) (htF N) N L))) :: (q5, .inr (3, [.ref q7])) :: (cf, .inr (2, [.ref cr, .int (iI (bg)), .int (iI (la)), .int (iI (lr)), .int (iI (wy))])) :: (cr, .inl (k 0, ai 65 pr)) :: (cx, .inr (5, [.ref cf, .ref cp, .int (iI (np)), .ref cn, .int (iI (nt)), .ref ce, .ref cg, .int (iI (ng)), .ref cu, .ref ct, .int (iI (nr)), .int (iI (ia)), .int (iI (ib))])) :: (cp, .inl (k 2, aq 6 (gQ np pa))) :: (cn, .inl (k 3, aq 6 (gQ nt na))) :: (ce, .inl (k 4, aq 36 (zU rq ((p * 6) + t) (some q5)))) :: (cg, .inl (k 5, aq 6 gg)) :: (cu, .inl (k 0, ai 8 ru)) :: (ct, .inl (k 0, ai 8 rt)) :: tl) H := hP
    have hD : va_D (fun q : Nat => s0.heap.size ≤ q) ((q7, .inl (k 0, ai (L + 1) (loA (pf p) (htF N) N L))) :: (q6, .inl (k 0, ai (L + 1) (liA (pf p) (htF N) N L))) :: (q5, .inr (3, [.ref q7])) :: (cf, .inr (2, [.ref cr, .int (iI (bg)), .int (iI (la)), .int (iI (lr)), .int (iI (wy))])) :: (cr, .inl (k 0, ai 65 pr)) :: (cx, .inr (5, [.ref cf, .ref cp, .int (iI (np)), .ref cn, .int (iI (nt)), .ref ce, .ref cg, .int (iI (ng)), .ref cu, .ref ct, .int (iI (nr)), .int (iI (ia)), .int (iI (ib))])) :: (cp, .inl (k 2, aq 6 (gQ np pa))) :: (cn, .inl (k 3, aq 6 (gQ nt na))) :: (ce, .inl (k 4, aq 36 (zU rq ((p * 6) + t) (some q5)))) :: (cg, .inl (k 5, aq 6 gg)) :: (cu, .inl (k 0, ai 8 ru)) :: (ct, .inl (k 0, ai 8 rt)) :: tl) := hD
    refine lv_aload hx hb d_C_reachOf_62 (lv_at hl 0 rfl) ?_
    replace hP := wl_Pp hP (pm_new [(q7, .inl (k 0, ai (L + 1) (loA (pf p) (htF N) N L))), (q6, .inl (k 0, ai (L + 1) (liA (pf p) (htF N) N L))), (q5, .inr (3, [.ref q7]))] [(cf, .inr (2, [.ref cr, .int (iI (bg)), .int (iI (la)), .int (iI (lr)), .int (iI (wy))])), (cr, .inl (k 0, ai 65 pr)), (cx, .inr (5, [.ref cf, .ref cp, .int (iI (np)), .ref cn, .int (iI (nt)), .ref ce, .ref cg, .int (iI (ng)), .ref cu, .ref ct, .int (iI (nr)), .int (iI (ia)), .int (iI (ib))])), (cp, .inl (k 2, aq 6 (gQ np pa))), (cn, .inl (k 3, aq 6 (gQ nt na))), (ce, .inl (k 4, aq 36 (zU rq ((p * 6) + t) (some q5)))), (cg, .inl (k 5, aq 6 gg)), (cu, .inl (k 0, ai 8 ru)), (ct, .inl (k 0, ai 8 rt))] tl)
    replace hD := wl_Dp hD (pm_new [(q7, .inl (k 0, ai (L + 1) (loA (pf p) (htF N) N L))), (q6, .inl (k 0, ai (L + 1) (liA (pf p) (htF N) N L))), (q5, .inr (3, [.ref q7]))] [(cf, .inr (2, [.ref cr, .int (iI (bg)), .int (iI (la)), .int (iI (lr)), .int (iI (wy))])), (cr, .inl (k 0, ai 65 pr)), (cx, .inr (5, [.ref cf, .ref cp, .int (iI (np)), .ref cn, .int (iI (nt)), .ref ce, .ref cg, .int (iI (ng)), .ref cu, .ref ct, .int (iI (nr)), .int (iI (ia)), .int (iI (ib))])), (cp, .inl (k 2, aq 6 (gQ np pa))), (cn, .inl (k 3, aq 6 (gQ nt na))), (ce, .inl (k 4, aq 36 (zU rq ((p * 6) + t) (some q5)))), (cg, .inl (k 5, aq 6 gg)), (cu, .inl (k 0, ai 8 ru)), (ct, .inl (k 0, ai 8 rt))] tl)
    exact re_a hx hb hr (Or.inl ⟨_, rfl⟩) hlocks (fun t ht hW => ⟨_, ⟨q1, q2, q3, q4, q5, q7, [(q7, .inl (k 0, ai (L + 1) (loA (pf p) (htF N) N L))), (q6, .inl (k 0, ai (L + 1) (liA (pf p) (htF N) N L))), (q5, .inr (3, [.ref q7]))], _, rfl, rfl, hrq.put (a := q5) (b := q7) ⟨q1, q2⟩ ⟨q3, q4⟩ hnp.2 hnt.2 (by simp) (by rw [g1, g2]; simp), List.mem_append_left _ (by simp), List.mem_append_left _ (by rw [g1, g2]; simp)⟩, wd_next h0 hS hP hD t ht hW⟩) hS.2.2 (Nat.le_of_ble_eq_true rfl) (Nat.le_of_ble_eq_true rfl) d_C_reachOf_64
  · refine ra_ald (o := some a9) (v := .ref a9) hx hb hK hP 5 4 rfl rfl (by omega) (by decide) h5 rfl d_C_reachOf_27 ?_
    refine lv_astore (lv' := [(6, .ref a9), (5, .int (iI ((p * 6) + t))), (4, .ref (na t)), (3, .ref (pa p)), (0, .ref cx), (1, .int (iI (p))), (2, .int (iI (t)))]) hx hb d_C_reachOf_28 hl (by decide) rfl (fun ls hl => ?_)
    refine lv_aload hx hb d_C_reachOf_30 (lv_at hl 0 rfl) ?_
    refine lv_ifnonnull (tgt := 62) hx hb d_C_reachOf_32 (by decide) ?_
    refine lv_aload hx hb d_C_reachOf_62 (lv_at hl 0 rfl) ?_
    exact re_a hx hb hr (Or.inl ⟨_, rfl⟩) hlocks (fun t ht hW => ⟨_, ⟨q1, q2, q3, q4, a9, b9, [], rq, rfl, rfl, hrq, h6, h7⟩, wd_next h0 hS hP hD t ht hW⟩) hS.2.2 (Nat.le_of_ble_eq_true rfl) (Nat.le_of_ble_eq_true rfl) d_C_reachOf_64

