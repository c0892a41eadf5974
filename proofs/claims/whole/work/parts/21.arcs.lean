theorem sq_rg {a A : Int} (h : -A ≤ a ∧ a ≤ A) : 0 ≤ a * a ∧ a * a ≤ A * A := by
  rcases Int.le_total 0 a with q | q
  · exact ⟨Int.mul_nonneg q q, sq_mono q h.2⟩
  · rw [← Int.neg_mul_neg]
    exact ⟨Int.mul_nonneg (by omega) (by omega), sq_mono (by omega) (by omega)⟩
theorem sq_mid {a b x c F : Int} (h : a ≤ x ∧ x ≤ b) (ha : (a - c) * (a - c) ≤ F) (hb : (b - c) * (b - c) ≤ F) : (x - c) * (x - c) ≤ F := by
  rcases Int.le_total c x with q | q
  · exact Int.le_trans (sq_mono (by omega) (by omega)) hb
  · have e1 : (x - c) * (x - c) = (c - x) * (c - x) := by rw [← Int.neg_mul_neg, Int.neg_sub]
    have e2 : (a - c) * (a - c) = (c - a) * (c - a) := by rw [← Int.neg_mul_neg, Int.neg_sub]
    have := sq_mono (a := c - x) (b := c - a) (by omega) (by omega)
    omega
/-- an ARC's rules, beyond the numbers' -/
def arcOk (la lr at9 rd xc xh up : Int) : Prop := (la - xc) * (la - xc) + (lr - xh) * (lr - xh) = (at9 - xc) * (at9 - xc) + (rd - xh) * (rd - xh) ∧ (up ≠ 0 → xh ≤ lr ∧ xh ≤ rd) ∧ (up = 0 → lr ≤ xh ∧ rd ≤ xh)
/-- the radius of an ARC at x -/
noncomputable def arcF (far xc xh up x : Int) : Int := max 0 (min 500 (if up = 0 then xh - isq (far - (x - xc) * (x - xc)) else xh + isq (far - (x - xc) * (x - xc))))
/-- the radius of a LINE at x -/
def lineF (la lr at9 rd x : Int) : Int := lr + ((x - la) * (rd - lr)) / (at9 - la)
theorem arcF_rg (far xc xh up x : Int) : 0 ≤ arcF far xc xh up x ∧ arcF far xc xh up x ≤ 500 := by
  unfold arcF
  omega
theorem lineF_rg {la lr at9 rd x : Int} (hla : la < at9) (hx : la ≤ x ∧ x ≤ at9) (hlr : 0 ≤ lr ∧ lr ≤ 500) (hrd : 0 ≤ rd ∧ rd ≤ 500) : 0 ≤ lineF la lr at9 rd x ∧ lineF la lr at9 rd x ≤ 500 := by
  unfold lineF
  have d0 : 0 < at9 - la := by omega
  rcases Int.le_total lr rd with q | q
  · have h1 : 0 ≤ (x - la) * (rd - lr) := Int.mul_nonneg (by omega) (by omega)
    have h2 : (x - la) * (rd - lr) ≤ (at9 - la) * (rd - lr) := Int.mul_le_mul_of_nonneg_right (by omega) (by omega)
    have h3 : 0 ≤ ((x - la) * (rd - lr)) / (at9 - la) := Int.ediv_nonneg h1 (by omega)
    have h4 : ((x - la) * (rd - lr)) / (at9 - la) ≤ rd - lr := Int.le_trans (Int.ediv_le_ediv d0 h2) (by rw [Int.mul_ediv_cancel_left _ (by omega)]; exact Int.le_refl _)
    omega
  · have h1 : (x - la) * (lr - rd) ≤ (at9 - la) * (lr - rd) := Int.mul_le_mul_of_nonneg_right (by omega) (by omega)
    have h0 : 0 ≤ (x - la) * (lr - rd) := Int.mul_nonneg (by omega) (by omega)
    have e1 : (x - la) * (rd - lr) = -((x - la) * (lr - rd)) := by rw [← Int.mul_neg, Int.neg_sub]
    have e2 : (at9 - la) * (rd - lr) = -((at9 - la) * (lr - rd)) := by rw [← Int.mul_neg, Int.neg_sub]
    have h3 : ((x - la) * (rd - lr)) / (at9 - la) ≤ 0 := by
      have := Int.ediv_le_ediv d0 (a := (x - la) * (rd - lr)) (b := 0) (by omega)
      rwa [Int.zero_ediv] at this
    have h4 : rd - lr ≤ ((x - la) * (rd - lr)) / (at9 - la) := by
      have := Int.ediv_le_ediv d0 (a := (at9 - la) * (rd - lr)) (b := (x - la) * (rd - lr)) (by omega)
      rwa [Int.mul_ediv_cancel_left _ (by omega)] at this
    omega
/-- LIFT and REACHED, as the class works them out -/
def liF (r hh : Int → Int) (n L x : Int) : Int := itF max (fun y => r y + hh ((y - x).natAbs : Int)) 0 (max (x - n) 0) (min (x + n) L - max (x - n) 0 + 1).toNat
def loF (r hh : Int → Int) (n L x : Int) : Int := itF min (fun y => r y - hh ((y - x).natAbs : Int)) 512 (max (x - n) 0) (min (x + n) L - max (x - n) 0 + 1).toNat
theorem liF_rg {r hh : Int → Int} {n L x : Int} (hn : 0 ≤ n) (hr : ∀ j : Int, 0 ≤ j → j ≤ L → 0 ≤ r j ∧ r j ≤ 500) (hh9 : ∀ j : Int, 0 ≤ j → j ≤ n → 0 ≤ hh j ∧ hh j ≤ 12) : 0 ≤ liF r hh n L x ∧ liF r hh n L x ≤ 512 :=
  itF_max _ (by omega) (fun j g1 g2 => by
    have := hr j (by omega) (by omega)
    have := hh9 ((j - x).natAbs : Int) (by omega) (by omega)
    omega)
theorem loF_rg {r hh : Int → Int} {n L x : Int} (hn : 0 ≤ n) (hx : 0 ≤ x ∧ x ≤ L) (hr : ∀ j : Int, 0 ≤ j → j ≤ L → 0 ≤ r j ∧ r j ≤ 512) (hh9 : ∀ j : Int, 0 ≤ j → j ≤ n → 0 ≤ hh j ∧ hh j ≤ 12) : -12 ≤ loF r hh n L x ∧ loF r hh n L x ≤ 512 := by
  refine ⟨(itF_min (c := -12) (b := 512) _ (by omega) (fun j g1 g2 => by
    have := hr j (by omega) (by omega)
    have := hh9 ((j - x).natAbs : Int) (by omega) (by omega)
    omega)).1, ?_⟩
  unfold loF
  obtain ⟨N, hN⟩ : ∃ N : Nat, (min (x + n) L - max (x - n) 0 + 1).toNat = N + 1 := ⟨(min (x + n) L - max (x - n) 0 + 1).toNat - 1, by omega⟩
  rw [hN, itF_s]
  have := hr (max (x - n) 0 + N) (by omega) (by omega)
  have := hh9 ((max (x - n) 0 + N - x).natAbs : Int) (by omega) (by omega)
  omega
set_option maxHeartbeats 4000000 in
set_option maxRecDepth 100000 in
theorem c_F_arcFits {l : Launch} {s0 : State} {D : va_G} {k : Nat → ClassId} (hC : Cx l s0 D k) (af ar : Nat) (bg la lr wy : Int) (at9 rd xc xh up : Int) (hla : 0 ≤ la ∧ la < at9 ∧ at9 ≤ 64) (hlr : 0 ≤ lr ∧ lr ≤ 500) (hrd : 0 ≤ rd ∧ rd ≤ 500) (hxc : -200 ≤ xc ∧ xc ≤ 300) (hxh : -1000 ≤ xh ∧ xh ≤ 1500) (hup : In32 up) : RdM l s0 y_F_arcFits { frames := 1, cells := 0, slots := 0, locals := 21 } [.ref af, .int (iI (at9)), .int (iI (rd)), .int (iI (xc)), .int (iI (xh)), .int (iI (up))] (fun H => va_P D classes ([(af, .inr (2, [.ref ar, .int (iI (bg)), .int (iI (la)), .int (iI (lr)), .int (iI (wy))]))]) H) (fun v => v = some (.int (iI (1))) ∧ arcOk la lr at9 rd xc xh up ∨ v = some (.int (iI (0))) ∧ ¬ arcOk la lr at9 rd xc xh up) := by
  refine ex_ofW (cc := b_F_arcFits) (maxL := 8) (ret := (some .boolean)) (hh := []) (by decide +kernel) (Or.inl ⟨g_238, rfl⟩) ?_
  intro p9 e9 s m9 args9 below9 meth9 c9 s9 B9 hml htab hv
  obtain ⟨rfl, h0, hP⟩ := hv
  have hx := B9.exec
  have hb := B9.bytes
  have hr := B9.returns
  have hG := atoms_spec (ws := GW) B9.pre
  have hown : s.vm.findClass "LathePieces$Profile" = some m9.cls := findClass_of_methodNamed B9.named
  have hlocks := B9.notSynchronized
  have hK := cx_K hC h0
  have hS : va_S (aL s0) s.heap s.heap [] := va_S.rf
  have hl := lv_entry ([.ref af, .int (iI (at9)), .int (iI (rd)), .int (iI (xc)), .int (iI (xh)), .int (iI (up))]) (n := 8) (Nat.le_of_ble_eq_true rfl)
  rw [lg_entry_eq]
  generalize (lg_sl ([.ref af, .int (iI (at9)), .int (iI (rd)), .int (iI (xc)), .int (iI (xh)), .int (iI (up))]) ++ List.replicate (8 - (lg_sl ([.ref af, .int (iI (at9)), .int (iI (rd)), .int (iI (xc)), .int (iI (xh)), .int (iI (up))])).length) Slot.unset).toArray = ls at hl ⊢
  replace hl : lv_has ls 8 [(0, .ref af), (1, .int (iI (at9))), (2, .int (iI (rd))), (3, .int (iI (xc))), (4, .int (iI (xh))), (5, .int (iI (up)))] := hl
  have g1 : 0 ≤ (la - xc) * (la - xc) ∧ (la - xc) * (la - xc) ≤ 364 * 364 := sq_rg (by omega)
  have g2 : 0 ≤ (lr - xh) * (lr - xh) ∧ (lr - xh) * (lr - xh) ≤ 1500 * 1500 := sq_rg (by omega)
  have g3 : 0 ≤ (at9 - xc) * (at9 - xc) ∧ (at9 - xc) * (at9 - xc) ≤ 364 * 364 := sq_rg (by omega)
  have g4 : 0 ≤ (rd - xh) * (rd - xh) ∧ (rd - xh) * (rd - xh) ≤ 1500 * 1500 := sq_rg (by omega)
  refine lv_aload_n hx hb d_F_arcFits_0 rfl (lv_at hl 0 rfl) ?_
  refine va_get (D := D) (ci := 2) (v := .int (iI (la))) (C := R_F) (T := F_F) (N := 5) hx hb hG in_F hown hK hP 0 rfl rfl 2 (by decide) (hG _ g_36) (fun _ h9 => h9) rfl d_F_arcFits_1 ?_
  refine lv_iload_n hx hb d_F_arcFits_4 rfl (lv_at hl 3 rfl) ?_
  refine ri_isub hx hb d_F_arcFits_5 ?_
  refine lv_aload_n hx hb d_F_arcFits_6 rfl (lv_at hl 0 rfl) ?_
  refine va_get (D := D) (ci := 2) (v := .int (iI (lr))) (C := R_F) (T := F_F) (N := 5) hx hb hG in_F hown hK hP 0 rfl rfl 3 (by decide) (hG _ g_38) (fun _ h9 => h9) rfl d_F_arcFits_7 ?_
  refine lv_iload hx hb d_F_arcFits_10 (lv_at hl 4 rfl) ?_
  refine ri_isub hx hb d_F_arcFits_12 ?_
  refine rd_call (ex_runS (As := [.int (iI (la - xc)), .int (iI (lr - xh))]) (rest := []) ⟨hx, hb, hml, hown, hG⟩ (c_F_squareFar l (la - xc) (lr - xh)) (cb_code (n := 2) hG g_241 g_2 g_239 rfl rfl (by decide +kernel) ⟨Nat.le_of_ble_eq_true rfl, Nat.le_of_ble_eq_true rfl⟩) (hG _ g_240) ⟨fun _ _ _ _ q => q, fun _ _ _ => rfl⟩ rfl rfl hl.1 rfl (lv_room (Nat.le_of_ble_eq_true rfl)) d_F_arcFits_13 ⟨Nat.le_of_ble_eq_true rfl, Nat.le_of_ble_eq_true rfl⟩) (fun v9 h9 => ?_)
  obtain rfl := h9
  show W _ _ _ _ _ _ _ _ _ _ _ _ _ _ _ (F0 m9 16 ls [.int (iI ((la - xc) * (la - xc) + (lr - xh) * (lr - xh)))])
  refine lv_iload_n hx hb d_F_arcFits_16 rfl (lv_at hl 1 rfl) ?_
  refine lv_iload_n hx hb d_F_arcFits_17 rfl (lv_at hl 3 rfl) ?_
  refine ri_isub hx hb d_F_arcFits_18 ?_
  refine lv_iload_n hx hb d_F_arcFits_19 rfl (lv_at hl 2 rfl) ?_
  refine lv_iload hx hb d_F_arcFits_20 (lv_at hl 4 rfl) ?_
  refine ri_isub hx hb d_F_arcFits_22 ?_
  refine rd_call (ex_runS (As := [.int (iI (at9 - xc)), .int (iI (rd - xh))]) (rest := [.int (iI ((la - xc) * (la - xc) + (lr - xh) * (lr - xh)))]) ⟨hx, hb, hml, hown, hG⟩ (c_F_squareFar l (at9 - xc) (rd - xh)) (cb_code (n := 2) hG g_241 g_2 g_239 rfl rfl (by decide +kernel) ⟨Nat.le_of_ble_eq_true rfl, Nat.le_of_ble_eq_true rfl⟩) (hG _ g_240) ⟨fun _ _ _ _ q => q, fun _ _ _ => rfl⟩ rfl rfl hl.1 rfl (lv_room (Nat.le_of_ble_eq_true rfl)) d_F_arcFits_23 ⟨Nat.le_of_ble_eq_true rfl, Nat.le_of_ble_eq_true rfl⟩) (fun v9 h9 => ?_)
  obtain rfl := h9
  show W _ _ _ _ _ _ _ _ _ _ _ _ _ _ _ (F0 m9 26 ls [.int (iI ((at9 - xc) * (at9 - xc) + (rd - xh) * (rd - xh))), .int (iI ((la - xc) * (la - xc) + (lr - xh) * (lr - xh)))])
  refine ri_icmp_ne (tgt := 33) hx hb d_F_arcFits_26 (by decide) (by omega) (by omega) (fun c26 => ?_) (fun c26 => ?_)
  · refine ri_iconst hx hb d_F_arcFits_33 ?_
    refine lv_istore (lv' := [(6, .int (iI (0))), (0, .ref af), (1, .int (iI (at9))), (2, .int (iI (rd))), (3, .int (iI (xc))), (4, .int (iI (xh))), (5, .int (iI (up)))]) hx hb d_F_arcFits_34 hl (by decide) rfl (fun ls hl => ?_)
    refine lv_iload hx hb d_F_arcFits_36 (lv_at hl 6 rfl) ?_
    refine ri_if_eq (tgt := 64) hx hb d_F_arcFits_38 (by decide) (by omega) (fun c38 => ?_) (fun c38 => ?_)
    · refine lv_aload_n hx hb d_F_arcFits_64 rfl (lv_at hl 1 rfl) ?_
      refine va_get (D := D) (ci := 2) (v := .int (iI (lr))) (C := R_F) (T := F_F) (N := 5) hx hb hG in_F hown hK hP 0 rfl rfl 3 (by decide) (hG _ g_38) (fun _ h9 => h9) rfl d_F_arcFits_65 ?_
      refine lv_iload hx hb d_F_arcFits_68 (lv_at hl 5 rfl) ?_
      refine ri_icmp_gt (tgt := 83) hx hb d_F_arcFits_70 (by decide) (by omega) (by omega) (fun c70 => ?_) (fun c70 => ?_)
      · refine ri_iconst hx hb d_F_arcFits_83 ?_
        refine lv_istore (lv' := [(7, .int (iI (0))), (6, .int (iI (0))), (0, .ref af), (1, .int (iI (at9))), (2, .int (iI (rd))), (3, .int (iI (xc))), (4, .int (iI (xh))), (5, .int (iI (up)))]) hx hb d_F_arcFits_84 hl (by decide) rfl (fun ls hl => ?_)
        refine lv_iload hx hb d_F_arcFits_86 (lv_at hl 1 rfl) ?_
        refine ri_if_eq (tgt := 100) hx hb d_F_arcFits_88 (by decide) (by omega) (fun c88 => ?_) (fun c88 => ?_)
        · refine ri_iconst hx hb d_F_arcFits_100 ?_
          exact re_z hx hb hr hlocks (Or.inl rfl) (fun t ht hW => ⟨Or.inr ⟨rfl, fun q => by unfold arcOk at q; omega⟩, ht⟩) (fun z hz => nomatch hz) (Nat.le_of_ble_eq_true rfl) (Nat.le_of_ble_eq_true rfl) d_F_arcFits_101
        · exact absurd c88 (by decide)
      · refine lv_iload_n hx hb d_F_arcFits_73 rfl (lv_at hl 3 rfl) ?_
        refine lv_iload hx hb d_F_arcFits_74 (lv_at hl 5 rfl) ?_
        refine ri_icmp_gt (tgt := 83) hx hb d_F_arcFits_76 (by decide) (by omega) (by omega) (fun c76 => ?_) (fun c76 => ?_)
        · refine ri_iconst hx hb d_F_arcFits_83 ?_
          refine lv_istore (lv' := [(7, .int (iI (0))), (6, .int (iI (0))), (0, .ref af), (1, .int (iI (at9))), (2, .int (iI (rd))), (3, .int (iI (xc))), (4, .int (iI (xh))), (5, .int (iI (up)))]) hx hb d_F_arcFits_84 hl (by decide) rfl (fun ls hl => ?_)
          refine lv_iload hx hb d_F_arcFits_86 (lv_at hl 1 rfl) ?_
          refine ri_if_eq (tgt := 100) hx hb d_F_arcFits_88 (by decide) (by omega) (fun c88 => ?_) (fun c88 => ?_)
          · refine ri_iconst hx hb d_F_arcFits_100 ?_
            exact re_z hx hb hr hlocks (Or.inl rfl) (fun t ht hW => ⟨Or.inr ⟨rfl, fun q => by unfold arcOk at q; omega⟩, ht⟩) (fun z hz => nomatch hz) (Nat.le_of_ble_eq_true rfl) (Nat.le_of_ble_eq_true rfl) d_F_arcFits_101
          · exact absurd c88 (by decide)
        · refine ri_iconst hx hb d_F_arcFits_79 ?_
          refine lv_goto (tgt := 84) hx hb d_F_arcFits_80 (by decide) ?_
          refine lv_istore (lv' := [(7, .int (iI (1))), (6, .int (iI (0))), (0, .ref af), (1, .int (iI (at9))), (2, .int (iI (rd))), (3, .int (iI (xc))), (4, .int (iI (xh))), (5, .int (iI (up)))]) hx hb d_F_arcFits_84 hl (by decide) rfl (fun ls hl => ?_)
          refine lv_iload hx hb d_F_arcFits_86 (lv_at hl 1 rfl) ?_
          refine ri_if_eq (tgt := 100) hx hb d_F_arcFits_88 (by decide) (by omega) (fun c88 => ?_) (fun c88 => ?_)
          · refine ri_iconst hx hb d_F_arcFits_100 ?_
            exact re_z hx hb hr hlocks (Or.inl rfl) (fun t ht hW => ⟨Or.inr ⟨rfl, fun q => by unfold arcOk at q; omega⟩, ht⟩) (fun z hz => nomatch hz) (Nat.le_of_ble_eq_true rfl) (Nat.le_of_ble_eq_true rfl) d_F_arcFits_101
          · exact absurd c88 (by decide)
    · refine lv_aload_n hx hb d_F_arcFits_41 rfl (lv_at hl 1 rfl) ?_
      refine va_get (D := D) (ci := 2) (v := .int (iI (lr))) (C := R_F) (T := F_F) (N := 5) hx hb hG in_F hown hK hP 0 rfl rfl 3 (by decide) (hG _ g_38) (fun _ h9 => h9) rfl d_F_arcFits_42 ?_
      refine lv_iload hx hb d_F_arcFits_45 (lv_at hl 5 rfl) ?_
      refine ri_icmp_lt (tgt := 60) hx hb d_F_arcFits_47 (by decide) (by omega) (by omega) (fun c47 => ?_) (fun c47 => ?_)
      · refine ri_iconst hx hb d_F_arcFits_60 ?_
        refine lv_goto (tgt := 84) hx hb d_F_arcFits_61 (by decide) ?_
        refine lv_istore (lv' := [(7, .int (iI (0))), (6, .int (iI (0))), (0, .ref af), (1, .int (iI (at9))), (2, .int (iI (rd))), (3, .int (iI (xc))), (4, .int (iI (xh))), (5, .int (iI (up)))]) hx hb d_F_arcFits_84 hl (by decide) rfl (fun ls hl => ?_)
        refine lv_iload hx hb d_F_arcFits_86 (lv_at hl 1 rfl) ?_
        refine ri_if_eq (tgt := 100) hx hb d_F_arcFits_88 (by decide) (by omega) (fun c88 => ?_) (fun c88 => ?_)
        · refine ri_iconst hx hb d_F_arcFits_100 ?_
          exact re_z hx hb hr hlocks (Or.inl rfl) (fun t ht hW => ⟨Or.inr ⟨rfl, fun q => by unfold arcOk at q; omega⟩, ht⟩) (fun z hz => nomatch hz) (Nat.le_of_ble_eq_true rfl) (Nat.le_of_ble_eq_true rfl) d_F_arcFits_101
        · exact absurd c88 (by decide)
      · refine lv_iload_n hx hb d_F_arcFits_50 rfl (lv_at hl 3 rfl) ?_
        refine lv_iload hx hb d_F_arcFits_51 (lv_at hl 5 rfl) ?_
        refine ri_icmp_lt (tgt := 60) hx hb d_F_arcFits_53 (by decide) (by omega) (by omega) (fun c53 => ?_) (fun c53 => ?_)
        · refine ri_iconst hx hb d_F_arcFits_60 ?_
          refine lv_goto (tgt := 84) hx hb d_F_arcFits_61 (by decide) ?_
          refine lv_istore (lv' := [(7, .int (iI (0))), (6, .int (iI (0))), (0, .ref af), (1, .int (iI (at9))), (2, .int (iI (rd))), (3, .int (iI (xc))), (4, .int (iI (xh))), (5, .int (iI (up)))]) hx hb d_F_arcFits_84 hl (by decide) rfl (fun ls hl => ?_)
          refine lv_iload hx hb d_F_arcFits_86 (lv_at hl 1 rfl) ?_
          refine ri_if_eq (tgt := 100) hx hb d_F_arcFits_88 (by decide) (by omega) (fun c88 => ?_) (fun c88 => ?_)
          · refine ri_iconst hx hb d_F_arcFits_100 ?_
            exact re_z hx hb hr hlocks (Or.inl rfl) (fun t ht hW => ⟨Or.inr ⟨rfl, fun q => by unfold arcOk at q; omega⟩, ht⟩) (fun z hz => nomatch hz) (Nat.le_of_ble_eq_true rfl) (Nat.le_of_ble_eq_true rfl) d_F_arcFits_101
          · exact absurd c88 (by decide)
        · refine ri_iconst hx hb d_F_arcFits_56 ?_
          refine lv_goto (tgt := 84) hx hb d_F_arcFits_57 (by decide) ?_
          refine lv_istore (lv' := [(7, .int (iI (1))), (6, .int (iI (0))), (0, .ref af), (1, .int (iI (at9))), (2, .int (iI (rd))), (3, .int (iI (xc))), (4, .int (iI (xh))), (5, .int (iI (up)))]) hx hb d_F_arcFits_84 hl (by decide) rfl (fun ls hl => ?_)
          refine lv_iload hx hb d_F_arcFits_86 (lv_at hl 1 rfl) ?_
          refine ri_if_eq (tgt := 100) hx hb d_F_arcFits_88 (by decide) (by omega) (fun c88 => ?_) (fun c88 => ?_)
          · refine ri_iconst hx hb d_F_arcFits_100 ?_
            exact re_z hx hb hr hlocks (Or.inl rfl) (fun t ht hW => ⟨Or.inr ⟨rfl, fun q => by unfold arcOk at q; omega⟩, ht⟩) (fun z hz => nomatch hz) (Nat.le_of_ble_eq_true rfl) (Nat.le_of_ble_eq_true rfl) d_F_arcFits_101
          · exact absurd c88 (by decide)
  · refine ri_iconst hx hb d_F_arcFits_29 ?_
    refine lv_goto (tgt := 34) hx hb d_F_arcFits_30 (by decide) ?_
    refine lv_istore (lv' := [(6, .int (iI (1))), (0, .ref af), (1, .int (iI (at9))), (2, .int (iI (rd))), (3, .int (iI (xc))), (4, .int (iI (xh))), (5, .int (iI (up)))]) hx hb d_F_arcFits_34 hl (by decide) rfl (fun ls hl => ?_)
    refine lv_iload hx hb d_F_arcFits_36 (lv_at hl 6 rfl) ?_
    refine ri_if_eq (tgt := 64) hx hb d_F_arcFits_38 (by decide) (by omega) (fun c38 => ?_) (fun c38 => ?_)
    · refine lv_aload_n hx hb d_F_arcFits_64 rfl (lv_at hl 1 rfl) ?_
      refine va_get (D := D) (ci := 2) (v := .int (iI (lr))) (C := R_F) (T := F_F) (N := 5) hx hb hG in_F hown hK hP 0 rfl rfl 3 (by decide) (hG _ g_38) (fun _ h9 => h9) rfl d_F_arcFits_65 ?_
      refine lv_iload hx hb d_F_arcFits_68 (lv_at hl 5 rfl) ?_
      refine ri_icmp_gt (tgt := 83) hx hb d_F_arcFits_70 (by decide) (by omega) (by omega) (fun c70 => ?_) (fun c70 => ?_)
      · refine ri_iconst hx hb d_F_arcFits_83 ?_
        refine lv_istore (lv' := [(7, .int (iI (0))), (6, .int (iI (1))), (0, .ref af), (1, .int (iI (at9))), (2, .int (iI (rd))), (3, .int (iI (xc))), (4, .int (iI (xh))), (5, .int (iI (up)))]) hx hb d_F_arcFits_84 hl (by decide) rfl (fun ls hl => ?_)
        refine lv_iload hx hb d_F_arcFits_86 (lv_at hl 1 rfl) ?_
        refine ri_if_eq (tgt := 100) hx hb d_F_arcFits_88 (by decide) (by omega) (fun c88 => ?_) (fun c88 => ?_)
        · exact absurd c88 (by decide)
        · refine lv_iload hx hb d_F_arcFits_91 (lv_at hl 0 rfl) ?_
          refine ri_if_eq (tgt := 100) hx hb d_F_arcFits_93 (by decide) (by omega) (fun c93 => ?_) (fun c93 => ?_)
          · refine ri_iconst hx hb d_F_arcFits_100 ?_
            exact re_z hx hb hr hlocks (Or.inl rfl) (fun t ht hW => ⟨Or.inr ⟨rfl, fun q => by unfold arcOk at q; omega⟩, ht⟩) (fun z hz => nomatch hz) (Nat.le_of_ble_eq_true rfl) (Nat.le_of_ble_eq_true rfl) d_F_arcFits_101
          · exact absurd c93 (by decide)
      · refine lv_iload_n hx hb d_F_arcFits_73 rfl (lv_at hl 3 rfl) ?_
        refine lv_iload hx hb d_F_arcFits_74 (lv_at hl 5 rfl) ?_
        refine ri_icmp_gt (tgt := 83) hx hb d_F_arcFits_76 (by decide) (by omega) (by omega) (fun c76 => ?_) (fun c76 => ?_)
        · refine ri_iconst hx hb d_F_arcFits_83 ?_
          refine lv_istore (lv' := [(7, .int (iI (0))), (6, .int (iI (1))), (0, .ref af), (1, .int (iI (at9))), (2, .int (iI (rd))), (3, .int (iI (xc))), (4, .int (iI (xh))), (5, .int (iI (up)))]) hx hb d_F_arcFits_84 hl (by decide) rfl (fun ls hl => ?_)
          refine lv_iload hx hb d_F_arcFits_86 (lv_at hl 1 rfl) ?_
          refine ri_if_eq (tgt := 100) hx hb d_F_arcFits_88 (by decide) (by omega) (fun c88 => ?_) (fun c88 => ?_)
          · exact absurd c88 (by decide)
          · refine lv_iload hx hb d_F_arcFits_91 (lv_at hl 0 rfl) ?_
            refine ri_if_eq (tgt := 100) hx hb d_F_arcFits_93 (by decide) (by omega) (fun c93 => ?_) (fun c93 => ?_)
            · refine ri_iconst hx hb d_F_arcFits_100 ?_
              exact re_z hx hb hr hlocks (Or.inl rfl) (fun t ht hW => ⟨Or.inr ⟨rfl, fun q => by unfold arcOk at q; omega⟩, ht⟩) (fun z hz => nomatch hz) (Nat.le_of_ble_eq_true rfl) (Nat.le_of_ble_eq_true rfl) d_F_arcFits_101
            · exact absurd c93 (by decide)
        · refine ri_iconst hx hb d_F_arcFits_79 ?_
          refine lv_goto (tgt := 84) hx hb d_F_arcFits_80 (by decide) ?_
          refine lv_istore (lv' := [(7, .int (iI (1))), (6, .int (iI (1))), (0, .ref af), (1, .int (iI (at9))), (2, .int (iI (rd))), (3, .int (iI (xc))), (4, .int (iI (xh))), (5, .int (iI (up)))]) hx hb d_F_arcFits_84 hl (by decide) rfl (fun ls hl => ?_)
          refine lv_iload hx hb d_F_arcFits_86 (lv_at hl 1 rfl) ?_
          refine ri_if_eq (tgt := 100) hx hb d_F_arcFits_88 (by decide) (by omega) (fun c88 => ?_) (fun c88 => ?_)
          · exact absurd c88 (by decide)
          · refine lv_iload hx hb d_F_arcFits_91 (lv_at hl 0 rfl) ?_
            refine ri_if_eq (tgt := 100) hx hb d_F_arcFits_93 (by decide) (by omega) (fun c93 => ?_) (fun c93 => ?_)
            · exact absurd c93 (by decide)
            · refine ri_iconst hx hb d_F_arcFits_96 ?_
              refine lv_goto (tgt := 101) hx hb d_F_arcFits_97 (by decide) ?_
              exact re_z hx hb hr hlocks (Or.inr rfl) (fun t ht hW => ⟨Or.inl ⟨rfl, by omega, fun q => by omega, fun q => by omega⟩, ht⟩) (fun z hz => nomatch hz) (Nat.le_of_ble_eq_true rfl) (Nat.le_of_ble_eq_true rfl) d_F_arcFits_101
    · refine lv_aload_n hx hb d_F_arcFits_41 rfl (lv_at hl 1 rfl) ?_
      refine va_get (D := D) (ci := 2) (v := .int (iI (lr))) (C := R_F) (T := F_F) (N := 5) hx hb hG in_F hown hK hP 0 rfl rfl 3 (by decide) (hG _ g_38) (fun _ h9 => h9) rfl d_F_arcFits_42 ?_
      refine lv_iload hx hb d_F_arcFits_45 (lv_at hl 5 rfl) ?_
      refine ri_icmp_lt (tgt := 60) hx hb d_F_arcFits_47 (by decide) (by omega) (by omega) (fun c47 => ?_) (fun c47 => ?_)
      · refine ri_iconst hx hb d_F_arcFits_60 ?_
        refine lv_goto (tgt := 84) hx hb d_F_arcFits_61 (by decide) ?_
        refine lv_istore (lv' := [(7, .int (iI (0))), (6, .int (iI (1))), (0, .ref af), (1, .int (iI (at9))), (2, .int (iI (rd))), (3, .int (iI (xc))), (4, .int (iI (xh))), (5, .int (iI (up)))]) hx hb d_F_arcFits_84 hl (by decide) rfl (fun ls hl => ?_)
        refine lv_iload hx hb d_F_arcFits_86 (lv_at hl 1 rfl) ?_
        refine ri_if_eq (tgt := 100) hx hb d_F_arcFits_88 (by decide) (by omega) (fun c88 => ?_) (fun c88 => ?_)
        · exact absurd c88 (by decide)
        · refine lv_iload hx hb d_F_arcFits_91 (lv_at hl 0 rfl) ?_
          refine ri_if_eq (tgt := 100) hx hb d_F_arcFits_93 (by decide) (by omega) (fun c93 => ?_) (fun c93 => ?_)
          · refine ri_iconst hx hb d_F_arcFits_100 ?_
            exact re_z hx hb hr hlocks (Or.inl rfl) (fun t ht hW => ⟨Or.inr ⟨rfl, fun q => by unfold arcOk at q; omega⟩, ht⟩) (fun z hz => nomatch hz) (Nat.le_of_ble_eq_true rfl) (Nat.le_of_ble_eq_true rfl) d_F_arcFits_101
          · exact absurd c93 (by decide)
      · refine lv_iload_n hx hb d_F_arcFits_50 rfl (lv_at hl 3 rfl) ?_
        refine lv_iload hx hb d_F_arcFits_51 (lv_at hl 5 rfl) ?_
        refine ri_icmp_lt (tgt := 60) hx hb d_F_arcFits_53 (by decide) (by omega) (by omega) (fun c53 => ?_) (fun c53 => ?_)
        · refine ri_iconst hx hb d_F_arcFits_60 ?_
          refine lv_goto (tgt := 84) hx hb d_F_arcFits_61 (by decide) ?_
          refine lv_istore (lv' := [(7, .int (iI (0))), (6, .int (iI (1))), (0, .ref af), (1, .int (iI (at9))), (2, .int (iI (rd))), (3, .int (iI (xc))), (4, .int (iI (xh))), (5, .int (iI (up)))]) hx hb d_F_arcFits_84 hl (by decide) rfl (fun ls hl => ?_)
          refine lv_iload hx hb d_F_arcFits_86 (lv_at hl 1 rfl) ?_
          refine ri_if_eq (tgt := 100) hx hb d_F_arcFits_88 (by decide) (by omega) (fun c88 => ?_) (fun c88 => ?_)
          · exact absurd c88 (by decide)
          · refine lv_iload hx hb d_F_arcFits_91 (lv_at hl 0 rfl) ?_
            refine ri_if_eq (tgt := 100) hx hb d_F_arcFits_93 (by decide) (by omega) (fun c93 => ?_) (fun c93 => ?_)
            · refine ri_iconst hx hb d_F_arcFits_100 ?_
              exact re_z hx hb hr hlocks (Or.inl rfl) (fun t ht hW => ⟨Or.inr ⟨rfl, fun q => by unfold arcOk at q; omega⟩, ht⟩) (fun z hz => nomatch hz) (Nat.le_of_ble_eq_true rfl) (Nat.le_of_ble_eq_true rfl) d_F_arcFits_101
            · exact absurd c93 (by decide)
        · refine ri_iconst hx hb d_F_arcFits_56 ?_
          refine lv_goto (tgt := 84) hx hb d_F_arcFits_57 (by decide) ?_
          refine lv_istore (lv' := [(7, .int (iI (1))), (6, .int (iI (1))), (0, .ref af), (1, .int (iI (at9))), (2, .int (iI (rd))), (3, .int (iI (xc))), (4, .int (iI (xh))), (5, .int (iI (up)))]) hx hb d_F_arcFits_84 hl (by decide) rfl (fun ls hl => ?_)
          refine lv_iload hx hb d_F_arcFits_86 (lv_at hl 1 rfl) ?_
          refine ri_if_eq (tgt := 100) hx hb d_F_arcFits_88 (by decide) (by omega) (fun c88 => ?_) (fun c88 => ?_)
          · exact absurd c88 (by decide)
          · refine lv_iload hx hb d_F_arcFits_91 (lv_at hl 0 rfl) ?_
            refine ri_if_eq (tgt := 100) hx hb d_F_arcFits_93 (by decide) (by omega) (fun c93 => ?_) (fun c93 => ?_)
            · exact absurd c93 (by decide)
            · refine ri_iconst hx hb d_F_arcFits_96 ?_
              refine lv_goto (tgt := 101) hx hb d_F_arcFits_97 (by decide) ?_
              exact re_z hx hb hr hlocks (Or.inr rfl) (fun t ht hW => ⟨Or.inl ⟨rfl, by omega, fun q => by omega, fun q => by omega⟩, ht⟩) (fun z hz => nomatch hz) (Nat.le_of_ble_eq_true rfl) (Nat.le_of_ble_eq_true rfl) d_F_arcFits_101

set_option maxHeartbeats 4000000 in
set_option maxRecDepth 100000 in
theorem c_F_addArc {l : Launch} {s0 : State} {D : va_G} {k : Nat → ClassId} (hC : Cx l s0 D k) (af ar : Nat) (bg la lr wy : Int) (r : Int → Int) (wr : va_W) (at9 rd xc xh up : Int) (hla : 0 ≤ la ∧ la < at9 ∧ at9 ≤ 64) (hlr : 0 ≤ lr ∧ lr ≤ 500) (hrd : 0 ≤ rd ∧ rd ≤ 500) (hxc : -200 ≤ xc ∧ xc ≤ 300) (hxh : -1000 ≤ xh ∧ xh ≤ 1500) (hup : In32 up) (hok : arcOk la lr at9 rd xc xh up) : WdM l s0 D y_F_addArc { frames := 1, cells := 0, slots := 0, locals := 23 } [.ref af, .int (iI (at9)), .int (iI (rd)), .int (iI (xc)), .int (iI (xh)), .int (iI (up))] ((af, .inr (2, [.ref ar, .int (iI (bg)), .int (iI (la)), .int (iI (lr)), .int (iI (wy))])) :: (ar, .inl (k 0, ai 65 r)) :: wr) (fun v ws' => v = none ∧ ws' = ((af, .inr (2, [.ref ar, .int (iI (bg)), .int (iI (at9)), .int (iI (rd)), .int (iI (wy + 1))])) :: (ar, .inl (k 0, ai 65 (seqF r (arcF ((la - xc) * (la - xc) + (lr - xh) * (lr - xh)) xc xh up) (la + 1) (at9 - la).toNat))) :: wr)) (fun E ws' => False) 0 0 := by
  refine ex_ofW (cc := b_F_addArc) (maxL := 9) (ret := none) (hh := []) (by decide +kernel) (Or.inl ⟨g_245, rfl⟩) ?_
  intro p9 e9 s m9 args9 below9 meth9 c9 s9 B9 hml htab hv
  obtain ⟨rfl, h0, hP, hD⟩ := hv
  have hx := B9.exec
  have hb := B9.bytes
  have hr := B9.returns
  have hG := atoms_spec (ws := GW) B9.pre
  have hown : s.vm.findClass "LathePieces$Profile" = some m9.cls := findClass_of_methodNamed B9.named
  have hlocks := B9.notSynchronized
  have hK := cx_K hC h0
  have hS : va_S (aL s0) s.heap s.heap [] := va_S.rf
  have hA : ∀ q : Nat, s.heap.size ≤ q → aL s0 q := fun q h => Nat.le_trans h0.2.1 h
  have hl := lv_entry ([.ref af, .int (iI (at9)), .int (iI (rd)), .int (iI (xc)), .int (iI (xh)), .int (iI (up))]) (n := 9) (Nat.le_of_ble_eq_true rfl)
  rw [lg_entry_eq]
  generalize (lg_sl ([.ref af, .int (iI (at9)), .int (iI (rd)), .int (iI (xc)), .int (iI (xh)), .int (iI (up))]) ++ List.replicate (9 - (lg_sl ([.ref af, .int (iI (at9)), .int (iI (rd)), .int (iI (xc)), .int (iI (xh)), .int (iI (up))])).length) Slot.unset).toArray = ls at hl ⊢
  replace hl : lv_has ls 9 [(0, .ref af), (1, .int (iI (at9))), (2, .int (iI (rd))), (3, .int (iI (xc))), (4, .int (iI (xh))), (5, .int (iI (up)))] := hl
  have g1 : 0 ≤ (la - xc) * (la - xc) ∧ (la - xc) * (la - xc) ≤ 364 * 364 := sq_rg (by omega)
  have g2 : 0 ≤ (lr - xh) * (lr - xh) ∧ (lr - xh) * (lr - xh) ≤ 1500 * 1500 := sq_rg (by omega)
  have g3 : 0 ≤ (at9 - xc) * (at9 - xc) ∧ (at9 - xc) * (at9 - xc) ≤ 364 * 364 := sq_rg (by omega)
  have g4 : 0 ≤ (rd - xh) * (rd - xh) ∧ (rd - xh) * (rd - xh) ≤ 1500 * 1500 := sq_rg (by omega)
  have e5 := hok.1
  refine lv_aload_n hx hb d_F_addArc_0 rfl (lv_at hl 0 rfl) ?_
  refine va_get (D := D) (ci := 2) (v := .int (iI (la))) (C := R_F) (T := F_F) (N := 5) hx hb hG in_F hown hK hP 0 rfl rfl 2 (by decide) (hG _ g_36) (fun _ h9 => h9) rfl d_F_addArc_1 ?_
  refine lv_iload_n hx hb d_F_addArc_4 rfl (lv_at hl 3 rfl) ?_
  refine ri_isub hx hb d_F_addArc_5 ?_
  refine lv_aload_n hx hb d_F_addArc_6 rfl (lv_at hl 0 rfl) ?_
  refine va_get (D := D) (ci := 2) (v := .int (iI (lr))) (C := R_F) (T := F_F) (N := 5) hx hb hG in_F hown hK hP 0 rfl rfl 3 (by decide) (hG _ g_38) (fun _ h9 => h9) rfl d_F_addArc_7 ?_
  refine lv_iload hx hb d_F_addArc_10 (lv_at hl 4 rfl) ?_
  refine ri_isub hx hb d_F_addArc_12 ?_
  refine rd_call (ex_runS (As := [.int (iI (la - xc)), .int (iI (lr - xh))]) (rest := []) ⟨hx, hb, hml, hown, hG⟩ (c_F_squareFar l (la - xc) (lr - xh)) (cb_code (n := 2) hG g_241 g_2 g_239 rfl rfl (by decide +kernel) ⟨Nat.le_of_ble_eq_true rfl, Nat.le_of_ble_eq_true rfl⟩) (hG _ g_240) ⟨fun _ _ _ _ q => q, fun _ _ _ => rfl⟩ rfl rfl hl.1 rfl (lv_room (Nat.le_of_ble_eq_true rfl)) d_F_addArc_13 ⟨Nat.le_of_ble_eq_true rfl, Nat.le_of_ble_eq_true rfl⟩) (fun v9 h9 => ?_)
  obtain rfl := h9
  show W _ _ _ _ _ _ _ _ _ _ _ _ _ _ _ (F0 m9 16 ls [.int (iI (((la - xc) * (la - xc) + (lr - xh) * (lr - xh))))])
  refine lv_istore (lv' := [(6, .int (iI (((la - xc) * (la - xc) + (lr - xh) * (lr - xh))))), (0, .ref af), (1, .int (iI (at9))), (2, .int (iI (rd))), (3, .int (iI (xc))), (4, .int (iI (xh))), (5, .int (iI (up)))]) hx hb d_F_addArc_16 hl (by decide) rfl (fun ls hl => ?_)
  refine lv_aload_n hx hb d_F_addArc_18 rfl (lv_at hl 1 rfl) ?_
  refine va_get (D := D) (ci := 2) (v := .int (iI (la))) (C := R_F) (T := F_F) (N := 5) hx hb hG in_F hown hK hP 0 rfl rfl 2 (by decide) (hG _ g_36) (fun _ h9 => h9) rfl d_F_addArc_19 ?_
  refine ri_iconst hx hb d_F_addArc_22 ?_
  refine ri_iadd hx hb d_F_addArc_23 ?_
  refine lv_istore (lv' := [(7, .int (iI (la + 1))), (6, .int (iI (((la - xc) * (la - xc) + (lr - xh) * (lr - xh))))), (0, .ref af), (1, .int (iI (at9))), (2, .int (iI (rd))), (3, .int (iI (xc))), (4, .int (iI (xh))), (5, .int (iI (up)))]) hx hb d_F_addArc_24 hl (by decide) rfl (fun ls hl => ?_)
  have loop : ∀ (Q9 : State → Prop) (κ ν : Nat) (H : Heap) (locs : List Loc) (ls : Array Slot), (ν : Int) + κ = at9 - la → va_P D classes ((af, .inr (2, [.ref ar, .int (iI (bg)), .int (iI (la)), .int (iI (lr)), .int (iI (wy))])) :: (ar, .inl (k 0, ai 65 (seqF r (arcF ((la - xc) * (la - xc) + (lr - xh) * (lr - xh)) xc xh up) (la + 1) (ν)))) :: wr) H → va_D (aL s0) ((af, .inr (2, [.ref ar, .int (iI (bg)), .int (iI (la)), .int (iI (lr)), .int (iI (wy))])) :: (ar, .inl (k 0, ai 65 (seqF r (arcF ((la - xc) * (la - xc) + (lr - xh) * (lr - xh)) xc xh up) (la + 1) (ν)))) :: wr) → va_S (aL s0) s.heap H locs → lv_has ls 9 [(0, .ref af), (1, .int (iI (at9))), (2, .int (iI (rd))), (3, .int (iI (xc))), (4, .int (iI (xh))), (5, .int (iI (up))), (6, .int (iI (((la - xc) * (la - xc) + (lr - xh) * (lr - xh))))), (7, .int (iI (la + 1 + (ν : Int))))] → (∀ (H : Heap) (locs : List Loc) (ls : Array Slot), va_P D classes ((af, .inr (2, [.ref ar, .int (iI (bg)), .int (iI (la)), .int (iI (lr)), .int (iI (wy))])) :: (ar, .inl (k 0, ai 65 (seqF r (arcF ((la - xc) * (la - xc) + (lr - xh) * (lr - xh)) xc xh up) (la + 1) ((at9 - la).toNat)))) :: wr) H → va_D (aL s0) ((af, .inr (2, [.ref ar, .int (iI (bg)), .int (iI (la)), .int (iI (lr)), .int (iI (wy))])) :: (ar, .inl (k 0, ai 65 (seqF r (arcF ((la - xc) * (la - xc) + (lr - xh) * (lr - xh)) xc xh up) (la + 1) ((at9 - la).toNat)))) :: wr) → va_S (aL s0) s.heap H locs → lv_has ls 9 [(0, .ref af), (1, .int (iI (at9))), (2, .int (iI (rd)))] → W p9 l e9 (headSpec GW { frames := 1, cells := 0, slots := 0, locals := 23 }).room s m9 ([.ref af, .int (iI (at9)), .int (iI (rd)), .int (iI (xc)), .int (iI (xh)), .int (iI (up))] : List Value).toArray below9 meth9 c9 H locs 0 0 Q9 (F0 m9 97 ls [])) → W p9 l e9 (headSpec GW { frames := 1, cells := 0, slots := 0, locals := 23 }).room s m9 ([.ref af, .int (iI (at9)), .int (iI (rd)), .int (iI (xc)), .int (iI (xh)), .int (iI (up))] : List Value).toArray below9 meth9 c9 H locs 0 0 Q9 (F0 m9 26 ls []) := by
    intro Q9 κ
    induction κ with
    | zero =>
      intro ν H locs ls hinv hP hD hS hl kex
      refine lv_iload hx hb d_F_addArc_26 (lv_at hl 7 rfl) ?_
      refine lv_iload_n hx hb d_F_addArc_28 rfl (lv_at hl 1 rfl) ?_
      refine ri_icmp_gt (tgt := 97) hx hb d_F_addArc_29 (by decide) (by omega) (by omega) (fun c29 => ?_) (fun c29 => ?_)
      · have hN9 : ν = (at9 - la).toNat := by omega
        subst hN9
        exact kex H locs ls hP hD hS (lv_sub hl [0, 1, 2] rfl)
      · exact absurd c29 (by omega)
    | succ κ ih =>
      intro ν H locs ls hinv hP hD hS hl kex
      refine lv_iload hx hb d_F_addArc_26 (lv_at hl 7 rfl) ?_
      refine lv_iload_n hx hb d_F_addArc_28 rfl (lv_at hl 1 rfl) ?_
      refine ri_icmp_gt (tgt := 97) hx hb d_F_addArc_29 (by decide) (by omega) (by omega) (fun c29 => ?_) (fun c29 => ?_)
      · exact absurd c29 (by omega)
      · refine lv_iload hx hb d_F_addArc_32 (lv_at hl 7 rfl) ?_
        refine ri_bipush hx hb d_F_addArc_34 (by decide) ?_
        refine ri_icmp_gt (tgt := 97) hx hb d_F_addArc_36 (by decide) (by omega) (by omega) (fun c36 => ?_) (fun c36 => ?_)
        · exact absurd c36 (by omega)
        · have q1 : (la + 1 + ν - xc) * (la + 1 + ν - xc) ≤ ((la - xc) * (la - xc) + (lr - xh) * (lr - xh)) := sq_mid (a := la) (b := at9) (by omega) (by omega) (by omega)
          have q2 : 0 ≤ (la + 1 + ν - xc) * (la + 1 + ν - xc) ∧ (la + 1 + ν - xc) * (la + 1 + ν - xc) ≤ 364 * 364 := sq_rg (by omega)
          have q3 := isq_spec (n := ((la - xc) * (la - xc) + (lr - xh) * (lr - xh)) - (la + 1 + ν - xc) * (la + 1 + ν - xc)) (by omega)
          have q4 : isq (((la - xc) * (la - xc) + (lr - xh) * (lr - xh)) - (la + 1 + ν - xc) * (la + 1 + ν - xc)) ≤ 4095 := isq_le (by omega) (by omega) (by omega)
          refine lv_iload hx hb d_F_addArc_39 (lv_at hl 6 rfl) ?_
          refine lv_iload hx hb d_F_addArc_41 (lv_at hl 7 rfl) ?_
          refine lv_iload_n hx hb d_F_addArc_43 rfl (lv_at hl 3 rfl) ?_
          refine ri_isub hx hb d_F_addArc_44 ?_
          refine lv_iload hx hb d_F_addArc_45 (lv_at hl 7 rfl) ?_
          refine lv_iload_n hx hb d_F_addArc_47 rfl (lv_at hl 3 rfl) ?_
          refine ri_isub hx hb d_F_addArc_48 ?_
          refine ri_imul hx hb d_F_addArc_49 ?_
          refine ri_isub hx hb d_F_addArc_50 ?_
          refine pu_call (ex_runSN (As := [.int (iI ((((la - xc) * (la - xc) + (lr - xh) * (lr - xh))) - (((la + 1 + (ν : Int)) - xc) * ((la + 1 + (ν : Int)) - xc))))]) (rest := []) ⟨hx, hb, hml, hown, hG⟩ (c_C_wholeRoot l (((la - xc) * (la - xc) + (lr - xh) * (lr - xh)) - (la + 1 + ν - xc) * (la + 1 + ν - xc)) (by omega)) (cn_mk (n := 1) hG g_248 g_1 (cx_nest hC h0 g_246 _) rfl rfl (by decide +kernel) ⟨Nat.le_of_ble_eq_true rfl, Nat.le_of_ble_eq_true rfl⟩) (hG _ g_247) ⟨fun _ _ _ _ q => q, fun _ _ _ => rfl⟩ rfl rfl hl.1 rfl (lv_room (Nat.le_of_ble_eq_true rfl)) d_F_addArc_51 ⟨Nat.le_of_ble_eq_true rfl, Nat.le_of_ble_eq_true rfl⟩) (fun v9 h9 => ?_)
          obtain rfl := h9
          show W _ _ _ _ _ _ _ _ _ _ _ _ _ _ _ (F0 m9 54 ls [.int (iI (isq (((la - xc) * (la - xc) + (lr - xh) * (lr - xh)) - (la + 1 + ν - xc) * (la + 1 + ν - xc))))])
          refine lv_istore (lv' := [(8, .int (iI (isq (((la - xc) * (la - xc) + (lr - xh) * (lr - xh)) - (la + 1 + ν - xc) * (la + 1 + ν - xc))))), (0, .ref af), (1, .int (iI (at9))), (2, .int (iI (rd))), (3, .int (iI (xc))), (4, .int (iI (xh))), (5, .int (iI (up))), (6, .int (iI (((la - xc) * (la - xc) + (lr - xh) * (lr - xh))))), (7, .int (iI (la + 1 + (ν : Int))))]) hx hb d_F_addArc_54 hl (by decide) rfl (fun ls hl => ?_)
          refine lv_aload_n hx hb d_F_addArc_56 rfl (lv_at hl 1 rfl) ?_
          refine va_get (D := D) (ci := 2) (v := .ref ar) (C := R_F) (T := F_F) (N := 5) hx hb hG in_F hown hK hP 0 rfl rfl 0 (by decide) (hG _ g_32) (fun _ h9 => h9) rfl d_F_addArc_57 ?_
          refine lv_iload hx hb d_F_addArc_60 (lv_at hl 8 rfl) ?_
          refine ri_iconst hx hb d_F_addArc_62 ?_
          refine ri_sipush hx hb d_F_addArc_63 (by decide) ?_
          refine lv_iload hx hb d_F_addArc_66 (lv_at hl 6 rfl) ?_
          refine ri_if_eq (tgt := 79) hx hb d_F_addArc_68 (by decide) (by omega) (fun c68 => ?_) (fun c68 => ?_)
          · refine lv_iload hx hb d_F_addArc_79 (lv_at hl 5 rfl) ?_
            refine lv_iload hx hb d_F_addArc_81 (lv_at hl 0 rfl) ?_
            refine ri_isub hx hb d_F_addArc_83 ?_
            refine rd_call (ex_runS (As := [.int (iI (500)), .int (iI (xh - (isq (((la - xc) * (la - xc) + (lr - xh) * (lr - xh)) - (la + 1 + ν - xc) * (la + 1 + ν - xc)))))]) (rest := [.int (iI (0)), .int (iI (la + 1 + (ν : Int))), .ref ar]) ⟨hx, hb, hml, hown, hG⟩ (c_J_min l 500 (xh - isq (((la - xc) * (la - xc) + (lr - xh) * (lr - xh)) - (la + 1 + ν - xc) * (la + 1 + ν - xc))) (by omega) (by omega)) (cb_code (n := 2) hG g_251 g_9 g_249 rfl rfl (by decide +kernel) ⟨Nat.le_of_ble_eq_true rfl, Nat.le_of_ble_eq_true rfl⟩) (hG _ g_250) ⟨fun _ _ _ _ q => q, fun _ _ _ => rfl⟩ rfl rfl hl.1 rfl (lv_room (Nat.le_of_ble_eq_true rfl)) d_F_addArc_84 ⟨Nat.le_of_ble_eq_true rfl, Nat.le_of_ble_eq_true rfl⟩) (fun v9 h9 => ?_)
            obtain rfl := h9
            show W _ _ _ _ _ _ _ _ _ _ _ _ _ _ _ (F0 m9 87 ls [.int (iI (min 500 (xh - isq (((la - xc) * (la - xc) + (lr - xh) * (lr - xh)) - (la + 1 + ν - xc) * (la + 1 + ν - xc))))), .int (iI (0)), .int (iI (la + 1 + (ν : Int))), .ref ar])
            refine rd_call (ex_runS (As := [.int (iI (0)), .int (iI (min 500 (xh - isq (((la - xc) * (la - xc) + (lr - xh) * (lr - xh)) - (la + 1 + ν - xc) * (la + 1 + ν - xc)))))]) (rest := [.int (iI (la + 1 + (ν : Int))), .ref ar]) ⟨hx, hb, hml, hown, hG⟩ (c_J_max l 0 (min 500 (xh - isq (((la - xc) * (la - xc) + (lr - xh) * (lr - xh)) - (la + 1 + ν - xc) * (la + 1 + ν - xc)))) (by omega) (by omega)) (cb_code (n := 2) hG g_254 g_9 g_252 rfl rfl (by decide +kernel) ⟨Nat.le_of_ble_eq_true rfl, Nat.le_of_ble_eq_true rfl⟩) (hG _ g_253) ⟨fun _ _ _ _ q => q, fun _ _ _ => rfl⟩ rfl rfl hl.1 rfl (lv_room (Nat.le_of_ble_eq_true rfl)) d_F_addArc_87 ⟨Nat.le_of_ble_eq_true rfl, Nat.le_of_ble_eq_true rfl⟩) (fun v9 h9 => ?_)
            obtain rfl := h9
            show W _ _ _ _ _ _ _ _ _ _ _ _ _ _ _ (F0 m9 90 ls [.int (iI (max 0 (min 500 (xh - isq (((la - xc) * (la - xc) + (lr - xh) * (lr - xh)) - (la + 1 + ν - xc) * (la + 1 + ν - xc)))))), .int (iI (la + 1 + (ν : Int))), .ref ar])
            have q5 : max 0 (min 500 (xh - isq (((la - xc) * (la - xc) + (lr - xh) * (lr - xh)) - (la + 1 + ν - xc) * (la + 1 + ν - xc)))) = arcF ((la - xc) * (la - xc) + (lr - xh) * (lr - xh)) xc xh up (la + 1 + ν) := by unfold arcF; rw [if_pos (by omega)]
            refine tp_i (congrArg iI (show max 0 (min 500 (xh - isq (((la - xc) * (la - xc) + (lr - xh) * (lr - xh)) - (la + 1 + ν - xc) * (la + 1 + ν - xc)))) = arcF ((la - xc) * (la - xc) + (lr - xh) * (lr - xh)) xc xh up (la + 1 + ν) from q5)) ?_
            refine ra_iast (v := arcF ((la - xc) * (la - xc) + (lr - xh) * (lr - xh)) xc xh up (la + 1 + ν)) hx hb hK hP hD hS 1 rfl (by omega) (by omega) d_F_addArc_90 (fun H locs hP hD hS => ?_)
            have hP : va_P D classes ((af, .inr (2, [.ref ar, .int (iI (bg)), .int (iI (la)), .int (iI (lr)), .int (iI (wy))])) :: (ar, .inl (k 0, ai 65 (zU (seqF r (arcF ((la - xc) * (la - xc) + (lr - xh) * (lr - xh)) xc xh up) (la + 1) (ν)) (la + 1 + (ν : Int)) (arcF ((la - xc) * (la - xc) + (lr - xh) * (lr - xh)) xc xh up (la + 1 + ν))))) :: wr) H := hP
            have hD : va_D (fun q : Nat => s0.heap.size ≤ q) ((af, .inr (2, [.ref ar, .int (iI (bg)), .int (iI (la)), .int (iI (lr)), .int (iI (wy))])) :: (ar, .inl (k 0, ai 65 (zU (seqF r (arcF ((la - xc) * (la - xc) + (lr - xh) * (lr - xh)) xc xh up) (la + 1) (ν)) (la + 1 + (ν : Int)) (arcF ((la - xc) * (la - xc) + (lr - xh) * (lr - xh)) xc xh up (la + 1 + ν))))) :: wr) := hD
            rw [show zU (seqF r (arcF ((la - xc) * (la - xc) + (lr - xh) * (lr - xh)) xc xh up) (la + 1) (ν)) (la + 1 + ν) (arcF ((la - xc) * (la - xc) + (lr - xh) * (lr - xh)) xc xh up (la + 1 + ν)) = seqF r (arcF ((la - xc) * (la - xc) + (lr - xh) * (lr - xh)) xc xh up) (la + 1) (ν + 1) from seqF_s r (arcF ((la - xc) * (la - xc) + (lr - xh) * (lr - xh)) xc xh up) (la + 1) ν] at hP hD
            refine lv_iinc (v := iI (la + 1 + ((ν + 1 : Nat) : Int))) (lv' := [(7, .int (iI (la + 1 + ((ν + 1 : Nat) : Int)))), (8, .int (iI (isq (((la - xc) * (la - xc) + (lr - xh) * (lr - xh)) - (la + 1 + ν - xc) * (la + 1 + ν - xc))))), (0, .ref af), (1, .int (iI (at9))), (2, .int (iI (rd))), (3, .int (iI (xc))), (4, .int (iI (xh))), (5, .int (iI (up))), (6, .int (iI (((la - xc) * (la - xc) + (lr - xh) * (lr - xh)))))]) hx hb d_F_addArc_91 hl (k := 8) rfl ((ii_add _ _).trans (congrArg iI (by omega))) (by decide) rfl (fun ls hl => ?_)
            refine lv_goto (tgt := 26) hx hb d_F_addArc_94 (by decide) ?_
            exact ih (ν + 1) H locs ls (by omega) hP hD hS (lv_sub hl [2, 3, 4, 5, 6, 7, 8, 0] rfl) kex
          · refine lv_iload hx hb d_F_addArc_71 (lv_at hl 5 rfl) ?_
            refine lv_iload hx hb d_F_addArc_73 (lv_at hl 0 rfl) ?_
            refine ri_iadd hx hb d_F_addArc_75 ?_
            refine lv_goto (tgt := 84) hx hb d_F_addArc_76 (by decide) ?_
            refine rd_call (ex_runS (As := [.int (iI (500)), .int (iI (xh + (isq (((la - xc) * (la - xc) + (lr - xh) * (lr - xh)) - (la + 1 + ν - xc) * (la + 1 + ν - xc)))))]) (rest := [.int (iI (0)), .int (iI (la + 1 + (ν : Int))), .ref ar]) ⟨hx, hb, hml, hown, hG⟩ (c_J_min l 500 (xh + isq (((la - xc) * (la - xc) + (lr - xh) * (lr - xh)) - (la + 1 + ν - xc) * (la + 1 + ν - xc))) (by omega) (by omega)) (cb_code (n := 2) hG g_251 g_9 g_249 rfl rfl (by decide +kernel) ⟨Nat.le_of_ble_eq_true rfl, Nat.le_of_ble_eq_true rfl⟩) (hG _ g_250) ⟨fun _ _ _ _ q => q, fun _ _ _ => rfl⟩ rfl rfl hl.1 rfl (lv_room (Nat.le_of_ble_eq_true rfl)) d_F_addArc_84 ⟨Nat.le_of_ble_eq_true rfl, Nat.le_of_ble_eq_true rfl⟩) (fun v9 h9 => ?_)
            obtain rfl := h9
            show W _ _ _ _ _ _ _ _ _ _ _ _ _ _ _ (F0 m9 87 ls [.int (iI (min 500 (xh + isq (((la - xc) * (la - xc) + (lr - xh) * (lr - xh)) - (la + 1 + ν - xc) * (la + 1 + ν - xc))))), .int (iI (0)), .int (iI (la + 1 + (ν : Int))), .ref ar])
            refine rd_call (ex_runS (As := [.int (iI (0)), .int (iI (min 500 (xh + isq (((la - xc) * (la - xc) + (lr - xh) * (lr - xh)) - (la + 1 + ν - xc) * (la + 1 + ν - xc)))))]) (rest := [.int (iI (la + 1 + (ν : Int))), .ref ar]) ⟨hx, hb, hml, hown, hG⟩ (c_J_max l 0 (min 500 (xh + isq (((la - xc) * (la - xc) + (lr - xh) * (lr - xh)) - (la + 1 + ν - xc) * (la + 1 + ν - xc)))) (by omega) (by omega)) (cb_code (n := 2) hG g_254 g_9 g_252 rfl rfl (by decide +kernel) ⟨Nat.le_of_ble_eq_true rfl, Nat.le_of_ble_eq_true rfl⟩) (hG _ g_253) ⟨fun _ _ _ _ q => q, fun _ _ _ => rfl⟩ rfl rfl hl.1 rfl (lv_room (Nat.le_of_ble_eq_true rfl)) d_F_addArc_87 ⟨Nat.le_of_ble_eq_true rfl, Nat.le_of_ble_eq_true rfl⟩) (fun v9 h9 => ?_)
            obtain rfl := h9
            show W _ _ _ _ _ _ _ _ _ _ _ _ _ _ _ (F0 m9 90 ls [.int (iI (max 0 (min 500 (xh + isq (((la - xc) * (la - xc) + (lr - xh) * (lr - xh)) - (la + 1 + ν - xc) * (la + 1 + ν - xc)))))), .int (iI (la + 1 + (ν : Int))), .ref ar])
            have q5 : max 0 (min 500 (xh + isq (((la - xc) * (la - xc) + (lr - xh) * (lr - xh)) - (la + 1 + ν - xc) * (la + 1 + ν - xc)))) = arcF ((la - xc) * (la - xc) + (lr - xh) * (lr - xh)) xc xh up (la + 1 + ν) := by unfold arcF; rw [if_neg (by omega)]
            refine tp_i (congrArg iI (show max 0 (min 500 (xh + isq (((la - xc) * (la - xc) + (lr - xh) * (lr - xh)) - (la + 1 + ν - xc) * (la + 1 + ν - xc)))) = arcF ((la - xc) * (la - xc) + (lr - xh) * (lr - xh)) xc xh up (la + 1 + ν) from q5)) ?_
            refine ra_iast (v := arcF ((la - xc) * (la - xc) + (lr - xh) * (lr - xh)) xc xh up (la + 1 + ν)) hx hb hK hP hD hS 1 rfl (by omega) (by omega) d_F_addArc_90 (fun H locs hP hD hS => ?_)
            have hP : va_P D classes ((af, .inr (2, [.ref ar, .int (iI (bg)), .int (iI (la)), .int (iI (lr)), .int (iI (wy))])) :: (ar, .inl (k 0, ai 65 (zU (seqF r (arcF ((la - xc) * (la - xc) + (lr - xh) * (lr - xh)) xc xh up) (la + 1) (ν)) (la + 1 + (ν : Int)) (arcF ((la - xc) * (la - xc) + (lr - xh) * (lr - xh)) xc xh up (la + 1 + ν))))) :: wr) H := hP
            have hD : va_D (fun q : Nat => s0.heap.size ≤ q) ((af, .inr (2, [.ref ar, .int (iI (bg)), .int (iI (la)), .int (iI (lr)), .int (iI (wy))])) :: (ar, .inl (k 0, ai 65 (zU (seqF r (arcF ((la - xc) * (la - xc) + (lr - xh) * (lr - xh)) xc xh up) (la + 1) (ν)) (la + 1 + (ν : Int)) (arcF ((la - xc) * (la - xc) + (lr - xh) * (lr - xh)) xc xh up (la + 1 + ν))))) :: wr) := hD
            rw [show zU (seqF r (arcF ((la - xc) * (la - xc) + (lr - xh) * (lr - xh)) xc xh up) (la + 1) (ν)) (la + 1 + ν) (arcF ((la - xc) * (la - xc) + (lr - xh) * (lr - xh)) xc xh up (la + 1 + ν)) = seqF r (arcF ((la - xc) * (la - xc) + (lr - xh) * (lr - xh)) xc xh up) (la + 1) (ν + 1) from seqF_s r (arcF ((la - xc) * (la - xc) + (lr - xh) * (lr - xh)) xc xh up) (la + 1) ν] at hP hD
            refine lv_iinc (v := iI (la + 1 + ((ν + 1 : Nat) : Int))) (lv' := [(7, .int (iI (la + 1 + ((ν + 1 : Nat) : Int)))), (8, .int (iI (isq (((la - xc) * (la - xc) + (lr - xh) * (lr - xh)) - (la + 1 + ν - xc) * (la + 1 + ν - xc))))), (0, .ref af), (1, .int (iI (at9))), (2, .int (iI (rd))), (3, .int (iI (xc))), (4, .int (iI (xh))), (5, .int (iI (up))), (6, .int (iI (((la - xc) * (la - xc) + (lr - xh) * (lr - xh)))))]) hx hb d_F_addArc_91 hl (k := 8) rfl ((ii_add _ _).trans (congrArg iI (by omega))) (by decide) rfl (fun ls hl => ?_)
            refine lv_goto (tgt := 26) hx hb d_F_addArc_94 (by decide) ?_
            exact ih (ν + 1) H locs ls (by omega) hP hD hS (lv_sub hl [2, 3, 4, 5, 6, 7, 8, 0] rfl) kex
  refine loop _ ((at9 - la).toNat) 0 _ _ _ (by omega) (by rw [seqF_0]; exact hP) (by rw [seqF_0]; exact hD) hS (by rw [show la + 1 + ((0 : Nat) : Int) = la + 1 by omega]; exact lv_sub hl [2, 3, 4, 5, 6, 7, 1, 0] rfl) (fun H locs ls hP hD hS hl => ?_)
  refine lv_aload_n hx hb d_F_addArc_97 rfl (lv_at hl 0 rfl) ?_
  refine lv_iload_n hx hb d_F_addArc_98 rfl (lv_at hl 1 rfl) ?_
  refine lv_iload_n hx hb d_F_addArc_99 rfl (lv_at hl 2 rfl) ?_
  refine wd_call h0 hS htab hlocks (Nat.le_of_ble_eq_true rfl) (Nat.le_of_ble_eq_true rfl) (ex_runV (C := "LathePieces$Profile") (As := [.int (iI (at9)), .int (iI (rd))]) (rest := []) ⟨hx, hb, hml, hown, hG⟩ (c_F_goOnFrom hC af ar bg la lr wy (seqF r (arcF ((la - xc) * (la - xc) + (lr - xh) * (lr - xh)) xc xh up) (la + 1) (at9 - la).toNat) wr at9 rd) (cb_code (n := 2) hG g_227 g_2 g_224 rfl rfl (by decide +kernel) ⟨Nat.le_of_ble_eq_true rfl, Nat.le_of_ble_eq_true rfl⟩) (hG _ g_225) (hG _ g_226) (kd_V (kd_preW h0 hS hP hD) (kd_recv hK hP (q0 := 0) (ci := 2) rfl rfl rfl)) rfl rfl hl.1 rfl (lv_room (Nat.le_of_ble_eq_true rfl)) d_F_addArc_100 ⟨Nat.le_of_ble_eq_true rfl, Nat.le_of_ble_eq_true rfl⟩) (fun E ws9 hE t hwd => hE.elim) (fun v9 ws9 h9 H locs hP hD hS => ?_)
  obtain ⟨rfl, rfl⟩ := h9
  show W _ _ _ _ _ _ _ _ _ _ _ _ _ _ _ (F0 m9 103 ls [])
  exact re_v hx hb hr hlocks (fun t ht hW => ⟨_, ⟨rfl, rfl⟩, wd_next h0 hS hP hD t ht hW⟩) hS.2.2 (Nat.le_of_ble_eq_true rfl) (Nat.le_of_ble_eq_true rfl) d_F_addArc_103

theorem va_fitI {cA : ClassId} {n : Nat} {f : Nat → Int32} {i : Nat} {v : Value} (h : (vp_cell cA (n, .inl f)).slots[i]? = some v) : fits .int v = true := by
  rw [vp_cell_i] at h
  have hi : i < n := by
    have := (Array.getElem?_eq_some_iff.mp h).1
    rwa [arrV_size] at this
  rw [arrV_read cA _ hi] at h
  cases h
  rfl
theorem cx_cast {l : Launch} {s0 U : State} {D : va_G} {k : Nat → ClassId} (hC : Cx l s0 D k) (h : La s0 U) {A B : String} (hm : Cond.castable A B ∈ lw_tbl) : va_Nw (.castable A B) U := by
  obtain ⟨-, ⟨a0, h1, -⟩, -⟩ := hC
  exact va_Nw.warmC h.1 (va_Nw.of rfl (h1 _ hm))
set_option maxHeartbeats 4000000 in
set_option maxRecDepth 100000 in
theorem c_A_copyOf {l : Launch} {s0 : State} {D : va_G} {k : Nat → ClassId} (hC : Cx l s0 D k) (wl : va_W) (q0 ar N : Nat) (r : Int → Int) (hq : wl[q0]? = some (ar, .inl (k 0, ai 65 r))) (hN : 1 ≤ N ∧ N ≤ 65) : WdM l s0 D y_A_copyOf { frames := 2, cells := 1, slots := 65, locals := 90 } [.ref ar, .int (iI ((N : Int)))] (wl) (fun v ws' => ∃ (q1 : Nat) (r' : Int → Int), v = some (.ref q1) ∧ (∀ j : Int, 0 ≤ j → j < N → r' j = r j) ∧ ws' = ((q1, .inl (k 0, ai N r')) :: wl)) (fun E ws' => False) 1 65 := by
  refine ex_ofW (cc := b_A_copyOf) (maxL := 3) (ret := (some (.array .int))) (hh := []) (by decide +kernel) (Or.inl ⟨g_270, rfl⟩) ?_
  intro p9 e9 s m9 args9 below9 meth9 c9 s9 B9 hml htab hv
  obtain ⟨rfl, h0, hP, hD⟩ := hv
  have hx := B9.exec
  have hb := B9.bytes
  have hr := B9.returns
  have hG := atoms_spec (ws := GW) B9.pre
  have hown : s.vm.findClass "java/util/Arrays" = some m9.cls := findClass_of_methodNamed B9.named
  have hlocks := B9.notSynchronized
  have hK := cx_K hC h0
  have hS : va_S (aL s0) s.heap s.heap [] := va_S.rf
  have hA : ∀ q : Nat, s.heap.size ≤ q → aL s0 q := fun q h => Nat.le_trans h0.2.1 h
  have hl := lv_entry ([.ref ar, .int (iI ((N : Int)))]) (n := 3) (Nat.le_of_ble_eq_true rfl)
  rw [lg_entry_eq]
  generalize (lg_sl ([.ref ar, .int (iI ((N : Int)))]) ++ List.replicate (3 - (lg_sl ([.ref ar, .int (iI ((N : Int)))])).length) Slot.unset).toArray = ls at hl ⊢
  replace hl : lv_has ls 3 [(0, .ref ar), (1, .int (iI ((N : Int))))] := hl
  refine lv_iload_n hx hb d_A_copyOf_0 rfl (lv_at hl 1 rfl) ?_
  refine lv_aload_n hx hb d_A_copyOf_1 rfl (lv_at hl 0 rfl) ?_
  refine ra_alen (z := 65) hx hb hK hP q0 0 hq rfl rfl d_A_copyOf_2 ?_
  refine ri_icmp_ne (tgt := 14) hx hb d_A_copyOf_3 (by decide) (by omega) (by omega) (fun c3 => ?_) (fun c3 => ?_)
  · refine lv_iload_n hx hb d_A_copyOf_14 rfl (lv_at hl 1 rfl) ?_
    refine ra_newi (N := N) hx hb hG g_53 hK hP hD hS hA rfl (by omega) (Nat.le_of_ble_eq_true rfl) (by show 0 + N ≤ 65; omega) d_A_copyOf_15 (fun q1 H hP hD hS => ?_)
    refine W.widen (k := 1) (n := 65) (Nat.le_of_ble_eq_true rfl) (by omega) ?_
    refine lv_astore_n (lv' := [(2, .ref q1), (0, .ref ar), (1, .int (iI ((N : Int))))]) hx hb d_A_copyOf_17 rfl hl (by decide) rfl (fun ls hl => ?_)
    refine lv_aload_n hx hb d_A_copyOf_18 rfl (lv_at hl 1 rfl) ?_
    refine ri_iconst hx hb d_A_copyOf_19 ?_
    refine lv_aload_n hx hb d_A_copyOf_20 rfl (lv_at hl 0 rfl) ?_
    refine ri_iconst hx hb d_A_copyOf_21 ?_
    refine lv_aload_n hx hb d_A_copyOf_22 rfl (lv_at hl 1 rfl) ?_
    refine ra_alen (z := 65) hx hb hK hP (q0 + 1) 0 hq rfl rfl d_A_copyOf_23 ?_
    refine lv_iload_n hx hb d_A_copyOf_24 rfl (lv_at hl 2 rfl) ?_
    refine rd_call (ex_runS (As := [.int (iI (65)), .int (iI ((N : Int)))]) (rest := [.int (iI (0)), .ref q1, .int (iI (0)), .ref ar]) ⟨hx, hb, hml, hown, hG⟩ (c_J_min l 65 N (by decide) (by omega)) (cb_code (n := 2) hG g_251 g_9 g_278 rfl rfl (by decide +kernel) ⟨Nat.le_of_ble_eq_true rfl, Nat.le_of_ble_eq_true rfl⟩) (hG _ g_250) ⟨fun _ _ _ _ q => q, fun _ _ _ => rfl⟩ rfl rfl hl.1 rfl (lv_room (Nat.le_of_ble_eq_true rfl)) d_A_copyOf_25 ⟨Nat.le_of_ble_eq_true rfl, Nat.le_of_ble_eq_true rfl⟩) (fun v9 h9 => ?_)
    obtain rfl := h9
    show W _ _ _ _ _ _ _ _ _ _ _ _ _ _ _ (F0 m9 28 ls [.int (iI (min 65 (N : Int))), .int (iI (0)), .ref q1, .int (iI (0)), .ref ar])
    refine tp_i (congrArg iI (show min 65 (N : Int) = (N : Int) from by omega)) ?_
    have z0 : (iI (N : Int)).toNatClampNeg = N := by rw [ii_cl (by omega)]; omega
    refine va_copyi hx hb (hml.trans hl.1.symm) hown (hG _ g_279) (hG _ g_281) (hG _ g_280) (hG _ g_12) hK hP hD hS (q0 + 1) 0 0 0 hq rfl rfl rfl rfl (by decide) (by decide) (ii_nneg (by omega)) (by rw [z0]; show 0 + N ≤ 65; omega) (by rw [z0]; show 0 + N ≤ N; omega) (fun i h => rfl) (Nat.le_of_ble_eq_true rfl) (Nat.le_of_ble_eq_true rfl) d_A_copyOf_28 (fun H locs hP hD hS => ?_)
    have z1 : va_cpy (fun j : Nat => iI (r j)) (fun j : Nat => iI 0) 0 0 N = fun j : Nat => iI (if (j : Int) < N then r j else 0) := by
      funext j
      unfold va_cpy
      by_cases hj : j < N
      · rw [if_pos (by omega), if_pos (by omega), Nat.zero_add, Nat.sub_zero]
      · rw [if_neg (by omega), if_neg (by omega)]
    replace hP : va_P D classes ((q1, .inl (k 0, ai N (fun j => if j < N then r j else 0))) :: wl) H := by
      rw [z0] at hP
      show va_P D classes ((q1, .inl (k 0, N, .inl (fun j : Nat => iI (if (j : Int) < N then r j else 0)))) :: wl) H
      rw [← z1]
      exact hP
    replace hD : va_D (aL s0) ((q1, .inl (k 0, ai N (fun j => if j < N then r j else 0))) :: wl) := by
      rw [z0] at hD
      show va_D (aL s0) ((q1, .inl (k 0, N, .inl (fun j : Nat => iI (if (j : Int) < N then r j else 0)))) :: wl)
      rw [← z1]
      exact hD
    refine lv_aload_n hx hb d_A_copyOf_31 rfl (lv_at hl 0 rfl) ?_
    exact re_a hx hb hr (Or.inr ⟨_, rfl⟩) hlocks (fun t ht hW => ⟨_, ⟨q1, (fun j => if j < N then r j else 0), rfl, fun j h1 h2 => if_pos h2, rfl⟩, wd_next h0 hS hP hD t ht hW⟩) hS.2.2 (Nat.le_of_ble_eq_true rfl) (Nat.le_of_ble_eq_true rfl) d_A_copyOf_32
  · have e1 : N = 65 := by omega
    subst e1
    refine lv_aload_n hx hb d_A_copyOf_6 rfl (lv_at hl 0 rfl) ?_
    have hnm := va_nm_int (hK.2 0 (k 0, .int) rfl).2
    refine va_clone hx hb (hml.trans hl.1.symm) hown (hG _ g_271) (hG _ g_272) (hG _ g_273) (hG _ g_274) (hG _ g_275) (cx_cast hC h0 g_276) hK hP hD hS hA q0 0 hq rfl hnm (fun i v h => va_fitI h) (Nat.le_of_ble_eq_true rfl) (Nat.le_of_ble_eq_true rfl) (Nat.le_of_ble_eq_true rfl) (Nat.le_of_ble_eq_true rfl) d_A_copyOf_7 (fun q1 H hK1 hP hD hS => ?_)
    replace hP := wl_Pf hP
    replace hD := wl_Df hD
    refine va_castA hx hb hown (hG _ g_277) hP 0 rfl hnm d_A_copyOf_10 ?_
    exact re_a hx hb hr (Or.inr ⟨_, rfl⟩) hlocks (fun t ht hW => ⟨_, ⟨q1, r, rfl, fun j h1 h2 => rfl, rfl⟩, wd_next h0 hS hP hD t ht hW⟩) hS.2.2 (Nat.le_of_ble_eq_true rfl) (Nat.le_of_ble_eq_true rfl) d_A_copyOf_13

set_option maxHeartbeats 4000000 in
set_option maxRecDepth 100000 in
theorem c_P_init {l : Launch} {s0 : State} {D : va_G} {k : Nat → ClassId} (hC : Cx l s0 D k) (ap af ar L : Nat) (bg lr wy : Int) (r : Int → Int) (wr : va_W) (hL : L ≤ 64) (hrr : ∀ j : Int, 0 ≤ j → j ≤ L → 0 ≤ r j ∧ r j ≤ 500) : WdM l s0 D y_P_init { frames := 3, cells := 1, slots := 65, locals := 112 } [.ref ap, .ref af] ((ap, .inr (1, [.null, .int (iI (0)), .int (iI (0)), .int (iI (0))])) :: (af, .inr (2, [.ref ar, .int (iI (bg)), .int (iI ((L : Int))), .int (iI (lr)), .int (iI (wy))])) :: (ar, .inl (k 0, ai 65 r)) :: wr) (fun v ws' => ∃ (q1 : Nat) (r' : Int → Int), v = none ∧ (∀ j : Int, 0 ≤ j → j < ((L + 1 : Nat) : Int) → r' j = r j) ∧ ws' = ((q1, .inl (k 0, ai (L + 1) r')) :: (ap, .inr (1, [.ref q1, .int (iI ((L : Int))), .int (iI (itF max r' 0 0 (L + 1) + 3)), .int (iI (wy))])) :: (af, .inr (2, [.ref ar, .int (iI (bg)), .int (iI ((L : Int))), .int (iI (lr)), .int (iI (wy))])) :: (ar, .inl (k 0, ai 65 r)) :: wr)) (fun E ws' => False) 1 65 := by
  refine ex_ofW (cc := b_P_init) (maxL := 4) (ret := none) (hh := []) (by decide +kernel) (Or.inl ⟨g_266, rfl⟩) ?_
  intro p9 e9 s m9 args9 below9 meth9 c9 s9 B9 hml htab hv
  obtain ⟨rfl, h0, hP, hD⟩ := hv
  have hx := B9.exec
  have hb := B9.bytes
  have hr := B9.returns
  have hG := atoms_spec (ws := GW) B9.pre
  have hown : s.vm.findClass "LathePieces$Piece" = some m9.cls := findClass_of_methodNamed B9.named
  have hlocks := B9.notSynchronized
  have hin9 : meth9.name = "<init>" := (name_of_methodNamed B9.named B9.method).1
  have hK := cx_K hC h0
  have hS : va_S (aL s0) s.heap s.heap [] := va_S.rf
  have hA : ∀ q : Nat, s.heap.size ≤ q → aL s0 q := fun q h => Nat.le_trans h0.2.1 h
  have hl := lv_entry ([.ref ap, .ref af]) (n := 4) (Nat.le_of_ble_eq_true rfl)
  rw [lg_entry_eq]
  generalize (lg_sl ([.ref ap, .ref af]) ++ List.replicate (4 - (lg_sl ([.ref ap, .ref af])).length) Slot.unset).toArray = ls at hl ⊢
  replace hl : lv_has ls 4 [(0, .ref ap), (1, .ref af)] := hl
  refine lv_aload_n hx hb d_P_init_0 rfl (lv_at hl 0 rfl) ?_
  refine W.objInit hx hb hown (hG _ g_267) (hG _ g_23) (hG _ g_24) rfl (by rw [hml]; exact hl.1) rfl d_P_init_1 (Nat.le_of_ble_eq_true rfl) (Nat.le_of_ble_eq_true rfl) ?_
  refine W.eq (g2 := F0 m9 4 ls []) rfl ?_
  refine lv_aload_n hx hb d_P_init_4 rfl (lv_at hl 0 rfl) ?_
  refine lv_aload_n hx hb d_P_init_5 rfl (lv_at hl 1 rfl) ?_
  refine va_get (D := D) (ci := 2) (v := .ref ar) (C := R_F) (T := F_F) (N := 5) hx hb hG in_F hown hK hP 1 rfl rfl 0 (by decide) (hG _ g_31) (fun _ h9 => h9) rfl d_P_init_6 ?_
  refine lv_aload_n hx hb d_P_init_9 rfl (lv_at hl 1 rfl) ?_
  refine va_get (D := D) (ci := 2) (v := .int (iI ((L : Int)))) (C := R_F) (T := F_F) (N := 5) hx hb hG in_F hown hK hP 1 rfl rfl 2 (by decide) (hG _ g_35) (fun _ h9 => h9) rfl d_P_init_10 ?_
  refine ri_iconst hx hb d_P_init_13 ?_
  refine ri_iadd hx hb d_P_init_14 ?_
  refine tp_i (congrArg iI (show ((L : Int)) + 1 = ((L + 1 : Nat) : Int) from by omega)) ?_
  refine wd_call h0 hS htab hlocks (Nat.le_of_ble_eq_true rfl) (Nat.le_of_ble_eq_true rfl) (ex_runS (As := [.ref ar, .int (iI (((L + 1 : Nat) : Int)))]) (rest := [.ref ap]) ⟨hx, hb, hml, hown, hG⟩ (c_A_copyOf hC ((ap, .inr (1, [.null, .int (iI (0)), .int (iI (0)), .int (iI (0))])) :: (af, .inr (2, [.ref ar, .int (iI (bg)), .int (iI ((L : Int))), .int (iI (lr)), .int (iI (wy))])) :: (ar, .inl (k 0, ai 65 r)) :: wr) 2 ar (L + 1) r rfl (by omega)) (cb_code (n := 2) hG g_270 g_11 g_268 rfl rfl (by decide +kernel) ⟨Nat.le_of_ble_eq_true rfl, Nat.le_of_ble_eq_true rfl⟩) (hG _ g_269) (kd_preW h0 hS hP hD) rfl rfl hl.1 rfl (lv_room (Nat.le_of_ble_eq_true rfl)) d_P_init_15 ⟨Nat.le_of_ble_eq_true rfl, Nat.le_of_ble_eq_true rfl⟩) (fun E ws9 hE t hwd => hE.elim) (fun v9 ws9 h9 H locs hP hD hS => ?_)
  obtain ⟨q1, r', rfl, hcp, rfl⟩ := h9
  show W _ _ _ _ _ _ _ _ _ _ _ _ _ _ _ (F0 m9 18 ls [.ref q1, .ref ap])
  have hrr' : ∀ j : Int, 0 ≤ j → j ≤ L → 0 ≤ r' j ∧ r' j ≤ 500 := fun j h1 h2 => by rw [hcp j h1 (by omega)]; exact hrr j h1 h2
  refine va_putF (D := D) (ci := 1) (v := .ref q1) (ty := .array .int) (C := R_P) (T := F_P) (N := 4) hx hb hG in_P t_P t_P_ok n_P hown hK hP hD hS 1 rfl rfl 0 (by decide) (hG _ g_283) (fun _ h9 => h9) rfl hin9 rfl (by decide +kernel) rfl rfl (Nat.le_of_ble_eq_true rfl) d_P_init_18 (fun H locs hP hD hS => ?_)
  have hP : va_P D classes ((q1, .inl (k 0, ai (L + 1) r')) :: (ap, .inr (1, [.ref q1, .int (iI (0)), .int (iI (0)), .int (iI (0))])) :: (af, .inr (2, [.ref ar, .int (iI (bg)), .int (iI ((L : Int))), .int (iI (lr)), .int (iI (wy))])) :: (ar, .inl (k 0, ai 65 r)) :: wr) H := hP
  have hD : va_D (fun q : Nat => s0.heap.size ≤ q) ((q1, .inl (k 0, ai (L + 1) r')) :: (ap, .inr (1, [.ref q1, .int (iI (0)), .int (iI (0)), .int (iI (0))])) :: (af, .inr (2, [.ref ar, .int (iI (bg)), .int (iI ((L : Int))), .int (iI (lr)), .int (iI (wy))])) :: (ar, .inl (k 0, ai 65 r)) :: wr) := hD
  refine lv_aload_n hx hb d_P_init_21 rfl (lv_at hl 0 rfl) ?_
  refine lv_aload_n hx hb d_P_init_22 rfl (lv_at hl 1 rfl) ?_
  refine va_get (D := D) (ci := 2) (v := .int (iI ((L : Int)))) (C := R_F) (T := F_F) (N := 5) hx hb hG in_F hown hK hP 2 rfl rfl 2 (by decide) (hG _ g_35) (fun _ h9 => h9) rfl d_P_init_23 ?_
  refine va_putF (D := D) (ci := 1) (v := .int (iI ((L : Int)))) (ty := .int) (C := R_P) (T := F_P) (N := 4) hx hb hG in_P t_P t_P_ok n_P hown hK hP hD hS 1 rfl rfl 1 (by decide) (hG _ g_285) (fun _ h9 => h9) rfl hin9 rfl (by decide +kernel) rfl rfl (Nat.le_of_ble_eq_true rfl) d_P_init_26 (fun H locs hP hD hS => ?_)
  have hP : va_P D classes ((q1, .inl (k 0, ai (L + 1) r')) :: (ap, .inr (1, [.ref q1, .int (iI ((L : Int))), .int (iI (0)), .int (iI (0))])) :: (af, .inr (2, [.ref ar, .int (iI (bg)), .int (iI ((L : Int))), .int (iI (lr)), .int (iI (wy))])) :: (ar, .inl (k 0, ai 65 r)) :: wr) H := hP
  have hD : va_D (fun q : Nat => s0.heap.size ≤ q) ((q1, .inl (k 0, ai (L + 1) r')) :: (ap, .inr (1, [.ref q1, .int (iI ((L : Int))), .int (iI (0)), .int (iI (0))])) :: (af, .inr (2, [.ref ar, .int (iI (bg)), .int (iI ((L : Int))), .int (iI (lr)), .int (iI (wy))])) :: (ar, .inl (k 0, ai 65 r)) :: wr) := hD
  refine lv_aload_n hx hb d_P_init_29 rfl (lv_at hl 0 rfl) ?_
  refine lv_aload_n hx hb d_P_init_30 rfl (lv_at hl 1 rfl) ?_
  refine va_get (D := D) (ci := 2) (v := .int (iI (wy))) (C := R_F) (T := F_F) (N := 5) hx hb hG in_F hown hK hP 2 rfl rfl 4 (by decide) (hG _ g_39) (fun _ h9 => h9) rfl d_P_init_31 ?_
  refine va_putF (D := D) (ci := 1) (v := .int (iI (wy))) (ty := .int) (C := R_P) (T := F_P) (N := 4) hx hb hG in_P t_P t_P_ok n_P hown hK hP hD hS 1 rfl rfl 3 (by decide) (hG _ g_289) (fun _ h9 => h9) rfl hin9 rfl (by decide +kernel) rfl rfl (Nat.le_of_ble_eq_true rfl) d_P_init_34 (fun H locs hP hD hS => ?_)
  have hP : va_P D classes ((q1, .inl (k 0, ai (L + 1) r')) :: (ap, .inr (1, [.ref q1, .int (iI ((L : Int))), .int (iI (0)), .int (iI (wy))])) :: (af, .inr (2, [.ref ar, .int (iI (bg)), .int (iI ((L : Int))), .int (iI (lr)), .int (iI (wy))])) :: (ar, .inl (k 0, ai 65 r)) :: wr) H := hP
  have hD : va_D (fun q : Nat => s0.heap.size ≤ q) ((q1, .inl (k 0, ai (L + 1) r')) :: (ap, .inr (1, [.ref q1, .int (iI ((L : Int))), .int (iI (0)), .int (iI (wy))])) :: (af, .inr (2, [.ref ar, .int (iI (bg)), .int (iI ((L : Int))), .int (iI (lr)), .int (iI (wy))])) :: (ar, .inl (k 0, ai 65 r)) :: wr) := hD
  refine ri_iconst hx hb d_P_init_37 ?_
  refine lv_istore_n (lv' := [(2, .int (iI (0))), (0, .ref ap), (1, .ref af)]) hx hb d_P_init_38 rfl hl (by decide) rfl (fun ls hl => ?_)
  refine ri_iconst hx hb d_P_init_39 ?_
  refine lv_istore_n (lv' := [(3, .int (iI (0))), (2, .int (iI (0))), (0, .ref ap), (1, .ref af)]) hx hb d_P_init_40 rfl hl (by decide) rfl (fun ls hl => ?_)
  replace hl : lv_has ls 4 [(3, .int (iI (0 + ((0 : Nat) : Int)))), (2, .int (iI (itF max r' 0 0 0))), (0, .ref ap), (1, .ref af)] := hl
  obtain ⟨κ, ν, hinv, hl1⟩ : ∃ (κ : Nat) (ν : Nat), (ν + κ = L + 1) ∧ lv_has ls 4 [(0, .ref ap), (2, .int (iI (itF max r' 0 0 ν))), (3, .int (iI (0 + (ν : Int))))] := ⟨L + 1, 0, (by omega), lv_sub hl [2, 1, 0] rfl⟩
  clear hl
  have hl := hl1
  clear hl1
  induction κ generalizing ν ls with
  | zero =>
    obtain h1 := hinv
    have q2 : 0 ≤ itF max r' 0 0 ν ∧ itF max r' 0 0 ν ≤ 500 := itF_max ν (by omega) (fun j g1 g2 => (hrr' j (by omega) (by omega)).2)
    refine lv_iload_n hx hb d_P_init_41 rfl (lv_at hl 2 rfl) ?_
    refine lv_aload_n hx hb d_P_init_42 rfl (lv_at hl 0 rfl) ?_
    refine va_get (D := D) (ci := 1) (v := .ref q1) (C := R_P) (T := F_P) (N := 4) hx hb hG in_P hown hK hP 1 rfl rfl 0 (by decide) (hG _ g_283) (fun _ h9 => h9) rfl d_P_init_43 ?_
    refine ra_alen (z := (L + 1)) hx hb hK hP 0 0 rfl rfl rfl d_P_init_46 ?_
    refine ri_icmp_ge (tgt := 67) hx hb d_P_init_47 (by decide) (by omega) (by omega) (fun c47 => ?_) (fun c47 => ?_)
    · have hN9 : ν = L + 1 := by omega
      subst hN9
      refine lv_aload_n hx hb d_P_init_67 rfl (lv_at hl 0 rfl) ?_
      refine lv_iload_n hx hb d_P_init_68 rfl (lv_at hl 1 rfl) ?_
      refine ri_iconst hx hb d_P_init_69 ?_
      refine ri_iadd hx hb d_P_init_70 ?_
      refine va_putF (D := D) (ci := 1) (v := .int (iI ((itF max r' 0 0 (L + 1)) + 3))) (ty := .int) (C := R_P) (T := F_P) (N := 4) hx hb hG in_P t_P t_P_ok n_P hown hK hP hD hS 1 rfl rfl 2 (by decide) (hG _ g_287) (fun _ h9 => h9) rfl hin9 rfl (by decide +kernel) rfl rfl (Nat.le_of_ble_eq_true rfl) d_P_init_71 (fun H locs hP hD hS => ?_)
      have hP : va_P D classes ((q1, .inl (k 0, ai (L + 1) r')) :: (ap, .inr (1, [.ref q1, .int (iI ((L : Int))), .int (iI ((itF max r' 0 0 (L + 1)) + 3)), .int (iI (wy))])) :: (af, .inr (2, [.ref ar, .int (iI (bg)), .int (iI ((L : Int))), .int (iI (lr)), .int (iI (wy))])) :: (ar, .inl (k 0, ai 65 r)) :: wr) H := hP
      have hD : va_D (fun q : Nat => s0.heap.size ≤ q) ((q1, .inl (k 0, ai (L + 1) r')) :: (ap, .inr (1, [.ref q1, .int (iI ((L : Int))), .int (iI ((itF max r' 0 0 (L + 1)) + 3)), .int (iI (wy))])) :: (af, .inr (2, [.ref ar, .int (iI (bg)), .int (iI ((L : Int))), .int (iI (lr)), .int (iI (wy))])) :: (ar, .inl (k 0, ai 65 r)) :: wr) := hD
      exact re_v hx hb hr hlocks (fun t ht hW => ⟨_, ⟨q1, r', rfl, hcp, rfl⟩, wd_next h0 hS hP hD t ht hW⟩) hS.2.2 (Nat.le_of_ble_eq_true rfl) (Nat.le_of_ble_eq_true rfl) d_P_init_74
    · exact absurd c47 (by omega)
  | succ κ ih =>
    obtain h1 := hinv
    have q2 : 0 ≤ itF max r' 0 0 ν ∧ itF max r' 0 0 ν ≤ 500 := itF_max ν (by omega) (fun j g1 g2 => (hrr' j (by omega) (by omega)).2)
    refine lv_iload_n hx hb d_P_init_41 rfl (lv_at hl 2 rfl) ?_
    refine lv_aload_n hx hb d_P_init_42 rfl (lv_at hl 0 rfl) ?_
    refine va_get (D := D) (ci := 1) (v := .ref q1) (C := R_P) (T := F_P) (N := 4) hx hb hG in_P hown hK hP 1 rfl rfl 0 (by decide) (hG _ g_283) (fun _ h9 => h9) rfl d_P_init_43 ?_
    refine ra_alen (z := (L + 1)) hx hb hK hP 0 0 rfl rfl rfl d_P_init_46 ?_
    refine ri_icmp_ge (tgt := 67) hx hb d_P_init_47 (by decide) (by omega) (by omega) (fun c47 => ?_) (fun c47 => ?_)
    · exact absurd c47 (by omega)
    · have q3 := hrr' (0 + ν) (by omega) (by omega)
      refine lv_iload_n hx hb d_P_init_50 rfl (lv_at hl 1 rfl) ?_
      refine lv_aload_n hx hb d_P_init_51 rfl (lv_at hl 0 rfl) ?_
      refine va_get (D := D) (ci := 1) (v := .ref q1) (C := R_P) (T := F_P) (N := 4) hx hb hG in_P hown hK hP 1 rfl rfl 0 (by decide) (hG _ g_283) (fun _ h9 => h9) rfl d_P_init_52 ?_
      refine lv_iload_n hx hb d_P_init_55 rfl (lv_at hl 2 rfl) ?_
      refine ra_iald hx hb hK hP 0 rfl (by omega) (by omega) d_P_init_56 ?_
      refine rd_call (ex_runS (As := [.int (iI (itF max r' 0 0 ν)), .int (iI (r' (0 + (ν : Int))))]) (rest := []) ⟨hx, hb, hml, hown, hG⟩ (c_J_max l (itF max r' 0 0 ν) (r' (0 + ν)) (by omega) (by omega)) (cb_code (n := 2) hG g_254 g_9 g_282 rfl rfl (by decide +kernel) ⟨Nat.le_of_ble_eq_true rfl, Nat.le_of_ble_eq_true rfl⟩) (hG _ g_253) ⟨fun _ _ _ _ q => q, fun _ _ _ => rfl⟩ rfl rfl hl.1 rfl (lv_room (Nat.le_of_ble_eq_true rfl)) d_P_init_57 ⟨Nat.le_of_ble_eq_true rfl, Nat.le_of_ble_eq_true rfl⟩) (fun v9 h9 => ?_)
      obtain rfl := h9
      show W _ _ _ _ _ _ _ _ _ _ _ _ _ _ _ (F0 m9 60 ls [.int (iI (itF max r' 0 0 (ν + 1)))])
      refine lv_istore_n (lv' := [(2, .int (iI (itF max r' 0 0 (ν + 1)))), (0, .ref ap), (3, .int (iI (0 + (ν : Int))))]) hx hb d_P_init_60 rfl hl (by decide) rfl (fun ls hl => ?_)
      refine lv_iinc (v := iI (0 + ((ν + 1 : Nat) : Int))) (lv' := [(3, .int (iI (0 + ((ν + 1 : Nat) : Int)))), (2, .int (iI (itF max r' 0 0 (ν + 1)))), (0, .ref ap)]) hx hb d_P_init_61 hl (k := 2) rfl ((ii_add _ _).trans (congrArg iI (by omega))) (by decide) rfl (fun ls hl => ?_)
      refine lv_goto (tgt := 41) hx hb d_P_init_64 (by decide) ?_
      exact ih ls (ν + 1) (by omega) (lv_sub hl [2, 1, 0] rfl)

theorem wl_P2 {D : va_G} {cl : List vw_C} {ws : va_W} {H : Heap} (h : va_P D cl ws H) {a b : Nat} {x y : Nat × va_E} (e1 : ws[a]? = some x) (e2 : ws[b]? = some y) : va_P D cl [x, y] H := wl_Pm h (fun q hq => by
  rcases List.mem_cons.mp hq with rfl | hq
  · exact List.mem_of_getElem? e1
  · rw [List.mem_singleton.mp hq]
    exact List.mem_of_getElem? e2)
/-- all LIFTs, all REACHED, as arrays -/
def liA (r hh : Int → Int) (n L : Nat) : Int → Int := seqF (fun _ => 0) (fun x => liF r hh n L x) 0 (L + 1)
def loA (r hh : Int → Int) (n L : Nat) : Int → Int := seqF (fun _ => 0) (fun x => loF (liA r hh n L) hh n L x) 0 (L + 1)
set_option maxHeartbeats 4000000 in
set_option maxRecDepth 100000 in
theorem c_R_init {l : Launch} {s0 : State} {D : va_G} {k : Nat → ClassId} (hC : Cx l s0 D k) (ax ar ah L n9 i1 i2 : Nat) (r hh : Int → Int) (wl : va_W) (e1 : wl[i1]? = some (ar, .inl (k 0, ai (L + 1) r))) (e2 : wl[i2]? = some (ah, .inl (k 0, ai (n9 + 1) hh))) (hL : L ≤ 64) (hn9 : n9 ≤ 12) (hrr : ∀ j : Int, 0 ≤ j → j ≤ L → 0 ≤ r j ∧ r j ≤ 500) (hhh : ∀ j : Int, 0 ≤ j → j ≤ n9 → 0 ≤ hh j ∧ hh j ≤ 12) : WdM l s0 D y_R_init { frames := 2, cells := 2, slots := 130, locals := 47 } [.ref ax, .ref ar, .ref ah] ((ax, .inr (3, [.null])) :: wl) (fun v ws' => ∃ q1 q2 : Nat, v = none ∧ ws' = ((q2, .inl (k 0, ai (L + 1) (loA r hh n9 L))) :: (q1, .inl (k 0, ai (L + 1) (liA r hh n9 L))) :: (ax, .inr (3, [.ref q2])) :: wl)) (fun E ws' => False) 2 130 := by
  refine ex_ofW (cc := b_R_init) (maxL := 5) (ret := none) (hh := []) (by decide +kernel) (Or.inl ⟨g_379, rfl⟩) ?_
  intro p9 e9 s m9 args9 below9 meth9 c9 s9 B9 hml htab hv
  obtain ⟨rfl, h0, hP, hD⟩ := hv
  have hx := B9.exec
  have hb := B9.bytes
  have hr := B9.returns
  have hG := atoms_spec (ws := GW) B9.pre
  have hown : s.vm.findClass "LathePieces$Reach" = some m9.cls := findClass_of_methodNamed B9.named
  have hlocks := B9.notSynchronized
  have hin9 : meth9.name = "<init>" := (name_of_methodNamed B9.named B9.method).1
  have hK := cx_K hC h0
  have hS : va_S (aL s0) s.heap s.heap [] := va_S.rf
  have hA : ∀ q : Nat, s.heap.size ≤ q → aL s0 q := fun q h => Nat.le_trans h0.2.1 h
  have hl := lv_entry ([.ref ax, .ref ar, .ref ah]) (n := 5) (Nat.le_of_ble_eq_true rfl)
  rw [lg_entry_eq]
  generalize (lg_sl ([.ref ax, .ref ar, .ref ah]) ++ List.replicate (5 - (lg_sl ([.ref ax, .ref ar, .ref ah])).length) Slot.unset).toArray = ls at hl ⊢
  replace hl : lv_has ls 5 [(0, .ref ax), (1, .ref ar), (2, .ref ah)] := hl
  have hli : ∀ j : Int, 0 ≤ j → j ≤ L → 0 ≤ liA r hh n9 L j ∧ liA r hh n9 L j ≤ 512 := fun j h1 h2 => by rw [liA, seqF_in (by omega)]; exact liF_rg (by omega) hrr hhh
  refine lv_aload_n hx hb d_R_init_0 rfl (lv_at hl 0 rfl) ?_
  refine W.objInit hx hb hown (hG _ g_380) (hG _ g_23) (hG _ g_24) rfl (by rw [hml]; exact hl.1) rfl d_R_init_1 (Nat.le_of_ble_eq_true rfl) (Nat.le_of_ble_eq_true rfl) ?_
  refine W.eq (g2 := F0 m9 4 ls []) rfl ?_
  refine lv_aload_n hx hb d_R_init_4 rfl (lv_at hl 1 rfl) ?_
  refine ra_alen (z := (L + 1)) hx hb hK hP (i1 + 1) 0 e1 rfl rfl d_R_init_5 ?_
  refine ra_newi (N := L + 1) hx hb hG g_53 hK hP hD hS hA rfl (by omega) (Nat.le_of_ble_eq_true rfl) (by show 0 + (L + 1) ≤ 130; omega) d_R_init_6 (fun q1 H hP hD hS => ?_)
  refine W.widen (k := 1) (n := 65) (Nat.le_of_ble_eq_true rfl) (by omega) ?_
  refine lv_astore_n (lv' := [(3, .ref q1), (0, .ref ax), (1, .ref ar), (2, .ref ah)]) hx hb d_R_init_8 rfl hl (by decide) rfl (fun ls hl => ?_)
  refine ri_iconst hx hb d_R_init_9 ?_
  refine lv_istore (lv' := [(4, .int (iI (0))), (3, .ref q1), (0, .ref ax), (1, .ref ar), (2, .ref ah)]) hx hb d_R_init_10 hl (by decide) rfl (fun ls hl => ?_)
  have loop : ∀ (Q9 : State → Prop) (κ ν : Nat) (H : Heap) (locs : List Loc) (ls : Array Slot), ν + κ = L + 1 → va_P D classes ((q1, .inl (k 0, ai (L + 1) (seqF (fun _ => 0) (fun x => liF r hh n9 L x) 0 (ν)))) :: (ax, .inr (3, [.null])) :: wl) H → va_D (aL s0) ((q1, .inl (k 0, ai (L + 1) (seqF (fun _ => 0) (fun x => liF r hh n9 L x) 0 (ν)))) :: (ax, .inr (3, [.null])) :: wl) → va_S (aL s0) s.heap H locs → lv_has ls 5 [(0, .ref ax), (1, .ref ar), (2, .ref ah), (3, .ref q1), (4, .int (iI (0 + (ν : Int))))] → (∀ (H : Heap) (locs : List Loc) (ls : Array Slot), va_P D classes ((q1, .inl (k 0, ai (L + 1) (seqF (fun _ => 0) (fun x => liF r hh n9 L x) 0 (L + 1)))) :: (ax, .inr (3, [.null])) :: wl) H → va_D (aL s0) ((q1, .inl (k 0, ai (L + 1) (seqF (fun _ => 0) (fun x => liF r hh n9 L x) 0 (L + 1)))) :: (ax, .inr (3, [.null])) :: wl) → va_S (aL s0) s.heap H locs → lv_has ls 5 [(0, .ref ax), (1, .ref ar), (2, .ref ah), (3, .ref q1)] → W p9 l e9 (headSpec GW { frames := 2, cells := 2, slots := 130, locals := 47 }).room s m9 ([.ref ax, .ref ar, .ref ah] : List Value).toArray below9 meth9 c9 H locs 1 65 Q9 (F0 m9 36 ls [])) → W p9 l e9 (headSpec GW { frames := 2, cells := 2, slots := 130, locals := 47 }).room s m9 ([.ref ax, .ref ar, .ref ah] : List Value).toArray below9 meth9 c9 H locs 1 65 Q9 (F0 m9 12 ls []) := by
    intro Q9 κ
    induction κ with
    | zero =>
      intro ν H locs ls hinv hP hD hS hl kex
      refine lv_iload hx hb d_R_init_12 (lv_at hl 4 rfl) ?_
      refine lv_aload_n hx hb d_R_init_14 rfl (lv_at hl 1 rfl) ?_
      refine ra_alen (z := (L + 1)) hx hb hK hP (i1 + 2) 0 e1 rfl rfl d_R_init_15 ?_
      refine ri_icmp_ge (tgt := 36) hx hb d_R_init_16 (by decide) (by omega) (by omega) (fun c16 => ?_) (fun c16 => ?_)
      · have hN9 : ν = L + 1 := by omega
        subst hN9
        exact kex H locs ls hP hD hS (lv_sub hl [0, 1, 2, 3] rfl)
      · exact absurd c16 (by omega)
    | succ κ ih =>
      intro ν H locs ls hinv hP hD hS hl kex
      refine lv_iload hx hb d_R_init_12 (lv_at hl 4 rfl) ?_
      refine lv_aload_n hx hb d_R_init_14 rfl (lv_at hl 1 rfl) ?_
      refine ra_alen (z := (L + 1)) hx hb hK hP (i1 + 2) 0 e1 rfl rfl d_R_init_15 ?_
      refine ri_icmp_ge (tgt := 36) hx hb d_R_init_16 (by decide) (by omega) (by omega) (fun c16 => ?_) (fun c16 => ?_)
      · exact absurd c16 (by omega)
      · refine lv_aload_n hx hb d_R_init_19 rfl (lv_at hl 3 rfl) ?_
        refine lv_iload hx hb d_R_init_20 (lv_at hl 4 rfl) ?_
        refine lv_aload_n hx hb d_R_init_22 rfl (lv_at hl 1 rfl) ?_
        refine lv_aload_n hx hb d_R_init_23 rfl (lv_at hl 2 rfl) ?_
        refine lv_iload hx hb d_R_init_24 (lv_at hl 4 rfl) ?_
        refine rd_call (ex_runS (As := [.ref ar, .ref ah, .int (iI (0 + (ν : Int)))]) (rest := [.int (iI (0 + (ν : Int))), .ref q1]) ⟨hx, hb, hml, hown, hG⟩ (c_R_liftAt hC ar ah L n9 r hh (0 + ν) hL hn9 (by omega) hrr hhh) (cb_code (n := 3) hG g_383 g_15 g_381 rfl rfl (by decide +kernel) ⟨Nat.le_of_ble_eq_true rfl, Nat.le_of_ble_eq_true rfl⟩) (hG _ g_382) ⟨fun _ _ _ _ q => q, fun U hU hW => ⟨rfl, la_next h0 (fun _ z => z) hS U hU hW, (by show va_P D classes _ U.heap; rw [hU]; exact (wl_P2 hP (a := i1 + 2) (b := i2 + 2) e1 e2))⟩⟩ rfl rfl hl.1 rfl (lv_room (Nat.le_of_ble_eq_true rfl)) d_R_init_26 ⟨Nat.le_of_ble_eq_true rfl, Nat.le_of_ble_eq_true rfl⟩) (fun v9 h9 => ?_)
        obtain rfl := h9
        show W _ _ _ _ _ _ _ _ _ _ _ _ _ _ _ (F0 m9 29 ls [.int (iI (liF r hh n9 L (0 + ν))), .int (iI (0 + (ν : Int))), .ref q1])
        refine ra_iast (v := liF r hh n9 L (0 + ν)) hx hb hK hP hD hS 0 rfl (by omega) (by omega) d_R_init_29 (fun H locs hP hD hS => ?_)
        have hP : va_P D classes ((q1, .inl (k 0, ai (L + 1) (zU (seqF (fun _ => 0) (fun x => liF r hh n9 L x) 0 (ν)) (0 + (ν : Int)) (liF r hh n9 L (0 + ν))))) :: (ax, .inr (3, [.null])) :: wl) H := hP
        have hD : va_D (fun q : Nat => s0.heap.size ≤ q) ((q1, .inl (k 0, ai (L + 1) (zU (seqF (fun _ => 0) (fun x => liF r hh n9 L x) 0 (ν)) (0 + (ν : Int)) (liF r hh n9 L (0 + ν))))) :: (ax, .inr (3, [.null])) :: wl) := hD
        rw [show zU (seqF (fun _ => 0) (fun x => liF r hh n9 L x) 0 (ν)) (0 + ν) (liF r hh n9 L (0 + ν)) = seqF (fun _ => 0) (fun x => liF r hh n9 L x) 0 (ν + 1) from seqF_s (fun _ => 0) (fun x => liF r hh n9 L x) 0 ν] at hP hD
        refine lv_iinc (v := iI (0 + ((ν + 1 : Nat) : Int))) (lv' := [(4, .int (iI (0 + ((ν + 1 : Nat) : Int)))), (0, .ref ax), (1, .ref ar), (2, .ref ah), (3, .ref q1)]) hx hb d_R_init_30 hl (k := 4) rfl ((ii_add _ _).trans (congrArg iI (by omega))) (by decide) rfl (fun ls hl => ?_)
        refine lv_goto (tgt := 12) hx hb d_R_init_33 (by decide) ?_
        exact ih (ν + 1) H locs ls (by omega) hP hD hS (lv_sub hl [1, 2, 3, 4, 0] rfl) kex
  refine loop _ (L + 1) 0 _ _ _ (by omega) (by rw [seqF_0]; exact hP) (by rw [seqF_0]; exact hD) hS (lv_sub hl [2, 3, 4, 1, 0] rfl) (fun H locs ls hP hD hS hl => ?_)
  have hP : va_P D classes ((q1, .inl (k 0, ai (L + 1) (liA r hh n9 L))) :: (ax, .inr (3, [.null])) :: wl) H := hP
  have hD : va_D (fun q : Nat => s0.heap.size ≤ q) ((q1, .inl (k 0, ai (L + 1) (liA r hh n9 L))) :: (ax, .inr (3, [.null])) :: wl) := hD
  refine lv_aload_n hx hb d_R_init_36 rfl (lv_at hl 0 rfl) ?_
  refine lv_aload_n hx hb d_R_init_37 rfl (lv_at hl 1 rfl) ?_
  refine ra_alen (z := (L + 1)) hx hb hK hP (i1 + 2) 0 e1 rfl rfl d_R_init_38 ?_
  refine ra_newi (N := L + 1) hx hb hG g_53 hK hP hD hS hA rfl (by omega) (Nat.le_of_ble_eq_true rfl) (by show 65 + (L + 1) ≤ 130; omega) d_R_init_39 (fun q2 H hP hD hS => ?_)
  refine W.widen (k := 2) (n := 130) (Nat.le_of_ble_eq_true rfl) (by omega) ?_
  refine va_putF (D := D) (ci := 3) (v := .ref q2) (ty := .array .int) (C := R_R) (T := F_R) (N := 1) hx hb hG in_R t_R t_R_ok n_R hown hK hP hD hS 2 rfl rfl 0 (by decide) (hG _ g_392) (fun _ h9 => h9) rfl hin9 rfl (by decide +kernel) rfl rfl (Nat.le_of_ble_eq_true rfl) d_R_init_41 (fun H locs hP hD hS => ?_)
  have hP : va_P D classes ((q2, .inl (k 0, ai (L + 1) (fun _ => 0))) :: (q1, .inl (k 0, ai (L + 1) (liA r hh n9 L))) :: (ax, .inr (3, [.ref q2])) :: wl) H := hP
  have hD : va_D (fun q : Nat => s0.heap.size ≤ q) ((q2, .inl (k 0, ai (L + 1) (fun _ => 0))) :: (q1, .inl (k 0, ai (L + 1) (liA r hh n9 L))) :: (ax, .inr (3, [.ref q2])) :: wl) := hD
  refine ri_iconst hx hb d_R_init_44 ?_
  refine lv_istore (lv' := [(4, .int (iI (0))), (0, .ref ax), (1, .ref ar), (2, .ref ah), (3, .ref q1)]) hx hb d_R_init_45 hl (by decide) rfl (fun ls hl => ?_)
  have loop2 : ∀ (Q9 : State → Prop) (κ ν : Nat) (H : Heap) (locs : List Loc) (ls : Array Slot), ν + κ = L + 1 → va_P D classes ((q2, .inl (k 0, ai (L + 1) (seqF (fun _ => 0) (fun x => loF (liA r hh n9 L) hh n9 L x) 0 (ν)))) :: (q1, .inl (k 0, ai (L + 1) (liA r hh n9 L))) :: (ax, .inr (3, [.ref q2])) :: wl) H → va_D (aL s0) ((q2, .inl (k 0, ai (L + 1) (seqF (fun _ => 0) (fun x => loF (liA r hh n9 L) hh n9 L x) 0 (ν)))) :: (q1, .inl (k 0, ai (L + 1) (liA r hh n9 L))) :: (ax, .inr (3, [.ref q2])) :: wl) → va_S (aL s0) s.heap H locs → lv_has ls 5 [(0, .ref ax), (1, .ref ar), (2, .ref ah), (3, .ref q1), (4, .int (iI (0 + (ν : Int))))] → (∀ (H : Heap) (locs : List Loc) (ls : Array Slot), va_P D classes ((q2, .inl (k 0, ai (L + 1) (seqF (fun _ => 0) (fun x => loF (liA r hh n9 L) hh n9 L x) 0 (L + 1)))) :: (q1, .inl (k 0, ai (L + 1) (liA r hh n9 L))) :: (ax, .inr (3, [.ref q2])) :: wl) H → va_D (aL s0) ((q2, .inl (k 0, ai (L + 1) (seqF (fun _ => 0) (fun x => loF (liA r hh n9 L) hh n9 L x) 0 (L + 1)))) :: (q1, .inl (k 0, ai (L + 1) (liA r hh n9 L))) :: (ax, .inr (3, [.ref q2])) :: wl) → va_S (aL s0) s.heap H locs → lv_has ls 5 [(0, .ref ax)] → W p9 l e9 (headSpec GW { frames := 2, cells := 2, slots := 130, locals := 47 }).room s m9 ([.ref ax, .ref ar, .ref ah] : List Value).toArray below9 meth9 c9 H locs 2 130 Q9 (F0 m9 74 ls [])) → W p9 l e9 (headSpec GW { frames := 2, cells := 2, slots := 130, locals := 47 }).room s m9 ([.ref ax, .ref ar, .ref ah] : List Value).toArray below9 meth9 c9 H locs 2 130 Q9 (F0 m9 47 ls []) := by
    intro Q9 κ
    induction κ with
    | zero =>
      intro ν H locs ls hinv hP hD hS hl kex
      refine lv_iload hx hb d_R_init_47 (lv_at hl 4 rfl) ?_
      refine lv_aload_n hx hb d_R_init_49 rfl (lv_at hl 1 rfl) ?_
      refine ra_alen (z := (L + 1)) hx hb hK hP (i1 + 3) 0 e1 rfl rfl d_R_init_50 ?_
      refine ri_icmp_ge (tgt := 74) hx hb d_R_init_51 (by decide) (by omega) (by omega) (fun c51 => ?_) (fun c51 => ?_)
      · have hN9 : ν = L + 1 := by omega
        subst hN9
        exact kex H locs ls hP hD hS (lv_sub hl [0] rfl)
      · exact absurd c51 (by omega)
    | succ κ ih =>
      intro ν H locs ls hinv hP hD hS hl kex
      refine lv_iload hx hb d_R_init_47 (lv_at hl 4 rfl) ?_
      refine lv_aload_n hx hb d_R_init_49 rfl (lv_at hl 1 rfl) ?_
      refine ra_alen (z := (L + 1)) hx hb hK hP (i1 + 3) 0 e1 rfl rfl d_R_init_50 ?_
      refine ri_icmp_ge (tgt := 74) hx hb d_R_init_51 (by decide) (by omega) (by omega) (fun c51 => ?_) (fun c51 => ?_)
      · exact absurd c51 (by omega)
      · refine lv_aload_n hx hb d_R_init_54 rfl (lv_at hl 0 rfl) ?_
        refine va_get (D := D) (ci := 3) (v := .ref q2) (C := R_R) (T := F_R) (N := 1) hx hb hG in_R hown hK hP 2 rfl rfl 0 (by decide) (hG _ g_392) (fun _ h9 => h9) rfl d_R_init_55 ?_
        refine lv_iload hx hb d_R_init_58 (lv_at hl 4 rfl) ?_
        refine lv_aload_n hx hb d_R_init_60 rfl (lv_at hl 3 rfl) ?_
        refine lv_aload_n hx hb d_R_init_61 rfl (lv_at hl 2 rfl) ?_
        refine lv_iload hx hb d_R_init_62 (lv_at hl 4 rfl) ?_
        refine rd_call (ex_runS (As := [.ref q1, .ref ah, .int (iI (0 + (ν : Int)))]) (rest := [.int (iI (0 + (ν : Int))), .ref q2]) ⟨hx, hb, hml, hown, hG⟩ (c_R_lowAt hC q1 ah L n9 (liA r hh n9 L) hh (0 + ν) hL hn9 (by omega) hli hhh) (cb_code (n := 3) hG g_391 g_15 g_389 rfl rfl (by decide +kernel) ⟨Nat.le_of_ble_eq_true rfl, Nat.le_of_ble_eq_true rfl⟩) (hG _ g_390) ⟨fun _ _ _ _ q => q, fun U hU hW => ⟨rfl, la_next h0 (fun _ z => z) hS U hU hW, (by show va_P D classes _ U.heap; rw [hU]; exact (wl_P2 hP (a := 1) (b := i2 + 3) rfl e2))⟩⟩ rfl rfl hl.1 rfl (lv_room (Nat.le_of_ble_eq_true rfl)) d_R_init_64 ⟨Nat.le_of_ble_eq_true rfl, Nat.le_of_ble_eq_true rfl⟩) (fun v9 h9 => ?_)
        obtain rfl := h9
        show W _ _ _ _ _ _ _ _ _ _ _ _ _ _ _ (F0 m9 67 ls [.int (iI (loF (liA r hh n9 L) hh n9 L (0 + ν))), .int (iI (0 + (ν : Int))), .ref q2])
        refine ra_iast (v := loF (liA r hh n9 L) hh n9 L (0 + ν)) hx hb hK hP hD hS 0 rfl (by omega) (by omega) d_R_init_67 (fun H locs hP hD hS => ?_)
        have hP : va_P D classes ((q2, .inl (k 0, ai (L + 1) (zU (seqF (fun _ => 0) (fun x => loF (liA r hh n9 L) hh n9 L x) 0 (ν)) (0 + (ν : Int)) (loF (liA r hh n9 L) hh n9 L (0 + ν))))) :: (q1, .inl (k 0, ai (L + 1) (liA r hh n9 L))) :: (ax, .inr (3, [.ref q2])) :: wl) H := hP
        have hD : va_D (fun q : Nat => s0.heap.size ≤ q) ((q2, .inl (k 0, ai (L + 1) (zU (seqF (fun _ => 0) (fun x => loF (liA r hh n9 L) hh n9 L x) 0 (ν)) (0 + (ν : Int)) (loF (liA r hh n9 L) hh n9 L (0 + ν))))) :: (q1, .inl (k 0, ai (L + 1) (liA r hh n9 L))) :: (ax, .inr (3, [.ref q2])) :: wl) := hD
        rw [show zU (seqF (fun _ => 0) (fun x => loF (liA r hh n9 L) hh n9 L x) 0 (ν)) (0 + ν) (loF (liA r hh n9 L) hh n9 L (0 + ν)) = seqF (fun _ => 0) (fun x => loF (liA r hh n9 L) hh n9 L x) 0 (ν + 1) from seqF_s (fun _ => 0) (fun x => loF (liA r hh n9 L) hh n9 L x) 0 ν] at hP hD
        refine lv_iinc (v := iI (0 + ((ν + 1 : Nat) : Int))) (lv' := [(4, .int (iI (0 + ((ν + 1 : Nat) : Int)))), (0, .ref ax), (1, .ref ar), (2, .ref ah), (3, .ref q1)]) hx hb d_R_init_68 hl (k := 4) rfl ((ii_add _ _).trans (congrArg iI (by omega))) (by decide) rfl (fun ls hl => ?_)
        refine lv_goto (tgt := 47) hx hb d_R_init_71 (by decide) ?_
        exact ih (ν + 1) H locs ls (by omega) hP hD hS (lv_sub hl [1, 2, 3, 4, 0] rfl) kex
  refine loop2 _ (L + 1) 0 _ _ _ (by omega) (by rw [seqF_0]; exact hP) (by rw [seqF_0]; exact hD) hS (lv_sub hl [1, 2, 3, 4, 0] rfl) (fun H locs ls hP hD hS hl => ?_)
  exact re_v hx hb hr hlocks (fun t ht hW => ⟨_, ⟨q1, q2, rfl, rfl⟩, wd_next h0 hS hP hD t ht hW⟩) hS.2.2 (Nat.le_of_ble_eq_true rfl) (Nat.le_of_ble_eq_true rfl) d_R_init_74

