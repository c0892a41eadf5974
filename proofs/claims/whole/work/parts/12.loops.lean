theorem sh_pow : ∀ k : Fin 12, iI 1 <<< (iI ((k.val : Nat) : Int) &&& 31) = iI (2 ^ k.val) := by decide
set_option maxHeartbeats 4000000 in
set_option maxRecDepth 100000 in
/-- the root of n -/
theorem c_C_wholeRoot (l : Launch) (n : Int) (hn : 0 ≤ n ∧ n < 16777216) : PuM l y_C_wholeRoot { frames := 0, cells := 0, slots := 0, locals := 0 } [.int (iI (n))] (fun v => v = some (.int (iI (isq n)))) := by
  refine ex_ofW (cc := b_C_wholeRoot) (maxL := 4) (ret := (some .int)) (hh := []) (by decide +kernel) (Or.inl ⟨g_248, rfl⟩) ?_
  intro p9 e9 s m9 args9 below9 meth9 c9 s9 B9 hml htab hv
  obtain rfl := hv
  have hx := B9.exec
  have hb := B9.bytes
  have hr := B9.returns
  have hG := atoms_spec (ws := GW) B9.pre
  have hown : s.vm.findClass "LathePieces" = some m9.cls := findClass_of_methodNamed B9.named
  have hlocks := B9.notSynchronized
  have hl := lv_entry ([.int (iI (n))]) (n := 4) (Nat.le_of_ble_eq_true rfl)
  rw [lg_entry_eq]
  generalize (lg_sl ([.int (iI (n))]) ++ List.replicate (4 - (lg_sl ([.int (iI (n))])).length) Slot.unset).toArray = ls at hl ⊢
  replace hl : lv_has ls 4 [(0, .int (iI (n)))] := hl
  refine ri_iconst hx hb d_C_wholeRoot_0 ?_
  refine lv_istore_n (lv' := [(1, .int (iI (0))), (0, .int (iI (n)))]) hx hb d_C_wholeRoot_1 rfl hl (by decide) rfl (fun ls hl => ?_)
  refine ri_bipush hx hb d_C_wholeRoot_2 (by decide) ?_
  refine lv_istore_n (lv' := [(2, .int (iI (11))), (1, .int (iI (0))), (0, .int (iI (n)))]) hx hb d_C_wholeRoot_4 rfl hl (by decide) rfl (fun ls hl => ?_)
  obtain ⟨κ, ρ, β, hinv, hl1⟩ : ∃ (κ : Nat) (ρ β : Int), (κ ≤ 12 ∧ β = (κ : Int) - 1 ∧ 0 ≤ ρ ∧ ρ + 2 ^ κ ≤ 4096 ∧ ρ * ρ ≤ n ∧ n < (ρ + 2 ^ κ) * (ρ + 2 ^ κ)) ∧ lv_has ls 4 [(0, .int (iI (n))), (1, .int (iI (ρ))), (2, .int (iI (β)))] := ⟨12, 0, 11, ⟨by omega, by omega, by omega, by omega, by omega, by omega⟩, lv_sub hl [2, 1, 0] rfl⟩
  clear hl
  have hl := hl1
  clear hl1
  induction κ generalizing ρ β ls with
  | zero =>
    obtain ⟨h1, h2, h3, h4, h5, h6⟩ := hinv
    refine lv_iload_n hx hb d_C_wholeRoot_5 rfl (lv_at hl 2 rfl) ?_
    refine ri_if_lt (tgt := 30) hx hb d_C_wholeRoot_6 (by decide) (by omega) (fun c6 => ?_) (fun c6 => ?_)
    · refine lv_iload_n hx hb d_C_wholeRoot_30 rfl (lv_at hl 1 rfl) ?_
      exact re_i hx hb hr hlocks (fun t ht hW => ⟨by rw [isq_eq h3 h5 h6], ht⟩) (fun z hz => nomatch hz) (Nat.le_refl _) (Nat.le_refl _) d_C_wholeRoot_31
    · exact absurd c6 (by omega)
  | succ κ ih =>
    obtain ⟨h1, h2, h3, h4, h5, h6⟩ := hinv
    have hβ : β = (κ : Int) := by omega
    subst hβ
    have e2 : (2 : Int) ^ (κ + 1) = 2 * 2 ^ κ := by rw [Int.pow_succ]; omega
    have e3 : (0 : Int) < 2 ^ κ := Int.pow_pos (by decide)
    rw [e2] at h4 h6
    refine lv_iload_n hx hb d_C_wholeRoot_5 rfl (lv_at hl 2 rfl) ?_
    refine ri_if_lt (tgt := 30) hx hb d_C_wholeRoot_6 (by decide) (by omega) (fun c6 => ?_) (fun c6 => ?_)
    · exact absurd c6 (by omega)
    · refine lv_iload_n hx hb d_C_wholeRoot_9 rfl (lv_at hl 1 rfl) ?_
      refine ri_iconst hx hb d_C_wholeRoot_10 ?_
      refine lv_iload_n hx hb d_C_wholeRoot_11 rfl (lv_at hl 2 rfl) ?_
      refine lv_ishl hx hb d_C_wholeRoot_12 ?_
      refine tp_i (y := iI (2 ^ κ)) (sh_pow ⟨κ, by omega⟩) ?_
      refine ri_iadd hx hb d_C_wholeRoot_13 ?_
      refine lv_istore_n (lv' := [(3, .int (iI ((ρ) + (2 ^ κ)))), (0, .int (iI (n))), (1, .int (iI (ρ))), (2, .int (iI ((κ : Int))))]) hx hb d_C_wholeRoot_14 rfl hl (by decide) rfl (fun ls hl => ?_)
      have e4 : (ρ + 2 ^ κ) * (ρ + 2 ^ κ) ≤ 4096 * 4096 := sq_mono (by omega) (by omega)
      have e5 : 0 ≤ (ρ + 2 ^ κ) * (ρ + 2 ^ κ) := Int.mul_nonneg (by omega) (by omega)
      refine lv_iload_n hx hb d_C_wholeRoot_15 rfl (lv_at hl 0 rfl) ?_
      refine lv_iload_n hx hb d_C_wholeRoot_16 rfl (lv_at hl 0 rfl) ?_
      refine ri_imul hx hb d_C_wholeRoot_17 ?_
      refine lv_iload_n hx hb d_C_wholeRoot_18 rfl (lv_at hl 1 rfl) ?_
      refine ri_icmp_gt (tgt := 24) hx hb d_C_wholeRoot_19 (by decide) (by omega) (by omega) (fun c19 => ?_) (fun c19 => ?_)
      · refine lv_iinc (v := iI ((κ : Int) + (-1))) (lv' := [(2, .int (iI ((κ : Int) + (-1)))), (3, .int (iI ((ρ) + (2 ^ κ)))), (0, .int (iI (n))), (1, .int (iI (ρ)))]) hx hb d_C_wholeRoot_24 hl (k := 3) rfl (ii_add _ _) (by decide) rfl (fun ls hl => ?_)
        refine lv_goto (tgt := 5) hx hb d_C_wholeRoot_27 (by decide) ?_
        exact ih ls (ρ) (κ + -1) ⟨by omega, by omega, h3, by omega, h5, by omega⟩ (lv_sub hl [2, 3, 0] rfl)
      · refine lv_iload_n hx hb d_C_wholeRoot_22 rfl (lv_at hl 0 rfl) ?_
        refine lv_istore_n (lv' := [(1, .int (iI ((ρ) + (2 ^ κ)))), (3, .int (iI ((ρ) + (2 ^ κ)))), (0, .int (iI (n))), (2, .int (iI ((κ : Int))))]) hx hb d_C_wholeRoot_23 rfl hl (by decide) rfl (fun ls hl => ?_)
        refine lv_iinc (v := iI ((κ : Int) + (-1))) (lv' := [(2, .int (iI ((κ : Int) + (-1)))), (1, .int (iI ((ρ) + (2 ^ κ)))), (3, .int (iI ((ρ) + (2 ^ κ)))), (0, .int (iI (n)))]) hx hb d_C_wholeRoot_24 hl (k := 3) rfl (ii_add _ _) (by decide) rfl (fun ls hl => ?_)
        refine lv_goto (tgt := 5) hx hb d_C_wholeRoot_27 (by decide) ?_
        exact ih ls (ρ + 2 ^ κ) (κ + -1) ⟨by omega, by omega, by omega, by omega, by omega, by rw [show ρ + 2 ^ κ + 2 ^ κ = ρ + 2 * 2 ^ κ by omega]; exact h6⟩ (lv_sub hl [3, 1, 0] rfl)

set_option maxHeartbeats 4000000 in
set_option maxRecDepth 100000 in
/-- the root of n -/
theorem c_M_root (l : Launch) (n : Int) (hn : 0 ≤ n ∧ n < 16777216) : PuM l y_M_root { frames := 0, cells := 0, slots := 0, locals := 0 } [.int (iI (n))] (fun v => v = some (.int (iI (isq n)))) := by
  refine ex_ofW (cc := b_M_root) (maxL := 2) (ret := (some .int)) (hh := []) (by decide +kernel) (Or.inl ⟨g_760, rfl⟩) ?_
  intro p9 e9 s m9 args9 below9 meth9 c9 s9 B9 hml htab hv
  obtain rfl := hv
  have hx := B9.exec
  have hb := B9.bytes
  have hr := B9.returns
  have hG := atoms_spec (ws := GW) B9.pre
  have hown : s.vm.findClass "LathePiecesModel" = some m9.cls := findClass_of_methodNamed B9.named
  have hlocks := B9.notSynchronized
  have hl := lv_entry ([.int (iI (n))]) (n := 2) (Nat.le_of_ble_eq_true rfl)
  rw [lg_entry_eq]
  generalize (lg_sl ([.int (iI (n))]) ++ List.replicate (2 - (lg_sl ([.int (iI (n))])).length) Slot.unset).toArray = ls at hl ⊢
  replace hl : lv_has ls 2 [(0, .int (iI (n)))] := hl
  refine ri_iconst hx hb d_M_root_0 ?_
  refine lv_istore_n (lv' := [(1, .int (iI (0))), (0, .int (iI (n)))]) hx hb d_M_root_1 rfl hl (by decide) rfl (fun ls hl => ?_)
  obtain ⟨κ, ρ, hinv, hl1⟩ : ∃ (κ : Nat) (ρ : Int), (0 ≤ ρ ∧ ρ * ρ ≤ n ∧ ρ ≤ 4096 ∧ ρ + κ = 4097) ∧ lv_has ls 2 [(0, .int (iI (n))), (1, .int (iI (ρ)))] := ⟨4097, 0, ⟨by omega, by omega, by omega, by omega⟩, lv_sub hl [1, 0] rfl⟩
  clear hl
  have hl := hl1
  clear hl1
  induction κ generalizing ρ ls with
  | zero =>
    obtain ⟨h1, h2, h3, h4⟩ := hinv
    exact absurd h4 (by omega)
  | succ κ ih =>
    obtain ⟨h1, h2, h3, h4⟩ := hinv
    have e4 : (ρ + 1) * (ρ + 1) ≤ 4097 * 4097 := sq_mono (by omega) (by omega)
    have e5 : 0 ≤ (ρ + 1) * (ρ + 1) := Int.mul_nonneg (by omega) (by omega)
    refine lv_iload_n hx hb d_M_root_2 rfl (lv_at hl 1 rfl) ?_
    refine ri_iconst hx hb d_M_root_3 ?_
    refine ri_iadd hx hb d_M_root_4 ?_
    refine lv_iload_n hx hb d_M_root_5 rfl (lv_at hl 1 rfl) ?_
    refine ri_iconst hx hb d_M_root_6 ?_
    refine ri_iadd hx hb d_M_root_7 ?_
    refine ri_imul hx hb d_M_root_8 ?_
    refine lv_iload_n hx hb d_M_root_9 rfl (lv_at hl 0 rfl) ?_
    refine ri_icmp_gt (tgt := 19) hx hb d_M_root_10 (by decide) (by omega) (by omega) (fun c10 => ?_) (fun c10 => ?_)
    · refine lv_iload_n hx hb d_M_root_19 rfl (lv_at hl 1 rfl) ?_
      exact re_i hx hb hr hlocks (fun t ht hW => ⟨by rw [isq_eq h1 h2 c10], ht⟩) (fun z hz => nomatch hz) (Nat.le_refl _) (Nat.le_refl _) d_M_root_20
    · have e6 : ρ + 1 < 4096 := sq_lt (by decide) (by omega)
      refine lv_iinc (v := iI (ρ + 1)) (lv' := [(1, .int (iI (ρ + 1))), (0, .int (iI (n)))]) hx hb d_M_root_13 hl (k := 1) rfl (ii_add _ _) (by decide) rfl (fun ls hl => ?_)
      refine lv_goto (tgt := 2) hx hb d_M_root_16 (by decide) ?_
      exact ih ls (ρ + 1) ⟨by omega, by omega, by omega, by omega⟩ (lv_sub hl [1, 0] rfl)

theorem ediv_uni {a b q : Int} (hb : 0 < b) (h1 : q * b ≤ a) (h2 : a < q * b + b) : a / b = q := by
  have h3 : a / b < q + 1 := Int.ediv_lt_of_lt_mul hb (by rw [Int.add_mul]; omega)
  have h4 : q ≤ a / b := (Int.le_ediv_iff_mul_le hb).mpr h1
  omega
theorem tmod_neg {a b : Int} (ha : a ≤ 0) : a.tmod b ≤ 0 := by
  have h1 : (-a).tmod b = -(a.tmod b) := Int.neg_tmod a b
  have h2 := Int.tmod_nonneg (a := -a) b (by omega)
  omega
theorem tdiv_tmod (a b : Int) : a.tdiv b * b + a.tmod b = a := by rw [Int.tmod_def, Int.mul_comm b]; omega
theorem floor_a {a b : Int} (hb : 0 < b) (h : 0 ≤ a ∨ a.tdiv b * b = a) : a / b = a.tdiv b := by
  have h1 := tdiv_tmod a b
  have h2 := tmod_bounds (a := a) hb
  rcases h with h | h
  · have h3 := Int.tmod_nonneg (a := a) b h
    exact ediv_uni hb (by omega) (by omega)
  · exact ediv_uni hb (by omega) (by omega)
theorem floor_b {a b : Int} (hb : 0 < b) (h : a < 0) (h9 : ¬ a.tdiv b * b = a) : a / b = a.tdiv b - 1 := by
  have h1 := tdiv_tmod a b
  have h2 := tmod_bounds (a := a) hb
  have h3 := tmod_neg (a := a) (b := b) (by omega)
  exact ediv_uni hb (by rw [Int.sub_mul]; omega) (by rw [Int.sub_mul]; omega)
theorem i32_neg (z : Int32) : z < 0 ↔ z.toBitVec.msb = true := by
  rw [Int32.lt_iff_toInt_lt, BitVec.msb_eq_toInt]
  simp
theorem xor_neg {x y : Int32} (hy : ¬ y < 0) : x ^^^ y < 0 ↔ x < 0 := by
  rw [i32_neg] at hy
  rw [i32_neg, i32_neg, Int32.toBitVec_xor, BitVec.msb_xor]
  simp [hy]
theorem xor_ge {a b : Int} (ha : In32 a) (hb : 0 < b ∧ b < 2147483648) : 0 ≤ iI a ^^^ iI b ↔ 0 ≤ a := by
  have h1 := xor_neg (x := iI a) (ii_nneg (z := b) ⟨by omega, hb.2⟩)
  rw [← Int32.not_lt, h1, show (0 : Int32) = iI 0 from rfl, ii_lt ha (by decide)]
  omega
set_option maxHeartbeats 4000000 in
set_option maxRecDepth 100000 in
/-- a by b, rounded down -/
theorem c_J_floorDiv (l : Launch) (a b : Int) (ha9 : -2147483648 < a ∧ a < 2147483648) (ha : In32 a) (hb9 : 0 < b ∧ b < 2147483648) : PuM l y_J_floorDiv { frames := 0, cells := 0, slots := 0, locals := 0 } [.int (iI (a)), .int (iI (b))] (fun v => v = some (.int (iI (a / b)))) := by
  refine ex_ofW (cc := b_J_floorDiv) (maxL := 3) (ret := (some .int)) (hh := []) (by decide +kernel) (Or.inl ⟨g_223, rfl⟩) ?_
  intro p9 e9 s m9 args9 below9 meth9 c9 s9 B9 hml htab hv
  obtain rfl := hv
  have hx := B9.exec
  have hb := B9.bytes
  have hr := B9.returns
  have hG := atoms_spec (ws := GW) B9.pre
  have hown : s.vm.findClass "java/lang/Math" = some m9.cls := findClass_of_methodNamed B9.named
  have hlocks := B9.notSynchronized
  have hl := lv_entry ([.int (iI (a)), .int (iI (b))]) (n := 3) (Nat.le_of_ble_eq_true rfl)
  rw [lg_entry_eq]
  generalize (lg_sl ([.int (iI (a)), .int (iI (b))]) ++ List.replicate (3 - (lg_sl ([.int (iI (a)), .int (iI (b))])).length) Slot.unset).toArray = ls at hl ⊢
  replace hl : lv_has ls 3 [(0, .int (iI (a))), (1, .int (iI (b)))] := hl
  refine lv_iload_n hx hb d_J_floorDiv_0 rfl (lv_at hl 0 rfl) ?_
  refine lv_iload_n hx hb d_J_floorDiv_1 rfl (lv_at hl 1 rfl) ?_
  refine ri_idiv hx hb d_J_floorDiv_2 (by omega) (by omega) (by omega) ?_
  refine lv_istore_n (lv' := [(2, .int (iI (Int.tdiv (a) (b)))), (0, .int (iI (a))), (1, .int (iI (b)))]) hx hb d_J_floorDiv_3 rfl hl (by decide) rfl (fun ls hl => ?_)
  refine lv_iload_n hx hb d_J_floorDiv_4 rfl (lv_at hl 1 rfl) ?_
  refine lv_iload_n hx hb d_J_floorDiv_5 rfl (lv_at hl 2 rfl) ?_
  refine lv_ixor hx hb d_J_floorDiv_6 ?_
  refine lv_if_ge (tgt := 21) hx hb d_J_floorDiv_7 (by decide) (fun c7 => ?_) (fun c7 => ?_)
  · refine lv_iload_n hx hb d_J_floorDiv_21 rfl (lv_at hl 0 rfl) ?_
    exact re_i hx hb hr hlocks (fun t ht hW => ⟨by rw [floor_a hb9.1 (Or.inl ((xor_ge ha hb9).mp c7))], ht⟩) (fun z hz => nomatch hz) (Nat.le_refl _) (Nat.le_refl _) d_J_floorDiv_22
  · have c8 : a < 0 := Int.not_le.mp fun q => c7 ((xor_ge ha hb9).mpr q)
    have c9 := tdiv_tmod a b
    have c10 := tmod_bounds (a := a) hb9.1
    have c12 := tmod_neg (a := a) (b := b) (by omega)
    have c11 := ii_tdiv_rg (a := a) (b := b) ha9
    refine lv_iload_n hx hb d_J_floorDiv_10 rfl (lv_at hl 0 rfl) ?_
    refine lv_iload_n hx hb d_J_floorDiv_11 rfl (lv_at hl 2 rfl) ?_
    refine ri_imul hx hb d_J_floorDiv_12 ?_
    refine lv_iload_n hx hb d_J_floorDiv_13 rfl (lv_at hl 1 rfl) ?_
    refine ri_icmp_eq (tgt := 21) hx hb d_J_floorDiv_14 (by decide) (by omega) (by omega) (fun c14 => ?_) (fun c14 => ?_)
    · refine lv_iload_n hx hb d_J_floorDiv_21 rfl (lv_at hl 0 rfl) ?_
      exact re_i hx hb hr hlocks (fun t ht hW => ⟨by rw [floor_a hb9.1 (Or.inr c14)], ht⟩) (fun z hz => nomatch hz) (Nat.le_refl _) (Nat.le_refl _) d_J_floorDiv_22
    · refine lv_iload_n hx hb d_J_floorDiv_17 rfl (lv_at hl 0 rfl) ?_
      refine ri_iconst hx hb d_J_floorDiv_18 ?_
      refine ri_isub hx hb d_J_floorDiv_19 ?_
      exact re_i hx hb hr hlocks (fun t ht hW => ⟨by rw [floor_b hb9.1 c8 c14], ht⟩) (fun z hz => nomatch hz) (Nat.le_refl _) (Nat.le_refl _) d_J_floorDiv_20

/-- one step of Euclid's way halves the product, or puts the greater number first -/
theorem eu_step {x y κ : Nat} (hy : 0 < y) (h : (y < x ∧ x * y < 2 ^ (κ + 1)) ∨ 2 * (x * y) < 2 ^ (κ + 1)) : x % y < y ∧ y * (x % y) < 2 ^ κ := by
  have h1 := Nat.mod_lt x hy
  refine ⟨h1, ?_⟩
  have e1 : 2 ^ (κ + 1) = 2 * 2 ^ κ := by rw [Nat.pow_succ]; omega
  rw [e1] at h
  rcases Nat.lt_or_ge x y with q | q
  · rw [Nat.mod_eq_of_lt q, Nat.mul_comm]
    rcases h with h | h
    · omega
    · omega
  · have h2 := mod_half q hy
    have h3 : 2 * (y * (x % y)) ≤ x * y := by
      have h4 : 2 * (x % y) ≤ x := by omega
      calc 2 * (y * (x % y)) = y * (2 * (x % y)) := by rw [Nat.mul_left_comm]
        _ ≤ y * x := Nat.mul_le_mul_left y h4
        _ = x * y := Nat.mul_comm y x
    rcases h with h | h
    · omega
    · omega
/-- above / below without a common divisor: its part 0 or 1 -/
def frP (a b part : Int) : Int := if part = 0 then a.tdiv (Int.gcd a b) else b.tdiv (Int.gcd a b)
set_option maxHeartbeats 4000000 in
set_option maxRecDepth 100000 in
/-- Euclid -/
theorem c_C_commonDivisor (l : Launch) (A B : Nat) (hA : 1 ≤ A ∧ A < 562949953421312) (hB : B < 562949953421312) (hAB : 2 * (A * B) < 2 ^ 100) : PuM l y_C_commonDivisor { frames := 0, cells := 0, slots := 0, locals := 0 } [.long (jJ ((A : Int))), .long (jJ ((B : Int)))] (fun v => v = some (.long (jJ (Nat.gcd A B : Nat)))) := by
  refine ex_ofW (cc := b_C_commonDivisor) (maxL := 7) (ret := (some .long)) (hh := []) (by decide +kernel) (Or.inl ⟨g_559, rfl⟩) ?_
  intro p9 e9 s m9 args9 below9 meth9 c9 s9 B9 hml htab hv
  obtain rfl := hv
  have hx := B9.exec
  have hb := B9.bytes
  have hr := B9.returns
  have hG := atoms_spec (ws := GW) B9.pre
  have hown : s.vm.findClass "LathePieces" = some m9.cls := findClass_of_methodNamed B9.named
  have hlocks := B9.notSynchronized
  have hl := lv_entry ([.long (jJ ((A : Int))), .long (jJ ((B : Int)))]) (n := 7) (Nat.le_of_ble_eq_true rfl)
  rw [lg_entry_eq]
  generalize (lg_sl ([.long (jJ ((A : Int))), .long (jJ ((B : Int)))]) ++ List.replicate (7 - (lg_sl ([.long (jJ ((A : Int))), .long (jJ ((B : Int)))])).length) Slot.unset).toArray = ls at hl ⊢
  replace hl : lv_has ls 7 [(0, .long (jJ ((A : Int)))), (2, .long (jJ ((B : Int))))] := hl
  refine ri_iconst hx hb d_C_commonDivisor_0 ?_
  refine lv_istore (lv' := [(4, .int (iI (0))), (0, .long (jJ ((A : Int)))), (2, .long (jJ ((B : Int))))]) hx hb d_C_commonDivisor_1 hl (by decide) rfl (fun ls hl => ?_)
  obtain ⟨κ, x, y, hinv, hl1⟩ : ∃ (κ : Nat) (x y : Nat), (κ ≤ 100 ∧ 1 ≤ x ∧ x < 562949953421312 ∧ y < 562949953421312 ∧ Nat.gcd x y = Nat.gcd A B ∧ ((y < x ∧ x * y < 2 ^ κ) ∨ 2 * (x * y) < 2 ^ κ)) ∧ lv_has ls 7 [(0, .long (jJ ((x : Int)))), (2, .long (jJ ((y : Int)))), (4, .int (iI (100 - (κ : Int))))] := ⟨100, A, B, ⟨by omega, hA.1, hA.2, hB, rfl, Or.inr hAB⟩, lv_sub hl [1, 2, 0] rfl⟩
  clear hl
  have hl := hl1
  clear hl1
  induction κ generalizing x y ls with
  | zero =>
    obtain ⟨h1, h2, h3, h4, h5, h6⟩ := hinv
    have hy : y = 0 := by
      have h7 : x * y < 1 := by omega
      rcases Nat.eq_zero_or_pos y with q | q
      · exact q
      · have h8 : 1 * 1 ≤ x * y := Nat.mul_le_mul h2 q
        omega
    subst hy
    rw [Nat.gcd_zero_right] at h5
    refine lv_iload hx hb d_C_commonDivisor_3 (lv_at hl 2 rfl) ?_
    refine ri_bipush hx hb d_C_commonDivisor_5 (by decide) ?_
    refine ri_icmp_ge (tgt := 32) hx hb d_C_commonDivisor_7 (by decide) (by omega) (by omega) (fun c7 => ?_) (fun c7 => ?_)
    · refine lv_lload_n hx hb d_C_commonDivisor_32 rfl (lv_at hl 0 rfl) ?_
      exact re_l hx hb hr hlocks (fun t ht hW => ⟨by rw [h5], ht⟩) (fun z hz => nomatch hz) (Nat.le_refl _) (Nat.le_refl _) d_C_commonDivisor_33
    · exact absurd c7 (by omega)
  | succ κ ih =>
    obtain ⟨h1, h2, h3, h4, h5, h6⟩ := hinv
    refine lv_iload hx hb d_C_commonDivisor_3 (lv_at hl 2 rfl) ?_
    refine ri_bipush hx hb d_C_commonDivisor_5 (by decide) ?_
    refine ri_icmp_ge (tgt := 32) hx hb d_C_commonDivisor_7 (by decide) (by omega) (by omega) (fun c7 => ?_) (fun c7 => ?_)
    · exact absurd c7 (by omega)
    · refine lv_lload_n hx hb d_C_commonDivisor_10 rfl (lv_at hl 1 rfl) ?_
      refine ri_lconst (z := 0) hx hb d_C_commonDivisor_11 rfl ?_
      refine ri_lc_le (tgt := 32) hx hb d_C_commonDivisor_12 d_C_commonDivisor_13 (by decide) (by omega) (by omega) (fun c12 => ?_) (fun c12 => ?_)
      · have hy : y = 0 := by omega
        subst hy
        rw [Nat.gcd_zero_right] at h5
        refine lv_lload_n hx hb d_C_commonDivisor_32 rfl (lv_at hl 0 rfl) ?_
        exact re_l hx hb hr hlocks (fun t ht hW => ⟨by rw [h5], ht⟩) (fun z hz => nomatch hz) (Nat.le_refl _) (Nat.le_refl _) d_C_commonDivisor_33
      · have h7 : 0 < y := by omega
        have h8 := eu_step h7 h6
        refine lv_lload_n hx hb d_C_commonDivisor_16 rfl (lv_at hl 0 rfl) ?_
        refine lv_lload_n hx hb d_C_commonDivisor_17 rfl (lv_at hl 1 rfl) ?_
        refine ri_lrem hx hb d_C_commonDivisor_18 (by omega) (by omega) (by omega) ?_
        refine tp_l (congrArg jJ (show Int.tmod ((x : Int)) ((y : Int)) = ((x % y : Nat) : Int) from tmod_nat x y)) ?_
        refine lv_lstore (lv' := [(5, .long (jJ (((x % y : Nat) : Int)))), (0, .long (jJ ((x : Int)))), (2, .long (jJ ((y : Int)))), (4, .int (iI (100 - ((κ + 1 : Nat) : Int))))]) hx hb d_C_commonDivisor_19 hl (by decide) rfl (fun ls hl => ?_)
        refine lv_lload_n hx hb d_C_commonDivisor_21 rfl (lv_at hl 2 rfl) ?_
        refine lv_lstore_n (lv' := [(0, .long (jJ ((y : Int)))), (5, .long (jJ (((x % y : Nat) : Int)))), (2, .long (jJ ((y : Int)))), (4, .int (iI (100 - ((κ + 1 : Nat) : Int))))]) hx hb d_C_commonDivisor_22 rfl hl (by decide) rfl (fun ls hl => ?_)
        refine lv_lload hx hb d_C_commonDivisor_23 (lv_at hl 1 rfl) ?_
        refine lv_lstore_n (lv' := [(2, .long (jJ (((x % y : Nat) : Int)))), (0, .long (jJ ((y : Int)))), (5, .long (jJ (((x % y : Nat) : Int)))), (4, .int (iI (100 - ((κ + 1 : Nat) : Int))))]) hx hb d_C_commonDivisor_25 rfl hl (by decide) rfl (fun ls hl => ?_)
        refine lv_iinc (v := iI (100 - (κ : Int))) (lv' := [(4, .int (iI (100 - (κ : Int)))), (2, .long (jJ (((x % y : Nat) : Int)))), (0, .long (jJ ((y : Int)))), (5, .long (jJ (((x % y : Nat) : Int))))]) hx hb d_C_commonDivisor_26 hl (k := 3) rfl (by rw [show Int32.ofInt 1 = iI 1 from rfl, ii_add]; congr 1; omega) (by decide) rfl (fun ls hl => ?_)
        refine lv_goto (tgt := 3) hx hb d_C_commonDivisor_29 (by decide) ?_
        exact ih ls (y) (x % y) ⟨by omega, by omega, h4, by omega, by rw [← gcd_step]; exact h5, Or.inl h8⟩ (lv_sub hl [2, 1, 0] rfl)

set_option maxHeartbeats 4000000 in
set_option maxRecDepth 100000 in
/-- a / b without a common divisor -/
theorem c_M_partOf (l : Launch) (a : Int) (b : Nat) (part : Int) (ha9 : -562949953421312 < a ∧ a < 562949953421312) (hb9 : 1 ≤ b ∧ b < 562949953421312) (hp9 : In32 part) : PuM l y_M_partOf { frames := 0, cells := 0, slots := 0, locals := 0 } [.long (jJ (a)), .long (jJ ((b : Int))), .int (iI (part))] (fun v => v = some (.long (jJ (frP a b part)))) := by
  refine ex_ofW (cc := b_M_partOf) (maxL := 11) (ret := (some .long)) (hh := []) (by decide +kernel) (Or.inl ⟨g_855, rfl⟩) ?_
  intro p9 e9 s m9 args9 below9 meth9 c9 s9 B9 hml htab hv
  obtain rfl := hv
  have hx := B9.exec
  have hb := B9.bytes
  have hr := B9.returns
  have hG := atoms_spec (ws := GW) B9.pre
  have hown : s.vm.findClass "LathePiecesModel" = some m9.cls := findClass_of_methodNamed B9.named
  have hlocks := B9.notSynchronized
  have hl := lv_entry ([.long (jJ (a)), .long (jJ ((b : Int))), .int (iI (part))]) (n := 11) (Nat.le_of_ble_eq_true rfl)
  rw [lg_entry_eq]
  generalize (lg_sl ([.long (jJ (a)), .long (jJ ((b : Int))), .int (iI (part))]) ++ List.replicate (11 - (lg_sl ([.long (jJ (a)), .long (jJ ((b : Int))), .int (iI (part))])).length) Slot.unset).toArray = ls at hl ⊢
  replace hl : lv_has ls 11 [(0, .long (jJ (a))), (2, .long (jJ ((b : Int)))), (4, .int (iI (part)))] := hl
  refine lv_lload_n hx hb d_M_partOf_0 rfl (lv_at hl 0 rfl) ?_
  refine ri_lconst (z := 0) hx hb d_M_partOf_1 rfl ?_
  refine ri_lc_ge (tgt := 11) hx hb d_M_partOf_2 d_M_partOf_3 (by decide) (by omega) (by omega) (fun c2 => ?_) (fun c2 => ?_)
  · refine lv_lload_n hx hb d_M_partOf_11 rfl (lv_at hl 0 rfl) ?_
    refine tp_l (congrArg jJ (show a = (a.natAbs : Int) from by omega)) ?_
    refine lv_lstore (lv' := [(5, .long (jJ ((a.natAbs : Int)))), (0, .long (jJ (a))), (2, .long (jJ ((b : Int)))), (4, .int (iI (part)))]) hx hb d_M_partOf_12 hl (by decide) rfl (fun ls hl => ?_)
    refine lv_lload_n hx hb d_M_partOf_14 rfl (lv_at hl 2 rfl) ?_
    refine lv_lstore (lv' := [(7, .long (jJ ((b : Int)))), (5, .long (jJ ((a.natAbs : Int)))), (0, .long (jJ (a))), (2, .long (jJ ((b : Int)))), (4, .int (iI (part)))]) hx hb d_M_partOf_15 hl (by decide) rfl (fun ls hl => ?_)
    obtain ⟨κ, x, y, hinv, hl1⟩ : ∃ (κ : Nat) (x y : Nat), (y ≤ κ ∧ 1 ≤ x + y ∧ x < 562949953421312 ∧ y < 562949953421312 ∧ Nat.gcd x y = Int.gcd a b) ∧ lv_has ls 11 [(0, .long (jJ (a))), (2, .long (jJ ((b : Int)))), (4, .int (iI (part))), (5, .long (jJ ((x : Int)))), (7, .long (jJ ((y : Int))))] := ⟨b, a.natAbs, b, ⟨Nat.le_refl _, by omega, by omega, by omega, rfl⟩, lv_sub hl [2, 3, 4, 1, 0] rfl⟩
    clear hl
    have hl := hl1
    clear hl1
    induction κ generalizing x y ls with
    | zero =>
      obtain ⟨h1, h2, h3, h4, h5⟩ := hinv
      refine lv_lload hx hb d_M_partOf_17 (lv_at hl 4 rfl) ?_
      refine ri_lconst (z := 0) hx hb d_M_partOf_19 rfl ?_
      refine ri_lc_eq (tgt := 42) hx hb d_M_partOf_20 d_M_partOf_21 (by decide) (by omega) (by omega) (fun c20 => ?_) (fun c20 => ?_)
      · have hy : y = 0 := by omega
        subst hy
        rw [Nat.gcd_zero_right] at h5
        refine lv_iload hx hb d_M_partOf_42 (lv_at hl 2 rfl) ?_
        refine ri_if_ne (tgt := 54) hx hb d_M_partOf_44 (by decide) (by omega) (fun c44 => ?_) (fun c44 => ?_)
        · refine lv_lload_n hx hb d_M_partOf_54 rfl (lv_at hl 1 rfl) ?_
          refine lv_lload hx hb d_M_partOf_55 (lv_at hl 3 rfl) ?_
          refine ri_ldiv hx hb d_M_partOf_57 (by omega) (by omega) (by omega) ?_
          exact re_l hx hb hr hlocks (fun t ht hW => ⟨by rw [frP, if_neg c44, ← h5], ht⟩) (fun z hz => nomatch hz) (Nat.le_refl _) (Nat.le_refl _) d_M_partOf_58
        · refine lv_lload_n hx hb d_M_partOf_47 rfl (lv_at hl 0 rfl) ?_
          refine lv_lload hx hb d_M_partOf_48 (lv_at hl 3 rfl) ?_
          refine ri_ldiv hx hb d_M_partOf_50 (by omega) (by omega) (by omega) ?_
          refine lv_goto (tgt := 58) hx hb d_M_partOf_51 (by decide) ?_
          exact re_l hx hb hr hlocks (fun t ht hW => ⟨by rw [frP, if_pos c44, ← h5], ht⟩) (fun z hz => nomatch hz) (Nat.le_refl _) (Nat.le_refl _) d_M_partOf_58
      · exact absurd c20 (by omega)
    | succ κ ih =>
      obtain ⟨h1, h2, h3, h4, h5⟩ := hinv
      refine lv_lload hx hb d_M_partOf_17 (lv_at hl 4 rfl) ?_
      refine ri_lconst (z := 0) hx hb d_M_partOf_19 rfl ?_
      refine ri_lc_eq (tgt := 42) hx hb d_M_partOf_20 d_M_partOf_21 (by decide) (by omega) (by omega) (fun c20 => ?_) (fun c20 => ?_)
      · have hy : y = 0 := by omega
        subst hy
        rw [Nat.gcd_zero_right] at h5
        refine lv_iload hx hb d_M_partOf_42 (lv_at hl 2 rfl) ?_
        refine ri_if_ne (tgt := 54) hx hb d_M_partOf_44 (by decide) (by omega) (fun c44 => ?_) (fun c44 => ?_)
        · refine lv_lload_n hx hb d_M_partOf_54 rfl (lv_at hl 1 rfl) ?_
          refine lv_lload hx hb d_M_partOf_55 (lv_at hl 3 rfl) ?_
          refine ri_ldiv hx hb d_M_partOf_57 (by omega) (by omega) (by omega) ?_
          exact re_l hx hb hr hlocks (fun t ht hW => ⟨by rw [frP, if_neg c44, ← h5], ht⟩) (fun z hz => nomatch hz) (Nat.le_refl _) (Nat.le_refl _) d_M_partOf_58
        · refine lv_lload_n hx hb d_M_partOf_47 rfl (lv_at hl 0 rfl) ?_
          refine lv_lload hx hb d_M_partOf_48 (lv_at hl 3 rfl) ?_
          refine ri_ldiv hx hb d_M_partOf_50 (by omega) (by omega) (by omega) ?_
          refine lv_goto (tgt := 58) hx hb d_M_partOf_51 (by decide) ?_
          exact re_l hx hb hr hlocks (fun t ht hW => ⟨by rw [frP, if_pos c44, ← h5], ht⟩) (fun z hz => nomatch hz) (Nat.le_refl _) (Nat.le_refl _) d_M_partOf_58
      · have h7 : 0 < y := by omega
        have h8 := Nat.mod_lt x h7
        refine lv_lload hx hb d_M_partOf_24 (lv_at hl 3 rfl) ?_
        refine lv_lload hx hb d_M_partOf_26 (lv_at hl 4 rfl) ?_
        refine ri_lrem hx hb d_M_partOf_28 (by omega) (by omega) (by omega) ?_
        refine tp_l (congrArg jJ (show Int.tmod ((x : Int)) ((y : Int)) = ((x % y : Nat) : Int) from tmod_nat x y)) ?_
        refine lv_lstore (lv' := [(9, .long (jJ (((x % y : Nat) : Int)))), (0, .long (jJ (a))), (2, .long (jJ ((b : Int)))), (4, .int (iI (part))), (5, .long (jJ ((x : Int)))), (7, .long (jJ ((y : Int))))]) hx hb d_M_partOf_29 hl (by decide) rfl (fun ls hl => ?_)
        refine lv_lload hx hb d_M_partOf_31 (lv_at hl 5 rfl) ?_
        refine lv_lstore (lv' := [(5, .long (jJ ((y : Int)))), (9, .long (jJ (((x % y : Nat) : Int)))), (0, .long (jJ (a))), (2, .long (jJ ((b : Int)))), (4, .int (iI (part))), (7, .long (jJ ((y : Int))))]) hx hb d_M_partOf_33 hl (by decide) rfl (fun ls hl => ?_)
        refine lv_lload hx hb d_M_partOf_35 (lv_at hl 1 rfl) ?_
        refine lv_lstore (lv' := [(7, .long (jJ (((x % y : Nat) : Int)))), (5, .long (jJ ((y : Int)))), (9, .long (jJ (((x % y : Nat) : Int)))), (0, .long (jJ (a))), (2, .long (jJ ((b : Int)))), (4, .int (iI (part)))]) hx hb d_M_partOf_37 hl (by decide) rfl (fun ls hl => ?_)
        refine lv_goto (tgt := 17) hx hb d_M_partOf_39 (by decide) ?_
        exact ih ls (y) (x % y) ⟨by omega, by omega, h4, by omega, by rw [← gcd_step]; exact h5⟩ (lv_sub hl [3, 4, 5, 1, 0] rfl)
  · refine lv_lload_n hx hb d_M_partOf_6 rfl (lv_at hl 0 rfl) ?_
    refine ri_lneg hx hb d_M_partOf_7 ?_
    refine lv_goto (tgt := 12) hx hb d_M_partOf_8 (by decide) ?_
    refine tp_l (congrArg jJ (show -(a) = (a.natAbs : Int) from by omega)) ?_
    refine lv_lstore (lv' := [(5, .long (jJ ((a.natAbs : Int)))), (0, .long (jJ (a))), (2, .long (jJ ((b : Int)))), (4, .int (iI (part)))]) hx hb d_M_partOf_12 hl (by decide) rfl (fun ls hl => ?_)
    refine lv_lload_n hx hb d_M_partOf_14 rfl (lv_at hl 2 rfl) ?_
    refine lv_lstore (lv' := [(7, .long (jJ ((b : Int)))), (5, .long (jJ ((a.natAbs : Int)))), (0, .long (jJ (a))), (2, .long (jJ ((b : Int)))), (4, .int (iI (part)))]) hx hb d_M_partOf_15 hl (by decide) rfl (fun ls hl => ?_)
    obtain ⟨κ, x, y, hinv, hl1⟩ : ∃ (κ : Nat) (x y : Nat), (y ≤ κ ∧ 1 ≤ x + y ∧ x < 562949953421312 ∧ y < 562949953421312 ∧ Nat.gcd x y = Int.gcd a b) ∧ lv_has ls 11 [(0, .long (jJ (a))), (2, .long (jJ ((b : Int)))), (4, .int (iI (part))), (5, .long (jJ ((x : Int)))), (7, .long (jJ ((y : Int))))] := ⟨b, a.natAbs, b, ⟨Nat.le_refl _, by omega, by omega, by omega, rfl⟩, lv_sub hl [2, 3, 4, 1, 0] rfl⟩
    clear hl
    have hl := hl1
    clear hl1
    induction κ generalizing x y ls with
    | zero =>
      obtain ⟨h1, h2, h3, h4, h5⟩ := hinv
      refine lv_lload hx hb d_M_partOf_17 (lv_at hl 4 rfl) ?_
      refine ri_lconst (z := 0) hx hb d_M_partOf_19 rfl ?_
      refine ri_lc_eq (tgt := 42) hx hb d_M_partOf_20 d_M_partOf_21 (by decide) (by omega) (by omega) (fun c20 => ?_) (fun c20 => ?_)
      · have hy : y = 0 := by omega
        subst hy
        rw [Nat.gcd_zero_right] at h5
        refine lv_iload hx hb d_M_partOf_42 (lv_at hl 2 rfl) ?_
        refine ri_if_ne (tgt := 54) hx hb d_M_partOf_44 (by decide) (by omega) (fun c44 => ?_) (fun c44 => ?_)
        · refine lv_lload_n hx hb d_M_partOf_54 rfl (lv_at hl 1 rfl) ?_
          refine lv_lload hx hb d_M_partOf_55 (lv_at hl 3 rfl) ?_
          refine ri_ldiv hx hb d_M_partOf_57 (by omega) (by omega) (by omega) ?_
          exact re_l hx hb hr hlocks (fun t ht hW => ⟨by rw [frP, if_neg c44, ← h5], ht⟩) (fun z hz => nomatch hz) (Nat.le_refl _) (Nat.le_refl _) d_M_partOf_58
        · refine lv_lload_n hx hb d_M_partOf_47 rfl (lv_at hl 0 rfl) ?_
          refine lv_lload hx hb d_M_partOf_48 (lv_at hl 3 rfl) ?_
          refine ri_ldiv hx hb d_M_partOf_50 (by omega) (by omega) (by omega) ?_
          refine lv_goto (tgt := 58) hx hb d_M_partOf_51 (by decide) ?_
          exact re_l hx hb hr hlocks (fun t ht hW => ⟨by rw [frP, if_pos c44, ← h5], ht⟩) (fun z hz => nomatch hz) (Nat.le_refl _) (Nat.le_refl _) d_M_partOf_58
      · exact absurd c20 (by omega)
    | succ κ ih =>
      obtain ⟨h1, h2, h3, h4, h5⟩ := hinv
      refine lv_lload hx hb d_M_partOf_17 (lv_at hl 4 rfl) ?_
      refine ri_lconst (z := 0) hx hb d_M_partOf_19 rfl ?_
      refine ri_lc_eq (tgt := 42) hx hb d_M_partOf_20 d_M_partOf_21 (by decide) (by omega) (by omega) (fun c20 => ?_) (fun c20 => ?_)
      · have hy : y = 0 := by omega
        subst hy
        rw [Nat.gcd_zero_right] at h5
        refine lv_iload hx hb d_M_partOf_42 (lv_at hl 2 rfl) ?_
        refine ri_if_ne (tgt := 54) hx hb d_M_partOf_44 (by decide) (by omega) (fun c44 => ?_) (fun c44 => ?_)
        · refine lv_lload_n hx hb d_M_partOf_54 rfl (lv_at hl 1 rfl) ?_
          refine lv_lload hx hb d_M_partOf_55 (lv_at hl 3 rfl) ?_
          refine ri_ldiv hx hb d_M_partOf_57 (by omega) (by omega) (by omega) ?_
          exact re_l hx hb hr hlocks (fun t ht hW => ⟨by rw [frP, if_neg c44, ← h5], ht⟩) (fun z hz => nomatch hz) (Nat.le_refl _) (Nat.le_refl _) d_M_partOf_58
        · refine lv_lload_n hx hb d_M_partOf_47 rfl (lv_at hl 0 rfl) ?_
          refine lv_lload hx hb d_M_partOf_48 (lv_at hl 3 rfl) ?_
          refine ri_ldiv hx hb d_M_partOf_50 (by omega) (by omega) (by omega) ?_
          refine lv_goto (tgt := 58) hx hb d_M_partOf_51 (by decide) ?_
          exact re_l hx hb hr hlocks (fun t ht hW => ⟨by rw [frP, if_pos c44, ← h5], ht⟩) (fun z hz => nomatch hz) (Nat.le_refl _) (Nat.le_refl _) d_M_partOf_58
      · have h7 : 0 < y := by omega
        have h8 := Nat.mod_lt x h7
        refine lv_lload hx hb d_M_partOf_24 (lv_at hl 3 rfl) ?_
        refine lv_lload hx hb d_M_partOf_26 (lv_at hl 4 rfl) ?_
        refine ri_lrem hx hb d_M_partOf_28 (by omega) (by omega) (by omega) ?_
        refine tp_l (congrArg jJ (show Int.tmod ((x : Int)) ((y : Int)) = ((x % y : Nat) : Int) from tmod_nat x y)) ?_
        refine lv_lstore (lv' := [(9, .long (jJ (((x % y : Nat) : Int)))), (0, .long (jJ (a))), (2, .long (jJ ((b : Int)))), (4, .int (iI (part))), (5, .long (jJ ((x : Int)))), (7, .long (jJ ((y : Int))))]) hx hb d_M_partOf_29 hl (by decide) rfl (fun ls hl => ?_)
        refine lv_lload hx hb d_M_partOf_31 (lv_at hl 5 rfl) ?_
        refine lv_lstore (lv' := [(5, .long (jJ ((y : Int)))), (9, .long (jJ (((x % y : Nat) : Int)))), (0, .long (jJ (a))), (2, .long (jJ ((b : Int)))), (4, .int (iI (part))), (7, .long (jJ ((y : Int))))]) hx hb d_M_partOf_33 hl (by decide) rfl (fun ls hl => ?_)
        refine lv_lload hx hb d_M_partOf_35 (lv_at hl 1 rfl) ?_
        refine lv_lstore (lv' := [(7, .long (jJ (((x % y : Nat) : Int)))), (5, .long (jJ ((y : Int)))), (9, .long (jJ (((x % y : Nat) : Int)))), (0, .long (jJ (a))), (2, .long (jJ ((b : Int)))), (4, .int (iI (part)))]) hx hb d_M_partOf_37 hl (by decide) rfl (fun ls hl => ?_)
        refine lv_goto (tgt := 17) hx hb d_M_partOf_39 (by decide) ?_
        exact ih ls (y) (x % y) ⟨by omega, by omega, h4, by omega, by rw [← gcd_step]; exact h5⟩ (lv_sub hl [3, 4, 5, 1, 0] rfl)

set_option maxHeartbeats 4000000 in
set_option maxRecDepth 100000 in
/-- a / b without a common divisor -/
theorem c_C_fractionPart (l : Launch) (a : Int) (b : Nat) (part : Int) (ha9 : -562949953421312 < a ∧ a < 562949953421312) (hb9 : 1 ≤ b ∧ b < 562949953421312) (hab : 2 * (b * a.natAbs) < 2 ^ 100) (hp9 : In32 part) : PuM l y_C_fractionPart { frames := 1, cells := 0, slots := 0, locals := 26 } [.long (jJ (a)), .long (jJ ((b : Int))), .int (iI (part))] (fun v => v = some (.long (jJ (frP a b part)))) := by
  refine ex_ofW (cc := b_C_fractionPart) (maxL := 7) (ret := (some .long)) (hh := []) (by decide +kernel) (Or.inl ⟨g_553, rfl⟩) ?_
  intro p9 e9 s m9 args9 below9 meth9 c9 s9 B9 hml htab hv
  obtain rfl := hv
  have hx := B9.exec
  have hb := B9.bytes
  have hr := B9.returns
  have hG := atoms_spec (ws := GW) B9.pre
  have hown : s.vm.findClass "LathePieces" = some m9.cls := findClass_of_methodNamed B9.named
  have hlocks := B9.notSynchronized
  have hl := lv_entry ([.long (jJ (a)), .long (jJ ((b : Int))), .int (iI (part))]) (n := 7) (Nat.le_of_ble_eq_true rfl)
  rw [lg_entry_eq]
  generalize (lg_sl ([.long (jJ (a)), .long (jJ ((b : Int))), .int (iI (part))]) ++ List.replicate (7 - (lg_sl ([.long (jJ (a)), .long (jJ ((b : Int))), .int (iI (part))])).length) Slot.unset).toArray = ls at hl ⊢
  replace hl : lv_has ls 7 [(0, .long (jJ (a))), (2, .long (jJ ((b : Int)))), (4, .int (iI (part)))] := hl
  refine lv_lload_n hx hb d_C_fractionPart_0 rfl (lv_at hl 1 rfl) ?_
  refine lv_lload_n hx hb d_C_fractionPart_1 rfl (lv_at hl 0 rfl) ?_
  refine pu_S (As := [.long (jJ (a))]) (rest := [.long (jJ ((b : Int)))]) ⟨hx, hb, hml, hown, hG⟩ (c_J_absL l a (by omega)) (cb_code (R := _) (n := 1) hG g_556 g_9 g_554 rfl rfl (by decide +kernel) ⟨Nat.le_of_ble_eq_true rfl, Nat.le_of_ble_eq_true rfl⟩) (hG _ g_555) rfl hl.1 rfl (Nat.le_of_ble_eq_true rfl) d_C_fractionPart_2 ⟨Nat.zero_le _, Nat.zero_le _⟩ (fun v9 h9 => ?_)
  obtain rfl := h9
  show W _ _ _ _ _ _ _ _ _ _ _ _ _ _ _ (F0 m9 5 ls [.long (jJ ((a.natAbs : Int))), .long (jJ ((b : Int)))])
  refine pu_S (As := [.long (jJ ((b : Int))), .long (jJ ((a.natAbs : Int)))]) (rest := []) ⟨hx, hb, hml, hown, hG⟩ (c_C_commonDivisor l b a.natAbs hb9 (by omega) hab) (cb_code (R := _) (n := 2) hG g_559 g_1 g_557 rfl rfl (by decide +kernel) ⟨Nat.le_of_ble_eq_true rfl, Nat.le_of_ble_eq_true rfl⟩) (hG _ g_558) rfl hl.1 rfl (Nat.le_of_ble_eq_true rfl) d_C_fractionPart_5 ⟨Nat.zero_le _, Nat.zero_le _⟩ (fun v9 h9 => ?_)
  obtain rfl := h9
  show W _ _ _ _ _ _ _ _ _ _ _ _ _ _ _ (F0 m9 8 ls [.long (jJ ((Nat.gcd b a.natAbs : Nat)))])
  have e1 : Nat.gcd b a.natAbs = Int.gcd a b := Nat.gcd_comm _ _
  have e2 : 0 < Int.gcd a b := by rw [← e1]; exact Nat.gcd_pos_of_pos_left _ hb9.1
  have e3 : Int.gcd a b ≤ b := by rw [← e1]; exact Nat.gcd_le_left _ hb9.1
  rw [e1]
  refine lv_lstore (lv' := [(5, .long (jJ ((Int.gcd a b : Nat)))), (0, .long (jJ (a))), (2, .long (jJ ((b : Int)))), (4, .int (iI (part)))]) hx hb d_C_fractionPart_8 hl (by decide) rfl (fun ls hl => ?_)
  refine lv_iload hx hb d_C_fractionPart_10 (lv_at hl 3 rfl) ?_
  refine ri_if_ne (tgt := 19) hx hb d_C_fractionPart_12 (by decide) (by omega) (fun c12 => ?_) (fun c12 => ?_)
  · refine lv_lload_n hx hb d_C_fractionPart_19 rfl (lv_at hl 2 rfl) ?_
    refine lv_lload hx hb d_C_fractionPart_20 (lv_at hl 0 rfl) ?_
    refine ri_ldiv hx hb d_C_fractionPart_22 (by omega) (by omega) (by omega) ?_
    exact re_l hx hb hr hlocks (fun t ht hW => ⟨by rw [frP, if_neg c12], ht⟩) (fun z hz => nomatch hz) (Nat.le_refl _) (Nat.le_refl _) d_C_fractionPart_23
  · refine lv_lload_n hx hb d_C_fractionPart_15 rfl (lv_at hl 1 rfl) ?_
    refine lv_goto (tgt := 20) hx hb d_C_fractionPart_16 (by decide) ?_
    refine lv_lload hx hb d_C_fractionPart_20 (lv_at hl 0 rfl) ?_
    refine ri_ldiv hx hb d_C_fractionPart_22 (by omega) (by omega) (by omega) ?_
    exact re_l hx hb hr hlocks (fun t ht hW => ⟨by rw [frP, if_pos c12], ht⟩) (fun z hz => nomatch hz) (Nat.le_refl _) (Nat.le_refl _) d_C_fractionPart_23

