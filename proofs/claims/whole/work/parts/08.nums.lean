/-! Machine ints and longs by whole numbers. -/
def iI (z : Int) : Int32 := Int32.ofInt z
def jJ (z : Int) : Int64 := Int64.ofInt z
abbrev In32 (z : Int) : Prop := -2147483648 ≤ z ∧ z < 2147483648
abbrev In64 (z : Int) : Prop := -9223372036854775808 ≤ z ∧ z < 9223372036854775808
theorem ii_to {z : Int} (h : In32 z) : (iI z).toInt = z := Int32.toInt_ofInt_of_le (by have := h.1; omega) (by have := h.2; omega)
theorem jj_to {z : Int} (h : In64 z) : (jJ z).toInt = z := Int64.toInt_ofInt_of_le (by have := h.1; omega) (by have := h.2; omega)
theorem ii_of (x : Int32) : x = iI x.toInt := (Int32.ofInt_toInt x).symm
theorem jj_of (x : Int64) : x = jJ x.toInt := (Int64.ofInt_toInt x).symm
theorem ii_rg (x : Int32) : In32 x.toInt := ⟨by have := x.minValue_le_toInt; simpa using this, by have := x.toInt_lt; omega⟩
theorem ii_ex (x : Int32) : ∃ z : Int, In32 z ∧ x = iI z := ⟨x.toInt, ii_rg x, ii_of x⟩
theorem ii_add (a b : Int) : iI a + iI b = iI (a + b) := (Int32.ofInt_add a b).symm
theorem ii_sub (a b : Int) : iI a - iI b = iI (a - b) := (Int32.ofInt_sub a b).symm
theorem ii_mul (a b : Int) : iI a * iI b = iI (a * b) := (Int32.ofInt_mul a b).symm
theorem ii_neg (a : Int) : -iI a = iI (-a) := (Int32.ofInt_neg a).symm
theorem jj_add (a b : Int) : jJ a + jJ b = jJ (a + b) := (Int64.ofInt_add a b).symm
theorem jj_sub (a b : Int) : jJ a - jJ b = jJ (a - b) := (Int64.ofInt_sub a b).symm
theorem jj_mul (a b : Int) : jJ a * jJ b = jJ (a * b) := (Int64.ofInt_mul a b).symm
theorem jj_neg (a : Int) : -jJ a = jJ (-a) := (Int64.ofInt_neg a).symm
theorem ii_lt {a b : Int} (ha : In32 a) (hb : In32 b) : iI a < iI b ↔ a < b := by rw [Int32.lt_iff_toInt_lt, ii_to ha, ii_to hb]
theorem ii_le {a b : Int} (ha : In32 a) (hb : In32 b) : iI a ≤ iI b ↔ a ≤ b := by rw [Int32.le_iff_toInt_le, ii_to ha, ii_to hb]
theorem ii_eq {a b : Int} (ha : In32 a) (hb : In32 b) : iI a = iI b ↔ a = b := by rw [← Int32.toInt_inj, ii_to ha, ii_to hb]
theorem jj_lt {a b : Int} (ha : In64 a) (hb : In64 b) : jJ a < jJ b ↔ a < b := by rw [Int64.lt_iff_toInt_lt, jj_to ha, jj_to hb]
theorem jj_le {a b : Int} (ha : In64 a) (hb : In64 b) : jJ a ≤ jJ b ↔ a ≤ b := by rw [Int64.le_iff_toInt_le, jj_to ha, jj_to hb]
theorem jj_eq {a b : Int} (ha : In64 a) (hb : In64 b) : jJ a = jJ b ↔ a = b := by rw [← Int64.toInt_inj, jj_to ha, jj_to hb]
theorem ii_0 : iI 0 = 0 := rfl
theorem jj_0 : jJ 0 = 0 := rfl
theorem ii_in {z : Int} {n : Nat} (h : 0 ≤ z ∧ z < n) (hn : (n : Int) < 2147483648) : vp_in (iI z) n := by
  rw [vp_in_iff, ii_to ⟨by omega, by omega⟩]
  exact h
theorem ii_cl {z : Int} (h : 0 ≤ z ∧ z < 2147483648) : (iI z).toNatClampNeg = z.toNat := by
  show (iI z).toInt.toNat = z.toNat
  rw [ii_to ⟨by omega, by omega⟩]
theorem ii_nI (n : Nat) : nI n = iI n := by
  show Int32.ofNat n = Int32.ofInt n
  exact (Int32.ofInt_eq_ofNat).symm
theorem ii_64 {z : Int} (h : In32 z) : (iI z).toInt64 = jJ z := by
  rw [← Int64.toInt_inj, Int32.toInt_toInt64, ii_to h, jj_to ⟨by have := h.1; omega, by have := h.2; omega⟩]
theorem ii_tdiv_rg {a b : Int} (ha : -2147483648 < a ∧ a < 2147483648) : In32 (a.tdiv b) := by
  have h1 : (a.tdiv b).natAbs ≤ a.natAbs := by rw [Int.natAbs_tdiv]; exact Nat.div_le_self _ _
  constructor <;> omega
theorem jj_tdiv_rg {a b : Int} (ha : -9223372036854775808 < a ∧ a < 9223372036854775808) : In64 (a.tdiv b) := by
  have h1 : (a.tdiv b).natAbs ≤ a.natAbs := by rw [Int.natAbs_tdiv]; exact Nat.div_le_self _ _
  constructor <;> omega
theorem ii_div {a b : Int} (ha : -2147483648 < a ∧ a < 2147483648) (hb : In32 b) : iI a / iI b = iI (a.tdiv b) := by
  have h0 : In32 a := ⟨by omega, ha.2⟩
  rw [← Int32.toInt_inj, Int32.toInt_div_of_ne_left _ _ (by intro h; have := congrArg Int32.toInt h; rw [ii_to h0] at this; have h2 : Int32.minValue.toInt = -2147483648 := rfl; omega), ii_to h0, ii_to hb, ii_to (ii_tdiv_rg ha)]
theorem jj_div {a b : Int} (ha : -9223372036854775808 < a ∧ a < 9223372036854775808) (hb : In64 b) : jJ a / jJ b = jJ (a.tdiv b) := by
  have h0 : In64 a := ⟨by omega, ha.2⟩
  rw [← Int64.toInt_inj, Int64.toInt_div_of_ne_left _ _ (by intro h; have := congrArg Int64.toInt h; rw [jj_to h0] at this; have h2 : Int64.minValue.toInt = -9223372036854775808 := rfl; omega), jj_to h0, jj_to hb, jj_to (jj_tdiv_rg ha)]
theorem ii_rem {a b : Int} (ha : -2147483648 < a ∧ a < 2147483648) (hb : In32 b) : iI a - iI a / iI b * iI b = iI (a.tmod b) := by
  rw [ii_div ha hb, ii_mul, ii_sub, Int.tmod_def, Int.mul_comm]
theorem jj_rem {a b : Int} (ha : -9223372036854775808 < a ∧ a < 9223372036854775808) (hb : In64 b) : jJ a - jJ a / jJ b * jJ b = jJ (a.tmod b) := by
  rw [jj_div ha hb, jj_mul, jj_sub, Int.tmod_def, Int.mul_comm]
section NumRows
variable {p : Program} {l : Launch} {e : Env} {R : Room} {s : State} {m : MethodId} {args : Array Value} {below : List Frame} {meth : Method} {c : Code} {H : Heap} {locs : List Loc} {cells slots : Nat} {Q : State → Prop}
variable {cc : ByteArray} {pc : Nat} {ls : Array Slot} {rest : List Value}
theorem ri_iconst (hx : p.tables.exec = Jvm.exec) (hb : c.code = cc) {n : Int} (hdg : decode cc pc = .ok (.iconst n, 1)) (k : W p l e R s m args below meth c H locs cells slots Q (F0 m (pc + 1) ls (.int (iI n) :: rest))) : W p l e R s m args below meth c H locs cells slots Q (F0 m pc ls rest) := lv_iconst hx hb hdg rfl k
theorem ri_bipush (hx : p.tables.exec = Jvm.exec) (hb : c.code = cc) {n : Int} (hdg : decode cc pc = .ok (.bipush n, 2)) (hv : (Int8.ofInt n).toInt32 = iI n) (k : W p l e R s m args below meth c H locs cells slots Q (F0 m (pc + 2) ls (.int (iI n) :: rest))) : W p l e R s m args below meth c H locs cells slots Q (F0 m pc ls rest) := lv_bipush hx hb hdg hv k
theorem ri_sipush (hx : p.tables.exec = Jvm.exec) (hb : c.code = cc) {n : Int} (hdg : decode cc pc = .ok (.sipush n, 3)) (hv : (Int16.ofInt n).toInt32 = iI n) (k : W p l e R s m args below meth c H locs cells slots Q (F0 m (pc + 3) ls (.int (iI n) :: rest))) : W p l e R s m args below meth c H locs cells slots Q (F0 m pc ls rest) := lv_sipush hx hb hdg hv k
theorem ri_lconst (hx : p.tables.exec = Jvm.exec) (hb : c.code = cc) {n : Fin 2} {z : Int} (hdg : decode cc pc = .ok (.lconst n, 1)) (hv : Int64.ofNat (n : Nat) = jJ z) (k : W p l e R s m args below meth c H locs cells slots Q (F0 m (pc + 1) ls (.long (jJ z) :: rest))) : W p l e R s m args below meth c H locs cells slots Q (F0 m pc ls rest) := lv_lconst hx hb hdg hv k
theorem ri_iadd (hx : p.tables.exec = Jvm.exec) (hb : c.code = cc) {a b : Int} (hdg : decode cc pc = .ok (.iadd, 1)) (k : W p l e R s m args below meth c H locs cells slots Q (F0 m (pc + 1) ls (.int (iI (a + b)) :: rest))) : W p l e R s m args below meth c H locs cells slots Q (F0 m pc ls (.int (iI b) :: .int (iI a) :: rest)) := lv_iadd hx hb hdg (by rw [ii_add]; exact k)
theorem ri_isub (hx : p.tables.exec = Jvm.exec) (hb : c.code = cc) {a b : Int} (hdg : decode cc pc = .ok (.isub, 1)) (k : W p l e R s m args below meth c H locs cells slots Q (F0 m (pc + 1) ls (.int (iI (a - b)) :: rest))) : W p l e R s m args below meth c H locs cells slots Q (F0 m pc ls (.int (iI b) :: .int (iI a) :: rest)) := lv_isub hx hb hdg (by rw [ii_sub]; exact k)
theorem ri_imul (hx : p.tables.exec = Jvm.exec) (hb : c.code = cc) {a b : Int} (hdg : decode cc pc = .ok (.imul, 1)) (k : W p l e R s m args below meth c H locs cells slots Q (F0 m (pc + 1) ls (.int (iI (a * b)) :: rest))) : W p l e R s m args below meth c H locs cells slots Q (F0 m pc ls (.int (iI b) :: .int (iI a) :: rest)) := lv_imul hx hb hdg (by rw [ii_mul]; exact k)
theorem ri_ladd (hx : p.tables.exec = Jvm.exec) (hb : c.code = cc) {a b : Int} (hdg : decode cc pc = .ok (.ladd, 1)) (k : W p l e R s m args below meth c H locs cells slots Q (F0 m (pc + 1) ls (.long (jJ (a + b)) :: rest))) : W p l e R s m args below meth c H locs cells slots Q (F0 m pc ls (.long (jJ b) :: .long (jJ a) :: rest)) := lv_ladd hx hb hdg (by rw [jj_add]; exact k)
theorem ri_lsub (hx : p.tables.exec = Jvm.exec) (hb : c.code = cc) {a b : Int} (hdg : decode cc pc = .ok (.lsub, 1)) (k : W p l e R s m args below meth c H locs cells slots Q (F0 m (pc + 1) ls (.long (jJ (a - b)) :: rest))) : W p l e R s m args below meth c H locs cells slots Q (F0 m pc ls (.long (jJ b) :: .long (jJ a) :: rest)) := lv_lsub hx hb hdg (by rw [jj_sub]; exact k)
theorem ri_lmul (hx : p.tables.exec = Jvm.exec) (hb : c.code = cc) {a b : Int} (hdg : decode cc pc = .ok (.lmul, 1)) (k : W p l e R s m args below meth c H locs cells slots Q (F0 m (pc + 1) ls (.long (jJ (a * b)) :: rest))) : W p l e R s m args below meth c H locs cells slots Q (F0 m pc ls (.long (jJ b) :: .long (jJ a) :: rest)) := lv_lmul hx hb hdg (by rw [jj_mul]; exact k)
theorem ri_ineg (hx : p.tables.exec = Jvm.exec) (hb : c.code = cc) {a : Int} (hdg : decode cc pc = .ok (.ineg, 1)) (k : W p l e R s m args below meth c H locs cells slots Q (F0 m (pc + 1) ls (.int (iI (-a)) :: rest))) : W p l e R s m args below meth c H locs cells slots Q (F0 m pc ls (.int (iI a) :: rest)) := lv_ineg hx hb hdg (by rw [ii_neg]; exact k)
theorem ri_lneg (hx : p.tables.exec = Jvm.exec) (hb : c.code = cc) {a : Int} (hdg : decode cc pc = .ok (.lneg, 1)) (k : W p l e R s m args below meth c H locs cells slots Q (F0 m (pc + 1) ls (.long (jJ (-a)) :: rest))) : W p l e R s m args below meth c H locs cells slots Q (F0 m pc ls (.long (jJ a) :: rest)) := lv_lneg hx hb hdg (by rw [jj_neg]; exact k)
theorem ri_idiv (hx : p.tables.exec = Jvm.exec) (hb : c.code = cc) {a b : Int} (hdg : decode cc pc = .ok (.idiv, 1)) (ha : -2147483648 < a ∧ a < 2147483648) (hb2 : In32 b) (hne : ¬ b = 0) (k : W p l e R s m args below meth c H locs cells slots Q (F0 m (pc + 1) ls (.int (iI (a.tdiv b)) :: rest))) : W p l e R s m args below meth c H locs cells slots Q (F0 m pc ls (.int (iI b) :: .int (iI a) :: rest)) := lv_idiv hx hb hdg (fun h => hne ((ii_eq hb2 (by decide)).mp h)) (by rw [ii_div ha hb2]; exact k)
theorem ri_irem (hx : p.tables.exec = Jvm.exec) (hb : c.code = cc) {a b : Int} (hdg : decode cc pc = .ok (.irem, 1)) (ha : -2147483648 < a ∧ a < 2147483648) (hb2 : In32 b) (hne : ¬ b = 0) (k : W p l e R s m args below meth c H locs cells slots Q (F0 m (pc + 1) ls (.int (iI (a.tmod b)) :: rest))) : W p l e R s m args below meth c H locs cells slots Q (F0 m pc ls (.int (iI b) :: .int (iI a) :: rest)) := lv_irem hx hb hdg (fun h => hne ((ii_eq hb2 (by decide)).mp h)) (by rw [ii_rem ha hb2]; exact k)
theorem ri_ldiv (hx : p.tables.exec = Jvm.exec) (hb : c.code = cc) {a b : Int} (hdg : decode cc pc = .ok (.ldiv, 1)) (ha : -9223372036854775808 < a ∧ a < 9223372036854775808) (hb2 : In64 b) (hne : ¬ b = 0) (k : W p l e R s m args below meth c H locs cells slots Q (F0 m (pc + 1) ls (.long (jJ (a.tdiv b)) :: rest))) : W p l e R s m args below meth c H locs cells slots Q (F0 m pc ls (.long (jJ b) :: .long (jJ a) :: rest)) := lv_ldiv hx hb hdg (fun h => hne ((jj_eq hb2 (by decide)).mp h)) (by rw [jj_div ha hb2]; exact k)
theorem ri_lrem (hx : p.tables.exec = Jvm.exec) (hb : c.code = cc) {a b : Int} (hdg : decode cc pc = .ok (.lrem, 1)) (ha : -9223372036854775808 < a ∧ a < 9223372036854775808) (hb2 : In64 b) (hne : ¬ b = 0) (k : W p l e R s m args below meth c H locs cells slots Q (F0 m (pc + 1) ls (.long (jJ (a.tmod b)) :: rest))) : W p l e R s m args below meth c H locs cells slots Q (F0 m pc ls (.long (jJ b) :: .long (jJ a) :: rest)) := lv_lrem hx hb hdg (fun h => hne ((jj_eq hb2 (by decide)).mp h)) (by rw [jj_rem ha hb2]; exact k)
theorem ri_i2l (hx : p.tables.exec = Jvm.exec) (hb : c.code = cc) {a : Int} (hdg : decode cc pc = .ok (.i2l, 1)) (ha : In32 a) (k : W p l e R s m args below meth c H locs cells slots Q (F0 m (pc + 1) ls (.long (jJ a) :: rest))) : W p l e R s m args below meth c H locs cells slots Q (F0 m pc ls (.int (iI a) :: rest)) := lv_i2l hx hb hdg (ii_64 ha) k
theorem ri_icmp_eq (hx : p.tables.exec = Jvm.exec) (hb0 : c.code = cc) {a b : Int} {off : Int} {tgt : Nat} (hdg : decode cc pc = .ok (.if_icmp .eq off, 3)) (ht : (pc : Int) + off = (tgt : Int)) (ha : In32 a) (hb : In32 b) (kt : a = b → W p l e R s m args below meth c H locs cells slots Q (F0 m tgt ls rest)) (kf : ¬ (a = b) → W p l e R s m args below meth c H locs cells slots Q (F0 m (pc + 3) ls rest)) : W p l e R s m args below meth c H locs cells slots Q (F0 m pc ls (.int (iI b) :: .int (iI a) :: rest)) := by
  exact lv_icmp_eq hx hb0 hdg ht (fun h => kt ((ii_eq ha hb).mp h)) (fun h => kf (fun q => h ((ii_eq ha hb).mpr q)))
theorem ri_if_eq (hx : p.tables.exec = Jvm.exec) (hb : c.code = cc) {a : Int} {off : Int} {tgt : Nat} (hdg : decode cc pc = .ok (.ifCond .eq off, 3)) (ht : (pc : Int) + off = (tgt : Int)) (ha : In32 a) (kt : a = 0 → W p l e R s m args below meth c H locs cells slots Q (F0 m tgt ls rest)) (kf : ¬ (a = 0) → W p l e R s m args below meth c H locs cells slots Q (F0 m (pc + 3) ls rest)) : W p l e R s m args below meth c H locs cells slots Q (F0 m pc ls (.int (iI a) :: rest)) := by
  have h0 : In32 0 := by decide
  exact lv_if_eq hx hb hdg ht (fun h => kt ((ii_eq (a := a) (b := 0) ha h0).mp h)) (fun h => kf (fun q => h ((ii_eq (a := a) (b := 0) ha h0).mpr q)))
theorem ri_icmp_ne (hx : p.tables.exec = Jvm.exec) (hb0 : c.code = cc) {a b : Int} {off : Int} {tgt : Nat} (hdg : decode cc pc = .ok (.if_icmp .ne off, 3)) (ht : (pc : Int) + off = (tgt : Int)) (ha : In32 a) (hb : In32 b) (kt : ¬ a = b → W p l e R s m args below meth c H locs cells slots Q (F0 m tgt ls rest)) (kf : a = b → W p l e R s m args below meth c H locs cells slots Q (F0 m (pc + 3) ls rest)) : W p l e R s m args below meth c H locs cells slots Q (F0 m pc ls (.int (iI b) :: .int (iI a) :: rest)) := by
  exact lv_icmp_ne hx hb0 hdg ht (fun h => kt (fun q => h ((ii_eq ha hb).mpr q))) (fun h => kf ((ii_eq ha hb).mp h))
theorem ri_if_ne (hx : p.tables.exec = Jvm.exec) (hb : c.code = cc) {a : Int} {off : Int} {tgt : Nat} (hdg : decode cc pc = .ok (.ifCond .ne off, 3)) (ht : (pc : Int) + off = (tgt : Int)) (ha : In32 a) (kt : ¬ a = 0 → W p l e R s m args below meth c H locs cells slots Q (F0 m tgt ls rest)) (kf : a = 0 → W p l e R s m args below meth c H locs cells slots Q (F0 m (pc + 3) ls rest)) : W p l e R s m args below meth c H locs cells slots Q (F0 m pc ls (.int (iI a) :: rest)) := by
  have h0 : In32 0 := by decide
  exact lv_if_ne hx hb hdg ht (fun h => kt (fun q => h ((ii_eq (a := a) (b := 0) ha h0).mpr q))) (fun h => kf ((ii_eq (a := a) (b := 0) ha h0).mp h))
theorem ri_icmp_lt (hx : p.tables.exec = Jvm.exec) (hb0 : c.code = cc) {a b : Int} {off : Int} {tgt : Nat} (hdg : decode cc pc = .ok (.if_icmp .lt off, 3)) (ht : (pc : Int) + off = (tgt : Int)) (ha : In32 a) (hb : In32 b) (kt : a < b → W p l e R s m args below meth c H locs cells slots Q (F0 m tgt ls rest)) (kf : ¬ (a < b) → W p l e R s m args below meth c H locs cells slots Q (F0 m (pc + 3) ls rest)) : W p l e R s m args below meth c H locs cells slots Q (F0 m pc ls (.int (iI b) :: .int (iI a) :: rest)) := by
  exact lv_icmp_lt hx hb0 hdg ht (fun h => kt ((ii_lt ha hb).mp h)) (fun h => kf (fun q => h ((ii_lt ha hb).mpr q)))
theorem ri_if_lt (hx : p.tables.exec = Jvm.exec) (hb : c.code = cc) {a : Int} {off : Int} {tgt : Nat} (hdg : decode cc pc = .ok (.ifCond .lt off, 3)) (ht : (pc : Int) + off = (tgt : Int)) (ha : In32 a) (kt : a < 0 → W p l e R s m args below meth c H locs cells slots Q (F0 m tgt ls rest)) (kf : ¬ (a < 0) → W p l e R s m args below meth c H locs cells slots Q (F0 m (pc + 3) ls rest)) : W p l e R s m args below meth c H locs cells slots Q (F0 m pc ls (.int (iI a) :: rest)) := by
  have h0 : In32 0 := by decide
  exact lv_if_lt hx hb hdg ht (fun h => kt ((ii_lt (a := a) (b := 0) ha h0).mp h)) (fun h => kf (fun q => h ((ii_lt (a := a) (b := 0) ha h0).mpr q)))
theorem ri_icmp_ge (hx : p.tables.exec = Jvm.exec) (hb0 : c.code = cc) {a b : Int} {off : Int} {tgt : Nat} (hdg : decode cc pc = .ok (.if_icmp .ge off, 3)) (ht : (pc : Int) + off = (tgt : Int)) (ha : In32 a) (hb : In32 b) (kt : b ≤ a → W p l e R s m args below meth c H locs cells slots Q (F0 m tgt ls rest)) (kf : ¬ (b ≤ a) → W p l e R s m args below meth c H locs cells slots Q (F0 m (pc + 3) ls rest)) : W p l e R s m args below meth c H locs cells slots Q (F0 m pc ls (.int (iI b) :: .int (iI a) :: rest)) := by
  exact lv_icmp_ge hx hb0 hdg ht (fun h => kt ((ii_le hb ha).mp h)) (fun h => kf (fun q => h ((ii_le hb ha).mpr q)))
theorem ri_if_ge (hx : p.tables.exec = Jvm.exec) (hb : c.code = cc) {a : Int} {off : Int} {tgt : Nat} (hdg : decode cc pc = .ok (.ifCond .ge off, 3)) (ht : (pc : Int) + off = (tgt : Int)) (ha : In32 a) (kt : 0 ≤ a → W p l e R s m args below meth c H locs cells slots Q (F0 m tgt ls rest)) (kf : ¬ (0 ≤ a) → W p l e R s m args below meth c H locs cells slots Q (F0 m (pc + 3) ls rest)) : W p l e R s m args below meth c H locs cells slots Q (F0 m pc ls (.int (iI a) :: rest)) := by
  have h0 : In32 0 := by decide
  exact lv_if_ge hx hb hdg ht (fun h => kt ((ii_le (a := 0) (b := a) h0 ha).mp h)) (fun h => kf (fun q => h ((ii_le (a := 0) (b := a) h0 ha).mpr q)))
theorem ri_icmp_gt (hx : p.tables.exec = Jvm.exec) (hb0 : c.code = cc) {a b : Int} {off : Int} {tgt : Nat} (hdg : decode cc pc = .ok (.if_icmp .gt off, 3)) (ht : (pc : Int) + off = (tgt : Int)) (ha : In32 a) (hb : In32 b) (kt : b < a → W p l e R s m args below meth c H locs cells slots Q (F0 m tgt ls rest)) (kf : ¬ (b < a) → W p l e R s m args below meth c H locs cells slots Q (F0 m (pc + 3) ls rest)) : W p l e R s m args below meth c H locs cells slots Q (F0 m pc ls (.int (iI b) :: .int (iI a) :: rest)) := by
  exact lv_icmp_gt hx hb0 hdg ht (fun h => kt ((ii_lt hb ha).mp h)) (fun h => kf (fun q => h ((ii_lt hb ha).mpr q)))
theorem ri_if_gt (hx : p.tables.exec = Jvm.exec) (hb : c.code = cc) {a : Int} {off : Int} {tgt : Nat} (hdg : decode cc pc = .ok (.ifCond .gt off, 3)) (ht : (pc : Int) + off = (tgt : Int)) (ha : In32 a) (kt : 0 < a → W p l e R s m args below meth c H locs cells slots Q (F0 m tgt ls rest)) (kf : ¬ (0 < a) → W p l e R s m args below meth c H locs cells slots Q (F0 m (pc + 3) ls rest)) : W p l e R s m args below meth c H locs cells slots Q (F0 m pc ls (.int (iI a) :: rest)) := by
  have h0 : In32 0 := by decide
  exact lv_if_gt hx hb hdg ht (fun h => kt ((ii_lt (a := 0) (b := a) h0 ha).mp h)) (fun h => kf (fun q => h ((ii_lt (a := 0) (b := a) h0 ha).mpr q)))
theorem ri_icmp_le (hx : p.tables.exec = Jvm.exec) (hb0 : c.code = cc) {a b : Int} {off : Int} {tgt : Nat} (hdg : decode cc pc = .ok (.if_icmp .le off, 3)) (ht : (pc : Int) + off = (tgt : Int)) (ha : In32 a) (hb : In32 b) (kt : a ≤ b → W p l e R s m args below meth c H locs cells slots Q (F0 m tgt ls rest)) (kf : ¬ (a ≤ b) → W p l e R s m args below meth c H locs cells slots Q (F0 m (pc + 3) ls rest)) : W p l e R s m args below meth c H locs cells slots Q (F0 m pc ls (.int (iI b) :: .int (iI a) :: rest)) := by
  exact lv_icmp_le hx hb0 hdg ht (fun h => kt ((ii_le ha hb).mp h)) (fun h => kf (fun q => h ((ii_le ha hb).mpr q)))
theorem ri_if_le (hx : p.tables.exec = Jvm.exec) (hb : c.code = cc) {a : Int} {off : Int} {tgt : Nat} (hdg : decode cc pc = .ok (.ifCond .le off, 3)) (ht : (pc : Int) + off = (tgt : Int)) (ha : In32 a) (kt : a ≤ 0 → W p l e R s m args below meth c H locs cells slots Q (F0 m tgt ls rest)) (kf : ¬ (a ≤ 0) → W p l e R s m args below meth c H locs cells slots Q (F0 m (pc + 3) ls rest)) : W p l e R s m args below meth c H locs cells slots Q (F0 m pc ls (.int (iI a) :: rest)) := by
  have h0 : In32 0 := by decide
  exact lv_if_le hx hb hdg ht (fun h => kt ((ii_le (a := a) (b := 0) ha h0).mp h)) (fun h => kf (fun q => h ((ii_le (a := a) (b := 0) ha h0).mpr q)))
theorem ri_lc_lt (hx : p.tables.exec = Jvm.exec) (hb : c.code = cc) {a b : Int} {off : Int} {tgt : Nat} (hd0 : decode cc pc = .ok (.lcmp, 1)) (hdg : decode cc (pc + 1) = .ok (.ifCond .lt off, 3)) (ht : ((pc + 1 : Nat) : Int) + off = (tgt : Int)) (ha : In64 a) (hb2 : In64 b) (kt : a < b → W p l e R s m args below meth c H locs cells slots Q (F0 m tgt ls rest)) (kf : ¬ (a < b) → W p l e R s m args below meth c H locs cells slots Q (F0 m (pc + 4) ls rest)) : W p l e R s m args below meth c H locs cells slots Q (F0 m pc ls (.long (jJ b) :: .long (jJ a) :: rest)) := by
  refine W.lcmp hx hb hd0 ?_
  exact lv_if_lt hx hb hdg ht (fun h => kt (((lg_cmp_lt _ _).trans (jj_lt ha hb2)).mp h)) (fun h => kf (fun q => h (((lg_cmp_lt _ _).trans (jj_lt ha hb2)).mpr q)))
theorem ri_lc_ge (hx : p.tables.exec = Jvm.exec) (hb : c.code = cc) {a b : Int} {off : Int} {tgt : Nat} (hd0 : decode cc pc = .ok (.lcmp, 1)) (hdg : decode cc (pc + 1) = .ok (.ifCond .ge off, 3)) (ht : ((pc + 1 : Nat) : Int) + off = (tgt : Int)) (ha : In64 a) (hb2 : In64 b) (kt : b ≤ a → W p l e R s m args below meth c H locs cells slots Q (F0 m tgt ls rest)) (kf : ¬ (b ≤ a) → W p l e R s m args below meth c H locs cells slots Q (F0 m (pc + 4) ls rest)) : W p l e R s m args below meth c H locs cells slots Q (F0 m pc ls (.long (jJ b) :: .long (jJ a) :: rest)) := by
  refine W.lcmp hx hb hd0 ?_
  exact lv_if_ge hx hb hdg ht (fun h => kt (Int.not_lt.mp fun q => absurd (((lg_cmp_lt _ _).trans (jj_lt ha hb2)).mpr q) (Int32.not_lt.mpr h))) (fun h => kf (fun q => h (Int32.not_lt.mp fun z => absurd (((lg_cmp_lt _ _).trans (jj_lt ha hb2)).mp z) (Int.not_lt.mpr q))))
theorem ri_lc_gt (hx : p.tables.exec = Jvm.exec) (hb : c.code = cc) {a b : Int} {off : Int} {tgt : Nat} (hd0 : decode cc pc = .ok (.lcmp, 1)) (hdg : decode cc (pc + 1) = .ok (.ifCond .gt off, 3)) (ht : ((pc + 1 : Nat) : Int) + off = (tgt : Int)) (ha : In64 a) (hb2 : In64 b) (kt : b < a → W p l e R s m args below meth c H locs cells slots Q (F0 m tgt ls rest)) (kf : ¬ (b < a) → W p l e R s m args below meth c H locs cells slots Q (F0 m (pc + 4) ls rest)) : W p l e R s m args below meth c H locs cells slots Q (F0 m pc ls (.long (jJ b) :: .long (jJ a) :: rest)) := by
  refine W.lcmp hx hb hd0 ?_
  exact lv_if_gt hx hb hdg ht (fun h => kt (((lg_cmp_gt _ _).trans (jj_lt hb2 ha)).mp h)) (fun h => kf (fun q => h (((lg_cmp_gt _ _).trans (jj_lt hb2 ha)).mpr q)))
theorem ri_lc_le (hx : p.tables.exec = Jvm.exec) (hb : c.code = cc) {a b : Int} {off : Int} {tgt : Nat} (hd0 : decode cc pc = .ok (.lcmp, 1)) (hdg : decode cc (pc + 1) = .ok (.ifCond .le off, 3)) (ht : ((pc + 1 : Nat) : Int) + off = (tgt : Int)) (ha : In64 a) (hb2 : In64 b) (kt : a ≤ b → W p l e R s m args below meth c H locs cells slots Q (F0 m tgt ls rest)) (kf : ¬ (a ≤ b) → W p l e R s m args below meth c H locs cells slots Q (F0 m (pc + 4) ls rest)) : W p l e R s m args below meth c H locs cells slots Q (F0 m pc ls (.long (jJ b) :: .long (jJ a) :: rest)) := by
  refine W.lcmp hx hb hd0 ?_
  exact lv_if_le hx hb hdg ht (fun h => kt (Int.not_lt.mp fun q => absurd (((lg_cmp_gt _ _).trans (jj_lt hb2 ha)).mpr q) (Int32.not_lt.mpr h))) (fun h => kf (fun q => h (Int32.not_lt.mp fun z => absurd (((lg_cmp_gt _ _).trans (jj_lt hb2 ha)).mp z) (Int.not_lt.mpr q))))
theorem ri_lc_eq (hx : p.tables.exec = Jvm.exec) (hb : c.code = cc) {a b : Int} {off : Int} {tgt : Nat} (hd0 : decode cc pc = .ok (.lcmp, 1)) (hdg : decode cc (pc + 1) = .ok (.ifCond .eq off, 3)) (ht : ((pc + 1 : Nat) : Int) + off = (tgt : Int)) (ha : In64 a) (hb2 : In64 b) (kt : a = b → W p l e R s m args below meth c H locs cells slots Q (F0 m tgt ls rest)) (kf : ¬ (a = b) → W p l e R s m args below meth c H locs cells slots Q (F0 m (pc + 4) ls rest)) : W p l e R s m args below meth c H locs cells slots Q (F0 m pc ls (.long (jJ b) :: .long (jJ a) :: rest)) := by
  refine W.lcmp hx hb hd0 ?_
  exact lv_if_eq hx hb hdg ht (fun h => kt (((lg_cmp_eq _ _).trans (jj_eq ha hb2)).mp h)) (fun h => kf (fun q => h (((lg_cmp_eq _ _).trans (jj_eq ha hb2)).mpr q)))
theorem ri_lc_ne (hx : p.tables.exec = Jvm.exec) (hb : c.code = cc) {a b : Int} {off : Int} {tgt : Nat} (hd0 : decode cc pc = .ok (.lcmp, 1)) (hdg : decode cc (pc + 1) = .ok (.ifCond .ne off, 3)) (ht : ((pc + 1 : Nat) : Int) + off = (tgt : Int)) (ha : In64 a) (hb2 : In64 b) (kt : ¬ a = b → W p l e R s m args below meth c H locs cells slots Q (F0 m tgt ls rest)) (kf : a = b → W p l e R s m args below meth c H locs cells slots Q (F0 m (pc + 4) ls rest)) : W p l e R s m args below meth c H locs cells slots Q (F0 m pc ls (.long (jJ b) :: .long (jJ a) :: rest)) := by
  refine W.lcmp hx hb hd0 ?_
  exact lv_if_ne hx hb hdg ht (fun h => kt (fun q => h (((lg_cmp_eq _ _).trans (jj_eq ha hb2)).mpr q))) (fun h => kf (((lg_cmp_eq _ _).trans (jj_eq ha hb2)).mp h))
end NumRows
