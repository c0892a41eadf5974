/-! Arrays by functions of whole numbers; what is new comes to the front of the world. -/
abbrev ai (n : Nat) (r : Int → Int) : vp_A := (n, .inl (fun j : Nat => iI (r j)))
abbrev al (n : Nat) (r : Int → Int) : vp_A := (n, .inr (.inl (fun j : Nat => jJ (r j))))
abbrev aq (n : Nat) (g : Int → Option Nat) : vp_A := (n, .inr (.inr (.inr (.inr (fun j : Nat => g j)))))
def zU {α : Type} (r : Int → α) (z : Int) (v : α) : Int → α := fun j => if j = z then v else r j
theorem zU_eq {α : Type} {r : Int → α} {z : Int} {v : α} : zU r z v z = v := if_pos rfl
theorem zU_ne {α : Type} {r : Int → α} {z j : Int} {v : α} (h : j ≠ z) : zU r z v j = r j := if_neg h
theorem zU_i (r : Int → Int) {z : Int} (v : Int) (h : 0 ≤ z ∧ z < 2147483648) : upd (fun j : Nat => iI (r j)) (iI z).toNatClampNeg (iI v) = fun j : Nat => iI (zU r z v j) := by
  funext j
  rw [ii_cl h]
  unfold upd zU
  by_cases hj : (j : Int) = z
  · rw [if_pos hj, if_pos (by omega)]
  · rw [if_neg hj, if_neg (by omega)]
theorem zU_l (r : Int → Int) {z : Int} (v : Int) (h : 0 ≤ z ∧ z < 2147483648) : vp_updL (fun j : Nat => jJ (r j)) (iI z).toNatClampNeg (jJ v) = fun j : Nat => jJ (zU r z v j) := by
  funext j
  rw [ii_cl h]
  unfold vp_updL zU
  by_cases hj : (j : Int) = z
  · rw [if_pos hj, if_pos (by omega)]
  · rw [if_neg hj, if_neg (by omega)]
theorem zU_q (g : Int → Option Nat) {z : Int} (v : Option Nat) (h : 0 ≤ z ∧ z < 2147483648) : va_up (fun j : Nat => g j) (iI z).toNatClampNeg v = fun j : Nat => zU g z v j := by
  funext j
  rw [ii_cl h]
  unfold va_up zU
  by_cases hj : (j : Int) = z
  · rw [if_pos hj, if_pos (by omega)]
  · rw [if_neg hj, if_neg (by omega)]
theorem ii_nneg {z : Int} (h : 0 ≤ z ∧ z < 2147483648) : ¬ iI z < 0 := fun q => absurd ((ii_lt (b := 0) ⟨by omega, h.2⟩ (by decide)).mp q) (by omega)
section ArrRows
variable {p : Program} {l : Launch} {e : Env} {R : Room} {s : State} {m : MethodId} {args : Array Value} {below : List Frame} {meth : Method} {c : Code} {H : Heap} {locs : List Loc} {cells slots : Nat} {Q : State → Prop}
variable {cc : ByteArray} {pc : Nat} {ls : Array Slot} {rest : List Value} {D : va_G} {k : Nat → ClassId} {A : Nat → Prop} {a : Nat} {ws : va_W} {H0 : Heap}
theorem ra_iald (hx : p.tables.exec = Jvm.exec) (hb : c.code = cc) (hK : va_K D classes (tysOf k) s) (hP : va_P D classes ws H) (q0 : Nat) {n : Nat} {r : Int → Int} {z : Int} (ha : ws[q0]? = some (a, .inl (k 0, ai n r))) (hz : 0 ≤ z ∧ z < n) (hn : (n : Int) < 2147483648) (hdg : decode cc pc = .ok (.iaload, 1))
    (kk : W p l e R s m args below meth c H locs cells slots Q (F0 m (pc + 1) ls (.int (iI (r z)) :: rest))) : W p l e R s m args below meth c H locs cells slots Q (F0 m pc ls (.int (iI z) :: .ref a :: rest)) := by
  refine va_iald hx hb hK hP q0 0 ha rfl (ii_in hz hn) hdg ?_
  rw [ii_cl ⟨hz.1, by omega⟩, Int.toNat_of_nonneg hz.1]
  exact kk
theorem ra_iast (hx : p.tables.exec = Jvm.exec) (hb : c.code = cc) (hK : va_K D classes (tysOf k) s) (hP : va_P D classes ws H) (hD : va_D A ws) (hS : va_S A H0 H locs) (q0 : Nat) {n : Nat} {r : Int → Int} {z v : Int} (ha : ws[q0]? = some (a, .inl (k 0, ai n r))) (hz : 0 ≤ z ∧ z < n) (hn : (n : Int) < 2147483648) (hdg : decode cc pc = .ok (.iastore, 1))
    (kk : ∀ (H1 : Heap) (locs1 : List Loc), va_P D classes (ws.set q0 (a, .inl (k 0, ai n (zU r z v)))) H1 → va_D A (ws.set q0 (a, .inl (k 0, ai n (zU r z v)))) → va_S A H0 H1 locs1 → W p l e R s m args below meth c H1 locs1 cells slots Q (F0 m (pc + 1) ls rest)) : W p l e R s m args below meth c H locs cells slots Q (F0 m pc ls (.int (iI v) :: .int (iI z) :: .ref a :: rest)) := by
  refine va_iast hx hb hK hP hD hS q0 0 ha rfl (ii_in hz hn) hdg (fun H1 locs1 h1 h2 h3 => ?_)
  rw [zU_i r v ⟨hz.1, by omega⟩] at h1 h2
  exact kk H1 locs1 h1 h2 h3
theorem ra_lald (hx : p.tables.exec = Jvm.exec) (hb : c.code = cc) (hK : va_K D classes (tysOf k) s) (hP : va_P D classes ws H) (q0 : Nat) {n : Nat} {r : Int → Int} {z : Int} (ha : ws[q0]? = some (a, .inl (k 1, al n r))) (hz : 0 ≤ z ∧ z < n) (hn : (n : Int) < 2147483648) (hdg : decode cc pc = .ok (.laload, 1))
    (kk : W p l e R s m args below meth c H locs cells slots Q (F0 m (pc + 1) ls (.long (jJ (r z)) :: rest))) : W p l e R s m args below meth c H locs cells slots Q (F0 m pc ls (.int (iI z) :: .ref a :: rest)) := by
  refine va_lald hx hb hK hP q0 1 ha rfl (ii_in hz hn) hdg ?_
  rw [ii_cl ⟨hz.1, by omega⟩, Int.toNat_of_nonneg hz.1]
  exact kk
theorem ra_last (hx : p.tables.exec = Jvm.exec) (hb : c.code = cc) (hK : va_K D classes (tysOf k) s) (hP : va_P D classes ws H) (hD : va_D A ws) (hS : va_S A H0 H locs) (q0 : Nat) {n : Nat} {r : Int → Int} {z v : Int} (ha : ws[q0]? = some (a, .inl (k 1, al n r))) (hz : 0 ≤ z ∧ z < n) (hn : (n : Int) < 2147483648) (hdg : decode cc pc = .ok (.lastore, 1))
    (kk : ∀ (H1 : Heap) (locs1 : List Loc), va_P D classes (ws.set q0 (a, .inl (k 1, al n (zU r z v)))) H1 → va_D A (ws.set q0 (a, .inl (k 1, al n (zU r z v)))) → va_S A H0 H1 locs1 → W p l e R s m args below meth c H1 locs1 cells slots Q (F0 m (pc + 1) ls rest)) : W p l e R s m args below meth c H locs cells slots Q (F0 m pc ls (.long (jJ v) :: .int (iI z) :: .ref a :: rest)) := by
  refine va_last hx hb hK hP hD hS q0 1 ha rfl (ii_in hz hn) hdg (fun H1 locs1 h1 h2 h3 => ?_)
  rw [zU_l r v ⟨hz.1, by omega⟩] at h1 h2
  exact kk H1 locs1 h1 h2 h3
theorem ra_ald (hx : p.tables.exec = Jvm.exec) (hb : c.code = cc) (hK : va_K D classes (tysOf k) s) (hP : va_P D classes ws H) (q0 t0 : Nat) {n : Nat} {cA : ClassId} {C : String} {g : Int → Option Nat} {z : Int} {o : Option Nat} {v : Value} (ha : ws[q0]? = some (a, .inl (cA, aq n g))) (ht : (tysOf k)[t0]? = some (cA, .object C)) (hz : 0 ≤ z ∧ z < n) (hn : (n : Int) < 2147483648) (ho : g z = o) (hv : va_rf o = v) (hdg : decode cc pc = .ok (.aaload, 1))
    (kk : W p l e R s m args below meth c H locs cells slots Q (F0 m (pc + 1) ls (v :: rest))) : W p l e R s m args below meth c H locs cells slots Q (F0 m pc ls (.int (iI z) :: .ref a :: rest)) := by
  refine va_aldq hx hb hK hP q0 t0 ha ht (ii_in hz hn) hdg ?_
  show W p l e R s m args below meth c H locs cells slots Q (F0 m (pc + 1) ls (va_rf (g ((iI z).toNatClampNeg : Nat)) :: rest))
  rw [ii_cl ⟨hz.1, by omega⟩, Int.toNat_of_nonneg hz.1, ho, hv]
  exact kk
theorem ra_ast (hx : p.tables.exec = Jvm.exec) (hb : c.code = cc) (hK : va_K D classes (tysOf k) s) (hP : va_P D classes ws H) (hD : va_D A ws) (hS : va_S A H0 H locs) (q0 t0 qk ci : Nat) {cA : ClassId} {rc : vw_C} {n v : Nat} {vs : List Value} {g : Int → Option Nat} {z : Int} (ha : ws[q0]? = some (a, .inl (cA, aq n g))) (ht : (tysOf k)[t0]? = some (cA, .object rc.1)) (hv : ws[qk]? = some (v, .inr (ci, vs))) (hc : classes[ci]? = some rc) (hz : 0 ≤ z ∧ z < n) (hn : (n : Int) < 2147483648) (hdg : decode cc pc = .ok (.aastore, 1))
    (kk : ∀ (H1 : Heap) (locs1 : List Loc), va_P D classes (ws.set q0 (a, .inl (cA, aq n (zU g z (some v))))) H1 → va_D A (ws.set q0 (a, .inl (cA, aq n (zU g z (some v))))) → va_S A H0 H1 locs1 → W p l e R s m args below meth c H1 locs1 cells slots Q (F0 m (pc + 1) ls rest)) : W p l e R s m args below meth c H locs cells slots Q (F0 m pc ls (.ref v :: .int (iI z) :: .ref a :: rest)) := by
  refine va_astq hx hb hK hP hD hS q0 t0 qk ci ha ht hv hc (ii_in hz hn) hdg (fun H1 locs1 h1 h2 h3 => ?_)
  rw [zU_q g (some v) ⟨hz.1, by omega⟩] at h1 h2
  exact kk H1 locs1 h1 h2 h3
theorem ra_alen (hx : p.tables.exec = Jvm.exec) (hb : c.code = cc) (hK : va_K D classes (tysOf k) s) (hP : va_P D classes ws H) (q0 t0 : Nat) {cA : ClassId} {x : vp_A} {ty : FieldType} {z : Int} (ha : ws[q0]? = some (a, .inl (cA, x))) (ht : (tysOf k)[t0]? = some (cA, ty)) (hz : (x.1 : Int) = z) (hdg : decode cc pc = .ok (.arraylength, 1))
    (kk : W p l e R s m args below meth c H locs cells slots Q (F0 m (pc + 1) ls (.int (iI z) :: rest))) : W p l e R s m args below meth c H locs cells slots Q (F0 m pc ls (.ref a :: rest)) :=
  va_alen hx hb hK hP q0 t0 ha ht (by rw [← hz]; exact ii_nI x.1) hdg kk
theorem ra_cls {cA : ClassId} {ty : FieldType} (hK : va_K D classes (tysOf k ++ [(cA, ty)]) s) (t0 : Nat) (ht : (tysOf k)[t0]? = some (k t0, ty)) (hf : ∀ cB : ClassId, va_RA s cB ty → s.vm.findClass ("[" ++ ty.toString) = some cB) : cA = k t0 := by
  have h1 := hf _ (hK.2 6 (cA, ty) rfl).2
  have hl : t0 < (tysOf k).length := (List.getElem?_eq_some_iff.mp ht).1
  have h2 := hf _ (hK.2 t0 (k t0, ty) (by rw [List.getElem?_append_left hl]; exact ht)).2
  exact Option.some.inj (h1.symm.trans h2)
theorem ra_K {cA : ClassId} {ty : FieldType} (hK : va_K D classes (tysOf k ++ [(cA, ty)]) s) : va_K D classes (tysOf k) s := hK.sub [0, 1, 2, 3, 4, 5] rfl
theorem ra_newi (hx : p.tables.exec = Jvm.exec) (hb : c.code = cc) (hG : ∀ w ∈ GW, w.before args s = true) (harr : Cond.arrayClass .int ∈ GW) (hK : va_K D classes (tysOf k) s) (hP : va_P D classes ws H) (hD : va_D A ws) (hS : va_S A H0 H locs) (hA : ∀ q, H0.size ≤ q → A q) {z : Int} {N : Nat} (hz : z = N) (hN : N < 100000000) (hcells : cells + 1 ≤ R.cells) (hslots : slots + N ≤ R.slots) (hdg : decode cc pc = .ok (.newarray .int, 2))
    (kk : ∀ (q : Nat) (H1 : Heap), va_P D classes ((q, .inl (k 0, ai N (fun _ => 0))) :: ws) H1 → va_D A ((q, .inl (k 0, ai N (fun _ => 0))) :: ws) → va_S A H0 H1 locs → W p l e R s m args below meth c H1 locs (cells + 1) (slots + N) Q (F0 m (pc + 2) ls (.ref q :: rest))) : W p l e R s m args below meth c H locs cells slots Q (F0 m pc ls (.int (iI z) :: rest)) := by
  subst hz
  refine va_newa (atype := .int) (ty := .int) (N' := N) (a0 := ai N (fun _ => 0)) hx hb (hG _ harr) rfl hK hP hD hS hA (fun cA => rfl) (ii_nneg (by omega)) (by rw [ii_cl ⟨by omega, by omega⟩]; omega) (by show N * 4 ≤ 536870912; omega) hcells hslots hdg (fun q cA H1 hK1 h1 h2 h3 => ?_)
  have e1 : cA = k 0 := ra_cls hK1 0 rfl (fun cB h => h)
  subst e1
  exact kk q H1 (wl_Pf h1) (wl_Df h2) h3
theorem ra_newl (hx : p.tables.exec = Jvm.exec) (hb : c.code = cc) (hG : ∀ w ∈ GW, w.before args s = true) (harr : Cond.arrayClass .long ∈ GW) (hK : va_K D classes (tysOf k) s) (hP : va_P D classes ws H) (hD : va_D A ws) (hS : va_S A H0 H locs) (hA : ∀ q, H0.size ≤ q → A q) {z : Int} {N : Nat} (hz : z = N) (hN : N < 10000000) (hcells : cells + 1 ≤ R.cells) (hslots : slots + N ≤ R.slots) (hdg : decode cc pc = .ok (.newarray .long, 2))
    (kk : ∀ (q : Nat) (H1 : Heap), va_P D classes ((q, .inl (k 1, al N (fun _ => 0))) :: ws) H1 → va_D A ((q, .inl (k 1, al N (fun _ => 0))) :: ws) → va_S A H0 H1 locs → W p l e R s m args below meth c H1 locs (cells + 1) (slots + N) Q (F0 m (pc + 2) ls (.ref q :: rest))) : W p l e R s m args below meth c H locs cells slots Q (F0 m pc ls (.int (iI z) :: rest)) := by
  subst hz
  refine va_newa (atype := .long) (ty := .long) (N' := N) (a0 := al N (fun _ => 0)) hx hb (hG _ harr) rfl hK hP hD hS hA (fun cA => rfl) (ii_nneg (by omega)) (by rw [ii_cl ⟨by omega, by omega⟩]; omega) (by show N * 8 ≤ 536870912; omega) hcells hslots hdg (fun q cA H1 hK1 h1 h2 h3 => ?_)
  have e1 : cA = k 1 := ra_cls hK1 1 rfl (fun cB h => h)
  subst e1
  exact kk q H1 (wl_Pf h1) (wl_Df h2) h3
theorem ra_newq (hx : p.tables.exec = Jvm.exec) (hb : c.code = cc) (hG : ∀ w ∈ GW, w.before args s = true) {own C : String} {index t0 : Nat} (hown : s.vm.findClass own = some m.cls) (hclink : Cond.classLink own index C ∈ GW) (hover : va_AO C s) (hK : va_K D classes (tysOf k) s) (hP : va_P D classes ws H) (hD : va_D A ws) (hS : va_S A H0 H locs) (hA : ∀ q, H0.size ≤ q → A q) {z : Int} {N : Nat} (ht : (tysOf k)[t0]? = some (k t0, .object C)) (hz : z = N) (hN : N < 100000000) (hcells : cells + 1 ≤ R.cells) (hslots : slots + N ≤ R.slots) (hdg : decode cc pc = .ok (.anewarray index, 3))
    (kk : ∀ (q : Nat) (H1 : Heap), va_P D classes ((q, .inl (k t0, aq N (fun _ => none))) :: ws) H1 → va_D A ((q, .inl (k t0, aq N (fun _ => none))) :: ws) → va_S A H0 H1 locs → W p l e R s m args below meth c H1 locs (cells + 1) (slots + N) Q (F0 m (pc + 3) ls (.ref q :: rest))) : W p l e R s m args below meth c H locs cells slots Q (F0 m pc ls (.int (iI z) :: rest)) := by
  subst hz
  refine va_newq (N' := N) hx hb hown (hG _ hclink) hover hK hP hD hS hA (ii_nneg (by omega)) (by rw [ii_cl ⟨by omega, by omega⟩]; omega) (by omega) hcells hslots hdg (fun q cA H1 hK1 h1 h2 h3 => ?_)
  have e1 : cA = k t0 := ra_cls hK1 t0 ht (fun cB h => by obtain ⟨kA, comp, -, -, -, h4⟩ := h; exact h4)
  subst e1
  exact kk q H1 (wl_Pf h1) (wl_Df h2) h3
theorem ra_new {own C : String} {T : u_T} {N ci index : Nat} (hx : p.tables.exec = Jvm.exec) (hb : c.code = cc) (hG : ∀ w ∈ GW, w.before args s = true) (hin : ∀ w ∈ u_ws C T N, w ∈ GW) (ty : Nat → FieldType) (hty : ∀ k, k < N → parseFieldDescriptor (T k).2.2.1 = some (ty k)) (hown : s.vm.findClass own = some m.cls) (hcl : Cond.classLink own index C ∈ GW) (hinst : Cond.instantiable C N ∈ GW) (hini : Cond.initialized C ∈ GW)
    (hK : va_K D classes (tysOf k) s) (hP : va_P D classes ws H) (hD : va_D A ws) (hS : va_S A H0 H locs) (hA : ∀ q, H0.size ≤ q → A q) (hc : classes[ci]? = some (C, T, N)) {fs : List Value} (hfs : ∀ j, j < N → defaultValue (ty j) = vp_V fs j) (hcells : cells + 1 ≤ R.cells) (hslots : slots + N ≤ R.slots) (hdg : decode cc pc = .ok (.new index, 3))
    (kk : ∀ (q : Nat) (H1 : Heap), va_P D classes ((q, .inr (ci, fs)) :: ws) H1 → va_D A ((q, .inr (ci, fs)) :: ws) → va_S A H0 H1 locs → W p l e R s m args below meth c H1 locs (cells + 1) (slots + N) Q (F0 m (pc + 3) ls (.ref q :: rest))) : W p l e R s m args below meth c H locs cells slots Q (F0 m pc ls rest) :=
  va_new hx hb hG hin ty hty hown (hG _ hcl) (hG _ hinst) (hG _ hini) hK hP hD hS hA hc hfs hcells hslots hdg (fun q H1 h1 h2 h3 => kk q H1 (wl_Pf h1) (wl_Df h2) h3)
end ArrRows
