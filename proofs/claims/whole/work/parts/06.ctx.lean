/-! The start s0, what holds there, and later states with a world. -/
abbrev xIA : String := "java/lang/IllegalArgumentException"
abbrev xIS : String := "java/lang/IllegalStateException"
abbrev xIO : String := "java/lang/IndexOutOfBoundsException"
abbrev xRE : List String := ["java/lang/RuntimeException", "java/lang/Exception"]
abbrev wU : Cond := .isRef (.static Bundle.tN "UNASSIGNED_STACK" Bundle.steD)
abbrev wN : Cond := .isRef (.static Bundle.tN "SUPPRESSED_SENTINEL" Bundle.listD)
abbrev tysOf (k : Nat → ClassId) : List (ClassId × FieldType) := [(k 0, .int), (k 1, .long), (k 2, .object "LathePieces$Piece"), (k 3, .object "LathePieces$Nose"), (k 4, .object "LathePieces$Reach"), (k 5, .object "LathePieces$Ring")]
/-- what holds at the law's entry -/
def Cx (l : Launch) (s0 : State) (D : va_G) (k : Nat → ClassId) : Prop :=
  l.stackTraces = false ∧ (∃ a0 : Array Value, (∀ w ∈ lw_tbl, w.before a0 s0 = true) ∧ wU.before a0 s0 = true ∧ wN.before a0 s0 = true) ∧ va_K D classes (tysOf k) s0 ∧
  (va_Nc xIA xIS s0 ∧ va_Nc xIA xIO s0 ∧ va_Nc xIS xIA s0 ∧ va_Nc xIS xIO s0 ∧ va_Nc xIO xIA s0 ∧ va_Nc xIO xIS s0)
/-- U is later than s0: the tables warmer, what was there unchanged -/
def La (s0 U : State) : Prop := s0.WarmedH U.vm ∧ s0.heap.size ≤ U.heap.size ∧ ∀ q : Nat, q < s0.heap.size → U.heap[q]? = s0.heap[q]?
/-- .. and its world is ws -/
def Wd (s0 : State) (D : va_G) (ws : va_W) (U : State) : Prop := La s0 U ∧ va_P D classes ws U.heap ∧ va_D (fun q : Nat => s0.heap.size ≤ q) ws
section CtxLaws
variable {l : Launch} {s0 : State} {D : va_G} {k : Nat → ClassId} {ws ws1 : va_W} {U s t : State}
theorem cx_gw (hC : Cx l s0 D k) (h : La s0 U) (a : Array Value) : ∀ w ∈ GW, w.before a U = true := by
  obtain ⟨-, ⟨a0, h1, -⟩, -⟩ := hC
  exact fun w hw => word_at h.1 (good_of_word (gw_good w hw)) (h1 w (gw_tbl hw))
theorem cx_K (hC : Cx l s0 D k) (h : La s0 U) : va_K D classes (tysOf k) U := va_K.moved h.1.alike hC.2.2.1
theorem la_calling {g : JFrame} {mk : MethodId} {a : Array Value} (h : La s0 U) : La s0 (U.calling g mk a) := h
theorem wd_calling {g : JFrame} {mk : MethodId} {a : Array Value} (h : Wd s0 D ws U) : Wd s0 D ws (U.calling g mk a) := h
theorem la_next {A : Nat → Prop} {H : Heap} {locs : List Loc} (h : La s0 s) (hA : ∀ q : Nat, A q → s0.heap.size ≤ q) (hS : va_S A s.heap H locs) (U : State) (hU : U.heap = H) (hW : s.WarmedH U.vm) : La s0 U := by
  refine ⟨State.WarmedH.trans h.1 hW, by rw [hU]; exact Nat.le_trans h.2.1 hS.1, fun q hq => ?_⟩
  rw [hU, hS.2.1 q (Nat.lt_of_lt_of_le hq h.2.1) (fun z => absurd (hA q z) (Nat.not_le.mpr hq))]
  exact h.2.2 q hq
theorem wd_next {H : Heap} {locs : List Loc} (h : La s0 s) (hS : va_S (fun q : Nat => s0.heap.size ≤ q) s.heap H locs) (hP : va_P D classes ws H) (hD : va_D (fun q : Nat => s0.heap.size ≤ q) ws) (U : State) (hU : U.heap = H) (hW : s.WarmedH U.vm) : Wd s0 D ws U :=
  ⟨la_next h (fun _ z => z) hS U hU hW, by rw [hU]; exact hP, hD⟩
/-- behind a call -/
theorem wd_S {locs L : List Loc} {H H1 : Heap} (h : La s0 s) (hS : va_S (fun q : Nat => s0.heap.size ≤ q) s.heap H locs) (ht : La s0 t) (e1 : t.heap = H1) (hz : s.heap.size ≤ H1.size) (hL : ∀ z ∈ L, s0.heap.size ≤ z.base) : va_S (fun q : Nat => s0.heap.size ≤ q) s.heap H1 (locs ++ L) := by
  refine ⟨hz, fun q h1 h2 => ?_, fun z hm => ?_⟩
  · have hq : q < s0.heap.size := Nat.not_le.mp h2
    rw [← e1, ht.2.2 q hq]
    exact (h.2.2 q hq).symm
  · rcases List.mem_append.mp hm with q | q
    · exact hS.2.2 z q
    · exact hL z q
/-- the heap has only grown -/
theorem la_grow (h : La s0 s) (hW : s.WarmedH t.vm) (hz : s.heap.size ≤ t.heap.size) (hq : ∀ q : Nat, q < s.heap.size → t.heap[q]? = s.heap[q]?) : La s0 t :=
  ⟨State.WarmedH.trans h.1 hW, Nat.le_trans h.2.1 hz, fun q hl => (hq q (Nat.lt_of_lt_of_le hl h.2.1)).trans (h.2.2 q hl)⟩
theorem cx_lays (hC : Cx l s0 D k) (h : La s0 U) {n d : String} (hm : Cond.laysStatic Bundle.tN n d ∈ lw_tbl) (a : Array Value) : (Cond.laysStatic Bundle.tN n d).before a U = true := by
  obtain ⟨-, ⟨a0, h1, -⟩, -⟩ := hC
  obtain ⟨c, kk, i, f, ad, cell, hc, hi, hst, ha, hcell, hs, hcls, hlt, hty⟩ := Cond.laysStatic_spec (h1 _ hm)
  obtain ⟨k', hi', hek⟩ := State.fieldFound?_setVm h.1.alike hi
  have hl : ad < s0.heap.size := (Array.getElem?_eq_some_iff.mp hcell).1
  exact Cond.laysStatic_of (s := U) (by rw [h.1.alike.findClass]; exact hc) hi' hst (by rw [hek]; exact ha) (by rw [h.2.2 ad hl]; exact hcell) hs hcls hlt (by rw [hek]; exact hty)
theorem cx_isRef (h : La s0 U) {n d : String} {a0 : Array Value} (h1 : (Cond.laysStatic Bundle.tN n d).before a0 s0 = true) (h2 : (Cond.initialized Bundle.tN).before a0 s0 = true) (h3 : (Cond.isRef (.static Bundle.tN n d)).before a0 s0 = true) (a : Array Value) : (Cond.isRef (.static Bundle.tN n d)).before a U = true := by
  have hz : va_Zq Bundle.tN n d (fun q : Nat => s0.heap.size ≤ q) U U.heap := ((va_Zqof (A := fun q : Nat => s0.heap.size ≤ q) h1 h2 h3 (fun q hq => Nat.not_le.mpr hq)).moved h.1.alike).kept (fun q hq _ => h.2.2 q hq)
  have key : ∀ v : Value, v.isRef = true → va_Z Bundle.tN n d v (fun q : Nat => s0.heap.size ≤ q) U U.heap → (Cond.isRef (.static Bundle.tN n d)).before a U = true := by
    intro v hv hzv
    obtain ⟨cf, kf, fi, f, ad, cell, g1, g2, g3, g4, g5, g6, g7, -⟩ := hzv
    have he : (Term.static Bundle.tN n d).eval a U none [] U = some v := by
      simp [Term.eval, State.fieldNamed?, g1, g2, g4, g5, g6, g7]
    simp only [Cond.before, Cond.holds, Cond.value, he]
    cases v <;> simp_all [Value.isRef]
  rcases hz with hz | ⟨q, hz⟩
  · exact key _ rfl hz
  · exact key _ rfl hz
/-- the words of a throw that aren't good ones -/
def xSp (cls : String) : List Cond := [wU, wN, .laysStatic Bundle.tN "UNASSIGNED_STACK" Bundle.steD, .laysStatic Bundle.tN "SUPPRESSED_SENTINEL" Bundle.listD, .castable cls cls, .declares ⟨"java/lang/RuntimeException", "<init>", "(Ljava/lang/String;)V"⟩, .declares ⟨"java/lang/Exception", "<init>", "(Ljava/lang/String;)V"⟩, .declares ⟨"java/lang/Throwable", "<init>", "(Ljava/lang/String;)V"⟩]
theorem xA_IA : ∀ w ∈ Bundle.ownAtoms "LathePieces" 234 xIA xRE, (goodWord w = true ∧ w ∈ lw_tbl) ∨ w ∈ xSp xIA := by decide +kernel
theorem xA_IS : ∀ w ∈ Bundle.ownAtoms "LathePieces" 84 xIS xRE, (goodWord w = true ∧ w ∈ lw_tbl) ∨ w ∈ xSp xIS := by decide +kernel
theorem xA_IO : ∀ w ∈ Bundle.ownAtoms "LathePieces" 109 xIO xRE, (goodWord w = true ∧ w ∈ lw_tbl) ∨ w ∈ xSp xIO := by decide +kernel
end CtxLaws
