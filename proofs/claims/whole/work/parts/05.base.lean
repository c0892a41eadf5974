/-! Worlds as lists: any order, one cell in front, a part of them. -/
section WorldLists
theorem wl_P {D : va_G} {cl : List vw_C} {ws : va_W} {H : Heap} : va_P D cl ws H ↔ ∀ q ∈ ws, va_at D cl q H := by
  constructor
  · intro h q hq
    obtain ⟨k, hk⟩ := List.getElem?_of_mem hq
    exact h k q hk
  · intro h k q hk
    exact h q (List.mem_of_getElem? hk)
theorem wl_D {A : Nat → Prop} {ws : va_W} : va_D A ws ↔ (ws.map Prod.fst).Nodup ∧ ∀ q ∈ ws, A q.1 := by
  constructor
  · intro h
    refine ⟨?_, fun q hq => by obtain ⟨k, hk⟩ := List.getElem?_of_mem hq; exact h.2 k q hk⟩
    refine List.pairwise_iff_getElem.mpr fun i j hi hj hij e => ?_
    rw [List.length_map] at hi hj
    rw [List.getElem_map, List.getElem_map] at e
    have := h.1 i j _ _ (List.getElem?_eq_getElem hi) (List.getElem?_eq_getElem hj) e
    omega
  · intro h
    refine ⟨?_, fun k q hk => h.2 q (List.mem_of_getElem? hk)⟩
    intro i j a b hi hj e
    have hn := List.pairwise_iff_getElem.mp h.1
    obtain ⟨hi1, hi2⟩ := List.getElem?_eq_some_iff.mp hi
    obtain ⟨hj1, hj2⟩ := List.getElem?_eq_some_iff.mp hj
    have li : i < (ws.map Prod.fst).length := by rw [List.length_map]; exact hi1
    have lj : j < (ws.map Prod.fst).length := by rw [List.length_map]; exact hj1
    have ei : (ws.map Prod.fst)[i] = a.1 := by rw [List.getElem_map, hi2]
    have ej : (ws.map Prod.fst)[j] = b.1 := by rw [List.getElem_map, hj2]
    rcases Nat.lt_trichotomy i j with q | q | q
    · exact absurd (by rw [ei, ej, e]) (hn i j li lj q)
    · exact q
    · exact absurd (by rw [ei, ej, e]) (hn j i lj li q)
theorem wl_Pp {D : va_G} {cl : List vw_C} {ws ws' : va_W} {H : Heap} (h : va_P D cl ws H) (hp : ws.Perm ws') : va_P D cl ws' H := wl_P.mpr fun q hq => wl_P.mp h q (hp.mem_iff.mpr hq)
theorem wl_Dp {A : Nat → Prop} {ws ws' : va_W} (h : va_D A ws) (hp : ws.Perm ws') : va_D A ws' := by
  obtain ⟨h1, h2⟩ := wl_D.mp h
  exact wl_D.mpr ⟨(hp.map Prod.fst).nodup_iff.mp h1, fun q hq => h2 q (hp.mem_iff.mpr hq)⟩
theorem wl_Pm {D : va_G} {cl : List vw_C} {ws ws' : va_W} {H : Heap} (h : va_P D cl ws H) (hs : ∀ q ∈ ws', q ∈ ws) : va_P D cl ws' H := wl_P.mpr fun q hq => wl_P.mp h q (hs q hq)
theorem wl_P1 {D : va_G} {cl : List vw_C} {ws : va_W} {H : Heap} (h : va_P D cl ws H) {q : Nat × va_E} (hq : q ∈ ws) : va_P D cl [q] H := wl_Pm h (fun z hz => by rw [List.mem_singleton.mp hz]; exact hq)
theorem wl_Pf {D : va_G} {cl : List vw_C} {ws : va_W} {x : Nat × va_E} {H : Heap} (h : va_P D cl (ws ++ [x]) H) : va_P D cl (x :: ws) H := wl_Pp h (List.perm_append_comm (l₁ := ws) (l₂ := [x]))
theorem wl_Df {A : Nat → Prop} {ws : va_W} {x : Nat × va_E} (h : va_D A (ws ++ [x])) : va_D A (x :: ws) := wl_Dp h (List.perm_append_comm (l₁ := ws) (l₂ := [x]))
theorem wl_Pa {D : va_G} {cl : List vw_C} {w1 w2 : va_W} {H : Heap} : va_P D cl (w1 ++ w2) H ↔ va_P D cl w1 H ∧ va_P D cl w2 H := by
  constructor
  · intro h
    exact ⟨wl_Pm h fun q hq => List.mem_append_left _ hq, wl_Pm h fun q hq => List.mem_append_right _ hq⟩
  · rintro ⟨h1, h2⟩
    refine wl_P.mpr fun q hq => ?_
    rcases List.mem_append.mp hq with h | h
    · exact wl_P.mp h1 q h
    · exact wl_P.mp h2 q h
/-- the heap has grown, nothing old has changed -/
theorem wl_Pk {D : va_G} {cl : List vw_C} {ws : va_W} {H H1 : Heap} (h : va_P D cl ws H) (hq : ∀ q : Nat, q < H.size → H1[q]? = H[q]?) : va_P D cl ws H1 :=
  wl_P.mpr fun q hm => (wl_P.mp h q hm).kept (hq q.1 (wl_P.mp h q hm).lt)
end WorldLists
section TopOf
variable {p : Program} {l : Launch} {e : Env} {R : Room} {s : State} {m : MethodId} {args : Array Value} {below : List Frame} {meth : Method} {c : Code} {H : Heap} {locs : List Loc} {cells slots : Nat} {Q : State → Prop} {pc : Nat} {ls : Array Slot} {rest : List Value}
/-- the value on top, said otherwise -/
theorem tp_i {x y : Int32} (h : x = y) (k : W p l e R s m args below meth c H locs cells slots Q (F0 m pc ls (.int y :: rest))) : W p l e R s m args below meth c H locs cells slots Q (F0 m pc ls (.int x :: rest)) := h ▸ k
theorem tp_l {x y : Int64} (h : x = y) (k : W p l e R s m args below meth c H locs cells slots Q (F0 m pc ls (.long y :: rest))) : W p l e R s m args below meth c H locs cells slots Q (F0 m pc ls (.long x :: rest)) := h ▸ k
theorem tp_v {x y : Value} (h : x = y) (k : W p l e R s m args below meth c H locs cells slots Q (F0 m pc ls (y :: rest))) : W p l e R s m args below meth c H locs cells slots Q (F0 m pc ls (x :: rest)) := h ▸ k
end TopOf
