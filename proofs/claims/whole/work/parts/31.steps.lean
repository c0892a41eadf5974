/-! Steps of the state. -/
theorem pA_zU {f4 : Int → Int} {n a w : Int} (h : w ≤ n) : pA (zU f4 n a) w = pA f4 w := by
  unfold pA
  split
  · rfl
  · exact zU_ne (by omega)
theorem pR_zU {y2 : Int} {f5 : Int → Int} {n a w : Int} (h : w ≤ n) : pR y2 (zU f5 n a) w = pR y2 f5 w := by
  unfold pR
  split
  · rfl
  · exact zU_ne (by omega)
theorem wy_old {y2 : Int} {f4 f5 f6 f7 f8 : Int → Int} {n a b c d e w : Int} (h : w < n) : (WyOk y2 (zU f4 n a) (zU f5 n b) (zU f6 n c) (zU f7 n d) (zU f8 n e) w ↔ WyOk y2 f4 f5 f6 f7 f8 w) ∧ ∀ x, wyF y2 (zU f4 n a) (zU f5 n b) (zU f6 n c) (zU f7 n d) (zU f8 n e) w x = wyF y2 f4 f5 f6 f7 f8 w x := by
  unfold WyOk wyF
  rw [pA_zU (by omega), pR_zU (by omega), zU_ne (r := f4) (by omega), zU_ne (r := f5) (by omega), zU_ne (r := f6) (by omega), zU_ne (r := f7) (by omega), zU_ne (r := f8) (by omega)]
  exact ⟨Iff.rfl, fun x => rfl⟩
/-- one more way -/
theorem way_add {y1 y2 y3 : Int} {f4 f5 f6 f7 f8 pr g : Int → Int} (hA : IvA y1 y2 y3 f4 f5 f6 f7 f8) (hp : PrOk y2 y3 f4 f5 f6 f7 f8 pr) {x r s c d : Int} (h1 : y1 = 1) (hx : pA f4 y3 < x ∧ x ≤ 64) (hr : 0 ≤ r ∧ r ≤ 500) (hs : 0 ≤ s ∧ s ≤ 2)
    (harc : ¬ s = 0 → (s = 1 ∨ s = 2) ∧ (-200 ≤ c ∧ c ≤ 300) ∧ (-1000 ≤ d ∧ d ≤ 1500) ∧ arcOk (pA f4 y3) (pR y2 f5 y3) x r c d (s - 1))
    (hg : ∀ j, g j = if s = 0 then lineF (pA f4 y3) (pR y2 f5 y3) x r j else arcF ((pA f4 y3 - c) * (pA f4 y3 - c) + (pR y2 f5 y3 - d) * (pR y2 f5 y3 - d)) c d (s - 1) j) :
    (pA (zU f4 y3 x) (y3 + 1) = x ∧ pR y2 (zU f5 y3 r) (y3 + 1) = r) ∧ IvA y1 y2 (y3 + 1) (zU f4 y3 x) (zU f5 y3 r) (zU f6 y3 s) (zU f7 y3 c) (zU f8 y3 d) ∧ PrOk y2 (y3 + 1) (zU f4 y3 x) (zU f5 y3 r) (zU f6 y3 s) (zU f7 y3 c) (zU f8 y3 d) (seqF pr g (pA f4 y3 + 1) (x - pA f4 y3).toNat) := by
  obtain ⟨a1, a2, a3, a4, a5, a6⟩ := hA
  have e1 : pA (zU f4 y3 x) (y3 + 1) = x := by rw [pA_s _ a4.1, zU_eq]
  have e2 : pR y2 (zU f5 y3 r) (y3 + 1) = r := by rw [pR_s _ _ a4.1, zU_eq]
  have hw : WyOk y2 (zU f4 y3 x) (zU f5 y3 r) (zU f6 y3 s) (zU f7 y3 c) (zU f8 y3 d) y3 := by
    unfold WyOk
    rw [pA_zU (Int.le_refl _), pR_zU (Int.le_refl _), zU_eq, zU_eq, zU_eq, zU_eq, zU_eq]
    exact ⟨by omega, a5, hr, hs, harc⟩
  have hf : ∀ j, wyF y2 (zU f4 y3 x) (zU f5 y3 r) (zU f6 y3 s) (zU f7 y3 c) (zU f8 y3 d) y3 j = g j := by
    intro j
    unfold wyF
    rw [pA_zU (Int.le_refl _), pR_zU (Int.le_refl _), zU_eq, zU_eq, zU_eq, zU_eq, zU_eq, hg j]
  refine ⟨⟨e1, e2⟩, ⟨a1, by omega, a3, by rw [e1]; omega, by rw [e2]; exact hr, fun w h2 h3 => ?_⟩, ?_, fun w z h2 h3 h4 h5 => ?_, fun j h2 h3 => ?_⟩
  · by_cases q : w = y3
    · subst q
      exact hw
    · exact (wy_old (by omega)).1.mpr (a6 w h2 (by omega))
  · rw [seqF_out (by omega)]
    exact hp.1
  · by_cases q : w = y3
    · subst q
      rw [pA_zU (Int.le_refl _)] at h4
      rw [zU_eq] at h5
      rw [hf, seqF_in (by omega)]
    · rw [pA_zU (by omega)] at h4
      rw [zU_ne (by omega)] at h5
      rw [(wy_old (by omega)).2]
      have hle : f4 w ≤ pA f4 y3 := (tuR_ok (fr := f4) (b := 0) y3.toNat (fun w h1 h2 => a6 w h1 (by omega))).2.2.2.2 w h2 (by omega) |> fun h => by rwa [Int.toNat_of_nonneg a4.1] at h
      rw [seqF_out (by omega)]
      exact hp.2.1 w z h2 (by omega) h4 h5
  · rw [e1] at h3
    by_cases q : j ≤ pA f4 y3
    · rw [seqF_out (by omega)]
      exact hp.2.2 j h2 q
    · rw [seqF_in (by omega), ← hf]
      have := hw.1
      refine wyF_rg hw ⟨?_, ?_⟩
      · rw [pA_zU (Int.le_refl _)]
        omega
      · rw [zU_eq]
        exact h3
/-- each place lies on a way -/
theorem cover {y2 y3 : Int} {f4 f5 f6 f7 f8 : Int → Int} (h : ∀ w : Int, 0 ≤ w → w < y3 → WyOk y2 f4 f5 f6 f7 f8 w) (n : Nat) (hn : (n : Int) ≤ y3) (x : Int) (h0 : 0 < x) (h1 : x ≤ pA f4 n) : ∃ w : Int, 0 ≤ w ∧ w < n ∧ pA f4 w < x ∧ x ≤ f4 w := by
  induction n with
  | zero => rw [show ((0 : Nat) : Int) = 0 from rfl, pA_0] at h1; omega
  | succ n ih =>
    rw [show ((n + 1 : Nat) : Int) = (n : Int) + 1 by omega, pA_s f4 (by omega)] at h1
    by_cases q : x ≤ pA f4 n
    · obtain ⟨w, g1, g2, g3, g4⟩ := ih (by omega) q
      exact ⟨w, g1, by omega, g3, g4⟩
    · exact ⟨n, by omega, by omega, by omega, h1⟩
theorem lmF_congr {r r' : Int → Int} {p : Int} (n : Nat) (h : ∀ j : Int, p ≤ j → j ≤ p + n → r j = r' j) : lmF r p n = lmF r' p n := by
  unfold lmF
  rw [h p (Int.le_refl _) (by omega)]
  exact itF_congr n (fun j h1 h2 => h j (by omega) (by omega))
theorem nhF_congr {r r' : Int → Int} {span p : Int} (n : Nat) (h : ∀ j : Int, p ≤ j → j ≤ p + n → r j = r' j) : nhF r span p n = nhF r' span p n := by
  induction n with
  | zero => rfl
  | succ n ih => rw [nhF, nhF, ih (fun j h1 h2 => h j h1 (by omega)), lmF_congr (n + 1) h]
theorem stF_congr {r r' : Int → Int} {span : Int} {L : Nat} (h : ∀ j : Int, 0 ≤ j → j ≤ L → r j = r' j) (n : Nat) : stF r span L n = stF r' span L n := by
  induction n with
  | zero => rfl
  | succ n ih =>
    have h1 := stF_rg r' span L n
    rw [stF, stF, ih]
    split
    · exact nhF_congr _ (fun j h2 h3 => h j (by omega) (by omega))
    · rfl
theorem hoF_congr {r r' : Int → Int} {t : Int} (n : Nat) (h : ∀ j : Int, 0 ≤ j → j < n → r j = r' j) : hoF r t n = hoF r' t n := by
  induction n with
  | zero => rfl
  | succ n ih => rw [hoF, hoF, ih (fun j h1 h2 => h j h1 (by omega)), h n (by omega) (by omega)]
theorem smF_congr {ga gb ga' gb' : Int → Int} (n : Nat) (h : ∀ j : Int, 0 ≤ j → j < n → ga j = ga' j ∧ gb j = gb' j) : smF ga gb n = smF ga' gb' n :=
  itF_congr n (fun j h1 h2 => by rw [(h j h1 (by omega)).1, (h j h1 (by omega)).2])
theorem liF_congr {r r' hh : Int → Int} {n L x : Int} (h : ∀ j : Int, 0 ≤ j → j ≤ L → r j = r' j) : liF r hh n L x = liF r' hh n L x := by
  unfold liF
  refine itF_congr _ (fun j h1 h2 => ?_)
  rw [h j (by omega) (by omega)]
theorem loA_congr {r r' hh : Int → Int} {n L : Nat} (h : ∀ j : Int, 0 ≤ j → j ≤ L → r j = r' j) : loA r hh n L = loA r' hh n L := by
  have e : liA r hh n L = liA r' hh n L := by
    unfold liA
    exact congrArg (fun q => seqF (fun _ => 0) q 0 (L + 1)) (funext fun x => liF_congr h)
  unfold loA
  rw [e]
theorem wl_i1 {D : va_G} {cl : List vw_C} {F T : va_W} {H : Heap} (h : va_P D cl (F ++ T) H) {i : Nat} {x : Nat × va_E} (e1 : F[i]? = some x) : va_P D cl [x] H := wl_P1 h (List.mem_append_left _ (List.mem_of_getElem? e1))
theorem wl_i2 {D : va_G} {cl : List vw_C} {F T : va_W} {H : Heap} (h : va_P D cl (F ++ T) H) {i j : Nat} {x y : Nat × va_E} (e1 : F[i]? = some x) (e2 : F[j]? = some y) : va_P D cl (x :: y :: T) H := wl_Pm h (fun q hq => by
  rcases List.mem_cons.mp hq with rfl | hq
  · exact List.mem_append_left _ (List.mem_of_getElem? e1)
  · rcases List.mem_cons.mp hq with rfl | hq
    · exact List.mem_append_left _ (List.mem_of_getElem? e2)
    · exact List.mem_append_right _ hq)
theorem wl_i4 {D : va_G} {cl : List vw_C} {F T : va_W} {H : Heap} (h : va_P D cl (F ++ T) H) {i j m n : Nat} {x y z u : Nat × va_E} (e1 : F[i]? = some x) (e2 : F[j]? = some y) (e3 : F[m]? = some z) (e4 : F[n]? = some u) : va_P D cl (x :: y :: z :: u :: T) H := wl_Pm h (fun q hq => by
  rcases List.mem_cons.mp hq with rfl | hq
  · exact List.mem_append_left _ (List.mem_of_getElem? e1)
  · rcases List.mem_cons.mp hq with rfl | hq
    · exact List.mem_append_left _ (List.mem_of_getElem? e2)
    · rcases List.mem_cons.mp hq with rfl | hq
      · exact List.mem_append_left _ (List.mem_of_getElem? e3)
      · rcases List.mem_cons.mp hq with rfl | hq
        · exact List.mem_append_left _ (List.mem_of_getElem? e4)
        · exact List.mem_append_right _ hq)
/-- a PIECE's radii, on both sides -/
def PfOk (y9 : Int) (f10 f12 : Int → Int) (pf : Int → Int → Int) : Prop := ∀ i : Int, 0 ≤ i → i < y9 → ∀ j : Int, 0 ≤ j → j ≤ f10 i → pf i j = f12 (65 * i + j)
theorem bl_eq {y9 : Int} {f10 f12 : Int → Int} {pf : Int → Int → Int} (h : PfOk y9 f10 f12 pf) {p : Int} (h0 : 0 ≤ p) (h1 : p < y9) (h2 : 0 ≤ f10 p) : blF f10 pf p = itF max (fun j => f12 (65 * p + j)) 0 0 ((f10 p).toNat + 1) + 3 := by
  unfold blF
  rw [itF_congr (f := pf p) (f' := fun j => f12 (65 * p + j)) _ (fun j g1 g2 => h p h0 h1 j g1 (by omega))]
theorem lo_eq {y9 : Int} {f10 f12 hh : Int → Int} {pf : Int → Int → Int} {n : Nat} (h : PfOk y9 f10 f12 pf) {p : Int} (h0 : 0 ≤ p) (h1 : p < y9) (h2 : 0 ≤ f10 p) : loA (pf p) hh n (f10 p).toNat = loA (fun j => f12 (65 * p + j)) hh n (f10 p).toNat :=
  loA_congr (fun j g1 g2 => h p h0 h1 j g1 (by omega))
