set_option maxHeartbeats 4000000 in
theorem o_radius {l : Launch} {s0 : State} {D : va_G} {k : Nat → ClassId} (hC : Cx l s0 D k) {cx : Nat} {v : Nat → Int} {f : Nat → Int → Int} {wc : va_W} (hI : Iv v f) (hW : Cst k cx v f wc) (wr : va_W) (p x : Int) (hp : In32 p) (hx9 : In32 x) : WdM l s0 D y_C_radius { frames := 8, cells := 2, slots := 12, locals := 135 } [.ref cx, .int (iI (p)), .int (iI (x))] (wc ++ wr) (fun ret w => ∃ wc', w = wc' ++ wr ∧ (0 ≤ p ∧ p < (v 9) ∧ 0 ≤ x ∧ x ≤ (f 10) p) ∧ ret = some (.int (iI ((f 12) (65 * p + x)))) ∧ Cst k cx v f wc' ∧ Iv v f) (fun E w => ∃ wc', w = wc' ++ wr ∧ Cst k cx v f wc' ∧ (E = xIO ∧ ¬ (0 ≤ p ∧ p < (v 9) ∧ 0 ≤ x ∧ x ≤ (f 10) p))) 2 12 := by
  obtain ⟨cf, cp, cn, ce, cg, cu, ct, cr, pr, pa, pq, pf, na, nq, rq, ga, g1, g2, gA, gB, rs, rfl, hpr, hpc, hpf, hno, hrq, hrg⟩ := id hW
  obtain ⟨iA, iB, iC, iD, iE, iF⟩ := id hI
  have hrs : ∀ q ∈ rs, q ∈ (rgW k ga g1 g2 (f 18) gA gB (v 17).toNat ++ (rs ++ wr)) := fun q h => List.mem_append_right _ (List.mem_append_left _ h)
  refine wd_conv (wd_of_th (ws1 := cFx k cx cf cp cn ce cg cu ct cr (v 9) (v 13) (v 17) (v 23) (v 21) (v 22) (v 1) (pA (f 4) (v 3)) (pR (v 2) (f 5) (v 3)) (v 3) pr (f 24) (f 25) (gQ (v 9) pa) (gQ (v 13) na) rq (gQ (v 17) ga) ++ (rgW k ga g1 g2 (f 18) gA gB (v 17).toNat ++ (rs ++ wr))) (c_C_radius hC cx cf cp cn ce cg cu ct (v 9) (v 13) (v 17) (v 23) (v 21) (v 22) pa pq (f 10) (blF (f 10) pf) (f 11) pf rs (rgW k ga g1 g2 (f 18) gA gB (v 17).toNat ++ (rs ++ wr)) hpc hrs iB.1 p x hp hx9) (fun H h => wl_i2 (i := 2) (j := 3) h rfl rfl)) (by rw [as3]) (fun ret w h => ?_) (fun E w h => ?_)
  · obtain ⟨h, rfl⟩ := h
    refine ⟨((cFx k cx cf cp cn ce cg cu ct cr (v 9) (v 13) (v 17) (v 23) (v 21) (v 22) (v 1) (pA (f 4) (v 3)) (pR (v 2) (f 5) (v 3)) (v 3) pr (f 24) (f 25) (gQ (v 9) pa) (gQ (v 13) na) rq (gQ (v 17) ga) ++ (rgW k ga g1 g2 (f 18) gA gB (v 17).toNat ++ rs)) ++ wr), by rw [as3], _, rfl, ?_⟩
    obtain ⟨h1, h2, h3, h4, rfl⟩ := h
    exact ⟨⟨h1, h2, h3, h4⟩, by rw [hpf p h1 h2 x h3 h4], hW, hI⟩
  · obtain ⟨h, rfl⟩ := h
    refine ⟨((cFx k cx cf cp cn ce cg cu ct cr (v 9) (v 13) (v 17) (v 23) (v 21) (v 22) (v 1) (pA (f 4) (v 3)) (pR (v 2) (f 5) (v 3)) (v 3) pr (f 24) (f 25) (gQ (v 9) pa) (gQ (v 13) na) rq (gQ (v 17) ga) ++ (rgW k ga g1 g2 (f 18) gA gB (v 17).toNat ++ rs)) ++ wr), by rw [as3], _, rfl, hW, ?_⟩
    exact h
set_option maxHeartbeats 4000000 in
theorem o_about {l : Launch} {s0 : State} {D : va_G} {k : Nat → ClassId} (hC : Cx l s0 D k) {cx : Nat} {v : Nat → Int} {f : Nat → Int → Int} {wc : va_W} (hI : Iv v f) (hW : Cst k cx v f wc) (wr : va_W) (p wh : Int) (hp : In32 p) (hwh : In32 wh) : WdM l s0 D y_C_about { frames := 7, cells := 2, slots := 12, locals := 112 } [.ref cx, .int (iI (p)), .int (iI (wh))] (wc ++ wr) (fun ret w => ∃ wc', w = wc' ++ wr ∧ (0 ≤ p ∧ p < (v 9) ∧ 0 ≤ wh ∧ wh ≤ 2) ∧ ret = some (.int (iI (if wh = 0 then (f 10) p else if wh = 1 then (itF max (fun j => (f 12) (65 * p + j)) 0 0 (((f 10) p).toNat + 1) + 3) else (f 11) p))) ∧ Cst k cx v f wc' ∧ Iv v f) (fun E w => ∃ wc', w = wc' ++ wr ∧ Cst k cx v f wc' ∧ (E = xIO ∧ ¬ (0 ≤ p ∧ p < (v 9) ∧ 0 ≤ wh ∧ wh ≤ 2))) 2 12 := by
  obtain ⟨cf, cp, cn, ce, cg, cu, ct, cr, pr, pa, pq, pf, na, nq, rq, ga, g1, g2, gA, gB, rs, rfl, hpr, hpc, hpf, hno, hrq, hrg⟩ := id hW
  obtain ⟨iA, iB, iC, iD, iE, iF⟩ := id hI
  have hrs : ∀ q ∈ rs, q ∈ (rgW k ga g1 g2 (f 18) gA gB (v 17).toNat ++ (rs ++ wr)) := fun q h => List.mem_append_right _ (List.mem_append_left _ h)
  refine wd_conv (wd_of_th (ws1 := cFx k cx cf cp cn ce cg cu ct cr (v 9) (v 13) (v 17) (v 23) (v 21) (v 22) (v 1) (pA (f 4) (v 3)) (pR (v 2) (f 5) (v 3)) (v 3) pr (f 24) (f 25) (gQ (v 9) pa) (gQ (v 13) na) rq (gQ (v 17) ga) ++ (rgW k ga g1 g2 (f 18) gA gB (v 17).toNat ++ (rs ++ wr))) (c_C_about hC cx cf cp cn ce cg cu ct (v 9) (v 13) (v 17) (v 23) (v 21) (v 22) pa pq (f 10) (blF (f 10) pf) (f 11) pf rs (rgW k ga g1 g2 (f 18) gA gB (v 17).toNat ++ (rs ++ wr)) hpc hrs iB.1 p wh hp hwh) (fun H h => wl_i2 (i := 2) (j := 3) h rfl rfl)) (by rw [as3]) (fun ret w h => ?_) (fun E w h => ?_)
  · obtain ⟨h, rfl⟩ := h
    refine ⟨((cFx k cx cf cp cn ce cg cu ct cr (v 9) (v 13) (v 17) (v 23) (v 21) (v 22) (v 1) (pA (f 4) (v 3)) (pR (v 2) (f 5) (v 3)) (v 3) pr (f 24) (f 25) (gQ (v 9) pa) (gQ (v 13) na) rq (gQ (v 17) ga) ++ (rgW k ga g1 g2 (f 18) gA gB (v 17).toNat ++ rs)) ++ wr), by rw [as3], _, rfl, ?_⟩
    obtain ⟨h1, h2, h3, h4, rfl⟩ := h
    exact ⟨⟨h1, h2, h3, h4⟩, by rw [bl_eq hpf h1 h2 (iB.2.1 p h1 h2).1], hW, hI⟩
  · obtain ⟨h, rfl⟩ := h
    refine ⟨((cFx k cx cf cp cn ce cg cu ct cr (v 9) (v 13) (v 17) (v 23) (v 21) (v 22) (v 1) (pA (f 4) (v 3)) (pR (v 2) (f 5) (v 3)) (v 3) pr (f 24) (f 25) (gQ (v 9) pa) (gQ (v 13) na) rq (gQ (v 17) ga) ++ (rgW k ga g1 g2 (f 18) gA gB (v 17).toNat ++ rs)) ++ wr), by rw [as3], _, rfl, hW, ?_⟩
    exact h
set_option maxHeartbeats 4000000 in
theorem o_steady {l : Launch} {s0 : State} {D : va_G} {k : Nat → ClassId} (hC : Cx l s0 D k) {cx : Nat} {v : Nat → Int} {f : Nat → Int → Int} {wc : va_W} (hI : Iv v f) (hW : Cst k cx v f wc) (wr : va_W) (p sp kk : Int) (hp : In32 p) (hsp : In32 sp) (hkk : In32 kk) : WdM l s0 D y_C_steady { frames := 7, cells := 4, slots := 24, locals := 112 } [.ref cx, .int (iI (p)), .int (iI (sp)), .int (iI (kk))] (wc ++ wr) (fun ret w => ∃ wc', w = wc' ++ wr ∧ ((0 ≤ p ∧ p < (v 9)) ∧ ((1 ≤ sp ∧ sp ≤ 500) ∧ 0 ≤ kk) ∧ stF (fun j => (f 12) (65 * p + j)) sp ((f 10) p).toNat (kk.toNat + 1) < (f 10) p) ∧ ret = some (.int (iI (stF (fun j => (f 12) (65 * p + j)) sp ((f 10) p).toNat (kk.toNat + 1)))) ∧ Cst k cx v f wc' ∧ Iv v f) (fun E w => ∃ wc', w = wc' ++ wr ∧ Cst k cx v f wc' ∧ (E = xIO ∧ ¬ (0 ≤ p ∧ p < (v 9)) ∨ E = xIA ∧ ((0 ≤ p ∧ p < (v 9)) ∧ ¬ ((1 ≤ sp ∧ sp ≤ 500) ∧ 0 ≤ kk)) ∨ E = xIS ∧ ((0 ≤ p ∧ p < (v 9)) ∧ ((1 ≤ sp ∧ sp ≤ 500) ∧ 0 ≤ kk) ∧ ¬ stF (fun j => (f 12) (65 * p + j)) sp ((f 10) p).toNat (kk.toNat + 1) < (f 10) p))) 4 24 := by
  obtain ⟨cf, cp, cn, ce, cg, cu, ct, cr, pr, pa, pq, pf, na, nq, rq, ga, g1, g2, gA, gB, rs, rfl, hpr, hpc, hpf, hno, hrq, hrg⟩ := id hW
  obtain ⟨iA, iB, iC, iD, iE, iF⟩ := id hI
  have hrs : ∀ q ∈ rs, q ∈ (rgW k ga g1 g2 (f 18) gA gB (v 17).toNat ++ (rs ++ wr)) := fun q h => List.mem_append_right _ (List.mem_append_left _ h)
  refine wd_conv (wd_of_th (ws1 := cFx k cx cf cp cn ce cg cu ct cr (v 9) (v 13) (v 17) (v 23) (v 21) (v 22) (v 1) (pA (f 4) (v 3)) (pR (v 2) (f 5) (v 3)) (v 3) pr (f 24) (f 25) (gQ (v 9) pa) (gQ (v 13) na) rq (gQ (v 17) ga) ++ (rgW k ga g1 g2 (f 18) gA gB (v 17).toNat ++ (rs ++ wr))) (c_C_steady hC cx cf cp cn ce cg cu ct (v 9) (v 13) (v 17) (v 23) (v 21) (v 22) pa pq (f 10) (blF (f 10) pf) (f 11) pf rs (rgW k ga g1 g2 (f 18) gA gB (v 17).toNat ++ (rs ++ wr)) hpc hrs iB.1 p sp kk hp hsp hkk) (fun H h => wl_i2 (i := 2) (j := 3) h rfl rfl)) (by rw [as3]) (fun ret w h => ?_) (fun E w h => ?_)
  · obtain ⟨h, rfl⟩ := h
    refine ⟨((cFx k cx cf cp cn ce cg cu ct cr (v 9) (v 13) (v 17) (v 23) (v 21) (v 22) (v 1) (pA (f 4) (v 3)) (pR (v 2) (f 5) (v 3)) (v 3) pr (f 24) (f 25) (gQ (v 9) pa) (gQ (v 13) na) rq (gQ (v 17) ga) ++ (rgW k ga g1 g2 (f 18) gA gB (v 17).toNat ++ rs)) ++ wr), by rw [as3], _, rfl, ?_⟩
    obtain ⟨h1, h2, h3, h4, rfl⟩ := h
    have e := stF_congr (r := pf p) (r' := fun j => f 12 (65 * p + j)) (span := sp) (L := (f 10 p).toNat) (fun j g1 g2 => hpf p h1.1 h1.2 j g1 (by have := (iB.2.1 p h1.1 h1.2).1; omega)) (kk.toNat + 1)
    rw [e] at h4 ⊢
    exact ⟨⟨h1, ⟨h2, h3⟩, h4⟩, rfl, hW, hI⟩
  · obtain ⟨h, rfl⟩ := h
    refine ⟨((cFx k cx cf cp cn ce cg cu ct cr (v 9) (v 13) (v 17) (v 23) (v 21) (v 22) (v 1) (pA (f 4) (v 3)) (pR (v 2) (f 5) (v 3)) (v 3) pr (f 24) (f 25) (gQ (v 9) pa) (gQ (v 13) na) rq (gQ (v 17) ga) ++ (rgW k ga g1 g2 (f 18) gA gB (v 17).toNat ++ rs)) ++ wr), by rw [as3], _, rfl, hW, ?_⟩
    rcases h with h | h | ⟨h0, h1, h2, h3, h4⟩
    · exact Or.inl h
    · exact Or.inr (Or.inl h)
    · have e := stF_congr (r := pf p) (r' := fun j => f 12 (65 * p + j)) (span := sp) (L := (f 10 p).toNat) (fun j g1 g2 => hpf p h1.1 h1.2 j g1 (by have := (iB.2.1 p h1.1 h1.2).1; omega)) (kk.toNat + 1)
      rw [e] at h4
      exact Or.inr (Or.inr ⟨h0, h1, ⟨h2, h3⟩, h4⟩)
set_option maxHeartbeats 4000000 in
theorem o_volume {l : Launch} {s0 : State} {D : va_G} {k : Nat → ClassId} (hC : Cx l s0 D k) {cx : Nat} {v : Nat → Int} {f : Nat → Int → Int} {wc : va_W} (hI : Iv v f) (hW : Cst k cx v f wc) (wr : va_W) (p up : Int) (hp : In32 p) (hup : In32 up) : WdM l s0 D y_C_volume { frames := 7, cells := 1, slots := 6, locals := 112 } [.ref cx, .int (iI (p)), .int (iI (up))] (wc ++ wr) (fun ret w => ∃ wc', w = wc' ++ wr ∧ (0 ≤ p ∧ p < (v 9)) ∧ ret = some (.long (jJ (if up = 0 then (itF (fun a b => a + b) (sqF (fun j => (f 12) (65 * p + j)) up) 0 1 ((f 10) p).toNat * 314159).tdiv 100000 else (itF (fun a b => a + b) (sqF (fun j => (f 12) (65 * p + j)) up) 0 1 ((f 10) p).toNat * 314160).tdiv 100000 + 1))) ∧ Cst k cx v f wc' ∧ Iv v f) (fun E w => ∃ wc', w = wc' ++ wr ∧ Cst k cx v f wc' ∧ (E = xIO ∧ ¬ (0 ≤ p ∧ p < (v 9)))) 1 6 := by
  obtain ⟨cf, cp, cn, ce, cg, cu, ct, cr, pr, pa, pq, pf, na, nq, rq, ga, g1, g2, gA, gB, rs, rfl, hpr, hpc, hpf, hno, hrq, hrg⟩ := id hW
  obtain ⟨iA, iB, iC, iD, iE, iF⟩ := id hI
  have hrs : ∀ q ∈ rs, q ∈ (rgW k ga g1 g2 (f 18) gA gB (v 17).toNat ++ (rs ++ wr)) := fun q h => List.mem_append_right _ (List.mem_append_left _ h)
  refine wd_conv (wd_of_th (ws1 := cFx k cx cf cp cn ce cg cu ct cr (v 9) (v 13) (v 17) (v 23) (v 21) (v 22) (v 1) (pA (f 4) (v 3)) (pR (v 2) (f 5) (v 3)) (v 3) pr (f 24) (f 25) (gQ (v 9) pa) (gQ (v 13) na) rq (gQ (v 17) ga) ++ (rgW k ga g1 g2 (f 18) gA gB (v 17).toNat ++ (rs ++ wr))) (c_C_volume hC cx cf cp cn ce cg cu ct (v 9) (v 13) (v 17) (v 23) (v 21) (v 22) pa pq (f 10) (blF (f 10) pf) (f 11) pf rs (rgW k ga g1 g2 (f 18) gA gB (v 17).toNat ++ (rs ++ wr)) hpc hrs iB.1 p up hp hup) (fun H h => wl_i2 (i := 2) (j := 3) h rfl rfl)) (by rw [as3]) (fun ret w h => ?_) (fun E w h => ?_)
  · obtain ⟨h, rfl⟩ := h
    refine ⟨((cFx k cx cf cp cn ce cg cu ct cr (v 9) (v 13) (v 17) (v 23) (v 21) (v 22) (v 1) (pA (f 4) (v 3)) (pR (v 2) (f 5) (v 3)) (v 3) pr (f 24) (f 25) (gQ (v 9) pa) (gQ (v 13) na) rq (gQ (v 17) ga) ++ (rgW k ga g1 g2 (f 18) gA gB (v 17).toNat ++ rs)) ++ wr), by rw [as3], _, rfl, ?_⟩
    obtain ⟨h1, h2, rfl⟩ := h
    have e : itF (fun a b => a + b) (sqF (pf p) up) 0 1 (f 10 p).toNat = itF (fun a b => a + b) (sqF (fun j => f 12 (65 * p + j)) up) 0 1 (f 10 p).toNat := itF_congr _ (fun j g1 g2 => by unfold sqF; rw [hpf p h1 h2 j (by omega) (by omega), hpf p h1 h2 (j - 1) (by omega) (by omega)])
    exact ⟨⟨h1, h2⟩, by rw [e], hW, hI⟩
  · obtain ⟨h, rfl⟩ := h
    refine ⟨((cFx k cx cf cp cn ce cg cu ct cr (v 9) (v 13) (v 17) (v 23) (v 21) (v 22) (v 1) (pA (f 4) (v 3)) (pR (v 2) (f 5) (v 3)) (v 3) pr (f 24) (f 25) (gQ (v 9) pa) (gQ (v 13) na) rq (gQ (v 17) ga) ++ (rgW k ga g1 g2 (f 18) gA gB (v 17).toNat ++ rs)) ++ wr), by rw [as3], _, rfl, hW, ?_⟩
    exact h
set_option maxHeartbeats 4000000 in
theorem o_hollow {l : Launch} {s0 : State} {D : va_G} {k : Nat → ClassId} (hC : Cx l s0 D k) {cx : Nat} {v : Nat → Int} {f : Nat → Int → Int} {wc : va_W} (hI : Iv v f) (hW : Cst k cx v f wc) (wr : va_W) (p wl9 br : Int) (hp : In32 p) (hwl : In32 wl9) (hbr9 : In32 br) : WdM l s0 D y_C_hollow { frames := 7, cells := 3, slots := 18, locals := 112 } [.ref cx, .int (iI (p)), .int (iI (wl9)), .int (iI (br))] (wc ++ wr) (fun ret w => ∃ wc', w = wc' ++ wr ∧ ((0 ≤ p ∧ p < (v 9)) ∧ ((1 ≤ wl9 ∧ wl9 ≤ 100) ∧ (0 ≤ br ∧ br ≤ 100))) ∧ ret = some (.int (iI (hoF (fun j => (f 12) (65 * p + j)) (wl9 + br) (((f 10) p).toNat + 1)))) ∧ Cst k cx v f wc' ∧ Iv v f) (fun E w => ∃ wc', w = wc' ++ wr ∧ Cst k cx v f wc' ∧ (E = xIO ∧ ¬ (0 ≤ p ∧ p < (v 9)) ∨ E = xIA ∧ ((0 ≤ p ∧ p < (v 9)) ∧ ¬ ((1 ≤ wl9 ∧ wl9 ≤ 100) ∧ (0 ≤ br ∧ br ≤ 100))))) 3 18 := by
  obtain ⟨cf, cp, cn, ce, cg, cu, ct, cr, pr, pa, pq, pf, na, nq, rq, ga, g1, g2, gA, gB, rs, rfl, hpr, hpc, hpf, hno, hrq, hrg⟩ := id hW
  obtain ⟨iA, iB, iC, iD, iE, iF⟩ := id hI
  have hrs : ∀ q ∈ rs, q ∈ (rgW k ga g1 g2 (f 18) gA gB (v 17).toNat ++ (rs ++ wr)) := fun q h => List.mem_append_right _ (List.mem_append_left _ h)
  refine wd_conv (wd_of_th (ws1 := cFx k cx cf cp cn ce cg cu ct cr (v 9) (v 13) (v 17) (v 23) (v 21) (v 22) (v 1) (pA (f 4) (v 3)) (pR (v 2) (f 5) (v 3)) (v 3) pr (f 24) (f 25) (gQ (v 9) pa) (gQ (v 13) na) rq (gQ (v 17) ga) ++ (rgW k ga g1 g2 (f 18) gA gB (v 17).toNat ++ (rs ++ wr))) (c_C_hollow hC cx cf cp cn ce cg cu ct (v 9) (v 13) (v 17) (v 23) (v 21) (v 22) pa pq (f 10) (blF (f 10) pf) (f 11) pf rs (rgW k ga g1 g2 (f 18) gA gB (v 17).toNat ++ (rs ++ wr)) hpc hrs iB.1 p wl9 br hp hwl hbr9) (fun H h => wl_i2 (i := 2) (j := 3) h rfl rfl)) (by rw [as3]) (fun ret w h => ?_) (fun E w h => ?_)
  · obtain ⟨h, rfl⟩ := h
    refine ⟨((cFx k cx cf cp cn ce cg cu ct cr (v 9) (v 13) (v 17) (v 23) (v 21) (v 22) (v 1) (pA (f 4) (v 3)) (pR (v 2) (f 5) (v 3)) (v 3) pr (f 24) (f 25) (gQ (v 9) pa) (gQ (v 13) na) rq (gQ (v 17) ga) ++ (rgW k ga g1 g2 (f 18) gA gB (v 17).toNat ++ rs)) ++ wr), by rw [as3], _, rfl, ?_⟩
    obtain ⟨h1, h2, h3, rfl⟩ := h
    have e := hoF_congr (r := pf p) (r' := fun j => f 12 (65 * p + j)) (t := wl9 + br) ((f 10 p).toNat + 1) (fun j g1 g2 => hpf p h1.1 h1.2 j g1 (by have := (iB.2.1 p h1.1 h1.2).1; omega))
    exact ⟨⟨h1, h2, h3⟩, by rw [e], hW, hI⟩
  · obtain ⟨h, rfl⟩ := h
    refine ⟨((cFx k cx cf cp cn ce cg cu ct cr (v 9) (v 13) (v 17) (v 23) (v 21) (v 22) (v 1) (pA (f 4) (v 3)) (pR (v 2) (f 5) (v 3)) (v 3) pr (f 24) (f 25) (gQ (v 9) pa) (gQ (v 13) na) rq (gQ (v 17) ga) ++ (rgW k ga g1 g2 (f 18) gA gB (v 17).toNat ++ rs)) ++ wr), by rw [as3], _, rfl, hW, ?_⟩
    exact h
set_option maxHeartbeats 4000000 in
theorem o_copy {l : Launch} {s0 : State} {D : va_G} {k : Nat → ClassId} (hC : Cx l s0 D k) {cx : Nat} {v : Nat → Int} {f : Nat → Int → Int} {wc : va_W} (hI : Iv v f) (hW : Cst k cx v f wc) (wr : va_W) (p p2 : Int) (hp : In32 p) (hp2 : In32 p2) : WdM l s0 D y_C_copy { frames := 7, cells := 2, slots := 12, locals := 112 } [.ref cx, .int (iI (p)), .int (iI (p2))] (wc ++ wr) (fun ret w => ∃ wc', w = wc' ++ wr ∧ (0 ≤ p ∧ p < (v 9) ∧ 0 ≤ p2 ∧ p2 < (v 9)) ∧ ret = some (.int (iI (itF max (fun j => (((f 12) (65 * p + j) - (f 12) (65 * p2 + j)).natAbs : Int)) 0 0 (min ((f 10) p).toNat ((f 10) p2).toNat + 1)))) ∧ Cst k cx v f wc' ∧ Iv v f) (fun E w => ∃ wc', w = wc' ++ wr ∧ Cst k cx v f wc' ∧ (E = xIO ∧ ¬ (0 ≤ p ∧ p < (v 9) ∧ 0 ≤ p2 ∧ p2 < (v 9)))) 2 12 := by
  obtain ⟨cf, cp, cn, ce, cg, cu, ct, cr, pr, pa, pq, pf, na, nq, rq, ga, g1, g2, gA, gB, rs, rfl, hpr, hpc, hpf, hno, hrq, hrg⟩ := id hW
  obtain ⟨iA, iB, iC, iD, iE, iF⟩ := id hI
  have hrs : ∀ q ∈ rs, q ∈ (rgW k ga g1 g2 (f 18) gA gB (v 17).toNat ++ (rs ++ wr)) := fun q h => List.mem_append_right _ (List.mem_append_left _ h)
  refine wd_conv (wd_of_th (ws1 := cFx k cx cf cp cn ce cg cu ct cr (v 9) (v 13) (v 17) (v 23) (v 21) (v 22) (v 1) (pA (f 4) (v 3)) (pR (v 2) (f 5) (v 3)) (v 3) pr (f 24) (f 25) (gQ (v 9) pa) (gQ (v 13) na) rq (gQ (v 17) ga) ++ (rgW k ga g1 g2 (f 18) gA gB (v 17).toNat ++ (rs ++ wr))) (c_C_copy hC cx cf cp cn ce cg cu ct (v 9) (v 13) (v 17) (v 23) (v 21) (v 22) pa pq (f 10) (blF (f 10) pf) (f 11) pf rs (rgW k ga g1 g2 (f 18) gA gB (v 17).toNat ++ (rs ++ wr)) hpc hrs iB.1 p p2 hp hp2) (fun H h => wl_i2 (i := 2) (j := 3) h rfl rfl)) (by rw [as3]) (fun ret w h => ?_) (fun E w h => ?_)
  · obtain ⟨h, rfl⟩ := h
    refine ⟨((cFx k cx cf cp cn ce cg cu ct cr (v 9) (v 13) (v 17) (v 23) (v 21) (v 22) (v 1) (pA (f 4) (v 3)) (pR (v 2) (f 5) (v 3)) (v 3) pr (f 24) (f 25) (gQ (v 9) pa) (gQ (v 13) na) rq (gQ (v 17) ga) ++ (rgW k ga g1 g2 (f 18) gA gB (v 17).toNat ++ rs)) ++ wr), by rw [as3], _, rfl, ?_⟩
    obtain ⟨h1, h2, h3, h4, rfl⟩ := h
    refine ⟨⟨h1, h2, h3, h4⟩, ?_, hW, hI⟩
    exact congrArg (fun z => some (Value.int (iI z))) (itF_congr _ (fun j g1 g2 => by show (((pf p j - pf p2 j).natAbs : Nat) : Int) = _; rw [hpf p h1 h2 j g1 (by have := (iB.2.1 p h1 h2).1; omega), hpf p2 h3 h4 j g1 (by have := (iB.2.1 p2 h3 h4).1; omega)]))
  · obtain ⟨h, rfl⟩ := h
    refine ⟨((cFx k cx cf cp cn ce cg cu ct cr (v 9) (v 13) (v 17) (v 23) (v 21) (v 22) (v 1) (pA (f 4) (v 3)) (pR (v 2) (f 5) (v 3)) (v 3) pr (f 24) (f 25) (gQ (v 9) pa) (gQ (v 13) na) rq (gQ (v 17) ga) ++ (rgW k ga g1 g2 (f 18) gA gB (v 17).toNat ++ rs)) ++ wr), by rw [as3], _, rfl, hW, ?_⟩
    exact h
set_option maxHeartbeats 4000000 in
theorem o_mitre {l : Launch} {s0 : State} {D : va_G} {k : Nat → ClassId} (hC : Cx l s0 D k) {cx : Nat} {v : Nat → Int} {f : Nat → Int → Int} {wc : va_W} (hI : Iv v f) (hW : Cst k cx v f wc) (wr : va_W) (p x pt : Int) (hp : In32 p) (hx9 : In32 x) (hpt : In32 pt) : WdM l s0 D y_C_mitre { frames := 7, cells := 3, slots := 18, locals := 112 } [.ref cx, .int (iI (p)), .int (iI (x)), .int (iI (pt))] (wc ++ wr) (fun ret w => ∃ wc', w = wc' ++ wr ∧ (0 ≤ p ∧ p < (v 17) ∧ 0 ≤ x ∧ x < (f 18) p ∧ (pt = 0 ∨ pt = 1)) ∧ ret = some (.long (jJ (frP ((f 19) (16 * p + x)) (2 * (f 20) (16 * p + x)) pt))) ∧ Cst k cx v f wc' ∧ Iv v f) (fun E w => ∃ wc', w = wc' ++ wr ∧ Cst k cx v f wc' ∧ (E = xIO ∧ ¬ (0 ≤ p ∧ p < (v 17) ∧ 0 ≤ x ∧ x < (f 18) p ∧ (pt = 0 ∨ pt = 1)))) 3 18 := by
  obtain ⟨cf, cp, cn, ce, cg, cu, ct, cr, pr, pa, pq, pf, na, nq, rq, ga, g1, g2, gA, gB, rs, rfl, hpr, hpc, hpf, hno, hrq, hrg⟩ := id hW
  obtain ⟨iA, iB, iC, iD, iE, iF⟩ := id hI
  have hrs : ∀ q ∈ rs, q ∈ (rgW k ga g1 g2 (f 18) gA gB (v 17).toNat ++ (rs ++ wr)) := fun q h => List.mem_append_right _ (List.mem_append_left _ h)
  refine wd_conv (wd_of_th (ws1 := cFx k cx cf cp cn ce cg cu ct cr (v 9) (v 13) (v 17) (v 23) (v 21) (v 22) (v 1) (pA (f 4) (v 3)) (pR (v 2) (f 5) (v 3)) (v 3) pr (f 24) (f 25) (gQ (v 9) pa) (gQ (v 13) na) rq (gQ (v 17) ga) ++ (rgW k ga g1 g2 (f 18) gA gB (v 17).toNat ++ (rs ++ wr))) (c_C_mitre hC cx cf cp cn ce cg cu ct (v 9) (v 13) (v 17) (v 23) (v 21) (v 22) ga g1 g2 (f 18) gA gB (rgW k ga g1 g2 (f 18) gA gB (v 17).toNat ++ (rs ++ wr)) (rg_ok iD hrg (rs ++ wr)) iD.1 p x pt hp hx9 hpt) (fun H h => wl_i2 (i := 2) (j := 6) h rfl rfl)) (by rw [as3]) (fun ret w h => ?_) (fun E w h => ?_)
  · obtain ⟨h, rfl⟩ := h
    refine ⟨((cFx k cx cf cp cn ce cg cu ct cr (v 9) (v 13) (v 17) (v 23) (v 21) (v 22) (v 1) (pA (f 4) (v 3)) (pR (v 2) (f 5) (v 3)) (v 3) pr (f 24) (f 25) (gQ (v 9) pa) (gQ (v 13) na) rq (gQ (v 17) ga) ++ (rgW k ga g1 g2 (f 18) gA gB (v 17).toNat ++ rs)) ++ wr), by rw [as3], _, rfl, ?_⟩
    obtain ⟨h1, h2, h3, h4, h5, rfl⟩ := h
    exact ⟨⟨h1, h2, h3, h4, h5⟩, by rw [(hrg p h1 h2 x h3 h4).1, (hrg p h1 h2 x h3 h4).2], hW, hI⟩
  · obtain ⟨h, rfl⟩ := h
    refine ⟨((cFx k cx cf cp cn ce cg cu ct cr (v 9) (v 13) (v 17) (v 23) (v 21) (v 22) (v 1) (pA (f 4) (v 3)) (pR (v 2) (f 5) (v 3)) (v 3) pr (f 24) (f 25) (gQ (v 9) pa) (gQ (v 13) na) rq (gQ (v 17) ga) ++ (rgW k ga g1 g2 (f 18) gA gB (v 17).toNat ++ rs)) ++ wr), by rw [as3], _, rfl, hW, ?_⟩
    exact h
set_option maxHeartbeats 4000000 in
theorem o_gap {l : Launch} {s0 : State} {D : va_G} {k : Nat → ClassId} (hC : Cx l s0 D k) {cx : Nat} {v : Nat → Int} {f : Nat → Int → Int} {wc : va_W} (hI : Iv v f) (hW : Cst k cx v f wc) (wr : va_W) (p pt : Int) (hp : In32 p) (hpt : In32 pt) : WdM l s0 D y_C_gap { frames := 7, cells := 2, slots := 12, locals := 112 } [.ref cx, .int (iI (p)), .int (iI (pt))] (wc ++ wr) (fun ret w => ∃ wc', w = wc' ++ wr ∧ (0 ≤ p ∧ p < (v 17) ∧ (pt = 0 ∨ pt = 1)) ∧ ret = some (.long (jJ (frP (9979200 - smF (fun j => (f 19) (16 * p + j)) (fun j => (f 20) (16 * p + j)) ((f 18) p).toNat) 27720 pt))) ∧ Cst k cx v f wc' ∧ Iv v f) (fun E w => ∃ wc', w = wc' ++ wr ∧ Cst k cx v f wc' ∧ (E = xIO ∧ ¬ (0 ≤ p ∧ p < (v 17) ∧ (pt = 0 ∨ pt = 1)))) 2 12 := by
  obtain ⟨cf, cp, cn, ce, cg, cu, ct, cr, pr, pa, pq, pf, na, nq, rq, ga, g1, g2, gA, gB, rs, rfl, hpr, hpc, hpf, hno, hrq, hrg⟩ := id hW
  obtain ⟨iA, iB, iC, iD, iE, iF⟩ := id hI
  have hrs : ∀ q ∈ rs, q ∈ (rgW k ga g1 g2 (f 18) gA gB (v 17).toNat ++ (rs ++ wr)) := fun q h => List.mem_append_right _ (List.mem_append_left _ h)
  refine wd_conv (wd_of_th (ws1 := cFx k cx cf cp cn ce cg cu ct cr (v 9) (v 13) (v 17) (v 23) (v 21) (v 22) (v 1) (pA (f 4) (v 3)) (pR (v 2) (f 5) (v 3)) (v 3) pr (f 24) (f 25) (gQ (v 9) pa) (gQ (v 13) na) rq (gQ (v 17) ga) ++ (rgW k ga g1 g2 (f 18) gA gB (v 17).toNat ++ (rs ++ wr))) (c_C_gap hC cx cf cp cn ce cg cu ct (v 9) (v 13) (v 17) (v 23) (v 21) (v 22) ga g1 g2 (f 18) gA gB (rgW k ga g1 g2 (f 18) gA gB (v 17).toNat ++ (rs ++ wr)) (rg_ok iD hrg (rs ++ wr)) iD.1 p pt hp hpt) (fun H h => wl_i2 (i := 2) (j := 6) h rfl rfl)) (by rw [as3]) (fun ret w h => ?_) (fun E w h => ?_)
  · obtain ⟨h, rfl⟩ := h
    refine ⟨((cFx k cx cf cp cn ce cg cu ct cr (v 9) (v 13) (v 17) (v 23) (v 21) (v 22) (v 1) (pA (f 4) (v 3)) (pR (v 2) (f 5) (v 3)) (v 3) pr (f 24) (f 25) (gQ (v 9) pa) (gQ (v 13) na) rq (gQ (v 17) ga) ++ (rgW k ga g1 g2 (f 18) gA gB (v 17).toNat ++ rs)) ++ wr), by rw [as3], _, rfl, ?_⟩
    obtain ⟨h1, h2, h3, rfl⟩ := h
    have e : smF (gA p) (gB p) (f 18 p).toNat = smF (fun j => f 19 (16 * p + j)) (fun j => f 20 (16 * p + j)) (f 18 p).toNat := smF_congr _ (fun j g1 g2 => hrg p h1 h2 j g1 (by have := (iD.2.1 p h1 h2).1; omega))
    exact ⟨⟨h1, h2, h3⟩, by rw [e], hW, hI⟩
  · obtain ⟨h, rfl⟩ := h
    refine ⟨((cFx k cx cf cp cn ce cg cu ct cr (v 9) (v 13) (v 17) (v 23) (v 21) (v 22) (v 1) (pA (f 4) (v 3)) (pR (v 2) (f 5) (v 3)) (v 3) pr (f 24) (f 25) (gQ (v 9) pa) (gQ (v 13) na) rq (gQ (v 17) ga) ++ (rgW k ga g1 g2 (f 18) gA gB (v 17).toNat ++ rs)) ++ wr), by rw [as3], _, rfl, hW, ?_⟩
    exact h
set_option maxHeartbeats 4000000 in
theorem o_closes {l : Launch} {s0 : State} {D : va_G} {k : Nat → ClassId} (hC : Cx l s0 D k) {cx : Nat} {v : Nat → Int} {f : Nat → Int → Int} {wc : va_W} (hI : Iv v f) (hW : Cst k cx v f wc) (wr : va_W) (p : Int) (hp : In32 p) : WdM l s0 D y_C_closes { frames := 7, cells := 1, slots := 6, locals := 112 } [.ref cx, .int (iI (p))] (wc ++ wr) (fun ret w => ∃ wc', w = wc' ++ wr ∧ (0 ≤ p ∧ p < (v 17)) ∧ ret = some (.int (iI (if 9979200 - smF (fun j => (f 19) (16 * p + j)) (fun j => (f 20) (16 * p + j)) ((f 18) p).toNat = 0 then 1 else 0))) ∧ Cst k cx v f wc' ∧ Iv v f) (fun E w => ∃ wc', w = wc' ++ wr ∧ Cst k cx v f wc' ∧ (E = xIO ∧ ¬ (0 ≤ p ∧ p < (v 17)))) 1 6 := by
  obtain ⟨cf, cp, cn, ce, cg, cu, ct, cr, pr, pa, pq, pf, na, nq, rq, ga, g1, g2, gA, gB, rs, rfl, hpr, hpc, hpf, hno, hrq, hrg⟩ := id hW
  obtain ⟨iA, iB, iC, iD, iE, iF⟩ := id hI
  have hrs : ∀ q ∈ rs, q ∈ (rgW k ga g1 g2 (f 18) gA gB (v 17).toNat ++ (rs ++ wr)) := fun q h => List.mem_append_right _ (List.mem_append_left _ h)
  refine wd_conv (wd_of_th (ws1 := cFx k cx cf cp cn ce cg cu ct cr (v 9) (v 13) (v 17) (v 23) (v 21) (v 22) (v 1) (pA (f 4) (v 3)) (pR (v 2) (f 5) (v 3)) (v 3) pr (f 24) (f 25) (gQ (v 9) pa) (gQ (v 13) na) rq (gQ (v 17) ga) ++ (rgW k ga g1 g2 (f 18) gA gB (v 17).toNat ++ (rs ++ wr))) (c_C_closes hC cx cf cp cn ce cg cu ct (v 9) (v 13) (v 17) (v 23) (v 21) (v 22) ga g1 g2 (f 18) gA gB (rgW k ga g1 g2 (f 18) gA gB (v 17).toNat ++ (rs ++ wr)) (rg_ok iD hrg (rs ++ wr)) iD.1 p hp) (fun H h => wl_i2 (i := 2) (j := 6) h rfl rfl)) (by rw [as3]) (fun ret w h => ?_) (fun E w h => ?_)
  · obtain ⟨h, rfl⟩ := h
    refine ⟨((cFx k cx cf cp cn ce cg cu ct cr (v 9) (v 13) (v 17) (v 23) (v 21) (v 22) (v 1) (pA (f 4) (v 3)) (pR (v 2) (f 5) (v 3)) (v 3) pr (f 24) (f 25) (gQ (v 9) pa) (gQ (v 13) na) rq (gQ (v 17) ga) ++ (rgW k ga g1 g2 (f 18) gA gB (v 17).toNat ++ rs)) ++ wr), by rw [as3], _, rfl, ?_⟩
    obtain ⟨h1, h2, rfl⟩ := h
    have e : smF (gA p) (gB p) (f 18 p).toNat = smF (fun j => f 19 (16 * p + j)) (fun j => f 20 (16 * p + j)) (f 18 p).toNat := smF_congr _ (fun j g1 g2 => hrg p h1 h2 j g1 (by have := (iD.2.1 p h1 h2).1; omega))
    exact ⟨⟨h1, h2⟩, by rw [e], hW, hI⟩
  · obtain ⟨h, rfl⟩ := h
    refine ⟨((cFx k cx cf cp cn ce cg cu ct cr (v 9) (v 13) (v 17) (v 23) (v 21) (v 22) (v 1) (pA (f 4) (v 3)) (pR (v 2) (f 5) (v 3)) (v 3) pr (f 24) (f 25) (gQ (v 9) pa) (gQ (v 13) na) rq (gQ (v 17) ga) ++ (rgW k ga g1 g2 (f 18) gA gB (v 17).toNat ++ rs)) ++ wr), by rw [as3], _, rfl, hW, ?_⟩
    exact h
set_option maxHeartbeats 4000000 in
theorem o_flute {l : Launch} {s0 : State} {D : va_G} {k : Nat → ClassId} (hC : Cx l s0 D k) {cx : Nat} {v : Nat → Int} {f : Nat → Int → Int} {wc : va_W} (hI : Iv v f) (hW : Cst k cx v f wc) (wr : va_W) (n9 kk pt : Int) (hn9 : In32 n9) (hkk : In32 kk) (hpt : In32 pt) : WdM l s0 D y_C_flute { frames := 7, cells := 3, slots := 18, locals := 112 } [.ref cx, .int (iI (n9)), .int (iI (kk)), .int (iI (pt))] (wc ++ wr) (fun ret w => ∃ wc', w = wc' ++ wr ∧ ((pt = 0 ∨ pt = 1) ∧ ((1 ≤ n9 ∧ n9 ≤ 1000) ∧ 0 ≤ kk ∧ kk < n9)) ∧ ret = some (.long (jJ (frP (kk * 360) n9 pt))) ∧ Cst k cx v f wc' ∧ Iv v f) (fun E w => ∃ wc', w = wc' ++ wr ∧ Cst k cx v f wc' ∧ (E = xIO ∧ ¬ (pt = 0 ∨ pt = 1) ∨ E = xIA ∧ ((pt = 0 ∨ pt = 1) ∧ ¬ ((1 ≤ n9 ∧ n9 ≤ 1000) ∧ 0 ≤ kk ∧ kk < n9)))) 3 18 := by
  obtain ⟨cf, cp, cn, ce, cg, cu, ct, cr, pr, pa, pq, pf, na, nq, rq, ga, g1, g2, gA, gB, rs, rfl, hpr, hpc, hpf, hno, hrq, hrg⟩ := id hW
  obtain ⟨iA, iB, iC, iD, iE, iF⟩ := id hI
  have hrs : ∀ q ∈ rs, q ∈ (rgW k ga g1 g2 (f 18) gA gB (v 17).toNat ++ (rs ++ wr)) := fun q h => List.mem_append_right _ (List.mem_append_left _ h)
  refine wd_conv (wd_of_th (ws1 := cFx k cx cf cp cn ce cg cu ct cr (v 9) (v 13) (v 17) (v 23) (v 21) (v 22) (v 1) (pA (f 4) (v 3)) (pR (v 2) (f 5) (v 3)) (v 3) pr (f 24) (f 25) (gQ (v 9) pa) (gQ (v 13) na) rq (gQ (v 17) ga) ++ (rgW k ga g1 g2 (f 18) gA gB (v 17).toNat ++ (rs ++ wr))) (c_C_flute hC cx n9 kk pt hn9 hkk hpt) (fun H h => trivial)) (by rw [as3]) (fun ret w h => ?_) (fun E w h => ?_)
  · obtain ⟨h, rfl⟩ := h
    refine ⟨((cFx k cx cf cp cn ce cg cu ct cr (v 9) (v 13) (v 17) (v 23) (v 21) (v 22) (v 1) (pA (f 4) (v 3)) (pR (v 2) (f 5) (v 3)) (v 3) pr (f 24) (f 25) (gQ (v 9) pa) (gQ (v 13) na) rq (gQ (v 17) ga) ++ (rgW k ga g1 g2 (f 18) gA gB (v 17).toNat ++ rs)) ++ wr), by rw [as3], _, rfl, ?_⟩
    obtain ⟨h1, h2, h3, h4, rfl⟩ := h
    exact ⟨⟨h1, h2, h3, h4⟩, rfl, hW, hI⟩
  · obtain ⟨h, rfl⟩ := h
    refine ⟨((cFx k cx cf cp cn ce cg cu ct cr (v 9) (v 13) (v 17) (v 23) (v 21) (v 22) (v 1) (pA (f 4) (v 3)) (pR (v 2) (f 5) (v 3)) (v 3) pr (f 24) (f 25) (gQ (v 9) pa) (gQ (v 13) na) rq (gQ (v 17) ga) ++ (rgW k ga g1 g2 (f 18) gA gB (v 17).toNat ++ rs)) ++ wr), by rw [as3], _, rfl, hW, ?_⟩
    exact h
set_option maxHeartbeats 4000000 in
theorem o_threadAt {l : Launch} {s0 : State} {D : va_G} {k : Nat → ClassId} (hC : Cx l s0 D k) {cx : Nat} {v : Nat → Int} {f : Nat → Int → Int} {wc : va_W} (hI : Iv v f) (hW : Cst k cx v f wc) (wr : va_W) (kk pt : Int) (hkk : In32 kk) (hpt : In32 pt) : WdM l s0 D y_C_threadAt { frames := 7, cells := 3, slots := 18, locals := 112 } [.ref cx, .int (iI (kk)), .int (iI (pt))] (wc ++ wr) (fun ret w => ∃ wc', w = wc' ++ wr ∧ ((pt = 0 ∨ pt = 1) ∧ (0 ≤ kk ∧ kk ≤ 100000) ∧ ¬ (v 22) = 0) ∧ ret = some (.long (jJ (frP (kk * (v 21)) (v 22) pt))) ∧ Cst k cx v f wc' ∧ Iv v f) (fun E w => ∃ wc', w = wc' ++ wr ∧ Cst k cx v f wc' ∧ (E = xIO ∧ ¬ (pt = 0 ∨ pt = 1) ∨ E = xIA ∧ ((pt = 0 ∨ pt = 1) ∧ ¬ (0 ≤ kk ∧ kk ≤ 100000)) ∨ E = xIS ∧ ((pt = 0 ∨ pt = 1) ∧ (0 ≤ kk ∧ kk ≤ 100000) ∧ (v 22) = 0))) 3 18 := by
  obtain ⟨cf, cp, cn, ce, cg, cu, ct, cr, pr, pa, pq, pf, na, nq, rq, ga, g1, g2, gA, gB, rs, rfl, hpr, hpc, hpf, hno, hrq, hrg⟩ := id hW
  obtain ⟨iA, iB, iC, iD, iE, iF⟩ := id hI
  have hrs : ∀ q ∈ rs, q ∈ (rgW k ga g1 g2 (f 18) gA gB (v 17).toNat ++ (rs ++ wr)) := fun q h => List.mem_append_right _ (List.mem_append_left _ h)
  refine wd_conv (wd_of_th (ws1 := cFx k cx cf cp cn ce cg cu ct cr (v 9) (v 13) (v 17) (v 23) (v 21) (v 22) (v 1) (pA (f 4) (v 3)) (pR (v 2) (f 5) (v 3)) (v 3) pr (f 24) (f 25) (gQ (v 9) pa) (gQ (v 13) na) rq (gQ (v 17) ga) ++ (rgW k ga g1 g2 (f 18) gA gB (v 17).toNat ++ (rs ++ wr))) (c_C_threadAt hC cx cf cp cn ce cg cu ct (v 9) (v 13) (v 17) (v 23) (v 21) (v 22) iE kk pt hkk hpt) (fun H h => wl_i1 (i := 2) h rfl)) (by rw [as3]) (fun ret w h => ?_) (fun E w h => ?_)
  · obtain ⟨h, rfl⟩ := h
    refine ⟨((cFx k cx cf cp cn ce cg cu ct cr (v 9) (v 13) (v 17) (v 23) (v 21) (v 22) (v 1) (pA (f 4) (v 3)) (pR (v 2) (f 5) (v 3)) (v 3) pr (f 24) (f 25) (gQ (v 9) pa) (gQ (v 13) na) rq (gQ (v 17) ga) ++ (rgW k ga g1 g2 (f 18) gA gB (v 17).toNat ++ rs)) ++ wr), by rw [as3], _, rfl, ?_⟩
    obtain ⟨h1, h2, h3, rfl⟩ := h
    exact ⟨⟨h1, h2, h3⟩, rfl, hW, hI⟩
  · obtain ⟨h, rfl⟩ := h
    refine ⟨((cFx k cx cf cp cn ce cg cu ct cr (v 9) (v 13) (v 17) (v 23) (v 21) (v 22) (v 1) (pA (f 4) (v 3)) (pR (v 2) (f 5) (v 3)) (v 3) pr (f 24) (f 25) (gQ (v 9) pa) (gQ (v 13) na) rq (gQ (v 17) ga) ++ (rgW k ga g1 g2 (f 18) gA gB (v 17).toNat ++ rs)) ++ wr), by rw [as3], _, rfl, hW, ?_⟩
    exact h
set_option maxHeartbeats 4000000 in
theorem o_speed {l : Launch} {s0 : State} {D : va_G} {k : Nat → ClassId} (hC : Cx l s0 D k) {cx : Nat} {v : Nat → Int} {f : Nat → Int → Int} {wc : va_W} (hI : Iv v f) (hW : Cst k cx v f wc) (wr : va_W) (p x : Int) (hp : In32 p) (hx9 : In32 x) : WdM l s0 D y_C_speed { frames := 8, cells := 3, slots := 18, locals := 135 } [.ref cx, .int (iI (p)), .int (iI (x))] (wc ++ wr) (fun ret w => ∃ wc', w = wc' ++ wr ∧ ((0 ≤ p ∧ p < (v 9) ∧ 0 ≤ x ∧ x ≤ (f 10) p) ∧ ¬ (v 23) = 0) ∧ ret = some (.int (iI ((f 25) (min (spF (f 24) ((f 12) (65 * p + x)) (v 23).toNat) ((v 23) - 1))))) ∧ Cst k cx v f wc' ∧ Iv v f) (fun E w => ∃ wc', w = wc' ++ wr ∧ Cst k cx v f wc' ∧ (E = xIO ∧ ¬ (0 ≤ p ∧ p < (v 9) ∧ 0 ≤ x ∧ x ≤ (f 10) p) ∨ E = xIS ∧ ((0 ≤ p ∧ p < (v 9) ∧ 0 ≤ x ∧ x ≤ (f 10) p) ∧ (v 23) = 0))) 3 18 := by
  obtain ⟨cf, cp, cn, ce, cg, cu, ct, cr, pr, pa, pq, pf, na, nq, rq, ga, g1, g2, gA, gB, rs, rfl, hpr, hpc, hpf, hno, hrq, hrg⟩ := id hW
  obtain ⟨iA, iB, iC, iD, iE, iF⟩ := id hI
  have hrs : ∀ q ∈ rs, q ∈ (rgW k ga g1 g2 (f 18) gA gB (v 17).toNat ++ (rs ++ wr)) := fun q h => List.mem_append_right _ (List.mem_append_left _ h)
  refine wd_conv (wd_of_th (ws1 := cFx k cx cf cp cn ce cg cu ct cr (v 9) (v 13) (v 17) (v 23) (v 21) (v 22) (v 1) (pA (f 4) (v 3)) (pR (v 2) (f 5) (v 3)) (v 3) pr (f 24) (f 25) (gQ (v 9) pa) (gQ (v 13) na) rq (gQ (v 17) ga) ++ (rgW k ga g1 g2 (f 18) gA gB (v 17).toNat ++ (rs ++ wr))) (c_C_speed hC cx cf cp cn ce cg cu ct (v 9) (v 13) (v 17) (v 23) (v 21) (v 22) pa pq (f 10) (blF (f 10) pf) (f 11) pf rs (rgW k ga g1 g2 (f 18) gA gB (v 17).toNat ++ (rs ++ wr)) hpc hrs iB.1 (f 24) (f 25) iF.1 iF.2.1 p x hp hx9) (fun H h => wl_i4 (i := 2) (j := 3) (m := 7) (n := 8) h rfl rfl rfl rfl)) (by rw [as3]) (fun ret w h => ?_) (fun E w h => ?_)
  · obtain ⟨h, rfl⟩ := h
    refine ⟨((cFx k cx cf cp cn ce cg cu ct cr (v 9) (v 13) (v 17) (v 23) (v 21) (v 22) (v 1) (pA (f 4) (v 3)) (pR (v 2) (f 5) (v 3)) (v 3) pr (f 24) (f 25) (gQ (v 9) pa) (gQ (v 13) na) rq (gQ (v 17) ga) ++ (rgW k ga g1 g2 (f 18) gA gB (v 17).toNat ++ rs)) ++ wr), by rw [as3], _, rfl, ?_⟩
    obtain ⟨h1, h2, h3, h4, h5, rfl⟩ := h
    exact ⟨⟨⟨h1, h2, h3, h4⟩, h5⟩, by rw [hpf p h1 h2 x h3 h4], hW, hI⟩
  · obtain ⟨h, rfl⟩ := h
    refine ⟨((cFx k cx cf cp cn ce cg cu ct cr (v 9) (v 13) (v 17) (v 23) (v 21) (v 22) (v 1) (pA (f 4) (v 3)) (pR (v 2) (f 5) (v 3)) (v 3) pr (f 24) (f 25) (gQ (v 9) pa) (gQ (v 13) na) rq (gQ (v 17) ga) ++ (rgW k ga g1 g2 (f 18) gA gB (v 17).toNat ++ rs)) ++ wr), by rw [as3], _, rfl, hW, ?_⟩
    exact h
set_option maxHeartbeats 4000000 in
theorem o_start {l : Launch} {s0 : State} {D : va_G} {k : Nat → ClassId} (hC : Cx l s0 D k) {cx : Nat} {v : Nat → Int} {f : Nat → Int → Int} {wc : va_W} (hI : Iv v f) (hW : Cst k cx v f wc) (wr : va_W) (rd : Int) (hrd : In32 rd) : WdM l s0 D y_C_start { frames := 7, cells := 1, slots := 6, locals := 112 } [.ref cx, .int (iI (rd))] (wc ++ wr) (fun ret w => ∃ wc', w = wc' ++ wr ∧ (0 ≤ rd ∧ rd ≤ 500) ∧ ret = none ∧ Cst k cx (vS (vS (vS (vS v 0 0) 1 1) 2 rd) 3 0) f wc' ∧ Iv (vS (vS (vS (vS v 0 0) 1 1) 2 rd) 3 0) f) (fun E w => ∃ wc', w = wc' ++ wr ∧ Cst k cx v f wc' ∧ (E = xIA ∧ ¬ (0 ≤ rd ∧ rd ≤ 500))) 1 6 := by
  obtain ⟨cf, cp, cn, ce, cg, cu, ct, cr, pr, pa, pq, pf, na, nq, rq, ga, g1, g2, gA, gB, rs, rfl, hpr, hpc, hpf, hno, hrq, hrg⟩ := id hW
  obtain ⟨iA, iB, iC, iD, iE, iF⟩ := id hI
  have hrs : ∀ q ∈ rs, q ∈ (rgW k ga g1 g2 (f 18) gA gB (v 17).toNat ++ (rs ++ wr)) := fun q h => List.mem_append_right _ (List.mem_append_left _ h)
  refine wd_conv (c_C_start hC cx cf cp cn ce cg cu ct cr (v 9) (v 13) (v 17) (v 23) (v 21) (v 22) (v 1) (pA (f 4) (v 3)) (pR (v 2) (f 5) (v 3)) (v 3) pr (f 24) (f 25) (gQ (v 9) pa) (gQ (v 13) na) rq (gQ (v 17) ga) (rgW k ga g1 g2 (f 18) gA gB (v 17).toNat ++ (rs ++ wr)) rd hrd) (by rw [as3]; exact List.Perm.refl _) (fun ret w h => ?_) (fun E w h => ?_)
  · obtain ⟨rfl, h1, rfl⟩ := h
    refine ⟨((cFx k cx cf cp cn ce cg cu ct cr (v 9) (v 13) (v 17) (v 23) (v 21) (v 22) 1 0 rd 0 (zU pr 0 rd) (f 24) (f 25) (gQ (v 9) pa) (gQ (v 13) na) rq (gQ (v 17) ga) ++ (rgW k ga g1 g2 (f 18) gA gB (v 17).toNat ++ ([] ++ rs))) ++ wr), pm_fin [] (cFx k cx cf cp cn ce cg cu ct cr (v 9) (v 13) (v 17) (v 23) (v 21) (v 22) 1 0 rd 0 (zU pr 0 rd) (f 24) (f 25) (gQ (v 9) pa) (gQ (v 13) na) rq (gQ (v 17) ga)) (rgW k ga g1 g2 (f 18) gA gB (v 17).toNat) rs wr, _, rfl, h1, rfl, ?_, ?_, iB, iC, iD, iE, iF⟩
    · exact ⟨cf, cp, cn, ce, cg, cu, ct, cr, (zU pr 0 rd), pa, pq, pf, na, nq, rq, ga, g1, g2, gA, gB, rs, rfl, ⟨zU_eq, fun w x q1 q2 => absurd (show w < 0 from q2) (by omega), fun j q1 q2 => by rw [show j = 0 from by have : j ≤ pA (f 4) 0 := q2; rw [pA_0] at this; omega, zU_eq]; exact h1⟩, hpc, hpf, hno, hrq, hrg⟩
    · exact ⟨Or.inr rfl, fun q => rfl, h1, ⟨Int.le_refl _, Int.le_refl _, (show (0 : Int) ≤ 64 from by decide)⟩, ⟨h1.1, h1.2⟩, fun w q1 q2 => absurd (show w < 0 from q2) (by omega)⟩
  · obtain ⟨rfl, h1, h2⟩ := h
    exact ⟨((cFx k cx cf cp cn ce cg cu ct cr (v 9) (v 13) (v 17) (v 23) (v 21) (v 22) (v 1) (pA (f 4) (v 3)) (pR (v 2) (f 5) (v 3)) (v 3) pr (f 24) (f 25) (gQ (v 9) pa) (gQ (v 13) na) rq (gQ (v 17) ga) ++ (rgW k ga g1 g2 (f 18) gA gB (v 17).toNat ++ ([] ++ rs))) ++ wr), pm_fin [] (cFx k cx cf cp cn ce cg cu ct cr (v 9) (v 13) (v 17) (v 23) (v 21) (v 22) (v 1) (pA (f 4) (v 3)) (pR (v 2) (f 5) (v 3)) (v 3) pr (f 24) (f 25) (gQ (v 9) pa) (gQ (v 13) na) rq (gQ (v 17) ga)) (rgW k ga g1 g2 (f 18) gA gB (v 17).toNat) rs wr, _, rfl, hW, ⟨h1, h2⟩⟩
set_option maxHeartbeats 4000000 in
theorem o_line {l : Launch} {s0 : State} {D : va_G} {k : Nat → ClassId} (hC : Cx l s0 D k) {cx : Nat} {v : Nat → Int} {f : Nat → Int → Int} {wc : va_W} (hI : Iv v f) (hW : Cst k cx v f wc) (wr : va_W) (at9 rd : Int) (hat : In32 at9) (hrd : In32 rd) : WdM l s0 D y_C_line { frames := 8, cells := 3, slots := 18, locals := 133 } [.ref cx, .int (iI (at9)), .int (iI (rd))] (wc ++ wr) (fun ret w => ∃ wc', w = wc' ++ wr ∧ ((1 ≤ at9 ∧ at9 ≤ 64 ∧ 0 ≤ rd ∧ rd ≤ 500) ∧ (v 1) = 1 ∧ pA (f 4) (v 3) < at9) ∧ ret = some (.int (iI ((v 3) + 1))) ∧ Cst k cx (vS (vS v 0 0) 3 (v 3 + 1)) (fS (fS (fS (fS (fS f 4 (zU (f 4) (v 3) at9)) 5 (zU (f 5) (v 3) rd)) 6 (zU (f 6) (v 3) 0)) 7 (zU (f 7) (v 3) 0)) 8 (zU (f 8) (v 3) 0)) wc' ∧ Iv (vS (vS v 0 0) 3 (v 3 + 1)) (fS (fS (fS (fS (fS f 4 (zU (f 4) (v 3) at9)) 5 (zU (f 5) (v 3) rd)) 6 (zU (f 6) (v 3) 0)) 7 (zU (f 7) (v 3) 0)) 8 (zU (f 8) (v 3) 0))) (fun E w => ∃ wc', w = wc' ++ wr ∧ Cst k cx v f wc' ∧ (E = xIA ∧ (¬ (1 ≤ at9 ∧ at9 ≤ 64 ∧ 0 ≤ rd ∧ rd ≤ 500) ∨ (v 1) = 1 ∧ at9 ≤ pA (f 4) (v 3)) ∨ E = xIS ∧ ((1 ≤ at9 ∧ at9 ≤ 64 ∧ 0 ≤ rd ∧ rd ≤ 500) ∧ (v 1) = 0))) 3 18 := by
  obtain ⟨cf, cp, cn, ce, cg, cu, ct, cr, pr, pa, pq, pf, na, nq, rq, ga, g1, g2, gA, gB, rs, rfl, hpr, hpc, hpf, hno, hrq, hrg⟩ := id hW
  obtain ⟨iA, iB, iC, iD, iE, iF⟩ := id hI
  have hrs : ∀ q ∈ rs, q ∈ (rgW k ga g1 g2 (f 18) gA gB (v 17).toNat ++ (rs ++ wr)) := fun q h => List.mem_append_right _ (List.mem_append_left _ h)
  refine wd_conv (c_C_line hC cx cf cp cn ce cg cu ct cr (v 9) (v 13) (v 17) (v 23) (v 21) (v 22) (v 1) (pA (f 4) (v 3)) (pR (v 2) (f 5) (v 3)) (v 3) pr (f 24) (f 25) (gQ (v 9) pa) (gQ (v 13) na) rq (gQ (v 17) ga) (rgW k ga g1 g2 (f 18) gA gB (v 17).toNat ++ (rs ++ wr)) iA.1 ⟨(by have := iA.2.2.2.1; omega), iA.2.2.2.1.2.2⟩ iA.2.2.2.2.1 at9 rd hat hrd) (by rw [as3]; exact List.Perm.refl _) (fun ret w h => ?_) (fun E w h => ?_)
  · obtain ⟨rfl, h1, h2, h3, rfl⟩ := h
    have hA := way_add (g := (fun x => pR (v 2) (f 5) (v 3) + ((x - pA (f 4) (v 3)) * (rd - pR (v 2) (f 5) (v 3))) / (at9 - pA (f 4) (v 3)))) iA hpr (x := at9) (r := rd) (s := 0) (c := 0) (d := 0) h2 ⟨h3, h1.2.1⟩ h1.2.2 (by decide) (fun q => absurd rfl q) (fun j => by rw [if_pos rfl]; rfl)
    skip
    refine ⟨((cFx k cx cf cp cn ce cg cu ct cr (v 9) (v 13) (v 17) (v 23) (v 21) (v 22) (v 1) at9 rd (v 3 + 1) (seqF pr (fun x => pR (v 2) (f 5) (v 3) + ((x - pA (f 4) (v 3)) * (rd - pR (v 2) (f 5) (v 3))) / (at9 - pA (f 4) (v 3))) (pA (f 4) (v 3) + 1) (at9 - pA (f 4) (v 3)).toNat) (f 24) (f 25) (gQ (v 9) pa) (gQ (v 13) na) rq (gQ (v 17) ga) ++ (rgW k ga g1 g2 (f 18) gA gB (v 17).toNat ++ ([] ++ rs))) ++ wr), pm_fin [] (cFx k cx cf cp cn ce cg cu ct cr (v 9) (v 13) (v 17) (v 23) (v 21) (v 22) (v 1) at9 rd (v 3 + 1) (seqF pr (fun x => pR (v 2) (f 5) (v 3) + ((x - pA (f 4) (v 3)) * (rd - pR (v 2) (f 5) (v 3))) / (at9 - pA (f 4) (v 3))) (pA (f 4) (v 3) + 1) (at9 - pA (f 4) (v 3)).toNat) (f 24) (f 25) (gQ (v 9) pa) (gQ (v 13) na) rq (gQ (v 17) ga)) (rgW k ga g1 g2 (f 18) gA gB (v 17).toNat) rs wr, _, rfl, ⟨h1, h2, h3⟩, rfl, ?_, ?_⟩
    · refine ⟨cf, cp, cn, ce, cg, cu, ct, cr, (seqF pr (fun x => pR (v 2) (f 5) (v 3) + ((x - pA (f 4) (v 3)) * (rd - pR (v 2) (f 5) (v 3))) / (at9 - pA (f 4) (v 3))) (pA (f 4) (v 3) + 1) (at9 - pA (f 4) (v 3)).toNat), pa, pq, pf, na, nq, rq, ga, g1, g2, gA, gB, rs, ?_, hA.2.2, hpc, hpf, hno, hrq, hrg⟩
      show _ = cFx k cx cf cp cn ce cg cu ct cr (v 9) (v 13) (v 17) (v 23) (v 21) (v 22) (v 1) (pA (zU (f 4) (v 3) at9) (v 3 + 1)) (pR (v 2) (zU (f 5) (v 3) rd) (v 3 + 1)) (v 3 + 1) (seqF pr (fun x => pR (v 2) (f 5) (v 3) + ((x - pA (f 4) (v 3)) * (rd - pR (v 2) (f 5) (v 3))) / (at9 - pA (f 4) (v 3))) (pA (f 4) (v 3) + 1) (at9 - pA (f 4) (v 3)).toNat) (f 24) (f 25) (gQ (v 9) pa) (gQ (v 13) na) rq (gQ (v 17) ga) ++ (rgW k ga g1 g2 (f 18) gA gB (v 17).toNat ++ rs)
      rw [hA.1.1, hA.1.2]
      rfl
    · exact ⟨hA.2.1, iB, iC, iD, iE, iF⟩
  · obtain ⟨rfl, h1⟩ := h
    exact ⟨((cFx k cx cf cp cn ce cg cu ct cr (v 9) (v 13) (v 17) (v 23) (v 21) (v 22) (v 1) (pA (f 4) (v 3)) (pR (v 2) (f 5) (v 3)) (v 3) pr (f 24) (f 25) (gQ (v 9) pa) (gQ (v 13) na) rq (gQ (v 17) ga) ++ (rgW k ga g1 g2 (f 18) gA gB (v 17).toNat ++ ([] ++ rs))) ++ wr), pm_fin [] (cFx k cx cf cp cn ce cg cu ct cr (v 9) (v 13) (v 17) (v 23) (v 21) (v 22) (v 1) (pA (f 4) (v 3)) (pR (v 2) (f 5) (v 3)) (v 3) pr (f 24) (f 25) (gQ (v 9) pa) (gQ (v 13) na) rq (gQ (v 17) ga)) (rgW k ga g1 g2 (f 18) gA gB (v 17).toNat) rs wr, _, rfl, hW, h1⟩
set_option maxHeartbeats 4000000 in
theorem o_arc {l : Launch} {s0 : State} {D : va_G} {k : Nat → ClassId} (hC : Cx l s0 D k) {cx : Nat} {v : Nat → Int} {f : Nat → Int → Int} {wc : va_W} (hI : Iv v f) (hW : Cst k cx v f wc) (wr : va_W) (at9 rd : Int) (hat : In32 at9) (hrd : In32 rd) (xc xh up : Int) (hxc : In32 xc) (hxh : In32 xh) (hup : up = 0 ∨ up = 1) : WdM l s0 D y_C_arc { frames := 8, cells := 5, slots := 30, locals := 133 } [.ref cx, .int (iI (at9)), .int (iI (rd)), .int (iI (xc)), .int (iI (xh)), .int (iI (up))] (wc ++ wr) (fun ret w => ∃ wc', w = wc' ++ wr ∧ (((1 ≤ at9 ∧ at9 ≤ 64 ∧ 0 ≤ rd ∧ rd ≤ 500) ∧ (-200 ≤ xc ∧ xc ≤ 300) ∧ (-1000 ≤ xh ∧ xh ≤ 1500)) ∧ (v 1) = 1 ∧ pA (f 4) (v 3) < at9) ∧ (arcOk (pA (f 4) (v 3)) (pR (v 2) (f 5) (v 3)) at9 rd xc xh up ∧ ret = some (.int (iI (1))) ∧ Cst k cx (vS (vS v 0 0) 3 (v 3 + 1)) (fS (fS (fS (fS (fS f 4 (zU (f 4) (v 3) at9)) 5 (zU (f 5) (v 3) rd)) 6 (zU (f 6) (v 3) (if up = 0 then 1 else 2))) 7 (zU (f 7) (v 3) xc)) 8 (zU (f 8) (v 3) xh)) wc' ∧ Iv (vS (vS v 0 0) 3 (v 3 + 1)) (fS (fS (fS (fS (fS f 4 (zU (f 4) (v 3) at9)) 5 (zU (f 5) (v 3) rd)) 6 (zU (f 6) (v 3) (if up = 0 then 1 else 2))) 7 (zU (f 7) (v 3) xc)) 8 (zU (f 8) (v 3) xh)) ∨ ¬ arcOk (pA (f 4) (v 3)) (pR (v 2) (f 5) (v 3)) at9 rd xc xh up ∧ ret = some (.int (iI (0))) ∧ Cst k cx v f wc')) (fun E w => ∃ wc', w = wc' ++ wr ∧ Cst k cx v f wc' ∧ (E = xIA ∧ (¬ ((1 ≤ at9 ∧ at9 ≤ 64 ∧ 0 ≤ rd ∧ rd ≤ 500) ∧ (-200 ≤ xc ∧ xc ≤ 300) ∧ (-1000 ≤ xh ∧ xh ≤ 1500)) ∨ (v 1) = 1 ∧ at9 ≤ pA (f 4) (v 3)) ∨ E = xIS ∧ (((1 ≤ at9 ∧ at9 ≤ 64 ∧ 0 ≤ rd ∧ rd ≤ 500) ∧ (-200 ≤ xc ∧ xc ≤ 300) ∧ (-1000 ≤ xh ∧ xh ≤ 1500)) ∧ (v 1) = 0))) 5 30 := by
  obtain ⟨cf, cp, cn, ce, cg, cu, ct, cr, pr, pa, pq, pf, na, nq, rq, ga, g1, g2, gA, gB, rs, rfl, hpr, hpc, hpf, hno, hrq, hrg⟩ := id hW
  obtain ⟨iA, iB, iC, iD, iE, iF⟩ := id hI
  have hrs : ∀ q ∈ rs, q ∈ (rgW k ga g1 g2 (f 18) gA gB (v 17).toNat ++ (rs ++ wr)) := fun q h => List.mem_append_right _ (List.mem_append_left _ h)
  refine wd_conv (c_C_arc hC cx cf cp cn ce cg cu ct cr (v 9) (v 13) (v 17) (v 23) (v 21) (v 22) (v 1) (pA (f 4) (v 3)) (pR (v 2) (f 5) (v 3)) (v 3) pr (f 24) (f 25) (gQ (v 9) pa) (gQ (v 13) na) rq (gQ (v 17) ga) (rgW k ga g1 g2 (f 18) gA gB (v 17).toNat ++ (rs ++ wr)) iA.1 ⟨(by have := iA.2.2.2.1; omega), iA.2.2.2.1.2.2⟩ iA.2.2.2.2.1 at9 rd hat hrd xc xh up hxc hxh (by omega)) (by rw [as3]; exact List.Perm.refl _) (fun ret w h => ?_) (fun E w h => ?_)
  · obtain ⟨h1, h2, h3, h⟩ := h
    rcases h with ⟨rfl, hok, rfl⟩ | ⟨rfl, hok, rfl⟩
    · have eup : (if up = 0 then (1 : Int) else 2) - 1 = up := by split <;> omega
      have e12 : (if up = 0 then (1 : Int) else 2) = 1 ∨ (if up = 0 then (1 : Int) else 2) = 2 := by split <;> omega
      have hA := way_add (g := (arcF ((pA (f 4) (v 3) - xc) * (pA (f 4) (v 3) - xc) + (pR (v 2) (f 5) (v 3) - xh) * (pR (v 2) (f 5) (v 3) - xh)) xc xh up)) iA hpr (x := at9) (r := rd) (s := if up = 0 then 1 else 2) (c := xc) (d := xh) h2 ⟨h3, h1.1.2.1⟩ h1.1.2.2 (by omega) (fun q => ⟨e12, h1.2.1, h1.2.2, by rw [eup]; exact hok⟩) (fun j => by rw [if_neg (by omega), eup])
      skip
      refine ⟨((cFx k cx cf cp cn ce cg cu ct cr (v 9) (v 13) (v 17) (v 23) (v 21) (v 22) (v 1) at9 rd (v 3 + 1) (seqF pr (arcF ((pA (f 4) (v 3) - xc) * (pA (f 4) (v 3) - xc) + (pR (v 2) (f 5) (v 3) - xh) * (pR (v 2) (f 5) (v 3) - xh)) xc xh up) (pA (f 4) (v 3) + 1) (at9 - pA (f 4) (v 3)).toNat) (f 24) (f 25) (gQ (v 9) pa) (gQ (v 13) na) rq (gQ (v 17) ga) ++ (rgW k ga g1 g2 (f 18) gA gB (v 17).toNat ++ ([] ++ rs))) ++ wr), pm_fin [] (cFx k cx cf cp cn ce cg cu ct cr (v 9) (v 13) (v 17) (v 23) (v 21) (v 22) (v 1) at9 rd (v 3 + 1) (seqF pr (arcF ((pA (f 4) (v 3) - xc) * (pA (f 4) (v 3) - xc) + (pR (v 2) (f 5) (v 3) - xh) * (pR (v 2) (f 5) (v 3) - xh)) xc xh up) (pA (f 4) (v 3) + 1) (at9 - pA (f 4) (v 3)).toNat) (f 24) (f 25) (gQ (v 9) pa) (gQ (v 13) na) rq (gQ (v 17) ga)) (rgW k ga g1 g2 (f 18) gA gB (v 17).toNat) rs wr, _, rfl, ⟨h1, h2, h3⟩, Or.inl ⟨hok, rfl, ?_, ?_⟩⟩
      · refine ⟨cf, cp, cn, ce, cg, cu, ct, cr, (seqF pr (arcF ((pA (f 4) (v 3) - xc) * (pA (f 4) (v 3) - xc) + (pR (v 2) (f 5) (v 3) - xh) * (pR (v 2) (f 5) (v 3) - xh)) xc xh up) (pA (f 4) (v 3) + 1) (at9 - pA (f 4) (v 3)).toNat), pa, pq, pf, na, nq, rq, ga, g1, g2, gA, gB, rs, ?_, hA.2.2, hpc, hpf, hno, hrq, hrg⟩
        show _ = cFx k cx cf cp cn ce cg cu ct cr (v 9) (v 13) (v 17) (v 23) (v 21) (v 22) (v 1) (pA (zU (f 4) (v 3) at9) (v 3 + 1)) (pR (v 2) (zU (f 5) (v 3) rd) (v 3 + 1)) (v 3 + 1) (seqF pr (arcF ((pA (f 4) (v 3) - xc) * (pA (f 4) (v 3) - xc) + (pR (v 2) (f 5) (v 3) - xh) * (pR (v 2) (f 5) (v 3) - xh)) xc xh up) (pA (f 4) (v 3) + 1) (at9 - pA (f 4) (v 3)).toNat) (f 24) (f 25) (gQ (v 9) pa) (gQ (v 13) na) rq (gQ (v 17) ga) ++ (rgW k ga g1 g2 (f 18) gA gB (v 17).toNat ++ rs)
        rw [hA.1.1, hA.1.2]
        rfl
      · exact ⟨hA.2.1, iB, iC, iD, iE, iF⟩
    · exact ⟨((cFx k cx cf cp cn ce cg cu ct cr (v 9) (v 13) (v 17) (v 23) (v 21) (v 22) (v 1) (pA (f 4) (v 3)) (pR (v 2) (f 5) (v 3)) (v 3) pr (f 24) (f 25) (gQ (v 9) pa) (gQ (v 13) na) rq (gQ (v 17) ga) ++ (rgW k ga g1 g2 (f 18) gA gB (v 17).toNat ++ ([] ++ rs))) ++ wr), pm_fin [] (cFx k cx cf cp cn ce cg cu ct cr (v 9) (v 13) (v 17) (v 23) (v 21) (v 22) (v 1) (pA (f 4) (v 3)) (pR (v 2) (f 5) (v 3)) (v 3) pr (f 24) (f 25) (gQ (v 9) pa) (gQ (v 13) na) rq (gQ (v 17) ga)) (rgW k ga g1 g2 (f 18) gA gB (v 17).toNat) rs wr, _, rfl, ⟨h1, h2, h3⟩, Or.inr ⟨hok, rfl, hW⟩⟩
  · obtain ⟨rfl, h1⟩ := h
    exact ⟨((cFx k cx cf cp cn ce cg cu ct cr (v 9) (v 13) (v 17) (v 23) (v 21) (v 22) (v 1) (pA (f 4) (v 3)) (pR (v 2) (f 5) (v 3)) (v 3) pr (f 24) (f 25) (gQ (v 9) pa) (gQ (v 13) na) rq (gQ (v 17) ga) ++ (rgW k ga g1 g2 (f 18) gA gB (v 17).toNat ++ ([] ++ rs))) ++ wr), pm_fin [] (cFx k cx cf cp cn ce cg cu ct cr (v 9) (v 13) (v 17) (v 23) (v 21) (v 22) (v 1) (pA (f 4) (v 3)) (pR (v 2) (f 5) (v 3)) (v 3) pr (f 24) (f 25) (gQ (v 9) pa) (gQ (v 13) na) rq (gQ (v 17) ga)) (rgW k ga g1 g2 (f 18) gA gB (v 17).toNat) rs wr, _, rfl, hW, h1⟩
set_option maxHeartbeats 4000000 in
theorem o_thread {l : Launch} {s0 : State} {D : va_G} {k : Nat → ClassId} (hC : Cx l s0 D k) {cx : Nat} {v : Nat → Int} {f : Nat → Int → Int} {wc : va_W} (hI : Iv v f) (hW : Cst k cx v f wc) (wr : va_W) (ab be : Int) (hab : In32 ab) (hbe : In32 be) : WdM l s0 D y_C_thread { frames := 7, cells := 2, slots := 12, locals := 112 } [.ref cx, .int (iI (ab)), .int (iI (be))] (wc ++ wr) (fun ret w => ∃ wc', w = wc' ++ wr ∧ ((1 ≤ ab ∧ ab ≤ 1000) ∧ (1 ≤ be ∧ be ≤ 1000)) ∧ ret = none ∧ Cst k cx (vS (vS (vS v 0 0) 21 ab) 22 be) f wc' ∧ Iv (vS (vS (vS v 0 0) 21 ab) 22 be) f) (fun E w => ∃ wc', w = wc' ++ wr ∧ Cst k cx v f wc' ∧ (E = xIA ∧ ¬ ((1 ≤ ab ∧ ab ≤ 1000) ∧ (1 ≤ be ∧ be ≤ 1000)))) 2 12 := by
  obtain ⟨cf, cp, cn, ce, cg, cu, ct, cr, pr, pa, pq, pf, na, nq, rq, ga, g1, g2, gA, gB, rs, rfl, hpr, hpc, hpf, hno, hrq, hrg⟩ := id hW
  obtain ⟨iA, iB, iC, iD, iE, iF⟩ := id hI
  have hrs : ∀ q ∈ rs, q ∈ (rgW k ga g1 g2 (f 18) gA gB (v 17).toNat ++ (rs ++ wr)) := fun q h => List.mem_append_right _ (List.mem_append_left _ h)
  refine wd_conv (c_C_thread hC cx cf cp cn ce cg cu ct cr (v 9) (v 13) (v 17) (v 23) (v 21) (v 22) (v 1) (pA (f 4) (v 3)) (pR (v 2) (f 5) (v 3)) (v 3) pr (f 24) (f 25) (gQ (v 9) pa) (gQ (v 13) na) rq (gQ (v 17) ga) (rgW k ga g1 g2 (f 18) gA gB (v 17).toNat ++ (rs ++ wr)) ab be hab hbe) (by rw [as3]; exact List.Perm.refl _) (fun ret w h => ?_) (fun E w h => ?_)
  · obtain ⟨rfl, h1, h2, rfl⟩ := h
    exact ⟨((cFx k cx cf cp cn ce cg cu ct cr (v 9) (v 13) (v 17) (v 23) ab be (v 1) (pA (f 4) (v 3)) (pR (v 2) (f 5) (v 3)) (v 3) pr (f 24) (f 25) (gQ (v 9) pa) (gQ (v 13) na) rq (gQ (v 17) ga) ++ (rgW k ga g1 g2 (f 18) gA gB (v 17).toNat ++ ([] ++ rs))) ++ wr), pm_fin [] (cFx k cx cf cp cn ce cg cu ct cr (v 9) (v 13) (v 17) (v 23) ab be (v 1) (pA (f 4) (v 3)) (pR (v 2) (f 5) (v 3)) (v 3) pr (f 24) (f 25) (gQ (v 9) pa) (gQ (v 13) na) rq (gQ (v 17) ga)) (rgW k ga g1 g2 (f 18) gA gB (v 17).toNat) rs wr, _, rfl, ⟨h1, h2⟩, rfl, ⟨cf, cp, cn, ce, cg, cu, ct, cr, pr, pa, pq, pf, na, nq, rq, ga, g1, g2, gA, gB, rs, rfl, hpr, hpc, hpf, hno, hrq, hrg⟩, iA, iB, iC, iD, Or.inr ⟨h1, h2⟩, iF⟩
  · obtain ⟨rfl, h1, h2⟩ := h
    exact ⟨((cFx k cx cf cp cn ce cg cu ct cr (v 9) (v 13) (v 17) (v 23) (v 21) (v 22) (v 1) (pA (f 4) (v 3)) (pR (v 2) (f 5) (v 3)) (v 3) pr (f 24) (f 25) (gQ (v 9) pa) (gQ (v 13) na) rq (gQ (v 17) ga) ++ (rgW k ga g1 g2 (f 18) gA gB (v 17).toNat ++ ([] ++ rs))) ++ wr), pm_fin [] (cFx k cx cf cp cn ce cg cu ct cr (v 9) (v 13) (v 17) (v 23) (v 21) (v 22) (v 1) (pA (f 4) (v 3)) (pR (v 2) (f 5) (v 3)) (v 3) pr (f 24) (f 25) (gQ (v 9) pa) (gQ (v 13) na) rq (gQ (v 17) ga)) (rgW k ga g1 g2 (f 18) gA gB (v 17).toNat) rs wr, _, rfl, hW, ⟨h1, h2⟩⟩
set_option maxHeartbeats 4000000 in
theorem o_row {l : Launch} {s0 : State} {D : va_G} {k : Nat → ClassId} (hC : Cx l s0 D k) {cx : Nat} {v : Nat → Int} {f : Nat → Int → Int} {wc : va_W} (hI : Iv v f) (hW : Cst k cx v f wc) (wr : va_W) (rd tu : Int) (hrd : In32 rd) (htu : In32 tu) : WdM l s0 D y_C_row { frames := 7, cells := 3, slots := 18, locals := 112 } [.ref cx, .int (iI (rd)), .int (iI (tu))] (wc ++ wr) (fun ret w => ∃ wc', w = wc' ++ wr ∧ (((1 ≤ rd ∧ rd ≤ 500) ∧ (1 ≤ tu ∧ tu ≤ 10000) ∧ ((v 23) = 0 ∨ (f 24) ((v 23) - 1) < rd)) ∧ (v 23) < 8) ∧ ret = some (.int (iI ((v 23) + 1))) ∧ Cst k cx (vS (vS v 0 0) 23 (v 23 + 1)) (fS (fS f 24 (zU (f 24) (v 23) rd)) 25 (zU (f 25) (v 23) tu)) wc' ∧ Iv (vS (vS v 0 0) 23 (v 23 + 1)) (fS (fS f 24 (zU (f 24) (v 23) rd)) 25 (zU (f 25) (v 23) tu))) (fun E w => ∃ wc', w = wc' ++ wr ∧ Cst k cx v f wc' ∧ (E = xIA ∧ ¬ ((1 ≤ rd ∧ rd ≤ 500) ∧ (1 ≤ tu ∧ tu ≤ 10000) ∧ ((v 23) = 0 ∨ (f 24) ((v 23) - 1) < rd)) ∨ E = xIS ∧ (((1 ≤ rd ∧ rd ≤ 500) ∧ (1 ≤ tu ∧ tu ≤ 10000) ∧ ((v 23) = 0 ∨ (f 24) ((v 23) - 1) < rd)) ∧ ¬ (v 23) < 8))) 3 18 := by
  obtain ⟨cf, cp, cn, ce, cg, cu, ct, cr, pr, pa, pq, pf, na, nq, rq, ga, g1, g2, gA, gB, rs, rfl, hpr, hpc, hpf, hno, hrq, hrg⟩ := id hW
  obtain ⟨iA, iB, iC, iD, iE, iF⟩ := id hI
  have hrs : ∀ q ∈ rs, q ∈ (rgW k ga g1 g2 (f 18) gA gB (v 17).toNat ++ (rs ++ wr)) := fun q h => List.mem_append_right _ (List.mem_append_left _ h)
  refine wd_conv (c_C_row hC cx cf cp cn ce cg cu ct cr (v 9) (v 13) (v 17) (v 23) (v 21) (v 22) (v 1) (pA (f 4) (v 3)) (pR (v 2) (f 5) (v 3)) (v 3) pr (f 24) (f 25) (gQ (v 9) pa) (gQ (v 13) na) rq (gQ (v 17) ga) (rgW k ga g1 g2 (f 18) gA gB (v 17).toNat ++ (rs ++ wr)) iF.1 iF.2.1 rd tu hrd htu) (by rw [as3]; exact List.Perm.refl _) (fun ret w h => ?_) (fun E w h => ?_)
  · obtain ⟨rfl, h1, h2, rfl⟩ := h
    refine ⟨((cFx k cx cf cp cn ce cg cu ct cr (v 9) (v 13) (v 17) (v 23 + 1) (v 21) (v 22) (v 1) (pA (f 4) (v 3)) (pR (v 2) (f 5) (v 3)) (v 3) pr (zU (f 24) (v 23) rd) (zU (f 25) (v 23) tu) (gQ (v 9) pa) (gQ (v 13) na) rq (gQ (v 17) ga) ++ (rgW k ga g1 g2 (f 18) gA gB (v 17).toNat ++ ([] ++ rs))) ++ wr), pm_fin [] (cFx k cx cf cp cn ce cg cu ct cr (v 9) (v 13) (v 17) (v 23 + 1) (v 21) (v 22) (v 1) (pA (f 4) (v 3)) (pR (v 2) (f 5) (v 3)) (v 3) pr (zU (f 24) (v 23) rd) (zU (f 25) (v 23) tu) (gQ (v 9) pa) (gQ (v 13) na) rq (gQ (v 17) ga)) (rgW k ga g1 g2 (f 18) gA gB (v 17).toNat) rs wr, _, rfl, ⟨h1, h2⟩, rfl, ⟨cf, cp, cn, ce, cg, cu, ct, cr, pr, pa, pq, pf, na, nq, rq, ga, g1, g2, gA, gB, rs, rfl, hpr, hpc, hpf, hno, hrq, hrg⟩, iA, iB, iC, iD, iE, ⟨show 0 ≤ v 23 + 1 from by have := iF.1; omega, show v 23 + 1 ≤ 8 from by omega⟩, fun j q1 q2 => ?_, fun j q1 q2 => ?_⟩
    · show 1 ≤ zU (f 24) (v 23) rd j ∧ zU (f 24) (v 23) rd j ≤ 500
      by_cases e : j = v 23
      · rw [e, zU_eq]
        exact h1.1
      · rw [zU_ne e]
        exact iF.2.1 j q1 (by have : j < v 23 + 1 := q2; omega)
    · show 1 ≤ zU (f 25) (v 23) tu j ∧ zU (f 25) (v 23) tu j ≤ 10000
      by_cases e : j = v 23
      · rw [e, zU_eq]
        exact h1.2.1
      · rw [zU_ne e]
        exact iF.2.2 j q1 (by have : j < v 23 + 1 := q2; omega)
  · obtain ⟨rfl, h1⟩ := h
    exact ⟨((cFx k cx cf cp cn ce cg cu ct cr (v 9) (v 13) (v 17) (v 23) (v 21) (v 22) (v 1) (pA (f 4) (v 3)) (pR (v 2) (f 5) (v 3)) (v 3) pr (f 24) (f 25) (gQ (v 9) pa) (gQ (v 13) na) rq (gQ (v 17) ga) ++ (rgW k ga g1 g2 (f 18) gA gB (v 17).toNat ++ ([] ++ rs))) ++ wr), pm_fin [] (cFx k cx cf cp cn ce cg cu ct cr (v 9) (v 13) (v 17) (v 23) (v 21) (v 22) (v 1) (pA (f 4) (v 3)) (pR (v 2) (f 5) (v 3)) (v 3) pr (f 24) (f 25) (gQ (v 9) pa) (gQ (v 13) na) rq (gQ (v 17) ga)) (rgW k ga g1 g2 (f 18) gA gB (v 17).toNat) rs wr, _, rfl, hW, h1⟩
set_option maxHeartbeats 4000000 in
theorem o_reached {l : Launch} {s0 : State} {D : va_G} {k : Nat → ClassId} (hC : Cx l s0 D k) {cx : Nat} {v : Nat → Int} {f : Nat → Int → Int} {wc : va_W} (hI : Iv v f) (hW : Cst k cx v f wc) (wr : va_W) (p t : Int) (hp : In32 p) (ht : In32 t) (x : Int) (hx9 : In32 x) : WdM l s0 D y_C_reached { frames := 8, cells := 6, slots := 149, locals := 138 } [.ref cx, .int (iI (p)), .int (iI (t)), .int (iI (x))] (wc ++ wr) (fun ret w => ∃ wc', w = wc' ++ wr ∧ (0 ≤ p ∧ p < (v 9) ∧ 0 ≤ t ∧ t < (v 13) ∧ 0 ≤ x ∧ x ≤ (f 10) p) ∧ ret = some (.int (iI ((loA (fun j => (f 12) (65 * p + j)) (htF ((f 14) t).toNat) ((f 14) t).toNat ((f 10) p).toNat) x))) ∧ Cst k cx v f wc' ∧ Iv v f) (fun E w => ∃ wc', w = wc' ++ wr ∧ Cst k cx v f wc' ∧ (E = xIO ∧ ¬ (0 ≤ p ∧ p < (v 9) ∧ 0 ≤ t ∧ t < (v 13) ∧ 0 ≤ x ∧ x ≤ (f 10) p))) 6 149 := by
  obtain ⟨cf, cp, cn, ce, cg, cu, ct, cr, pr, pa, pq, pf, na, nq, rq, ga, g1, g2, gA, gB, rs, rfl, hpr, hpc, hpf, hno, hrq, hrg⟩ := id hW
  obtain ⟨iA, iB, iC, iD, iE, iF⟩ := id hI
  have hrs : ∀ q ∈ rs, q ∈ (rgW k ga g1 g2 (f 18) gA gB (v 17).toNat ++ (rs ++ wr)) := fun q h => List.mem_append_right _ (List.mem_append_left _ h)
  refine wd_conv (c_C_reached hC cx cf cp cn ce cg cu ct cr (v 9) (v 13) (v 17) (v 23) (v 21) (v 22) (v 1) (pA (f 4) (v 3)) (pR (v 2) (f 5) (v 3)) (v 3) pr (f 24) (f 25) (gQ (v 17) ga) pa pq (f 10) (blF (f 10) pf) (f 11) pf rs (rgW k ga g1 g2 (f 18) gA gB (v 17).toNat ++ (rs ++ wr)) hpc hrs iB.1 na nq (f 14) hno iC.1 rq hrq p t hp ht x hx9) (by rw [as3]; exact List.Perm.refl _) (fun ret w h => ?_) (fun E w h => ?_)
  · obtain ⟨h1, rfl, hst⟩ := h
    obtain ⟨wn, rq', rfl, hrq2⟩ := hst
    exact ⟨((cFx k cx cf cp cn ce cg cu ct cr (v 9) (v 13) (v 17) (v 23) (v 21) (v 22) (v 1) (pA (f 4) (v 3)) (pR (v 2) (f 5) (v 3)) (v 3) pr (f 24) (f 25) (gQ (v 9) pa) (gQ (v 13) na) rq' (gQ (v 17) ga) ++ (rgW k ga g1 g2 (f 18) gA gB (v 17).toNat ++ (wn ++ rs))) ++ wr), (pm_new wn (cFx k cx cf cp cn ce cg cu ct cr (v 9) (v 13) (v 17) (v 23) (v 21) (v 22) (v 1) (pA (f 4) (v 3)) (pR (v 2) (f 5) (v 3)) (v 3) pr (f 24) (f 25) (gQ (v 9) pa) (gQ (v 13) na) rq' (gQ (v 17) ga)) _).symm.trans (pm_fin wn (cFx k cx cf cp cn ce cg cu ct cr (v 9) (v 13) (v 17) (v 23) (v 21) (v 22) (v 1) (pA (f 4) (v 3)) (pR (v 2) (f 5) (v 3)) (v 3) pr (f 24) (f 25) (gQ (v 9) pa) (gQ (v 13) na) rq' (gQ (v 17) ga)) (rgW k ga g1 g2 (f 18) gA gB (v 17).toNat) rs wr), _, rfl, h1, by rw [lo_eq hpf h1.1 h1.2.1 (iB.2.1 p h1.1 h1.2.1).1], ⟨cf, cp, cn, ce, cg, cu, ct, cr, pr, pa, pq, pf, na, nq, rq', ga, g1, g2, gA, gB, (wn ++ rs), rfl, hpr, hpc.mono (fun q hq => List.mem_append_right _ hq), hpf, hno.mono (fun q hq => List.mem_append_right _ hq), hrq2, hrg⟩, hI⟩
  · obtain ⟨h1, h2, hst⟩ := h
    obtain ⟨wn, rq', rfl, hrq2⟩ := hst
    exact ⟨((cFx k cx cf cp cn ce cg cu ct cr (v 9) (v 13) (v 17) (v 23) (v 21) (v 22) (v 1) (pA (f 4) (v 3)) (pR (v 2) (f 5) (v 3)) (v 3) pr (f 24) (f 25) (gQ (v 9) pa) (gQ (v 13) na) rq' (gQ (v 17) ga) ++ (rgW k ga g1 g2 (f 18) gA gB (v 17).toNat ++ (wn ++ rs))) ++ wr), (pm_new wn (cFx k cx cf cp cn ce cg cu ct cr (v 9) (v 13) (v 17) (v 23) (v 21) (v 22) (v 1) (pA (f 4) (v 3)) (pR (v 2) (f 5) (v 3)) (v 3) pr (f 24) (f 25) (gQ (v 9) pa) (gQ (v 13) na) rq' (gQ (v 17) ga)) _).symm.trans (pm_fin wn (cFx k cx cf cp cn ce cg cu ct cr (v 9) (v 13) (v 17) (v 23) (v 21) (v 22) (v 1) (pA (f 4) (v 3)) (pR (v 2) (f 5) (v 3)) (v 3) pr (f 24) (f 25) (gQ (v 9) pa) (gQ (v 13) na) rq' (gQ (v 17) ga)) (rgW k ga g1 g2 (f 18) gA gB (v 17).toNat) rs wr), _, rfl, ⟨cf, cp, cn, ce, cg, cu, ct, cr, pr, pa, pq, pf, na, nq, rq', ga, g1, g2, gA, gB, (wn ++ rs), rfl, hpr, hpc.mono (fun q hq => List.mem_append_right _ hq), hpf, hno.mono (fun q hq => List.mem_append_right _ hq), hrq2, hrg⟩, ⟨h1, h2⟩⟩
set_option maxHeartbeats 4000000 in
theorem o_left {l : Launch} {s0 : State} {D : va_G} {k : Nat → ClassId} (hC : Cx l s0 D k) {cx : Nat} {v : Nat → Int} {f : Nat → Int → Int} {wc : va_W} (hI : Iv v f) (hW : Cst k cx v f wc) (wr : va_W) (p t : Int) (hp : In32 p) (ht : In32 t) : WdM l s0 D y_C_left { frames := 8, cells := 6, slots := 149, locals := 138 } [.ref cx, .int (iI (p)), .int (iI (t))] (wc ++ wr) (fun ret w => ∃ wc', w = wc' ++ wr ∧ (0 ≤ p ∧ p < (v 9) ∧ 0 ≤ t ∧ t < (v 13)) ∧ ret = some (.int (iI (cnF (fun j => decide ((f 12) (65 * p + j) < (loA (fun j => (f 12) (65 * p + j)) (htF ((f 14) t).toNat) ((f 14) t).toNat ((f 10) p).toNat) j)) 0 (((f 10) p).toNat + 1)))) ∧ Cst k cx v f wc' ∧ Iv v f) (fun E w => ∃ wc', w = wc' ++ wr ∧ Cst k cx v f wc' ∧ (E = xIO ∧ ¬ (0 ≤ p ∧ p < (v 9) ∧ 0 ≤ t ∧ t < (v 13)))) 6 149 := by
  obtain ⟨cf, cp, cn, ce, cg, cu, ct, cr, pr, pa, pq, pf, na, nq, rq, ga, g1, g2, gA, gB, rs, rfl, hpr, hpc, hpf, hno, hrq, hrg⟩ := id hW
  obtain ⟨iA, iB, iC, iD, iE, iF⟩ := id hI
  have hrs : ∀ q ∈ rs, q ∈ (rgW k ga g1 g2 (f 18) gA gB (v 17).toNat ++ (rs ++ wr)) := fun q h => List.mem_append_right _ (List.mem_append_left _ h)
  refine wd_conv (c_C_left hC cx cf cp cn ce cg cu ct cr (v 9) (v 13) (v 17) (v 23) (v 21) (v 22) (v 1) (pA (f 4) (v 3)) (pR (v 2) (f 5) (v 3)) (v 3) pr (f 24) (f 25) (gQ (v 17) ga) pa pq (f 10) (blF (f 10) pf) (f 11) pf rs (rgW k ga g1 g2 (f 18) gA gB (v 17).toNat ++ (rs ++ wr)) hpc hrs iB.1 na nq (f 14) hno iC.1 rq hrq p t hp ht) (by rw [as3]; exact List.Perm.refl _) (fun ret w h => ?_) (fun E w h => ?_)
  · obtain ⟨h1, rfl, hst⟩ := h
    obtain ⟨wn, rq', rfl, hrq2⟩ := hst
    exact ⟨((cFx k cx cf cp cn ce cg cu ct cr (v 9) (v 13) (v 17) (v 23) (v 21) (v 22) (v 1) (pA (f 4) (v 3)) (pR (v 2) (f 5) (v 3)) (v 3) pr (f 24) (f 25) (gQ (v 9) pa) (gQ (v 13) na) rq' (gQ (v 17) ga) ++ (rgW k ga g1 g2 (f 18) gA gB (v 17).toNat ++ (wn ++ rs))) ++ wr), (pm_new wn (cFx k cx cf cp cn ce cg cu ct cr (v 9) (v 13) (v 17) (v 23) (v 21) (v 22) (v 1) (pA (f 4) (v 3)) (pR (v 2) (f 5) (v 3)) (v 3) pr (f 24) (f 25) (gQ (v 9) pa) (gQ (v 13) na) rq' (gQ (v 17) ga)) _).symm.trans (pm_fin wn (cFx k cx cf cp cn ce cg cu ct cr (v 9) (v 13) (v 17) (v 23) (v 21) (v 22) (v 1) (pA (f 4) (v 3)) (pR (v 2) (f 5) (v 3)) (v 3) pr (f 24) (f 25) (gQ (v 9) pa) (gQ (v 13) na) rq' (gQ (v 17) ga)) (rgW k ga g1 g2 (f 18) gA gB (v 17).toNat) rs wr), _, rfl, h1, by rw [lo_eq hpf h1.1 h1.2.1 (iB.2.1 p h1.1 h1.2.1).1]; exact congrArg (fun z => some (Value.int (iI z))) (itF_congr _ (fun j g1 g2 => by simp only [hpf p h1.1 h1.2.1 j g1 (by have := (iB.2.1 p h1.1 h1.2.1).1; omega)])), ⟨cf, cp, cn, ce, cg, cu, ct, cr, pr, pa, pq, pf, na, nq, rq', ga, g1, g2, gA, gB, (wn ++ rs), rfl, hpr, hpc.mono (fun q hq => List.mem_append_right _ hq), hpf, hno.mono (fun q hq => List.mem_append_right _ hq), hrq2, hrg⟩, hI⟩
  · obtain ⟨h1, h2, hst⟩ := h
    obtain ⟨wn, rq', rfl, hrq2⟩ := hst
    exact ⟨((cFx k cx cf cp cn ce cg cu ct cr (v 9) (v 13) (v 17) (v 23) (v 21) (v 22) (v 1) (pA (f 4) (v 3)) (pR (v 2) (f 5) (v 3)) (v 3) pr (f 24) (f 25) (gQ (v 9) pa) (gQ (v 13) na) rq' (gQ (v 17) ga) ++ (rgW k ga g1 g2 (f 18) gA gB (v 17).toNat ++ (wn ++ rs))) ++ wr), (pm_new wn (cFx k cx cf cp cn ce cg cu ct cr (v 9) (v 13) (v 17) (v 23) (v 21) (v 22) (v 1) (pA (f 4) (v 3)) (pR (v 2) (f 5) (v 3)) (v 3) pr (f 24) (f 25) (gQ (v 9) pa) (gQ (v 13) na) rq' (gQ (v 17) ga)) _).symm.trans (pm_fin wn (cFx k cx cf cp cn ce cg cu ct cr (v 9) (v 13) (v 17) (v 23) (v 21) (v 22) (v 1) (pA (f 4) (v 3)) (pR (v 2) (f 5) (v 3)) (v 3) pr (f 24) (f 25) (gQ (v 9) pa) (gQ (v 13) na) rq' (gQ (v 17) ga)) (rgW k ga g1 g2 (f 18) gA gB (v 17).toNat) rs wr), _, rfl, ⟨cf, cp, cn, ce, cg, cu, ct, cr, pr, pa, pq, pf, na, nq, rq', ga, g1, g2, gA, gB, (wn ++ rs), rfl, hpr, hpc.mono (fun q hq => List.mem_append_right _ hq), hpf, hno.mono (fun q hq => List.mem_append_right _ hq), hrq2, hrg⟩, ⟨h1, h2⟩⟩
set_option maxHeartbeats 4000000 in
theorem o_passes {l : Launch} {s0 : State} {D : va_G} {k : Nat → ClassId} (hC : Cx l s0 D k) {cx : Nat} {v : Nat → Int} {f : Nat → Int → Int} {wc : va_W} (hI : Iv v f) (hW : Cst k cx v f wc) (wr : va_W) (p t : Int) (hp : In32 p) (ht : In32 t) (dp sk : Int) (hdp : In32 dp) (hsk : In32 sk) : WdM l s0 D y_C_passes { frames := 8, cells := 8, slots := 161, locals := 138 } [.ref cx, .int (iI (p)), .int (iI (t)), .int (iI (dp)), .int (iI (sk))] (wc ++ wr) (fun ret w => ∃ wc', w = wc' ++ wr ∧ ((0 ≤ p ∧ p < (v 9) ∧ 0 ≤ t ∧ t < (v 13)) ∧ (1 ≤ dp ∧ dp ≤ 100 ∧ 0 ≤ sk ∧ sk ≤ 50)) ∧ ret = some (.int (iI (((itF max (fun j => (f 12) (65 * p + j)) 0 0 (((f 10) p).toNat + 1) + 3) - itF min (fun j => min ((loA (fun j => (f 12) (65 * p + j)) (htF ((f 14) t).toNat) ((f 14) t).toNat ((f 10) p).toNat) j + sk) (itF max (fun j => (f 12) (65 * p + j)) 0 0 (((f 10) p).toNat + 1) + 3)) (itF max (fun j => (f 12) (65 * p + j)) 0 0 (((f 10) p).toNat + 1) + 3) 0 (((f 10) p).toNat + 1) + dp - 1).tdiv dp))) ∧ Cst k cx v f wc' ∧ Iv v f) (fun E w => ∃ wc', w = wc' ++ wr ∧ Cst k cx v f wc' ∧ (E = xIO ∧ ¬ (0 ≤ p ∧ p < (v 9) ∧ 0 ≤ t ∧ t < (v 13)) ∨ E = xIA ∧ ((0 ≤ p ∧ p < (v 9) ∧ 0 ≤ t ∧ t < (v 13)) ∧ ¬ (1 ≤ dp ∧ dp ≤ 100 ∧ 0 ≤ sk ∧ sk ≤ 50)))) 8 161 := by
  obtain ⟨cf, cp, cn, ce, cg, cu, ct, cr, pr, pa, pq, pf, na, nq, rq, ga, g1, g2, gA, gB, rs, rfl, hpr, hpc, hpf, hno, hrq, hrg⟩ := id hW
  obtain ⟨iA, iB, iC, iD, iE, iF⟩ := id hI
  have hrs : ∀ q ∈ rs, q ∈ (rgW k ga g1 g2 (f 18) gA gB (v 17).toNat ++ (rs ++ wr)) := fun q h => List.mem_append_right _ (List.mem_append_left _ h)
  refine wd_conv (c_C_passes hC cx cf cp cn ce cg cu ct cr (v 9) (v 13) (v 17) (v 23) (v 21) (v 22) (v 1) (pA (f 4) (v 3)) (pR (v 2) (f 5) (v 3)) (v 3) pr (f 24) (f 25) (gQ (v 17) ga) pa pq (f 10) (blF (f 10) pf) (f 11) pf rs (rgW k ga g1 g2 (f 18) gA gB (v 17).toNat ++ (rs ++ wr)) hpc hrs iB.1 na nq (f 14) hno iC.1 rq hrq p t hp ht dp sk hdp hsk) (by rw [as3]; exact List.Perm.refl _) (fun ret w h => ?_) (fun E w h => ?_)
  · obtain ⟨h1, h2, rfl, hst⟩ := h
    obtain ⟨wn, rq', rfl, hrq2⟩ := hst
    exact ⟨((cFx k cx cf cp cn ce cg cu ct cr (v 9) (v 13) (v 17) (v 23) (v 21) (v 22) (v 1) (pA (f 4) (v 3)) (pR (v 2) (f 5) (v 3)) (v 3) pr (f 24) (f 25) (gQ (v 9) pa) (gQ (v 13) na) rq' (gQ (v 17) ga) ++ (rgW k ga g1 g2 (f 18) gA gB (v 17).toNat ++ (wn ++ rs))) ++ wr), (pm_new wn (cFx k cx cf cp cn ce cg cu ct cr (v 9) (v 13) (v 17) (v 23) (v 21) (v 22) (v 1) (pA (f 4) (v 3)) (pR (v 2) (f 5) (v 3)) (v 3) pr (f 24) (f 25) (gQ (v 9) pa) (gQ (v 13) na) rq' (gQ (v 17) ga)) _).symm.trans (pm_fin wn (cFx k cx cf cp cn ce cg cu ct cr (v 9) (v 13) (v 17) (v 23) (v 21) (v 22) (v 1) (pA (f 4) (v 3)) (pR (v 2) (f 5) (v 3)) (v 3) pr (f 24) (f 25) (gQ (v 9) pa) (gQ (v 13) na) rq' (gQ (v 17) ga)) (rgW k ga g1 g2 (f 18) gA gB (v 17).toNat) rs wr), _, rfl, ⟨h1, h2⟩, by rw [lo_eq hpf h1.1 h1.2.1 (iB.2.1 p h1.1 h1.2.1).1, bl_eq hpf h1.1 h1.2.1 (iB.2.1 p h1.1 h1.2.1).1], ⟨cf, cp, cn, ce, cg, cu, ct, cr, pr, pa, pq, pf, na, nq, rq', ga, g1, g2, gA, gB, (wn ++ rs), rfl, hpr, hpc.mono (fun q hq => List.mem_append_right _ hq), hpf, hno.mono (fun q hq => List.mem_append_right _ hq), hrq2, hrg⟩, hI⟩
  · obtain ⟨h1, hst⟩ := h
    obtain ⟨wn, rq', rfl, hrq2⟩ := hst
    exact ⟨((cFx k cx cf cp cn ce cg cu ct cr (v 9) (v 13) (v 17) (v 23) (v 21) (v 22) (v 1) (pA (f 4) (v 3)) (pR (v 2) (f 5) (v 3)) (v 3) pr (f 24) (f 25) (gQ (v 9) pa) (gQ (v 13) na) rq' (gQ (v 17) ga) ++ (rgW k ga g1 g2 (f 18) gA gB (v 17).toNat ++ (wn ++ rs))) ++ wr), (pm_new wn (cFx k cx cf cp cn ce cg cu ct cr (v 9) (v 13) (v 17) (v 23) (v 21) (v 22) (v 1) (pA (f 4) (v 3)) (pR (v 2) (f 5) (v 3)) (v 3) pr (f 24) (f 25) (gQ (v 9) pa) (gQ (v 13) na) rq' (gQ (v 17) ga)) _).symm.trans (pm_fin wn (cFx k cx cf cp cn ce cg cu ct cr (v 9) (v 13) (v 17) (v 23) (v 21) (v 22) (v 1) (pA (f 4) (v 3)) (pR (v 2) (f 5) (v 3)) (v 3) pr (f 24) (f 25) (gQ (v 9) pa) (gQ (v 13) na) rq' (gQ (v 17) ga)) (rgW k ga g1 g2 (f 18) gA gB (v 17).toNat) rs wr), _, rfl, ⟨cf, cp, cn, ce, cg, cu, ct, cr, pr, pa, pq, pf, na, nq, rq', ga, g1, g2, gA, gB, (wn ++ rs), rfl, hpr, hpc.mono (fun q hq => List.mem_append_right _ hq), hpf, hno.mono (fun q hq => List.mem_append_right _ hq), hrq2, hrg⟩, h1⟩
set_option maxHeartbeats 4000000 in
theorem o_cut {l : Launch} {s0 : State} {D : va_G} {k : Nat → ClassId} (hC : Cx l s0 D k) {cx : Nat} {v : Nat → Int} {f : Nat → Int → Int} {wc : va_W} (hI : Iv v f) (hW : Cst k cx v f wc) (wr : va_W) (p t : Int) (hp : In32 p) (ht : In32 t) (dp sk : Int) (hdp : In32 dp) (hsk : In32 sk) (kk : Int) (hkk : In32 kk) : WdM l s0 D y_C_cut { frames := 8, cells := 9, slots := 167, locals := 138 } [.ref cx, .int (iI (p)), .int (iI (t)), .int (iI (dp)), .int (iI (sk)), .int (iI (kk))] (wc ++ wr) (fun ret w => ∃ wc', w = wc' ++ wr ∧ ((0 ≤ p ∧ p < (v 9) ∧ 0 ≤ t ∧ t < (v 13)) ∧ ((1 ≤ dp ∧ dp ≤ 100 ∧ 0 ≤ sk ∧ sk ≤ 50) ∧ 1 ≤ kk)) ∧ ret = some (.int (iI (cnF (fun j => decide (min ((loA (fun j => (f 12) (65 * p + j)) (htF ((f 14) t).toNat) ((f 14) t).toNat ((f 10) p).toNat) j + sk) (itF max (fun j => (f 12) (65 * p + j)) 0 0 (((f 10) p).toNat + 1) + 3) < (itF max (fun j => (f 12) (65 * p + j)) 0 0 (((f 10) p).toNat + 1) + 3) - (kk - 1) * dp)) 0 (((f 10) p).toNat + 1)))) ∧ Cst k cx v f wc' ∧ Iv v f) (fun E w => ∃ wc', w = wc' ++ wr ∧ Cst k cx v f wc' ∧ (E = xIO ∧ ¬ (0 ≤ p ∧ p < (v 9) ∧ 0 ≤ t ∧ t < (v 13)) ∨ E = xIA ∧ ((0 ≤ p ∧ p < (v 9) ∧ 0 ≤ t ∧ t < (v 13)) ∧ ¬ ((1 ≤ dp ∧ dp ≤ 100 ∧ 0 ≤ sk ∧ sk ≤ 50) ∧ 1 ≤ kk)))) 9 167 := by
  obtain ⟨cf, cp, cn, ce, cg, cu, ct, cr, pr, pa, pq, pf, na, nq, rq, ga, g1, g2, gA, gB, rs, rfl, hpr, hpc, hpf, hno, hrq, hrg⟩ := id hW
  obtain ⟨iA, iB, iC, iD, iE, iF⟩ := id hI
  have hrs : ∀ q ∈ rs, q ∈ (rgW k ga g1 g2 (f 18) gA gB (v 17).toNat ++ (rs ++ wr)) := fun q h => List.mem_append_right _ (List.mem_append_left _ h)
  refine wd_conv (c_C_cut hC cx cf cp cn ce cg cu ct cr (v 9) (v 13) (v 17) (v 23) (v 21) (v 22) (v 1) (pA (f 4) (v 3)) (pR (v 2) (f 5) (v 3)) (v 3) pr (f 24) (f 25) (gQ (v 17) ga) pa pq (f 10) (blF (f 10) pf) (f 11) pf rs (rgW k ga g1 g2 (f 18) gA gB (v 17).toNat ++ (rs ++ wr)) hpc hrs iB.1 na nq (f 14) hno iC.1 rq hrq p t hp ht dp sk hdp hsk kk hkk) (by rw [as3]; exact List.Perm.refl _) (fun ret w h => ?_) (fun E w h => ?_)
  · obtain ⟨h1, h2, rfl, hst⟩ := h
    obtain ⟨wn, rq', rfl, hrq2⟩ := hst
    exact ⟨((cFx k cx cf cp cn ce cg cu ct cr (v 9) (v 13) (v 17) (v 23) (v 21) (v 22) (v 1) (pA (f 4) (v 3)) (pR (v 2) (f 5) (v 3)) (v 3) pr (f 24) (f 25) (gQ (v 9) pa) (gQ (v 13) na) rq' (gQ (v 17) ga) ++ (rgW k ga g1 g2 (f 18) gA gB (v 17).toNat ++ (wn ++ rs))) ++ wr), (pm_new wn (cFx k cx cf cp cn ce cg cu ct cr (v 9) (v 13) (v 17) (v 23) (v 21) (v 22) (v 1) (pA (f 4) (v 3)) (pR (v 2) (f 5) (v 3)) (v 3) pr (f 24) (f 25) (gQ (v 9) pa) (gQ (v 13) na) rq' (gQ (v 17) ga)) _).symm.trans (pm_fin wn (cFx k cx cf cp cn ce cg cu ct cr (v 9) (v 13) (v 17) (v 23) (v 21) (v 22) (v 1) (pA (f 4) (v 3)) (pR (v 2) (f 5) (v 3)) (v 3) pr (f 24) (f 25) (gQ (v 9) pa) (gQ (v 13) na) rq' (gQ (v 17) ga)) (rgW k ga g1 g2 (f 18) gA gB (v 17).toNat) rs wr), _, rfl, ⟨h1, h2⟩, by rw [lo_eq hpf h1.1 h1.2.1 (iB.2.1 p h1.1 h1.2.1).1, bl_eq hpf h1.1 h1.2.1 (iB.2.1 p h1.1 h1.2.1).1], ⟨cf, cp, cn, ce, cg, cu, ct, cr, pr, pa, pq, pf, na, nq, rq', ga, g1, g2, gA, gB, (wn ++ rs), rfl, hpr, hpc.mono (fun q hq => List.mem_append_right _ hq), hpf, hno.mono (fun q hq => List.mem_append_right _ hq), hrq2, hrg⟩, hI⟩
  · obtain ⟨h1, hst⟩ := h
    obtain ⟨wn, rq', rfl, hrq2⟩ := hst
    exact ⟨((cFx k cx cf cp cn ce cg cu ct cr (v 9) (v 13) (v 17) (v 23) (v 21) (v 22) (v 1) (pA (f 4) (v 3)) (pR (v 2) (f 5) (v 3)) (v 3) pr (f 24) (f 25) (gQ (v 9) pa) (gQ (v 13) na) rq' (gQ (v 17) ga) ++ (rgW k ga g1 g2 (f 18) gA gB (v 17).toNat ++ (wn ++ rs))) ++ wr), (pm_new wn (cFx k cx cf cp cn ce cg cu ct cr (v 9) (v 13) (v 17) (v 23) (v 21) (v 22) (v 1) (pA (f 4) (v 3)) (pR (v 2) (f 5) (v 3)) (v 3) pr (f 24) (f 25) (gQ (v 9) pa) (gQ (v 13) na) rq' (gQ (v 17) ga)) _).symm.trans (pm_fin wn (cFx k cx cf cp cn ce cg cu ct cr (v 9) (v 13) (v 17) (v 23) (v 21) (v 22) (v 1) (pA (f 4) (v 3)) (pR (v 2) (f 5) (v 3)) (v 3) pr (f 24) (f 25) (gQ (v 9) pa) (gQ (v 13) na) rq' (gQ (v 17) ga)) (rgW k ga g1 g2 (f 18) gA gB (v 17).toNat) rs wr), _, rfl, ⟨cf, cp, cn, ce, cg, cu, ct, cr, pr, pa, pq, pf, na, nq, rq', ga, g1, g2, gA, gB, (wn ++ rs), rfl, hpr, hpc.mono (fun q hq => List.mem_append_right _ hq), hpf, hno.mono (fun q hq => List.mem_append_right _ hq), hrq2, hrg⟩, h1⟩
theorem NoOk.add {k : Nat → ClassId} {nt : Int} {na nq : Int → Nat} {no : Int → Int} {rs wn : va_W} {n : Int} {a b : Nat} (h : NoOk k nt na nq no rs) (hn : 0 ≤ n ∧ n ≤ 12) (ha : (a, .inr (0, [.ref b])) ∈ wn) (hb : (b, .inl (k 0, ai (n.toNat + 1) (htF n.toNat))) ∈ wn) : NoOk k (nt + 1) (zU na nt a) (zU nq nt b) (zU no nt n) (wn ++ rs) := by
  intro i h0 h1
  by_cases e : i = nt
  · subst e
    rw [zU_eq, zU_eq, zU_eq]
    exact ⟨hn.1, hn.2, List.mem_append_left _ ha, List.mem_append_left _ hb⟩
  · rw [zU_ne e, zU_ne e, zU_ne e]
    exact h.mono (fun q hq => List.mem_append_right _ hq) i h0 (by omega)
theorem RqOk.tool {k : Nat → ClassId} {np nt : Int} {rq : Int → Option Nat} {ln no : Int → Int} {pf : Int → Int → Int} {rs wn : va_W} {n : Int} (h : RqOk k np nt rq ln no pf rs) : RqOk k np (nt + 1) rq ln (zU no nt n) pf (wn ++ rs) := by
  intro p t h0 h1 h2 h3
  rcases h p t h0 h1 h2 h3 with q | ⟨q1, q2, a, b, q3, q4, q5⟩
  · exact Or.inl q
  · refine Or.inr ⟨q1, by omega, a, b, q3, List.mem_append_right _ q4, List.mem_append_right _ ?_⟩
    rw [zU_ne (by omega)]
    exact q5
theorem PcOk.add {k : Nat → ClassId} {np : Int} {pa pq : Int → Nat} {ln wm : Int → Int} {pf : Int → Int → Int} {rs wn : va_W} {L : Nat} {wy : Int} {r : Int → Int} {a b : Nat} (h : PcOk k np pa pq ln (blF ln pf) wm pf rs) (hL : L ≤ 64) (hr : ∀ j : Int, 0 ≤ j → j ≤ L → 0 ≤ r j ∧ r j ≤ 500)
    (ha : (a, .inr (1, [.ref b, .int (iI ((L : Int))), .int (iI (itF max r 0 0 (L + 1) + 3)), .int (iI (wy))])) ∈ wn) (hb : (b, .inl (k 0, ai (L + 1) r)) ∈ wn) : PcOk k (np + 1) (zU pa np a) (zU pq np b) (zU ln np L) (blF (zU ln np L) (zU pf np r)) (zU wm np wy) (zU pf np r) (wn ++ rs) := by
  intro i h0 h1
  by_cases e : i = np
  · subst e
    unfold blF
    rw [zU_eq, zU_eq, zU_eq, zU_eq, zU_eq, Int.toNat_natCast]
    exact ⟨by omega, by omega, hr, rfl, List.mem_append_left _ ha, List.mem_append_left _ hb⟩
  · unfold blF
    rw [zU_ne e, zU_ne e, zU_ne e, zU_ne e, zU_ne e]
    exact h.mono (fun q hq => List.mem_append_right _ hq) i h0 (by omega)
theorem RqOk.piece {k : Nat → ClassId} {np nt : Int} {rq : Int → Option Nat} {ln no : Int → Int} {pf : Int → Int → Int} {rs wn : va_W} {L : Int} {r : Int → Int} (h : RqOk k np nt rq ln no pf rs) : RqOk k (np + 1) nt rq (zU ln np L) no (zU pf np r) (wn ++ rs) := by
  intro p t h0 h1 h2 h3
  rcases h p t h0 h1 h2 h3 with q | ⟨q1, q2, a, b, q3, q4, q5⟩
  · exact Or.inl q
  · refine Or.inr ⟨by omega, q2, a, b, q3, List.mem_append_right _ q4, List.mem_append_right _ ?_⟩
    rw [zU_ne (by omega), zU_ne (by omega)]
    exact q5
set_option maxHeartbeats 4000000 in
theorem o_tool {l : Launch} {s0 : State} {D : va_G} {k : Nat → ClassId} (hC : Cx l s0 D k) {cx : Nat} {v : Nat → Int} {f : Nat → Int → Int} {wc : va_W} (hI : Iv v f) (hW : Cst k cx v f wc) (wr : va_W) (n9 : Int) (hn9 : In32 n9) : WdM l s0 D y_C_tool { frames := 7, cells := 3, slots := 20, locals := 112 } [.ref cx, .int (iI (n9))] (wc ++ wr) (fun ret w => ∃ wc', w = wc' ++ wr ∧ ((0 ≤ n9 ∧ n9 ≤ 12) ∧ (v 13) < 6) ∧ ret = some (.int (iI ((v 13)))) ∧ Cst k cx (vS (vS v 0 0) 13 (v 13 + 1)) (fS f 14 (zU (f 14) (v 13) n9)) wc' ∧ Iv (vS (vS v 0 0) 13 (v 13 + 1)) (fS f 14 (zU (f 14) (v 13) n9))) (fun E w => ∃ wc', w = wc' ++ wr ∧ Cst k cx v f wc' ∧ (E = xIA ∧ ¬ (0 ≤ n9 ∧ n9 ≤ 12) ∨ E = xIS ∧ ((0 ≤ n9 ∧ n9 ≤ 12) ∧ ¬ (v 13) < 6))) 3 20 := by
  obtain ⟨cf, cp, cn, ce, cg, cu, ct, cr, pr, pa, pq, pf, na, nq, rq, ga, g1, g2, gA, gB, rs, rfl, hpr, hpc, hpf, hno, hrq, hrg⟩ := id hW
  obtain ⟨iA, iB, iC, iD, iE, iF⟩ := id hI
  have hrs : ∀ q ∈ rs, q ∈ (rgW k ga g1 g2 (f 18) gA gB (v 17).toNat ++ (rs ++ wr)) := fun q h => List.mem_append_right _ (List.mem_append_left _ h)
  by_cases hin : 0 ≤ n9 ∧ n9 ≤ 12
  · have en : ((n9.toNat : Nat) : Int) = n9 := Int.toNat_of_nonneg hin.1
    have hin9 := c_C_tool hC cx cf cp cn ce cg cu ct cr (v 9) (v 13) (v 17) (v 23) (v 21) (v 22) (v 1) (pA (f 4) (v 3)) (pR (v 2) (f 5) (v 3)) (v 3) pr (f 24) (f 25) (gQ (v 9) pa) (gQ (v 13) na) rq (gQ (v 17) ga) (rgW k ga g1 g2 (f 18) gA gB (v 17).toNat ++ (rs ++ wr)) iC.1 n9.toNat (by omega)
    rw [en] at hin9
    refine wd_conv hin9 (by rw [as3]; exact List.Perm.refl _) (fun ret w h => ?_) (fun E w h => ?_)
    · obtain ⟨h1, q6, q5, rfl, rfl⟩ := h
      rw [gQ_put iC.1.1]
      refine ⟨((cFx k cx cf cp cn ce cg cu ct cr (v 9) (v 13 + 1) (v 17) (v 23) (v 21) (v 22) (v 1) (pA (f 4) (v 3)) (pR (v 2) (f 5) (v 3)) (v 3) pr (f 24) (f 25) (gQ (v 9) pa) (gQ (v 13 + 1) (zU na (v 13) q5)) rq (gQ (v 17) ga) ++ (rgW k ga g1 g2 (f 18) gA gB (v 17).toNat ++ (([(q6, .inl (k 0, ai (n9.toNat + 1) (htF n9.toNat))), (q5, .inr (0, [.ref q6]))] : va_W) ++ rs))) ++ wr), pm_fin ([(q6, .inl (k 0, ai (n9.toNat + 1) (htF n9.toNat))), (q5, .inr (0, [.ref q6]))] : va_W) (cFx k cx cf cp cn ce cg cu ct cr (v 9) (v 13 + 1) (v 17) (v 23) (v 21) (v 22) (v 1) (pA (f 4) (v 3)) (pR (v 2) (f 5) (v 3)) (v 3) pr (f 24) (f 25) (gQ (v 9) pa) (gQ (v 13 + 1) (zU na (v 13) q5)) rq (gQ (v 17) ga)) (rgW k ga g1 g2 (f 18) gA gB (v 17).toNat) rs wr, _, rfl, ⟨hin, h1⟩, rfl, ?_, iA, iB, ⟨⟨show 0 ≤ v 13 + 1 from by have := iC.1; omega, show v 13 + 1 ≤ 6 from by omega⟩, fun i q1 q2 => ?_⟩, iD, iE, iF⟩
      · exact ⟨cf, cp, cn, ce, cg, cu, ct, cr, pr, pa, pq, pf, (zU na (v 13) q5), (zU nq (v 13) q6), rq, ga, g1, g2, gA, gB, (([(q6, .inl (k 0, ai (n9.toNat + 1) (htF n9.toNat))), (q5, .inr (0, [.ref q6]))] : va_W) ++ rs), rfl, hpr, hpc.mono (fun q hq => List.mem_append_right _ hq), hpf, hno.add hin (by simp) (by simp), hrq.tool, hrg⟩
      · show 0 ≤ zU (f 14) (v 13) n9 i ∧ zU (f 14) (v 13) n9 i ≤ 12
        by_cases e : i = v 13
        · rw [e, zU_eq]
          exact hin
        · rw [zU_ne e]
          exact iC.2 i q1 (by have : i < v 13 + 1 := q2; omega)
    · obtain ⟨rfl, h1, h2⟩ := h
      exact ⟨((cFx k cx cf cp cn ce cg cu ct cr (v 9) (v 13) (v 17) (v 23) (v 21) (v 22) (v 1) (pA (f 4) (v 3)) (pR (v 2) (f 5) (v 3)) (v 3) pr (f 24) (f 25) (gQ (v 9) pa) (gQ (v 13) na) rq (gQ (v 17) ga) ++ (rgW k ga g1 g2 (f 18) gA gB (v 17).toNat ++ ([] ++ rs))) ++ wr), pm_fin [] (cFx k cx cf cp cn ce cg cu ct cr (v 9) (v 13) (v 17) (v 23) (v 21) (v 22) (v 1) (pA (f 4) (v 3)) (pR (v 2) (f 5) (v 3)) (v 3) pr (f 24) (f 25) (gQ (v 9) pa) (gQ (v 13) na) rq (gQ (v 17) ga)) (rgW k ga g1 g2 (f 18) gA gB (v 17).toNat) rs wr, _, rfl, hW, Or.inr ⟨h1, hin, h2⟩⟩
  · refine wd_conv (c_C_toolBad hC cx cf cp cn ce cg cu ct cr (v 9) (v 13) (v 17) (v 23) (v 21) (v 22) (v 1) (pA (f 4) (v 3)) (pR (v 2) (f 5) (v 3)) (v 3) pr (f 24) (f 25) (gQ (v 9) pa) (gQ (v 13) na) rq (gQ (v 17) ga) (rgW k ga g1 g2 (f 18) gA gB (v 17).toNat ++ (rs ++ wr)) n9 hn9 hin) (by rw [as3]; exact List.Perm.refl _) (fun ret w h => ?_) (fun E w h => ?_)
    · exact h.elim
    · obtain ⟨rfl, h1⟩ := h
      exact ⟨((cFx k cx cf cp cn ce cg cu ct cr (v 9) (v 13) (v 17) (v 23) (v 21) (v 22) (v 1) (pA (f 4) (v 3)) (pR (v 2) (f 5) (v 3)) (v 3) pr (f 24) (f 25) (gQ (v 9) pa) (gQ (v 13) na) rq (gQ (v 17) ga) ++ (rgW k ga g1 g2 (f 18) gA gB (v 17).toNat ++ ([] ++ rs))) ++ wr), pm_fin [] (cFx k cx cf cp cn ce cg cu ct cr (v 9) (v 13) (v 17) (v 23) (v 21) (v 22) (v 1) (pA (f 4) (v 3)) (pR (v 2) (f 5) (v 3)) (v 3) pr (f 24) (f 25) (gQ (v 9) pa) (gQ (v 13) na) rq (gQ (v 17) ga)) (rgW k ga g1 g2 (f 18) gA gB (v 17).toNat) rs wr, _, rfl, hW, Or.inl ⟨h1, hin⟩⟩
/-- the new PIECE's radii, on both sides -/
theorem new_r {y1 y2 y3 y9 : Int} {f4 f5 f6 f7 f8 f12 pr g12 : Int → Int} (iA : IvA y1 y2 y3 f4 f5 f6 f7 f8) (hpr : PrOk y2 y3 f4 f5 f6 f7 f8 pr) (hg : g12 (65 * y9) = y2 ∧ (∀ j : Int, j < 65 * y9 → g12 j = f12 j) ∧ ∀ w x : Int, 0 ≤ w → w < y3 → pA f4 w < x → x ≤ f4 w → g12 (65 * y9 + x) = wyF y2 f4 f5 f6 f7 f8 w x) (j : Int) (h0 : 0 ≤ j) (h1 : j ≤ pA f4 y3) : g12 (65 * y9 + j) = pr j := by
  by_cases e : j = 0
  · subst e
    rw [Int.add_zero, hg.1, hpr.1]
  · obtain ⟨n, en⟩ : ∃ n : Nat, (n : Int) = y3 := ⟨y3.toNat, Int.toNat_of_nonneg iA.2.2.2.1.1⟩
    obtain ⟨w, g1, g2, g3, g4⟩ := cover iA.2.2.2.2.2 n (by omega) j (by omega) (by rw [en]; exact h1)
    rw [hg.2.2 w j g1 (by omega) g3 g4, hpr.2.1 w j g1 (by omega) g3 g4]
theorem pf_add {y1 y2 y3 y9 : Int} {f4 f5 f6 f7 f8 f10 f11 f12 pr g12 r' : Int → Int} {pf : Int → Int → Int} (iA : IvA y1 y2 y3 f4 f5 f6 f7 f8) (iB : IvB y9 f10 f11 f12) (hpr : PrOk y2 y3 f4 f5 f6 f7 f8 pr) (hpf : PfOk y9 f10 f12 pf) (hg : g12 (65 * y9) = y2 ∧ (∀ j : Int, j < 65 * y9 → g12 j = f12 j) ∧ ∀ w x : Int, 0 ≤ w → w < y3 → pA f4 w < x → x ≤ f4 w → g12 (65 * y9 + x) = wyF y2 f4 f5 f6 f7 f8 w x)
    (hr : ∀ j : Int, 0 ≤ j → j ≤ pA f4 y3 → r' j = pr j) : PfOk (y9 + 1) (zU f10 y9 (pA f4 y3)) g12 (zU pf y9 r') := by
  intro i h0 h1 j h2 h3
  by_cases e : i = y9
  · subst e
    rw [zU_eq] at h3 ⊢
    rw [hr j h2 h3, new_r iA hpr hg j h2 h3]
  · rw [zU_ne e] at h3 ⊢
    have := iB.2.1 i h0 (by omega)
    rw [hg.2.1 _ (by omega)]
    exact hpf i h0 (by omega) j h2 h3
theorem ivB_add {y1 y2 y3 y9 : Int} {f4 f5 f6 f7 f8 f10 f11 f12 pr g12 : Int → Int} (iA : IvA y1 y2 y3 f4 f5 f6 f7 f8) (iB : IvB y9 f10 f11 f12) (hpr : PrOk y2 y3 f4 f5 f6 f7 f8 pr) (hg : g12 (65 * y9) = y2 ∧ (∀ j : Int, j < 65 * y9 → g12 j = f12 j) ∧ ∀ w x : Int, 0 ≤ w → w < y3 → pA f4 w < x → x ≤ f4 w → g12 (65 * y9 + x) = wyF y2 f4 f5 f6 f7 f8 w x) (h1 : y9 < 6) (h2 : ¬ y3 = 0) :
    IvB (y9 + 1) (zU f10 y9 (pA f4 y3)) (zU f11 y9 y3) g12 := by
  obtain ⟨b1, b2, b3, b4, b5⟩ := iB
  have a4 := iA.2.2.2.1
  refine ⟨by omega, fun i q1 q2 => ?_, fun i q1 q2 j q3 q4 => ?_, fun i q1 q2 => ?_, fun i q1 q2 => ?_⟩
  · by_cases e : i = y9
    · rw [e, zU_eq]
      omega
    · rw [zU_ne e]
      exact b2 i q1 (by omega)
  · by_cases e : i = y9
    · subst e
      rw [zU_eq] at q4
      rw [new_r iA hpr hg j q3 q4]
      exact hpr.2.2 j q3 q4
    · rw [zU_ne e] at q4
      have := b2 i q1 (by omega)
      rw [hg.2.1 _ (by omega)]
      exact b3 i q1 (by omega) j q3 q4
  · by_cases e : i = y9
    · rw [e, zU_eq]
      omega
    · rw [zU_ne e]
      exact b4 i q1 (by omega)
  · by_cases e : i = y9
    · rw [e, zU_eq]
      omega
    · rw [zU_ne e]
      exact b5 i q1 (by omega)
set_option maxHeartbeats 4000000 in
theorem o_turn {l : Launch} {s0 : State} {D : va_G} {k : Nat → ClassId} (hC : Cx l s0 D k) {cx : Nat} {v : Nat → Int} {f : Nat → Int → Int} {wc : va_W} (hI : Iv v f) (hW : Cst k cx v f wc) (wr : va_W)  : WdM l s0 D y_C_turn { frames := 6, cells := 2, slots := 69, locals := 135 } [.ref cx] (wc ++ wr) (fun ret w => ∃ wc', w = wc' ++ wr ∧ ((v 9) < 6 ∧ ¬ (v 3) = 0) ∧ ret = some (.int (iI (v 9))) ∧ ∀ g12 : Int → Int, (g12 (65 * v 9) = v 2 ∧ (∀ j : Int, j < 65 * v 9 → g12 j = f 12 j) ∧ ∀ w x : Int, 0 ≤ w → w < v 3 → pA (f 4) w < x → x ≤ f 4 w → g12 (65 * v 9 + x) = wyF (v 2) (f 4) (f 5) (f 6) (f 7) (f 8) w x) → Cst k cx (vS (vS v 0 0) 9 (v 9 + 1)) (fS (fS (fS f 10 (zU (f 10) (v 9) (pA (f 4) (v 3)))) 11 (zU (f 11) (v 9) (v 3))) 12 g12) wc' ∧ Iv (vS (vS v 0 0) 9 (v 9 + 1)) (fS (fS (fS f 10 (zU (f 10) (v 9) (pA (f 4) (v 3)))) 11 (zU (f 11) (v 9) (v 3))) 12 g12)) (fun E w => ∃ wc', w = wc' ++ wr ∧ Cst k cx v f wc' ∧ (E = xIS ∧ ¬ ((v 9) < 6 ∧ ¬ (v 3) = 0))) 2 69 := by
  obtain ⟨cf, cp, cn, ce, cg, cu, ct, cr, pr, pa, pq, pf, na, nq, rq, ga, g1, g2, gA, gB, rs, rfl, hpr, hpc, hpf, hno, hrq, hrg⟩ := id hW
  obtain ⟨iA, iB, iC, iD, iE, iF⟩ := id hI
  have hrs : ∀ q ∈ rs, q ∈ (rgW k ga g1 g2 (f 18) gA gB (v 17).toNat ++ (rs ++ wr)) := fun q h => List.mem_append_right _ (List.mem_append_left _ h)
  obtain ⟨L, eL⟩ : ∃ L : Nat, (L : Int) = pA (f 4) (v 3) := ⟨(pA (f 4) (v 3)).toNat, Int.toNat_of_nonneg (by have := iA.2.2.2.1; omega)⟩
  have hin9 := c_C_turn hC cx cf cp cn ce cg cu ct cr (v 9) (v 13) (v 17) (v 23) (v 21) (v 22) (v 1) (pR (v 2) (f 5) (v 3)) (v 3) pr (f 24) (f 25) (gQ (v 9) pa) (gQ (v 13) na) rq (gQ (v 17) ga) (rgW k ga g1 g2 (f 18) gA gB (v 17).toNat ++ (rs ++ wr)) L (by have := iA.2.2.2.1; omega) (fun j q1 q2 => hpr.2.2 j q1 (by omega)) iB.1 (by have := iA.2.2.2.1; omega)
  have hL1 : (L : Int) ≤ 64 := by have := iA.2.2.2.1; omega
  have eW : ((cFx k cx cf cp cn ce cg cu ct cr (v 9) (v 13) (v 17) (v 23) (v 21) (v 22) (v 1) (pA (f 4) (v 3)) (pR (v 2) (f 5) (v 3)) (v 3) pr (f 24) (f 25) (gQ (v 9) pa) (gQ (v 13) na) rq (gQ (v 17) ga) ++ (rgW k ga g1 g2 (f 18) gA gB (v 17).toNat ++ rs)) ++ wr) = ((cFx k cx cf cp cn ce cg cu ct cr (v 9) (v 13) (v 17) (v 23) (v 21) (v 22) (v 1) (L : Int) (pR (v 2) (f 5) (v 3)) (v 3) pr (f 24) (f 25) (gQ (v 9) pa) (gQ (v 13) na) rq (gQ (v 17) ga) ++ (rgW k ga g1 g2 (f 18) gA gB (v 17).toNat ++ rs)) ++ wr) := by rw [eL]
  refine wd_conv hin9 (by rw [eW, as3]; exact List.Perm.refl _) (fun ret w h => ?_) (fun E w h => ?_)
  · obtain ⟨h1, h2, q6, q5, r', rfl, hcp, rfl⟩ := h
    rw [gQ_put iB.1.1]
    refine ⟨((cFx k cx cf cp cn ce cg cu ct cr (v 9 + 1) (v 13) (v 17) (v 23) (v 21) (v 22) (v 1) (L : Int) (pR (v 2) (f 5) (v 3)) (v 3) pr (f 24) (f 25) (gQ (v 9 + 1) (zU pa (v 9) q5)) (gQ (v 13) na) rq (gQ (v 17) ga) ++ (rgW k ga g1 g2 (f 18) gA gB (v 17).toNat ++ (([(q6, .inl (k 0, ai (L + 1) r')), (q5, .inr (1, [.ref q6, .int (iI ((L : Int))), .int (iI (itF max r' 0 0 (L + 1) + 3)), .int (iI (v 3))]))] : va_W) ++ rs))) ++ wr), pm_fin ([(q6, .inl (k 0, ai (L + 1) r')), (q5, .inr (1, [.ref q6, .int (iI ((L : Int))), .int (iI (itF max r' 0 0 (L + 1) + 3)), .int (iI (v 3))]))] : va_W) (cFx k cx cf cp cn ce cg cu ct cr (v 9 + 1) (v 13) (v 17) (v 23) (v 21) (v 22) (v 1) (L : Int) (pR (v 2) (f 5) (v 3)) (v 3) pr (f 24) (f 25) (gQ (v 9 + 1) (zU pa (v 9) q5)) (gQ (v 13) na) rq (gQ (v 17) ga)) (rgW k ga g1 g2 (f 18) gA gB (v 17).toNat) rs wr, _, rfl, ⟨h1, h2⟩, rfl, fun g12 hg => ⟨?_, iA, ?_, iC, iD, iE, iF⟩⟩
    · refine ⟨cf, cp, cn, ce, cg, cu, ct, cr, pr, zU pa (v 9) q5, zU pq (v 9) q6, zU pf (v 9) r', na, nq, rq, ga, g1, g2, gA, gB, ([(q6, .inl (k 0, ai (L + 1) r')), (q5, .inr (1, [.ref q6, .int (iI ((L : Int))), .int (iI (itF max r' 0 0 (L + 1) + 3)), .int (iI (v 3))]))] : va_W) ++ rs, ?_, hpr, ?_, ?_, hno.mono (fun q hq => List.mem_append_right _ hq), ?_, hrg⟩
      · show _ = cFx k cx cf cp cn ce cg cu ct cr (v 9 + 1) (v 13) (v 17) (v 23) (v 21) (v 22) (v 1) (pA (f 4) (v 3)) (pR (v 2) (f 5) (v 3)) (v 3) pr (f 24) (f 25) (gQ (v 9 + 1) (zU pa (v 9) q5)) (gQ (v 13) na) rq (gQ (v 17) ga) ++ (rgW k ga g1 g2 (f 18) gA gB (v 17).toNat ++ (([(q6, .inl (k 0, ai (L + 1) r')), (q5, .inr (1, [.ref q6, .int (iI ((L : Int))), .int (iI (itF max r' 0 0 (L + 1) + 3)), .int (iI (v 3))]))] : va_W) ++ rs))
        rw [eL]
      · show PcOk k (v 9 + 1) (zU pa (v 9) q5) (zU pq (v 9) q6) (zU (f 10) (v 9) (pA (f 4) (v 3))) (blF (zU (f 10) (v 9) (pA (f 4) (v 3))) (zU pf (v 9) r')) (zU (f 11) (v 9) (v 3)) (zU pf (v 9) r') (([(q6, .inl (k 0, ai (L + 1) r')), (q5, .inr (1, [.ref q6, .int (iI ((L : Int))), .int (iI (itF max r' 0 0 (L + 1) + 3)), .int (iI (v 3))]))] : va_W) ++ rs)
        rw [← eL]
        exact hpc.add (by omega) (fun j q1 q2 => by rw [hcp j q1 (by omega)]; exact hpr.2.2 j q1 (by omega)) (by simp) (by simp)
      · show PfOk (v 9 + 1) (zU (f 10) (v 9) (pA (f 4) (v 3))) g12 (zU pf (v 9) r')
        exact pf_add iA iB hpr hpf hg (fun j q1 q2 => hcp j q1 (by omega))
      · show RqOk k (v 9 + 1) (v 13) rq (zU (f 10) (v 9) (pA (f 4) (v 3))) (f 14) (zU pf (v 9) r') (([(q6, .inl (k 0, ai (L + 1) r')), (q5, .inr (1, [.ref q6, .int (iI ((L : Int))), .int (iI (itF max r' 0 0 (L + 1) + 3)), .int (iI (v 3))]))] : va_W) ++ rs)
        exact hrq.piece
    · exact ivB_add iA iB hpr hg h1 h2
  · obtain ⟨rfl, h1, h2⟩ := h
    rw [eL]
    exact ⟨((cFx k cx cf cp cn ce cg cu ct cr (v 9) (v 13) (v 17) (v 23) (v 21) (v 22) (v 1) (pA (f 4) (v 3)) (pR (v 2) (f 5) (v 3)) (v 3) pr (f 24) (f 25) (gQ (v 9) pa) (gQ (v 13) na) rq (gQ (v 17) ga) ++ (rgW k ga g1 g2 (f 18) gA gB (v 17).toNat ++ ([] ++ rs))) ++ wr), pm_fin [] (cFx k cx cf cp cn ce cg cu ct cr (v 9) (v 13) (v 17) (v 23) (v 21) (v 22) (v 1) (pA (f 4) (v 3)) (pR (v 2) (f 5) (v 3)) (v 3) pr (f 24) (f 25) (gQ (v 9) pa) (gQ (v 13) na) rq (gQ (v 17) ga)) (rgW k ga g1 g2 (f 18) gA gB (v 17).toNat) rs wr, _, rfl, hW, ⟨h1, h2⟩⟩
/-- one more RING -/
theorem rg_add {k : Nat → ClassId} {ga g1 g2 : Int → Nat} {cw : Int → Int} {gA gB : Int → Int → Int} {n : Int} (hn : 0 ≤ n) (hc : cw n = 0) (q5 q6 q7 : Nat) : rgW k (zU ga n q5) (zU g1 n q6) (zU g2 n q7) cw (zU gA n (fun _ => 0)) (zU gB n (fun _ => 0)) (n + 1).toNat = rgW k ga g1 g2 cw gA gB n.toNat ++ [(q5, .inr (4, [.ref q6, .ref q7, .int (iI (0)), .long (jJ (0))])), (q6, .inl (k 0, ai 16 (fun _ => 0))), (q7, .inl (k 0, ai 16 (fun _ => 0)))] := by
  unfold rgW
  have e : ((n.toNat : Nat) : Int) = n := Int.toNat_of_nonneg hn
  rw [show (n + 1).toNat = n.toNat + 1 by omega, List.range_succ, List.flatMap_append, List.flatMap_cons, List.flatMap_nil, List.append_nil]
  congr 1
  · refine fm_congr _ (fun x hx => ?_)
    have := List.mem_range.mp hx
    unfold rgC
    rw [zU_ne (by omega), zU_ne (by omega), zU_ne (by omega), zU_ne (by omega), zU_ne (by omega)]
  · unfold rgC
    rw [e, zU_eq, zU_eq, zU_eq, zU_eq, zU_eq, hc]
    rfl
theorem pm_ring (a b c : Nat × va_E) (F G R W : va_W) : ([c, b, a] ++ (F ++ (G ++ (R ++ W)))).Perm ((F ++ ((G ++ [a, b, c]) ++ R)) ++ W) := by
  have h1 : ([c, b, a] : va_W).Perm [a, b, c] := List.reverse_perm [a, b, c]
  refine (h1.append_right _).trans ((pm_new [a, b, c] F _).trans ?_)
  rw [List.append_assoc F, List.append_assoc]
  refine List.Perm.append_left F ?_
  rw [← List.append_assoc [a, b, c]]
  exact List.perm_append_comm.append_right _
set_option maxHeartbeats 4000000 in
theorem o_ring {l : Launch} {s0 : State} {D : va_G} {k : Nat → ClassId} (hC : Cx l s0 D k) {cx : Nat} {v : Nat → Int} {f : Nat → Int → Int} {wc : va_W} (hI : Iv v f) (hW : Cst k cx v f wc) (wr : va_W)  : WdM l s0 D y_C_ring { frames := 6, cells := 4, slots := 42, locals := 90 } [.ref cx] (wc ++ wr) (fun ret w => ∃ wc', w = wc' ++ wr ∧ (v 17) < 6 ∧ ret = some (.int (iI ((v 17)))) ∧ Cst k cx (vS (vS v 0 0) 17 (v 17 + 1)) f wc' ∧ Iv (vS (vS v 0 0) 17 (v 17 + 1)) f) (fun E w => ∃ wc', w = wc' ++ wr ∧ Cst k cx v f wc' ∧ (E = xIS ∧ ¬ (v 17) < 6)) 4 42 := by
  obtain ⟨cf, cp, cn, ce, cg, cu, ct, cr, pr, pa, pq, pf, na, nq, rq, ga, g1, g2, gA, gB, rs, rfl, hpr, hpc, hpf, hno, hrq, hrg⟩ := id hW
  obtain ⟨iA, iB, iC, iD, iE, iF⟩ := id hI
  have hrs : ∀ q ∈ rs, q ∈ (rgW k ga g1 g2 (f 18) gA gB (v 17).toNat ++ (rs ++ wr)) := fun q h => List.mem_append_right _ (List.mem_append_left _ h)
  refine wd_conv (c_C_ring hC cx cf cp cn ce cg cu ct cr (v 9) (v 13) (v 17) (v 23) (v 21) (v 22) (v 1) (pA (f 4) (v 3)) (pR (v 2) (f 5) (v 3)) (v 3) pr (f 24) (f 25) (gQ (v 9) pa) (gQ (v 13) na) rq (gQ (v 17) ga) (rgW k ga g1 g2 (f 18) gA gB (v 17).toNat ++ (rs ++ wr)) iD.1) (by rw [as3]; exact List.Perm.refl _) (fun ret w h => ?_) (fun E w h => ?_)
  · obtain ⟨h1, q7, q6, q5, rfl, rfl⟩ := h
    rw [gQ_put iD.1.1]
    have e0 := iD.2.2.2 (v 17) (Int.le_refl _) h1
    have eR := rg_add (k := k) (ga := ga) (g1 := g1) (g2 := g2) (cw := f 18) (gA := gA) (gB := gB) iD.1.1 e0 q5 q6 q7
    refine ⟨(cFx k cx cf cp cn ce cg cu ct cr (v 9) (v 13) (v 17 + 1) (v 23) (v 21) (v 22) (v 1) (pA (f 4) (v 3)) (pR (v 2) (f 5) (v 3)) (v 3) pr (f 24) (f 25) (gQ (v 9) pa) (gQ (v 13) na) rq (gQ (v 17 + 1) (zU ga (v 17) q5)) ++ (rgW k (zU ga (v 17) q5) (zU g1 (v 17) q6) (zU g2 (v 17) q7) (f 18) (zU gA (v 17) (fun _ => 0)) (zU gB (v 17) (fun _ => 0)) (v 17 + 1).toNat ++ rs)) ++ wr, by rw [eR]; exact pm_ring _ _ _ (cFx k cx cf cp cn ce cg cu ct cr (v 9) (v 13) (v 17 + 1) (v 23) (v 21) (v 22) (v 1) (pA (f 4) (v 3)) (pR (v 2) (f 5) (v 3)) (v 3) pr (f 24) (f 25) (gQ (v 9) pa) (gQ (v 13) na) rq (gQ (v 17 + 1) (zU ga (v 17) q5))) (rgW k ga g1 g2 (f 18) gA gB (v 17).toNat) rs wr, _, rfl, h1, rfl, ?_, iA, iB, iC, ?_, iE, iF⟩
    · refine ⟨cf, cp, cn, ce, cg, cu, ct, cr, pr, pa, pq, pf, na, nq, rq, zU ga (v 17) q5, zU g1 (v 17) q6, zU g2 (v 17) q7, zU gA (v 17) (fun _ => 0), zU gB (v 17) (fun _ => 0), rs, rfl, hpr, hpc, hpf, hno, hrq, fun i q1 q2 j q3 q4 => ?_⟩
      have q2 : i < v 17 + 1 := q2
      have q4 : j < f 18 i := q4
      by_cases e : i = v 17
      · rw [e, e0] at q4
        omega
      · rw [zU_ne e, zU_ne e]
        exact hrg i q1 (by omega) j q3 q4
    · refine ⟨⟨show 0 ≤ v 17 + 1 from by have := iD.1; omega, show v 17 + 1 ≤ 6 from by omega⟩, fun i q1 q2 => ?_, fun i q1 q2 j q3 q4 => ?_, fun i q1 q2 => iD.2.2.2 i (by have : v 17 + 1 ≤ i := q1; omega) q2⟩
      · have q2 : i < v 17 + 1 := q2
        show 0 ≤ f 18 i ∧ f 18 i ≤ 16
        by_cases e : i = v 17
        · rw [e, e0]
          decide
        · exact iD.2.1 i q1 (by omega)
      · have q2 : i < v 17 + 1 := q2
        have q4 : j < f 18 i := q4
        by_cases e : i = v 17
        · rw [e, e0] at q4
          omega
        · exact iD.2.2.1 i q1 (by omega) j q3 q4
  · obtain ⟨rfl, h1, h2⟩ := h
    exact ⟨((cFx k cx cf cp cn ce cg cu ct cr (v 9) (v 13) (v 17) (v 23) (v 21) (v 22) (v 1) (pA (f 4) (v 3)) (pR (v 2) (f 5) (v 3)) (v 3) pr (f 24) (f 25) (gQ (v 9) pa) (gQ (v 13) na) rq (gQ (v 17) ga) ++ (rgW k ga g1 g2 (f 18) gA gB (v 17).toNat ++ ([] ++ rs))) ++ wr), pm_fin [] (cFx k cx cf cp cn ce cg cu ct cr (v 9) (v 13) (v 17) (v 23) (v 21) (v 22) (v 1) (pA (f 4) (v 3)) (pR (v 2) (f 5) (v 3)) (v 3) pr (f 24) (f 25) (gQ (v 9) pa) (gQ (v 13) na) rq (gQ (v 17) ga)) (rgW k ga g1 g2 (f 18) gA gB (v 17).toNat) rs wr, _, rfl, hW, ⟨h1, h2⟩⟩
theorem pm_rg {C O G : va_W} (F R W : va_W) (h : G.Perm (C ++ O)) : ((F ++ (G ++ R)) ++ W).Perm (C ++ (F ++ (O ++ (R ++ W)))) := by
  rw [as3]
  refine ((h.append_right (R ++ W)).append_left F).trans ?_
  rw [List.append_assoc]
  exact (pm_new C F _).symm
theorem sm_add {ga gb : Int → Int} {n : Int} (hn : 0 ≤ n) (a b : Int) : smF (zU ga n a) (zU gb n b) (n + 1).toNat = smF ga gb n.toNat + a * (27720 / b) := by
  rw [show (n + 1).toNat = n.toNat + 1 by omega, smF_s, show (0 : Int) + (n.toNat : Int) = n by omega, zU_eq, zU_eq, smF_congr (ga' := ga) (gb' := gb) _ (fun j h1 h2 => ⟨zU_ne (by omega), zU_ne (by omega)⟩)]
theorem rg_g {f18 f19 f20 : Int → Int} {gA gB : Int → Int → Int} {y17 p ab be : Int} (iD : IvD y17 f18 f19 f20) (hrg : ∀ i : Int, 0 ≤ i → i < y17 → ∀ j : Int, 0 ≤ j → j < f18 i → gA i j = f19 (16 * i + j) ∧ gB i j = f20 (16 * i + j)) (hp : 0 ≤ p ∧ p < y17) (h16 : f18 p < 16) (hab : 1 ≤ ab ∧ ab ≤ 3600) (hbe : 1 ≤ be ∧ be ≤ 12) :
    (∀ i : Int, 0 ≤ i → i < y17 → ∀ j : Int, 0 ≤ j → j < zU f18 p (f18 p + 1) i → zU gA p (zU (gA p) (f18 p) ab) i j = zU f19 (16 * p + f18 p) ab (16 * i + j) ∧ zU gB p (zU (gB p) (f18 p) be) i j = zU f20 (16 * p + f18 p) be (16 * i + j)) ∧ IvD y17 (zU f18 p (f18 p + 1)) (zU f19 (16 * p + f18 p) ab) (zU f20 (16 * p + f18 p) be) := by
  obtain ⟨d1, d2, d3, d4⟩ := iD
  have hp2 := d2 p hp.1 hp.2
  refine ⟨fun i h0 h1 j h2 h3 => ?_, d1, fun i h0 h1 => ?_, fun i h0 h1 j h2 h3 => ?_, fun i h0 h1 => ?_⟩
  · by_cases e : i = p
    · subst e
      rw [zU_eq] at h3
      rw [zU_eq, zU_eq]
      by_cases e2 : j = f18 i
      · subst e2
        rw [zU_eq, zU_eq, zU_eq, zU_eq]
        exact ⟨rfl, rfl⟩
      · rw [zU_ne e2, zU_ne e2, zU_ne (by omega), zU_ne (by omega)]
        exact hrg i h0 h1 j h2 (by omega)
    · rw [zU_ne e] at h3
      have := d2 i h0 h1
      rw [zU_ne e, zU_ne e, zU_ne (by omega), zU_ne (by omega)]
      exact hrg i h0 h1 j h2 h3
  · by_cases e : i = p
    · rw [e, zU_eq]
      omega
    · rw [zU_ne e]
      exact d2 i h0 h1
  · by_cases e : i = p
    · subst e
      rw [zU_eq] at h3
      by_cases e2 : j = f18 i
      · subst e2
        rw [zU_eq, zU_eq]
        exact ⟨hab, hbe⟩
      · rw [zU_ne (by omega), zU_ne (by omega)]
        exact d3 i h0 h1 j h2 (by omega)
    · rw [zU_ne e] at h3
      have := d2 i h0 h1
      rw [zU_ne (by omega), zU_ne (by omega)]
      exact d3 i h0 h1 j h2 h3
  · rw [zU_ne (by omega)]
    exact d4 i h0 h1
set_option maxHeartbeats 4000000 in
theorem o_wedge {l : Launch} {s0 : State} {D : va_G} {k : Nat → ClassId} (hC : Cx l s0 D k) {cx : Nat} {v : Nat → Int} {f : Nat → Int → Int} {wc : va_W} (hI : Iv v f) (hW : Cst k cx v f wc) (wr : va_W) (p ab be : Int) (hp : In32 p) (hab : In32 ab) (hbe : In32 be) : WdM l s0 D y_C_wedge { frames := 7, cells := 4, slots := 24, locals := 112 } [.ref cx, .int (iI (p)), .int (iI (ab)), .int (iI (be))] (wc ++ wr) (fun ret w => ∃ wc', w = wc' ++ wr ∧ ((0 ≤ p ∧ p < (v 17)) ∧ ((1 ≤ ab ∧ ab ≤ 3600) ∧ (1 ≤ be ∧ be ≤ 12)) ∧ (f 18) p < 16) ∧ ret = some (.int (iI ((f 18) p + 1))) ∧ Cst k cx (vS v 0 0) (fS (fS (fS f 18 (zU (f 18) p (f 18 p + 1))) 19 (zU (f 19) (16 * p + f 18 p) ab)) 20 (zU (f 20) (16 * p + f 18 p) be)) wc' ∧ Iv (vS v 0 0) (fS (fS (fS f 18 (zU (f 18) p (f 18 p + 1))) 19 (zU (f 19) (16 * p + f 18 p) ab)) 20 (zU (f 20) (16 * p + f 18 p) be))) (fun E w => ∃ wc', w = wc' ++ wr ∧ Cst k cx v f wc' ∧ (E = xIO ∧ ¬ (0 ≤ p ∧ p < (v 17)) ∨ E = xIA ∧ ((0 ≤ p ∧ p < (v 17)) ∧ ¬ ((1 ≤ ab ∧ ab ≤ 3600) ∧ (1 ≤ be ∧ be ≤ 12))) ∨ E = xIS ∧ ((0 ≤ p ∧ p < (v 17)) ∧ ((1 ≤ ab ∧ ab ≤ 3600) ∧ (1 ≤ be ∧ be ≤ 12)) ∧ ¬ (f 18) p < 16))) 4 24 := by
  obtain ⟨cf, cp, cn, ce, cg, cu, ct, cr, pr, pa, pq, pf, na, nq, rq, ga, g1, g2, gA, gB, rs, rfl, hpr, hpc, hpf, hno, hrq, hrg⟩ := id hW
  obtain ⟨iA, iB, iC, iD, iE, iF⟩ := id hI
  have hrs : ∀ q ∈ rs, q ∈ (rgW k ga g1 g2 (f 18) gA gB (v 17).toNat ++ (rs ++ wr)) := fun q h => List.mem_append_right _ (List.mem_append_left _ h)
  by_cases hin : 0 ≤ p ∧ p < v 17
  · have ep : ((p.toNat : Nat) : Int) = p := Int.toNat_of_nonneg hin.1
    have hn : p.toNat < (v 17).toNat := by omega
    have hd := iD.2.1 p hin.1 hin.2
    have sp1 : (rgW k ga g1 g2 (f 18) gA gB (v 17).toNat).Perm (rgC k ga g1 g2 (f 18) gA gB p.toNat ++ ((List.range (v 17).toNat).erase p.toNat).flatMap (rgC k ga g1 g2 (f 18) gA gB)) := rg_split (rgC k ga g1 g2 (f 18) gA gB) hn
    have ec1 : rgC k ga g1 g2 (f 18) gA gB p.toNat = [(ga p, .inr (4, [.ref (g1 p), .ref (g2 p), .int (iI (f 18 p)), .long (jJ (smF (gA p) (gB p) (f 18 p).toNat))])), (g1 p, .inl (k 0, ai 16 (gA p))), (g2 p, .inl (k 0, ai 16 (gB p)))] := by unfold rgC; rw [ep]
    rw [ec1] at sp1
    refine wd_conv (c_C_wedge hC cx cf cp cn ce cg cu ct cr (v 9) (v 13) (v 17) (v 23) (v 21) (v 22) (v 1) (pA (f 4) (v 3)) (pR (v 2) (f 5) (v 3)) (v 3) pr (f 24) (f 25) (gQ (v 9) pa) (gQ (v 13) na) rq (((List.range (v 17).toNat).erase p.toNat).flatMap (rgC k ga g1 g2 (f 18) gA gB) ++ (rs ++ wr)) ga iD.1 p ab be hp hab hbe (g1 p) (g2 p) (f 18 p) (smF (gA p) (gB p) (f 18 p).toNat) (gA p) (gB p) hd hin) (pm_rg (cFx k cx cf cp cn ce cg cu ct cr (v 9) (v 13) (v 17) (v 23) (v 21) (v 22) (v 1) (pA (f 4) (v 3)) (pR (v 2) (f 5) (v 3)) (v 3) pr (f 24) (f 25) (gQ (v 9) pa) (gQ (v 13) na) rq (gQ (v 17) ga)) rs wr sp1) (fun ret w h => ?_) (fun E w h => ?_)
    · obtain ⟨rfl, h1, h2, rfl⟩ := h
      have ec2 : rgC k ga g1 g2 (zU (f 18) p (f 18 p + 1)) (zU gA p (zU (gA p) (f 18 p) ab)) (zU gB p (zU (gB p) (f 18 p) be)) p.toNat = [(ga p, .inr (4, [.ref (g1 p), .ref (g2 p), .int (iI (f 18 p + 1)), .long (jJ (smF (gA p) (gB p) (f 18 p).toNat + (ab * (27720 / be))))])), (g1 p, .inl (k 0, ai 16 (zU (gA p) (f 18 p) ab))), (g2 p, .inl (k 0, ai 16 (zU (gB p) (f 18 p) be)))] := by
        unfold rgC
        rw [ep, zU_eq, zU_eq, zU_eq, sm_add hd.1]
      have sp2 : (rgW k ga g1 g2 (zU (f 18) p (f 18 p + 1)) (zU gA p (zU (gA p) (f 18 p) ab)) (zU gB p (zU (gB p) (f 18 p) be)) (v 17).toNat).Perm (rgC k ga g1 g2 (zU (f 18) p (f 18 p + 1)) (zU gA p (zU (gA p) (f 18 p) ab)) (zU gB p (zU (gB p) (f 18 p) be)) p.toNat ++ ((List.range (v 17).toNat).erase p.toNat).flatMap (rgC k ga g1 g2 (zU (f 18) p (f 18 p + 1)) (zU gA p (zU (gA p) (f 18 p) ab)) (zU gB p (zU (gB p) (f 18 p) be)))) := rg_split (rgC k ga g1 g2 (zU (f 18) p (f 18 p + 1)) (zU gA p (zU (gA p) (f 18 p) ab)) (zU gB p (zU (gB p) (f 18 p) be))) hn
      rw [ec2, rg_other (c := rgC k ga g1 g2 (zU (f 18) p (f 18 p + 1)) (zU gA p (zU (gA p) (f 18 p) ab)) (zU gB p (zU (gB p) (f 18 p) be))) (c' := rgC k ga g1 g2 (f 18) gA gB) (fun j q1 q2 => by unfold rgC; rw [zU_ne (by omega), zU_ne (by omega), zU_ne (by omega)])] at sp2
      have hg := rg_g iD hrg hin h2 h1.1 h1.2
      exact ⟨(cFx k cx cf cp cn ce cg cu ct cr (v 9) (v 13) (v 17) (v 23) (v 21) (v 22) (v 1) (pA (f 4) (v 3)) (pR (v 2) (f 5) (v 3)) (v 3) pr (f 24) (f 25) (gQ (v 9) pa) (gQ (v 13) na) rq (gQ (v 17) ga) ++ (rgW k ga g1 g2 (zU (f 18) p (f 18 p + 1)) (zU gA p (zU (gA p) (f 18 p) ab)) (zU gB p (zU (gB p) (f 18 p) be)) (v 17).toNat ++ rs)) ++ wr, (pm_rg (cFx k cx cf cp cn ce cg cu ct cr (v 9) (v 13) (v 17) (v 23) (v 21) (v 22) (v 1) (pA (f 4) (v 3)) (pR (v 2) (f 5) (v 3)) (v 3) pr (f 24) (f 25) (gQ (v 9) pa) (gQ (v 13) na) rq (gQ (v 17) ga)) rs wr sp2).symm, _, rfl, ⟨hin, h1, h2⟩, rfl, ⟨cf, cp, cn, ce, cg, cu, ct, cr, pr, pa, pq, pf, na, nq, rq, ga, g1, g2, (zU gA p (zU (gA p) (f 18 p) ab)), (zU gB p (zU (gB p) (f 18 p) be)), rs, rfl, hpr, hpc, hpf, hno, hrq, hg.1⟩, iA, iB, iC, hg.2, iE, iF⟩
    · obtain ⟨rfl, h1⟩ := h
      refine ⟨((cFx k cx cf cp cn ce cg cu ct cr (v 9) (v 13) (v 17) (v 23) (v 21) (v 22) (v 1) (pA (f 4) (v 3)) (pR (v 2) (f 5) (v 3)) (v 3) pr (f 24) (f 25) (gQ (v 9) pa) (gQ (v 13) na) rq (gQ (v 17) ga) ++ (rgW k ga g1 g2 (f 18) gA gB (v 17).toNat ++ rs)) ++ wr), (pm_rg (cFx k cx cf cp cn ce cg cu ct cr (v 9) (v 13) (v 17) (v 23) (v 21) (v 22) (v 1) (pA (f 4) (v 3)) (pR (v 2) (f 5) (v 3)) (v 3) pr (f 24) (f 25) (gQ (v 9) pa) (gQ (v 13) na) rq (gQ (v 17) ga)) rs wr sp1).symm, _, rfl, hW, ?_⟩
      rcases h1 with h1 | h1
      · exact Or.inr (Or.inl ⟨h1.1, hin, h1.2⟩)
      · exact Or.inr (Or.inr ⟨h1.1, hin, h1.2⟩)
  · refine wd_conv (c_C_wedgeBad hC cx cf cp cn ce cg cu ct cr (v 9) (v 13) (v 17) (v 23) (v 21) (v 22) (v 1) (pA (f 4) (v 3)) (pR (v 2) (f 5) (v 3)) (v 3) pr (f 24) (f 25) (gQ (v 9) pa) (gQ (v 13) na) rq (rgW k ga g1 g2 (f 18) gA gB (v 17).toNat ++ (rs ++ wr)) ga iD.1 p ab be hp hab hbe hin) (by rw [as3]; exact List.Perm.refl _) (fun ret w h => h.elim) (fun E w h => ?_)
    obtain ⟨rfl, h1⟩ := h
    exact ⟨((cFx k cx cf cp cn ce cg cu ct cr (v 9) (v 13) (v 17) (v 23) (v 21) (v 22) (v 1) (pA (f 4) (v 3)) (pR (v 2) (f 5) (v 3)) (v 3) pr (f 24) (f 25) (gQ (v 9) pa) (gQ (v 13) na) rq (gQ (v 17) ga) ++ (rgW k ga g1 g2 (f 18) gA gB (v 17).toNat ++ ([] ++ rs))) ++ wr), pm_fin [] (cFx k cx cf cp cn ce cg cu ct cr (v 9) (v 13) (v 17) (v 23) (v 21) (v 22) (v 1) (pA (f 4) (v 3)) (pR (v 2) (f 5) (v 3)) (v 3) pr (f 24) (f 25) (gQ (v 9) pa) (gQ (v 13) na) rq (gQ (v 17) ga)) (rgW k ga g1 g2 (f 18) gA gB (v 17).toNat) rs wr, _, rfl, hW, Or.inl ⟨h1, hin⟩⟩
