/-! What class and model hold, side by side. -/
/-- the model's numbers (v) and rows (f), by the number of the field; one of them set -/
def vS (v : Nat → Int) (i : Nat) (x : Int) : Nat → Int := fun j => bif Nat.beq j i then x else v j
def fS (f : Nat → Int → Int) (i : Nat) (x : Int → Int) : Nat → Int → Int := fun j => bif Nat.beq j i then x else f j
def mWd (k : Nat → ClassId) (A : Nat → Nat) (v : Nat → Int) (f : Nat → Int → Int) : va_W := [(A 26, .inr (6, [.int (iI (v 0)), .int (iI (v 1)), .int (iI (v 2)), .int (iI (v 3)), .ref (A 4), .ref (A 5), .ref (A 6), .ref (A 7), .ref (A 8), .int (iI (v 9)), .ref (A 10), .ref (A 11), .ref (A 12), .int (iI (v 13)), .ref (A 14), .ref (A 15), .ref (A 16), .int (iI (v 17)), .ref (A 18), .ref (A 19), .ref (A 20), .int (iI (v 21)), .int (iI (v 22)), .int (iI (v 23)), .ref (A 24), .ref (A 25)])), (A 4, .inl (k 0, ai 64 (f 4))), (A 5, .inl (k 0, ai 64 (f 5))), (A 6, .inl (k 0, ai 64 (f 6))), (A 7, .inl (k 0, ai 64 (f 7))), (A 8, .inl (k 0, ai 64 (f 8))), (A 10, .inl (k 0, ai 6 (f 10))), (A 11, .inl (k 0, ai 6 (f 11))), (A 12, .inl (k 0, ai 390 (f 12))), (A 14, .inl (k 0, ai 6 (f 14))), (A 15, .inl (k 0, ai 65 (f 15))), (A 16, .inl (k 0, ai 65 (f 16))), (A 18, .inl (k 0, ai 6 (f 18))), (A 19, .inl (k 0, ai 96 (f 19))), (A 20, .inl (k 0, ai 96 (f 20))), (A 24, .inl (k 0, ai 8 (f 24))), (A 25, .inl (k 0, ai 8 (f 25)))]
def IvA (y1 y2 y3 : Int) (f4 f5 f6 f7 f8 : Int → Int) : Prop := (y1 = 0 ∨ y1 = 1) ∧ (y1 = 0 → y3 = 0) ∧ (0 ≤ y2 ∧ y2 ≤ 500) ∧ (0 ≤ y3 ∧ y3 ≤ pA f4 y3 ∧ pA f4 y3 ≤ 64) ∧ (0 ≤ pR y2 f5 y3 ∧ pR y2 f5 y3 ≤ 500) ∧ ∀ w : Int, 0 ≤ w → w < y3 → WyOk y2 f4 f5 f6 f7 f8 w
def IvB (y9 : Int) (f10 f11 f12 : Int → Int) : Prop := (0 ≤ y9 ∧ y9 ≤ 6) ∧ (∀ i : Int, 0 ≤ i → i < y9 → 0 ≤ f10 i ∧ f10 i ≤ 64) ∧ (∀ i : Int, 0 ≤ i → i < y9 → ∀ j : Int, 0 ≤ j → j ≤ f10 i → 0 ≤ f12 (65 * i + j) ∧ f12 (65 * i + j) ≤ 500) ∧ (∀ i : Int, 0 ≤ i → i < y9 → 1 ≤ f10 i) ∧ ∀ i : Int, 0 ≤ i → i < y9 → 0 ≤ f11 i ∧ f11 i ≤ 64
def IvC (y13 : Int) (f14 : Int → Int) : Prop := (0 ≤ y13 ∧ y13 ≤ 6) ∧ ∀ i : Int, 0 ≤ i → i < y13 → 0 ≤ f14 i ∧ f14 i ≤ 12
def IvD (y17 : Int) (f18 f19 f20 : Int → Int) : Prop := (0 ≤ y17 ∧ y17 ≤ 6) ∧ (∀ i : Int, 0 ≤ i → i < y17 → 0 ≤ f18 i ∧ f18 i ≤ 16) ∧ (∀ i : Int, 0 ≤ i → i < y17 → ∀ j : Int, 0 ≤ j → j < f18 i → (1 ≤ f19 (16 * i + j) ∧ f19 (16 * i + j) ≤ 3600) ∧ 1 ≤ f20 (16 * i + j) ∧ f20 (16 * i + j) ≤ 12) ∧ ∀ i : Int, y17 ≤ i → i < 6 → f18 i = 0
def IvE (y21 y22 : Int) : Prop := y22 = 0 ∨ (1 ≤ y21 ∧ y21 ≤ 1000) ∧ 1 ≤ y22 ∧ y22 ≤ 1000
def IvF (y23 : Int) (f24 f25 : Int → Int) : Prop := (0 ≤ y23 ∧ y23 ≤ 8) ∧ (∀ j : Int, 0 ≤ j → j < y23 → 1 ≤ f24 j ∧ f24 j ≤ 500) ∧ ∀ j : Int, 0 ≤ j → j < y23 → 1 ≤ f25 j ∧ f25 j ≤ 10000
def Iv (v : Nat → Int) (f : Nat → Int → Int) : Prop := IvA (v 1) (v 2) (v 3) (f 4) (f 5) (f 6) (f 7) (f 8) ∧ IvB (v 9) (f 10) (f 11) (f 12) ∧ IvC (v 13) (f 14) ∧ IvD (v 17) (f 18) (f 19) (f 20) ∧ IvE (v 21) (v 22) ∧ IvF (v 23) (f 24) (f 25)
/-- the PROFILE's radii -/
def PrOk (y2 y3 : Int) (f4 f5 f6 f7 f8 pr : Int → Int) : Prop := pr 0 = y2 ∧ (∀ w x : Int, 0 ≤ w → w < y3 → pA f4 w < x → x ≤ f4 w → pr x = wyF y2 f4 f5 f6 f7 f8 w x) ∧ ∀ j : Int, 0 ≤ j → j ≤ pA f4 y3 → 0 ≤ pr j ∧ pr j ≤ 500
def cFx (k : Nat → ClassId) (cx cf cp cn ce cg cu ct cr : Nat) (np nt ng nr ia ib bg la lr wy : Int) (pr ru rt : Int → Int) (gp gn rq gg : Int → Option Nat) : va_W := [(cf, .inr (2, [.ref cr, .int (iI (bg)), .int (iI (la)), .int (iI (lr)), .int (iI (wy))])), (cr, .inl (k 0, ai 65 pr)), (cx, .inr (5, [.ref cf, .ref cp, .int (iI (np)), .ref cn, .int (iI (nt)), .ref ce, .ref cg, .int (iI (ng)), .ref cu, .ref ct, .int (iI (nr)), .int (iI (ia)), .int (iI (ib))])), (cp, .inl (k 2, aq 6 gp)), (cn, .inl (k 3, aq 6 gn)), (ce, .inl (k 4, aq 36 rq)), (cg, .inl (k 5, aq 6 gg)), (cu, .inl (k 0, ai 8 ru)), (ct, .inl (k 0, ai 8 rt))]
/-- a RING's cells -/
def rgC (k : Nat → ClassId) (ga g1 g2 : Int → Nat) (cw : Int → Int) (gA gB : Int → Int → Int) (i : Nat) : va_W :=
  [(ga i, .inr (4, [.ref (g1 i), .ref (g2 i), .int (iI (cw i)), .long (jJ (smF (gA i) (gB i) (cw i).toNat))])), (g1 i, .inl (k 0, ai 16 (gA i))), (g2 i, .inl (k 0, ai 16 (gB i)))]
def rgW (k : Nat → ClassId) (ga g1 g2 : Int → Nat) (cw : Int → Int) (gA gB : Int → Int → Int) (n : Nat) : va_W := (List.range n).flatMap (rgC k ga g1 g2 cw gA gB)
def blF (ln : Int → Int) (pf : Int → Int → Int) : Int → Int := fun i => itF max (pf i) 0 0 ((ln i).toNat + 1) + 3
/-- the class's world, by the model's numbers -/
def Cst (k : Nat → ClassId) (cx : Nat) (v : Nat → Int) (f : Nat → Int → Int) (wc : va_W) : Prop :=
  ∃ (cf cp cn ce cg cu ct cr : Nat) (pr : Int → Int) (pa pq : Int → Nat) (pf : Int → Int → Int) (na nq : Int → Nat) (rq : Int → Option Nat) (ga g1 g2 : Int → Nat) (gA gB : Int → Int → Int) (rs : va_W),
    wc = cFx k cx cf cp cn ce cg cu ct cr (v 9) (v 13) (v 17) (v 23) (v 21) (v 22) (v 1) (pA (f 4) (v 3)) (pR (v 2) (f 5) (v 3)) (v 3) pr (f 24) (f 25) (gQ (v 9) pa) (gQ (v 13) na) rq (gQ (v 17) ga) ++ (rgW k ga g1 g2 (f 18) gA gB (v 17).toNat ++ rs) ∧
    PrOk (v 2) (v 3) (f 4) (f 5) (f 6) (f 7) (f 8) pr ∧ PcOk k (v 9) pa pq (f 10) (blF (f 10) pf) (f 11) pf rs ∧ (∀ i : Int, 0 ≤ i → i < v 9 → ∀ j : Int, 0 ≤ j → j ≤ f 10 i → pf i j = f 12 (65 * i + j)) ∧
    NoOk k (v 13) na nq (f 14) rs ∧ RqOk k (v 9) (v 13) rq (f 10) (f 14) pf rs ∧ ∀ i : Int, 0 ≤ i → i < v 17 → ∀ j : Int, 0 ≤ j → j < f 18 i → gA i j = f 19 (16 * i + j) ∧ gB i j = f 20 (16 * i + j)
theorem Cst.code {k : Nat → ClassId} {cx : Nat} {v : Nat → Int} {f : Nat → Int → Int} {wc : va_W} (h : Cst k cx v f wc) (c : Int) : Cst k cx (vS v 0 c) f wc := h
theorem Cst.rows {k : Nat → ClassId} {cx : Nat} {v : Nat → Int} {f : Nat → Int → Int} {wc : va_W} (h : Cst k cx v f wc) (g15 g16 : Int → Int) : Cst k cx v (fS (fS f 15 g15) 16 g16) wc := h
theorem Iv.code {v : Nat → Int} {f : Nat → Int → Int} (h : Iv v f) (c : Int) : Iv (vS v 0 c) f := h
theorem Iv.rows {v : Nat → Int} {f : Nat → Int → Int} (h : Iv v f) (g15 g16 : Int → Int) : Iv v (fS (fS f 15 g15) 16 g16) := h
theorem Cst.recv {k : Nat → ClassId} {cx : Nat} {v : Nat → Int} {f : Nat → Int → Int} {wc : va_W} (h : Cst k cx v f wc) (wr : va_W) : ∃ fs, (wc ++ wr)[2]? = some (cx, .inr (5, fs)) := by
  obtain ⟨cf, cp, cn, ce, cg, cu, ct, cr, pr, pa, pq, pf, na, nq, rq, ga, g1, g2, gA, gB, rs, rfl, -⟩ := h
  exact ⟨_, rfl⟩
theorem as3 (F G R W : va_W) : (F ++ (G ++ R)) ++ W = F ++ (G ++ (R ++ W)) := by rw [List.append_assoc, List.append_assoc]
theorem pm_fin (X F G R W : va_W) : (X ++ (F ++ (G ++ (R ++ W)))).Perm ((F ++ (G ++ (X ++ R))) ++ W) := by
  rw [as3, List.append_assoc]
  refine (pm_new X F _).trans (List.Perm.append_left F ?_)
  exact pm_new X G _
theorem fm_congr {c c' : Nat → va_W} (l : List Nat) (h : ∀ x ∈ l, c x = c' x) : l.flatMap c = l.flatMap c' := by
  induction l with
  | nil => rfl
  | cons a l ih => rw [List.flatMap_cons, List.flatMap_cons, h a List.mem_cons_self, ih (fun x hx => h x (List.mem_cons_of_mem _ hx))]
theorem rg_split (c : Nat → va_W) {n i : Nat} (hi : i < n) : ((List.range n).flatMap c).Perm (c i ++ ((List.range n).erase i).flatMap c) := by
  have h := (List.perm_cons_erase (List.mem_range.mpr hi)).flatMap_right c
  rwa [List.flatMap_cons] at h
theorem rg_other {c c' : Nat → va_W} {n i : Nat} (h : ∀ j, j < n → j ≠ i → c j = c' j) : ((List.range n).erase i).flatMap c = ((List.range n).erase i).flatMap c' :=
  fm_congr _ (fun x hx => h x (List.mem_range.mp (List.mem_of_mem_erase hx)) (fun e => by subst e; exact absurd hx (List.nodup_range.not_mem_erase)))
theorem rg_mem {k : Nat → ClassId} {ga g1 g2 : Int → Nat} {cw : Int → Int} {gA gB : Int → Int → Int} {y17 : Int} {i : Int} (h0 : 0 ≤ i) (h1 : i < y17) {q : Nat × va_E} (hq : q ∈ rgC k ga g1 g2 cw gA gB i.toNat) : q ∈ rgW k ga g1 g2 cw gA gB y17.toNat :=
  List.mem_flatMap.mpr ⟨i.toNat, List.mem_range.mpr (by omega), hq⟩
theorem rg_ok {k : Nat → ClassId} {ga g1 g2 : Int → Nat} {f18 f19 f20 : Int → Int} {gA gB : Int → Int → Int} {y17 : Int} (hD : IvD y17 f18 f19 f20) (hg : ∀ i : Int, 0 ≤ i → i < y17 → ∀ j : Int, 0 ≤ j → j < f18 i → gA i j = f19 (16 * i + j) ∧ gB i j = f20 (16 * i + j)) (R : va_W) : RgOk k y17 ga g1 g2 f18 gA gB (rgW k ga g1 g2 f18 gA gB y17.toNat ++ R) := by
  intro i h0 h1
  have e : ((i.toNat : Nat) : Int) = i := Int.toNat_of_nonneg h0
  have hm : ∀ q ∈ rgC k ga g1 g2 f18 gA gB i.toNat, q ∈ rgW k ga g1 g2 f18 gA gB y17.toNat ++ R := fun q hq => List.mem_append_left _ (rg_mem h0 h1 hq)
  unfold rgC at hm
  rw [e] at hm
  refine ⟨(hD.2.1 i h0 h1).1, (hD.2.1 i h0 h1).2, fun j g1 g2 => ?_, hm _ (by simp), hm _ (by simp), hm _ (by simp)⟩
  rw [(hg i h0 h1 j g1 g2).1, (hg i h0 h1 j g1 g2).2]
  exact hD.2.2.1 i h0 h1 j g1 g2
section Conv
variable {l : Launch} {s0 : State} {D : va_G} {y : MethodName} {rm : Room} {As : List Value} {ws1 ws2 : va_W} {post1 post2 : Option Value → va_W → Prop} {px1 px2 : String → va_W → Prop} {mc ms : Nat} {Pw : Heap → Prop} {post : Option Value → Prop} {px : String → Prop}
theorem wd_perm {U : State} (h : Wd s0 D ws1 U) (hp : ws1.Perm ws2) : Wd s0 D ws2 U := ⟨h.1, wl_Pp h.2.1 hp, wl_Dp h.2.2 hp⟩
/-- a contract, said otherwise -/
theorem wd_conv (h : WdM l s0 D y rm As ws1 post1 px1 mc ms) (hw : ws2.Perm ws1) (hp : ∀ v w, post1 v w → ∃ w', w.Perm w' ∧ post2 v w') (hx : ∀ E w, px1 E w → ∃ w', w.Perm w' ∧ px2 E w') : WdM l s0 D y rm As ws2 post2 px2 mc ms := by
  intro p e ha hc hk s m args below hf happ hP hK
  obtain ⟨n, o, h1, h2, h3, hq, hL⟩ := h p e ha hc hk s m args below hf happ ⟨hP.1, wd_perm hP.2 hw⟩ hK
  refine ⟨n, o, h1, h2, h3, ?_, hL⟩
  rcases hq with ⟨v, ho, w, g1, g2⟩ | ⟨q, E, ho, ht, w, g1, g2⟩
  · obtain ⟨w', e1, e2⟩ := hp v w g1
    exact Or.inl ⟨v, ho, w', e2, wd_perm g2 e1⟩
  · obtain ⟨w', e1, e2⟩ := hx E w g1
    exact Or.inr ⟨q, E, ho, ht, w', e2, wd_perm g2 e1⟩
/-- a reading contract as a writing one -/
theorem wd_of_th (h : ThM l s0 y rm As Pw post px mc ms) (hPw : ∀ H, va_P D classes ws1 H → Pw H) : WdM l s0 D y rm As ws1 (fun v w => post v ∧ w = ws1) (fun E w => px E ∧ w = ws1) mc ms := by
  intro p e ha hc hk s m args below hf happ hP hK
  obtain ⟨n, o, h1, h2, h3, hq, L, hW, hL⟩ := h p e ha hc hk s m args below hf happ ⟨hP.1, hP.2.1, hPw _ hP.2.2.1⟩ hK
  refine ⟨n, o, h1, h2, h3, ?_, L, hW, hL⟩
  rcases hq with ⟨v, ho, g1, g2⟩ | ⟨q, E, ho, ht, g1, g2, g3, g4⟩
  · exact Or.inl ⟨v, ho, ws1, ⟨g1, rfl⟩, la_grow hP.2.1 hW (by rw [g2]; exact Nat.le_refl _) (fun q hq => by rw [g2]), by rw [g2]; exact hP.2.2.1, hP.2.2.2⟩
  · exact Or.inr ⟨q, E, ho, ht, ws1, ⟨g1, rfl⟩, g2, wl_Pk hP.2.2.1 g4, hP.2.2.2⟩
end Conv
