/-! calls that change the BOOK or the SUIT -/
def updN (g : Nat → Nat) (j v : Nat) : Nat → Nat := fun k => if k = j then v else g k
theorem updN_s (g : Nat → Nat) (j v : Nat) : updN g j v j = v := if_pos rfl
theorem updN_n {g : Nat → Nat} {j v k : Nat} (h : k ≠ j) : updN g j v k = g k := if_neg h
theorem row_set {S : MS} {g : Nat → Nat} (hR : RowIs S g) (j v : Nat) : RowIs (mA S 0 j (nI v)) (updN g j v) := by
  intro k hk
  show upd (S.1 0) j (nI v) k = nI (updN g j v k)
  rw [upd_v]
  unfold updN
  split
  · rfl
  · exact hR k hk
theorem row_at {S : MS} {j : Nat} {x : Int32} (k : Nat) : (mA S 0 j x).1 0 k = if k = j then x else S.1 0 k := rfl
/-- all but the row and what is only scratch -/
def Keep (S S' : MS) : Prop := S'.1 1 = S.1 1 ∧ S'.1 2 = S.1 2 ∧ S'.1 5 = S.1 5 ∧ S'.1 7 = S.1 7 ∧ S'.2.1 6 = S.2.1 6 ∧ S'.2.2 3 = S.2.2 3 ∧ S'.2.2 4 = S.2.2 4
theorem Keep.rfl' (S : MS) : Keep S S := ⟨rfl, rfl, rfl, rfl, rfl, rfl, rfl⟩
theorem Keep.trans {S T U : MS} (h1 : Keep S T) (h2 : Keep T U) : Keep S U := by
  obtain ⟨a1, a2, a3, a4, a5, a6, a7⟩ := h1
  obtain ⟨b1, b2, b3, b4, b5, b6, b7⟩ := h2
  exact ⟨b1.trans a1, b2.trans a2, b3.trans a3, b4.trans a4, b5.trans a5, b6.trans a6, b7.trans a7⟩
theorem Keep.row (S : MS) (j : Nat) (x : Int32) : Keep S (mA S 0 j x) := ⟨rfl, rfl, rfl, rfl, rfl, rfl, rfl⟩
theorem Keep.row2 {S T : MS} (h : Keep S T) (j : Nat) (x : Int32) : Keep S (mA T 0 j x) := h.trans (Keep.row T j x)
theorem BookInv.congr {K : Nat} {b b' : Nat → Nat} (h : BookInv K b) (e : ∀ k, k < 95 → b' k = b k) : BookInv K b' := by
  obtain ⟨⟨a1, a2, a3, a4, a5, a6, a7, a8, a9⟩, hb, hc, hd, he, hf⟩ := h
  have e4 := e 4 (by decide)
  have e29 := e 29 (by decide)
  have e38 := e 38 (by decide)
  have e57 := e 57 (by decide)
  have e70 := e 70 (by decide)
  refine ⟨⟨by rw [e4]; exact a1, by rw [e29]; exact a2, by rw [e38]; exact a3, by rw [e57]; exact a4, by rw [e70]; exact a5, by rw [e4, e 0 (by decide)]; exact a6, by rw [e 1 (by decide)]; exact a7, by rw [e 2 (by decide)]; exact a8, by rw [e 3 (by decide)]; exact a9⟩, ?_, ?_, ?_, ?_, ?_⟩
  · intro f hf'
    rw [e4] at hf'
    rw [e (5 + f) (by omega), e (11 + f) (by omega), e (17 + f) (by omega), e (23 + f) (by omega)]
    exact hb f hf'
  · intro c hc'
    rw [e29] at hc'
    rw [e (30 + c) (by omega), e (34 + c) (by omega)]
    exact hc c hc'
  · intro k hk
    rw [e38] at hk
    rw [e4, e (39 + 3 * k) (by omega), e (39 + 3 * k + 1) (by omega), e (39 + 3 * k + 2) (by omega)]
    exact hd k hk
  · intro k hk
    rw [e57] at hk
    rw [e29, e (58 + 2 * k) (by omega), e (58 + 2 * k + 1) (by omega)]
    exact he k hk
  · intro k hk
    rw [e70] at hk
    rw [e4, e (71 + 3 * k) (by omega), e (71 + 3 * k + 1) (by omega), e (71 + 3 * k + 2) (by omega)]
    exact hf k hk
theorem MRel.congr {K : Nat} {b b' : Nat → Nat} {M : MT} (hB : BookInv K b) (h : MRel b M) (e : ∀ k, k < 95 → b' k = b k) : MRel b' M := by
  obtain ⟨⟨a1, a2, a3, a4, a5, -, -, -, -⟩, -⟩ := hB
  obtain ⟨h1, h2, h3, h4, h5, h6, h7⟩ := h
  have e4 := e 4 (by decide)
  have e29 := e 29 (by decide)
  have e38 := e 38 (by decide)
  have e57 := e 57 (by decide)
  have e70 := e 70 (by decide)
  refine ⟨by rw [e4, e29, e38, e57, e70]; exact h1, by rw [e 0 (by decide), e 1 (by decide), e 2 (by decide), e 3 (by decide)]; exact h2, ?_, ?_, ?_, ?_, ?_⟩
  · intro f hf'
    rw [e4] at hf'
    rw [e (5 + f) (by omega), e (11 + f) (by omega), e (17 + f) (by omega), e (23 + f) (by omega)]
    exact h3 f hf'
  · intro c hc'
    rw [e29] at hc'
    rw [e (30 + c) (by omega), e (34 + c) (by omega)]
    exact h4 c hc'
  · intro k hk
    rw [e38] at hk
    rw [e (39 + 3 * k) (by omega), e (39 + 3 * k + 1) (by omega), e (39 + 3 * k + 2) (by omega)]
    exact h5 k hk
  · intro k hk
    rw [e57] at hk
    rw [e (58 + 2 * k) (by omega), e (58 + 2 * k + 1) (by omega)]
    exact h6 k hk
  · intro k hk
    rw [e70] at hk
    rw [e (71 + 3 * k) (by omega), e (71 + 3 * k + 1) (by omega), e (71 + 3 * k + 2) (by omega)]
    exact h7 k hk
theorem Img.congr {K : Nat} {b b' : Nat → Nat} {k1 k2 : Int32} {M : MT} (h : Img K b k1 k2 M) (e : ∀ k, k < 95 → b' k = b k) : Img K b' k1 k2 M := by
  rcases h with q | ⟨q1, q2, q3, q4⟩
  · exact Or.inl q
  · exact Or.inr ⟨q1, q2, q3.congr e, MRel.congr q3 q4 e⟩
/-- the BOOK or the SUIT has changed, nothing else -/
theorem Sim.row {K K' : Nat} {C : CT} {S S' : MS} {g g' : Nat → Nat} {M' : MT} (h2 : ImgRel K g C S) (h3 : RestRel C S) (h4 : TextRel C S) (hK : K ≤ K') (hk : Keep S S') (hR : RowIs S' g') (hi : ∀ k, 95 ≤ k → k < 285 → g' k = g k) (hB : BookInv K' g') (hM : MRel g' M') : Sim K' (cM C 0 M') S' := by
  obtain ⟨a1, a2, a3, a4, a5, a6, a7⟩ := hk
  refine ⟨g', ⟨hR, hB, hM⟩, ⟨?_, ?_⟩, ⟨?_, ?_, ?_⟩, ?_⟩
  · have := (h2.1.mono hK).congr (b' := sh g' 0) (fun k hk => hi _ (by omega) (by omega))
    rw [← a1] at this
    exact this
  · have := (h2.2.mono hK).congr (b' := sh g' 1) (fun k hk => hi _ (by omega) (by omega))
    rw [← a1] at this
    exact this
  · rw [a2]; exact h3.1
  · rw [a6, a7]; exact h3.2.1
  · rw [a4]; exact h3.2.2
  · obtain ⟨len, q1, q2, q3, q4⟩ := h4
    refine ⟨len, q1, by rw [a5]; exact q2, q3, fun k hk => ?_⟩
    rw [a3]
    exact q4 k hk
/-! BookInv and MRel, piece by piece -/
def PS (K : Nat) (g : Nat → Nat) : Prop := g 0 < 2 ^ g 4 ∧ g 1 ≤ K ∧ g 2 ≤ 100 * K ∧ g 3 < 256
def PF (g : Nat → Nat) : Prop := g 4 ≤ 6 ∧ ∀ f, f < g 4 → g (5 + f) < 6 ∧ g (11 + f) < 256 ∧ g (17 + f) < 8 ∧ g (23 + f) ≤ 20
def PC (g : Nat → Nat) : Prop := g 29 ≤ 4 ∧ ∀ c, c < g 29 → g (30 + c) < 256 ∧ g (34 + c) ≤ 20
def PN (g : Nat → Nat) : Prop := g 38 ≤ 6 ∧ ∀ k, k < g 38 → g (39 + 3 * k) < g 4 ∧ g (39 + 3 * k + 1) ≤ 20 ∧ g (39 + 3 * k + 2) ≤ 60
def PH (g : Nat → Nat) : Prop := g 57 ≤ 6 ∧ ∀ k, k < g 57 → g (58 + 2 * k) < g 29 ∧ g (58 + 2 * k + 1) ≤ 1
def PU (K : Nat) (g : Nat → Nat) : Prop := g 70 ≤ 8 ∧ ∀ k, k < g 70 → g (71 + 3 * k) < 2 ^ g 4 ∧ g (71 + 3 * k + 1) ≤ K ∧ g (71 + 3 * k + 2) ≤ 100 * K
theorem inv_of {K : Nat} {g : Nat → Nat} (hs : PS K g) (hf : PF g) (hc : PC g) (hn : PN g) (hh : PH g) (hu : PU K g) : BookInv K g :=
  ⟨⟨hf.1, hc.1, hn.1, hh.1, hu.1, hs⟩, hf.2, hc.2, hn.2, hh.2, hu.2⟩
theorem BookInv.s {K : Nat} {g : Nat → Nat} (h : BookInv K g) : PS K g := h.1.2.2.2.2.2
theorem BookInv.f {K : Nat} {g : Nat → Nat} (h : BookInv K g) : PF g := ⟨h.1.1, h.2.1⟩
theorem BookInv.c {K : Nat} {g : Nat → Nat} (h : BookInv K g) : PC g := ⟨h.1.2.1, h.2.2.1⟩
theorem BookInv.n {K : Nat} {g : Nat → Nat} (h : BookInv K g) : PN g := ⟨h.1.2.2.1, h.2.2.2.1⟩
theorem BookInv.h {K : Nat} {g : Nat → Nat} (h : BookInv K g) : PH g := ⟨h.1.2.2.2.1, h.2.2.2.2.1⟩
theorem BookInv.u {K : Nat} {g : Nat → Nat} (h : BookInv K g) : PU K g := ⟨h.1.2.2.2.2.1, h.2.2.2.2.2⟩
theorem PS.c {K : Nat} {g g' : Nat → Nat} (h : PS K g) (e : ∀ k, k ≤ 4 → g' k = g k) : PS K g' := by
  unfold PS at *
  rw [e 0 (by decide), e 1 (by decide), e 2 (by decide), e 3 (by decide), e 4 (by decide)]
  exact h
theorem PF.c {g g' : Nat → Nat} (h : PF g) (e : ∀ k, 4 ≤ k → k ≤ 28 → g' k = g k) : PF g' := by
  have e4 := e 4 (by decide) (by decide)
  have h6 := h.1
  refine ⟨by rw [e4]; exact h.1, fun f hf => ?_⟩
  rw [e4] at hf
  rw [e (5 + f) (by omega) (by omega), e (11 + f) (by omega) (by omega), e (17 + f) (by omega) (by omega), e (23 + f) (by omega) (by omega)]
  exact h.2 f hf
theorem PC.c {g g' : Nat → Nat} (h : PC g) (e : ∀ k, 29 ≤ k → k ≤ 37 → g' k = g k) : PC g' := by
  have e4 := e 29 (by decide) (by decide)
  have h6 := h.1
  refine ⟨by rw [e4]; exact h.1, fun f hf => ?_⟩
  rw [e4] at hf
  rw [e (30 + f) (by omega) (by omega), e (34 + f) (by omega) (by omega)]
  exact h.2 f hf
theorem PN.c {g g' : Nat → Nat} (h : PN g) (e : ∀ k, 38 ≤ k → k ≤ 56 → g' k = g k) (e2 : g 4 ≤ g' 4) : PN g' := by
  have e4 := e 38 (by decide) (by decide)
  have h6 := h.1
  refine ⟨by rw [e4]; exact h.1, fun f hf => ?_⟩
  rw [e4] at hf
  rw [e (39 + 3 * f) (by omega) (by omega), e (39 + 3 * f + 1) (by omega) (by omega), e (39 + 3 * f + 2) (by omega) (by omega)]
  have := h.2 f hf
  exact ⟨by omega, this.2⟩
theorem PH.c {g g' : Nat → Nat} (h : PH g) (e : ∀ k, 57 ≤ k → k ≤ 69 → g' k = g k) (e2 : g 29 ≤ g' 29) : PH g' := by
  have e4 := e 57 (by decide) (by decide)
  have h6 := h.1
  refine ⟨by rw [e4]; exact h.1, fun f hf => ?_⟩
  rw [e4] at hf
  rw [e (58 + 2 * f) (by omega) (by omega), e (58 + 2 * f + 1) (by omega) (by omega)]
  have := h.2 f hf
  exact ⟨by omega, this.2⟩
theorem PU.c {K : Nat} {g g' : Nat → Nat} (h : PU K g) (e : ∀ k, 70 ≤ k → k ≤ 94 → g' k = g k) (e2 : g' 4 = g 4) : PU K g' := by
  have e4 := e 70 (by decide) (by decide)
  have h6 := h.1
  refine ⟨by rw [e4]; exact h.1, fun f hf => ?_⟩
  rw [e4] at hf
  rw [e (71 + 3 * f) (by omega) (by omega), e (71 + 3 * f + 1) (by omega) (by omega), e (71 + 3 * f + 2) (by omega) (by omega), e2]
  exact h.2 f hf
def RF (g : Nat → Nat) (r : RS) : Prop := r.1 = nI (g 4) ∧ ∀ f, f < g 4 → r.2 (4 * f) = nI (g (5 + f)) ∧ r.2 (4 * f + 1) = nI (g (11 + f)) ∧ r.2 (4 * f + 2) = nI (g (17 + f)) ∧ r.2 (4 * f + 3) = nI (g (23 + f))
def RC (g : Nat → Nat) (r : RS) : Prop := r.1 = nI (g 29) ∧ ∀ c, c < g 29 → r.2 (2 * c) = nI (g (30 + c)) ∧ r.2 (2 * c + 1) = nI (g (34 + c))
def RN (g : Nat → Nat) (r : RS) : Prop := r.1 = nI (g 38) ∧ ∀ k, k < g 38 → r.2 (3 * k) = nI (g (39 + 3 * k)) ∧ r.2 (3 * k + 1) = nI (g (39 + 3 * k + 1)) ∧ r.2 (3 * k + 2) = nI (g (39 + 3 * k + 2))
def RH (g : Nat → Nat) (r : RS) : Prop := r.1 = nI (g 57) ∧ ∀ k, k < g 57 → r.2 (2 * k) = nI (g (58 + 2 * k)) ∧ r.2 (2 * k + 1) = nI (g (58 + 2 * k + 1))
def RU (g : Nat → Nat) (r : RS) : Prop := r.1 = nI (g 70) ∧ ∀ k, k < g 70 → r.2 (3 * k) = nI (g (71 + 3 * k)) ∧ r.2 (3 * k + 1) = nI (g (71 + 3 * k + 1)) ∧ r.2 (3 * k + 2) = nI (g (71 + 3 * k + 2))
def RI (g : Nat → Nat) (i : Nat → Int32) : Prop := i 7 = nI (g 3) ∧ i 8 = nI (g 0) ∧ i 9 = nI (g 1) ∧ i 10 = nI (g 2)
theorem rel_of {g : Nat → Nat} {M : MT} (hi : RI g M.2) (hf : RF g (M.1 0)) (hc : RC g (M.1 1)) (hn : RN g (M.1 2)) (hh : RH g (M.1 3)) (hu : RU g (M.1 4)) : MRel g M :=
  ⟨⟨hf.1, hc.1, hn.1, hh.1, hu.1⟩, hi, hf.2, hc.2, hn.2, hh.2, hu.2⟩
theorem MRel.i {g : Nat → Nat} {M : MT} (h : MRel g M) : RI g M.2 := h.2.1
theorem MRel.f {g : Nat → Nat} {M : MT} (h : MRel g M) : RF g (M.1 0) := ⟨h.1.1, h.2.2.1⟩
theorem MRel.c {g : Nat → Nat} {M : MT} (h : MRel g M) : RC g (M.1 1) := ⟨h.1.2.1, h.2.2.2.1⟩
theorem MRel.n {g : Nat → Nat} {M : MT} (h : MRel g M) : RN g (M.1 2) := ⟨h.1.2.2.1, h.2.2.2.2.1⟩
theorem MRel.h {g : Nat → Nat} {M : MT} (h : MRel g M) : RH g (M.1 3) := ⟨h.1.2.2.2.1, h.2.2.2.2.2.1⟩
theorem MRel.u {g : Nat → Nat} {M : MT} (h : MRel g M) : RU g (M.1 4) := ⟨h.1.2.2.2.2, h.2.2.2.2.2.2⟩
theorem RI.cg {g g' : Nat → Nat} {i : Nat → Int32} (h : RI g i) (e : ∀ k, k ≤ 3 → g' k = g k) : RI g' i := by
  unfold RI at *
  rw [e 0 (by decide), e 1 (by decide), e 2 (by decide), e 3 (by decide)]
  exact h
theorem RF.cg {g g' : Nat → Nat} {r : RS} (h : RF g r) (h6 : g 4 ≤ 6) (e : ∀ k, 4 ≤ k → k ≤ 28 → g' k = g k) : RF g' r := by
  have e4 := e 4 (by decide) (by decide)
  refine ⟨by rw [e4]; exact h.1, fun f hf => ?_⟩
  rw [e4] at hf
  rw [e (5 + f) (by omega) (by omega), e (11 + f) (by omega) (by omega), e (17 + f) (by omega) (by omega), e (23 + f) (by omega) (by omega)]
  exact h.2 f hf
theorem RC.cg {g g' : Nat → Nat} {r : RS} (h : RC g r) (h6 : g 29 ≤ 4) (e : ∀ k, 29 ≤ k → k ≤ 37 → g' k = g k) : RC g' r := by
  have e4 := e 29 (by decide) (by decide)
  refine ⟨by rw [e4]; exact h.1, fun f hf => ?_⟩
  rw [e4] at hf
  rw [e (30 + f) (by omega) (by omega), e (34 + f) (by omega) (by omega)]
  exact h.2 f hf
theorem RN.cg {g g' : Nat → Nat} {r : RS} (h : RN g r) (h6 : g 38 ≤ 6) (e : ∀ k, 38 ≤ k → k ≤ 56 → g' k = g k) : RN g' r := by
  have e4 := e 38 (by decide) (by decide)
  refine ⟨by rw [e4]; exact h.1, fun f hf => ?_⟩
  rw [e4] at hf
  rw [e (39 + 3 * f) (by omega) (by omega), e (39 + 3 * f + 1) (by omega) (by omega), e (39 + 3 * f + 2) (by omega) (by omega)]
  exact h.2 f hf
theorem RH.cg {g g' : Nat → Nat} {r : RS} (h : RH g r) (h6 : g 57 ≤ 6) (e : ∀ k, 57 ≤ k → k ≤ 69 → g' k = g k) : RH g' r := by
  have e4 := e 57 (by decide) (by decide)
  refine ⟨by rw [e4]; exact h.1, fun f hf => ?_⟩
  rw [e4] at hf
  rw [e (58 + 2 * f) (by omega) (by omega), e (58 + 2 * f + 1) (by omega) (by omega)]
  exact h.2 f hf
theorem RU.cg {g g' : Nat → Nat} {r : RS} (h : RU g r) (h6 : g 70 ≤ 8) (e : ∀ k, 70 ≤ k → k ≤ 94 → g' k = g k) : RU g' r := by
  have e4 := e 70 (by decide) (by decide)
  refine ⟨by rw [e4]; exact h.1, fun f hf => ?_⟩
  rw [e4] at hf
  rw [e (71 + 3 * f) (by omega) (by omega), e (71 + 3 * f + 1) (by omega) (by omega), e (71 + 3 * f + 2) (by omega) (by omega)]
  exact h.2 f hf
theorem g_forget {K : Nat} {C : CT} {S : MS} (h : Sim K C S) (a1 : Int32) : Good (K + 1) (mX10_forget C a1) (mX11_forget S a1) := by
  obtain ⟨g, h1, h2, h3, h4⟩ := id h
  obtain ⟨hB0, hM⟩ := h1.2
  have hB := hB0.mono (Nat.le_succ K)
  unfold mX10_forget mX11_forget
  rcases in_c2 a1 1 (by decide) with ⟨e1, e2, -⟩ | ⟨j, hj, rfl, e1, e2⟩
  · rw [e1, e2, ob_v, ob_v, if_pos z0, if_pos z0]
    exact g_bad h
  · rw [e1, e2, ob_v, ob_v, if_neg z1, if_neg z1]
    rcases (show j = 0 ∨ j = 1 by omega) with rfl | rfl
    · rw [if_pos z0, if_pos z0, ald_v (by decide) (by decide), h1.1 38 (by decide), ast_v (by decide) (by decide), nm_v]
      refine ⟨nI (g 38), _, _, congrArg some (Prod.ext hM.1.2.2.1 rfl), rfl, ?_⟩
      refine Sim.row h2 h3 h4 (Nat.le_succ K) (Keep.row S _ _) (row_set h1.1 38 0) (fun k hk _ => updN_n (by omega)) ?_ ?_
      · exact inv_of (hB.s.c fun k _ => updN_n (by omega)) (hB.f.c fun k _ _ => updN_n (by omega)) (hB.c.c fun k _ _ => updN_n (by omega)) ⟨Nat.zero_le _, fun k hk => absurd hk (Nat.not_lt_zero k)⟩ (hB.h.c (fun k _ _ => updN_n (by omega)) (Nat.le_refl _)) (hB.u.c (fun k _ _ => updN_n (by omega)) rfl)
      · exact rel_of (hM.i.cg fun k _ => updN_n (by omega)) (hM.f.cg hB.f.1 fun k _ _ => updN_n (by omega)) (hM.c.cg hB.c.1 fun k _ _ => updN_n (by omega)) ⟨rfl, fun k hk => absurd hk (Nat.not_lt_zero k)⟩ (hM.h.cg hB.h.1 fun k _ _ => updN_n (by omega)) (hM.u.cg hB.u.1 fun k _ _ => updN_n (by omega))
    · rw [if_neg z1, if_neg z1, ald_v (by decide) (by decide), h1.1 57 (by decide), ast_v (by decide) (by decide), nm_v]
      refine ⟨nI (g 57), _, _, congrArg some (Prod.ext hM.1.2.2.2.1 rfl), rfl, ?_⟩
      refine Sim.row h2 h3 h4 (Nat.le_succ K) (Keep.row S _ _) (row_set h1.1 57 0) (fun k hk _ => updN_n (by omega)) ?_ ?_
      · exact inv_of (hB.s.c fun k _ => updN_n (by omega)) (hB.f.c fun k _ _ => updN_n (by omega)) (hB.c.c fun k _ _ => updN_n (by omega)) (hB.n.c (fun k _ _ => updN_n (by omega)) (Nat.le_refl _)) ⟨Nat.zero_le _, fun k hk => absurd hk (Nat.not_lt_zero k)⟩ (hB.u.c (fun k _ _ => updN_n (by omega)) rfl)
      · exact rel_of (hM.i.cg fun k _ => updN_n (by omega)) (hM.f.cg hB.f.1 fun k _ _ => updN_n (by omega)) (hM.c.cg hB.c.1 fun k _ _ => updN_n (by omega)) (hM.n.cg hB.n.1 fun k _ _ => updN_n (by omega)) ⟨rfl, fun k hk => absurd hk (Nat.not_lt_zero k)⟩ (hM.u.cg hB.u.1 fun k _ _ => updN_n (by omega))
