theorem past_b {K : Nat} {g : Nat → Nat} {C : CT} {S : MS} (h1 : Base K g C S) : ∃ S' g' U, mX11_keepPast S = some S' ∧ mX3_keepForUndo (C.1 0) = some (tR (C.1 0) 4 U) ∧ Keep S S' ∧ RowIs S' g' ∧ (∀ k, k < 70 ∨ 95 ≤ k → g' k = g k) ∧ BookInv K g' ∧ MRel g' (tR (C.1 0) 4 U) := by
  obtain ⟨S', g', U, p1, p2, p3, p4, p5, p6, p7⟩ := past_v h1
  obtain ⟨hR, hB, hM⟩ := h1
  refine ⟨S', g', U, p1, p2, p3, p4, p5, ?_, ?_⟩
  · exact inv_of (hB.s.c fun k _ => p5 k (by omega)) (hB.f.c fun k _ _ => p5 k (by omega)) (hB.c.c fun k _ _ => p5 k (by omega)) (hB.n.c (fun k _ _ => p5 k (by omega)) (Nat.le_of_eq (p5 4 (by omega)).symm)) (hB.h.c (fun k _ _ => p5 k (by omega)) (Nat.le_of_eq (p5 29 (by omega)).symm)) p6
  · exact rel_of (hM.i.cg fun k _ => p5 k (by omega)) (hM.f.cg hB.f.1 fun k _ _ => p5 k (by omega)) (hM.c.cg hB.c.1 fun k _ _ => p5 k (by omega)) (hM.n.cg hB.n.1 fun k _ _ => p5 k (by omega)) (hM.h.cg hB.h.1 fun k _ _ => p5 k (by omega)) p7
theorem and63 : ∀ p, p < 64 → nI p &&& nI 63 = nI p := by decide +kernel
theorem inv_0 {K v : Nat} {g : Nat → Nat} (hB : BookInv K g) (hv : v < 2 ^ g 4) : BookInv K (updN g 0 v) :=
  inv_of ⟨by rw [updN_s, updN_n (by decide)]; exact hv, by rw [updN_n (by decide)]; exact hB.s.2.1, by rw [updN_n (by decide)]; exact hB.s.2.2.1, by rw [updN_n (by decide)]; exact hB.s.2.2.2⟩ (hB.f.c fun k _ _ => updN_n (by omega)) (hB.c.c fun k _ _ => updN_n (by omega)) (hB.n.c (fun k _ _ => updN_n (by omega)) (Nat.le_refl _)) (hB.h.c (fun k _ _ => updN_n (by omega)) (Nat.le_refl _)) (hB.u.c (fun k _ _ => updN_n (by omega)) rfl)
theorem rel_0 {K v : Nat} {g : Nat → Nat} {M : MT} (hB : BookInv K g) (hM : MRel g M) : MRel (updN g 0 v) (tI M 8 (nI v)) :=
  rel_of ⟨hM.i.1, rfl, hM.i.2.2.1, hM.i.2.2.2⟩ (hM.f.cg hB.f.1 fun k _ _ => updN_n (by omega)) (hM.c.cg hB.c.1 fun k _ _ => updN_n (by omega)) (hM.n.cg hB.n.1 fun k _ _ => updN_n (by omega)) (hM.h.cg hB.h.1 fun k _ _ => updN_n (by omega)) (hM.u.cg hB.u.1 fun k _ _ => updN_n (by omega))
theorem wins_0 (g : Nat → Nat) (v f : Nat) : winsG (updN g 0 v) f = winsG g f := by
  unfold winsG
  rw [updN_n (by omega), updN_n (by omega), updN_n (by omega)]
theorem cM_s (C : CT) (i : Nat) (m : MT) : (cM C i m).1 i = m := if_pos rfl
theorem cM_cM (C : CT) (i : Nat) (a b : MT) : cM (cM C i a) i b = cM C i b := by
  refine Prod.ext (funext fun j => ?_) rfl
  show (if j = i then b else if j = i then a else C.1 j) = if j = i then b else C.1 j
  split <;> rfl
theorem b_f : (if false = true then nI 1 else nI 0) = nI 0 := rfl
theorem b_t : (if true = true then nI 1 else nI 0) = nI 1 := rfl
theorem g_deny {K : Nat} {C : CT} {S : MS} (h : Sim K C S) (a1 : Int32) : Good (K + 1) (mX10_deny C a1) (mX11_deny S a1) := by
  obtain ⟨g, h1, h2, h3, h4⟩ := id h
  have h6 := h1.2.1.1.1
  unfold mX10_deny mX11_deny
  rcases isF_c h1 a1 with ⟨e1, e2⟩ | ⟨f, hf, rfl, e1, e2⟩
  · rw [e1, e2, ob_v, ob_v, if_pos z0, if_pos z0]
    exact g_bad h
  rw [e1, e2, ob_v, ob_v, if_neg z1, if_neg z1, isPl_v h1 hf, ald_v (by decide) (by decide), h1.1 0 (by decide), has_v _ h1.2.1.p64 f (by omega), ob_v, ob_v]
  cases (g 0).testBit f
  · rw [b_f, if_pos z0, if_pos z0]
    exact g_no h
  obtain ⟨S', g', U, p1, p2, p3, p4, p5, hB', hM'⟩ := past_b h1
  have hB := hB'.mono (Nat.le_succ K)
  have hf' : f < g' 4 := by rw [p5 4 (by omega)]; exact hf
  rw [b_t, if_neg z1, if_neg z1, p1, p2, ob_v, ob_v, nm_v, cM_s, vC_wins hM' hB' hf', ob_v]
  unfold mX11_denyAt
  rw [show nI 0 + nI 0 = nI 0 from rfl, ald_v (by decide) (by decide), p4 0 (by decide), vM_wins p4 hB' hf', ob_v]
  have hp := hB.p64
  cases hw : winsG g' f
  · have r := row_set p4 0 (g' 0)
    have hB2 := inv_0 hB hB.s.1
    have hw2 := vM_wins r hB2 (f := f) (by rw [updN_n (by decide)]; exact hf')
    rw [wins_0, hw] at hw2
    rw [b_f, if_pos z0, if_pos z0, ast_v (by decide) (by decide), nm_v, nI_clamp (by decide), and63 _ hp, hw2, b_f, ob_v, if_pos z0]
    have eg : ∀ k, updN g' 0 (g' 0) k = g' k := fun k => by
      unfold updN
      split
      · rename_i q; rw [q]
      · rfl
    exact ⟨nI 0, _, _, rfl, rfl, Sim.row (C := C) h2 h3 h4 (Nat.le_succ K) (p3.row2 _ _) r (fun k hk _ => (eg k).trans (p5 k (by omega))) hB2 (MRel.congr hB hM' fun k _ => eg k)⟩
  · have r := row_set p4 0 (andn (g' 0) (2 ^ f))
    have hB2 := inv_0 hB (v := andn (g' 0) (2 ^ f)) (Nat.lt_of_le_of_lt Nat.and_le_left hB.s.1)
    have hw2 := vM_wins r hB2 (f := f) (by rw [updN_n (by decide)]; exact hf')
    rw [wins_0, hw] at hw2
    have h2f : 2 ^ f < 256 := Nat.lt_of_lt_of_le (Nat.pow_lt_pow_right (by decide) (show f < 8 by omega)) (by decide)
    rw [b_t, if_neg z1, if_neg z1, ast_v (by decide) (by decide), nm_v, nm_v, nI_clamp (by decide), shl_v f (by omega), nI_andn (by omega) h2f, hw2, b_t, ob_v, if_neg z1, hM'.i.2.1, nI_andn (by omega) h2f, cM_cM]
    exact ⟨nI 1, _, _, rfl, rfl, Sim.row (C := C) h2 h3 h4 (Nat.le_succ K) (p3.row2 _ _) r (fun k hk _ => (updN_n (by omega)).trans (p5 k (by omega))) hB2 (rel_0 hB hM')⟩
