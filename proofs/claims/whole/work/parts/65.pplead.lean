theorem g_plead {K : Nat} {C : CT} {S : MS} (h : Sim K C S) (hK : K ≤ 70) (a1 : Int32) : Good (K + 1) (mX10_plead C a1) (mX11_plead S a1) := by
  obtain ⟨g, h1, h2, h3, h4⟩ := id h
  have h6 := h1.2.1.1.1
  have hs := h1.2.1.s
  have d1 : g 1 < 1000 := by have := hs.2.1; omega
  unfold mX10_plead mX11_plead
  rcases isF_c h1 a1 with ⟨e1, e2⟩ | ⟨f, hf, rfl, e1, e2⟩
  · rw [e1, e2, ob_v, ob_v, if_pos z0, if_pos z0]
    exact g_bad h
  rw [e1, e2, ob_v, ob_v, if_neg z1, if_neg z1, ald_v (by decide) (by decide), h1.1 0 (by decide), ald_v (by decide) (by decide), h1.1 1 (by decide), vM_may h1.1 h1.2.1 hf h1.2.1.p64 d1, vC_may h1 (by omega) hf, ob_v, ob_v]
  cases mayG g f (g 0) (g 1)
  · rw [b_f, if_pos z0, if_pos z0]
    exact g_no h
  obtain ⟨S', g', U, p1, p2, p3, p4, p5, hB', hM'⟩ := past_b h1
  have hB := hB'.mono (Nat.le_succ K)
  have hf' : f < g' 4 := by rw [p5 4 (by omega)]; exact hf
  have hp := hB.p64
  have q1 : g' 1 = g 1 := p5 1 (by omega)
  have hc : costG g f (g 1) = costG g' f (g' 1) := by
    unfold costG
    rw [p5 (5 + f) (by omega), p5 (23 + f) (by omega), q1]
  have hcl : costG g' f (g' 1) ≤ 22 + g' 1 := costK_le (hB'.f.2 f hf').2.2.2
  have hs' := hB'.s
  rw [b_t, if_neg z1, if_neg z1, h1.2.2.i.2.2.1, vC_cost h1.2.2 h1.2.1 hf d1, ob_v, p1, p2, ob_v, ob_v, hc, nm_v, nm_v, nm_v, nm_v]
  have hcost := vM_cost p4 hB' hf' (d := g' 1) (by omega)
  generalize costG g' f (g' 1) = c at hcl hcost ⊢
  unfold mX11_pleadAt
  have r1 := row_set p4 2 (g' 2 + c)
  have r2 := row_set r1 0 (g' 0 ||| 2 ^ f)
  have r3 := row_set r2 1 (g' 1 + 1)
  have a0 := r1 0 (by decide)
  rw [updN_n (by decide)] at a0
  have a1 := r2 1 (by decide)
  rw [updN_n (by decide), updN_n (by decide)] at a1
  have a2 := r3 2 (by decide)
  rw [updN_n (by decide), updN_n (by decide), updN_s] at a2
  have h2f : 2 ^ f < 2 ^ g' 4 := Nat.pow_lt_pow_right (by decide) hf'
  have h2g : 2 ^ f < 256 := Nat.lt_of_lt_of_le (Nat.pow_lt_pow_right (by decide) (show f < 8 by omega)) (by decide)
  rw [show nI 0 + nI 2 = nI 2 from rfl, show nI 0 + nI 1 = nI 1 from rfl, show nI 0 + nI 0 = nI 0 from rfl, ald_v (by decide) (by decide), p4 2 (by decide), ald_v (by decide) (by decide), p4 2 (by decide), ald_v (by decide) (by decide), p4 1 (by decide), hcost, ob_v, ast_v (by decide) (by decide), nm_v, nI_clamp (by decide), nI_add, ald_v (by decide) (by decide), a0, ast_v (by decide) (by decide), nm_v, nI_clamp (by decide), shl_v f (by omega), nI_or (by omega) (by omega), ald_v (by decide) (by decide), a1, ast_v (by decide) (by decide), nm_v, nI_clamp (by decide), nI_add, ob_v, ald_v (by decide) (by decide), a2, Nat.add_comm (g' 2) c, nI_subk, cM_s, cM_cM, cM_s, cM_cM, cM_s, cM_cM]
  rw [Nat.add_comm (g' 2) c] at r3
  refine ⟨nI c, _, _, rfl, rfl, Sim.row (C := C) h2 h3 h4 (Nat.le_succ K) (((p3.row2 _ _).row2 _ _).row2 _ _) r3 (fun k hk _ => ?_) ?_ ?_⟩
  · rw [updN_n (by omega), updN_n (by omega), updN_n (by omega)]
    exact p5 k (by omega)
  · have eg : ∀ k, 3 ≤ k → updN (updN (updN g' 2 (c + g' 2)) 0 (g' 0 ||| 2 ^ f)) 1 (g' 1 + 1) k = g' k := fun k q => by rw [updN_n (by omega), updN_n (by omega), updN_n (by omega)]
    refine inv_of ⟨?_, ?_, ?_, ?_⟩ (hB.f.c fun k _ _ => eg k (by omega)) (hB.c.c fun k _ _ => eg k (by omega)) (hB.n.c (fun k _ _ => eg k (by omega)) (Nat.le_of_eq (eg 4 (by omega)).symm)) (hB.h.c (fun k _ _ => eg k (by omega)) (Nat.le_of_eq (eg 29 (by omega)).symm)) (hB.u.c (fun k _ _ => eg k (by omega)) (eg 4 (by omega)))
    · rw [eg 4 (by omega), updN_n (by decide), updN_s]
      exact Nat.or_lt_two_pow hs'.1 h2f
    · rw [updN_s]
      exact Nat.succ_le_succ hs'.2.1
    · rw [updN_n (by decide), updN_n (by decide), updN_s]
      have := hs'.2.1
      have := hs'.2.2.1
      omega
    · rw [eg 3 (by omega)]
      exact hs'.2.2.2
  · have eg : ∀ k, 3 ≤ k → updN (updN (updN g' 2 (c + g' 2)) 0 (g' 0 ||| 2 ^ f)) 1 (g' 1 + 1) k = g' k := fun k q => by rw [updN_n (by omega), updN_n (by omega), updN_n (by omega)]
    refine rel_of ⟨hM'.i.1.trans (by rw [eg 3 (by omega)]), ?_, ?_, ?_⟩ (hM'.f.cg hB.f.1 fun k _ _ => eg k (by omega)) (hM'.c.cg hB.c.1 fun k _ _ => eg k (by omega)) (hM'.n.cg hB.n.1 fun k _ _ => eg k (by omega)) (hM'.h.cg hB.h.1 fun k _ _ => eg k (by omega)) (hM'.u.cg hB.u.1 fun k _ _ => eg k (by omega))
    · show (tR (C.1 0) 4 U).2 8 ||| nI (2 ^ f) = nI (g' 0 ||| 2 ^ f)
      rw [hM'.i.2.1, nI_or (by omega) (by omega)]
    · show (tR (C.1 0) 4 U).2 9 + nI 1 = nI (g' 1 + 1)
      rw [hM'.i.2.2.1, nI_add]
    · show (tR (C.1 0) 4 U).2 10 + nI c = nI (c + g' 2)
      rw [hM'.i.2.2.2, nI_add, Nat.add_comm]
