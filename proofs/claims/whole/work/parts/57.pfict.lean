theorem g_fiction {K : Nat} {C : CT} {S : MS} (h : Sim K C S) (a1 a2 a3 a4 : Int32) : Good (K + 1) (mX10_fiction C a1 a2 a3 a4) (mX11_fiction S a1 a2 a3 a4) := by
  obtain ⟨g, h1, h2, h3, h4⟩ := id h
  obtain ⟨hB0, hM⟩ := h1.2
  have hB := hB0.mono (Nat.le_succ K)
  have h6 := hB.f.1
  unfold mX10_fiction mX11_fiction mX11_addFiction mX7_empty
  rcases in_c2 a1 5 (by decide) with ⟨e1, e2, -⟩ | ⟨a, ha, rfl, e1, e2⟩
  · rw [e1, e2, ob_v, ob_v, if_pos z0, if_pos z0]
    exact g_bad h
  rw [e1, e2, ob_v, ob_v, if_neg z1, if_neg z1]
  rcases in_c2 a2 255 (by decide) with ⟨e1, e2, -⟩ | ⟨b, hb, rfl, e1, e2⟩
  · rw [e1, e2, ob_v, ob_v, if_pos z0, if_pos z0]
    exact g_bad h
  rw [e1, e2, ob_v, ob_v, if_neg z1, if_neg z1]
  rcases in_c2 a3 7 (by decide) with ⟨e1, e2, -⟩ | ⟨c, hc, rfl, e1, e2⟩
  · rw [e1, e2, ob_v, ob_v, if_pos z0, if_pos z0]
    exact g_bad h
  rw [e1, e2, ob_v, ob_v, if_neg z1, if_neg z1]
  rcases in_c2 a4 20 (by decide) with ⟨e1, e2, -⟩ | ⟨d, hd, rfl, e1, e2⟩
  · rw [e1, e2, ob_v, ob_v, if_pos z0, if_pos z0]
    exact g_bad h
  rw [e1, e2, ob_v, ob_v, if_neg z1, if_neg z1, isFull_v hM.1.1 (by omega) (by decide), ob_v, ald_v (by decide) (by decide), h1.1 4 (by decide), ifN_eq (by omega) (by decide)]
  by_cases hx : g 4 = 6
  · rw [if_neg (show ¬ g 4 < 6 by omega), if_neg z1, if_pos hx]
    exact g_full h
  obtain ⟨G, hG⟩ : ∃ G, G = updN (updN (updN (updN g (5 + g 4) a) (11 + g 4) b) (17 + g 4) c) (23 + g 4) d := ⟨_, rfl⟩
  have hR := row_set (row_set (row_set (row_set h1.1 (5 + g 4) a) (11 + g 4) b) (17 + g 4) c) (23 + g 4) d
  rw [← hG] at hR
  have G4 : G 4 = g 4 := by rw [hG, updN_n (by omega), updN_n (by omega), updN_n (by omega), updN_n (by omega)]
  have hv := hR 4 (by decide)
  rw [G4] at hv
  have hR2 := row_set (row_set hR 4 (g 4 + 1)) 70 0
  have eg : ∀ k, k ≠ 4 → k ≠ 70 → k ≠ 5 + g 4 → k ≠ 11 + g 4 → k ≠ 17 + g 4 → k ≠ 23 + g 4 → updN (updN G 4 (g 4 + 1)) 70 0 k = g k := fun k q1 q2 q3 q4 q5 q6 => by rw [updN_n q2, updN_n q1, hG, updN_n q6, updN_n q5, updN_n q4, updN_n q3]
  have v0 : updN (updN G 4 (g 4 + 1)) 70 0 (5 + g 4) = a := by rw [updN_n (by omega), updN_n (by omega), hG, updN_n (by omega), updN_n (by omega), updN_n (by omega), updN_s]
  have v1 : updN (updN G 4 (g 4 + 1)) 70 0 (11 + g 4) = b := by rw [updN_n (by omega), updN_n (by omega), hG, updN_n (by omega), updN_n (by omega), updN_s]
  have v2 : updN (updN G 4 (g 4 + 1)) 70 0 (17 + g 4) = c := by rw [updN_n (by omega), updN_n (by omega), hG, updN_n (by omega), updN_s]
  have v3 : updN (updN G 4 (g 4 + 1)) 70 0 (23 + g 4) = d := by rw [updN_n (by omega), updN_n (by omega), hG, updN_s]
  have v4 : updN (updN G 4 (g 4 + 1)) 70 0 4 = g 4 + 1 := by rw [updN_n (by omega), updN_s]
  have v5 : updN (updN G 4 (g 4 + 1)) 70 0 70 = 0 := updN_s _ _ _
  have hw := hR2 4 (by decide)
  rw [v4] at hw
  rw [if_pos (show g 4 < 6 by omega), if_pos z0, if_neg hx, add4 hM.1.1 (by decide) (by omega) (by decide) (by omega), ob_v, nm_v, nm_v, ob_v, nm_v, ald_v (by decide) (by decide), h1.1 4 (by decide), nI_add, ast_v (by omega) (by decide), nm_v, nI_clamp (by omega), nI_add, ast_v (by omega) (by decide), nm_v, nI_clamp (by omega), nI_add, ast_v (by omega) (by decide), nm_v, nI_clamp (by omega), nI_add, ast_v (by omega) (by decide), nm_v, nI_clamp (by omega), ald_v (by decide) (by decide), hv, ast_v (by decide) (by decide), nm_v, nI_add, nI_clamp (by decide), ast_v (by decide) (by decide), nm_v, nI_clamp (by decide), ob_v, ald_v (by decide) (by decide), hw]
  refine ⟨nI (g 4 + 1) - nI 1, _, _, congrArg some (Prod.ext rfl rfl), rfl, ?_⟩
  have hp2 : 2 ^ (g 4 + 1) = 2 * 2 ^ g 4 := by rw [Nat.pow_succ, Nat.mul_comm]
  refine Sim.row (C := C) h2 h3 h4 (Nat.le_succ K) ((((((Keep.row S _ _).row2 _ _).row2 _ _).row2 _ _).row2 _ _).row2 _ _) hR2 (fun k hk _ => eg k (by omega) (by omega) (by omega) (by omega) (by omega) (by omega)) ?_ ?_
  · refine inv_of ?_ ⟨by rw [v4]; omega, fun k hk => ?_⟩ (hB.c.c fun k _ _ => eg k (by omega) (by omega) (by omega) (by omega) (by omega) (by omega)) (hB.n.c (fun k _ _ => eg k (by omega) (by omega) (by omega) (by omega) (by omega) (by omega)) (by rw [v4]; omega)) (hB.h.c (fun k _ _ => eg k (by omega) (by omega) (by omega) (by omega) (by omega) (by omega)) (Nat.le_of_eq (eg 29 (by omega) (by omega) (by omega) (by omega) (by omega) (by omega)).symm)) ⟨by rw [v5]; omega, fun k hk => by rw [v5] at hk; exact absurd hk (Nat.not_lt_zero k)⟩
    · have hs := hB.s
      unfold PS at hs ⊢
      rw [eg 0 (by omega) (by omega) (by omega) (by omega) (by omega) (by omega), eg 1 (by omega) (by omega) (by omega) (by omega) (by omega) (by omega), eg 2 (by omega) (by omega) (by omega) (by omega) (by omega) (by omega), eg 3 (by omega) (by omega) (by omega) (by omega) (by omega) (by omega), v4]
      exact ⟨by omega, hs.2⟩
    · rw [v4] at hk
      by_cases hk2 : k = g 4
      · subst hk2
        rw [v0, v1, v2, v3]
        exact ⟨by omega, by omega, by omega, hd⟩
      · rw [eg (5 + k) (by omega) (by omega) (by omega) (by omega) (by omega) (by omega), eg (11 + k) (by omega) (by omega) (by omega) (by omega) (by omega) (by omega), eg (17 + k) (by omega) (by omega) (by omega) (by omega) (by omega) (by omega), eg (23 + k) (by omega) (by omega) (by omega) (by omega) (by omega) (by omega)]
        exact hB.f.2 k (by omega)
  · refine rel_of (hM.i.cg fun k _ => eg k (by omega) (by omega) (by omega) (by omega) (by omega) (by omega)) ⟨by rw [v4]; rfl, fun k hk => ?_⟩ (hM.c.cg hB.c.1 fun k _ _ => eg k (by omega) (by omega) (by omega) (by omega) (by omega) (by omega)) (hM.n.cg hB.n.1 fun k _ _ => eg k (by omega) (by omega) (by omega) (by omega) (by omega) (by omega)) (hM.h.cg hB.h.1 fun k _ _ => eg k (by omega) (by omega) (by omega) (by omega) (by omega) (by omega)) ⟨by rw [v5]; rfl, fun k hk => by rw [v5] at hk; exact absurd hk (Nat.not_lt_zero k)⟩
    rw [v4] at hk
    obtain ⟨W, hW⟩ : ∃ W, W = upd (upd (upd (upd ((C.1 0).1 0).2 (g 4 * 4 + 0) (nI a)) (g 4 * 4 + 1) (nI b)) (g 4 * 4 + 2) (nI c)) (g 4 * 4 + 3) (nI d) := ⟨_, rfl⟩
    show upd (upd (upd (upd ((C.1 0).1 0).2 (g 4 * 4 + 0) (nI a)) (g 4 * 4 + 1) (nI b)) (g 4 * 4 + 2) (nI c)) (g 4 * 4 + 3) (nI d) (4 * k) = _ ∧ upd (upd (upd (upd ((C.1 0).1 0).2 (g 4 * 4 + 0) (nI a)) (g 4 * 4 + 1) (nI b)) (g 4 * 4 + 2) (nI c)) (g 4 * 4 + 3) (nI d) (4 * k + 1) = _ ∧ upd (upd (upd (upd ((C.1 0).1 0).2 (g 4 * 4 + 0) (nI a)) (g 4 * 4 + 1) (nI b)) (g 4 * 4 + 2) (nI c)) (g 4 * 4 + 3) (nI d) (4 * k + 2) = _ ∧ upd (upd (upd (upd ((C.1 0).1 0).2 (g 4 * 4 + 0) (nI a)) (g 4 * 4 + 1) (nI b)) (g 4 * 4 + 2) (nI c)) (g 4 * 4 + 3) (nI d) (4 * k + 3) = _
    rw [← hW]
    by_cases hk2 : k = g 4
    · subst hk2
      rw [v0, v1, v2, v3]
      refine ⟨?_, ?_, ?_, ?_⟩
      · rw [hW, upd_n (by omega), upd_n (by omega), upd_n (by omega), Nat.mul_comm (g 4) 4, Nat.add_zero, upd_s]
      · rw [hW, upd_n (by omega), upd_n (by omega), Nat.mul_comm (g 4) 4, upd_s]
      · rw [hW, upd_n (by omega), Nat.mul_comm (g 4) 4, upd_s]
      · rw [hW, Nat.mul_comm (g 4) 4, upd_s]
    · have hW2 : ∀ j, j < 4 * g 4 → W j = ((C.1 0).1 0).2 j := fun j hj => by rw [hW, upd_n (by omega), upd_n (by omega), upd_n (by omega), upd_n (by omega)]
      rw [eg (5 + k) (by omega) (by omega) (by omega) (by omega) (by omega) (by omega), eg (11 + k) (by omega) (by omega) (by omega) (by omega) (by omega) (by omega), eg (17 + k) (by omega) (by omega) (by omega) (by omega) (by omega) (by omega), eg (23 + k) (by omega) (by omega) (by omega) (by omega) (by omega) (by omega), hW2 _ (by omega), hW2 _ (by omega), hW2 _ (by omega), hW2 _ (by omega)]
      exact hM.f.2 k (by omega)
theorem g_suit {K : Nat} {C : CT} {S : MS} (h : Sim K C S) : Good (K + 1) (mX10_suit C) (mX11_suit S) := by
  obtain ⟨g, h1, h2, h3, h4⟩ := id h
  obtain ⟨hB0, hM⟩ := h1.2
  have hB := hB0.mono (Nat.le_succ K)
  have hp := h1.2.1.p64
  unfold mX10_suit mX11_suit mX3_beginSuit mX7_empty
  have hR2 := row_set (row_set (row_set (row_set h1.1 0 0) 1 0) 2 0) 70 0
  have eg : ∀ k, 3 ≤ k → k ≠ 70 → updN (updN (updN (updN g 0 0) 1 0) 2 0) 70 0 k = g k := fun k q1 q2 => by rw [updN_n q2, updN_n (by omega), updN_n (by omega), updN_n (by omega)]
  rw [hM.i.2.1, bitc_v (g 0) (by omega), ob_v, ald_v (by decide) (by decide), h1.1 0 (by decide), bits_v (g 0) (by omega), ob_v]
  refine ⟨nI (pop (g 0)), _, _, rfl, ?_, Sim.row (C := C) h2 h3 h4 (Nat.le_succ K) ((((Keep.row S _ _).row2 _ _).row2 _ _).row2 _ _) hR2 (fun k hk _ => eg k (by omega) (by omega)) ?_ ?_⟩
  · rw [show FU = 999996 + 1 + 1 + 1 + 1 from rfl, mX11_suit_L12_s, if_neg (by decide), ast_v (by decide) (by decide), nm_v, nm_v, nI_add, mX11_suit_L12_s, if_neg (by decide), ast_v (by decide) (by decide), nm_v, nm_v, nI_add, mX11_suit_L12_s, if_neg (by decide), ast_v (by decide) (by decide), nm_v, nm_v, nI_add, mX11_suit_L12_s, if_pos (by decide), ast_v (by decide) (by decide), nm_v]
    rfl
  · refine inv_of ⟨?_, Nat.zero_le _, Nat.zero_le _, ?_⟩ (hB.f.c fun k _ _ => eg k (by omega) (by omega)) (hB.c.c fun k _ _ => eg k (by omega) (by omega)) (hB.n.c (fun k _ _ => eg k (by omega) (by omega)) (Nat.le_refl _)) (hB.h.c (fun k _ _ => eg k (by omega) (by omega)) (Nat.le_refl _)) ⟨Nat.zero_le _, fun k hk => absurd hk (Nat.not_lt_zero k)⟩
    · exact Nat.pos_of_ne_zero (by simp)
    · rw [eg 3 (by decide) (by decide)]
      exact hB.s.2.2.2
  · refine rel_of ⟨?_, rfl, rfl, rfl⟩ (hM.f.cg hB.f.1 fun k _ _ => eg k (by omega) (by omega)) (hM.c.cg hB.c.1 fun k _ _ => eg k (by omega) (by omega)) (hM.n.cg hB.n.1 fun k _ _ => eg k (by omega) (by omega)) (hM.h.cg hB.h.1 fun k _ _ => eg k (by omega) (by omega)) ⟨rfl, fun k hk => absurd hk (Nat.not_lt_zero k)⟩
    rw [eg 3 (by decide) (by decide)]
    exact hM.i.1
