theorem from_L {y : Nat} (hy : y ≤ 1) : ∀ n k (S : MS) (g : Nat → Nat), RowIs S g → k ≤ 95 → 95 - k < n → ∃ S', mX11_from_L34 n (nI y) (nI k) S = some (nI 1, S') ∧ Keep S S' ∧ RowIs S' (fun j => if k ≤ j ∧ j < 95 then g (95 + 95 * y + j) else g j) := by
  intro n
  induction n with
  | zero => intro k S g _ _ h; omega
  | succ n ih =>
    intro k S g hR hk hn
    rw [mX11_from_L34_s, ifN_le (by decide) (by omega)]
    by_cases hc : 95 ≤ k
    · rw [if_pos hc]
      refine ⟨S, rfl, Keep.rfl' S, hR.cg fun j _ => ?_⟩
      rw [if_neg (by omega)]
    · rw [if_neg hc, pk_mul, nI_add, nI_add, ald_v (by omega) (by decide), hR (95 + 95 * y + k) (by omega), ast_v (by omega) (by decide), nm_v, nm_v, nI_add, nI_clamp (by omega)]
      obtain ⟨S', q1, q2, q3⟩ := ih (k + 1) _ _ (row_set hR k (g (95 + 95 * y + k))) (by omega) (by omega)
      refine ⟨S', q1, (Keep.row S _ _).trans q2, q3.cg fun j _ => ?_⟩
      by_cases hj : j = k
      · rw [if_pos (by omega), if_neg (by omega), hj, updN_s]
      · by_cases hj2 : k ≤ j ∧ j < 95
        · rw [if_pos hj2, if_pos (by omega), updN_n (by omega)]
        · rw [if_neg hj2, if_neg (by omega), updN_n hj]
theorem g_from {K : Nat} {C : CT} {S : MS} (h : Sim K C S) (a1 : Int32) : Good (K + 1) (mX10_from C a1) (mX11_from S a1) := by
  obtain ⟨g, h1, h2, h3, h4⟩ := id h
  unfold mX10_from mX11_from
  rcases in_c2 a1 1 (by decide) with ⟨e1, e2, -⟩ | ⟨y, hy, rfl, e1, e2⟩
  · rw [e1, e2, ob_v, ob_v, if_pos z0, if_pos z0]
    exact g_bad h
  rw [e1, e2, ob_v, ob_v, if_neg z1, if_neg z1, ald_v (by omega) (by decide)]
  obtain ⟨S', p1, p2, p3⟩ := from_L hy FU 0 S g h1.1 (by decide) (by decide)
  rw [p1]
  obtain ⟨G, hG⟩ : ∃ G : Nat → Nat, G = (fun j => if 0 ≤ j ∧ j < 95 then g (95 + 95 * y + j) else g j) := ⟨_, rfl⟩
  rw [← hG] at p3
  have eH : ∀ k, 95 ≤ k → k < 285 → G k = g k := fun k hk _ => by rw [hG]; exact if_neg (by omega)
  have eI : ∀ k, k < 95 → G k = g (95 + 95 * y + k) := fun k hk => by rw [hG]; exact if_pos ⟨Nat.zero_le _, hk⟩
  rcases (show y = 0 ∨ y = 1 by omega) with rfl | rfl
  · rw [if_pos z0, if_pos z0]
    rcases (h2.mono (Nat.le_succ K)).1 with ⟨q1, q2⟩ | ⟨q1, q2, q3, q4⟩
    · rw [q1, q2, if_pos z0, if_pos z0]
      exact g_no h
    · have e0 : ∀ k, k < 95 → G k = sh g 0 k := fun k hk => eI k hk
      obtain ⟨M', m1, m2⟩ := become_v q3 q4 (C.1 0)
      rw [q1, q2, if_neg z1, if_neg z1, m1, ob_v, nm_v]
      exact ⟨nI 1, _, _, rfl, rfl, Sim.row (C := C) h2 h3 h4 (Nat.le_succ K) p2 p3 eH (q3.congr e0) (MRel.congr q3 m2 e0)⟩
  · rw [if_neg z1, if_neg z1]
    rcases (h2.mono (Nat.le_succ K)).2 with ⟨q1, q2⟩ | ⟨q1, q2, q3, q4⟩
    · rw [q1, q2, if_pos z0, if_pos z0]
      exact g_no h
    · have e0 : ∀ k, k < 95 → G k = sh g 1 k := fun k hk => eI k hk
      obtain ⟨M', m1, m2⟩ := become_v q3 q4 (C.1 0)
      rw [q1, q2, if_neg z1, if_neg z1, m1, ob_v, nm_v]
      exact ⟨nI 1, _, _, rfl, rfl, Sim.row (C := C) h2 h3 h4 (Nat.le_succ K) p2 p3 eH (q3.congr e0) (MRel.congr q3 m2 e0)⟩
theorem g_undo {K : Nat} {C : CT} {S : MS} (h : Sim K C S) : Good (K + 1) (mX10_undo C) (mX11_undo S) := by
  obtain ⟨g, h1, h2, h3, h4⟩ := id h
  obtain ⟨hB0, hM⟩ := h1.2
  have hB := hB0.mono (Nat.le_succ K)
  have h8 := hB.u.1
  unfold mX10_undo mX11_undo mX3_takeBack
  rw [ald_v (by decide) (by decide), h1.1 70 (by decide), hM.1.2.2.2.2]
  by_cases hc : g 70 = 0
  · rw [hc, if_pos z0, if_pos z0]
    exact g_no h
  have hz : ¬ nI (g 70) = 0 := fun q => hc ((nI_eqz (by omega)).mp q)
  obtain ⟨n, hn⟩ : ∃ n, g 70 = n + 1 := ⟨g 70 - 1, by omega⟩
  have hm1 : nI (g 70) - nI 1 = nI n := by rw [hn, ← nI_add]; exact Int32.add_sub_cancel _ _
  obtain ⟨u0, u1, u2⟩ := hM.u.2 n (by omega)
  obtain ⟨w0, w1, w2⟩ := hB.u.2 n (by omega)
  have r0 := row_set h1.1 70 n
  have r1 := row_set r0 0 (g (71 + 3 * n))
  have r2 := row_set r1 1 (g (71 + 3 * n + 1))
  have r3 := row_set r2 2 (g (71 + 3 * n + 2))
  have a0 := r0 70 (by decide)
  rw [updN_s] at a0
  have b0 := r0 (71 + 3 * n) (by omega)
  rw [updN_n (by omega)] at b0
  have a1 := r1 70 (by decide)
  rw [updN_n (by omega), updN_s] at a1
  have b1 := r1 (71 + 3 * n + 1) (by omega)
  rw [updN_n (by omega), updN_n (by omega)] at b1
  have a2 := r2 70 (by decide)
  rw [updN_n (by omega), updN_n (by omega), updN_s] at a2
  have b2 := r2 (71 + 3 * n + 2) (by omega)
  rw [updN_n (by omega), updN_n (by omega), updN_n (by omega)] at b2
  obtain ⟨G, hG⟩ : ∃ G, G = updN (updN (updN (updN g 70 n) 0 (g (71 + 3 * n))) 1 (g (71 + 3 * n + 1))) 2 (g (71 + 3 * n + 2)) := ⟨_, rfl⟩
  rw [← hG] at r3
  have eg : ∀ k, k ≠ 70 → 3 ≤ k → G k = g k := fun k q1 q2 => by rw [hG, updN_n (by omega), updN_n (by omega), updN_n (by omega), updN_n q1]
  have g0 : G 0 = g (71 + 3 * n) := by rw [hG, updN_n (by omega), updN_n (by omega), updN_s]
  have g1 : G 1 = g (71 + 3 * n + 1) := by rw [hG, updN_n (by omega), updN_s]
  have g2 : G 2 = g (71 + 3 * n + 2) := by rw [hG, updN_s]
  have g70 : G 70 = n := by rw [hG, updN_n (by omega), updN_n (by omega), updN_n (by omega), updN_s]
  have c1 := r3 1 (by decide)
  rw [g1] at c1
  have k0 : ((C.1 0).1 4).2 (n * 3 + 0) = nI (g (71 + 3 * n)) := by rw [Nat.mul_comm n 3]; exact u0
  have k1 : ((C.1 0).1 4).2 (n * 3 + 1) = nI (g (71 + 3 * n + 1)) := by rw [Nat.mul_comm n 3]; exact u1
  have k2 : ((C.1 0).1 4).2 (n * 3 + 2) = nI (g (71 + 3 * n + 2)) := by rw [Nat.mul_comm n 3]; exact u2
  have kd : mX7_dropLast (nI 8) (nI 3) 24 ((C.1 0).1 4) = some (nI n, ((C.1 0).1 4).2) := by
    unfold mX7_dropLast
    rw [hM.1.2.2.2.2, if_neg (fun q => hc ((nI_lez (by omega)).mp q)), nm_v, hm1]
  have tI_1 : ∀ (M : MT) (k : Nat) (x : Int32), (tI M k x).1 = M.1 := fun _ _ _ => rfl
  rw [if_neg hz, if_neg hz, ald_v (by decide) (by decide), h1.1 70 (by decide), ast_v (by decide) (by decide), nm_v, nm_v, hm1, nI_clamp (by decide), cell_v (by decide) (by omega), k0, ob_v, nm_v, tI_1, cell_v (by decide) (by omega), k1, ob_v, nm_v, tI_1, tI_1, cell_v (by decide) (by omega), k2, ob_v, nm_v, tI_1, tI_1, tI_1, kd, ob_v, nm_v, ob_v, nm_v]
  refine ⟨nI (g (71 + 3 * n + 1)), _, _, congrArg some (Prod.ext rfl rfl), ?_, Sim.row (C := C) h2 h3 h4 (Nat.le_succ K) ((((Keep.row S _ _).row2 _ _).row2 _ _).row2 _ _) r3 (fun k hk _ => eg k (by omega) (by omega)) ?_ ?_⟩
  · rw [show FU = 999996 + 1 + 1 + 1 + 1 from rfl, mX11_undo_L30_s, if_neg (by decide), ald_v (by decide) (by decide), a0, pk_mul, nI_add, nI_add, Nat.add_zero, ald_v (by omega) (by decide), b0, ast_v (by decide) (by decide), nm_v, nm_v, nI_clamp (by decide), nI_add, mX11_undo_L30_s, if_neg (by decide), ald_v (by decide) (by decide), a1, pk_mul, nI_add, nI_add, ald_v (by omega) (by decide), b1, ast_v (by decide) (by decide), nm_v, nm_v, nI_clamp (by decide), nI_add, mX11_undo_L30_s, if_neg (by decide), ald_v (by decide) (by decide), a2, pk_mul, nI_add, nI_add, ald_v (by omega) (by decide), b2, ast_v (by decide) (by decide), nm_v, nm_v, nI_clamp (by decide), nI_add, mX11_undo_L30_s, if_pos (by decide), ald_v (by decide) (by decide), c1]
  · refine inv_of ⟨by rw [g0, eg 4 (by decide) (by decide)]; exact w0, by rw [g1]; exact w1, by rw [g2]; exact w2, by rw [eg 3 (by decide) (by decide)]; exact hB.s.2.2.2⟩ (hB.f.c fun k _ _ => eg k (by omega) (by omega)) (hB.c.c fun k _ _ => eg k (by omega) (by omega)) (hB.n.c (fun k _ _ => eg k (by omega) (by omega)) (Nat.le_of_eq (eg 4 (by decide) (by decide)).symm)) (hB.h.c (fun k _ _ => eg k (by omega) (by omega)) (Nat.le_of_eq (eg 29 (by decide) (by decide)).symm)) ⟨by rw [g70]; omega, fun k hk => ?_⟩
    rw [g70] at hk
    rw [eg 4 (by decide) (by decide), eg (71 + 3 * k) (by omega) (by omega), eg (71 + 3 * k + 1) (by omega) (by omega), eg (71 + 3 * k + 2) (by omega) (by omega)]
    exact hB.u.2 k (by omega)
  · refine rel_of ⟨by rw [eg 3 (by decide) (by decide)]; exact hM.i.1, by rw [g0]; rfl, by rw [g1]; rfl, by rw [g2]; rfl⟩ (hM.f.cg hB.f.1 fun k _ _ => eg k (by omega) (by omega)) (hM.c.cg hB.c.1 fun k _ _ => eg k (by omega) (by omega)) (hM.n.cg hB.n.1 fun k _ _ => eg k (by omega) (by omega)) (hM.h.cg hB.h.1 fun k _ _ => eg k (by omega) (by omega)) ⟨by rw [g70]; rfl, fun k hk => ?_⟩
    rw [g70] at hk
    rw [eg (71 + 3 * k) (by omega) (by omega), eg (71 + 3 * k + 1) (by omega) (by omega), eg (71 + 3 * k + 2) (by omega) (by omega)]
    exact hM.u.2 k (by omega)
