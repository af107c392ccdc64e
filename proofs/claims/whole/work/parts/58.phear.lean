theorem g_heard {K : Nat} {C : CT} {S : MS} (h : Sim K C S) (a1 a2 : Int32) : Good (K + 1) (mX10_heard C a1 a2) (mX11_heard S a1 a2) := by
  obtain ⟨g, h1, h2, h3, h4⟩ := id h
  obtain ⟨hB0, hM⟩ := h1.2
  have hB := hB0.mono (Nat.le_succ K)
  have h6 := hB.h.1
  unfold mX10_heard mX11_heard
  rcases isC_c h1 a1 with ⟨e1, e2⟩ | ⟨f, hf, rfl, e1, e2⟩
  · rw [e1, e2, ob_v, ob_v, if_pos z0, if_pos z0]
    exact g_bad h
  rw [e1, e2, ob_v, ob_v, if_neg z1, if_neg z1]
  rcases in_c2 a2 1 (by decide) with ⟨e1, e2, -⟩ | ⟨d, hd, rfl, e1, e2⟩
  · rw [e1, e2, ob_v, ob_v, if_pos z0, if_pos z0]
    exact g_bad h
  rw [e1, e2, ob_v, ob_v, if_neg z1, if_neg z1, isFull_v hM.1.2.2.2.1 (by omega) (by decide), ob_v, ald_v (by decide) (by decide), h1.1 57 (by decide), ifN_eq (by omega) (by decide)]
  by_cases hc : g 57 = 6
  · rw [if_neg (show ¬ g 57 < 6 by omega), if_neg z1, if_pos hc]
    exact g_full h
  have hRa := row_set h1.1 (58 + 2 * g 57) f
  have ha := hRa 57 (by decide)
  rw [updN_n (by omega)] at ha
  have hR := row_set hRa (58 + 2 * g 57 + 1) d
  have hb := hR 57 (by decide)
  rw [updN_n (by omega), updN_n (by omega)] at hb
  have hR2 := row_set hR 57 (g 57 + 1)
  have eg : ∀ k, k ≠ 57 → k ≠ 58 + 2 * g 57 → k ≠ 58 + 2 * g 57 + 1 → updN (updN (updN g (58 + 2 * g 57) f) (58 + 2 * g 57 + 1) d) 57 (g 57 + 1) k = g k := fun k q1 q2 q3 => by rw [updN_n q1, updN_n q3, updN_n q2]
  have v0 : updN (updN (updN g (58 + 2 * g 57) f) (58 + 2 * g 57 + 1) d) 57 (g 57 + 1) (58 + 2 * g 57) = f := by rw [updN_n (by omega), updN_n (by omega), updN_s]
  have v1 : updN (updN (updN g (58 + 2 * g 57) f) (58 + 2 * g 57 + 1) d) 57 (g 57 + 1) (58 + 2 * g 57 + 1) = d := by rw [updN_n (by omega), updN_s]
  have v3 : updN (updN (updN g (58 + 2 * g 57) f) (58 + 2 * g 57 + 1) d) 57 (g 57 + 1) 57 = g 57 + 1 := updN_s _ _ _
  have hw := hR2 57 (by decide)
  rw [v3] at hw
  rw [if_pos (show g 57 < 6 by omega), if_pos z0, if_neg hc, add2 hM.1.2.2.2.1 (by decide) (by omega) (by decide) (by omega), ob_v, nm_v, ald_v (by decide) (by decide), h1.1 57 (by decide), pk_mul, nI_add, ast_v (by omega) (by decide), nm_v, nI_clamp (by omega), ald_v (by decide) (by decide), ha, pk_mul, nI_add, nI_add, ast_v (by omega) (by decide), nm_v, nI_clamp (by omega), ald_v (by decide) (by decide), hb, ast_v (by decide) (by decide), nm_v, nI_add, nI_clamp (by decide), ald_v (by decide) (by decide), hw]
  refine ⟨nI (g 57 + 1), _, _, congrArg some (Prod.ext rfl rfl), rfl, ?_⟩
  refine Sim.row h2 h3 h4 (Nat.le_succ K) (((Keep.row S _ _).row2 _ _).row2 _ _) hR2 (fun k hk _ => eg k (by omega) (by omega) (by omega)) ?_ ?_
  · refine inv_of (hB.s.c fun k _ => eg k (by omega) (by omega) (by omega)) (hB.f.c fun k _ _ => eg k (by omega) (by omega) (by omega)) (hB.c.c fun k _ _ => eg k (by omega) (by omega) (by omega)) (hB.n.c (fun k _ _ => eg k (by omega) (by omega) (by omega)) (Nat.le_of_eq (eg 4 (by omega) (by omega) (by omega)).symm)) ⟨by rw [v3]; omega, fun k hk => ?_⟩ (hB.u.c (fun k _ _ => eg k (by omega) (by omega) (by omega)) (eg 4 (by omega) (by omega) (by omega)))
    rw [v3] at hk
    rw [eg 29 (by omega) (by omega) (by omega)]
    by_cases hk2 : k = g 57
    · subst hk2
      rw [v0, v1]
      exact ⟨hf, hd⟩
    · rw [eg (58 + 2 * k) (by omega) (by omega) (by omega), eg (58 + 2 * k + 1) (by omega) (by omega) (by omega)]
      exact hB.h.2 k (by omega)
  · refine rel_of (hM.i.cg fun k _ => eg k (by omega) (by omega) (by omega)) (hM.f.cg hB.f.1 fun k _ _ => eg k (by omega) (by omega) (by omega)) (hM.c.cg hB.c.1 fun k _ _ => eg k (by omega) (by omega) (by omega)) (hM.n.cg hB.n.1 fun k _ _ => eg k (by omega) (by omega) (by omega)) ⟨by rw [v3]; rfl, fun k hk => ?_⟩ (hM.u.cg hB.u.1 fun k _ _ => eg k (by omega) (by omega) (by omega))
    rw [v3] at hk
    show upd (upd ((C.1 0).1 3).2 (g 57 * 2 + 0) (nI f)) (g 57 * 2 + 1) (nI d) (2 * k) = _ ∧ upd (upd ((C.1 0).1 3).2 (g 57 * 2 + 0) (nI f)) (g 57 * 2 + 1) (nI d) (2 * k + 1) = _
    by_cases hk2 : k = g 57
    · subst hk2
      rw [v0, v1, Nat.mul_comm (g 57) 2, Nat.add_zero, upd_n (by omega), upd_s, upd_s]
      exact ⟨rfl, rfl⟩
    · rw [eg (58 + 2 * k) (by omega) (by omega) (by omega), eg (58 + 2 * k + 1) (by omega) (by omega) (by omega), upd_n (by omega), upd_n (by omega), upd_n (by omega), upd_n (by omega)]
      exact hM.h.2 k (by omega)
theorem RowIs.cg {S : MS} {g g' : Nat → Nat} (h : RowIs S g) (e : ∀ k, k < 288 → g' k = g k) : RowIs S g' := fun k hk => by rw [e k hk]; exact h k hk
theorem lay_v (a : Nat) : ∀ n k (S : MS) (g : Nat → Nat), RowIs S g → k ≤ 95 → 95 - k < n → ∃ S', mX11_layBook_L2 n (nI a) (nI k) S = some S' ∧ Keep S S' ∧ RowIs S' (fun j => if j = 3 then a else if k ≤ j ∧ j < 95 then 0 else g j) := by
  intro n
  induction n with
  | zero => intro k S g _ _ h; omega
  | succ n ih =>
    intro k S g hR hk hn
    rw [mX11_layBook_L2_s, ifN_le (by decide) (by omega)]
    by_cases hc : 95 ≤ k
    · rw [if_pos hc, ast_v (by decide) (by decide), nm_v, nI_clamp (by decide)]
      refine ⟨_, rfl, Keep.row _ _ _, (row_set hR 3 a).cg fun j _ => ?_⟩
      unfold updN
      split
      · rfl
      · rw [if_neg (by omega)]
    · rw [if_neg hc, ast_v (by omega) (by decide), nm_v, nm_v, nI_add, nI_clamp (by omega)]
      obtain ⟨S', q1, q2, q3⟩ := ih (k + 1) _ _ (row_set hR k 0) (by omega) (by omega)
      refine ⟨S', q1, (Keep.row S k (nI 0)).trans q2, q3.cg fun j _ => ?_⟩
      by_cases h3 : j = 3
      · rw [if_pos h3, if_pos h3]
      · rw [if_neg h3, if_neg h3]
        by_cases hj : j = k
        · rw [if_pos (by omega), if_neg (by omega), hj, updN_s]
        · rw [updN_n hj]
          by_cases hj2 : k ≤ j ∧ j < 95
          · rw [if_pos hj2, if_pos (by omega)]
          · rw [if_neg hj2, if_neg (by omega)]
theorem g_book {K : Nat} {C : CT} {S : MS} (h : Sim K C S) (a1 : Int32) : Good (K + 1) (mX10_book C a1) (mX11_book S a1) := by
  obtain ⟨g, h1, h2, h3, h4⟩ := id h
  obtain ⟨hB0, hM⟩ := h1.2
  unfold mX10_book mX11_book mX3_begin mX3_beginSuit mX7_empty mX11_layBook
  rcases in_c2 a1 255 (by decide) with ⟨e1, e2, -⟩ | ⟨a, ha, rfl, e1, e2⟩
  · rw [e1, e2, ob_v, ob_v, if_pos z0, if_pos z0]
    exact g_bad h
  rw [e1, e2, ob_v, ob_v, if_neg z1, if_neg z1]
  obtain ⟨S', q1, q2, q3⟩ := lay_v a FU 0 S g h1.1 (by decide) (by decide)
  rw [ald_v (by decide) (by decide), h1.1 4 (by decide), q1, ob_v]
  have hz : ∀ k, k < 95 → k ≠ 3 → (fun j => if j = 3 then a else if 0 ≤ j ∧ j < 95 then 0 else g j) k = 0 := fun k hk hk2 => by
    show (if k = 3 then a else if 0 ≤ k ∧ k < 95 then 0 else g k) = 0
    rw [if_neg hk2, if_pos ⟨Nat.zero_le _, hk⟩]
  refine ⟨nI (g 4), _, _, congrArg some (Prod.ext hM.1.1 rfl), rfl, Sim.row (C := C) h2 h3 h4 (Nat.le_succ K) q2 q3 (fun k hk _ => ?_) ?_ ?_⟩
  · show (if k = 3 then a else if 0 ≤ k ∧ k < 95 then 0 else g k) = g k
    rw [if_neg (by omega), if_neg (by omega)]
  · have hn : ∀ {k : Nat} {P : Prop}, k < 0 → P := fun hk => absurd hk (Nat.not_lt_zero _)
    exact inv_of ⟨show (0 : Nat) < 2 ^ 0 by decide, Nat.zero_le _, Nat.zero_le _, by show a < 256; omega⟩ ⟨Nat.zero_le _, fun k hk => hn hk⟩ ⟨Nat.zero_le _, fun k hk => hn hk⟩ ⟨Nat.zero_le _, fun k hk => hn hk⟩ ⟨Nat.zero_le _, fun k hk => hn hk⟩ ⟨Nat.zero_le _, fun k hk => hn hk⟩
  · have hn : ∀ {k : Nat} {P : Prop}, k < 0 → P := fun hk => absurd hk (Nat.not_lt_zero _)
    exact rel_of ⟨rfl, rfl, rfl, rfl⟩ ⟨rfl, fun k hk => hn hk⟩ ⟨rfl, fun k hk => hn hk⟩ ⟨rfl, fun k hk => hn hk⟩ ⟨rfl, fun k hk => hn hk⟩ ⟨rfl, fun k hk => hn hk⟩
