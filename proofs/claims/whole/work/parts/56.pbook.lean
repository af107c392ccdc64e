/-! the BOOK grows: rows added on both sides -/
theorem put_v {S : RS} {mo : Int32} {w nn j c : Nat} {x : Int32} (hn : nn < 1000) (hw : w < 1000) (hc : c < w) (hb : j * w + c < nn) : mX7_put mo (nI w) nn S (nI j) (nI c) x = some (S.1, upd S.2 (j * w + c) x) := by
  unfold mX7_put
  rw [nm_v, pk_mul, nI_add, if_neg (fun q => absurd ((nI_leI (a := w) (by omega) (by omega)).mp q) (by omega)), if_neg (nI_pos (by omega)), show Int32.ofNat nn = nI nn from rfl, if_neg (fun q => absurd ((nI_leI (a := nn) (by omega) (by omega)).mp q) (by omega)), ast_v hb (by omega), nm_v, nI_clamp (by omega)]
theorem put_n {S : RS} {mo y : Int32} {w nn c : Nat} {x : Int32} (hw : w < 1000) (hc1 : c < 1000) (hc : w ≤ c) : mX7_put mo (nI w) nn S y (nI c) x = some S := by
  unfold mX7_put
  rw [nm_v, if_pos ((nI_leI (by omega) (by omega)).mpr hc)]
theorem isFull_v {S : RS} {wi : Int32} {m nn n : Nat} (h : S.1 = nI n) (hn : n < 1000) (hm : m < 1000) : mX7_isFull (nI m) wi nn S = some (if n < m then nI 0 else nI 1) := by
  unfold mX7_isFull
  rw [h, ifN_lt (by omega) (by omega)]
  split
  · rw [zo_0]
  · rw [zo_1]
theorem add2 {S : RS} {m nn n : Nat} (h : S.1 = nI n) (hm : m < 1000) (hl : n < m) (hn : nn < 1000) (hb : n * 2 + 1 < nn) (a1 a2 a3 a4 : Int32) : mX7_add (nI m) (nI 2) nn S a1 a2 a3 a4 = some (nI (n + 1), upd (upd S.2 (n * 2 + 0) a1) (n * 2 + 1) a2) := by
  obtain ⟨s1, s2⟩ := S
  obtain rfl : s1 = nI n := h
  unfold mX7_add
  rw [isFull_v rfl (by omega) hm, if_pos hl, ob_v, if_pos z0, put_v (j := n) hn (by decide) (by decide) (by omega), ob_v, put_v (j := n) hn (by decide) (by decide) (by omega), ob_v, put_n (by decide) (by decide) (by decide), ob_v, put_n (by decide) (by decide) (by decide), ob_v, nm_v]
  show some (nI n + nI 1, _) = _
  rw [nI_add]
theorem add3 {S : RS} {m nn n : Nat} (h : S.1 = nI n) (hm : m < 1000) (hl : n < m) (hn : nn < 1000) (hb : n * 3 + 2 < nn) (a1 a2 a3 a4 : Int32) : mX7_add (nI m) (nI 3) nn S a1 a2 a3 a4 = some (nI (n + 1), upd (upd (upd S.2 (n * 3 + 0) a1) (n * 3 + 1) a2) (n * 3 + 2) a3) := by
  obtain ⟨s1, s2⟩ := S
  obtain rfl : s1 = nI n := h
  unfold mX7_add
  rw [isFull_v rfl (by omega) hm, if_pos hl, ob_v, if_pos z0, put_v (j := n) hn (by decide) (by decide) (by omega), ob_v, put_v (j := n) hn (by decide) (by decide) (by omega), ob_v, put_v (j := n) hn (by decide) (by decide) (by omega), ob_v, put_n (by decide) (by decide) (by decide), ob_v, nm_v]
  show some (nI n + nI 1, _) = _
  rw [nI_add]
theorem add4 {S : RS} {m nn n : Nat} (h : S.1 = nI n) (hm : m < 1000) (hl : n < m) (hn : nn < 1000) (hb : n * 4 + 3 < nn) (a1 a2 a3 a4 : Int32) : mX7_add (nI m) (nI 4) nn S a1 a2 a3 a4 = some (nI (n + 1), upd (upd (upd (upd S.2 (n * 4 + 0) a1) (n * 4 + 1) a2) (n * 4 + 2) a3) (n * 4 + 3) a4) := by
  obtain ⟨s1, s2⟩ := S
  obtain rfl : s1 = nI n := h
  unfold mX7_add
  rw [isFull_v rfl (by omega) hm, if_pos hl, ob_v, if_pos z0, put_v (j := n) hn (by decide) (by decide) (by omega), ob_v, put_v (j := n) hn (by decide) (by decide) (by omega), ob_v, put_v (j := n) hn (by decide) (by decide) (by omega), ob_v, put_v (j := n) hn (by decide) (by decide) (by omega), ob_v, nm_v]
  show some (nI n + nI 1, _) = _
  rw [nI_add]
theorem upd_s (f : Nat → Int32) (j : Nat) (v : Int32) : upd f j v j = v := if_pos rfl
theorem upd_n {f : Nat → Int32} {j k : Nat} {v : Int32} (h : k ≠ j) : upd f j v k = f k := if_neg h
theorem g_note {K : Nat} {C : CT} {S : MS} (h : Sim K C S) (a1 a2 a3 : Int32) : Good (K + 1) (mX10_note C a1 a2 a3) (mX11_note S a1 a2 a3) := by
  obtain ⟨g, h1, h2, h3, h4⟩ := id h
  obtain ⟨hB0, hM⟩ := h1.2
  have hB := hB0.mono (Nat.le_succ K)
  have h6 := hB.n.1
  unfold mX10_note mX11_note
  rcases isF_c h1 a1 with ⟨e1, e2⟩ | ⟨f, hf, rfl, e1, e2⟩
  · rw [e1, e2, ob_v, ob_v, if_pos z0, if_pos z0]
    exact g_bad h
  rw [e1, e2, ob_v, ob_v, if_neg z1, if_neg z1]
  rcases in_c2 a2 20 (by decide) with ⟨e1, e2, -⟩ | ⟨d, hd, rfl, e1, e2⟩
  · rw [e1, e2, ob_v, ob_v, if_pos z0, if_pos z0]
    exact g_bad h
  rw [e1, e2, ob_v, ob_v, if_neg z1, if_neg z1]
  rcases in_c2 a3 60 (by decide) with ⟨e1, e2, -⟩ | ⟨p, hp, rfl, e1, e2⟩
  · rw [e1, e2, ob_v, ob_v, if_pos z0, if_pos z0]
    exact g_bad h
  rw [e1, e2, ob_v, ob_v, if_neg z1, if_neg z1, isFull_v hM.1.2.2.1 (by omega) (by decide), ob_v, ald_v (by decide) (by decide), h1.1 38 (by decide), ifN_eq (by omega) (by decide)]
  by_cases hc : g 38 = 6
  · rw [if_neg (show ¬ g 38 < 6 by omega), if_neg z1, if_pos hc]
    exact g_full h
  have hR := row_set (row_set (row_set h1.1 (39 + 3 * g 38) f) (39 + 3 * g 38 + 1) d) (39 + 3 * g 38 + 2) p
  have h38 := hR 38 (by decide)
  rw [updN_n (by omega), updN_n (by omega), updN_n (by omega)] at h38
  have hR2 := row_set hR 38 (g 38 + 1)
  rw [if_pos (show g 38 < 6 by omega), if_pos z0, if_neg hc, add3 hM.1.2.2.1 (by decide) (by omega) (by decide) (by omega), ob_v, nm_v, ald_v (by decide) (by decide), h1.1 38 (by decide), nm_v, pk_mul, nI_add, ast_v (by omega) (by decide), nm_v, nI_clamp (by omega), nI_add, ast_v (by omega) (by decide), nm_v, nI_clamp (by omega), nI_add, ast_v (by omega) (by decide), nm_v, nI_clamp (by omega), ald_v (by decide) (by decide), h38, ast_v (by decide) (by decide), nm_v, nI_add, nI_clamp (by decide), ald_v (by decide) (by decide), hR2 38 (by decide), updN_s]
  have eg : ∀ k, k ≠ 38 → k ≠ 39 + 3 * g 38 → k ≠ 39 + 3 * g 38 + 1 → k ≠ 39 + 3 * g 38 + 2 → updN (updN (updN (updN g (39 + 3 * g 38) f) (39 + 3 * g 38 + 1) d) (39 + 3 * g 38 + 2) p) 38 (g 38 + 1) k = g k := fun k q1 q2 q3 q4 => by rw [updN_n q1, updN_n q4, updN_n q3, updN_n q2]
  have v0 : updN (updN (updN (updN g (39 + 3 * g 38) f) (39 + 3 * g 38 + 1) d) (39 + 3 * g 38 + 2) p) 38 (g 38 + 1) (39 + 3 * g 38) = f := by rw [updN_n (by omega), updN_n (by omega), updN_n (by omega), updN_s]
  have v1 : updN (updN (updN (updN g (39 + 3 * g 38) f) (39 + 3 * g 38 + 1) d) (39 + 3 * g 38 + 2) p) 38 (g 38 + 1) (39 + 3 * g 38 + 1) = d := by rw [updN_n (by omega), updN_n (by omega), updN_s]
  have v2 : updN (updN (updN (updN g (39 + 3 * g 38) f) (39 + 3 * g 38 + 1) d) (39 + 3 * g 38 + 2) p) 38 (g 38 + 1) (39 + 3 * g 38 + 2) = p := by rw [updN_n (by omega), updN_s]
  have v3 : updN (updN (updN (updN g (39 + 3 * g 38) f) (39 + 3 * g 38 + 1) d) (39 + 3 * g 38 + 2) p) 38 (g 38 + 1) 38 = g 38 + 1 := updN_s _ _ _
  refine ⟨nI (g 38 + 1), _, _, congrArg some (Prod.ext rfl rfl), rfl, ?_⟩
  refine Sim.row h2 h3 h4 (Nat.le_succ K) ((((Keep.row S _ _).row2 _ _).row2 _ _).row2 _ _) hR2 (fun k hk _ => eg k (by omega) (by omega) (by omega) (by omega)) ?_ ?_
  · refine inv_of (hB.s.c fun k _ => eg k (by omega) (by omega) (by omega) (by omega)) (hB.f.c fun k _ _ => eg k (by omega) (by omega) (by omega) (by omega)) (hB.c.c fun k _ _ => eg k (by omega) (by omega) (by omega) (by omega)) ⟨by rw [v3]; omega, fun k hk => ?_⟩ (hB.h.c (fun k _ _ => eg k (by omega) (by omega) (by omega) (by omega)) (Nat.le_of_eq (eg 29 (by omega) (by omega) (by omega) (by omega)).symm)) (hB.u.c (fun k _ _ => eg k (by omega) (by omega) (by omega) (by omega)) (eg 4 (by omega) (by omega) (by omega) (by omega)))
    rw [v3] at hk
    rw [eg 4 (by omega) (by omega) (by omega) (by omega)]
    by_cases hk2 : k = g 38
    · subst hk2
      rw [v0, v1, v2]
      exact ⟨hf, hd, hp⟩
    · rw [eg (39 + 3 * k) (by omega) (by omega) (by omega) (by omega), eg (39 + 3 * k + 1) (by omega) (by omega) (by omega) (by omega), eg (39 + 3 * k + 2) (by omega) (by omega) (by omega) (by omega)]
      exact hB.n.2 k (by omega)
  · refine rel_of (hM.i.cg fun k _ => eg k (by omega) (by omega) (by omega) (by omega)) (hM.f.cg hB.f.1 fun k _ _ => eg k (by omega) (by omega) (by omega) (by omega)) (hM.c.cg hB.c.1 fun k _ _ => eg k (by omega) (by omega) (by omega) (by omega)) ⟨by rw [v3]; rfl, fun k hk => ?_⟩ (hM.h.cg hB.h.1 fun k _ _ => eg k (by omega) (by omega) (by omega) (by omega)) (hM.u.cg hB.u.1 fun k _ _ => eg k (by omega) (by omega) (by omega) (by omega))
    rw [v3] at hk
    show upd (upd (upd ((C.1 0).1 2).2 (g 38 * 3 + 0) (nI f)) (g 38 * 3 + 1) (nI d)) (g 38 * 3 + 2) (nI p) (3 * k) = _ ∧ upd (upd (upd ((C.1 0).1 2).2 (g 38 * 3 + 0) (nI f)) (g 38 * 3 + 1) (nI d)) (g 38 * 3 + 2) (nI p) (3 * k + 1) = _ ∧ upd (upd (upd ((C.1 0).1 2).2 (g 38 * 3 + 0) (nI f)) (g 38 * 3 + 1) (nI d)) (g 38 * 3 + 2) (nI p) (3 * k + 2) = _
    by_cases hk2 : k = g 38
    · subst hk2
      rw [v0, v1, v2, Nat.mul_comm (g 38) 3, Nat.add_zero, upd_n (by omega), upd_n (by omega), upd_s, upd_n (by omega), upd_s, upd_s]
      exact ⟨rfl, rfl, rfl⟩
    · rw [eg (39 + 3 * k) (by omega) (by omega) (by omega) (by omega), eg (39 + 3 * k + 1) (by omega) (by omega) (by omega) (by omega), eg (39 + 3 * k + 2) (by omega) (by omega) (by omega) (by omega), upd_n (by omega), upd_n (by omega), upd_n (by omega), upd_n (by omega), upd_n (by omega), upd_n (by omega), upd_n (by omega), upd_n (by omega), upd_n (by omega)]
      exact hM.n.2 k (by omega)
theorem g_court {K : Nat} {C : CT} {S : MS} (h : Sim K C S) (a1 a2 : Int32) : Good (K + 1) (mX10_court C a1 a2) (mX11_court S a1 a2) := by
  obtain ⟨g, h1, h2, h3, h4⟩ := id h
  obtain ⟨hB0, hM⟩ := h1.2
  have hB := hB0.mono (Nat.le_succ K)
  have h6 := hB.c.1
  unfold mX10_court mX11_court mX11_addCourt mX7_empty
  rcases in_c2 a1 255 (by decide) with ⟨e1, e2, -⟩ | ⟨d, hd, rfl, e1, e2⟩
  · rw [e1, e2, ob_v, ob_v, if_pos z0, if_pos z0]
    exact g_bad h
  rw [e1, e2, ob_v, ob_v, if_neg z1, if_neg z1]
  rcases in_c2 a2 20 (by decide) with ⟨e1, e2, -⟩ | ⟨p, hp, rfl, e1, e2⟩
  · rw [e1, e2, ob_v, ob_v, if_pos z0, if_pos z0]
    exact g_bad h
  rw [e1, e2, ob_v, ob_v, if_neg z1, if_neg z1, isFull_v hM.1.2.1 (by omega) (by decide), ob_v, ald_v (by decide) (by decide), h1.1 29 (by decide), ifN_eq (by omega) (by decide)]
  by_cases hc : g 29 = 4
  · rw [if_neg (show ¬ g 29 < 4 by omega), if_neg z1, if_pos hc]
    exact g_full h
  have hRa := row_set h1.1 (30 + g 29) d
  have ha := hRa 29 (by decide)
  rw [updN_n (by omega)] at ha
  have hR := row_set hRa (34 + g 29) p
  have hb := hR 29 (by decide)
  rw [updN_n (by omega), updN_n (by omega)] at hb
  have hR2 := row_set (row_set hR 29 (g 29 + 1)) 70 0
  have eg : ∀ k, k ≠ 29 → k ≠ 70 → k ≠ 30 + g 29 → k ≠ 34 + g 29 → updN (updN (updN (updN g (30 + g 29) d) (34 + g 29) p) 29 (g 29 + 1)) 70 0 k = g k := fun k q1 q2 q3 q4 => by rw [updN_n q2, updN_n q1, updN_n q4, updN_n q3]
  have v0 : updN (updN (updN (updN g (30 + g 29) d) (34 + g 29) p) 29 (g 29 + 1)) 70 0 (30 + g 29) = d := by rw [updN_n (by omega), updN_n (by omega), updN_n (by omega), updN_s]
  have v1 : updN (updN (updN (updN g (30 + g 29) d) (34 + g 29) p) 29 (g 29 + 1)) 70 0 (34 + g 29) = p := by rw [updN_n (by omega), updN_n (by omega), updN_s]
  have v2 : updN (updN (updN (updN g (30 + g 29) d) (34 + g 29) p) 29 (g 29 + 1)) 70 0 29 = g 29 + 1 := by rw [updN_n (by omega), updN_s]
  have v3 : updN (updN (updN (updN g (30 + g 29) d) (34 + g 29) p) 29 (g 29 + 1)) 70 0 70 = 0 := updN_s _ _ _
  have hw := hR2 29 (by decide)
  rw [v2] at hw
  rw [if_pos (show g 29 < 4 by omega), if_pos z0, if_neg hc, add2 hM.1.2.1 (by decide) (by omega) (by decide) (by omega), ob_v, nm_v, nm_v, ob_v, nm_v, ald_v (by decide) (by decide), h1.1 29 (by decide), nI_add, ast_v (by omega) (by decide), nm_v, nI_clamp (by omega), ald_v (by decide) (by decide), ha, nI_add, ast_v (by omega) (by decide), nm_v, nI_clamp (by omega), ald_v (by decide) (by decide), hb, ast_v (by decide) (by decide), nm_v, nI_add, nI_clamp (by decide), ast_v (by decide) (by decide), nm_v, nI_clamp (by decide), ob_v, ald_v (by decide) (by decide), hw]
  refine ⟨nI (g 29 + 1) - nI 1, _, _, congrArg some (Prod.ext rfl rfl), rfl, ?_⟩
  refine Sim.row (C := C) h2 h3 h4 (Nat.le_succ K) ((((Keep.row S _ _).row2 _ _).row2 _ _).row2 _ _) hR2 (fun k hk _ => eg k (by omega) (by omega) (by omega) (by omega)) ?_ ?_
  · refine inv_of (hB.s.c fun k _ => eg k (by omega) (by omega) (by omega) (by omega)) (hB.f.c fun k _ _ => eg k (by omega) (by omega) (by omega) (by omega)) ⟨by rw [v2]; omega, fun k hk => ?_⟩ (hB.n.c (fun k _ _ => eg k (by omega) (by omega) (by omega) (by omega)) (Nat.le_of_eq (eg 4 (by omega) (by omega) (by omega) (by omega)).symm)) (hB.h.c (fun k _ _ => eg k (by omega) (by omega) (by omega) (by omega)) (by rw [v2]; omega)) ⟨by rw [v3]; omega, fun k hk => by rw [v3] at hk; exact absurd hk (Nat.not_lt_zero k)⟩
    rw [v2] at hk
    by_cases hk2 : k = g 29
    · subst hk2
      rw [v0, v1]
      exact ⟨by omega, hp⟩
    · rw [eg (30 + k) (by omega) (by omega) (by omega) (by omega), eg (34 + k) (by omega) (by omega) (by omega) (by omega)]
      exact hB.c.2 k (by omega)
  · refine rel_of (hM.i.cg fun k _ => eg k (by omega) (by omega) (by omega) (by omega)) (hM.f.cg hB.f.1 fun k _ _ => eg k (by omega) (by omega) (by omega) (by omega)) ⟨by rw [v2]; rfl, fun k hk => ?_⟩ (hM.n.cg hB.n.1 fun k _ _ => eg k (by omega) (by omega) (by omega) (by omega)) (hM.h.cg hB.h.1 fun k _ _ => eg k (by omega) (by omega) (by omega) (by omega)) ⟨by rw [v3]; rfl, fun k hk => by rw [v3] at hk; exact absurd hk (Nat.not_lt_zero k)⟩
    rw [v2] at hk
    show upd (upd ((C.1 0).1 1).2 (g 29 * 2 + 0) (nI d)) (g 29 * 2 + 1) (nI p) (2 * k) = _ ∧ upd (upd ((C.1 0).1 1).2 (g 29 * 2 + 0) (nI d)) (g 29 * 2 + 1) (nI p) (2 * k + 1) = _
    by_cases hk2 : k = g 29
    · subst hk2
      rw [v0, v1, Nat.mul_comm (g 29) 2, Nat.add_zero, upd_n (by omega), upd_s, upd_s]
      exact ⟨rfl, rfl⟩
    · rw [eg (30 + k) (by omega) (by omega) (by omega) (by omega), eg (34 + k) (by omega) (by omega) (by omega) (by omega), upd_n (by omega), upd_n (by omega), upd_n (by omega), upd_n (by omega)]
      exact hM.c.2 k (by omega)
