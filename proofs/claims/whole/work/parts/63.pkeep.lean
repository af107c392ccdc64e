theorem addU_o {g : Nat → Nat} {n k : Nat} (h : k < 70 ∨ (71 ≤ k ∧ k < 71 + 3 * n) ∨ 71 + 3 * n + 3 ≤ k) : addU g n k = g k := by
  unfold addU
  rw [updN_n (by omega), updN_n (by omega), updN_n (by omega), updN_n (by omega)]
theorem addU_70 (g : Nat → Nat) (n : Nat) : addU g n 70 = n + 1 := updN_s _ _ _
theorem addU_0 (g : Nat → Nat) (n : Nat) : addU g n (71 + 3 * n) = g 0 := by
  unfold addU
  rw [updN_n (by omega), updN_n (by omega), updN_n (by omega), updN_s]
theorem addU_1 (g : Nat → Nat) (n : Nat) : addU g n (71 + 3 * n + 1) = g 1 := by
  unfold addU
  rw [updN_n (by omega), updN_n (by omega), updN_s]
theorem addU_2 (g : Nat → Nat) (n : Nat) : addU g n (71 + 3 * n + 2) = g 2 := by
  unfold addU
  rw [updN_n (by omega), updN_s]
theorem addU_P {K n : Nat} {g : Nat → Nat} (hs : PS K g) (hu : PU K g) (hn : g 70 = n) (h7 : n ≤ 7) : PU K (addU g n) := by
  refine ⟨by rw [addU_70]; omega, fun k hk => ?_⟩
  rw [addU_70] at hk
  rw [addU_o (k := 4) (by omega)]
  by_cases hk2 : k = n
  · subst hk2
    rw [addU_0, addU_1, addU_2]
    exact ⟨hs.1, hs.2.1, hs.2.2.1⟩
  · rw [addU_o (k := 71 + 3 * k) (by omega), addU_o (k := 71 + 3 * k + 1) (by omega), addU_o (k := 71 + 3 * k + 2) (by omega)]
    exact hu.2 k (by omega)
theorem addU_R {n : Nat} {g : Nat → Nat} {r : RS} (hr : RU g r) (hn : g 70 = n) (h7 : n ≤ 7) : RU (addU g n) (nI (n + 1), upd (upd (upd r.2 (n * 3 + 0) (nI (g 0))) (n * 3 + 1) (nI (g 1))) (n * 3 + 2) (nI (g 2))) := by
  refine ⟨by rw [addU_70], fun k hk => ?_⟩
  rw [addU_70] at hk
  show upd (upd (upd r.2 (n * 3 + 0) (nI (g 0))) (n * 3 + 1) (nI (g 1))) (n * 3 + 2) (nI (g 2)) (3 * k) = _ ∧ upd (upd (upd r.2 (n * 3 + 0) (nI (g 0))) (n * 3 + 1) (nI (g 1))) (n * 3 + 2) (nI (g 2)) (3 * k + 1) = _ ∧ upd (upd (upd r.2 (n * 3 + 0) (nI (g 0))) (n * 3 + 1) (nI (g 1))) (n * 3 + 2) (nI (g 2)) (3 * k + 2) = _
  by_cases hk2 : k = n
  · subst hk2
    rw [addU_0, addU_1, addU_2, Nat.mul_comm k 3, Nat.add_zero, upd_n (by omega), upd_n (by omega), upd_s, upd_n (by omega), upd_s, upd_s]
    exact ⟨rfl, rfl, rfl⟩
  · rw [addU_o (k := 71 + 3 * k) (by omega), addU_o (k := 71 + 3 * k + 1) (by omega), addU_o (k := 71 + 3 * k + 2) (by omega), upd_n (by omega), upd_n (by omega), upd_n (by omega), upd_n (by omega), upd_n (by omega), upd_n (by omega), upd_n (by omega), upd_n (by omega), upd_n (by omega)]
    exact hr.2 k (by omega)
theorem tR_tR (M : MT) (i : Nat) (a b : RS) : tR (tR M i a) i b = tR M i b := by
  refine Prod.ext (funext fun j => ?_) rfl
  show (if j = i then b else if j = i then a else M.1 j) = if j = i then b else M.1 j
  split <;> rfl
theorem past_v {K : Nat} {g : Nat → Nat} {C : CT} {S : MS} (h1 : Base K g C S) : ∃ S' g' U, mX11_keepPast S = some S' ∧ mX3_keepForUndo (C.1 0) = some (tR (C.1 0) 4 U) ∧ Keep S S' ∧ RowIs S' g' ∧ (∀ k, k < 70 ∨ 95 ≤ k → g' k = g k) ∧ PU K g' ∧ RU g' U := by
  obtain ⟨hR, hB, hM⟩ := h1
  have h8 := hB.u.1
  unfold mX11_keepPast mX3_keepForUndo
  rw [ald_v (by decide) (by decide), hR 70 (by decide), ifN_eq (by omega) (by decide), isFull_v hM.u.1 (by omega) (by decide), ob_v, hM.i.2.1, hM.i.2.2.1, hM.i.2.2.2]
  by_cases hc : g 70 = 8
  · obtain ⟨S2, q1, q2, q3⟩ := past_L14 FU 0 S g hR hc (by decide) (by decide)
    obtain ⟨G, hG⟩ : ∃ G : Nat → Nat, G = (fun j => if j = 70 then 7 else if 71 + 0 ≤ j ∧ j < 92 then g (j + 3) else g j) := ⟨_, rfl⟩
    rw [← hG] at q3
    have G70 : G 70 = 7 := by rw [hG]; exact if_pos rfl
    have Go : ∀ k, k < 70 ∨ 92 ≤ k → G k = g k := fun k hk => by rw [hG]; exact (if_neg (by omega)).trans (if_neg (by omega))
    have Gi : ∀ k, 71 ≤ k → k < 92 → G k = g (k + 3) := fun k hk hk2 => by rw [hG]; exact (if_neg (by omega)).trans (if_pos (by omega))
    obtain ⟨S3, p1, p2, p3⟩ := past_L57 q3 G70 (by decide)
    obtain ⟨c, d1, d2⟩ := dropF_v (S := (C.1 0).1 4) (by rw [hM.u.1, hc])
    have hs : PS K G := hB.s.c fun k _ => Go k (by omega)
    have hu : PU K G := ⟨by rw [G70]; decide, fun k hk => by
      rw [G70] at hk
      rw [Go 4 (by omega), Gi (71 + 3 * k) (by omega) (by omega), Gi (71 + 3 * k + 1) (by omega) (by omega), Gi (71 + 3 * k + 2) (by omega) (by omega)]
      exact hB.u.2 (k + 1) (by omega)⟩
    have hr : RU G (nI 7, c) := ⟨by rw [G70], fun k hk => by
      rw [G70] at hk
      show c (3 * k) = _ ∧ c (3 * k + 1) = _ ∧ c (3 * k + 2) = _
      rw [Gi (71 + 3 * k) (by omega) (by omega), Gi (71 + 3 * k + 1) (by omega) (by omega), Gi (71 + 3 * k + 2) (by omega) (by omega), d2 _ (by omega), d2 _ (by omega), d2 _ (by omega)]
      exact hM.u.2 (k + 1) (by omega)⟩
    have hR7 := addU_R hr G70 (by decide)
    rw [Go 0 (by omega), Go 1 (by omega), Go 2 (by omega)] at hR7
    rw [if_pos hc, q1, p1, if_neg (show ¬ g 70 < 8 by omega), if_neg z1, d1, ob_v, nm_v, tR_s, tR_2, hM.i.2.1, hM.i.2.2.1, hM.i.2.2.2, add3 (n := 7) rfl (by decide) (by decide) (by decide) (by decide), ob_v, nm_v, tR_tR]
    refine ⟨S3, addU G 7, _, rfl, rfl, q2.trans p2, p3, fun k hk => ?_, addU_P hs hu G70 (by decide), hR7⟩
    rw [addU_o (by omega), Go k (by omega)]
  · obtain ⟨S3, p1, p2, p3⟩ := past_L57 hR rfl (by omega)
    rw [if_neg hc, p1, if_pos (show g 70 < 8 by omega), if_pos z0, add3 hM.u.1 (by decide) (by omega) (by decide) (by omega), ob_v, nm_v]
    exact ⟨S3, addU g (g 70), _, rfl, rfl, p2, p3, fun k hk => addU_o (by omega), addU_P hB.s hB.u rfl (by omega), addU_R hM.u rfl (by omega)⟩
