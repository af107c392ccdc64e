/-! what undo will want, kept on both sides -/
theorem nI_subk (a b : Nat) : nI (a + b) - nI b = nI a := by rw [← nI_add]; exact Int32.add_sub_cancel _ _
def addU (g : Nat → Nat) (n : Nat) : Nat → Nat := updN (updN (updN (updN g (71 + 3 * n) (g 0)) (71 + 3 * n + 1) (g 1)) (71 + 3 * n + 2) (g 2)) 70 (n + 1)
theorem past_L57 {S : MS} {g : Nat → Nat} {n : Nat} (hR : RowIs S g) (hn : g 70 = n) (h7 : n ≤ 7) : ∃ S', mX11_keepPast_L57 FU (nI 0) S = some S' ∧ Keep S S' ∧ RowIs S' (addU g n) := by
  have r1 := row_set hR (71 + 3 * n) (g 0)
  have r2 := row_set r1 (71 + 3 * n + 1) (g 1)
  have r3 := row_set r2 (71 + 3 * n + 2) (g 2)
  have r4 := row_set r3 70 (n + 1)
  have a0 := hR 70 (by decide)
  rw [hn] at a0
  have a1 := r1 70 (by decide)
  rw [updN_n (by omega), hn] at a1
  have b1 := r1 1 (by decide)
  rw [updN_n (by omega)] at b1
  have a2 := r2 70 (by decide)
  rw [updN_n (by omega), updN_n (by omega), hn] at a2
  have b2 := r2 2 (by decide)
  rw [updN_n (by omega), updN_n (by omega)] at b2
  have a3 := r3 70 (by decide)
  rw [updN_n (by omega), updN_n (by omega), updN_n (by omega), hn] at a3
  refine ⟨_, ?_, (((Keep.row S _ _).row2 _ _).row2 _ _).row2 _ _, r4⟩
  rw [show FU = 999996 + 1 + 1 + 1 + 1 from rfl, mX11_keepPast_L57_s, if_neg (by decide), ald_v (by decide) (by decide), a0, ald_v (by decide) (by decide), hR 0 (by decide), pk_mul, nI_add, nI_add, ast_v (by omega) (by decide), nm_v, nm_v, nI_clamp (by omega), nI_add, mX11_keepPast_L57_s, if_neg (by decide), Nat.add_zero (71 + 3 * n), ald_v (by decide) (by decide), a1, ald_v (by decide) (by decide), b1, pk_mul, nI_add, nI_add, ast_v (by omega) (by decide), nm_v, nm_v, nI_clamp (by omega), nI_add, mX11_keepPast_L57_s, if_neg (by decide), ald_v (by decide) (by decide), a2, ald_v (by decide) (by decide), b2, pk_mul, nI_add, nI_add, ast_v (by omega) (by decide), nm_v, nm_v, nI_clamp (by omega), nI_add, mX11_keepPast_L57_s, if_pos (by decide), ald_v (by decide) (by decide), a3, ast_v (by decide) (by decide), nm_v, nI_add, nI_clamp (by decide)]
theorem past_L14 : ∀ n k (S : MS) (g : Nat → Nat), RowIs S g → g 70 = 8 → k ≤ 21 → 21 - k < n → ∃ S2, mX11_keepPast_L14 n (nI k) S = mX11_keepPast_L57 FU (nI 0) S2 ∧ Keep S S2 ∧ RowIs S2 (fun j => if j = 70 then 7 else if 71 + k ≤ j ∧ j < 92 then g (j + 3) else g j) := by
  intro n
  induction n with
  | zero => intro k S g _ _ _ h; omega
  | succ n ih =>
    intro k S g hR h8 hk hn
    rw [mX11_keepPast_L14_s, ifN_le (by decide) (by omega)]
    by_cases hc : 21 ≤ k
    · rw [if_pos hc, ald_v (by decide) (by decide), hR 70 (by decide), h8, ast_v (by decide) (by decide), nm_v, nI_clamp (by decide), show nI 8 - nI 1 = nI 7 from nI_subk 7 1]
      refine ⟨_, rfl, Keep.row _ _ _, (row_set hR 70 7).cg fun j _ => ?_⟩
      unfold updN
      split
      · rfl
      · rw [if_neg (by omega)]
    · rw [if_neg hc, nI_add, ald_v (by omega) (by decide), hR (74 + k) (by omega), nI_add, ast_v (by omega) (by decide), nm_v, nm_v, nI_add, nI_clamp (by omega)]
      obtain ⟨S', q1, q2, q3⟩ := ih (k + 1) _ _ (row_set hR (71 + k) (g (74 + k))) (by rw [updN_n (by omega)]; exact h8) (by omega) (by omega)
      refine ⟨S', q1, (Keep.row S _ _).trans q2, q3.cg fun j _ => ?_⟩
      by_cases h70 : j = 70
      · rw [if_pos h70, if_pos h70]
      · rw [if_neg h70, if_neg h70]
        by_cases hj : j = 71 + k
        · rw [if_pos (by omega), if_neg (by omega), hj, updN_s]
          exact congrArg g (by omega)
        · by_cases hj2 : 71 + k ≤ j ∧ j < 92
          · rw [if_pos hj2, if_pos (by omega), updN_n (by omega)]
          · rw [if_neg hj2, if_neg (by omega), updN_n hj]
theorem dropF_L : ∀ n m (S : RS), m ≤ 21 → 21 - m < n → S.1 = nI 8 → ∃ c, mX7_dropFirst_L5 (nI 8) (nI 3) 24 n (nI (m + 3)) S = some (nI 7, c) ∧ ∀ j, j < 21 → c j = if m ≤ j then S.2 (j + 3) else S.2 j := by
  intro n
  induction n with
  | zero => intro m S _ h; omega
  | succ n ih =>
    intro m S hm hn h8
    rw [mX7_dropFirst_L5_s, show Int32.ofNat 24 = nI 24 from rfl, ifN_le (by decide) (by omega)]
    by_cases hc : 24 ≤ m + 3
    · rw [if_pos hc]
      unfold mX7_dropLast
      rw [h8, if_neg (by decide), nm_v, show nI 8 - nI 1 = nI 7 from nI_subk 7 1, ob_v]
      refine ⟨_, rfl, fun j hj => ?_⟩
      rw [if_neg (by omega)]
    · rw [if_neg hc, nm_v, nI_subk, if_neg (nI_pos (by omega)), ald_v (by omega) (by decide), ast_v (by omega) (by decide), nm_v, nm_v, nI_add, nI_clamp (by omega)]
      obtain ⟨c, q1, q2⟩ := ih (m + 1) (S.1, upd S.2 m (S.2 (m + 3))) (by omega) (by omega) h8
      refine ⟨c, q1, fun j hj => ?_⟩
      rw [q2 j hj]
      show (if m + 1 ≤ j then upd S.2 m (S.2 (m + 3)) (j + 3) else upd S.2 m (S.2 (m + 3)) j) = _
      by_cases hj1 : j = m
      · rw [if_neg (by omega), if_pos (by omega), hj1, upd_s]
      · by_cases hj2 : m ≤ j
        · rw [if_pos (by omega), if_pos hj2, upd_n (by omega)]
        · rw [if_neg (by omega), if_neg hj2, upd_n hj1]
theorem dropF_v {S : RS} (h8 : S.1 = nI 8) : ∃ c, mX7_dropFirst (nI 8) (nI 3) 24 S = some (nI 7, c) ∧ ∀ j, j < 21 → c j = S.2 (j + 3) := by
  obtain ⟨c, q1, q2⟩ := dropF_L FU 0 S (by decide) (by decide) h8
  exact ⟨c, q1, fun j hj => by rw [q2 j hj, if_pos (Nat.zero_le _)]⟩
