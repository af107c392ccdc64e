/-! images -/
theorem bec_L {nn : Nat} (hn : nn < 1000) (O : RS) : ∀ n k (S : RS), k ≤ nn → nn - k < n → (∀ j, j < k → S.2 j = O.2 j) → ∃ c, mX7_become_L2 nn O n (nI k) S = some (O.1, c) ∧ ∀ j, j < nn → c j = O.2 j := by
  intro n
  induction n with
  | zero => intro k S _ h; omega
  | succ n ih =>
    intro k S hk hn2 hS
    rw [mX7_become_L2_s, show Int32.ofNat nn = nI nn from rfl, ifN_le (by omega) (by omega)]
    by_cases hc : nn ≤ k
    · rw [if_pos hc, nm_v]
      exact ⟨_, rfl, fun j hj => hS j (by omega)⟩
    · rw [if_neg hc, ifN_le (by omega) (by omega), if_neg hc, ald_v (by omega) (by omega), ast_v (by omega) (by omega), nm_v, nm_v, nI_add, nI_clamp (by omega)]
      refine ih (k + 1) _ (by omega) (by omega) (fun j hj => ?_)
      show upd S.2 k (O.2 k) j = O.2 j
      rw [upd_v]
      split
      · rename_i q; rw [q]
      · exact hS j (by omega)
theorem bec_v {nn : Nat} (hn : nn < 1000) (O S : RS) : ∃ c, mX7_become nn O S = some (O.1, c) ∧ ∀ j, j < nn → c j = O.2 j :=
  bec_L hn O FU 0 S (Nat.zero_le _) (by show nn - 0 < 1000000; omega) (fun j hj => absurd hj (Nat.not_lt_zero j))
theorem bec_b {nn : Nat} (hn : nn < 1000) (O S : RS) {β : Type} (k : RS → Option β) {P : β → Prop} (h : ∀ c, (∀ j, j < nn → c j = O.2 j) → ∃ z, k (O.1, c) = some z ∧ P z) : ∃ z, (mX7_become nn O S).bind k = some z ∧ P z := by
  obtain ⟨c, p, q⟩ := bec_v hn O S
  rw [p, ob_v]
  exact h c q
theorem tR_s (M : MT) (i : Nat) (r : RS) : (tR M i r).1 i = r := if_pos rfl
theorem tR_n (M : MT) {i j : Nat} (r : RS) (h : j ≠ i) : (tR M i r).1 j = M.1 j := if_neg h
theorem tR_2 (M : MT) (i : Nat) (r : RS) : (tR M i r).2 = M.2 := rfl
theorem become_v {K : Nat} {g : Nat → Nat} {O : MT} (hB : BookInv K g) (hM : MRel g O) (S : MT) : ∃ M', mX3_become O S = some M' ∧ MRel g M' := by
  unfold mX3_become
  rw [nm_v, nm_v, nm_v, nm_v]
  have hI : RI g (tI (tI (tI (tI S 7 (O.2 7)) 8 (O.2 8)) 9 (O.2 9)) 10 (O.2 10)).2 := ⟨hM.i.1, hM.i.2.1, hM.i.2.2.1, hM.i.2.2.2⟩
  generalize (tI (tI (tI (tI S 7 (O.2 7)) 8 (O.2 8)) 9 (O.2 9)) 10 (O.2 10)) = T at hI ⊢
  have b0 := hB.f.1
  have b1 := hB.c.1
  have b2 := hB.n.1
  have b3 := hB.h.1
  have b4 := hB.u.1
  refine bec_b (by decide) _ _ _ (fun c0 q0 => ?_)
  rw [nm_v]
  refine bec_b (by decide) _ _ _ (fun c1 q1 => ?_)
  rw [nm_v]
  refine bec_b (by decide) _ _ _ (fun c2 q2 => ?_)
  rw [nm_v]
  refine bec_b (by decide) _ _ _ (fun c3 q3 => ?_)
  rw [nm_v]
  refine bec_b (by decide) _ _ _ (fun c4 q4 => ?_)
  rw [nm_v]
  refine ⟨_, rfl, rel_of ?_ ?_ ?_ ?_ ?_ ?_⟩
  · rw [tR_2, tR_2, tR_2, tR_2, tR_2]
    exact hI
  · rw [tR_n _ _ (by decide), tR_n _ _ (by decide), tR_n _ _ (by decide), tR_n _ _ (by decide), tR_s]
    refine ⟨hM.f.1, fun k hk => ?_⟩
    show c0 (4 * k) = _ ∧ c0 (4 * k + 1) = _ ∧ c0 (4 * k + 2) = _ ∧ c0 (4 * k + 3) = _
    rw [q0 _ (by omega), q0 _ (by omega), q0 _ (by omega), q0 _ (by omega)]
    exact hM.f.2 k hk
  · rw [tR_n _ _ (by decide), tR_n _ _ (by decide), tR_n _ _ (by decide), tR_s]
    refine ⟨hM.c.1, fun k hk => ?_⟩
    show c1 (2 * k) = _ ∧ c1 (2 * k + 1) = _
    rw [q1 _ (by omega), q1 _ (by omega)]
    exact hM.c.2 k hk
  · rw [tR_n _ _ (by decide), tR_n _ _ (by decide), tR_s]
    refine ⟨hM.n.1, fun k hk => ?_⟩
    show c2 (3 * k) = _ ∧ c2 (3 * k + 1) = _ ∧ c2 (3 * k + 2) = _
    rw [q2 _ (by omega), q2 _ (by omega), q2 _ (by omega)]
    exact hM.n.2 k hk
  · rw [tR_n _ _ (by decide), tR_s]
    refine ⟨hM.h.1, fun k hk => ?_⟩
    show c3 (2 * k) = _ ∧ c3 (2 * k + 1) = _
    rw [q3 _ (by omega), q3 _ (by omega)]
    exact hM.h.2 k hk
  · rw [tR_s]
    refine ⟨hM.u.1, fun k hk => ?_⟩
    show c4 (3 * k) = _ ∧ c4 (3 * k + 1) = _ ∧ c4 (3 * k + 2) = _
    rw [q4 _ (by omega), q4 _ (by omega), q4 _ (by omega)]
    exact hM.u.2 k hk
theorem img_L {y : Nat} (hy : y ≤ 1) : ∀ n k (S : MS) (g : Nat → Nat), RowIs S g → k ≤ 95 → 95 - k < n → ∃ S', mX11_image_L18 n (nI y) (nI k) S = some (nI 1, mA S' 1 y (nI 1)) ∧ Keep S S' ∧ RowIs S' (fun j => if 95 + 95 * y + k ≤ j ∧ j < 190 + 95 * y then g (j - (95 + 95 * y)) else g j) := by
  intro n
  induction n with
  | zero => intro k S g _ _ h; omega
  | succ n ih =>
    intro k S g hR hk hn
    rw [mX11_image_L18_s, ifN_le (by decide) (by omega)]
    by_cases hc : 95 ≤ k
    · rw [if_pos hc, ast_v (by omega) (by decide), nm_v, nI_clamp (by omega)]
      refine ⟨S, rfl, Keep.rfl' S, hR.cg fun j _ => ?_⟩
      rw [if_neg (by omega)]
    · rw [if_neg hc, ald_v (by omega) (by decide), hR k (by omega), pk_mul, nI_add, nI_add, ast_v (by omega) (by decide), nm_v, nm_v, nI_add, nI_clamp (by omega)]
      obtain ⟨S', q1, q2, q3⟩ := ih (k + 1) _ _ (row_set hR (95 + 95 * y + k) (g k)) (by omega) (by omega)
      refine ⟨S', q1, (Keep.row S _ _).trans q2, q3.cg fun j _ => ?_⟩
      by_cases hj : j = 95 + 95 * y + k
      · rw [if_pos (by omega), if_neg (by omega), hj, updN_s]
        congr 1
        omega
      · by_cases hj2 : 95 + 95 * y + k ≤ j ∧ j < 190 + 95 * y
        · rw [if_pos hj2, if_pos (by omega), updN_n (by omega)]
        · rw [if_neg hj2, if_neg (by omega), updN_n hj]
theorem g_image {K : Nat} {C : CT} {S : MS} (h : Sim K C S) (a1 : Int32) : Good (K + 1) (mX10_image C a1) (mX11_image S a1) := by
  obtain ⟨g, h1, h2, h3, h4⟩ := id h
  obtain ⟨hB0, hM⟩ := h1.2
  have hB := hB0.mono (Nat.le_succ K)
  have h2' := h2.mono (Nat.le_succ K)
  unfold mX10_image mX11_image
  rcases in_c2 a1 1 (by decide) with ⟨e1, e2, -⟩ | ⟨y, hy, rfl, e1, e2⟩
  · rw [e1, e2, ob_v, ob_v, if_pos z0, if_pos z0]
    exact g_bad h
  rw [e1, e2, ob_v, ob_v, if_neg z1, if_neg z1]
  obtain ⟨S', p1, ⟨k1, k2, k3, k4, k5, k6, k7⟩, p3⟩ := img_L hy FU 0 S g h1.1 (by decide) (by decide)
  rw [p1]
  obtain ⟨G, hG⟩ : ∃ G : Nat → Nat, G = (fun j => if 95 + 95 * y + 0 ≤ j ∧ j < 190 + 95 * y then g (j - (95 + 95 * y)) else g j) := ⟨_, rfl⟩
  rw [← hG] at p3
  have eL : ∀ k, k < 95 → G k = g k := fun k hk => by rw [hG]; exact if_neg (by omega)
  have eI : ∀ k, k < 95 → G (95 + 95 * y + k) = g k := fun k hk => by
    rw [hG]
    exact (if_pos ⟨by omega, by omega⟩).trans (congrArg g (by omega))
  have hR' : RowIs (mA S' 1 y (nI 1)) G := p3
  have hT : ∀ C' : CT, C'.2.1 = C.2.1 → TextRel C' (mA S' 1 y (nI 1)) := fun C' hC' => by
    obtain ⟨len, q1, q2, q3, q4⟩ := h4
    refine ⟨len, q1, by show S'.2.1 6 = _; rw [k5]; exact q2, by rw [hC']; exact q3, fun k hk => ?_⟩
    show ∃ c, c < 128 ∧ S'.1 5 k = nI c ∧ C'.2.1.1 k = nI c
    rw [k3, hC']
    exact q4 k hk
  rcases (show y = 0 ∨ y = 1 by omega) with rfl | rfl
  · obtain ⟨M', m1, m2⟩ := become_v hB hM (C.1 2)
    rw [if_pos z0, m1, ob_v, nm_v, nm_v]
    refine ⟨nI 1, _, _, rfl, rfl, G, ⟨hR', hB.congr eL, MRel.congr hB hM eL⟩, ⟨Or.inr ⟨rfl, rfl, ?_⟩, ?_⟩, ⟨?_, ?_, ?_⟩, hT _ rfl⟩
    · have e0 : ∀ k, k < 95 → sh G 0 k = g k := fun k hk => eI k hk
      exact ⟨hB.congr e0, MRel.congr hB m2 e0⟩
    · have := h2'.2.congr (b' := sh G 1) (fun k hk => by
        show G (95 + 95 * 1 + k) = g (95 + 95 * 1 + k)
        rw [hG]
        exact if_neg (by omega))
      show Img (K + 1) (sh G 1) (upd (S'.1 1) 0 (nI 1) 1) (C.2.2.2.1 7) (C.1 3)
      rw [upd_n (by decide), k1]
      exact this
    · show S'.1 2 0 = _ ∧ S'.1 2 1 = _ ∧ S'.1 2 2 = _
      rw [k2]
      exact h3.1
    · show S'.2.2 3 = _ ∧ S'.2.2 4 = _
      rw [k6, k7]
      exact h3.2.1
    · show S'.1 7 = _
      rw [k4]
      exact h3.2.2
  · obtain ⟨M', m1, m2⟩ := become_v hB hM (C.1 3)
    rw [if_neg z1, m1, ob_v, nm_v, nm_v]
    refine ⟨nI 1, _, _, rfl, rfl, G, ⟨hR', hB.congr eL, MRel.congr hB hM eL⟩, ⟨?_, Or.inr ⟨rfl, rfl, ?_⟩⟩, ⟨?_, ?_, ?_⟩, hT _ rfl⟩
    · have := h2'.1.congr (b' := sh G 0) (fun k hk => by
        show G (95 + 95 * 0 + k) = g (95 + 95 * 0 + k)
        rw [hG]
        exact if_neg (by omega))
      show Img (K + 1) (sh G 0) (upd (S'.1 1) 1 (nI 1) 0) (C.2.2.2.1 6) (C.1 2)
      rw [upd_n (by decide), k1]
      exact this
    · have e0 : ∀ k, k < 95 → sh G 1 k = g k := fun k hk => eI k hk
      exact ⟨hB.congr e0, MRel.congr hB m2 e0⟩
    · show S'.1 2 0 = _ ∧ S'.1 2 1 = _ ∧ S'.1 2 2 = _
      rw [k2]
      exact h3.1
    · show S'.2.2 3 = _ ∧ S'.2.2 4 = _
      rw [k6, k7]
      exact h3.2.1
    · show S'.1 7 = _
      rw [k4]
      exact h3.2.2
