/-! the two objects side by side -/
def TextRel (C : CT) (S : MS) : Prop := ∃ len, len ≤ 150 ∧ S.2.1 6 = nI len ∧ C.2.1.2 1 = nI len ∧ ∀ k, k < len → ∃ c, c < 128 ∧ S.1 5 k = nI c ∧ C.2.1.1 k = nI c
def sh (g : Nat → Nat) (i : Nat) : Nat → Nat := fun k => g (95 + 95 * i + k)
def Img (K : Nat) (b : Nat → Nat) (k1 k2 : Int32) (M : MT) : Prop := (k1 = nI 0 ∧ k2 = nI 0) ∨ (k1 = nI 1 ∧ k2 = nI 1 ∧ BookInv K b ∧ MRel b M)
def ImgRel (K : Nat) (g : Nat → Nat) (C : CT) (S : MS) : Prop := Img K (sh g 0) (S.1 1 0) (C.2.2.2.1 6) (C.1 2) ∧ Img K (sh g 1) (S.1 1 1) (C.2.2.2.1 7) (C.1 3)
def RestRel (C : CT) (S : MS) : Prop := (S.1 2 0 = C.2.2.2.1 10 ∧ S.1 2 1 = C.2.2.2.1 11 ∧ S.1 2 2 = C.2.2.2.1 12) ∧ (S.2.2 3 = C.2.2.2.2 8 ∧ S.2.2 4 = C.2.2.2.2 9) ∧ S.1 7 = wordsF
def Sim (K : Nat) (C : CT) (S : MS) : Prop := ∃ g, Base K g C S ∧ ImgRel K g C S ∧ RestRel C S ∧ TextRel C S
theorem BookInv.mono {K K' : Nat} {g : Nat → Nat} (h : BookInv K g) (hK : K ≤ K') : BookInv K' g := by
  obtain ⟨⟨a1, a2, a3, a4, a5, a6, a7, a8, a9⟩, b, c, d, e, f⟩ := h
  exact ⟨⟨a1, a2, a3, a4, a5, a6, by omega, by omega, a9⟩, b, c, d, e, fun k hk => ⟨(f k hk).1, by have := (f k hk).2.1; omega, by have := (f k hk).2.2; omega⟩⟩
theorem Base.mono {K K' : Nat} {g : Nat → Nat} {C : CT} {S : MS} (h : Base K g C S) (hK : K ≤ K') : Base K' g C S := ⟨h.1, h.2.1.mono hK, h.2.2⟩
theorem Img.mono {K K' : Nat} {b : Nat → Nat} {k1 k2 : Int32} {M : MT} (h : Img K b k1 k2 M) (hK : K ≤ K') : Img K' b k1 k2 M := by
  rcases h with q | ⟨q1, q2, q3, q4⟩
  · exact Or.inl q
  · exact Or.inr ⟨q1, q2, q3.mono hK, q4⟩
theorem ImgRel.mono {K K' : Nat} {g : Nat → Nat} {C : CT} {S : MS} (h : ImgRel K g C S) (hK : K ≤ K') : ImgRel K' g C S := ⟨h.1.mono hK, h.2.mono hK⟩
theorem Sim.mono {K K' : Nat} {C : CT} {S : MS} (h : Sim K C S) (hK : K ≤ K') : Sim K' C S := by
  obtain ⟨g, h1, h2, h3, h4⟩ := h
  exact ⟨g, h1.mono hK, h2.mono hK, h3, h4⟩
/-- both answer, alike, and go on side by side -/
def Good {α : Type} (K : Nat) (x : Option (α × CT)) (y : Option (α × MS)) : Prop := ∃ r C' S', x = some (r, C') ∧ y = some (r, S') ∧ Sim K C' S'
theorem Good.same {α : Type} {K K' : Nat} {C : CT} {S : MS} {x : Option (α × CT)} {y : Option (α × MS)} (h : Sim K C S) (hK : K ≤ K') (r : α) (hx : x = some (r, C)) (hy : y = some (r, S)) : Good K' x y := ⟨r, C, S, hx, hy, h.mono hK⟩
theorem in_c2 (v : Int32) (b : Nat) (hb : b < 2 ^ 30) : (mX11_in v (nI 0) (nI b) = some (nI 0) ∧ mX10_within v (nI 0) (nI b) = some (nI 0) ∧ ∀ j, j ≤ b → ¬ v = nI j) ∨ ∃ j : Nat, j ≤ b ∧ v = nI j ∧ mX11_in v (nI 0) (nI b) = some (nI 1) ∧ mX10_within v (nI 0) (nI b) = some (nI 1) := by
  rcases in_c v b (by omega) with ⟨h1, h2⟩ | h
  · left
    refine ⟨h1, h2, fun j hj q => ?_⟩
    subst q
    unfold mX11_in at h1
    rw [if_neg (nI_nlt (Nat.zero_le j) (by omega)), if_neg (nI_nlt hj (by omega))] at h1
    exact absurd h1 (by decide)
  · exact Or.inr h
theorem r_bad {K : Nat} {C : CT} {S : MS} (h : Sim K C S) : ∃ C' S', mX10_refuseBad C = some (-2, C') ∧ mX11_refuse S (-2) = some (-2, S') ∧ Sim (K + 1) C' S' := by
  refine ⟨_, _, rfl, rfl, ?_⟩
  obtain ⟨g, h1, h2, h3, h4⟩ := h.mono (Nat.le_succ K)
  refine ⟨g, h1, h2, ⟨⟨?_, h3.1.2.1, h3.1.2.2⟩, h3.2⟩, h4⟩
  show S.1 2 0 + nI 1 = C.2.2.2.1 10 + nI 1
  rw [h3.1.1]
theorem r_no {K : Nat} {C : CT} {S : MS} (h : Sim K C S) : ∃ C' S', mX10_refuseNo C = some (-3, C') ∧ mX11_refuse S (-3) = some (-3, S') ∧ Sim (K + 1) C' S' := by
  refine ⟨_, _, rfl, rfl, ?_⟩
  obtain ⟨g, h1, h2, h3, h4⟩ := h.mono (Nat.le_succ K)
  refine ⟨g, h1, h2, ⟨⟨h3.1.1, ?_, h3.1.2.2⟩, h3.2⟩, h4⟩
  show S.1 2 1 + nI 1 = C.2.2.2.1 11 + nI 1
  rw [h3.1.2.1]
theorem r_full {K : Nat} {C : CT} {S : MS} (h : Sim K C S) : ∃ C' S', mX10_refuseFull C = some (-4, C') ∧ mX11_refuse S (-4) = some (-4, S') ∧ Sim (K + 1) C' S' := by
  refine ⟨_, _, rfl, rfl, ?_⟩
  obtain ⟨g, h1, h2, h3, h4⟩ := h.mono (Nat.le_succ K)
  refine ⟨g, h1, h2, ⟨⟨h3.1.1, h3.1.2.1, ?_⟩, h3.2⟩, h4⟩
  show S.1 2 2 + nI 1 = C.2.2.2.1 12 + nI 1
  rw [h3.1.2.2]
theorem g_bad {K : Nat} {C : CT} {S : MS} (h : Sim K C S) : Good (K + 1) ((mX10_refuseBad C).bind fun ⟨r, S⟩ => some (r, S)) ((mX11_refuse S (-2)).bind fun ⟨r, S⟩ => some (r, S)) := by
  obtain ⟨C', S', e1, e2, h'⟩ := r_bad h
  rw [e1, e2]
  exact ⟨_, _, _, rfl, rfl, h'⟩
theorem g_no {K : Nat} {C : CT} {S : MS} (h : Sim K C S) : Good (K + 1) ((mX10_refuseNo C).bind fun ⟨r, S⟩ => some (r, S)) ((mX11_refuse S (-3)).bind fun ⟨r, S⟩ => some (r, S)) := by
  obtain ⟨C', S', e1, e2, h'⟩ := r_no h
  rw [e1, e2]
  exact ⟨_, _, _, rfl, rfl, h'⟩
theorem g_full {K : Nat} {C : CT} {S : MS} (h : Sim K C S) : Good (K + 1) ((mX10_refuseFull C).bind fun ⟨r, S⟩ => some (r, S)) ((mX11_refuse S (-4)).bind fun ⟨r, S⟩ => some (r, S)) := by
  obtain ⟨C', S', e1, e2, h'⟩ := r_full h
  rw [e1, e2]
  exact ⟨_, _, _, rfl, rfl, h'⟩
theorem z0 : nI 0 = (0 : Int32) := rfl
theorem z1 : ¬ nI 1 = (0 : Int32) := by decide
theorem g_clear {K : Nat} {C : CT} {S : MS} (h : Sim K C S) : Good (K + 1) (mX10_clear C) (mX11_clear S) := by
  obtain ⟨g, h1, h2, h3, len, h4, h5, h6, -⟩ := h.mono (Nat.le_succ K)
  refine ⟨nI len, cT C (xI (C.2.1) 1 (nI 0)), mI S 6 (nI 0), ?_, ?_, ⟨g, h1, h2, h3, 0, Nat.zero_le _, rfl, rfl, fun k hk => absurd hk (Nat.not_lt_zero k)⟩⟩
  · unfold mX10_clear
    rw [nm_v, h6]
  · unfold mX11_clear
    rw [nm_v, h5]
theorem g_type {K : Nat} {C : CT} {S : MS} (h : Sim K C S) (a1 : Int32) : Good (K + 1) (mX10_type C a1) (mX11_type S a1) := by
  unfold mX10_type mX11_type
  rcases in_c2 a1 127 (by decide) with ⟨e1, e2, -⟩ | ⟨j, hj, rfl, e1, e2⟩
  · rw [e1, e2, ob_v, ob_v, if_pos z0, if_pos z0]
    exact g_bad h
  · rw [e1, e2, ob_v, ob_v, if_neg z1, if_neg z1]
    obtain ⟨g, h1, h2, h3, len, h4, h5, h6, h7⟩ := id h
    unfold mX0_isFull mX0_add
    rw [h6, h5, ifN_lt (by omega) (by decide), ifN_eq (by omega) (by decide)]
    by_cases hc : len = 150
    · rw [if_neg (by omega), zo_1, ob_v, if_neg z1, if_pos hc]
      exact g_full h
    · rw [if_pos (by omega), zo_0, ob_v, if_pos z0, if_neg hc, if_neg (nI_pos (by omega)), if_neg (nI_ge (by omega) (by decide)), ast_v (by omega) (by decide), ast_v (by omega) (by decide), nm_v, nm_v, nm_v, nm_v, ob_v, nm_v, nI_clamp (by omega)]
      refine ⟨nI (len + 1), _, _, congrArg some (Prod.ext ?_ rfl), congrArg some (Prod.ext ?_ rfl), ?_⟩
      · show C.2.1.2 1 + nI 1 = nI (len + 1)
        rw [h6, nI_add]
      · show S.2.1 6 + nI 1 = nI (len + 1)
        rw [h5, nI_add]
      · refine ⟨g, (h1.mono (Nat.le_succ K)), (h2.mono (Nat.le_succ K)), h3, len + 1, by omega, ?_, ?_, fun k hk => ?_⟩
        · show S.2.1 6 + nI 1 = nI (len + 1)
          rw [h5, nI_add]
        · show C.2.1.2 1 + nI 1 = nI (len + 1)
          rw [h6, nI_add]
        · by_cases hk2 : k = len
          · refine ⟨j, by omega, ?_, ?_⟩
            · show upd (S.1 5) len (nI j) k = nI j
              rw [upd_v, if_pos hk2]
            · show upd C.2.1.1 len (nI j) k = nI j
              rw [upd_v, if_pos hk2]
          · obtain ⟨c, c1, c2, c3⟩ := h7 k (by omega)
            refine ⟨c, c1, ?_, ?_⟩
            · show upd (S.1 5) len (nI j) k = nI c
              rw [upd_v, if_neg hk2, c2]
            · show upd C.2.1.1 len (nI j) k = nI c
              rw [upd_v, if_neg hk2, c3]
theorem g_part {K : Nat} {C : CT} {S : MS} (h : Sim K C S) (a1 : Int32) : Good (K + 1) (mX10_part C a1) (mX11_part S a1) := by
  unfold mX10_part mX11_part
  rcases in_c2 a1 1 (by decide) with ⟨-, e2, e3⟩ | ⟨j, hj, rfl, -, e2⟩
  · rw [e2, ob_v, if_pos z0, if_neg (show ¬ a1 = 0 from e3 0 (by decide)), if_neg (e3 1 (by decide))]
    obtain ⟨C', S', q1, q2, h'⟩ := r_bad h
    rw [q1, q2]
    exact ⟨_, _, _, rfl, rfl, h'⟩
  · rw [e2, ob_v, if_neg z1]
    obtain ⟨g, h1, h2, h3, h4⟩ := id h
    rcases (show j = 0 ∨ j = 1 by omega) with rfl | rfl
    · rw [if_pos z0, if_pos z0]
      exact Good.same h (Nat.le_succ K) _ rfl (by rw [h3.2.1.1])
    · rw [if_neg z1, if_neg z1, if_pos rfl]
      exact Good.same h (Nat.le_succ K) _ rfl (by rw [h3.2.1.2])
theorem ne_nI {a b : Nat} (ha : a < 2 ^ 31) (hb : b < 2 ^ 31) (h : a ≠ b) : ¬ nI a = nI b := fun q => h (nI_inj' ha hb q)
theorem g_status {K : Nat} {C : CT} {S : MS} (h : Sim K C S) (a1 : Int32) : Good (K + 1) (mX10_status C a1) (mX11_status S a1) := by
  unfold mX10_status mX11_status
  rcases in_c2 a1 2 (by decide) with ⟨e1, -, e3⟩ | ⟨j, hj, rfl, e1, -⟩
  · rw [e1, ob_v, if_pos z0, if_neg (e3 0 (by decide)), if_neg (e3 1 (by decide)), if_neg (e3 2 (by decide))]
    obtain ⟨C', S', q1, q2, h'⟩ := r_bad h
    rw [q1, q2]
    exact ⟨_, _, _, rfl, rfl, h'⟩
  · rw [e1, ob_v, if_neg z1, ald_v (by omega) (by decide)]
    obtain ⟨g, h1, h2, h3, h4⟩ := id h
    rcases (show j = 0 ∨ j = 1 ∨ j = 2 by omega) with rfl | rfl | rfl
    · rw [if_pos rfl]
      exact Good.same h (Nat.le_succ K) _ rfl (by rw [h3.1.1])
    · rw [if_neg (ne_nI (by decide) (by decide) (by decide)), if_pos rfl]
      exact Good.same h (Nat.le_succ K) _ rfl (by rw [h3.1.2.1])
    · rw [if_neg (ne_nI (by decide) (by decide) (by decide)), if_neg (ne_nI (by decide) (by decide) (by decide)), if_pos rfl]
      exact Good.same h (Nat.le_succ K) _ rfl (by rw [h3.1.2.2])

theorem g_now {K : Nat} {C : CT} {S : MS} (h : Sim K C S) (a1 : Int32) : Good (K + 1) (mX10_now C a1) (mX11_now S a1) := by
  obtain ⟨g, h1, h2, h3, h4⟩ := id h
  unfold mX10_now mX11_now mX11_nowOf
  rcases in_c2 a1 4 (by decide) with ⟨e1, -, e3⟩ | ⟨j, hj, rfl, e1, -⟩
  · rw [e1, ob_v, if_pos z0, if_neg (e3 0 (by decide)), if_neg (e3 1 (by decide)), if_neg (e3 2 (by decide)), if_neg (e3 3 (by decide)), if_neg (e3 4 (by decide))]
    exact g_bad h
  · rw [e1, ob_v, if_neg z1]
    have e1 : ∀ i, i < 8 → ((nI j = nI i) ↔ j = i) := fun i hi => nI_eq (by omega) (by omega)
    simp only [e1 0 (by decide), e1 1 (by decide), e1 2 (by decide), e1 3 (by decide), e1 4 (by decide), ald_v (show 0 < 288 by decide) (show 288 < 2 ^ 31 by decide), ald_v (show 1 < 288 by decide) (show 288 < 2 ^ 31 by decide), ald_v (show 2 < 288 by decide) (show 288 < 2 ^ 31 by decide), ald_v (show 3 < 288 by decide) (show 288 < 2 ^ 31 by decide), h1.1 0 (by decide), h1.1 1 (by decide), h1.1 2 (by decide), h1.1 3 (by decide), vM_sup h1.1 h1.2.1 h1.2.1.p64, sup0 h1, ob_v, h1.2.2.2.1.1, h1.2.2.2.1.2.1, h1.2.2.2.1.2.2.1, h1.2.2.2.1.2.2.2]
    rcases (show j = 0 ∨ j = 1 ∨ j = 2 ∨ j = 3 ∨ j = 4 by omega) with rfl | rfl | rfl | rfl | rfl <;> exact Good.same h (Nat.le_succ K) _ rfl rfl
/-- count, whatever is asked; neither state is touched -/
theorem count_v {K : Nat} {C : CT} {S : MS} (h : Sim K C S) {j : Nat} (hj : j < 8) : ∃ r, mX10_count C (nI j) = some (r, C) ∧ mX11_countOf S (nI j) = some r := by
  obtain ⟨g, h1, h2, h3, len, h4, h5, h6, -⟩ := id h
  have hs := sup_lt h1.2.1 (g 0)
  have hp := h1.2.1.p64
  unfold mX10_count mX11_countOf
  have e1 : ∀ i, i < 8 → ((nI j = nI i) ↔ j = i) := fun i hi => nI_eq (by omega) (by omega)
  simp only [e1 0 (by decide), e1 1 (by decide), e1 2 (by decide), e1 3 (by decide), e1 4 (by decide), e1 5 (by decide), e1 6 (by decide), e1 7 (by decide), ald_v (show 0 < 288 by decide) (show 288 < 2 ^ 31 by decide), ald_v (show 4 < 288 by decide) (show 288 < 2 ^ 31 by decide), ald_v (show 29 < 288 by decide) (show 288 < 2 ^ 31 by decide), ald_v (show 38 < 288 by decide) (show 288 < 2 ^ 31 by decide), ald_v (show 57 < 288 by decide) (show 288 < 2 ^ 31 by decide), ald_v (show 70 < 288 by decide) (show 288 < 2 ^ 31 by decide), h1.1 0 (by decide), h1.1 4 (by decide), h1.1 29 (by decide), h1.1 38 (by decide), h1.1 57 (by decide), h1.1 70 (by decide), vM_sup h1.1 h1.2.1 h1.2.1.p64, sup0 h1, ob_v, h1.2.2.2.1.2.1, bitc_v _ hs, bits_v _ hs, bitc_v (g 0) (by omega), bits_v (g 0) (by omega), h1.2.2.1.1, h1.2.2.1.2.1, h1.2.2.1.2.2.1, h1.2.2.1.2.2.2.1, h1.2.2.1.2.2.2.2, h5, h6]
  rcases (show j = 0 ∨ j = 1 ∨ j = 2 ∨ j = 3 ∨ j = 4 ∨ j = 5 ∨ j = 6 ∨ j = 7 by omega) with rfl | rfl | rfl | rfl | rfl | rfl | rfl | rfl <;> exact ⟨_, rfl, rfl⟩
theorem g_count {K : Nat} {C : CT} {S : MS} (h : Sim K C S) (a1 : Int32) : Good (K + 1) (mX10_count C a1) (mX11_count S a1) := by
  rcases in_c2 a1 7 (by decide) with ⟨e1, -, e3⟩ | ⟨j, hj, rfl, e1, -⟩
  · unfold mX10_count mX11_count
    rw [e1, ob_v, if_pos z0, if_neg (e3 0 (by decide)), if_neg (e3 1 (by decide)), if_neg (e3 2 (by decide)), if_neg (e3 3 (by decide)), if_neg (e3 4 (by decide)), if_neg (e3 5 (by decide)), if_neg (e3 6 (by decide)), if_neg (e3 7 (by decide))]
    exact g_bad h
  · obtain ⟨r, q1, q2⟩ := count_v h (j := j) (by omega)
    refine Good.same h (Nat.le_succ K) r q1 ?_
    unfold mX11_count
    rw [e1, ob_v, if_neg z1, q2]
    rfl
theorem g_denial {K : Nat} {C : CT} {S : MS} (h : Sim K C S) (a1 : Int32) : Good (K + 1) (mX10_denial C a1) (mX11_denial S a1) := by
  obtain ⟨g, h1, h2, h3, h4⟩ := id h
  have h6 := h1.2.1.1.1
  unfold mX10_denial mX11_denial mX10_isPleaded
  rcases isF_c h1 a1 with ⟨e1, e2⟩ | ⟨f, hf, rfl, e1, e2⟩
  · rw [e1, e2, ob_v, ob_v, if_pos z0, if_pos z0]
    exact g_bad h
  · rw [e1, e2, ob_v, ob_v, if_neg z1, if_neg z1, ald_v (by decide) (by decide), h1.1 0 (by decide), h1.2.2.2.1.2.1, holds_v _ h1.2.1.p64 f (by omega), has_v _ h1.2.1.p64 f (by omega), ob_v, ob_v]
    cases (g 0).testBit f
    · rw [if_neg (by decide), zo_0, ob_v, if_pos z0, if_pos z0]
      exact g_no h
    · rw [if_pos rfl, zo_1, ob_v, if_neg z1, if_neg z1, vC_wins h1.2.2 h1.2.1 hf, vM_wins h1.1 h1.2.1 hf, ob_v, ob_v]
      obtain ⟨r, q1, q2⟩ := den_v (winsG g f) C S
      exact Good.same h (Nat.le_succ K) r q1 q2
theorem g_rule {K : Nat} {C : CT} {S : MS} (h : Sim K C S) (a1 : Int32) : Good (K + 1) (mX10_rule C a1) (mX11_rule S a1) := by
  obtain ⟨g, h1, h2, h3, h4⟩ := id h
  have h6 := h1.2.1.1.2.1
  unfold mX10_rule mX11_rule
  rcases isC_c h1 a1 with ⟨e1, e2⟩ | ⟨c, hc, rfl, e1, e2⟩
  · rw [e1, e2, ob_v, ob_v, if_pos z0, if_pos z0]
    exact g_bad h
  · rw [e1, e2, ob_v, ob_v, if_neg z1, if_neg z1, nI_add, ald_v (by omega) (by decide), h1.1 (30 + c) (by omega), ald_v (by decide) (by decide), h1.1 0 (by decide), vM_sup h1.1 h1.2.1 h1.2.1.p64, ob_v, cell_v (by decide) (by omega), ob_v, Nat.mul_comm c 2, show ((C.1 0).1 1).2 (2 * c + 0) = nI (g (30 + c)) from (h1.2.2.2.2.2.1 c hc).1, sup0 h1, ob_v]
    exact Good.same h (Nat.le_succ K) _ rfl rfl
theorem g_is {K : Nat} {C : CT} {S : MS} (h : Sim K C S) (a1 : Int32) : Good (K + 1) (mX10_is C a1) (mX11_is S a1) := by
  obtain ⟨g, h1, h2, h3, h4⟩ := id h
  unfold mX10_is mX11_is
  rcases isF_c h1 a1 with ⟨e1, e2⟩ | ⟨f, hf, rfl, e1, e2⟩
  · rw [e1, e2, ob_v, ob_v, if_pos z0, if_pos z0]
    exact g_bad h
  · obtain ⟨q1, q2⟩ := s_kinds h1 hf
    rw [e1, e2, ob_v, ob_v, if_neg z1, if_neg z1, q1, q2, ob_v, ob_v]
    exact Good.same h (Nat.le_succ K) _ rfl rfl
theorem g_look {K : Nat} {C : CT} {S : MS} (h : Sim K C S) (a1 : Int32) : Good (K + 1) (mX10_look C a1) (mX11_look S a1) := by
  obtain ⟨g, h1, h2, h3, h4⟩ := id h
  unfold mX10_look mX11_look
  rcases isF_c h1 a1 with ⟨e1, e2⟩ | ⟨f, hf, rfl, e1, e2⟩
  · rw [e1, e2, ob_v, ob_v, if_pos z0, if_pos z0]
    exact g_bad h
  · obtain ⟨q1, q2⟩ := s_kinds h1 hf
    rw [e1, e2, ob_v, ob_v, if_neg z1, if_neg z1, q1, q2, ob_v, ob_v]
    obtain ⟨r, p1, p2⟩ := s_look_L h1 hf (setU_lt' _ (Nat.le_refl 6)) 10 0 rfl FU (by decide) (-1) 7 99 (Or.inr ⟨rfl, rfl⟩)
    exact Good.same h (Nat.le_succ K) r p1 p2
theorem g_truth {K : Nat} {C : CT} {S : MS} (h : Sim K C S) (a1 : Int32) : Good (K + 1) (mX10_truth C a1) (mX11_truth S a1) := by
  obtain ⟨g, h1, h2, h3, h4⟩ := id h
  unfold mX10_truth mX11_truth
  rcases in_c2 a1 2 (by decide) with ⟨e1, e2, -⟩ | ⟨j, hj, rfl, e1, e2⟩
  · rw [e1, e2, ob_v, ob_v, if_pos z0, if_pos z0]
    exact g_bad h
  · rw [e1, e2, ob_v, ob_v, if_neg z1, if_neg z1]
    obtain ⟨r, p1, p2⟩ := s_truth_L h1 (nI j) 256 0 rfl FU (by decide) (nI 0) (nI 255) (nI 0)
    exact Good.same h (Nat.le_succ K) r p1 p2
