/-! the ITEMS, one behind the other -/
/-- how a reading ends -/
def End (t : Nat → Nat) (len : Nat) (S : MS) (X : TX) (x : Option (Int32 × MS)) (y : Option (Int32 × (TX × MT))) : Prop :=
  ∃ S' X' M', FRd S S' ∧ FY X X' ∧ ((∃ k nf nc tr, 1 ≤ k ∧ k ≤ 11 ∧ tr < 256 ∧ x = some (nI k, S') ∧ y = some (nI k, (X', M')) ∧ Rd S' M' nf nc ∧ S'.2.1 10 = nI tr ∧ M'.2 7 = nI tr) ∨ (∃ a, a ≤ len ∧ x = some (-1, S') ∧ S'.2.1 8 = nI a ∧ y = some ((-10 : Int32) - nI a, (X', M'))))
theorem End.pre {t : Nat → Nat} {len : Nat} {S S1 : MS} {X X1 : TX} {x : Option (Int32 × MS)} {y : Option (Int32 × (TX × MT))} (hf : FRd S S1) (hx : FY X X1) (h : End t len S1 X1 x y) : End t len S X x y := by
  obtain ⟨S', X', M', h1, h2, h3⟩ := h
  exact ⟨S', X', M', hf.t h1, hx.t h2, h3⟩
theorem FRd.r (S : MS) : FRd S S := (F89.r S).d
theorem w_m1 {k : Nat} (h4 : k ≠ 4) (h5 : k ≠ 5) (h6 : k ≠ 6) : wE k = -1 := by
  unfold wE
  rw [if_neg h4, if_neg h5, if_neg h6]
/-! one ITEM's turn, on each side -/
theorem ref_s1 {k n : Nat} {S S' : MS} {r : Int32} (hk : ¬ nI k = 0) (hl : ¬ S.2.1 6 ≤ S.2.1 8) (hw : mX11_wordHere S = some (nI 1)) (h : mX11_readsFiction (mI S 10 (S.2.1 10)) = some (r, S')) : mX11_readItems_L21 (n + 1) (nI k) S = if r = 0 then some (-1, S') else (mX11_next S').bind fun S2 => mX11_readItems_L21 n (nI (k + 1)) S2 := by
  have f1 : ¬ nI 1 = (-1 : Int32) := by decide
  rw [mX11_readItems_L21_s, hw]
  simp only [if_neg hk, if_neg hl, ob_v, if_neg f1, if_neg z1, if_true, nm_v, h, nI_add]
theorem ref_s2 {k n : Nat} {S S' : MS} {r : Int32} (hk : ¬ nI k = 0) (hl : ¬ S.2.1 6 ≤ S.2.1 8) (hw : mX11_wordHere S = some (nI 2)) (h : mX11_readsCourt (mI S 10 (S.2.1 10)) = some (r, S')) : mX11_readItems_L21 (n + 1) (nI k) S = if r = 0 then some (-1, S') else (mX11_next S').bind fun S2 => mX11_readItems_L21 n (nI (k + 1)) S2 := by
  have f1 : ¬ nI 2 = (-1 : Int32) := by decide
  have f2 : ¬ nI 2 = (0 : Int32) := by decide
  have f3 : ¬ nI 2 = nI 1 := by decide
  rw [mX11_readItems_L21_s, hw]
  simp only [if_neg hk, if_neg hl, ob_v, if_neg f1, if_neg f2, if_neg f3, nm_v, h, nI_add]
theorem ref_s0 {k n : Nat} {S : MS} (hk : ¬ nI k = 0) (hl : ¬ S.2.1 6 ≤ S.2.1 8) (hw : mX11_wordHere S = some (nI 0)) : mX11_readItems_L21 (n + 1) (nI k) S = some (-1, S) := by
  have f1 : ¬ nI 0 = (-1 : Int32) := by decide
  rw [mX11_readItems_L21_s, hw]
  simp only [if_neg hk, if_neg hl, ob_v, if_neg f1, if_pos z0]
theorem ref_sn {k n : Nat} {S : MS} (hk : ¬ nI k = 0) (hl : ¬ S.2.1 6 ≤ S.2.1 8) (hw : mX11_wordHere S = some (-1)) : mX11_readItems_L21 (n + 1) (nI k) S = some (-1, S) := by
  rw [mX11_readItems_L21_s, hw]
  simp only [if_neg hk, if_neg hl, ob_v, if_true]
theorem ref_se {k n : Nat} {S : MS} (hk : ¬ nI k = 0) (hl : S.2.1 6 ≤ S.2.1 8) : mX11_readItems_L21 (n + 1) (nI k) S = some (nI k, S) := by
  rw [mX11_readItems_L21_s]
  simp only [if_neg hk, if_pos hl]
/-! which word begins an ITEM -/
theorem beg_5 {X : TX} {M : MT} {nf : Nat} (h2 : X.2 2 = nI 5) (h : (M.1 0).1 = nI nf) (hn : nf ≤ 6) : mX0_beginItem (X, M) (nI 0) = if nf < 6 then some (nI 1, (bgn X 5, M)) else some (nI 0, (X, M)) := by
  have f6 : ¬ nI 5 = nI 6 := by decide
  unfold mX0_beginItem
  simp only [if_pos z0, h2, if_true, isFull_v h (show nf < 1000 by omega) (show 6 < 1000 by decide), ob_v, nm_v, zo_0, zo_1, if_neg f6]
  by_cases hc : nf < 6
  · simp only [if_pos hc, if_pos z0]
    rfl
  · simp only [if_neg hc, if_neg z1]
theorem beg_6 {X : TX} {M : MT} {nc : Nat} (h2 : X.2 2 = nI 6) (h : (M.1 1).1 = nI nc) (hn : nc ≤ 4) : mX0_beginItem (X, M) (nI 0) = if nc < 4 then some (nI 1, (bgn X 6, M)) else some (nI 0, (X, M)) := by
  have f5 : ¬ nI 6 = nI 5 := by decide
  unfold mX0_beginItem
  simp only [if_pos z0, h2, if_true, isFull_v h (show nc < 1000 by omega) (show 4 < 1000 by decide), ob_v, nm_v, zo_0, zo_1, if_neg f5]
  by_cases hc : nc < 4
  · simp only [if_pos hc, if_pos z0]
    rfl
  · simp only [if_neg hc, if_neg z1]
theorem beg_n {X : TX} {M : MT} {k : Nat} (h2 : X.2 2 = nI k) (hk : k ≤ 6) (h5 : k ≠ 5) (h6 : k ≠ 6) : mX0_beginItem (X, M) (nI 0) = some (nI 0, (X, M)) := by
  have f5 : ¬ nI k = nI 5 := fun z => h5 ((nI_eq (by omega) (by decide)).mp z)
  have f6 : ¬ nI k = nI 6 := fun z => h6 ((nI_eq (by omega) (by decide)).mp z)
  unfold mX0_beginItem
  simp only [if_pos z0, h2, if_neg f5, if_neg f6, zo_0]
theorem beg_1 {X : TX} {M : MT} {k : Nat} (h2 : X.2 2 = nI k) (hk : k ≤ 6) : mX0_beginItem (X, M) (nI 1) = if k = 4 then some (nI 1, (bgn X 4, M)) else some (nI 0, (X, M)) := by
  unfold mX0_beginItem
  by_cases h4 : k = 4
  · subst h4
    simp only [if_neg z1, h2, if_true, nm_v, zo_1]
    rfl
  · have f4 : ¬ nI k = nI 4 := fun z => h4 ((nI_eq (by omega) (by decide)).mp z)
    simp only [if_neg z1, h2, if_neg f4, if_neg h4, zo_0]
theorem items_B {t : Nat → Nat} {len : Nat} (hO : TextOk t len) : ∀ m nf nc, nf + nc + m = 10 → ∀ n, m < n → ∀ (S : MS) (X : TX) (M : MT) (a e y n' tr : Nat), TM t len S → At t len a S → sk t len e = a → CL t len e y n' X → X.2 6 = (-1 : Int32) → a ≤ len → Rd S M nf nc → tr < 256 → S.2.1 10 = nI tr → M.2 7 = nI tr → End t len S X (mX11_readItems_L21 n (nI (1 + nf + nc)) S) (mX0_readInto_L19 n' (nI (1 + nf + nc)) (nI y) (X, M)) := by
  have h150 := hO.1
  intro m
  induction m using Nat.strongRecOn with
  | ind m ih =>
    intro nf nc hm n hn S X M a e y n' tr hM hA he hL hX6 ha hD htr h10 h7
    obtain ⟨n, rfl⟩ : ∃ j, n = j + 1 := ⟨n - 1, by omega⟩
    obtain ⟨n', rfl⟩ := hL.n1
    have hkl := kd_le t len a
    have hb := hD.2.1
    have hkk : 1 + nf + nc < 1000 := by omega
    have hk0 : ¬ nI (1 + nf + nc) = 0 := nI_ne0 (by omega) (by omega)
    have hkz : (if 1 + nf + nc = 0 then nI 1 else nI 0) = nI 0 := if_neg (by omega)
    by_cases h1 : a < len
    · have hl : ¬ S.2.1 6 ≤ S.2.1 8 := by
        rw [hM.1, hA.1]
        exact nI_ge h1 (by omega)
      have hz := kd_z (t := t) h1
      have hw := wordHere_v hO hM hA ha
      obtain ⟨T, hT⟩ : ∃ T, T = mI S 10 (S.2.1 10) := ⟨_, rfl⟩
      have tF : FRd S T := by rw [hT]; exact ⟨fun _ _ _ => rfl, rfl, mI_n _ _ (by decide)⟩
      have tM := hM.d tF
      have tA : At t len a T := by rw [hT]; exact ⟨(mI_n _ _ (by decide)).trans hA.1, (mI_n _ _ (by decide)).trans hA.2⟩
      have tD : Rd T M nf nc := by rw [hT]; exact hD
      have t10 : T.2.1 10 = nI tr := by rw [hT]; exact (mI_s _ _ _).trans h10
      have hstop : ∀ S2 : MS, FRd S S2 → S2.2.1 8 = nI a → (∀ X1 : TX, X1.2 2 = nI (kd t len a) → mX0_beginItem (X1, M) (nI 0) = some (nI 0, (X1, M))) → End t len S X (some (-1, S2)) (mX0_readInto_L19 (n' + 1) (nI (1 + nf + nc)) (nI y) (X, M)) := by
        intro S2 e1 e2 e3
        obtain ⟨X', r1, r2⟩ := cl_bno (M := M) hO hL hkk hX6 (Or.inl (by rw [he]; exact hz)) (fun X1 h2 => by rw [hkz]; rw [he] at h2; exact e3 X1 h2)
        rw [r2, he]
        exact ⟨S2, X', M, e1, r1, Or.inr ⟨a, ha, rfl, e2, rfl⟩⟩
      by_cases c5 : kd t len a = 5
      · rw [c5] at hw
        by_cases hc : nf < 6
        · obtain ⟨X1, x1, L1, ⟨A, B, C, I1⟩, k1⟩ := cl_beg (w := 5) (M := M) hO hL hkk hX6 (by rw [he]; exact c5) (by decide) (fun X1 h2 => by rw [hkz, beg_5 h2 hD.1.2.2.1 hb.1, if_pos hc])
          rw [he] at L1
          obtain ⟨S', X', M', a', q1, q2, q3, q4, q5⟩ := fict_j hO hkk tM tA ha L1 I1 (by omega) tD hc
          rcases q5 with ⟨y', m', r1, r2, r3, r4, r5, r6, r7⟩ | ⟨r1, r2⟩
          · obtain ⟨S2, y1, y2, y3⟩ := next_j hO (tM.d q2) q4 q1
            rw [hT] at r1
            rw [ref_s1 hk0 hl hw r1, if_neg z1, y1, ob_v, k1, r2, show 1 + nf + nc + 1 = 1 + (nf + 1) + nc by omega]
            exact End.pre ((tF.t q2).t y3.d) (x1.t q3) (ih (m - 1) (by omega) (nf + 1) nc (by omega) n (by omega) S2 X' M' _ (en t len a') y' m' tr ((tM.d q2).f y3) y2 rfl r3 r4 (nxt_b q1).2.1 (r5.f y3) htr ((y3.2.2 10 (by decide) (by decide)).trans (r6.trans t10)) (r7.trans h7))
          · rw [hT] at r1
            rw [ref_s1 hk0 hl hw r1, if_pos z0, k1, r2]
            exact ⟨S', X', M', tF.t q2, x1.t q3, Or.inr ⟨a', q1, rfl, q4.1, rfl⟩⟩
        · have e : mX11_readsFiction T = some (nI 0, T) := by
            unfold mX11_readsFiction
            rw [tD.1.1, show nf = 6 by omega, if_pos rfl, zo_0]
          rw [hT] at e
          rw [ref_s1 hk0 hl hw e, if_pos z0, ← hT]
          exact hstop T tF tA.1 (fun X1 h2 => by rw [beg_5 (by rw [h2, c5]) hD.1.2.2.1 hb.1, if_neg hc])
      · by_cases c6 : kd t len a = 6
        · rw [c6] at hw
          by_cases hc : nc < 4
          · obtain ⟨X1, x1, L1, ⟨A, B, C, I1⟩, k1⟩ := cl_beg (w := 6) (M := M) hO hL hkk hX6 (by rw [he]; exact c6) (by decide) (fun X1 h2 => by rw [hkz, beg_6 h2 hD.1.2.2.2 hb.2, if_pos hc])
            rw [he] at L1
            obtain ⟨S', X', M', a', q1, q2, q3, q4, q5⟩ := court_j hO hkk tM tA ha L1 I1 (by omega) tD hc
            rcases q5 with ⟨y', m', r1, r2, r3, r4, r5, r6, r7⟩ | ⟨r1, r2⟩
            · obtain ⟨S2, y1, y2, y3⟩ := next_j hO (tM.d q2) q4 q1
              rw [hT] at r1
              rw [ref_s2 hk0 hl hw r1, if_neg z1, y1, ob_v, k1, r2, show 1 + nf + nc + 1 = 1 + nf + (nc + 1) by omega]
              exact End.pre ((tF.t q2).t y3.d) (x1.t q3) (ih (m - 1) (by omega) nf (nc + 1) (by omega) n (by omega) S2 X' M' _ (en t len a') y' m' tr ((tM.d q2).f y3) y2 rfl r3 r4 (nxt_b q1).2.1 (r5.f y3) htr ((y3.2.2 10 (by decide) (by decide)).trans (r6.trans t10)) (r7.trans h7))
            · rw [hT] at r1
              rw [ref_s2 hk0 hl hw r1, if_pos z0, k1, r2]
              exact ⟨S', X', M', tF.t q2, x1.t q3, Or.inr ⟨a', q1, rfl, q4.1, rfl⟩⟩
          · have e : mX11_readsCourt T = some (nI 0, T) := by
              unfold mX11_readsCourt
              rw [tD.1.2.1, show nc = 4 by omega, if_pos rfl, zo_0]
            rw [hT] at e
            rw [ref_s2 hk0 hl hw e, if_pos z0, ← hT]
            exact hstop T tF tA.1 (fun X1 h2 => by rw [beg_6 (by rw [h2, c6]) hD.1.2.2.2 hb.2, if_neg hc])
        · have hno : ∀ X1 : TX, X1.2 2 = nI (kd t len a) → mX0_beginItem (X1, M) (nI 0) = some (nI 0, (X1, M)) := fun X1 h2 => beg_n h2 hkl c5 c6
          by_cases c4 : kd t len a = 4
          · rw [c4] at hw
            rw [ref_s0 hk0 hl hw]
            exact hstop S (FRd.r S) hA.1 hno
          · rw [w_m1 c4 c5 c6] at hw
            rw [ref_sn hk0 hl hw]
            exact hstop S (FRd.r S) hA.1 hno
    · obtain ⟨X', r1, r2⟩ := cl_end (M := M) hO hL hkk hX6 (by rw [he]; exact kd_e h1) (by omega)
      rw [ref_se hk0 (by rw [hM.1, hA.1]; exact nI_le (by omega) (by omega)), r2]
      exact ⟨S, X', M, FRd.r S, r1, Or.inl ⟨_, nf, nc, tr, by omega, by omega, htr, rfl, rfl, hD, h10, h7⟩⟩
theorem ref_f {n : Nat} {S : MS} {w : Int32} (hw : mX11_wordHere S = some w) (h : w = -1 ∨ ¬ w = 0) : mX11_readItems_L21 (n + 1) (nI 0) S = some (-1, S) := by
  rw [mX11_readItems_L21_s, hw]
  by_cases h1 : w = -1
  · simp only [if_pos z0, ob_v, if_pos h1]
  · rcases h with h | h
    · exact absurd h h1
    · simp only [if_pos z0, ob_v, if_neg h1, if_neg h]
theorem ref_b {n : Nat} {S S' : MS} {r : Int32} (hw : mX11_wordHere S = some (nI 0)) (h : mX11_facts S = some (r, S')) : mX11_readItems_L21 (n + 1) (nI 0) S = if r = (-1 : Int32) then some (-1, mI S' 10 r) else (mX11_next (mI S' 10 r)).bind fun S2 => mX11_readItems_L21 n (nI 1) S2 := by
  have f1 : ¬ nI 0 = (-1 : Int32) := by decide
  rw [mX11_readItems_L21_s, hw]
  simp only [if_pos z0, ob_v, if_neg f1, h, nm_v, mI_s, show nI 0 + nI 1 = nI 1 from rfl]
theorem items_A {t : Nat → Nat} {len a e n' : Nat} (hO : TextOk t len) {S : MS} {X : TX} {M : MT} (hM : TM t len S) (hA : At t len a S) (he : sk t len e = a) (hL : CL t len e 0 n' X) (hX6 : X.2 6 = (-1 : Int32)) (ha : a ≤ len) (hD : Rd S M 0 0) : End t len S X (mX11_readItems_L21 FU (nI 0) S) (mX0_readInto_L19 n' (nI 0) (nI 0) (X, M)) := by
  have hkl := kd_le t len a
  have hw := wordHere_v hO hM hA ha
  obtain ⟨n', rfl⟩ := hL.n1
  rw [show FU = 999999 + 1 from rfl]
  by_cases c4 : kd t len a = 4
  · rw [c4] at hw
    obtain ⟨X1, x1, L1, ⟨A, B, C, I1⟩, k1⟩ := cl_beg (w := 4) (M := M) hO hL (show 0 < 1000 by decide) hX6 (by rw [he]; exact c4) (by decide) (fun X1 h2 => by rw [if_pos rfl, beg_1 h2 (by decide), if_pos rfl])
    rw [he] at L1
    obtain ⟨S', X', a', q1, q2, q3, q4, q5⟩ := facts_j (M := M) hO hM hA ha (show 0 < 1000 by decide) (by decide) L1 I1 (by decide) (by omega)
    rcases q5 with ⟨v, e4, y4, n4, g4, hv, m4, d4, s4, L4, I4, p4, h4, k4⟩ | ⟨m4, k4⟩
    · obtain ⟨X5, n5, x5, L5, w5, k5⟩ := item_j hO (show 0 < 1000 by decide) (by decide) L4 I4 p4 h4 (by rw [s4]; exact d4) (fun q0 X1 h => end_4 h)
      rw [s4] at L5
      have tF : FRd S (mI S' 10 (nI v)) := q2.d.t ⟨fun _ _ _ => rfl, rfl, mI_n _ _ (by decide)⟩
      have tA : At t len a' (mI S' 10 (nI v)) := ⟨(mI_n _ _ (by decide)).trans q4.1, (mI_n _ _ (by decide)).trans q4.2⟩
      have tM := hM.d tF
      obtain ⟨S2, y1, y2, y3⟩ := next_j hO tM tA q1
      have tD : Rd (mI S' 10 (nI v)) (tI M 7 (nI v)) 0 0 := by
        have z := hD.f q2
        exact z
      rw [ref_b hw m4, if_neg (m1_n (by omega)), y1, ob_v, k1, k4, k5]
      exact End.pre (tF.t y3.d) ((x1.t q3).t x5) (items_B hO 10 0 0 (by decide) 999999 (by decide) S2 X5 (tI M 7 (nI v)) _ (en t len a') (y4 + 1) n5 v (tM.f y3) y2 rfl L5 w5 (nxt_b q1).2.1 (tD.f y3) hv ((y3.2.2 10 (by decide) (by decide)).trans (mI_s _ _ _)) rfl)
    · rw [ref_b hw m4, if_pos rfl, k1, k4]
      exact ⟨mI S' 10 (-1), X', M, q2.d.t ⟨fun _ _ _ => rfl, rfl, mI_n _ _ (by decide)⟩, x1.t q3, Or.inr ⟨a', q1, rfl, (mI_n _ _ (by decide)).trans q4.1, rfl⟩⟩
  · have hne : wE (kd t len a) = -1 ∨ ¬ wE (kd t len a) = 0 := by
      unfold wE
      rw [if_neg c4]
      split
      · exact Or.inr (by decide)
      · split
        · exact Or.inr (by decide)
        · exact Or.inl rfl
    obtain ⟨X', r1, r2⟩ := cl_bno (M := M) hO hL (show 0 < 1000 by decide) hX6 (Or.inr rfl) (fun X1 h2 => by rw [he] at h2; rw [if_pos rfl, beg_1 h2 hkl, if_neg c4])
    rw [ref_f hw hne, r2, he]
    exact ⟨S, X', M, FRd.r S, r1, Or.inr ⟨a, ha, rfl, hA.1, rfl⟩⟩
