/-! FICTIONS and COURTS told by THE TEXT -/
theorem m1_n {v : Nat} (h : v < 1000) : ¬ nI v = (-1 : Int32) := fun q => (nI_m1 (by omega)).mp q
theorem fict_j {t : Nat → Nat} {len a nf nc : Nat} (hO : TextOk t len) {S : MS} {X : TX} {M : MT} (hM : TM t len S) (hC : TC t len X) (hA : At t len a S) (hK : Tk t len (nxt t len a) X) (ha : a ≤ len) (hD : Rd S M nf nc) (hn : nf < 6) : Out t len S X M (M.2 7) (nf + 1) nc (mX11_readsFiction S) (mX0_takeFiction (X, M)) := by
  unfold mX11_readsFiction mX0_takeFiction
  rw [hD.1.1, if_neg (fun q => absurd ((nI_eq (by omega) (by decide)).mp q) (by omega))]
  have b1 := nxt_b (t := t) ha
  have b2 := nxt_b (t := t) b1.2.1
  have b3 := nxt_b (t := t) b2.2.1
  obtain ⟨S1, f1, A1, c1⟩ := num_j hO hM hC hA hK ha (show 5 < 1000 by decide)
  rcases c1 with ⟨v1, X1, l1, m1, k1, K1, x1⟩ | ⟨m1, k1⟩
  · rw [m1, ob_v, k1, ob_v]
    dsimp only
    rw [if_neg (m1_n (by omega)), nm_v, if_neg (m1_n (by omega))]
    dsimp only
    obtain ⟨S2, f2, A2, c2⟩ := num_j hO (hM.f f1) (hC.f x1) A1 K1 b1.2.1 (show 7 < 1000 by decide)
    rcases c2 with ⟨v2, X2, l2, m2, k2, K2, x2⟩ | ⟨m2, k2⟩
    · rw [m2, ob_v, k2, ob_v]
      dsimp only
      rw [if_neg (m1_n (by omega)), nm_v, if_neg (m1_n (by omega))]
      dsimp only
      obtain ⟨S3, f3, A3, c3⟩ := num_j hO ((hM.f f1).f f2) ((hC.f x1).f x2) A2 K2 b2.2.1 (show 20 < 1000 by decide)
      rcases c3 with ⟨v3, X3, l3, m3, k3, K3, x3⟩ | ⟨m3, k3⟩
      · rw [m3, ob_v, k3, ob_v]
        dsimp only
        rw [if_neg (m1_n (by omega)), nm_v, if_neg (m1_n (by omega))]
        dsimp only
        obtain ⟨S4, X4, a4, l4, f4, x4, A4, c4⟩ := facts_j hO (((hM.f f1).f f2).f f3) (((hC.f x1).f x2).f x3) A3 K3 b3.2.1
        have hF := ((f1.t f2).t f3).t f4
        have hX := ((x1.t x2).t x3).t x4
        rcases c4 with ⟨v4, lt4, m4, k4, K4⟩ | ⟨m4, k4, K4⟩
        · rw [m4, ob_v, k4, ob_v]
          dsimp only
          rw [if_neg (m1_n (by omega)), nm_v (X4, M), if_neg (m1_n (by omega))]
          dsimp only
          have hD4 := hD.f hF
          have e12 := hD4.1.1
          rw [e12, pk_mul, ast_v (by omega) (by decide), nm_v, nI_clamp (by omega), show (mA S4 11 (4 * nf) (nI v1)).2.1 12 = nI nf from e12, pk_mul, nI_add, ast_v (by omega) (by decide), nm_v, nI_clamp (by omega)]
          obtain ⟨T2, hT2⟩ : ∃ T, T = mA (mA S4 11 (4 * nf) (nI v1)) 11 (4 * nf + 1) (nI v4) := ⟨_, rfl⟩
          have t12 : T2.2.1 12 = nI nf := by rw [hT2]; exact e12
          rw [← hT2, t12, pk_mul, nI_add, ast_v (by omega) (by decide), nm_v, nI_clamp (by omega), show (mA T2 11 (4 * nf + 2) (nI v2)).2.1 12 = nI nf from t12, pk_mul, nI_add, ast_v (by omega) (by decide), nm_v, nI_clamp (by omega)]
          obtain ⟨T4, hT4⟩ : ∃ T, T = mA (mA T2 11 (4 * nf + 2) (nI v2)) 11 (4 * nf + 3) (nI v3) := ⟨_, rfl⟩
          have u12 : T4.2.1 12 = nI nf := by rw [hT4]; exact t12
          rw [← hT4, u12, nI_add, nm_v, zo_1, add4 hD.1.2.2.1 (by decide) (by omega) (by decide) (by omega), ob_v, nm_v, zo_1]
          have q11 : T4.1 11 = upd (upd (upd (upd (S4.1 11) (4 * nf) (nI v1)) (4 * nf + 1) (nI v4)) (4 * nf + 2) (nI v2)) (4 * nf + 3) (nI v3) := by
            rw [hT4, mA_s, mA_s, hT2, mA_s, mA_s]
          have qn : ∀ j, j ≠ 11 → T4.1 j = S4.1 j := fun j hj => by
            rw [hT4, mA_n _ _ _ hj, mA_n _ _ _ hj, hT2, mA_n _ _ _ hj, mA_n _ _ _ hj]
          have q2 : T4.2 = S4.2 := by rw [hT4, hT2]; rfl
          have q21 : ∀ j, j ≠ 12 → (mI T4 12 (nI (nf + 1))).2.1 j = S4.2.1 j := fun j hj => by rw [mI_n _ _ hj, q2]
          refine ⟨mI T4 12 (nI (nf + 1)), X4, _, a4, l4, ?_, hX, ⟨(q21 8 (by decide)).trans A4.1, (q21 9 (by decide)).trans A4.2⟩, Or.inl ⟨rfl, rfl, K4, ?_, ?_, rfl⟩⟩
          · exact hF.d.t ⟨fun j h1 _ => qn j h1, by show T4.2.2 = S4.2.2; rw [q2], q21 6 (by decide)⟩
          · obtain ⟨⟨r1, r2, r3, r4⟩, ⟨r5, r6⟩, r7, r8, r9⟩ := hD4
            refine ⟨⟨mI_s _ _ _, (q21 14 (by decide)).trans r2, rfl, r4⟩, ⟨by omega, r6⟩, ?_, ?_, r9⟩
            · show RdF (T4.1 11) _ _
              rw [q11]
              exact rdF_add r7 ⟨by omega, lt4, by omega, l3⟩
            · show RdC (T4.1 13) _ _
              rw [qn 13 (by decide)]
              exact r8
          · exact (q21 10 (by decide)).trans (hF.2.2 10 (by decide) (by decide))
        · rw [m4, ob_v, k4, ob_v]
          dsimp only
          rw [if_pos rfl, zo_0, nm_v, if_pos rfl, zo_0]
          exact ⟨S4, X4, M, a4, l4, hF.d, hX, A4, Or.inr ⟨rfl, rfl, K4⟩⟩
      · rw [m3, ob_v, k3, ob_v]
        dsimp only
        rw [if_pos rfl, zo_0, nm_v, if_pos rfl, zo_0]
        exact ⟨S3, X2, M, _, b3.2.1, ((f1.t f2).t f3).d, x1.t x2, A3, Or.inr ⟨rfl, rfl, K2⟩⟩
    · rw [m2, ob_v, k2, ob_v]
      dsimp only
      rw [if_pos rfl, zo_0, nm_v, if_pos rfl, zo_0]
      exact ⟨S2, X1, M, _, b2.2.1, (f1.t f2).d, x1, A2, Or.inr ⟨rfl, rfl, K1⟩⟩
  · rw [m1, ob_v, k1, ob_v]
    dsimp only
    rw [if_pos rfl, zo_0, nm_v, if_pos rfl, zo_0]
    exact ⟨S1, X, M, _, b1.2.1, f1.d, FX.r X, A1, Or.inr ⟨rfl, rfl, hK⟩⟩
theorem court_j {t : Nat → Nat} {len a nf nc : Nat} (hO : TextOk t len) {S : MS} {X : TX} {M : MT} (hM : TM t len S) (hC : TC t len X) (hA : At t len a S) (hK : Tk t len (nxt t len a) X) (ha : a ≤ len) (hD : Rd S M nf nc) (hn : nc < 4) : Out t len S X M (M.2 7) nf (nc + 1) (mX11_readsCourt S) (mX0_takeCourt (X, M)) := by
  unfold mX11_readsCourt mX0_takeCourt
  rw [hD.1.2.1, if_neg (fun q => absurd ((nI_eq (by omega) (by decide)).mp q) (by omega))]
  have b1 := nxt_b (t := t) ha
  obtain ⟨S1, f1, A1, c1⟩ := num_j hO hM hC hA hK ha (show 20 < 1000 by decide)
  rcases c1 with ⟨v1, X1, l1, m1, k1, K1, x1⟩ | ⟨m1, k1⟩
  · rw [m1, ob_v, k1, ob_v]
    dsimp only
    rw [if_neg (m1_n (by omega)), nm_v, if_neg (m1_n (by omega))]
    dsimp only
    obtain ⟨S4, X4, a4, l4, f4, x4, A4, c4⟩ := facts_j hO (hM.f f1) (hC.f x1) A1 K1 b1.2.1
    have hF := f1.t f4
    have hX := x1.t x4
    rcases c4 with ⟨v4, lt4, m4, k4, K4⟩ | ⟨m4, k4, K4⟩
    · rw [m4, ob_v, k4, ob_v]
      dsimp only
      rw [if_neg (m1_n (by omega)), nm_v (X4, M), if_neg (m1_n (by omega))]
      dsimp only
      have hD4 := hD.f hF
      have e12 := hD4.1.2.1
      rw [e12, pk_mul, ast_v (by omega) (by decide), nm_v, nI_clamp (by omega), show (mA S4 13 (2 * nc) (nI v4)).2.1 14 = nI nc from e12, pk_mul, nI_add, ast_v (by omega) (by decide), nm_v, nI_clamp (by omega)]
      obtain ⟨T4, hT4⟩ : ∃ T, T = mA (mA S4 13 (2 * nc) (nI v4)) 13 (2 * nc + 1) (nI v1) := ⟨_, rfl⟩
      have u12 : T4.2.1 14 = nI nc := by rw [hT4]; exact e12
      rw [← hT4, u12, nI_add, nm_v, zo_1, add2 hD.1.2.2.2 (by decide) (by omega) (by decide) (by omega), ob_v, nm_v, zo_1]
      have q11 : T4.1 13 = upd (upd (S4.1 13) (2 * nc) (nI v4)) (2 * nc + 1) (nI v1) := by
        rw [hT4, mA_s, mA_s]
      have qn : ∀ j, j ≠ 13 → T4.1 j = S4.1 j := fun j hj => by
        rw [hT4, mA_n _ _ _ hj, mA_n _ _ _ hj]
      have q2 : T4.2 = S4.2 := by rw [hT4]; rfl
      have q21 : ∀ j, j ≠ 14 → (mI T4 14 (nI (nc + 1))).2.1 j = S4.2.1 j := fun j hj => by rw [mI_n _ _ hj, q2]
      refine ⟨mI T4 14 (nI (nc + 1)), X4, _, a4, l4, ?_, hX, ⟨(q21 8 (by decide)).trans A4.1, (q21 9 (by decide)).trans A4.2⟩, Or.inl ⟨rfl, rfl, K4, ?_, ?_, rfl⟩⟩
      · exact hF.d.t ⟨fun j _ h1 => qn j h1, by show T4.2.2 = S4.2.2; rw [q2], q21 6 (by decide)⟩
      · obtain ⟨⟨r1, r2, r3, r4⟩, ⟨r5, r6⟩, r7, r8, r9⟩ := hD4
        refine ⟨⟨(q21 12 (by decide)).trans r1, mI_s _ _ _, r3, rfl⟩, ⟨r5, by omega⟩, ?_, ?_, r9⟩
        · show RdF (T4.1 11) _ _
          rw [qn 11 (by decide)]
          exact r7
        · show RdC (T4.1 13) _ _
          rw [q11]
          exact rdC_add r8 ⟨lt4, l1⟩
      · exact (q21 10 (by decide)).trans (hF.2.2 10 (by decide) (by decide))
    · rw [m4, ob_v, k4, ob_v]
      dsimp only
      rw [if_pos rfl, zo_0, nm_v, if_pos rfl, zo_0]
      exact ⟨S4, X4, M, a4, l4, hF.d, hX, A4, Or.inr ⟨rfl, rfl, K4⟩⟩
  · rw [m1, ob_v, k1, ob_v]
    dsimp only
    rw [if_pos rfl, zo_0, nm_v, if_pos rfl, zo_0]
    exact ⟨S1, X, M, _, b1.2.1, f1.d, FX.r X, A1, Or.inr ⟨rfl, rfl, hK⟩⟩
