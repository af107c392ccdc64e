/-! the ITEMS, one behind the other -/
theorem kd_z {t : Nat → Nat} {len a : Nat} (h : a < len) : kd t len a ≠ 0 := by
  unfold kd
  rw [if_pos h]
  (repeat' split) <;> decide
theorem item_0 {X : TX} {M : MT} {x : Int32} (h : mX0_mayBegin M (X.2 2) x = some (nI 0)) : mX0_takeItem (X, M) x = some (nI 0, (X, M)) := by
  unfold mX0_takeItem
  rw [show mX0_mayBegin (X, M).2 ((X, M).1.2 2) x = some (nI 0) from h, ob_v, if_pos z0, zo_0]
/-- how a reading ends -/
def End (t : Nat → Nat) (len : Nat) (S : MS) (X : TX) (x : Option (Int32 × MS)) (y : Option (Int32 × (TX × MT))) : Prop :=
  ∃ S' X' M', FRd S S' ∧ FX X X' ∧ ((∃ k nf nc tr, 1 ≤ k ∧ k ≤ 11 ∧ tr < 256 ∧ x = some (nI k, S') ∧ y = some (nI k, (X', M')) ∧ Rd S' M' nf nc ∧ S'.2.1 10 = nI tr ∧ M'.2 7 = nI tr) ∨ (∃ a, a ≤ len ∧ x = some (-1, S') ∧ S'.2.1 8 = nI a ∧ y = some ((-10 : Int32) - nI a, (X', M'))))
theorem End.pre {t : Nat → Nat} {len : Nat} {S S1 : MS} {X X1 : TX} {x : Option (Int32 × MS)} {y : Option (Int32 × (TX × MT))} (hf : FRd S S1) (hx : FX X X1) (h : End t len S1 X1 x y) : End t len S X x y := by
  obtain ⟨S', X', M', h1, h2, h3⟩ := h
  exact ⟨S', X', M', hf.t h1, hx.t h2, h3⟩
theorem FRd.r (S : MS) : FRd S S := (F89.r S).d
theorem w_m1 {k : Nat} (h4 : k ≠ 4) (h5 : k ≠ 5) (h6 : k ≠ 6) : wE k = -1 := by
  unfold wE
  rw [if_neg h4, if_neg h5, if_neg h6]
theorem may_n {M : MT} {k : Nat} (hk : k ≤ 6) (h5 : k ≠ 5) (h6 : k ≠ 6) : mX0_mayBegin M (nI k) (nI 0) = some (nI 0) := by
  unfold mX0_mayBegin
  rw [if_pos z0, ifN_eq (by omega) (by decide), if_neg h5, ifN_eq (by omega) (by decide), if_neg h6, zo_0]
theorem may_5 {M : MT} {nf : Nat} (h : (M.1 0).1 = nI nf) (hn : nf ≤ 6) : mX0_mayBegin M (nI 5) (nI 0) = some (if nf < 6 then nI 1 else nI 0) := by
  unfold mX0_mayBegin
  rw [if_pos z0, if_pos rfl, isFull_v h (by omega) (by decide), ob_v]
  by_cases hc : nf < 6
  · rw [if_pos hc, if_pos hc, if_pos z0, zo_1]
  · rw [if_neg hc, if_neg hc, if_neg z1, if_neg (by decide), zo_0]
theorem may_6 {M : MT} {nc : Nat} (h : (M.1 1).1 = nI nc) (hn : nc ≤ 4) : mX0_mayBegin M (nI 6) (nI 0) = some (if nc < 4 then nI 1 else nI 0) := by
  unfold mX0_mayBegin
  rw [if_pos z0, if_neg (by decide), if_pos rfl, isFull_v h (by omega) (by decide), ob_v]
  by_cases hc : nc < 4
  · rw [if_pos hc, if_pos hc, if_pos z0, zo_1]
  · rw [if_neg hc, if_neg hc, if_neg z1, zo_0]
/-! one ITEM's turn, on each side -/
theorem ref_s1 {k n : Nat} {S S' : MS} {r : Int32} (hk : ¬ nI k = 0) (hl : ¬ S.2.1 6 ≤ S.2.1 8) (hw : mX11_wordHere S = some (nI 1)) (h : mX11_readsFiction (mI S 10 (S.2.1 10)) = some (r, S')) : mX11_readItems_L21 (n + 1) (nI k) S = if r = 0 then some (-1, S') else (mX11_next S').bind fun S2 => mX11_readItems_L21 n (nI (k + 1)) S2 := by
  have f1 : ¬ nI 1 = (-1 : Int32) := by decide
  rw [mX11_readItems_L21_s, hw]
  simp only [if_neg hk, if_neg hl, ob_v, if_neg f1, if_neg z1, if_true, nm_v, h, nI_add]
theorem ref_s2 {k n : Nat} {S S' : MS} {r : Int32} (hk : ¬ nI k = 0) (hl : ¬ S.2.1 6 ≤ S.2.1 8) (hw : mX11_wordHere S = some (nI 2)) (h : mX11_readsCourt (mI S 10 (S.2.1 10)) = some (r, S')) : mX11_readItems_L21 (n + 1) (nI k) S = if r = 0 then some (-1, S') else (mX11_next S').bind fun S2 => mX11_readItems_L21 n (nI (k + 1)) S2 := by
  have f1 : ¬ nI 2 = (-1 : Int32) := by decide
  have f2 : ¬ nI 2 = (0 : Int32) := by decide
  have f3 : ¬ nI 2 = nI 1 := by decide
  rw [mX11_readItems_L21_s, hw]
  simp only [if_neg hk, if_neg hl, ob_v, if_neg f1, if_neg f2, if_neg f3, nm_v, h, nI_add]
theorem ref_s0 {k n : Nat} {S : MS} (hk : ¬ nI k = 0) (hl : ¬ S.2.1 6 ≤ S.2.1 8) (hw : mX11_wordHere S = some (nI 0)) : mX11_readItems_L21 (n + 1) (nI k) S = some (-1, S) := by
  have f1 : ¬ nI 0 = (-1 : Int32) := by decide
  rw [mX11_readItems_L21_s, hw]
  simp only [if_neg hk, if_neg hl, ob_v, if_neg f1, if_pos z0]
theorem ref_sn {k n : Nat} {S : MS} (hk : ¬ nI k = 0) (hl : ¬ S.2.1 6 ≤ S.2.1 8) (hw : mX11_wordHere S = some (-1)) : mX11_readItems_L21 (n + 1) (nI k) S = some (-1, S) := by
  rw [mX11_readItems_L21_s, hw]
  simp only [if_neg hk, if_neg hl, ob_v, if_true]
theorem ref_se {k n : Nat} {S : MS} (hk : ¬ nI k = 0) (hl : S.2.1 6 ≤ S.2.1 8) : mX11_readItems_L21 (n + 1) (nI k) S = some (nI k, S) := by
  rw [mX11_readItems_L21_s]
  simp only [if_neg hk, if_pos hl]
theorem cls_s {k n : Nat} {X X' : TX} {M M' : MT} {r : Int32} (h1 : 1 ≤ k) (h11 : k ≤ 11) (hk : ¬ X.2 2 = 0) (h : mX0_takeItem (X, M) (nI 0) = some (r, (X', M'))) : mX0_readInto_L16 (n + 1) (nI k) (X, M) = if r = 0 then some ((-10 : Int32) - X'.2 3, (X', M')) else mX0_readInto_L16 n (nI (k + 1)) (X', M') := by
  rw [mX0_readInto_L16_s]
  simp only [if_neg (nI_nlt (show k ≤ 11 by omega) (by decide)), if_neg (nI_nle (show 0 < k by omega) (by omega)), if_neg hk, if_neg (nI_ne0 (show 0 < k by omega) (by omega)), h, ob_v, nm_v, nI_add]
theorem cls_e {k n : Nat} {X : TX} {M : MT} (h1 : 1 ≤ k) (h11 : k ≤ 11) (hk : X.2 2 = 0) : mX0_readInto_L16 (n + 1) (nI k) (X, M) = some (nI k, (X, M)) := by
  rw [mX0_readInto_L16_s]
  simp only [if_neg (nI_nlt (show k ≤ 11 by omega) (by decide)), if_neg (nI_nle (show 0 < k by omega) (by omega)), if_pos hk]
theorem items_B {t : Nat → Nat} {len : Nat} (hO : TextOk t len) : ∀ m nf nc, nf + nc + m = 10 → ∀ n n', m < n → m < n' → ∀ (S : MS) (X : TX) (M : MT) (a tr : Nat), TM t len S → TC t len X → At t len a S → Tk t len a X → a ≤ len → Rd S M nf nc → tr < 256 → S.2.1 10 = nI tr → M.2 7 = nI tr → End t len S X (mX11_readItems_L21 n (nI (1 + nf + nc)) S) (mX0_readInto_L16 n' (nI (1 + nf + nc)) (X, M)) := by
  have h150 := hO.1
  intro m
  induction m using Nat.strongRecOn with
  | ind m ih =>
    intro nf nc hm n n' hn hn' S X M a tr hM hC hA hK ha hD htr h10 h7
    obtain ⟨n, rfl⟩ : ∃ j, n = j + 1 := ⟨n - 1, by omega⟩
    obtain ⟨n', rfl⟩ : ∃ j, n' = j + 1 := ⟨n' - 1, by omega⟩
    have hkl := kd_le t len a
    have hb := hD.2.1
    have hk0 : ¬ nI (1 + nf + nc) = 0 := nI_ne0 (by omega) (by omega)
    by_cases h1 : a < len
    · have hl : ¬ S.2.1 6 ≤ S.2.1 8 := by
        rw [hM.1, hA.1]
        exact nI_ge h1 (by omega)
      have hx : ¬ X.2 2 = 0 := by
        rw [hK.2.2.1]
        exact nI_ne0 (Nat.pos_of_ne_zero (kd_z h1)) (by omega)
      have hw := wordHere_v hO hM hA ha
      obtain ⟨T, hT⟩ : ∃ T, T = mI S 10 (S.2.1 10) := ⟨_, rfl⟩
      have tF : FRd S T := by rw [hT]; exact ⟨fun _ _ _ => rfl, rfl, mI_n _ _ (by decide)⟩
      have tM := hM.d tF
      have tA : At t len a T := by rw [hT]; exact ⟨(mI_n _ _ (by decide)).trans hA.1, (mI_n _ _ (by decide)).trans hA.2⟩
      have tD : Rd T M nf nc := by rw [hT]; exact hD
      have t10 : T.2.1 10 = nI tr := by rw [hT]; exact (mI_s _ _ _).trans h10
      obtain ⟨X1, w1, w2, w3⟩ := adv_j hO hC hK ha
      have hstop : ∀ S2 : MS, FRd S S2 → S2.2.1 8 = nI a → mX0_takeItem (X, M) (nI 0) = some (nI 0, (X, M)) → End t len S X (some (-1, S2)) (mX0_readInto_L16 (n' + 1) (nI (1 + nf + nc)) (X, M)) := by
        intro S2 e1 e2 e3
        rw [cls_s (by omega) (by omega) hx e3, if_pos z0, hK.1]
        exact ⟨S2, X, M, e1, FX.r X, Or.inr ⟨a, ha, rfl, e2, rfl⟩⟩
      by_cases c5 : kd t len a = 5
      · rw [c5] at hw
        by_cases hc : nf < 6
        · have hitem : mX0_takeItem (X, M) (nI 0) = (mX0_takeFiction (X1, M)).bind fun ⟨r5, S4⟩ => zo r5 (some (r5, S4)) := by
            unfold mX0_takeItem
            dsimp only
            rw [hK.2.2.1, c5, may_5 hD.1.2.2.1 hb.1, if_pos hc, ob_v, if_neg z1, w1, ob_v, nm_v, if_pos rfl]
          obtain ⟨S', X', M', a', q1, q2, q3, q4, q5⟩ := fict_j hO tM (hC.f w3) tA w2 ha tD hc
          rcases q5 with ⟨r1, r2, r3, r4, r5, r6⟩ | ⟨r1, r2, r3⟩
          · obtain ⟨S2, y1, y2, y3⟩ := next_j hO (tM.d q2) q4 q1
            rw [r2, ob_v] at hitem
            rw [hT] at r1
            rw [ref_s1 hk0 hl hw r1, cls_s (by omega) (by omega) hx (hitem.trans (zo_1 _)), if_neg z1, if_neg z1, y1, ob_v, show 1 + nf + nc + 1 = 1 + (nf + 1) + nc by omega]
            exact End.pre ((tF.t q2).t y3.d) (w3.t q3) (ih (m - 1) (by omega) (nf + 1) nc (by omega) n n' (by omega) (by omega) S2 X' M' _ tr ((tM.d q2).f y3) ((hC.f w3).f q3) y2 r3 (nxt_b q1).2.1 (r4.f y3) htr ((y3.2.2 10 (by decide) (by decide)).trans (r5.trans t10)) (r6.trans h7))
          · rw [r2, ob_v] at hitem
            rw [hT] at r1
            rw [ref_s1 hk0 hl hw r1, cls_s (by omega) (by omega) hx (hitem.trans (zo_0 _)), if_pos z0, if_pos z0, r3.1]
            exact ⟨S', X', M', tF.t q2, w3.t q3, Or.inr ⟨a', q1, rfl, q4.1, rfl⟩⟩
        · have hfail : mX0_mayBegin M (X.2 2) (nI 0) = some (nI 0) := by
            rw [hK.2.2.1, c5, may_5 hD.1.2.2.1 hb.1, if_neg hc]
          have e : mX11_readsFiction T = some (nI 0, T) := by
            unfold mX11_readsFiction
            rw [tD.1.1, show nf = 6 by omega, if_pos rfl, zo_0]
          rw [hT] at e
          rw [ref_s1 hk0 hl hw e, if_pos z0, ← hT]
          exact hstop T tF tA.1 (item_0 hfail)
      · by_cases c6 : kd t len a = 6
        · rw [c6] at hw
          by_cases hc : nc < 4
          · have hitem : mX0_takeItem (X, M) (nI 0) = (mX0_takeCourt (X1, M)).bind fun ⟨r5, S4⟩ => zo r5 (some (r5, S4)) := by
              unfold mX0_takeItem
              dsimp only
              rw [hK.2.2.1, c6, may_6 hD.1.2.2.2 hb.2, if_pos hc, ob_v, if_neg z1, w1, ob_v, nm_v, if_neg (by decide), if_pos rfl]
            obtain ⟨S', X', M', a', q1, q2, q3, q4, q5⟩ := court_j hO tM (hC.f w3) tA w2 ha tD hc
            rcases q5 with ⟨r1, r2, r3, r4, r5, r6⟩ | ⟨r1, r2, r3⟩
            · obtain ⟨S2, y1, y2, y3⟩ := next_j hO (tM.d q2) q4 q1
              rw [r2, ob_v] at hitem
              rw [hT] at r1
              rw [ref_s2 hk0 hl hw r1, cls_s (by omega) (by omega) hx (hitem.trans (zo_1 _)), if_neg z1, if_neg z1, y1, ob_v, show 1 + nf + nc + 1 = 1 + nf + (nc + 1) by omega]
              exact End.pre ((tF.t q2).t y3.d) (w3.t q3) (ih (m - 1) (by omega) nf (nc + 1) (by omega) n n' (by omega) (by omega) S2 X' M' _ tr ((tM.d q2).f y3) ((hC.f w3).f q3) y2 r3 (nxt_b q1).2.1 (r4.f y3) htr ((y3.2.2 10 (by decide) (by decide)).trans (r5.trans t10)) (r6.trans h7))
            · rw [r2, ob_v] at hitem
              rw [hT] at r1
              rw [ref_s2 hk0 hl hw r1, cls_s (by omega) (by omega) hx (hitem.trans (zo_0 _)), if_pos z0, if_pos z0, r3.1]
              exact ⟨S', X', M', tF.t q2, w3.t q3, Or.inr ⟨a', q1, rfl, q4.1, rfl⟩⟩
          · have hfail : mX0_mayBegin M (X.2 2) (nI 0) = some (nI 0) := by
              rw [hK.2.2.1, c6, may_6 hD.1.2.2.2 hb.2, if_neg hc]
            have e : mX11_readsCourt T = some (nI 0, T) := by
              unfold mX11_readsCourt
              rw [tD.1.2.1, show nc = 4 by omega, if_pos rfl, zo_0]
            rw [hT] at e
            rw [ref_s2 hk0 hl hw e, if_pos z0, ← hT]
            exact hstop T tF tA.1 (item_0 hfail)
        · have hfail : mX0_mayBegin M (X.2 2) (nI 0) = some (nI 0) := by
            rw [hK.2.2.1]
            exact may_n hkl c5 c6
          by_cases c4 : kd t len a = 4
          · rw [c4] at hw
            rw [ref_s0 hk0 hl hw]
            exact hstop S (FRd.r S) hA.1 (item_0 hfail)
          · rw [w_m1 c4 c5 c6] at hw
            rw [ref_sn hk0 hl hw]
            exact hstop S (FRd.r S) hA.1 (item_0 hfail)
    · rw [ref_se hk0 (by rw [hM.1, hA.1]; exact nI_le (by omega) (by omega)), cls_e (by omega) (by omega) (by rw [hK.2.2.1, kd_e h1]; rfl)]
      exact ⟨S, X, M, FRd.r S, FX.r X, Or.inl ⟨_, nf, nc, tr, by omega, by omega, htr, rfl, rfl, hD, h10, h7⟩⟩
theorem ref_f {n : Nat} {S : MS} {w : Int32} (hw : mX11_wordHere S = some w) (h : w = -1 ∨ ¬ w = 0) : mX11_readItems_L21 (n + 1) (nI 0) S = some (-1, S) := by
  rw [mX11_readItems_L21_s, hw]
  by_cases h1 : w = -1
  · simp only [if_pos z0, ob_v, if_pos h1]
  · rcases h with h | h
    · exact absurd h h1
    · simp only [if_pos z0, ob_v, if_neg h1, if_neg h]
theorem ref_b {n : Nat} {S S' : MS} {r : Int32} (hw : mX11_wordHere S = some (nI 0)) (h : mX11_facts S = some (r, S')) : mX11_readItems_L21 (n + 1) (nI 0) S = if r = (-1 : Int32) then some (-1, mI S' 10 r) else (mX11_next (mI S' 10 r)).bind fun S2 => mX11_readItems_L21 n (nI 1) S2 := by
  have f1 : ¬ nI 0 = (-1 : Int32) := by decide
  rw [mX11_readItems_L21_s, hw]
  simp only [if_pos z0, ob_v, if_neg f1, h, nm_v, mI_s, show nI 0 + nI 1 = nI 1 from rfl]
theorem cls_0 {n : Nat} {X X' : TX} {M M' : MT} {r : Int32} (h : mX0_takeItem (X, M) (nI 1) = some (r, (X', M'))) : mX0_readInto_L16 (n + 1) (nI 0) (X, M) = if r = 0 then some ((-10 : Int32) - X'.2 3, (X', M')) else mX0_readInto_L16 n (nI 1) (X', M') := by
  have f1 : ¬ nI 11 < nI 0 := by decide
  have f2 : nI 0 ≤ (0 : Int32) := by decide
  rw [mX0_readInto_L16_s]
  simp only [if_neg f1, if_pos f2, if_pos z0, h, ob_v, nm_v, show nI 0 + nI 1 = nI 1 from rfl]
theorem may_1 {M : MT} {k : Nat} (hk : k ≤ 6) : mX0_mayBegin M (nI k) (nI 1) = some (if k = 4 then nI 1 else nI 0) := by
  unfold mX0_mayBegin
  rw [if_neg z1, ifN_eq (by omega) (by decide), zo_0, zo_1]
  split <;> rfl
theorem items_A {t : Nat → Nat} {len a : Nat} (hO : TextOk t len) {S : MS} {X : TX} {M : MT} (hM : TM t len S) (hC : TC t len X) (hA : At t len a S) (hK : Tk t len a X) (ha : a ≤ len) (hD : Rd S M 0 0) : End t len S X (mX11_readItems_L21 FU (nI 0) S) (mX0_readInto_L16 FU (nI 0) (X, M)) := by
  have hkl := kd_le t len a
  have hw := wordHere_v hO hM hA ha
  rw [show FU = 999999 + 1 from rfl]
  by_cases c4 : kd t len a = 4
  · rw [c4] at hw
    obtain ⟨X1, w1, w2, w3⟩ := adv_j hO hC hK ha
    have hitem : mX0_takeItem (X, M) (nI 1) = (mX0_takeBook (X1, M)).bind fun ⟨r9, S8⟩ => zo r9 (some (r9, S8)) := by
      unfold mX0_takeItem
      dsimp only
      rw [hK.2.2.1, c4, may_1 (by decide), if_pos rfl, ob_v, if_neg z1, w1, ob_v, nm_v, if_neg (by decide), if_neg (by decide)]
    obtain ⟨S', X', a', q1, q2, q3, q4, q5⟩ := facts_j hO hM (hC.f w3) hA w2 ha
    rcases q5 with ⟨v, hv, m4, k4, K4⟩ | ⟨m4, k4, K4⟩
    · have hbook : mX0_takeBook (X1, M) = some (nI 1, (X', tI M 7 (nI v))) := by
        unfold mX0_takeBook
        dsimp only
        rw [k4, ob_v]
        dsimp only
        rw [nm_v, if_neg (m1_n (by omega)), nm_v, zo_1]
      rw [hbook, ob_v] at hitem
      have tF : FRd S (mI S' 10 (nI v)) := q2.d.t ⟨fun _ _ _ => rfl, rfl, mI_n _ _ (by decide)⟩
      have tA : At t len a' (mI S' 10 (nI v)) := ⟨(mI_n _ _ (by decide)).trans q4.1, (mI_n _ _ (by decide)).trans q4.2⟩
      have tM := hM.d tF
      obtain ⟨S2, y1, y2, y3⟩ := next_j hO tM tA q1
      have tD : Rd (mI S' 10 (nI v)) (tI M 7 (nI v)) 0 0 := by
        have z := hD.f q2
        exact z
      rw [ref_b hw m4, cls_0 (hitem.trans (zo_1 _)), if_neg (m1_n (by omega)), if_neg z1, y1, ob_v]
      exact End.pre (tF.t y3.d) (w3.t q3) (items_B hO 10 0 0 (by decide) 999999 999999 (by decide) (by decide) S2 X' (tI M 7 (nI v)) _ v (tM.f y3) ((hC.f w3).f q3) y2 K4 (nxt_b q1).2.1 (tD.f y3) hv ((y3.2.2 10 (by decide) (by decide)).trans (mI_s _ _ _)) rfl)
    · have hbook : mX0_takeBook (X1, M) = some (nI 0, (X', M)) := by
        unfold mX0_takeBook
        dsimp only
        rw [k4, ob_v]
        dsimp only
        rw [nm_v, if_pos rfl, zo_0]
      rw [hbook, ob_v] at hitem
      rw [ref_b hw m4, cls_0 (hitem.trans (zo_0 _)), if_pos rfl, if_pos z0, K4.1]
      exact ⟨mI S' 10 (-1), X', M, q2.d.t ⟨fun _ _ _ => rfl, rfl, mI_n _ _ (by decide)⟩, w3.t q3, Or.inr ⟨a', q1, rfl, (mI_n _ _ (by decide)).trans q4.1, rfl⟩⟩
  · have hfail : mX0_mayBegin M (X.2 2) (nI 1) = some (nI 0) := by
      rw [hK.2.2.1, may_1 hkl, if_neg c4]
    have hne : wE (kd t len a) = -1 ∨ ¬ wE (kd t len a) = 0 := by
      unfold wE
      rw [if_neg c4]
      split
      · exact Or.inr (by decide)
      · split
        · exact Or.inr (by decide)
        · exact Or.inl rfl
    rw [ref_f hw hne, cls_0 (item_0 hfail), if_pos z0, hK.1]
    exact ⟨S, X, M, FRd.r S, FX.r X, Or.inr ⟨a, ha, rfl, hA.1, rfl⟩⟩
