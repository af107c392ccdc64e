/-! least and fees -/
theorem pop_sup : ∀ s, s < 64 → ∀ p, p < 64 → s &&& p = p → pop p ≤ pop s := by decide +kernel
theorem sup_or {s p x : Nat} (h : s &&& p = p) : (s ||| x) &&& p = p := by
  apply Nat.eq_of_testBit_eq
  intro i
  have := congrArg (fun z => z.testBit i) h
  simp only [Nat.testBit_and] at this
  rw [Nat.testBit_and, Nat.testBit_or]
  cases h1 : s.testBit i <;> cases h2 : p.testBit i <;> cases h3 : x.testBit i <;> simp [h1, h2] at this ⊢
theorem settle_v {K q ct w : Nat} {g : Nat → Nat} {M : MT} {P : PA} (hM : MRel g M) (hB : BookInv K g) (hK : K ≤ 100) (hct : ct < g 29) (hw : w ≤ 1) (hq : q < 2 ^ g 4) (hs : q &&& g 0 = g 0) (hb : ∀ f, f < g 4 → q.testBit f = false → P.1 (q ||| 2 ^ f) = rE (bP g ct w (q ||| 2 ^ f))) : mX4_settle M P (nI ct) (nI w) (nI q) = some (upd P.1 q (rE (bP g ct w q)), upd P.2 q (fE (bP g ct w q))) := by
  have h6 := hB.1.1
  have hq6 := p_64 hB hq
  have hp := pop_sup q hq6 (g 0) hB.p64 hs
  have q6 := pop_64 _ hq6
  obtain ⟨r, hr⟩ : ∃ r, 7 - (pop q - pop (g 0)) = r + 1 := ⟨6 - (pop q - pop (g 0)), by omega⟩
  have hkid : ∀ f, f < g 4 → q.testBit f = false → bP g ct w (q ||| 2 ^ f) = bT g ct w r (q ||| 2 ^ f) := by
    intro f hf hbit
    unfold bP
    rw [pop_or q hq6 f (by omega) hbit, show 7 - (pop q + 1 - pop (g 0)) = r by omega]
  have e : bP g ct w q = if hearsG g ct (sup g q) then some (0, []) else (List.range' 0 (g 4)).foldl (bStep g w q (bT g ct w r)) none := by
    unfold bP
    rw [hr, bT_s]
  unfold mX4_settle
  rw [vC_sup hM hB hq6, ob_v, vC_hears hM hB hct (sup_lt hB q), ob_v, ifB, e]
  cases hearsG g ct (sup g q)
  · rw [if_neg (by decide), if_neg (by decide), stepAt_v hM hB hq6 hp, ob_v]
    exact settle_L (ct := ct) hM hB hK hq hw (bT g ct w r) (fun f hf hbit => ⟨by rw [hb f hf hbit, hkid f hf hbit], fun v l h => by
      have := (bT_ok hB hK ct w r _ v l (Nat.or_lt_two_pow hq (Nat.pow_lt_pow_right (by decide) hf)) h).1
      omega⟩) (g 4) 0 (by omega) FU (by unfold FU; omega) none (fun v l h => nomatch h)
  · rw [if_pos rfl, if_pos rfl, keep_v hq6, ob_v]
    rfl
theorem m1_sub (x : Int32) : x + (-1) = x - nI 1 := by
  rw [Int32.sub_eq_add_neg]
  rfl
def Tab (g : Nat → Nat) (ct w t : Nat) (P : PA) : Prop := ∀ q, t ≤ q → q < 2 ^ g 4 → q &&& g 0 = g 0 → P.1 q = rE (bP g ct w q) ∧ P.2 q = fE (bP g ct w q)
theorem measure_L {K ct w : Nat} {g : Nat → Nat} {M : MT} (hM : MRel g M) (hB : BookInv K g) (hK : K ≤ 100) (hct : ct < g 29) (hw : w ≤ 1) : ∀ m t, t = g 0 + m → t ≤ 2 ^ g 4 → ∀ n, m < n → ∀ P, Tab g ct w t P → ∃ P', mX4_measure_L12 M n (nI ct) (nI w) (nI (g 0)) (nI t - nI 1) P = some (rE (bP g ct w (g 0)), P') ∧ Tab g ct w (g 0) P' := by
  have h6 := hB.1.1
  have hp6 := hB.p64
  have h64 : 2 ^ g 4 ≤ 64 := Nat.pow_le_pow_right (n := 2) (by decide) h6
  intro m
  induction m with
  | zero =>
    intro t ht htl n hn P hT
    obtain ⟨n, rfl⟩ : ∃ j, n = j + 1 := ⟨n - 1, by omega⟩
    have hlt : nI t - nI 1 < nI (g 0) := by
      rw [show t = g 0 by omega]
      cases hz : g 0 with
      | zero => decide
      | succ z => rw [nI_subk]; exact nI_lt (by omega) (by omega)
    rw [mX4_measure_L12_s, if_pos hlt, at_v hp6, ob_v, (hT (g 0) (by omega) hB.s.1 (Nat.and_self _)).1]
    exact ⟨P, rfl, fun q h1 h2 h3 => hT q (by omega) h2 h3⟩
  | succ m ih =>
    intro t ht htl n hn P hT
    obtain ⟨n, rfl⟩ : ∃ j, n = j + 1 := ⟨n - 1, by omega⟩
    obtain ⟨s, rfl⟩ : ∃ s, t = s + 1 := ⟨t - 1, by omega⟩
    have hand : s &&& g 0 < 2 ^ 31 := Nat.lt_of_le_of_lt Nat.and_le_left (by omega)
    rw [mX4_measure_L12_s, nI_subk, if_neg (nI_nlt (by omega) (by omega)), nI_and (by omega) (by omega), ifN_eq hand (by omega), m1_sub]
    by_cases hs : s &&& g 0 = g 0
    · rw [if_pos hs, settle_v hM hB hK hct hw (by omega) hs (fun f hf hbit => (hT _ (or_gt s (by omega) f (by omega) hbit) (Nat.or_lt_two_pow (by omega) (Nat.pow_lt_pow_right (by decide) hf)) (sup_or hs)).1), ob_v, nm_v]
      refine ih s (by omega) (by omega) n (by omega) _ (fun q h1 h2 h3 => ?_)
      show upd P.1 s _ q = _ ∧ upd P.2 s _ q = _
      rw [upd_v, upd_v]
      by_cases e : q = s
      · rw [if_pos e, if_pos e, e]
        exact ⟨rfl, rfl⟩
      · rw [if_neg e, if_neg e]
        exact hT q (by omega) h2 h3
    · rw [if_neg hs, nm_v]
      refine ih s (by omega) (by omega) n (by omega) P (fun q h1 h2 h3 => ?_)
      by_cases e : q = s
      · rw [e] at h3
        exact absurd h3 hs
      · exact hT q (by omega) h2 h3
theorem bP_0 (g : Nat → Nat) (ct w : Nat) : bP g ct w (g 0) = bT g ct w 7 (g 0) := by
  unfold bP
  rw [Nat.sub_self]
theorem measure_v {K ct w : Nat} {g : Nat → Nat} {M : MT} (P : PA) (hM : MRel g M) (hB : BookInv K g) (hK : K ≤ 100) (hct : ct < g 29) (hw : w ≤ 1) : ∃ P', mX4_measure M P (nI ct) (nI w) = some (rE (bT g ct w 7 (g 0)), P') ∧ Tab g ct w (g 0) P' := by
  have h6 := hB.1.1
  have h64 : 2 ^ g 4 ≤ 64 := Nat.pow_le_pow_right (n := 2) (by decide) h6
  have hp := hB.s.1
  unfold mX4_measure
  rw [allF_v hM hB, ob_v, hM.i.2.1, ← pk_sub (show 1 ≤ 2 ^ g 4 by omega), ← bP_0]
  exact measure_L hM hB hK hct hw (2 ^ g 4 - g 0) (2 ^ g 4) (by omega) (Nat.le_refl _) FU (by unfold FU; omega) P (fun q h1 h2 => absurd h2 (by omega))
theorem fict_L {K ct w j : Nat} {g : Nat → Nat} {M : MT} {P : PA} (hB : BookInv K g) (hK : K ≤ 100) (hT : Tab g ct w (g 0) P) (hj : j < 2 ^ 31) : ∀ m row, row + m = 6 → row ≤ j → ∀ n, m < n → ∀ q v l, q < 2 ^ g 4 → q &&& g 0 = g 0 → pop q = pop (g 0) + row → bT g ct w (7 - row) q = some (v, l) → mX4_fictionAt_L8 M P n (nI j) (nI q) (nI row) = some (if j - row < l.length then nI (l.getD (j - row) 0) else -5) := by
  have h6 := hB.1.1
  intro m
  induction m with
  | zero =>
    intro row hr hrj n hn q v l hq hs hp hb
    obtain ⟨n, rfl⟩ : ∃ j, n = j + 1 := ⟨n - 1, by omega⟩
    have := (bT_ok hB hK ct w _ q v l hq hb).2
    rw [mX4_fictionAt_L8_s, if_pos (nI_le (by omega) (by omega)), if_neg (by omega)]
  | succ m ih =>
    intro row hr hrj n hn q v l hq hs hp hb
    obtain ⟨n, rfl⟩ : ∃ j, n = j + 1 := ⟨n - 1, by omega⟩
    have hq6 := p_64 hB hq
    have hle : g 0 ≤ q := by
      rw [← hs]
      exact Nat.and_le_left
    have e : bP g ct w q = some (v, l) := by
      unfold bP
      rw [show 7 - (pop q - pop (g 0)) = 7 - row by omega]
      exact hb
    rw [mX4_fictionAt_L8_s, if_neg (nI_ge (by omega) (by omega)), at_v hq6, ob_v, (hT q hle hq hs).2, e]
    rw [show 7 - row = (6 - row) + 1 by omega] at hb
    rcases bT_i hb with ⟨-, rfl⟩ | ⟨f, v', l', f1, f2, f3, -, rfl⟩
    · rw [if_pos (show fE (some (v, [])) = -1 from rfl), if_neg (show ¬ j - row < ([] : List Nat).length from Nat.not_lt_zero _)]
    · rw [show fE (some (v, f :: l')) = nI f from rfl, if_neg (fun z => (nI_m1 (by omega)).mp z), ifN_eq (by omega) hj]
      by_cases hc : row = j
      · rw [if_pos hc, if_pos (by rw [List.length_cons]; omega), show j - row = 0 by omega]
        rfl
      · rw [if_neg hc, or_bit (by omega) (by omega), nm_v, nm_v, nI_add, ih (row + 1) (by omega) (by omega) n (by omega) (q ||| 2 ^ f) v' l' (Nat.or_lt_two_pow hq (Nat.pow_lt_pow_right (by decide) f1)) (sup_or hs) (by rw [pop_or q hq6 f (by omega) (may_b f2), hp]; rfl) (by rw [show 7 - (row + 1) = 6 - row by omega]; exact f3)]
        rw [List.length_cons, show j - row = (j - (row + 1)) + 1 by omega, List.getD_cons_succ]
        by_cases hl : j - (row + 1) < l'.length
        · rw [if_pos hl, if_pos (by omega)]
        · rw [if_neg hl, if_neg (by omega)]
theorem Sim.cP {K : Nat} {C : CT} {S : MS} (h : Sim K C S) (P : PA) : Sim K (cP C P) S := h
theorem a3_of {a : Int32} (h1 : (-1 : Int32) ≤ a) (h2 : ¬ a = -1) : ∃ j : Nat, j < 2 ^ 31 ∧ a = nI j := by
  apply nI_of
  intro q
  apply h2
  have h3 := Int32.le_iff_toInt_le.mp h1
  have h4 := Int32.lt_iff_toInt_lt.mp q
  apply Int32.toInt_inj.mp
  rw [show (-1 : Int32).toInt = -1 from rfl] at h3 ⊢
  rw [show (0 : Int32).toInt = 0 from rfl] at h4
  omega
theorem g_ten {K : Nat} {C : CT} {S : MS} (h : Sim K C S) : Good (K + 1) ((mX10_refuseBad C).bind fun ⟨_, S⟩ => some ((-10 : Int32), S)) ((mX11_badTen S).bind fun ⟨r, S⟩ => some (r, S)) := by
  obtain ⟨C', S', e1, e2, h'⟩ := r_bad h
  unfold mX11_badTen
  rw [e1, e2]
  exact ⟨_, _, _, rfl, rfl, h'⟩
/-- both look for the best row to a COURT -/
theorem best_v {K ct w : Nat} {g : Nat → Nat} {C : CT} {S : MS} (h1 : Base K g C S) (hK : K ≤ 100) (hct : ct < g 29) (hw : w ≤ 1) : ∃ P' a S', mX4_measure (C.1 0) C.2.2.1 (nI ct) (nI w) = some (rE (bT g ct w 7 (g 0)), P') ∧ Tab g ct w (g 0) P' ∧ mX11_bestTo S (nI ct) (nI w) = some (a, S') ∧ JB (lif (if w = 0 then 0 else g (34 + ct)) [] (bT g ct w 7 (g 0))) a S' ∧ Keep S S' ∧ RowIs S' g := by
  obtain ⟨hR, hB, hM⟩ := h1
  obtain ⟨P', p1, p2⟩ := measure_v C.2.2.1 hM hB hK hct hw
  obtain ⟨a, S', w1, w2, w3, w4⟩ := vM_best hR hB hK hct hw
  rw [b_fold hB ct w 7 [] (g 0) 0 none hB.s.1 rfl] at w2
  refine ⟨P', a, S', p1, p2, w1, ?_, w3, w4⟩
  have e : vv g ct w [] 0 = if w = 0 then 0 else g (34 + ct) := by
    unfold vv
    split
    · rfl
    · exact Nat.zero_add _
  rw [← e]
  exact w2
theorem g_least {K : Nat} {C : CT} {S : MS} (h : Sim K C S) (hK : K ≤ 70) (a1 a2 a3 : Int32) : Good (K + 1) (mX10_least C a1 a2 a3) (mX11_least S a1 a2 a3) := by
  obtain ⟨g, h1, h2, h3, h4⟩ := id h
  unfold mX10_least mX11_least
  rcases isC_c h1 a1 with ⟨e1, e2⟩ | ⟨ct, hct, rfl, e1, e2⟩
  · rw [e1, e2, ob_v, ob_v, if_pos z0, if_pos z0]
    exact g_ten h
  rw [e1, e2, ob_v, ob_v, if_neg z1, if_neg z1]
  rcases in_c2 a2 1 (by decide) with ⟨e1, e2, -⟩ | ⟨w, hw, rfl, e1, e2⟩
  · rw [e1, e2, ob_v, ob_v, if_pos z0, if_pos z0]
    exact g_ten h
  rw [e1, e2, ob_v, ob_v, if_neg z1, if_neg z1]
  by_cases hi' : ¬ (-1 : Int32) ≤ a3
  · rw [if_neg hi', if_neg hi']
    exact g_ten h
  have hi : (-1 : Int32) ≤ a3 := Classical.not_not.mp hi'
  rw [if_pos hi, if_pos hi]
  obtain ⟨P', a, S', p1, p2, w1, w2, w3, w4⟩ := best_v h1 (show K ≤ 100 by omega) hct hw
  have hsim : Sim (K + 1) (cP C P') S' := (Sim.walk h1 h2 h3 h4 w3 w4).cP P'
  have hB := h1.2.1
  have hc4 := hB.1.2.1
  have hfee := (hB.c.2 ct hct).2
  have h6 := hB.1.1
  rw [p1, w1, ob_v, ob_v]
  cases hb : bT g ct w 7 (g 0) with
  | none =>
    rw [hb] at w2
    have ha : a = -1 := w2
    subst ha
    exact ⟨-1, cP C P', S', rfl, rfl, hsim⟩
  | some y =>
    obtain ⟨v, l⟩ := y
    obtain ⟨hv, hl⟩ := bT_ok hB (show K ≤ 100 by omega) ct w 7 (g 0) v l hB.s.1 hb
    rw [hb] at w2
    obtain ⟨ha, -, -, h21, h20⟩ := w2
    subst ha
    have hfl : (if w = 0 then 0 else g (34 + ct)) ≤ 20 := by split <;> omega
    show Good (K + 1) (if nI v = (-1 : Int32) then some ((-1 : Int32), cP C P') else (if a3 = (-1 : Int32) then (if nI w = (nI 1) then (mX7_cell (nI 4) (nI 2) 8 ((C.1 0).1 1) (nI ct) (nI 1)).bind fun r11 => some ((nI v + r11), cP C P') else some (nI v, cP C P')) else (mX4_fictionAt (C.1 0) P' a3).bind fun r10 => some (r10, cP C P'))) (if nI ((if w = 0 then 0 else g (34 + ct)) + v) = (-1 : Int32) then some (nI ((if w = 0 then 0 else g (34 + ct)) + v), S') else (if a3 = (-1 : Int32) then some (nI ((if w = 0 then 0 else g (34 + ct)) + v), S') else (if (S'.2.1 21) ≤ a3 then some ((-5 : Int32), S') else ald (S'.1 20) 6 a3 fun v9 => some (v9, S'))))
    rw [if_neg (fun z => (nI_m1 (by omega)).mp z), if_neg (fun z => (nI_m1 (by omega)).mp z)]
    by_cases h3' : a3 = -1
    · rw [if_pos h3', if_pos h3', cell_v (by decide) (by omega), ob_v, Nat.mul_comm ct 2, (h1.2.2.c.2 ct hct).2]
      rcases (show w = 0 ∨ w = 1 by omega) with rfl | rfl
      · rw [if_neg (by decide), if_pos rfl, Nat.zero_add]
        exact ⟨_, _, _, rfl, rfl, hsim⟩
      · rw [if_pos rfl, if_neg (by decide), nI_add, Nat.add_comm v]
        exact ⟨_, _, _, rfl, rfl, hsim⟩
    · rw [if_neg h3', if_neg h3']
      obtain ⟨j, hj, rfl⟩ := a3_of hi h3'
      have q := fict_L (M := C.1 0) hB (show K ≤ 100 by omega) p2 hj 6 0 (by decide) (Nat.zero_le j) FU (by unfold FU; omega) (g 0) v l hB.s.1 (Nat.and_self _) rfl hb
      have q2 : mX4_fictionAt (C.1 0) P' (nI j) = some (if j < l.length then nI (l.getD j 0) else -5) := by
        unfold mX4_fictionAt
        rw [h1.2.2.i.2.1]
        exact q
      rw [q2, ob_v, h21]
      have hl6 : ([] ++ l).length = l.length := rfl
      rw [hl6, ifN_le (by omega) hj]
      by_cases hc : l.length ≤ j
      · rw [if_pos hc, if_neg (by omega)]
        exact ⟨_, _, _, rfl, rfl, hsim⟩
      · rw [if_neg hc, if_pos (by omega), ald_v (by omega) (by decide), h20 j (by rw [hl6]; omega)]
        exact ⟨_, _, _, rfl, rfl, hsim⟩
theorem fees_L {K : Nat} {g : Nat → Nat} {C0 : CT} {S0 : MS} (h1 : Base K g C0 S0) (h2 : ImgRel K g C0 S0) (h3 : RestRel C0 S0) (h4 : TextRel C0 S0) (hK : K ≤ 70) (y : Int32) : ∀ m c, c + m = g 29 → ∀ n, m < n → ∀ (P : PA) (S : MS) (wh mu : Int32), Keep S0 S → RowIs S g → ((wh = -1 ∧ mu = -1) ∨ ∃ a b : Nat, a < 10 ∧ b < 100000 ∧ wh = nI a ∧ mu = nI b) → Good (K + 1) (mX10_fees_L21 n y wh mu (nI c) (cP C0 P)) (mX11_fees_L23 n y mu wh (nI c) S) := by
  obtain ⟨hR0, hB, hM⟩ := id h1
  have hc4 := hB.1.2.1
  intro m
  induction m with
  | zero =>
    intro c hc n hn P S wh mu hk hR _
    obtain ⟨n, rfl⟩ : ∃ j, n = j + 1 := ⟨n - 1, by omega⟩
    have hsim : Sim (K + 1) (cP C0 P) S := (Sim.walk h1 h2 h3 h4 hk hR).cP P
    rw [mX10_fees_L21_s, mX11_fees_L23_s, ald_v (by decide) (by decide), hR 29 (by decide), if_pos (nI_le (by omega) (by omega)), show (((cP C0 P).1 0).1 1).1 = nI (g 29) from hM.c.1, if_pos (nI_le (by omega) (by omega))]
    by_cases hy : y = 0
    · rw [if_pos hy, if_pos hy]
      exact ⟨_, _, _, rfl, rfl, hsim⟩
    · rw [if_neg hy, if_neg hy]
      exact ⟨_, _, _, rfl, rfl, hsim⟩
  | succ m ih =>
    intro c hc n hn P S wh mu hk hR hs
    obtain ⟨n, rfl⟩ : ∃ j, n = j + 1 := ⟨n - 1, by omega⟩
    have hb1 : Base K g (cP C0 P) S := ⟨hR, hB, hM⟩
    have hct : c < g 29 := by omega
    obtain ⟨P', a, S', p1, p2, w1, w2, w3, w4⟩ := best_v hb1 (show K ≤ 100 by omega) hct (Nat.le_refl 1)
    have hfee := (hB.c.2 c hct).2
    have hnext := fun wh mu hs => ih (c + 1) (by omega) n (by omega) P' S' wh mu (hk.trans w3) w4 hs
    have hcell : mX7_cell (nI 4) (nI 2) 8 ((C0.1 0).1 1) (nI c) (nI 1) = some (nI (g (34 + c))) := by
      rw [cell_v (by decide) (by omega), Nat.mul_comm c 2, (hM.c.2 c hct).2]
    rw [mX10_fees_L21_s, mX11_fees_L23_s, ald_v (by decide) (by decide), hR 29 (by decide), if_neg (nI_ge (by omega) (by omega)), show (((cP C0 P).1 0).1 1).1 = nI (g 29) from hM.c.1, if_neg (nI_ge (by omega) (by omega)), p1, w1, ob_v, ob_v]
    show Good (K + 1) ((mX7_cell (nI 4) (nI 2) 8 ((C0.1 0).1 1) (nI c) (nI 1)).bind fun r5 => nm (rE (bT g c 1 7 (g 0)) + r5) fun x6 => (if rE (bT g c 1 7 (g 0)) = (-1 : Int32) then nm (nI c + (nI 1)) fun x7 => mX10_fees_L21 n y wh mu x7 (cP C0 P') else (if wh = (-1 : Int32) then nm (nI c + (nI 1)) fun x8 => mX10_fees_L21 n y (nI c) x6 x8 (cP C0 P') else (if mu ≤ x6 then nm (nI c + (nI 1)) fun x9 => mX10_fees_L21 n y wh mu x9 (cP C0 P') else nm (nI c + (nI 1)) fun x10 => mX10_fees_L21 n y (nI c) x6 x10 (cP C0 P'))))) (if a = (-1 : Int32) then nm (nI c + (nI 1)) fun x5 => mX11_fees_L23 n y mu wh x5 S' else (if mu = (-1 : Int32) then nm (nI c + (nI 1)) fun x6 => mX11_fees_L23 n y a (nI c) x6 S' else (if mu ≤ a then nm (nI c + (nI 1)) fun x7 => mX11_fees_L23 n y mu wh x7 S' else nm (nI c + (nI 1)) fun x8 => mX11_fees_L23 n y a (nI c) x8 S')))
    rw [hcell, ob_v, nI_add]
    simp only [nm_v]
    cases hb : bT g c 1 7 (g 0) with
    | none =>
      rw [hb] at w2
      rw [if_pos (show rE none = -1 from rfl), if_pos (show a = -1 from w2)]
      exact hnext wh mu hs
    | some z =>
      obtain ⟨v, l⟩ := z
      obtain ⟨hv, -⟩ := bT_ok hB (show K ≤ 100 by omega) c 1 7 (g 0) v l hB.s.1 hb
      rw [hb] at w2
      obtain ⟨ha, -⟩ := w2
      rw [if_neg (show ¬ (1 : Nat) = 0 by decide)] at ha
      have hsum : rE (some (v, l)) + nI (g (34 + c)) = a := by
        rw [ha]
        show nI v + nI (g (34 + c)) = nI (g (34 + c) + v)
        rw [nI_add, Nat.add_comm v]
      rw [hsum, ha, show rE (some (v, l)) = nI v from rfl, if_neg (fun z => (nI_m1 (by omega)).mp z), if_neg (fun z => (nI_m1 (by omega)).mp z)]
      have hnew : (nI c = -1 ∧ nI (g (34 + c) + v) = -1) ∨ ∃ a b : Nat, a < 10 ∧ b < 100000 ∧ nI c = nI a ∧ nI (g (34 + c) + v) = nI b := Or.inr ⟨c, _, by omega, by omega, rfl, rfl⟩
      rcases hs with ⟨rfl, rfl⟩ | ⟨a', b', ha', hb', rfl, rfl⟩
      · rw [if_pos rfl, if_pos rfl]
        exact hnext _ _ hnew
      · rw [if_neg (fun z => (nI_m1 (by omega)).mp z), if_neg (fun z => (nI_m1 (by omega)).mp z)]
        by_cases hc2 : nI b' ≤ nI (g (34 + c) + v)
        · rw [if_pos hc2, if_pos hc2]
          exact hnext _ _ (Or.inr ⟨a', b', ha', hb', rfl, rfl⟩)
        · rw [if_neg hc2, if_neg hc2]
          exact hnext _ _ hnew
theorem g_fees {K : Nat} {C : CT} {S : MS} (h : Sim K C S) (hK : K ≤ 70) (a1 : Int32) : Good (K + 1) (mX10_fees C a1) (mX11_fees S a1) := by
  obtain ⟨g, h1, h2, h3, h4⟩ := id h
  unfold mX10_fees mX11_fees
  rcases in_c2 a1 1 (by decide) with ⟨e1, e2, -⟩ | ⟨w, hw, rfl, e1, e2⟩
  · rw [e1, e2, ob_v, ob_v, if_pos z0, if_pos z0]
    exact g_bad h
  rw [e1, e2, ob_v, ob_v, if_neg z1, if_neg z1]
  exact fees_L h1 h2 h3 h4 hK (nI w) (g 29) 0 (by omega) FU (by have := h1.2.1.1.2.1; unfold FU; omega) C.2.2.1 S (-1) (-1) (Keep.rfl' S) h1.1 (Or.inl ⟨rfl, rfl⟩)
