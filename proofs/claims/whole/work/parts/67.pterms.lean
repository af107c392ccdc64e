/-! terms: the reference tries in cells 285 to 287, the class in two numbers -/
theorem pleadAt_v {K f : Nat} {S : MS} {g : Nat → Nat} (hR : RowIs S g) (hB : BookInv K g) (hf : f < g 4) (hp : g 285 < 64) (hd : g 286 < 1000) : ∃ S', mX11_pleadAt S (nI 285) (nI f) = some S' ∧ Keep S S' ∧ RowIs S' (updN (updN (updN g 287 (g 287 + costG g f (g 286))) 285 (g 285 ||| 2 ^ f)) 286 (g 286 + 1)) := by
  have h6 := hB.1.1
  have hcost := vM_cost hR hB hf (d := g 286) hd
  unfold mX11_pleadAt
  have r1 := row_set hR 287 (g 287 + costG g f (g 286))
  have r2 := row_set r1 285 (g 285 ||| 2 ^ f)
  have r3 := row_set r2 286 (g 286 + 1)
  have a0 := r1 285 (by decide)
  rw [updN_n (by decide)] at a0
  have a1 := r2 286 (by decide)
  rw [updN_n (by decide), updN_n (by decide)] at a1
  have h2g : 2 ^ f < 256 := Nat.lt_of_lt_of_le (Nat.pow_lt_pow_right (by decide) (show f < 8 by omega)) (by decide)
  refine ⟨_, ?_, ((Keep.row S _ _).row2 _ _).row2 _ _, r3⟩
  rw [show nI 285 + nI 2 = nI 287 from rfl, show nI 285 + nI 1 = nI 286 from rfl, show nI 285 + nI 0 = nI 285 from rfl, ald_v (by decide) (by decide), hR 287 (by decide), ald_v (by decide) (by decide), hR 286 (by decide), hcost, ob_v, ast_v (by decide) (by decide), nm_v, nI_clamp (by decide), nI_add, ald_v (by decide) (by decide), a0, ast_v (by decide) (by decide), nm_v, nI_clamp (by decide), shl_v f (by omega), nI_or (by omega) (by omega), ald_v (by decide) (by decide), a1, ast_v (by decide) (by decide), nm_v, nI_clamp (by decide), nI_add]
theorem wins_285 (g : Nat → Nat) (v : Nat) {f : Nat} (hf : f < 6) : winsG (updN g 285 v) f = winsG g f := by
  unfold winsG
  rw [updN_n (by omega), updN_n (by omega), updN_n (by omega)]
theorem denyAt_v {K f : Nat} {S : MS} {g : Nat → Nat} (hR : RowIs S g) (hB : BookInv K g) (hf : f < g 4) (hp : g 285 < 64) : ∃ r S', mX11_denyAt S (nI 285) (nI f) = some (r, S') ∧ Keep S S' ∧ RowIs S' (updN g 285 (if winsG g f then andn (g 285) (2 ^ f) else g 285)) := by
  have h6 := hB.1.1
  unfold mX11_denyAt
  rw [show nI 285 + nI 0 = nI 285 from rfl, ald_v (by decide) (by decide), hR 285 (by decide), vM_wins hR hB hf, ob_v]
  cases hw : winsG g f
  · have r := row_set hR 285 (g 285)
    have hB2 : BookInv K (updN g 285 (g 285)) := hB.congr fun k hk => updN_n (by omega)
    have hw2 := vM_wins r hB2 (f := f) (by rw [updN_n (by decide)]; exact hf)
    rw [wins_285 _ _ (by omega), hw] at hw2
    rw [b_f, if_pos z0, ast_v (by decide) (by decide), nm_v, nI_clamp (by decide), and63 _ hp, hw2, b_f, ob_v, if_pos z0]
    exact ⟨_, _, rfl, Keep.row S _ _, r⟩
  · have r := row_set hR 285 (andn (g 285) (2 ^ f))
    have hB2 : BookInv K (updN g 285 (andn (g 285) (2 ^ f))) := hB.congr fun k hk => updN_n (by omega)
    have hw2 := vM_wins r hB2 (f := f) (by rw [updN_n (by decide)]; exact hf)
    rw [wins_285 _ _ (by omega), hw] at hw2
    have h2f : 2 ^ f < 256 := Nat.lt_of_lt_of_le (Nat.pow_lt_pow_right (by decide) (show f < 8 by omega)) (by decide)
    rw [b_t, if_neg z1, ast_v (by decide) (by decide), nm_v, nI_clamp (by decide), shl_v f (by omega), nI_andn (by omega) h2f, hw2, b_t, ob_v, if_neg z1]
    exact ⟨_, _, rfl, Keep.row S _ _, r⟩
theorem or_gt : ∀ p, p < 64 → ∀ f, f < 6 → p.testBit f = false → p < p ||| 2 ^ f := by decide +kernel
theorem bit_out {p n f : Nat} (hp : p < 2 ^ n) (h : n ≤ f) : p.testBit f = false := Nat.testBit_lt_two_pow (Nat.lt_of_lt_of_le hp (Nat.pow_le_pow_right (n := 2) (by decide) h))
/-- the set behind one term -/
def tmP (g : Nat → Nat) (f p d : Nat) : Nat := if p.testBit f then (if winsG g f then andn p (2 ^ f) else p) else if mayG g f p d then p ||| 2 ^ f else p
theorem vC_term {K f p d : Nat} {M : MT} {g : Nat → Nat} (hM : MRel g M) (hB : BookInv K g) (hf : f < g 4) (hp : p < 64) (hd : d < 1000) : mX3_afterTerm M (nI f) (nI p) (nI d) = some (nI (tmP g f p d)) := by
  have h6 := hB.1.1
  have h2f : 2 ^ f < 256 := Nat.lt_of_lt_of_le (Nat.pow_lt_pow_right (by decide) (show f < 8 by omega)) (by decide)
  unfold mX3_afterTerm
  rw [if_neg (nI_pos (by omega)), hM.1.1, if_pos (nI_lt hf (by omega)), holds_v p hp f (by omega), ob_v]
  unfold tmP
  cases hb : p.testBit f
  · rw [b_f, if_pos z0, vC_sup hM hB hp, ob_v, vC_allowed hM hB hf (sup_lt hB p) hd, ob_v, ifB]
    have e : mayG g f p d = allowK (g (5 + f)) (decide (g (11 + f) &&& sup g p = g (11 + f))) (decide (g (11 + f) &&& sup g p ≠ 0)) d := by
      unfold mayG
      rw [hb]
      rfl
    rw [← e, if_neg (by decide : ¬ false = true)]
    cases mayG g f p d
    · rfl
    · rw [if_pos rfl, if_pos rfl, shl_v f (by omega), nI_or (by omega) (by omega)]
  · rw [b_t, if_neg z1, vC_wins hM hB hf, ob_v, ifB, if_pos rfl]
    cases winsG g f
    · rfl
    · rw [if_pos rfl, if_pos rfl, shl_v f (by omega), nI_andn (by omega) h2f]
theorem tm_X {s : Nat} (hs : s < 2147483648) : s * 1103515245 + 12345 < 2 ^ 63 := by
  have h1 : s * 1103515245 ≤ 2147483648 * 1103515245 := Nat.mul_le_mul_right _ (Nat.le_of_lt hs)
  have h2 : 2147483648 * 1103515245 + 12345 < 2 ^ 63 := by decide
  exact Nat.lt_of_le_of_lt (Nat.add_le_add_right h1 _) h2
theorem tm_9 {s : Nat} (hs : s < 2147483648) : (lN s * lN 1103515245 + lN 12345) - (lN s * lN 1103515245 + lN 12345) / lN 2147483648 * lN 2147483648 = lN ((s * 1103515245 + 12345) % 2147483648) := by
  rw [lN_mul, lN_add, pk_lRem (tm_X hs) (by decide) (by decide)]
theorem tm_10 {s : Nat} (hs : s < 2147483648) : ((lN s / lN 65536) - (lN s / lN 65536) / lN 6 * lN 6).toInt32 = nI (s / 65536 % 6) := by
  have h1 : s < 2 ^ 63 := Nat.lt_trans hs (by decide)
  have h2 : s / 65536 < 2 ^ 63 := Nat.lt_of_le_of_lt (Nat.div_le_self _ _) h1
  rw [pk_lDiv h1 (by decide) (by decide), pk_lRem h2 (by decide) (by decide), lN_i]
theorem terms_L {K N : Nat} {C : CT} (hN : N ≤ 60) : ∀ m k, k + m = N → ∀ n, m < n → ∀ (S : MS) (g : Nat → Nat) (p d s : Nat), RowIs S g → BookInv K g → MRel g (C.1 0) → g 285 = p → p < 2 ^ g 4 → g 286 = d → d + m < 900 → s < 2147483648 → ∃ r S' g', mX11_terms_L62 n (nI N) (lN s) (nI k) S = some (r, S') ∧ mX10_terms_L49 n (nI N) (lN s) (nI p) (nI d) (nI k) C = some (r, C) ∧ Keep S S' ∧ RowIs S' g' ∧ ∀ j, j < 285 → g' j = g j := by
  intro m
  induction m with
  | zero =>
    intro k hk n hn S g p d s hR hB hM h0 hp h1 hd hs
    obtain ⟨n, rfl⟩ : ∃ j, n = j + 1 := ⟨n - 1, by omega⟩
    have h6 := hB.1.1
    have hp6 : p < 64 := Nat.lt_of_lt_of_le hp (Nat.pow_le_pow_right (n := 2) (by decide) h6)
    have hh := hearS_lt hB p
    rw [mX11_terms_L62_s, mX10_terms_L49_s, if_pos (nI_le (by omega) (by omega)), if_pos (nI_le (by omega) (by omega)), ald_v (by decide) (by decide), hR 285 (by decide), h0, vM_hearBy hR hB hp6, ob_v, bits_v _ (by omega), ob_v, vC_sup hM hB hp6, ob_v, vC_hearing hM hB, ob_v, bitc_v _ (by omega), ob_v]
    exact ⟨_, S, g, rfl, rfl, Keep.rfl' S, hR, fun _ _ => rfl⟩
  | succ m ih =>
    intro k hk n hn S g p d s hR hB hM h0 hp h1 hd hs
    obtain ⟨n, rfl⟩ : ∃ j, n = j + 1 := ⟨n - 1, by omega⟩
    have h6 := hB.1.1
    have hp6 : p < 64 := Nat.lt_of_lt_of_le hp (Nat.pow_le_pow_right (n := 2) (by decide) h6)
    have e9 := tm_9 hs
    have hs' : (s * 1103515245 + 12345) % 2147483648 < 2147483648 := Nat.mod_lt _ (by decide)
    rw [mX11_terms_L62_s, mX10_terms_L49_s, if_neg (nI_ge (by omega) (by omega)), if_neg (nI_ge (by omega) (by omega)), e9]
    generalize (s * 1103515245 + 12345) % 2147483648 = s' at hs' ⊢
    have e10 := tm_10 hs'
    rw [nm_v (lN s'), nm_v (lN s'), e10, nm_v (nI (s' / 65536 % 6)), nm_v (nI (s' / 65536 % 6))]
    have hf6 : s' / 65536 % 6 < 6 := Nat.mod_lt _ (by decide)
    generalize s' / 65536 % 6 = f at hf6 ⊢
    have hBase : Base K g C S := ⟨hR, hB, hM⟩
    by_cases hf : f < g 4
    · have e2 : mX11_isFiction S (nI f) = some (nI 1) := by
        rcases isF_c hBase (nI f) with ⟨e1, -⟩ | ⟨-, -, -, -, e2⟩
        · rw [vC_isF hBase (by omega), if_pos hf] at e1
          exact absurd e1 (by decide)
        · exact e2
      rw [e2, ob_v, if_neg z1, ald_v (by decide) (by decide), hR 285 (by decide), ald_v (by decide) (by decide), hR 286 (by decide), h0, h1, vM_may hR hB hf hp6 (by omega), ob_v, vC_term hM hB hf hp6 (by omega), ob_v, ifB]
      cases hm : mayG g f p d
      · rw [if_neg (by decide), ald_v (by decide) (by decide), hR 285 (by decide), h0, has_v p hp6 f hf6, ob_v, ifB]
        cases hb : p.testBit f
        · have et : tmP g f p d = p := by
            unfold tmP
            rw [hb, hm]
            rfl
          rw [if_neg (by decide), et, if_pos (nI_le (Nat.le_refl p) (by omega)), nm_v, nm_v, nI_add]
          exact ih (k + 1) (by omega) n (by omega) S g p d s' hR hB hM h0 hp h1 (by omega) hs'
        · obtain ⟨r, S1, q1, q2, q3⟩ := denyAt_v hR hB hf (by rw [h0]; exact hp6)
          have et : tmP g f p d = if winsG g f then andn p (2 ^ f) else p := by
            unfold tmP
            rw [hb, if_pos rfl]
          have hle : tmP g f p d ≤ p := by
            rw [et]
            split
            · exact Nat.and_le_left
            · exact Nat.le_refl p
          rw [h0, ← et] at q3
          rw [if_pos rfl, q1, ob_v, if_pos (nI_le hle (by omega)), nm_v, nI_add]
          have eg : ∀ j, j < 285 → updN g 285 (tmP g f p d) j = g j := fun j hj => updN_n (by omega)
          obtain ⟨r', S', g', w1, w2, w3, w4, w5⟩ := ih (k + 1) (by omega) n (by omega) S1 _ (tmP g f p d) d s' q3 (hB.congr fun j hj => eg j (by omega)) (MRel.congr hB hM fun j hj => eg j (by omega)) (updN_s _ _ _) (by rw [eg 4 (by decide)]; omega) (by rw [updN_n (by decide)]; exact h1) (by omega) hs'
          exact ⟨r', S', g', w1, w2, q2.trans w3, w4, fun j hj => (w5 j hj).trans (eg j hj)⟩
      · have hb : p.testBit f = false := by
          unfold mayG at hm
          cases hq : p.testBit f
          · rfl
          · rw [hq] at hm
            exact absurd hm (by simp)
        have et : tmP g f p d = p ||| 2 ^ f := by
          unfold tmP
          rw [hb, hm]
          rfl
        obtain ⟨S1, q1, q2, q3⟩ := pleadAt_v hR hB hf (by rw [h0]; exact hp6) (by rw [h1]; omega)
        have h2f : 2 ^ f < 2 ^ g 4 := Nat.pow_lt_pow_right (by decide) hf
        have hor := Nat.or_lt_two_pow hp h2f
        have hor6 : p ||| 2 ^ f < 64 := Nat.lt_of_lt_of_le hor (Nat.pow_le_pow_right (n := 2) (by decide) h6)
        rw [if_pos rfl, q1, ob_v, et, if_neg (nI_ge (or_gt p hp6 f hf6 hb) (by omega)), nm_v, nm_v, nm_v, nI_add, nI_add]
        rw [h0, h1] at q3
        obtain ⟨G, hG⟩ : ∃ G, G = updN (updN (updN g 287 (g 287 + costG g f d)) 285 (p ||| 2 ^ f)) 286 (d + 1) := ⟨_, rfl⟩
        rw [← hG] at q3
        have eg : ∀ j, j < 285 → G j = g j := fun j hj => by rw [hG, updN_n (by omega), updN_n (by omega), updN_n (by omega)]
        have g5 : G 285 = p ||| 2 ^ f := by rw [hG, updN_n (by decide), updN_s]
        have g6 : G 286 = d + 1 := by rw [hG, updN_s]
        obtain ⟨r', S', g', w1, w2, w3, w4, w5⟩ := ih (k + 1) (by omega) n (by omega) S1 G (p ||| 2 ^ f) (d + 1) s' q3 (hB.congr fun j hj => eg j (by omega)) (MRel.congr hB hM fun j hj => eg j (by omega)) g5 (by rw [eg 4 (by decide)]; exact hor) g6 (by omega) hs'
        exact ⟨r', S', g', w1, w2, q2.trans w3, w4, fun j hj => (w5 j hj).trans (eg j hj)⟩
    · have e2 : mX11_isFiction S (nI f) = some (nI 0) := by
        rcases isF_c hBase (nI f) with ⟨-, e2⟩ | ⟨f', hf', ef, e1, e2⟩
        · exact e2
        · rw [vC_isF hBase (by omega), if_neg hf] at e1
          exact absurd e1 (by decide)
      have hb : p.testBit f = false := bit_out hp (by omega)
      have e3 : mX3_afterTerm (C.1 0) (nI f) (nI p) (nI d) = some (nI p) := by
        unfold mX3_afterTerm
        rw [if_neg (nI_pos (by omega)), hM.1.1, if_neg (nI_nlt (by omega) (by omega))]
      rw [e2, ob_v, if_pos z0, ald_v (by decide) (by decide), hR 285 (by decide), h0, has_v p hp6 f hf6, hb, b_f, ob_v, if_pos z0, e3, ob_v, if_pos (nI_le (Nat.le_refl p) (by omega)), nm_v, nm_v, nI_add]
      exact ih (k + 1) (by omega) n (by omega) S g p d s' hR hB hM h0 hp h1 (by omega) hs'
theorem g_terms {K : Nat} {C : CT} {S : MS} (h : Sim K C S) (hK : K ≤ 70) (a1 a2 : Int32) : Good (K + 1) (mX10_terms C a1 a2) (mX11_terms S a1 a2) := by
  obtain ⟨g, ⟨hR, hB, hM⟩, h2, h3, h4⟩ := id h
  unfold mX10_terms mX11_terms
  rcases in_c2 a1 999999 (by decide) with ⟨e1, e2, -⟩ | ⟨s, hs, rfl, e1, e2⟩
  · rw [e1, e2, ob_v, ob_v, if_pos z0, if_pos z0]
    exact g_bad h
  rw [e1, e2, ob_v, ob_v, if_neg z1, if_neg z1]
  rcases in_c2 a2 60 (by decide) with ⟨e1, e2, -⟩ | ⟨N, hN, rfl, e1, e2⟩
  · rw [e1, e2, ob_v, ob_v, if_pos z0, if_pos z0]
    exact g_bad h
  rw [e1, e2, ob_v, ob_v, if_neg z1, if_neg z1, nm_v, hM.i.2.1, hM.i.2.2.1, nI_l (by omega)]
  have r1 := row_set hR 285 (g 0)
  have r2 := row_set r1 286 (g 1)
  have r3 := row_set r2 287 (g 2)
  have b1 := r1 1 (by decide)
  rw [updN_n (by decide)] at b1
  have b2 := r2 2 (by decide)
  rw [updN_n (by decide), updN_n (by decide)] at b2
  obtain ⟨G, hG⟩ : ∃ G, G = updN (updN (updN g 285 (g 0)) 286 (g 1)) 287 (g 2) := ⟨_, rfl⟩
  rw [← hG] at r3
  have eg : ∀ j, j < 285 → G j = g j := fun j hj => by rw [hG, updN_n (by omega), updN_n (by omega), updN_n (by omega)]
  have g5 : G 285 = g 0 := by rw [hG, updN_n (by decide), updN_n (by decide), updN_s]
  have g6 : G 286 = g 1 := by rw [hG, updN_n (by decide), updN_s]
  have d1 := hB.s.2.1
  obtain ⟨r, S', g', w1, w2, w3, w4, w5⟩ := terms_L (C := C) hN N 0 (by omega) FU (by unfold FU; omega) _ G (g 0) (g 1) s r3 (hB.congr fun j hj => eg j (by omega)) (MRel.congr hB hM fun j hj => eg j (by omega)) g5 (by rw [eg 4 (by decide)]; exact hB.s.1) g6 (by omega) (by omega)
  have e : mX11_terms_L29 FU (nI s) (nI N) (nI 0) S = some (r, S') := by
    rw [show FU = 999996 + 1 + 1 + 1 + 1 from rfl, mX11_terms_L29_s, if_neg (by decide), ald_v (by decide) (by decide), hR 0 (by decide), nI_add, ast_v (by decide) (by decide), nm_v, nm_v, nI_clamp (by decide), nI_add, mX11_terms_L29_s, if_neg (by decide), ald_v (by decide) (by decide), b1, nI_add, ast_v (by decide) (by decide), nm_v, nm_v, nI_clamp (by decide), nI_add, mX11_terms_L29_s, if_neg (by decide), ald_v (by decide) (by decide), b2, nI_add, ast_v (by decide) (by decide), nm_v, nm_v, nI_clamp (by decide), nI_add, mX11_terms_L29_s, if_pos (by decide), nm_v, nI_l (by omega)]
    exact w1
  refine ⟨r, C, S', w2, e, ?_⟩
  have ee : ∀ j, j < 285 → g' j = g j := fun j hj => (w5 j hj).trans (eg j hj)
  have hs := Sim.row (C := C) (M' := C.1 0) h2 h3 h4 (Nat.le_succ K) ((((Keep.row S _ _).row2 _ _).row2 _ _).trans w3) w4 (fun k _ hk => ee k hk) ((hB.congr fun j hj => ee j (by omega)).mono (Nat.le_succ K)) (MRel.congr hB hM fun j hj => ee j (by omega))
  have ec : cM C 0 (C.1 0) = C := by
    refine Prod.ext (funext fun j => ?_) rfl
    show (if j = 0 then C.1 0 else C.1 j) = C.1 j
    split
    · rename_i q; rw [q]
    · rfl
  rw [ec] at hs
  exact hs
