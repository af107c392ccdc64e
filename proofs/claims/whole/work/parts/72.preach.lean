/-! ever: the class's sets of sets -/
theorem sh1_v : ∀ k, k < 64 → (lN 1 <<< ((nI k).toInt64 &&& 63)).toBitVec = BitVec.twoPow 64 k := by decide +kernel
theorem sm_v : ∀ k, k < 64 → ((nI k).toInt64 &&& 63).toBitVec.smod 64 = BitVec.ofNat 64 k := by decide +kernel
theorem bt64 (y : Int64) {k : Nat} (hk : k < 64) : ((y >>> ((nI k).toInt64 &&& 63)) &&& lN 1 = lN 1) ↔ y.toBitVec.getLsbD k = true := by
  have e : ((y >>> ((nI k).toInt64 &&& 63)) &&& lN 1).toBitVec = BitVec.setWidth 64 (BitVec.ofBool (y.toBitVec.getLsbD k)) := by
    rw [Int64.toBitVec_and, Int64.toBitVec_shiftRight, sm_v k hk, show (lN 1).toBitVec = 1#64 from rfl, BitVec.and_one_eq_setWidth_ofBool_getLsbD]
    congr 2
    unfold BitVec.sshiftRight'
    rw [BitVec.getLsbD_sshiftRight]
    have : (BitVec.ofNat 64 k).toNat = k := by
      rw [BitVec.toNat_ofNat]
      exact Nat.mod_eq_of_lt (by omega)
    rw [this]
    simp [hk]
  rw [← Int64.toBitVec_inj, e]
  cases y.toBitVec.getLsbD k <;> decide
theorem fold_tb (c : Nat → Bool) (e : Nat → Nat) (b : Nat) : ∀ (L : List Nat) (y : Nat), (L.foldl (fun x f => if c f then x ||| e f else x) y).testBit b = true ↔ y.testBit b = true ∨ ∃ f, f ∈ L ∧ c f = true ∧ (e f).testBit b = true := by
  intro L
  induction L with
  | nil => intro y; simp
  | cons f L ih =>
    intro y
    rw [List.foldl_cons, ih]
    cases hc : c f
    · simp [hc]
    · simp [hc, Nat.testBit_or, or_assoc]
/-- all FACTS behind a set -/
def evP (g : Nat → Nat) (q : Nat) : Nat := evT g (7 - (pop q - pop (g 0))) q
theorem evP_tb {K : Nat} {g : Nat → Nat} (hB : BookInv K g) {q : Nat} (hq : q < 2 ^ g 4) (hp : pop (g 0) ≤ pop q) (b : Nat) : (evP g q).testBit b = true ↔ (sup g q).testBit b = true ∨ ∃ f, f < g 4 ∧ mayG g f q (dA g q) = true ∧ (evP g (q ||| 2 ^ f)).testBit b = true := by
  have h6 := hB.1.1
  have q6 := pop_64 _ (p_64 hB hq)
  obtain ⟨r, hr⟩ : ∃ r, 7 - (pop q - pop (g 0)) = r + 1 := ⟨6 - (pop q - pop (g 0)), by omega⟩
  unfold evP
  rw [hr, show evT g (r + 1) q = (List.range' 0 (g 4)).foldl (fun x f => if mayG g f q (dA g q) then x ||| evT g r (q ||| 2 ^ f) else x) (sup g q) from rfl, fold_tb]
  constructor
  · rintro (h | ⟨f, h1, h2, h3⟩)
    · exact Or.inl h
    · refine Or.inr ⟨f, rng_lt h1, h2, ?_⟩
      rw [pop_or _ (p_64 hB hq) f (by have := rng_lt h1; omega) (may_b h2), show 7 - (pop q + 1 - pop (g 0)) = r by omega]
      exact h3
  · rintro (h | ⟨f, h1, h2, h3⟩)
    · exact Or.inl h
    · refine Or.inr ⟨f, List.mem_range'_1.mpr ⟨Nat.zero_le f, by omega⟩, h2, ?_⟩
      rw [pop_or _ (p_64 hB hq) f (by omega) (may_b h2), show 7 - (pop q + 1 - pop (g 0)) = r by omega] at h3
      exact h3
theorem may_al {g : Nat → Nat} {f p d : Nat} (h : p.testBit f = false) : mayG g f p d = allowK (g (5 + f)) (decide (g (11 + f) &&& sup g p = g (11 + f))) (decide (g (11 + f) &&& sup g p ≠ 0)) d := by
  unfold mayG
  rw [h]
  rfl
theorem stepAt_v {K q : Nat} {g : Nat → Nat} {M : MT} (hM : MRel g M) (hB : BookInv K g) (hq : q < 64) (hp : pop (g 0) ≤ pop q) : mX4_stepAt M (nI q) = some (nI (dA g q)) := by
  unfold mX4_stepAt
  rw [bitc_v q (by omega), ob_v, hM.i.2.1, bitc_v (g 0) (by have := hB.p64; omega), ob_v, hM.i.2.2.1, nI_add, pk_sub (by omega)]
  unfold dA
  congr 2
  omega
theorem allF_v {K : Nat} {g : Nat → Nat} {M : MT} (hM : MRel g M) (hB : BookInv K g) : mX4_allFictions M = some (nI (2 ^ g 4 - 1)) := by
  have h6 := hB.1.1
  unfold mX4_allFictions
  rw [hM.1.1, shl_v _ (by omega), pk_sub (Nat.pow_pos (by decide))]
theorem dA_lt {K q : Nat} {g : Nat → Nat} (hB : BookInv K g) (hK : K ≤ 100) (hq : q < 64) : dA g q < 1000 := by
  have := hB.s.2.1
  have := pop_64 q hq
  unfold dA
  omega
theorem behind_L {K q : Nat} {g : Nat → Nat} {M : MT} (P : PA) (hM : MRel g M) (hB : BookInv K g) (hK : K ≤ 100) (hq : q < 64) : ∀ m f, f + m = g 4 → ∀ n, m < n → ∀ y : Int64, ∃ y', mX4_setsBehind_L13 M P n (nI q) (nI (sup g q)) (nI (dA g q)) y (nI f) = some y' ∧ ∀ b, y'.toBitVec.getLsbD b = true ↔ y.toBitVec.getLsbD b = true ∨ ∃ f', f ≤ f' ∧ f' < g 4 ∧ mayG g f' q (dA g q) = true ∧ q ||| 2 ^ f' = b := by
  have h6 := hB.1.1
  intro m
  induction m with
  | zero =>
    intro f hf n hn y
    obtain ⟨n, rfl⟩ : ∃ j, n = j + 1 := ⟨n - 1, by omega⟩
    rw [mX4_setsBehind_L13_s, hM.1.1, if_pos (nI_le (by omega) (by omega))]
    refine ⟨y, rfl, fun b => ⟨Or.inl, ?_⟩⟩
    rintro (h | ⟨f', h1, h2, -⟩)
    · exact h
    · omega
  | succ m ih =>
    intro f hf n hn y
    obtain ⟨n, rfl⟩ : ∃ j, n = j + 1 := ⟨n - 1, by omega⟩
    rw [mX4_setsBehind_L13_s, hM.1.1, if_neg (nI_ge (by omega) (by omega)), holds_v q hq f (by omega), ob_v, ifB, vC_allowed hM hB (by omega) (sup_lt hB q) (dA_lt hB hK hq), ob_v, ifB]
    have skip : mayG g f q (dA g q) = false → ∃ y', mX4_setsBehind_L13 M P n (nI q) (nI (sup g q)) (nI (dA g q)) y (nI (f + 1)) = some y' ∧ ∀ b, y'.toBitVec.getLsbD b = true ↔ y.toBitVec.getLsbD b = true ∨ ∃ f', f ≤ f' ∧ f' < g 4 ∧ mayG g f' q (dA g q) = true ∧ q ||| 2 ^ f' = b := by
      intro hm
      obtain ⟨y', w1, w2⟩ := ih (f + 1) (by omega) n (by omega) y
      refine ⟨y', w1, fun b => (w2 b).trans ⟨?_, ?_⟩⟩
      · rintro (h | ⟨f', h1, h2⟩)
        · exact Or.inl h
        · exact Or.inr ⟨f', by omega, h2⟩
      · rintro (h | ⟨f', h1, h2, h3, h4⟩)
        · exact Or.inl h
        · refine Or.inr ⟨f', ?_, h2, h3, h4⟩
          by_cases e : f' = f
          · rw [e, hm] at h3
            exact absurd h3 (by decide)
          · omega
    cases hb : q.testBit f
    · rw [if_neg (by decide), ← may_al hb]
      cases hm : mayG g f q (dA g q)
      · rw [if_neg (by decide), nm_v, nI_add]
        exact skip hm
      · have hor6 : q ||| 2 ^ f < 64 := Nat.or_lt_two_pow (n := 6) hq (Nat.pow_lt_pow_right (by decide) (by omega))
        rw [if_pos rfl, or_bit (by omega) (by omega), nm_v, nm_v, nI_add]
        obtain ⟨y', w1, w2⟩ := ih (f + 1) (by omega) n (by omega) (y ||| lN 1 <<< ((nI (q ||| 2 ^ f)).toInt64 &&& 63))
        refine ⟨y', w1, fun b => (w2 b).trans ?_⟩
        rw [Int64.toBitVec_or, BitVec.getLsbD_or, sh1_v _ hor6, BitVec.getLsbD_twoPow]
        simp only [Bool.or_eq_true, Bool.and_eq_true, decide_eq_true_eq]
        constructor
        · rintro ((h | ⟨h, h'⟩) | ⟨f', h1, h2⟩)
          · exact Or.inl h
          · exact Or.inr ⟨f, Nat.le_refl f, by omega, hm, by omega⟩
          · exact Or.inr ⟨f', by omega, h2⟩
        · rintro (h | ⟨f', h1, h2, h3, h4⟩)
          · exact Or.inl (Or.inl h)
          · by_cases e : f' = f
            · subst e
              exact Or.inl (Or.inr ⟨by omega, by omega⟩)
            · exact Or.inr ⟨f', by omega, h2, h3, h4⟩
    · rw [if_pos rfl, nm_v, nI_add]
      refine skip ?_
      cases hm : mayG g f q (dA g q)
      · rfl
      · rw [may_b hm] at hb
        exact absurd hb (by decide)
theorem reach_L {K : Nat} {g : Nat → Nat} {M : MT} (P : PA) (hM : MRel g M) (hB : BookInv K g) (hK : K ≤ 100) (T : Nat) : ∀ m s, s + m = 2 ^ g 4 → ∀ n, m < n → ∀ (y : Int64) (x : Nat), x < 256 → (∀ q, y.toBitVec.getLsbD q = true → q < 2 ^ g 4 ∧ pop (g 0) ≤ pop q) → (∀ b, T.testBit b = true ↔ x.testBit b = true ∨ ∃ q, s ≤ q ∧ y.toBitVec.getLsbD q = true ∧ (evP g q).testBit b = true) → mX4_reachable_L15 M P n y (nI x) (nI s) = some (nI T) := by
  have h6 := hB.1.1
  have h64 : 2 ^ g 4 ≤ 64 := Nat.pow_le_pow_right (n := 2) (by decide) h6
  have hpos : 0 < 2 ^ g 4 := Nat.pow_pos (by decide)
  intro m
  induction m with
  | zero =>
    intro s hs n hn y x hx hy hT
    obtain ⟨n, rfl⟩ : ∃ j, n = j + 1 := ⟨n - 1, by omega⟩
    rw [mX4_reachable_L15_s, allF_v hM hB, ob_v, if_pos (nI_lt (by omega) (by omega))]
    congr 2
    apply Nat.eq_of_testBit_eq
    intro b
    have := hT b
    cases h1 : x.testBit b <;> cases h2 : T.testBit b
    · rfl
    · rw [h1, h2] at this
      rcases this.mp rfl with q | ⟨q, q1, q2, -⟩
      · exact absurd q (by decide)
      · have := (hy q q2).1
        omega
    · rw [h1, h2] at this
      exact absurd (this.mpr (Or.inl rfl)) (by decide)
    · rfl
  | succ m ih =>
    intro s hs n hn y x hx hy hT
    obtain ⟨n, rfl⟩ : ∃ j, n = j + 1 := ⟨n - 1, by omega⟩
    rw [mX4_reachable_L15_s, allF_v hM hB, ob_v, if_neg (nI_nlt (by omega) (by omega))]
    by_cases hb : y.toBitVec.getLsbD s = true
    · obtain ⟨hs1, hs2⟩ := hy s hb
      have hss := sup_lt hB s
      obtain ⟨y', w1, w2⟩ := behind_L P hM hB hK (show s < 64 by omega) (g 4) 0 (by omega) FU (by unfold FU; omega) (lN 0)
      have e : mX4_setsBehind M P (nI s) (nI (sup g s)) = some y' := by
        unfold mX4_setsBehind
        rw [stepAt_v hM hB (by omega) hs2, ob_v, w1]
      have hz : ∀ b, ¬ (lN 0).toBitVec.getLsbD b = true := by
        intro b
        rw [show (lN 0).toBitVec = 0#64 from rfl, BitVec.getLsbD_zero]
        decide
      rw [if_pos ((bt64 y (by omega)).mpr hb), vC_sup hM hB (by omega), ob_v, nm_v, e, ob_v, nm_v, nm_v, nI_add, nI_or (by omega) (by omega)]
      refine ih (s + 1) (by omega) n (by omega) _ _ (Nat.or_lt_two_pow (n := 8) hx hss) (fun q hq => ?_) (fun b => ?_)
      · rw [Int64.toBitVec_or, BitVec.getLsbD_or, Bool.or_eq_true] at hq
        rcases hq with hq | hq
        · exact hy q hq
        · rcases (w2 q).mp hq with hq | ⟨f, -, f2, f3, rfl⟩
          · exact absurd hq (hz q)
          · refine ⟨Nat.or_lt_two_pow hs1 (Nat.pow_lt_pow_right (by decide) f2), ?_⟩
            rw [pop_or s (by omega) f (by omega) (may_b f3)]
            omega
      · rw [hT b, Nat.testBit_or, Bool.or_eq_true]
        constructor
        · rintro (h | ⟨q, q1, q2, q3⟩)
          · exact Or.inl (Or.inl h)
          · by_cases eq : q = s
            · subst eq
              rcases (evP_tb hB hs1 hs2 b).mp q3 with h | ⟨f, f1, f2, f3⟩
              · exact Or.inl (Or.inr h)
              · refine Or.inr ⟨q ||| 2 ^ f, or_gt q (by omega) f (by omega) (may_b f2), ?_, f3⟩
                rw [Int64.toBitVec_or, BitVec.getLsbD_or, Bool.or_eq_true]
                exact Or.inr ((w2 _).mpr (Or.inr ⟨f, Nat.zero_le f, f1, f2, rfl⟩))
            · refine Or.inr ⟨q, by omega, ?_, q3⟩
              rw [Int64.toBitVec_or, BitVec.getLsbD_or, Bool.or_eq_true]
              exact Or.inl q2
        · rintro ((h | h) | ⟨q, q1, q2, q3⟩)
          · exact Or.inl h
          · exact Or.inr ⟨s, Nat.le_refl s, hb, (evP_tb hB hs1 hs2 b).mpr (Or.inl h)⟩
          · rw [Int64.toBitVec_or, BitVec.getLsbD_or, Bool.or_eq_true] at q2
            rcases q2 with q2 | q2
            · exact Or.inr ⟨q, by omega, q2, q3⟩
            · rcases (w2 q).mp q2 with hq | ⟨f, -, f2, f3, rfl⟩
              · exact absurd hq (hz q)
              · exact Or.inr ⟨s, Nat.le_refl s, hb, (evP_tb hB hs1 hs2 b).mpr (Or.inr ⟨f, f2, f3, q3⟩)⟩
    · rw [if_neg (fun q => hb ((bt64 y (by omega)).mp q)), nm_v, nI_add]
      refine ih (s + 1) (by omega) n (by omega) y x hx hy (fun b => (hT b).trans ⟨?_, ?_⟩)
      · rintro (h | ⟨q, q1, q2, q3⟩)
        · exact Or.inl h
        · refine Or.inr ⟨q, ?_, q2, q3⟩
          by_cases eq : q = s
          · rw [eq] at q2
            exact absurd q2 hb
          · omega
      · rintro (h | ⟨q, q1, q2⟩)
        · exact Or.inl h
        · exact Or.inr ⟨q, by omega, q2⟩
theorem vC_ever {K : Nat} {g : Nat → Nat} {C : CT} {S : MS} (h1 : Base K g C S) (hK : K ≤ 100) : mX10_ever C = some (nI (evT g 7 (g 0))) := by
  obtain ⟨-, hB, hM⟩ := h1
  have hp := hB.s.1
  have hp6 := hB.p64
  have e : mX4_reachable (C.1 0) C.2.2.1 = some (nI (evT g 7 (g 0))) := by
    unfold mX4_reachable
    rw [nm_v, hM.i.2.1]
    have hbit : ∀ q, (lN 1 <<< ((nI (g 0)).toInt64 &&& 63)).toBitVec.getLsbD q = true ↔ q = g 0 := by
      intro q
      rw [sh1_v _ hp6, BitVec.getLsbD_twoPow]
      simp only [Bool.and_eq_true, decide_eq_true_eq]
      omega
    refine reach_L _ hM hB hK _ (2 ^ g 4 - g 0) (g 0) (by omega) FU ?_ _ 0 (by decide) (fun q hq => ?_) (fun b => ?_)
    · have : 2 ^ g 4 ≤ 64 := Nat.pow_le_pow_right (n := 2) (by decide) hB.1.1
      unfold FU
      omega
    · rw [(hbit q).mp hq]
      exact ⟨hp, Nat.le_refl _⟩
    · have ee : evP g (g 0) = evT g 7 (g 0) := by
        unfold evP
        rw [Nat.sub_self]
      rw [Nat.zero_testBit]
      constructor
      · intro h
        exact Or.inr ⟨g 0, Nat.le_refl _, (hbit _).mpr rfl, by rw [ee]; exact h⟩
      · rintro (h | ⟨q, -, q2, q3⟩)
        · exact absurd h (by decide)
        · rw [(hbit q).mp q2, ee] at q3
          exact q3
  unfold mX10_ever
  rw [e, ob_v]
/-- nothing but what the walk itself writes has changed -/
theorem Sim.walk {K : Nat} {g : Nat → Nat} {C : CT} {S S' : MS} (h1 : Base K g C S) (h2 : ImgRel K g C S) (h3 : RestRel C S) (h4 : TextRel C S) (hk : Keep S S') (hR : RowIs S' g) : Sim (K + 1) C S' := by
  have hs := Sim.row (C := C) (M' := C.1 0) h2 h3 h4 (Nat.le_succ K) hk hR (fun _ _ _ => rfl) (h1.2.1.mono (Nat.le_succ K)) h1.2.2
  have ec : cM C 0 (C.1 0) = C := by
    refine Prod.ext (funext fun j => ?_) rfl
    show (if j = 0 then C.1 0 else C.1 j) = C.1 j
    split
    · rename_i q; rw [q]
    · rfl
  rw [ec] at hs
  exact hs
theorem g_ever {K : Nat} {C : CT} {S : MS} (h : Sim K C S) (hK : K ≤ 70) : ∃ r S', mX10_ever C = some r ∧ mX11_ever S = some (r, S') ∧ Sim (K + 1) C S' := by
  obtain ⟨g, h1, h2, h3, h4⟩ := h
  obtain ⟨S', w1, w2, w3⟩ := vM_ever h1.1 h1.2.1 (by omega)
  rw [ev_fold h1.2.1 7 [] (g 0) 0 0 h1.2.1.s.1 rfl, Nat.zero_or] at w1
  exact ⟨_, S', vC_ever h1 (by omega), w1, Sim.walk h1 h2 h3 h4 w2 w3⟩
