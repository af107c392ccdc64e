/-! read: the BOOK that was told takes its place, on both sides -/
/-- only the row has changed -/
def OR (S S' : MS) : Prop := (∀ j, j ≠ 0 → S'.1 j = S.1 j) ∧ S'.2 = S.2
theorem OR.r (S : MS) : OR S S := ⟨fun _ _ => rfl, rfl⟩
theorem OR.t {S T U : MS} (h1 : OR S T) (h2 : OR T U) : OR S U := ⟨fun j hj => (h2.1 j hj).trans (h1.1 j hj), h2.2.trans h1.2⟩
theorem OR.m (S : MS) (i : Nat) (x : Int32) : OR S (mA S 0 i x) := ⟨fun _ hj => mA_n S i x hj, rfl⟩
theorem lay_w (a : Nat) : ∀ n k (S : MS) (g : Nat → Nat), RowIs S g → k ≤ 95 → 95 - k < n → ∃ S', mX11_layBook_L2 n (nI a) (nI k) S = some S' ∧ OR S S' ∧ RowIs S' (fun j => if j = 3 then a else if k ≤ j ∧ j < 95 then 0 else g j) := by
  intro n
  induction n with
  | zero => intro k S g _ _ h; omega
  | succ n ih =>
    intro k S g hR hk hn
    rw [mX11_layBook_L2_s, ifN_le (by decide) (by omega)]
    by_cases hc : 95 ≤ k
    · rw [if_pos hc, ast_v (by decide) (by decide), nm_v, nI_clamp (by decide)]
      refine ⟨_, rfl, OR.m _ _ _, (row_set hR 3 a).cg fun j _ => ?_⟩
      unfold updN
      split
      · rfl
      · rw [if_neg (by omega)]
    · rw [if_neg hc, ast_v (by omega) (by decide), nm_v, nm_v, nI_add, nI_clamp (by omega)]
      obtain ⟨S', q1, q2, q3⟩ := ih (k + 1) _ _ (row_set hR k 0) (by omega) (by omega)
      refine ⟨S', q1, (OR.m S k (nI 0)).t q2, q3.cg fun j _ => ?_⟩
      by_cases h3 : j = 3
      · rw [if_pos h3, if_pos h3]
      · rw [if_neg h3, if_neg h3]
        by_cases hj : j = k
        · rw [if_pos (by omega), if_neg (by omega), hj, updN_s]
        · rw [updN_n hj]
          by_cases hj2 : k ≤ j ∧ j < 95
          · rw [if_pos hj2, if_pos (by omega)]
          · rw [if_neg hj2, if_neg (by omega)]
def addFg (g : Nat → Nat) (k a b c d : Nat) : Nat → Nat := updN (updN (updN (updN (updN (updN g (5 + k) a) (11 + k) b) (17 + k) c) (23 + k) d) 4 (k + 1)) 70 0
theorem addF_v {S : MS} {g : Nat → Nat} {k a b c d : Nat} (hR : RowIs S g) (h4 : g 4 = k) (hk : k < 6) : ∃ S', mX11_addFiction S (nI a) (nI b) (nI c) (nI d) = some S' ∧ OR S S' ∧ RowIs S' (addFg g k a b c d) := by
  have r1 := row_set hR (5 + k) a
  have r2 := row_set r1 (11 + k) b
  have r3 := row_set r2 (17 + k) c
  have r4 := row_set r3 (23 + k) d
  have r5 := row_set r4 4 (k + 1)
  have r6 := row_set r5 70 0
  have a4 := r4 4 (by decide)
  rw [updN_n (by omega), updN_n (by omega), updN_n (by omega), updN_n (by omega), h4] at a4
  unfold mX11_addFiction
  refine ⟨_, ?_, (((((OR.m S _ _).t (OR.m _ _ _)).t (OR.m _ _ _)).t (OR.m _ _ _)).t (OR.m _ _ _)).t (OR.m _ _ _), r6⟩
  rw [ald_v (by decide) (by decide), hR 4 (by decide), h4, nI_add, ast_v (by omega) (by decide), nm_v, nI_clamp (by omega), nI_add, ast_v (by omega) (by decide), nm_v, nI_clamp (by omega), nI_add, ast_v (by omega) (by decide), nm_v, nI_clamp (by omega), nI_add, ast_v (by omega) (by decide), nm_v, nI_clamp (by omega), ald_v (by decide) (by decide), a4, ast_v (by decide) (by decide), nm_v, nI_add, nI_clamp (by decide), ast_v (by decide) (by decide), nm_v, nI_clamp (by decide)]
def addCg (g : Nat → Nat) (k a b : Nat) : Nat → Nat := updN (updN (updN (updN g (30 + k) a) (34 + k) b) 29 (k + 1)) 70 0
theorem addC_v {S : MS} {g : Nat → Nat} {k a b : Nat} (hR : RowIs S g) (h4 : g 29 = k) (hk : k < 4) : ∃ S', mX11_addCourt S (nI a) (nI b) = some S' ∧ OR S S' ∧ RowIs S' (addCg g k a b) := by
  have r1 := row_set hR (30 + k) a
  have r2 := row_set r1 (34 + k) b
  have r3 := row_set r2 29 (k + 1)
  have r4 := row_set r3 70 0
  have a1 := r1 29 (by decide)
  rw [updN_n (by omega), h4] at a1
  have a2 := r2 29 (by decide)
  rw [updN_n (by omega), updN_n (by omega), h4] at a2
  unfold mX11_addCourt
  refine ⟨_, ?_, (((OR.m S _ _).t (OR.m _ _ _)).t (OR.m _ _ _)).t (OR.m _ _ _), r4⟩
  rw [ald_v (by decide) (by decide), hR 29 (by decide), h4, nI_add, ast_v (by omega) (by decide), nm_v, nI_clamp (by omega), ald_v (by decide) (by decide), a1, nI_add, ast_v (by omega) (by decide), nm_v, nI_clamp (by omega), ald_v (by decide) (by decide), a2, ast_v (by decide) (by decide), nm_v, nI_add, nI_clamp (by decide), ast_v (by decide) (by decide), nm_v, nI_clamp (by decide)]
def FgF (u v : Nat → Int32) (g : Nat → Nat) (k : Nat) : Prop := ∀ f, f < k → (u (4 * f) = nI (g (5 + f)) ∧ u (4 * f + 1) = nI (g (11 + f)) ∧ u (4 * f + 2) = nI (g (17 + f)) ∧ u (4 * f + 3) = nI (g (23 + f))) ∧ (v (4 * f) = nI (g (5 + f)) ∧ v (4 * f + 1) = nI (g (11 + f)) ∧ v (4 * f + 2) = nI (g (17 + f)) ∧ v (4 * f + 3) = nI (g (23 + f))) ∧ (g (5 + f) < 6 ∧ g (11 + f) < 256 ∧ g (17 + f) < 8 ∧ g (23 + f) ≤ 20)
def FgC (u v : Nat → Int32) (g : Nat → Nat) (k : Nat) : Prop := ∀ f, f < k → (u (2 * f) = nI (g (30 + f)) ∧ u (2 * f + 1) = nI (g (34 + f))) ∧ (v (2 * f) = nI (g (30 + f)) ∧ v (2 * f + 1) = nI (g (34 + f))) ∧ (g (30 + f) < 256 ∧ g (34 + f) ≤ 20)
theorem L28_v {nf : Nat} {u v : Nat → Int32} (hnf : nf ≤ 6) (hD : RdF u v nf) (y : Int32) : ∀ m k, k + m = nf → ∀ n, m < n → ∀ (S : MS) (g : Nat → Nat), RowIs S g → S.2.1 12 = nI nf → S.1 11 = u → g 4 = k → g 70 = 0 → FgF u v g k → ∃ S' g', mX11_read_L28 n y (nI k) S = mX11_read_L86 FU y (nI 0) S' ∧ OR S S' ∧ RowIs S' g' ∧ g' 4 = nf ∧ g' 70 = 0 ∧ FgF u v g' nf ∧ ∀ j, j < 4 ∨ 29 ≤ j → j ≠ 70 → g' j = g j := by
  intro m
  induction m with
  | zero =>
    intro k hk n hn S g hR h12 h11 h4 h70 hF
    obtain ⟨n, rfl⟩ : ∃ j, n = j + 1 := ⟨n - 1, by omega⟩
    obtain rfl : k = nf := by omega
    rw [mX11_read_L28_s, h12, if_pos (nI_le (Nat.le_refl _) (by omega))]
    exact ⟨S, g, rfl, OR.r S, hR, h4, h70, hF, fun _ _ _ => rfl⟩
  | succ m ih =>
    intro k hk n hn S g hR h12 h11 h4 h70 hF
    obtain ⟨n, rfl⟩ : ∃ j, n = j + 1 := ⟨n - 1, by omega⟩
    obtain ⟨a, b, c, d, hb, ⟨u0, u1, u2, u3⟩, w0, w1, w2, w3⟩ := hD k (by omega)
    obtain ⟨S1, p1, p2, p3⟩ := addF_v (a := a) (b := b) (c := c) (d := d) hR h4 (by omega)
    rw [mX11_read_L28_s, h12, if_neg (nI_ge (by omega) (by omega)), pk_mul, ald_v (by omega) (by decide), nI_add, ald_v (by omega) (by decide), nI_add, ald_v (by omega) (by decide), nI_add, ald_v (by omega) (by decide), h11, u0, u1, u2, u3, p1, ob_v, nm_v, nI_add]
    obtain ⟨G, hG⟩ : ∃ G, G = addFg g k a b c d := ⟨_, rfl⟩
    rw [← hG] at p3
    have eg : ∀ j, j ≠ 4 → j ≠ 70 → j ≠ 5 + k → j ≠ 11 + k → j ≠ 17 + k → j ≠ 23 + k → G j = g j := fun j q1 q2 q3 q4 q5 q6 => by
      rw [hG]
      unfold addFg
      rw [updN_n q2, updN_n q1, updN_n q6, updN_n q5, updN_n q4, updN_n q3]
    have v0 : G (5 + k) = a := by rw [hG]; unfold addFg; rw [updN_n (by omega), updN_n (by omega), updN_n (by omega), updN_n (by omega), updN_n (by omega), updN_s]
    have v1 : G (11 + k) = b := by rw [hG]; unfold addFg; rw [updN_n (by omega), updN_n (by omega), updN_n (by omega), updN_n (by omega), updN_s]
    have v2 : G (17 + k) = c := by rw [hG]; unfold addFg; rw [updN_n (by omega), updN_n (by omega), updN_n (by omega), updN_s]
    have v3 : G (23 + k) = d := by rw [hG]; unfold addFg; rw [updN_n (by omega), updN_n (by omega), updN_s]
    have v4 : G 4 = k + 1 := by rw [hG]; unfold addFg; rw [updN_n (by omega), updN_s]
    have v5 : G 70 = 0 := by rw [hG]; unfold addFg; rw [updN_s]
    obtain ⟨S', g', e1, e2, e3, e4, e5, e6, e7⟩ := ih (k + 1) (by omega) n (by omega) S1 G p3 (by rw [p2.2]; exact h12) (by rw [p2.1 11 (by decide)]; exact h11) v4 v5 (fun f hf => by
      by_cases hfk : f = k
      · subst hfk
        rw [v0, v1, v2, v3]
        exact ⟨⟨u0, u1, u2, u3⟩, ⟨w0, w1, w2, w3⟩, hb⟩
      · rw [eg (5 + f) (by omega) (by omega) (by omega) (by omega) (by omega) (by omega), eg (11 + f) (by omega) (by omega) (by omega) (by omega) (by omega) (by omega), eg (17 + f) (by omega) (by omega) (by omega) (by omega) (by omega) (by omega), eg (23 + f) (by omega) (by omega) (by omega) (by omega) (by omega) (by omega)]
        exact hF f (by omega))
    exact ⟨S', g', e1, p2.t e2, e3, e4, e5, e6, fun j hj hj2 => (e7 j hj hj2).trans (eg j (by omega) hj2 (by omega) (by omega) (by omega) (by omega))⟩
theorem L86_v {nc : Nat} {u v : Nat → Int32} (hnc : nc ≤ 4) (hD : RdC u v nc) (y : Int32) : ∀ m k, k + m = nc → ∀ n, m < n → ∀ (S : MS) (g : Nat → Nat), RowIs S g → S.2.1 14 = nI nc → S.1 13 = u → g 29 = k → g 70 = 0 → FgC u v g k → ∃ S' g', mX11_read_L86 n y (nI k) S = some (y, S') ∧ OR S S' ∧ RowIs S' g' ∧ g' 29 = nc ∧ g' 70 = 0 ∧ FgC u v g' nc ∧ ∀ j, j < 29 ∨ 38 ≤ j → j ≠ 70 → g' j = g j := by
  intro m
  induction m with
  | zero =>
    intro k hk n hn S g hR h14 h13 h4 h70 hF
    obtain ⟨n, rfl⟩ : ∃ j, n = j + 1 := ⟨n - 1, by omega⟩
    obtain rfl : k = nc := by omega
    rw [mX11_read_L86_s, h14, if_pos (nI_le (Nat.le_refl _) (by omega))]
    exact ⟨S, g, rfl, OR.r S, hR, h4, h70, hF, fun _ _ _ => rfl⟩
  | succ m ih =>
    intro k hk n hn S g hR h14 h13 h4 h70 hF
    obtain ⟨n, rfl⟩ : ∃ j, n = j + 1 := ⟨n - 1, by omega⟩
    obtain ⟨a, b, hb, ⟨u0, u1⟩, w0, w1⟩ := hD k (by omega)
    obtain ⟨S1, p1, p2, p3⟩ := addC_v (a := a) (b := b) hR h4 (by omega)
    rw [mX11_read_L86_s, h14, if_neg (nI_ge (by omega) (by omega)), pk_mul, ald_v (by omega) (by decide), nI_add, ald_v (by omega) (by decide), h13, u0, u1, p1, ob_v, nm_v, nI_add]
    obtain ⟨G, hG⟩ : ∃ G, G = addCg g k a b := ⟨_, rfl⟩
    rw [← hG] at p3
    have eg : ∀ j, j ≠ 29 → j ≠ 70 → j ≠ 30 + k → j ≠ 34 + k → G j = g j := fun j q1 q2 q3 q4 => by
      rw [hG]
      unfold addCg
      rw [updN_n q2, updN_n q1, updN_n q4, updN_n q3]
    have v0 : G (30 + k) = a := by rw [hG]; unfold addCg; rw [updN_n (by omega), updN_n (by omega), updN_n (by omega), updN_s]
    have v1 : G (34 + k) = b := by rw [hG]; unfold addCg; rw [updN_n (by omega), updN_n (by omega), updN_s]
    have v4 : G 29 = k + 1 := by rw [hG]; unfold addCg; rw [updN_n (by omega), updN_s]
    have v5 : G 70 = 0 := by rw [hG]; unfold addCg; rw [updN_s]
    obtain ⟨S', g', e1, e2, e3, e4, e5, e6, e7⟩ := ih (k + 1) (by omega) n (by omega) S1 G p3 (by rw [p2.2]; exact h14) (by rw [p2.1 13 (by decide)]; exact h13) v4 v5 (fun f hf => by
      by_cases hfk : f = k
      · subst hfk
        rw [v0, v1]
        exact ⟨⟨u0, u1⟩, ⟨w0, w1⟩, hb⟩
      · rw [eg (30 + f) (by omega) (by omega) (by omega) (by omega), eg (34 + f) (by omega) (by omega) (by omega) (by omega)]
        exact hF f (by omega))
    exact ⟨S', g', e1, p2.t e2, e3, e4, e5, e6, fun j hj hj2 => (e7 j hj hj2).trans (eg j (by omega) hj2 (by omega) (by omega))⟩
theorem ten_n : ∀ a, a < 151 → (-10 : Int32) - nI a ≤ 0 := by decide +kernel
theorem begin_v (D : MT) : ∃ M, mX3_begin D (nI 0) = some M ∧ ((M.1 0).1 = nI 0 ∧ (M.1 1).1 = nI 0 ∧ (M.1 2).1 = nI 0 ∧ (M.1 3).1 = nI 0 ∧ (M.1 4).1 = nI 0) ∧ M.2 8 = nI 0 ∧ M.2 9 = nI 0 ∧ M.2 10 = nI 0 := by
  unfold mX3_begin mX3_beginSuit mX7_empty
  exact ⟨_, rfl, ⟨rfl, rfl, rfl, rfl, rfl⟩, rfl, rfl, rfl⟩
theorem g_read {K : Nat} {C : CT} {S : MS} (h : Sim K C S) : Good (K + 1) (mX10_read C) (mX11_read S) := by
  obtain ⟨g, h1, h2, h3, len, hlen, s6, c1, hbytes⟩ := id h
  have hn0 : ∀ {k : Nat} {P : Prop}, k < 0 → P := fun hk => absurd hk (Nat.not_lt_zero _)
  obtain ⟨t, ht⟩ : ∃ t : Nat → Nat, t = fun k => (S.1 5 k).toNatClampNeg := ⟨_, rfl⟩
  have htk : ∀ k, k < len → t k < 128 ∧ S.1 5 k = nI (t k) ∧ C.2.1.1 k = nI (t k) := fun k hk => by
    obtain ⟨c, q1, q2, q3⟩ := hbytes k hk
    have e : t k = c := by
      rw [ht]
      show (S.1 5 k).toNatClampNeg = c
      rw [q2, nI_clamp (by omega)]
    rw [e]
    exact ⟨q1, q2, q3⟩
  have hO : TextOk t len := ⟨hlen, fun k hk => (htk k hk).1⟩
  obtain ⟨M0, m0, ⟨z0', z1', z2', z3', z4'⟩, z8, z9, z10⟩ := begin_v (C.1 1)
  -- the reference's start
  obtain ⟨S3, hS3⟩ : ∃ T, T = mI (mI (mI S 9 (nI 0)) 12 (nI 0)) 14 (nI 0) := ⟨_, rfl⟩
  have f3 : FRd S S3 := by rw [hS3]; exact ⟨fun _ _ _ => rfl, rfl, rfl⟩
  have hM : TM t len S := ⟨s6, fun k hk => (htk k hk).2.1, h3.2.2⟩
  have hM3 := hM.d f3
  obtain ⟨S4, n1, n2, n3⟩ := next_v hO hM3 (Nat.zero_le len) (by rw [hS3]; rfl)
  -- the class's start
  obtain ⟨X0, hX0⟩ : ∃ X, X = xI (xI C.2.1 5 (nI 0)) 6 (-1) := ⟨_, rfl⟩
  have fx0 : FY C.2.1 X0 := by rw [hX0]; exact ⟨rfl, rfl⟩
  have hC : TC t len C.2.1 := ⟨c1, fun k hk => (htk k hk).2.2⟩
  have hL : CL t len 0 0 FU X0 := ⟨hC.y fx0, by rw [hX0]; rfl, Nat.zero_le _, Nat.zero_le _, by unfold FU; omega⟩
  have hD : Rd S4 M0 0 0 := by
    refine Rd.f ?_ n3
    rw [hS3]
    exact ⟨⟨rfl, rfl, z0', z1'⟩, ⟨Nat.zero_le _, Nat.zero_le _⟩, fun f hf => hn0 hf, fun f hf => hn0 hf, z2', z3', z4', z8, z9, z10⟩
  obtain ⟨S', X', M', e1, e2, e3⟩ := items_A hO (hM3.f n3) n2 rfl hL (by rw [hX0]; rfl) (sk_b (Nat.zero_le len)).2 hD
  have hF := (f3.t n3.d).t e1
  have hX := fx0.t e2
  have hri : mX11_readItems S = mX11_readItems_L21 FU (nI 0) S4 := by
    unfold mX11_readItems
    rw [nm_v, nm_v, nm_v, ← hS3, n1, ob_v]
  have hci : mX0_readInto (C.2.1, C.1 1) = mX0_readInto_L19 FU (nI 0) (nI 0) (X0, M0) := by
    unfold mX0_readInto
    dsimp only
    rw [m0, ob_v, nm_v, nm_v, nm_v]
    dsimp only
    rw [← hX0]
  have hkeep : Keep S S' := ⟨hF.1 1 (by decide) (by decide), hF.1 2 (by decide) (by decide), hF.1 5 (by decide) (by decide), hF.1 7 (by decide) (by decide), hF.2.2, by rw [hF.2.1], by rw [hF.2.1]⟩
  have hRow : RowIs S' g := fun k hk => by
    rw [hF.1 0 (by decide) (by decide)]
    exact h1.1 k hk
  have hI2 : ImgRel K g (cM (cT C X') 1 M') S := h2
  have hR2 : RestRel (cM (cT C X') 1 M') S := h3
  have hT2 : TextRel (cM (cT C X') 1 M') S := ⟨len, hlen, s6, hX.2.trans c1, fun k hk => ⟨t k, (htk k hk).1, (htk k hk).2.1, by
    show X'.1 k = nI (t k)
    rw [hX.1]
    exact (htk k hk).2.2⟩⟩
  unfold mX10_read mX11_read
  rw [hri, hci]
  rcases e3 with ⟨k, nf, nc, tr, k1, k11, htr, r1, r2, r3, r4, r5⟩ | ⟨a, ha, r1, r2, r3⟩
  · obtain ⟨⟨d1, d2, d3, d4⟩, ⟨d5, d6⟩, d7, d8, d9, d10, d11, d12, d13, d14⟩ := r3
    obtain ⟨S5, l1, l2, l3⟩ := lay_w tr FU 0 S' g hRow (by decide) (by decide)
    obtain ⟨G0, hG0⟩ : ∃ G, G = fun j => if j = 3 then tr else if 0 ≤ j ∧ j < 95 then 0 else g j := ⟨_, rfl⟩
    rw [← hG0] at l3
    have G0z : ∀ j, j < 95 → j ≠ 3 → G0 j = 0 := fun j hj hj2 => by
      rw [hG0]
      show (if j = 3 then tr else if 0 ≤ j ∧ j < 95 then 0 else g j) = 0
      rw [if_neg hj2, if_pos ⟨Nat.zero_le _, hj⟩]
    have G03 : G0 3 = tr := by rw [hG0]; rfl
    have G0o : ∀ j, 95 ≤ j → G0 j = g j := fun j hj => by
      rw [hG0]
      show (if j = 3 then tr else if 0 ≤ j ∧ j < 95 then 0 else g j) = g j
      rw [if_neg (by omega), if_neg (by omega)]
    obtain ⟨S6, g6, p1, p2, p3, p4, p5, p6, p7⟩ := L28_v (v := (M'.1 0).2) d5 d7 (nI k) nf 0 (by omega) FU (by unfold FU; omega) S5 G0 l3 (by rw [l2.2]; exact d1) (l2.1 11 (by decide)) (G0z 4 (by decide) (by decide)) (G0z 70 (by decide) (by decide)) (fun f hf => hn0 hf)
    obtain ⟨S7, g7, q1, q2, q3, q4, q5, q6, q7⟩ := L86_v (v := (M'.1 1).2) d6 d8 (nI k) nc 0 (by omega) FU (by unfold FU; omega) S6 g6 p3 (by rw [p2.2, l2.2]; exact d2) ((p2.1 13 (by decide)).trans (l2.1 13 (by decide))) ((p7 29 (by omega) (by decide)).trans (G0z 29 (by decide) (by decide))) p5 (fun f hf => hn0 hf)
    have e4 : g7 4 = nf := (q7 4 (by omega) (by decide)).trans p4
    have eo : ∀ j, j < 4 ∨ 38 ≤ j → j ≠ 70 → g7 j = G0 j := fun j hj hj2 => (q7 j (by omega) hj2).trans (p7 j (by omega) hj2)
    have ef : ∀ j, 4 ≤ j → j < 29 → g7 j = g6 j := fun j _ hj => q7 j (by omega) (by omega)
    have hInv : BookInv (K + 1) g7 := by
      refine inv_of ⟨?_, ?_, ?_, ?_⟩ ⟨by rw [e4]; exact d5, fun f hf => ?_⟩ ⟨by rw [q4]; exact d6, fun c hc => ?_⟩ ⟨?_, fun k hk => ?_⟩ ⟨?_, fun k hk => ?_⟩ ⟨by rw [q5]; exact Nat.zero_le _, fun k hk => by rw [q5] at hk; exact hn0 hk⟩
      · rw [eo 0 (by omega) (by decide), G0z 0 (by decide) (by decide)]
        exact Nat.pow_pos (by decide)
      · rw [eo 1 (by omega) (by decide), G0z 1 (by decide) (by decide)]
        exact Nat.zero_le _
      · rw [eo 2 (by omega) (by decide), G0z 2 (by decide) (by decide)]
        exact Nat.zero_le _
      · rw [eo 3 (by omega) (by decide), G03]
        exact htr
      · rw [e4] at hf
        rw [ef (5 + f) (by omega) (by omega), ef (11 + f) (by omega) (by omega), ef (17 + f) (by omega) (by omega), ef (23 + f) (by omega) (by omega)]
        exact (p6 f hf).2.2
      · rw [q4] at hc
        exact (q6 c hc).2.2
      · rw [eo 38 (by omega) (by decide), G0z 38 (by decide) (by decide)]
        exact Nat.zero_le _
      · rw [eo 38 (by omega) (by decide), G0z 38 (by decide) (by decide)] at hk
        exact hn0 hk
      · rw [eo 57 (by omega) (by decide), G0z 57 (by decide) (by decide)]
        exact Nat.zero_le _
      · rw [eo 57 (by omega) (by decide), G0z 57 (by decide) (by decide)] at hk
        exact hn0 hk
    have hRel : MRel g7 M' := by
      refine rel_of ⟨?_, ?_, ?_, ?_⟩ ⟨by rw [e4]; exact d3, fun f hf => ?_⟩ ⟨by rw [q4]; exact d4, fun c hc => ?_⟩ ⟨?_, fun k hk => ?_⟩ ⟨?_, fun k hk => ?_⟩ ⟨by rw [q5]; exact d11, fun k hk => by rw [q5] at hk; exact hn0 hk⟩
      · rw [eo 3 (by omega) (by decide), G03]
        exact r5
      · rw [eo 0 (by omega) (by decide), G0z 0 (by decide) (by decide)]
        exact d12
      · rw [eo 1 (by omega) (by decide), G0z 1 (by decide) (by decide)]
        exact d13
      · rw [eo 2 (by omega) (by decide), G0z 2 (by decide) (by decide)]
        exact d14
      · rw [e4] at hf
        rw [ef (5 + f) (by omega) (by omega), ef (11 + f) (by omega) (by omega), ef (17 + f) (by omega) (by omega), ef (23 + f) (by omega) (by omega)]
        exact (p6 f hf).2.1
      · rw [q4] at hc
        exact (q6 c hc).2.1
      · rw [eo 38 (by omega) (by decide), G0z 38 (by decide) (by decide)]
        exact d9
      · rw [eo 38 (by omega) (by decide), G0z 38 (by decide) (by decide)] at hk
        exact hn0 hk
      · rw [eo 57 (by omega) (by decide), G0z 57 (by decide) (by decide)]
        exact d10
      · rw [eo 57 (by omega) (by decide), G0z 57 (by decide) (by decide)] at hk
        exact hn0 hk
    obtain ⟨M2, b1, b2⟩ := become_v hInv hRel (C.1 0)
    have hOR := (l2.t p2).t q2
    have hkeep7 : Keep S S7 := hkeep.trans ⟨hOR.1 1 (by decide), hOR.1 2 (by decide), hOR.1 5 (by decide), hOR.1 7 (by decide), by rw [hOR.2], by rw [hOR.2], by rw [hOR.2]⟩
    refine ⟨nI k, cM (cM (cT C X') 1 M') 0 M2, S7, ?_, ?_, Sim.row (C := cM (cT C X') 1 M') hI2 hR2 hT2 (Nat.le_succ K) hkeep7 q3 (fun j hj _ => (eo j (by omega) (by omega)).trans (G0o j hj)) hInv b2⟩
    · rw [r2, ob_v]
      show (if nI k ≤ 0 then some (nI k, cM (cT C X') 1 M') else (mX3_become M' (C.1 0)).bind fun u5 => some (nI k, cM (cM (cT C X') 1 M') 0 u5)) = _
      rw [if_neg (nI_nle (by omega) (by omega)), b1, ob_v]
    · rw [r1, ob_v]
      show (if nI k = (-1 : Int32) then some ((-10 : Int32) - (S'.2.1 8), S') else (mX11_layBook S' (S'.2.1 10)).bind fun S3 => mX11_read_L28 FU (nI k) (nI 0) S3) = _
      unfold mX11_layBook
      rw [if_neg (m1_n (by omega)), r4, l1, ob_v, p1, q1]
  · obtain ⟨z, hz⟩ : ∃ z, z = (-10 : Int32) - nI a := ⟨_, rfl⟩
    have hz0 : z ≤ 0 := by rw [hz]; exact ten_n a (by omega)
    rw [← hz] at r3
    refine ⟨z, cM (cT C X') 1 M', S', ?_, ?_, ?_⟩
    · rw [r3, ob_v]
      show (if z ≤ 0 then some (z, cM (cT C X') 1 M') else (mX3_become M' (C.1 0)).bind fun u5 => some (z, cM (cM (cT C X') 1 M') 0 u5)) = _
      rw [if_pos hz0]
    · rw [r1, ob_v]
      show (if (-1 : Int32) = (-1 : Int32) then some ((-10 : Int32) - (S'.2.1 8), S') else (mX11_layBook S' (S'.2.1 10)).bind fun S3 => mX11_read_L28 FU (-1) (nI 0) S3) = _
      rw [if_pos rfl, r2, hz]
    · exact Sim.walk (C := cM (cT C X') 1 M') ⟨h1.1, h1.2.1, h1.2.2⟩ hI2 hR2 hT2 hkeep hRow
