/-! digest: both read the same cells in the same order -/
noncomputable def hs (h : Int64) (c : Nat → Int32) : Nat → Int64
  | 0 => h
  | n + 1 => lN 31 * hs h c n + (c n).toInt64
theorem hs_0 (h : Int64) (c : Nat → Int32) : hs h c 0 = h := rfl
theorem hs_s (h : Int64) (c : Nat → Int32) (n : Nat) : hs h c (n + 1) = lN 31 * hs h c n + (c n).toInt64 := rfl
theorem hs_cg (h : Int64) {c d : Nat → Int32} : ∀ n, (∀ k, k < n → c k = d k) → hs h c n = hs h d n
  | 0, _ => rfl
  | n + 1, e => by rw [hs_s, hs_s, hs_cg h n fun k hk => e k (by omega), e n (by omega)]
theorem dig_L17 {mo w nn row : Nat} {S : RS} (h : Int64) (hn : nn < 1000) (hw : w < 100) (hb : row * w + w ≤ nn) : ∀ m k, k + m = w → ∀ n, m < n → mX7_digestFrom_L17 (nI mo) (nI w) nn S n (hs h S.2 (row * w + k)) (nI row) (nI k) = some (hs h S.2 (row * w + w)) := by
  intro m
  induction m with
  | zero =>
    intro k hk n hn'
    obtain ⟨n, rfl⟩ : ∃ j, n = j + 1 := ⟨n - 1, by omega⟩
    obtain rfl : k = w := by omega
    rw [mX7_digestFrom_L17_s, if_pos (nI_le (Nat.le_refl k) (by omega))]
  | succ m ih =>
    intro k hk n hn'
    obtain ⟨n, rfl⟩ : ∃ j, n = j + 1 := ⟨n - 1, by omega⟩
    rw [mX7_digestFrom_L17_s, if_neg (nI_ge (by omega) (by omega)), cell_v hn (by omega), ob_v, nm_v, nm_v, nI_add, ← hs_s]
    exact ih (k + 1) (by omega) n (by omega)
theorem dig_L5 {mo w nn sz : Nat} {S : RS} (h : Int64) (hn : nn < 1000) (hw : w < 100) (hsz : S.1 = nI sz) (hz : sz < 1000) (hb : sz * w ≤ nn) : ∀ m k, k + m = sz → ∀ n, m < n → mX7_digestFrom_L5 (nI mo) (nI w) nn S n (hs h S.2 (k * w)) (nI k) = some (hs h S.2 (sz * w)) := by
  intro m
  induction m with
  | zero =>
    intro k hk n hn'
    obtain ⟨n, rfl⟩ : ∃ j, n = j + 1 := ⟨n - 1, by omega⟩
    obtain rfl : k = sz := by omega
    rw [mX7_digestFrom_L5_s, hsz, if_pos (nI_le (Nat.le_refl k) (by omega))]
  | succ m ih =>
    intro k hk n hn'
    obtain ⟨n, rfl⟩ : ∃ j, n = j + 1 := ⟨n - 1, by omega⟩
    have hb' : k * w + w ≤ nn := by
      have : (k + 1) * w ≤ sz * w := Nat.mul_le_mul_right w (by omega)
      rw [Nat.succ_mul] at this
      omega
    have q := dig_L17 (mo := mo) (row := k) (S := S) h hn hw hb' w 0 (by omega) FU (by unfold FU; omega)
    rw [Nat.add_zero] at q
    rw [mX7_digestFrom_L5_s, hsz, if_neg (nI_ge (by omega) (by omega)), q, ob_v, nm_v, nI_add, ← Nat.succ_mul]
    exact ih (k + 1) (by omega) n (by omega)
theorem dig_v {mo w nn sz : Nat} {S : RS} (h : Int64) (hn : nn < 1000) (hw : w < 100) (hsz : S.1 = nI sz) (hz : sz < 1000) (hb : sz * w ≤ nn) : mX7_digestFrom (nI mo) (nI w) nn S h = some (hs h S.2 (sz * w)) := by
  have q := dig_L5 (mo := mo) h hn hw hsz hz hb sz 0 (by omega) FU (by unfold FU; omega)
  rw [Nat.zero_mul] at q
  exact q
/-! the reference's loops -/
theorem dr_235 {S : MS} {g : Nat → Nat} {c : Nat → Int32} (h : Int64) (hR : RowIs S g) (h6 : g 57 ≤ 6) (hc : ∀ k, k < 2 * g 57 → c k = nI (g (58 + k))) : ∀ m k, k + m = 2 * g 57 → ∀ n, m < n → mX11_digest_L235 S n (hs h c k) (nI k) = some (lN 31 * (lN 31 * hs h c (2 * g 57) + S.2.2 3) + S.2.2 4) := by
  intro m
  induction m with
  | zero =>
    intro k hk n hn'
    obtain ⟨n, rfl⟩ : ∃ j, n = j + 1 := ⟨n - 1, by omega⟩
    obtain rfl : k = 2 * g 57 := by omega
    rw [mX11_digest_L235_s, ald_v (by decide) (by decide), hR 57 (by decide), pk_mul, if_pos (nI_le (Nat.le_refl _) (by omega)), nm_v]
  | succ m ih =>
    intro k hk n hn'
    obtain ⟨n, rfl⟩ : ∃ j, n = j + 1 := ⟨n - 1, by omega⟩
    rw [mX11_digest_L235_s, ald_v (by decide) (by decide), hR 57 (by decide), pk_mul, if_neg (nI_ge (by omega) (by omega)), nI_add, ald_v (by omega) (by decide), hR (58 + k) (by omega), nm_v, nm_v, nI_add, ← hc k (by omega), ← hs_s]
    exact ih (k + 1) (by omega) n (by omega)
theorem dr_197 {S : MS} {g : Nat → Nat} {c : Nat → Int32} (h : Int64) (hR : RowIs S g) (h6 : g 38 ≤ 6) (hc : ∀ k, k < 3 * g 38 → c k = nI (g (39 + k))) : ∀ m k, k + m = 3 * g 38 → ∀ n, m < n → mX11_digest_L197 S n (hs h c k) (nI k) = mX11_digest_L235 S FU (hs h c (3 * g 38)) (nI 0) := by
  intro m
  induction m with
  | zero =>
    intro k hk n hn'
    obtain ⟨n, rfl⟩ : ∃ j, n = j + 1 := ⟨n - 1, by omega⟩
    obtain rfl : k = 3 * g 38 := by omega
    rw [mX11_digest_L197_s, ald_v (by decide) (by decide), hR 38 (by decide), pk_mul, if_pos (nI_le (Nat.le_refl _) (by omega))]
  | succ m ih =>
    intro k hk n hn'
    obtain ⟨n, rfl⟩ : ∃ j, n = j + 1 := ⟨n - 1, by omega⟩
    rw [mX11_digest_L197_s, ald_v (by decide) (by decide), hR 38 (by decide), pk_mul, if_neg (nI_ge (by omega) (by omega)), nI_add, ald_v (by omega) (by decide), hR (39 + k) (by omega), nm_v, nm_v, nI_add, ← hc k (by omega), ← hs_s]
    exact ih (k + 1) (by omega) n (by omega)
theorem dr_144 {S : MS} {g : Nat → Nat} {c : Nat → Int32} (h : Int64) (hR : RowIs S g) (h6 : g 29 ≤ 4) (hc : ∀ k, k < g 29 → c (2 * k) = nI (g (30 + k)) ∧ c (2 * k + 1) = nI (g (34 + k))) : ∀ m k, k + m = g 29 → ∀ n, m < n → mX11_digest_L144 S n (hs h c (2 * k)) (nI k) = mX11_digest_L197 S FU (hs h c (2 * g 29)) (nI 0) := by
  intro m
  induction m with
  | zero =>
    intro k hk n hn'
    obtain ⟨n, rfl⟩ : ∃ j, n = j + 1 := ⟨n - 1, by omega⟩
    obtain rfl : k = g 29 := by omega
    rw [mX11_digest_L144_s, ald_v (by decide) (by decide), hR 29 (by decide), if_pos (nI_le (Nat.le_refl _) (by omega))]
  | succ m ih =>
    intro k hk n hn'
    obtain ⟨n, rfl⟩ : ∃ j, n = j + 1 := ⟨n - 1, by omega⟩
    obtain ⟨c0, c1⟩ := hc k (by omega)
    rw [mX11_digest_L144_s, ald_v (by decide) (by decide), hR 29 (by decide), if_neg (nI_ge (by omega) (by omega)), nI_add, ald_v (by omega) (by decide), hR (30 + k) (by omega), nm_v, nI_add, ald_v (by omega) (by decide), hR (34 + k) (by omega), nm_v, nm_v, nI_add, ← c0, ← hs_s, ← c1, ← hs_s]
    exact ih (k + 1) (by omega) n (by omega)
theorem dr_59 {S : MS} {g : Nat → Nat} {c : Nat → Int32} (h : Int64) (hR : RowIs S g) (h6 : g 4 ≤ 6) (hc : ∀ k, k < g 4 → c (4 * k) = nI (g (5 + k)) ∧ c (4 * k + 1) = nI (g (11 + k)) ∧ c (4 * k + 2) = nI (g (17 + k)) ∧ c (4 * k + 3) = nI (g (23 + k))) : ∀ m k, k + m = g 4 → ∀ n, m < n → mX11_digest_L59 S n (hs h c (4 * k)) (nI k) = mX11_digest_L144 S FU (hs h c (4 * g 4)) (nI 0) := by
  intro m
  induction m with
  | zero =>
    intro k hk n hn'
    obtain ⟨n, rfl⟩ : ∃ j, n = j + 1 := ⟨n - 1, by omega⟩
    obtain rfl : k = g 4 := by omega
    rw [mX11_digest_L59_s, ald_v (by decide) (by decide), hR 4 (by decide), if_pos (nI_le (Nat.le_refl _) (by omega))]
  | succ m ih =>
    intro k hk n hn'
    obtain ⟨n, rfl⟩ : ∃ j, n = j + 1 := ⟨n - 1, by omega⟩
    obtain ⟨c0, c1, c2, c3⟩ := hc k (by omega)
    rw [mX11_digest_L59_s, ald_v (by decide) (by decide), hR 4 (by decide), if_neg (nI_ge (by omega) (by omega)), nI_add, ald_v (by omega) (by decide), hR (5 + k) (by omega), nm_v, nI_add, ald_v (by omega) (by decide), hR (11 + k) (by omega), nm_v, nI_add, ald_v (by omega) (by decide), hR (17 + k) (by omega), nm_v, nI_add, ald_v (by omega) (by decide), hR (23 + k) (by omega), nm_v, nm_v, nI_add, ← c0, ← hs_s, ← c1, ← hs_s, ← c2, ← hs_s, ← c3, ← hs_s]
    exact ih (k + 1) (by omega) n (by omega)
theorem now_v {K : Nat} {C : CT} {S : MS} {g : Nat → Nat} (h1 : Base K g C S) {j : Nat} (hj : j < 5) : ∃ r, mX10_now C (nI j) = some (r, C) ∧ mX11_nowOf S (nI j) = some r := by
  unfold mX10_now mX11_nowOf
  have e1 : ∀ i, i < 8 → ((nI j = nI i) ↔ j = i) := fun i hi => nI_eq (by omega) (by omega)
  simp only [e1 0 (by decide), e1 1 (by decide), e1 2 (by decide), e1 3 (by decide), e1 4 (by decide), ald_v (show 0 < 288 by decide) (show 288 < 2 ^ 31 by decide), ald_v (show 1 < 288 by decide) (show 288 < 2 ^ 31 by decide), ald_v (show 2 < 288 by decide) (show 288 < 2 ^ 31 by decide), ald_v (show 3 < 288 by decide) (show 288 < 2 ^ 31 by decide), h1.1 0 (by decide), h1.1 1 (by decide), h1.1 2 (by decide), h1.1 3 (by decide), vM_sup h1.1 h1.2.1 h1.2.1.p64, sup0 h1, ob_v, h1.2.2.2.1.1, h1.2.2.2.1.2.1, h1.2.2.2.1.2.2.1, h1.2.2.2.1.2.2.2]
  rcases (show j = 0 ∨ j = 1 ∨ j = 2 ∨ j = 3 ∨ j = 4 by omega) with rfl | rfl | rfl | rfl | rfl <;> exact ⟨_, rfl, rfl⟩
theorem dig_tail {K : Nat} {C : CT} {S : MS} {g : Nat → Nat} (h1 : Base K g C S) (h3 : RestRel C S) (y : Int64) : ∃ r, mX10_digest_L33 FU y (nI 5) C = some (r, C) ∧ mX11_digest_L59 S FU y (nI 0) = some r := by
  obtain ⟨hR, hB, hM⟩ := h1
  have b1 := hB.f.1
  have b2 := hB.c.1
  have b3 := hB.n.1
  have b4 := hB.h.1
  have q1 := dr_59 (c := (((C.1 0).1 0).2)) y hR b1 hM.f.2 (g 4) 0 (by omega) FU (by unfold FU; omega)
  have q2 := fun h => dr_144 (c := (((C.1 0).1 1).2)) h hR b2 hM.c.2 (g 29) 0 (by omega) FU (by unfold FU; omega)
  have q3 := fun h => dr_197 (c := (((C.1 0).1 2).2)) h hR b3 (fun k hk => by
    obtain ⟨a0, a1, a2⟩ := hM.n.2 (k / 3) (by omega)
    rcases (show k = 3 * (k / 3) ∨ k = 3 * (k / 3) + 1 ∨ k = 3 * (k / 3) + 2 by omega) with e | e | e
    · rw [show 39 + k = 39 + 3 * (k / 3) by omega, ← a0, ← e]
    · rw [show 39 + k = 39 + 3 * (k / 3) + 1 by omega, ← a1, ← e]
    · rw [show 39 + k = 39 + 3 * (k / 3) + 2 by omega, ← a2, ← e]) (3 * g 38) 0 (by omega) FU (by unfold FU; omega)
  have q4 := fun h => dr_235 (c := (((C.1 0).1 3).2)) h hR b4 (fun k hk => by
    obtain ⟨a0, a1⟩ := hM.h.2 (k / 2) (by omega)
    rcases (show k = 2 * (k / 2) ∨ k = 2 * (k / 2) + 1 by omega) with e | e
    · rw [show 58 + k = 58 + 2 * (k / 2) by omega, ← a0, ← e]
    · rw [show 58 + k = 58 + 2 * (k / 2) + 1 by omega, ← a1, ← e]) (2 * g 57) 0 (by omega) FU (by unfold FU; omega)
  rw [Nat.mul_zero, hs_0] at q1
  have e1 := dig_v (mo := 6) (w := 4) (nn := 24) (S := (C.1 0).1 0) y (by decide) (by decide) hM.f.1 (by omega) (by omega)
  have e2 := fun h => dig_v (mo := 4) (w := 2) (nn := 8) (S := (C.1 0).1 1) h (by decide) (by decide) hM.c.1 (by omega) (by omega)
  have e3 := fun h => dig_v (mo := 6) (w := 3) (nn := 18) (S := (C.1 0).1 2) h (by decide) (by decide) hM.n.1 (by omega) (by omega)
  have e4 := fun h => dig_v (mo := 6) (w := 2) (nn := 12) (S := (C.1 0).1 3) h (by decide) (by decide) hM.h.1 (by omega) (by omega)
  rw [show FU = 999999 + 1 from rfl, mX10_digest_L33_s, if_pos (by decide), e1, ob_v, e2, ob_v, e3, ob_v, e4, ob_v, nm_v, ← show FU = 999999 + 1 from rfl, q1, Nat.mul_comm (g 4) 4, Nat.mul_comm (g 29) 2, Nat.mul_comm (g 38) 3, Nat.mul_comm (g 57) 2]
  refine ⟨_, rfl, ?_⟩
  have w2 := q2 (hs y ((C.1 0).1 0).2 (4 * g 4))
  rw [Nat.mul_zero, hs_0] at w2
  rw [w2]
  have w3 := q3 (hs (hs y ((C.1 0).1 0).2 (4 * g 4)) ((C.1 0).1 1).2 (2 * g 29))
  rw [hs_0] at w3
  rw [w3]
  have w4 := q4 (hs (hs (hs y ((C.1 0).1 0).2 (4 * g 4)) ((C.1 0).1 1).2 (2 * g 29)) ((C.1 0).1 2).2 (3 * g 38))
  rw [hs_0] at w4
  rw [w4, h3.2.1.1, h3.2.1.2]
theorem dig_33 {K : Nat} {C : CT} {S : MS} {g : Nat → Nat} (h1 : Base K g C S) (h3 : RestRel C S) : ∀ m k, k + m = 5 → ∀ n, ∀ y : Int64, n + k = FU → ∃ r, mX10_digest_L33 n y (nI k) C = some (r, C) ∧ mX11_digest_L33 S n y (nI k) = some r := by
  intro m
  induction m with
  | zero =>
    intro k hk n y hn
    obtain rfl : k = 5 := by omega
    obtain ⟨r, q1, q2⟩ := dig_tail h1 h3 y
    refine ⟨r, ?_, ?_⟩
    · have e : mX10_digest_L33 n y (nI 5) C = mX10_digest_L33 FU y (nI 5) C := by
        obtain ⟨n, rfl⟩ : ∃ j, n = j + 1 := ⟨n - 1, by unfold FU at hn; omega⟩
        rw [show FU = 999999 + 1 from rfl, mX10_digest_L33_s, mX10_digest_L33_s, if_pos (by decide), if_pos (by decide)]
      rw [e, q1]
    · obtain ⟨n, rfl⟩ : ∃ j, n = j + 1 := ⟨n - 1, by unfold FU at hn; omega⟩
      rw [mX11_digest_L33_s, if_pos (by decide), q2]
  | succ m ih =>
    intro k hk n y hn
    obtain ⟨n, rfl⟩ : ∃ j, n = j + 1 := ⟨n - 1, by unfold FU at hn; omega⟩
    obtain ⟨r, q1, q2⟩ := now_v h1 (j := k) (by omega)
    rw [mX10_digest_L33_s, mX11_digest_L33_s, if_neg (nI_nlt (by omega) (by omega)), if_neg (nI_ge (by omega) (by omega)), q1, q2, ob_v, ob_v, nm_v, nm_v, nI_add]
    exact ih (k + 1) (by omega) n _ (by omega)
theorem dig_6 {K : Nat} {C : CT} {S : MS} (h : Sim K C S) : ∀ m k, k + m = 8 → ∀ n, m < n → ∀ y : Int64, ∃ r, mX10_digest_L6 n y (nI k) C = some (r, C) ∧ mX11_digest_L6 S n y (nI k) = some r := by
  intro m
  induction m with
  | zero =>
    intro k hk n hn y
    obtain rfl : k = 8 := by omega
    obtain ⟨n, rfl⟩ : ∃ j, n = j + 1 := ⟨n - 1, by omega⟩
    obtain ⟨g, h1, -, h3, -⟩ := h
    rw [mX10_digest_L6_s, mX11_digest_L6_s, if_pos (by decide), if_pos (by decide)]
    exact dig_33 h1 h3 5 0 (by decide) FU y rfl
  | succ m ih =>
    intro k hk n hn y
    obtain ⟨n, rfl⟩ : ∃ j, n = j + 1 := ⟨n - 1, by omega⟩
    obtain ⟨r, q1, q2⟩ := count_v h (j := k) (by omega)
    rw [mX10_digest_L6_s, mX11_digest_L6_s, if_neg (nI_nlt (by omega) (by omega)), if_neg (nI_ge (by omega) (by omega)), q1, q2, ob_v, ob_v, nm_v, nm_v, nI_add]
    exact ih (k + 1) (by omega) n (by omega) _
theorem s_digest {K : Nat} {C : CT} {S : MS} (h : Sim K C S) : ∃ r, mX10_digest C = some (r, C) ∧ mX11_digest S = some r :=
  dig_6 h 8 0 (by decide) FU (by decide) _
