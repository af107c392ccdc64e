/-! words and numbers: the reference's looks at the token -/
theorem wz_v : ∀ w, w < 3 → ∀ k, k < 7 → wordsF (7 * w + k) = nI ((wch w).getD k 0) := by decide +kernel
theorem wc_lt : ∀ w, w < 3 → ∀ k, k < 7 → (wch w).getD k 0 < 128 := by decide +kernel
theorem wc_l : ∀ w, w < 3 → (wch w).length ≤ 7 := by decide +kernel
theorem wc_n : ∀ w, w < 3 → ∀ j, j < 7 → j < (wch w).length → (wch w).getD j 0 ≠ 0 := by decide +kernel
theorem wc_z : ∀ w, w < 3 → ∀ j, j < 7 → (wch w).length ≤ j → (wch w).getD j 0 = 0 := by decide +kernel
def mW (t : Nat → Nat) (w a e k m : Nat) : Bool := (List.range' k m).all fun j => decide ((if a + j < e then t (a + j) else 0) = (wch w).getD j 0)
theorem mW_s (t : Nat → Nat) (w a e k m : Nat) : mW t w a e k (m + 1) = (decide ((if a + k < e then t (a + k) else 0) = (wch w).getD k 0) && mW t w a e (k + 1) m) := by
  unfold mW
  rw [List.range'_succ, List.all_cons]
theorem L22_0 (S : MS) (y1 y3 : Int32) {n : Nat} (h : 0 < n) : mX11_isWord_L22 S n y1 (nI 0) y3 = some (nI 0) := by
  obtain ⟨n, rfl⟩ : ∃ j, n = j + 1 := ⟨n - 1, by omega⟩
  rw [mX11_isWord_L22_s, if_pos z0]
  split <;> rfl
theorem L22_v {t : Nat → Nat} {len a e w : Nat} {S : MS} (hO : TextOk t len) (hT : TM t len S) (h8 : S.2.1 8 = nI a) (h9 : S.2.1 9 = nI e) (ha : a ≤ e) (he : e ≤ len) (hw : w < 3) : ∀ m k, k + m = 7 → ∀ n, m < n → mX11_isWord_L22 S n (nI w) (nI 1) (nI k) = some (if mW t w a e k m then nI 1 else nI 0) := by
  have h150 := hO.1
  intro m
  induction m with
  | zero =>
    intro k hk n hn
    obtain ⟨n, rfl⟩ : ∃ j, n = j + 1 := ⟨n - 1, by omega⟩
    rw [mX11_isWord_L22_s, if_pos (nI_le (by omega) (by omega)), zo_1]
    rfl
  | succ m ih =>
    intro k hk n hn
    obtain ⟨n, rfl⟩ : ∃ j, n = j + 1 := ⟨n - 1, by omega⟩
    have hwl := wc_lt w hw k (by omega)
    rw [mX11_isWord_L22_s, if_neg (nI_ge (by omega) (by omega)), if_neg z1, h8, h9, nI_add, ifN_le (by omega) (by omega), pk_mul, nI_add, ald_v (by omega) (by decide), hT.2.2, wz_v w hw k (by omega), mW_s]
    have hnext := ih (k + 1) (by omega) n (by omega)
    by_cases hc : e ≤ a + k
    · rw [if_pos hc, ifN_eq (by omega) (by omega), if_neg (show ¬ a + k < e by omega)]
      by_cases hq : 0 = (wch w).getD k 0
      · rw [if_pos hq, nm_v, nI_add, hnext, ← hq]
        rfl
      · rw [if_neg hq, nm_v, L22_0 S _ _ (by omega), show decide (0 = (wch w).getD k 0) = false from decide_eq_false hq]
        rfl
    · rw [if_neg hc, ald_v (by omega) (by decide), hT.2.1 (a + k) (by omega), ald_v (by omega) (by decide), wz_v w hw k (by omega), ifN_eq (by have := hO.2 (a + k) (by omega); omega) (by omega), if_pos (show a + k < e by omega)]
      by_cases hq : t (a + k) = (wch w).getD k 0
      · rw [if_pos hq, nm_v, nI_add, hnext, show decide (t (a + k) = (wch w).getD k 0) = true from decide_eq_true hq]
        rfl
      · rw [if_neg hq, nm_v, L22_0 S _ _ (by omega), show decide (t (a + k) = (wch w).getD k 0) = false from decide_eq_false hq]
        rfl
theorem isW_i {t : Nat → Nat} {w a e : Nat} (hw : w < 3) (hl : ∀ k, a ≤ k → k < e → t k ≠ 0) : (decide (e - a ≤ 7) && mW t w a e 0 7) = isW t w a e := by
  have hL := wc_l w hw
  rw [Bool.eq_iff_iff]
  unfold isW mW alW
  simp only [Bool.and_eq_true, decide_eq_true_eq, List.all_eq_true]
  constructor
  · rintro ⟨h1, h2⟩
    have h3 : ∀ j, j < 7 → (if a + j < e then t (a + j) else 0) = (wch w).getD j 0 := fun j hj => h2 j (List.mem_range'_1.mpr ⟨Nat.zero_le j, by omega⟩)
    have hLe : e - a = (wch w).length := by
      by_cases c1 : e - a < (wch w).length
      · have q := h3 (e - a) (by omega)
        rw [if_neg (by omega)] at q
        exact absurd q.symm (wc_n w hw (e - a) (by omega) c1)
      · by_cases c2 : (wch w).length < e - a
        · have q := h3 (wch w).length (by omega)
          rw [if_pos (by omega), wc_z w hw _ (by omega) (Nat.le_refl _)] at q
          exact absurd q (hl _ (by omega) (by omega))
        · omega
    refine ⟨hLe, fun j hj => ?_⟩
    have hj2 := List.mem_range'_1.mp hj
    have q := h3 j (by omega)
    rw [if_pos (by omega)] at q
    exact q
  · rintro ⟨h1, h2⟩
    refine ⟨by omega, fun j hj => ?_⟩
    have hj2 := List.mem_range'_1.mp hj
    by_cases c : a + j < e
    · rw [if_pos c]
      exact h2 j (List.mem_range'_1.mpr ⟨Nat.zero_le j, by omega⟩)
    · rw [if_neg c, wc_z w hw j (by omega) (by omega)]
theorem ltr_ge {c : Nat} (h : ltr c = true) : 97 ≤ c := by
  unfold ltr at h
  simp only [Bool.and_eq_true, decide_eq_true_eq] at h
  exact h.1
theorem fig_ge {c : Nat} (h : fig c = true) : 48 ≤ c ∧ c ≤ 57 := by
  unfold fig at h
  simpa only [Bool.and_eq_true, decide_eq_true_eq] using h
theorem en_l {t : Nat → Nat} {len a : Nat} (ha : a < len) (hl : ltr (t a) = true) : en t len a = run ltr t len a := by
  unfold en
  rw [if_pos ha, if_pos hl]
theorem en_f {t : Nat → Nat} {len a : Nat} (ha : a < len) (hl : ltr (t a) = false) (hf : fig (t a) = true) : en t len a = run fig t len a := by
  unfold en
  rw [if_pos ha, hl, hf]
  rfl
theorem isWord_v {t : Nat → Nat} {len a w : Nat} {S : MS} (hO : TextOk t len) (hT : TM t len S) (h : At t len a S) (ha : a < len) (hl : ltr (t a) = true) (hw : w < 3) : mX11_isWord S (nI w) = some (if isW t w a (en t len a) then nI 1 else nI 0) := by
  have h150 := hO.1
  have hb := en_b (t := t) (len := len) (i := a) (by omega)
  have hz : ∀ k, a ≤ k → k < en t len a → t k ≠ 0 := by
    intro k h1 h2
    rw [en_l ha hl] at h2
    have := ltr_ge (run_in (len - a) a (by omega) k h1 h2)
    omega
  unfold mX11_isWord
  rw [h.1, h.2, pk_sub hb.1, ifN_lt (by decide) (by omega), L22_0 S _ _ (show 0 < FU by decide), L22_v hO hT h.1 h.2 hb.1 hb.2.1 hw 7 0 (by decide) FU (by decide), ← isW_i hw hz]
  by_cases hc : 7 < en t len a - a
  · rw [if_pos hc, show decide (en t len a - a ≤ 7) = false from decide_eq_false (by omega)]
    rfl
  · rw [if_neg hc, show decide (en t len a - a ≤ 7) = true from decide_eq_true (by omega), Bool.true_and]
/-- which word it is, as the reference says it -/
def wE (k : Nat) : Int32 := if k = 4 then nI 0 else if k = 5 then nI 1 else if k = 6 then nI 2 else -1
theorem kd_l {t : Nat → Nat} {len a : Nat} (ha : a < len) (hl : ltr (t a) = true) : kd t len a = if isW t 0 a (en t len a) then 4 else if isW t 1 a (en t len a) then 5 else if isW t 2 a (en t len a) then 6 else 1 := by
  unfold kd
  rw [if_pos ha, if_pos hl]
theorem kd_f {t : Nat → Nat} {len a : Nat} (ha : a < len) (hl : ltr (t a) = false) (hf : fig (t a) = true) : kd t len a = if en t len a - a ≤ 2 then 3 else 1 := by
  unfold kd
  rw [if_pos ha, hl, hf, if_neg (by decide), if_pos rfl]
theorem kd_o {t : Nat → Nat} {len a : Nat} (ha : a < len) (hl : ltr (t a) = false) (hf : fig (t a) = false) : kd t len a = if t a = 59 then 2 else 1 := by
  unfold kd
  rw [if_pos ha, hl, hf, if_neg (by decide), if_neg (by decide)]
theorem kd_e {t : Nat → Nat} {len a : Nat} (ha : ¬ a < len) : kd t len a = 0 := by
  unfold kd
  rw [if_neg ha]
theorem wordHere_v {t : Nat → Nat} {len a : Nat} {S : MS} (hO : TextOk t len) (hT : TM t len S) (h : At t len a S) (ha : a ≤ len) : mX11_wordHere S = some (wE (kd t len a)) := by
  have h150 := hO.1
  unfold mX11_wordHere
  by_cases hc : a < len ∧ ltr (t a) = true
  · obtain ⟨h1, h2⟩ := hc
    have hL : mX11_isLetter S (S.2.1 8) = some (nI 1) := by
      rw [h.1, isL_v hO hT (by omega), h2, show decide (a < len) = true from decide_eq_true h1]
      rfl
    have w0 := isWord_v hO hT h h1 h2 (w := 0) (by decide)
    have w1 := isWord_v hO hT h h1 h2 (w := 1) (by decide)
    have w2 := isWord_v hO hT h h1 h2 (w := 2) (by decide)
    rw [kd_l h1 h2]
    cases c0 : isW t 0 a (en t len a)
    · rw [c0] at w0
      cases c1 : isW t 1 a (en t len a)
      · rw [c1] at w1
        cases c2 : isW t 2 a (en t len a)
        · rw [c2] at w2
          rw [show FU = 999996 + 1 + 1 + 1 + 1 from rfl, mX11_wordHere_L2_s, if_neg (by decide), hL, ob_v, if_neg z1, w0, ob_v, b_f, if_pos z0, nm_v, nI_add, mX11_wordHere_L2_s, if_neg (by decide), hL, ob_v, if_neg z1, w1, ob_v, b_f, if_pos z0, nm_v, nI_add, mX11_wordHere_L2_s, if_neg (by decide), hL, ob_v, if_neg z1, w2, ob_v, b_f, if_pos z0, nm_v, nI_add, mX11_wordHere_L2_s, if_pos (by decide)]
          rfl
        · rw [c2] at w2
          rw [show FU = 999996 + 1 + 1 + 1 + 1 from rfl, mX11_wordHere_L2_s, if_neg (by decide), hL, ob_v, if_neg z1, w0, ob_v, b_f, if_pos z0, nm_v, nI_add, mX11_wordHere_L2_s, if_neg (by decide), hL, ob_v, if_neg z1, w1, ob_v, b_f, if_pos z0, nm_v, nI_add, mX11_wordHere_L2_s, if_neg (by decide), hL, ob_v, if_neg z1, w2, ob_v, b_t, if_neg z1]
          rfl
      · rw [c1] at w1
        rw [show FU = 999996 + 1 + 1 + 1 + 1 from rfl, mX11_wordHere_L2_s, if_neg (by decide), hL, ob_v, if_neg z1, w0, ob_v, b_f, if_pos z0, nm_v, nI_add, mX11_wordHere_L2_s, if_neg (by decide), hL, ob_v, if_neg z1, w1, ob_v, b_t, if_neg z1]
        rfl
    · rw [c0] at w0
      rw [show FU = 999996 + 1 + 1 + 1 + 1 from rfl, mX11_wordHere_L2_s, if_neg (by decide), hL, ob_v, if_neg z1, w0, ob_v, b_t, if_neg z1]
      rfl
  · have hL : mX11_isLetter S (S.2.1 8) = some (nI 0) := by
      rw [h.1, isL_v hO hT (by omega)]
      cases h2 : ltr (t a)
      · rw [Bool.and_false]; rfl
      · rw [show decide (a < len) = false from decide_eq_false (fun q => hc ⟨q, h2⟩)]; rfl
    have hk : wE (kd t len a) = -1 := by
      by_cases h1 : a < len
      · have h2 : ltr (t a) = false := by
          cases h2 : ltr (t a)
          · rfl
          · exact absurd ⟨h1, h2⟩ hc
        cases h3 : fig (t a)
        · rw [kd_o h1 h2 h3]
          split <;> rfl
        · rw [kd_f h1 h2 h3]
          split <;> rfl
      · rw [kd_e h1]
        rfl
    rw [hk, show FU = 999996 + 1 + 1 + 1 + 1 from rfl, mX11_wordHere_L2_s, if_neg (by decide), hL, ob_v, if_pos z0, nm_v, nI_add, mX11_wordHere_L2_s, if_neg (by decide), hL, ob_v, if_pos z0, nm_v, nI_add, mX11_wordHere_L2_s, if_neg (by decide), hL, ob_v, if_pos z0, nm_v, nI_add, mX11_wordHere_L2_s, if_pos (by decide)]
theorem in_v {v b : Nat} (hv : v < 10000) (hb : b < 10000) : mX11_in (nI v) (nI 0) (nI b) = some (if v ≤ b then nI 1 else nI 0) := by
  unfold mX11_in
  rw [if_neg (nI_nlt (Nat.zero_le v) (by omega)), ifN_lt (by omega) (by omega), zo_0, zo_1]
  by_cases h : v ≤ b
  · rw [if_neg (by omega), if_pos h]
  · rw [if_pos (by omega), if_neg h]
def nE (t : Nat → Nat) (len a b : Nat) : Int32 := if kd t len a = 3 ∧ nu t len a ≤ b then nI (nu t len a) else -1
/-- a number's figures -/
theorem nu_v {t : Nat → Nat} {len a : Nat} (ha : a < len) (hl : ltr (t a) = false) (hf : fig (t a) = true) (h2 : en t len a - a ≤ 2) : (en t len a = a + 1 ∧ nu t len a = t a - 48) ∨ (en t len a = a + 2 ∧ nu t len a = 10 * (t a - 48) + t (a + 1) - 48 ∧ a + 1 < len ∧ fig (t (a + 1)) = true) := by
  have hb := en_b (t := t) (len := len) (i := a) (by omega)
  have h3 := hb.2.2 ha
  by_cases h1 : en t len a = a + 1
  · left
    refine ⟨h1, ?_⟩
    unfold nu nb
    rw [if_neg (by omega), if_pos h1]
  · right
    refine ⟨by omega, ?_, by omega, ?_⟩
    · unfold nu nb
      rw [if_neg (by omega), if_neg h1]
    · have e := en_f ha hl hf
      exact run_in (P := fig) (t := t) (len := len) (len - a) a (by omega) (a + 1) (by omega) (by omega)
theorem numHere_v {t : Nat → Nat} {len a b : Nat} {S : MS} (hO : TextOk t len) (hT : TM t len S) (h : At t len a S) (ha : a ≤ len) (hb9 : b < 1000) : mX11_numberHere S (nI 0) (nI b) = some (nE t len a b) := by
  have h150 := hO.1
  have hb := en_b (t := t) (len := len) (i := a) ha
  unfold mX11_numberHere
  rw [h.1, isFg_v hO hT (by omega), ob_v, ifB, h.2, pk_sub hb.1, ifN_le (by omega) (by decide)]
  unfold nE
  by_cases h1 : a < len
  · cases hf : fig (t a)
    · rw [Bool.and_false, if_neg (by decide)]
      cases hl : ltr (t a)
      · rw [kd_o h1 hl hf]
        rw [if_neg (fun q => by have := q.1; split at this <;> omega)]
      · rw [kd_l h1 hl]
        rw [if_neg (fun q => by have := q.1; (repeat' split at this) <;> omega)]
    · have hl := fl_x _ (hO.2 a h1) hf
      have hg := fig_ge hf
      rw [show decide (a < len) = true from decide_eq_true h1, Bool.true_and, if_pos rfl, kd_f h1 hl hf]
      by_cases h2 : en t len a - a ≤ 2
      · rw [if_pos h2, if_pos h2, ald_v (by omega) (by decide), hT.2.1 a h1, pk_sub hg.1, nm_v, ifN_eq (by omega) (by decide)]
        rcases nu_v h1 hl hf h2 with ⟨e1, e2⟩ | ⟨e1, e2, e3, e4⟩
        · rw [if_neg (by omega), in_v (by omega) (by omega), ob_v, e2]
          by_cases hc : t a - 48 ≤ b
          · rw [if_pos hc, if_neg z1, if_pos ⟨rfl, hc⟩]
          · rw [if_neg hc, if_pos z0, if_neg (fun q => hc q.2)]
        · have hg2 := fig_ge e4
          rw [if_pos (by omega), nI_add, ald_v (by omega) (by decide), hT.2.1 (a + 1) e3, pk_mul, nI_add, pk_sub (by omega), nm_v, in_v (by omega) (by omega), ob_v, e2]
          by_cases hc : 10 * (t a - 48) + t (a + 1) - 48 ≤ b
          · rw [if_pos hc, if_neg z1, if_pos ⟨rfl, hc⟩]
          · rw [if_neg hc, if_pos z0, if_neg (fun q => hc q.2)]
      · rw [if_neg h2, if_neg h2, if_neg (fun q => by omega)]
  · rw [show decide (a < len) = false from decide_eq_false h1, Bool.false_and, if_neg (by decide), kd_e h1, if_neg (fun q => by omega)]
