/-! THE TEXT's tokens: where each begins and ends, what it is; both readers find the same -/
def ltr (c : Nat) : Bool := decide (97 ≤ c) && decide (c ≤ 122)
def fig (c : Nat) : Bool := decide (48 ≤ c) && decide (c ≤ 57)
def rn (P : Nat → Bool) (t : Nat → Nat) (len : Nat) : Nat → Nat → Nat
  | 0, i => i
  | m + 1, i => if i < len ∧ P (t i) = true then rn P t len m (i + 1) else i
/-- the first place from i on that isn't in the run -/
def run (P : Nat → Bool) (t : Nat → Nat) (len i : Nat) : Nat := rn P t len (len - i) i
theorem run_s (P : Nat → Bool) (t : Nat → Nat) (len i : Nat) : run P t len i = if i < len ∧ P (t i) = true then run P t len (i + 1) else i := by
  unfold run
  by_cases h : i < len
  · obtain ⟨m, hm⟩ : ∃ m, len - i = m + 1 := ⟨len - i - 1, by omega⟩
    rw [hm, show len - (i + 1) = m by omega]
    rfl
  · rw [show len - i = 0 by omega, if_neg (fun q => h q.1)]
    rfl
theorem run_y {P : Nat → Bool} {t : Nat → Nat} {len i : Nat} (h : i < len) (hp : P (t i) = true) : run P t len i = run P t len (i + 1) := by rw [run_s, if_pos ⟨h, hp⟩]
theorem run_n {P : Nat → Bool} {t : Nat → Nat} {len i : Nat} (h : ¬ (i < len ∧ P (t i) = true)) : run P t len i = i := by rw [run_s, if_neg h]
theorem run_b (P : Nat → Bool) (t : Nat → Nat) (len : Nat) : ∀ m i, i + m = len → i ≤ run P t len i ∧ run P t len i ≤ len := by
  intro m
  induction m with
  | zero => intro i hi; rw [run_n (fun q => by omega)]; omega
  | succ m ih =>
    intro i hi
    rw [run_s]
    have := ih (i + 1) (by omega)
    split <;> omega
theorem run_in {P : Nat → Bool} {t : Nat → Nat} {len : Nat} : ∀ m i, i + m = len → ∀ k, i ≤ k → k < run P t len i → P (t k) = true := by
  intro m
  induction m with
  | zero => intro i hi k h1 h2; rw [run_n (fun q => by omega)] at h2; omega
  | succ m ih =>
    intro i hi k h1 h2
    by_cases hc : i < len ∧ P (t i) = true
    · rw [run_y hc.1 hc.2] at h2
      by_cases hk : k = i
      · rw [hk]; exact hc.2
      · exact ih (i + 1) (by omega) k (by omega) h2
    · rw [run_n hc] at h2
      omega
def blk (c : Nat) : Bool := decide (c = 32)
def sk (t : Nat → Nat) (len i : Nat) : Nat := run blk t len i
def en (t : Nat → Nat) (len i : Nat) : Nat := if i < len then (if ltr (t i) then run ltr t len i else if fig (t i) then run fig t len i else i + 1) else i
theorem sk_b {t : Nat → Nat} {len i : Nat} (h : i ≤ len) : i ≤ sk t len i ∧ sk t len i ≤ len := run_b blk t len (len - i) i (by omega)
theorem en_b {t : Nat → Nat} {len i : Nat} (h : i ≤ len) : i ≤ en t len i ∧ en t len i ≤ len ∧ (i < len → i < en t len i) := by
  unfold en
  by_cases hi : i < len
  · rw [if_pos hi]
    have h1 := run_b ltr t len (len - (i + 1)) (i + 1) (by omega)
    have h2 := run_b fig t len (len - (i + 1)) (i + 1) (by omega)
    cases hl : ltr (t i)
    · rw [if_neg (by decide)]
      cases hf : fig (t i)
      · rw [if_neg (by decide)]
        omega
      · rw [if_pos rfl, run_y hi hf]
        omega
    · rw [if_pos rfl, run_y hi hl]
      omega
  · rw [if_neg hi]
    omega
def wch : Nat → List Nat
  | 0 => [98, 111, 111, 107]
  | 1 => [102, 105, 99, 116, 105, 111, 110]
  | _ => [99, 111, 117, 114, 116]
def alW (t : Nat → Nat) (w a k m : Nat) : Bool := (List.range' k m).all fun j => decide (t (a + j) = (wch w).getD j 0)
def isW (t : Nat → Nat) (w a e : Nat) : Bool := decide (e - a = (wch w).length) && alW t w a 0 (wch w).length
/-- what stands at a: 0 the end, 1 nothing, 2 a stop, 3 a number, 4 5 6 the words -/
def kd (t : Nat → Nat) (len a : Nat) : Nat := if a < len then (if ltr (t a) then (if isW t 0 a (en t len a) then 4 else if isW t 1 a (en t len a) then 5 else if isW t 2 a (en t len a) then 6 else 1) else if fig (t a) then (if en t len a - a ≤ 2 then 3 else 1) else if t a = 59 then 2 else 1) else 0
/-- the number of the figures from a to e -/
def nb (t : Nat → Nat) (a e : Nat) : Nat := if e ≤ a then 0 else if e = a + 1 then t a - 48 else 10 * (t a - 48) + t (a + 1) - 48
def nu (t : Nat → Nat) (len a : Nat) : Nat := nb t a (en t len a)
def TextOk (t : Nat → Nat) (len : Nat) : Prop := len ≤ 150 ∧ ∀ k, k < len → t k < 128
def TM (t : Nat → Nat) (len : Nat) (S : MS) : Prop := S.2.1 6 = nI len ∧ (∀ k, k < len → S.1 5 k = nI (t k)) ∧ S.1 7 = wordsF
def TC (t : Nat → Nat) (len : Nat) (X : TX) : Prop := X.2 1 = nI len ∧ ∀ k, k < len → X.1 k = nI (t k)
theorem in_l : ∀ c, c < 128 → mX11_in (nI c) (nI 97) (nI 122) = some (if ltr c then nI 1 else nI 0) := by decide +kernel
theorem in_f : ∀ c, c < 128 → mX11_in (nI c) (nI 48) (nI 57) = some (if fig c then nI 1 else nI 0) := by decide +kernel
theorem ci_l : ∀ c, c < 128 → mX0_isLetter (nI c) = some (if ltr c then nI 1 else nI 0) := by decide +kernel
theorem ci_f : ∀ c, c < 128 → mX0_isFigure (nI c) = some (if fig c then nI 1 else nI 0) := by decide +kernel
theorem lf_x : ∀ c, c < 128 → ltr c = true → fig c = false := by decide +kernel
theorem isL_v {t : Nat → Nat} {len k : Nat} {S : MS} (hO : TextOk t len) (h : TM t len S) (hk : k ≤ 1000) : mX11_isLetter S (nI k) = some (if (decide (k < len) && ltr (t k)) then nI 1 else nI 0) := by
  have h1 := hO.1
  unfold mX11_isLetter
  rw [h.1, ifN_le (by omega) (by omega)]
  by_cases hc : len ≤ k
  · rw [if_pos hc, zo_0, show decide (k < len) = false by simp; omega]
    rfl
  · rw [if_neg hc, ald_v (by omega) (by decide), h.2.1 k (by omega), in_l _ (hO.2 k (by omega)), ob_v, ifB, zo_0, zo_1, show decide (k < len) = true by simp; omega, Bool.true_and]
    cases ltr (t k) <;> rfl
theorem isFg_v {t : Nat → Nat} {len k : Nat} {S : MS} (hO : TextOk t len) (h : TM t len S) (hk : k ≤ 1000) : mX11_isFigure S (nI k) = some (if (decide (k < len) && fig (t k)) then nI 1 else nI 0) := by
  have h1 := hO.1
  unfold mX11_isFigure
  rw [h.1, ifN_le (by omega) (by omega)]
  by_cases hc : len ≤ k
  · rw [if_pos hc, zo_0, show decide (k < len) = false by simp; omega]
    rfl
  · rw [if_neg hc, ald_v (by omega) (by decide), h.2.1 k (by omega), in_f _ (hO.2 k (by omega)), ob_v, ifB, zo_0, zo_1, show decide (k < len) = true by simp; omega, Bool.true_and]
    cases fig (t k) <;> rfl
/-- only the two places of the token have changed -/
def F89 (S S' : MS) : Prop := S'.1 = S.1 ∧ S'.2.2 = S.2.2 ∧ ∀ j, j ≠ 8 → j ≠ 9 → S'.2.1 j = S.2.1 j
theorem F89.r (S : MS) : F89 S S := ⟨rfl, rfl, fun _ _ _ => rfl⟩
theorem F89.t {S T U : MS} (h1 : F89 S T) (h2 : F89 T U) : F89 S U := ⟨h2.1.trans h1.1, h2.2.1.trans h1.2.1, fun j a b => (h2.2.2 j a b).trans (h1.2.2 j a b)⟩
theorem F89.m8 (S : MS) (x : Int32) : F89 S (mI S 8 x) := ⟨rfl, rfl, fun j a _ => mI_n S x a⟩
theorem F89.m9 (S : MS) (x : Int32) : F89 S (mI S 9 x) := ⟨rfl, rfl, fun j _ b => mI_n S x b⟩
theorem TM.f {t : Nat → Nat} {len : Nat} {S S' : MS} (h : TM t len S) (hf : F89 S S') : TM t len S' := ⟨(hf.2.2 6 (by decide) (by decide)).trans h.1, by rw [hf.1]; exact h.2.1, by rw [hf.1]; exact h.2.2⟩
def At (t : Nat → Nat) (len a : Nat) (S : MS) : Prop := S.2.1 8 = nI a ∧ S.2.1 9 = nI (en t len a)
theorem n74_l {t : Nat → Nat} {len a : Nat} (hO : TextOk t len) (ha : a < len) (hl : ltr (t a) = true) : ∀ m b, b + m = len → ∀ n, m < n → ∀ S : MS, TM t len S → S.2.1 8 = nI a → S.2.1 9 = nI b → ∃ S', mX11_next_L74 n S = some S' ∧ S'.2.1 8 = nI a ∧ S'.2.1 9 = nI (run ltr t len b) ∧ F89 S S' := by
  have h150 := hO.1
  have hf := lf_x _ (hO.2 a ha) hl
  intro m
  induction m with
  | zero =>
    intro b hb n hn S hT h8 h9
    obtain ⟨n, rfl⟩ : ∃ j, n = j + 1 := ⟨n - 1, by omega⟩
    rw [mX11_next_L74_s, h8, h9, isL_v hO hT (by omega), isL_v hO hT (by omega), isFg_v hO hT (by omega), ob_v, ob_v, ob_v, ifB, ifB, ifB, run_n (fun q => by omega), hl, hf, show decide (a < len) = true by simp; omega, show decide (b < len) = false by simp; omega]
    exact ⟨S, rfl, h8, h9, F89.r S⟩
  | succ m ih =>
    intro b hb n hn S hT h8 h9
    obtain ⟨n, rfl⟩ : ∃ j, n = j + 1 := ⟨n - 1, by omega⟩
    rw [mX11_next_L74_s, h8, h9, isL_v hO hT (by omega), isL_v hO hT (by omega), isFg_v hO hT (by omega), ob_v, ob_v, ob_v, ifB, ifB, ifB, hl, hf, show decide (a < len) = true by simp; omega, show decide (b < len) = true by simp; omega]
    cases hb2 : ltr (t b)
    · rw [run_n (fun q => by rw [hb2] at q; exact absurd q.2 (by decide))]
      exact ⟨S, rfl, h8, h9, F89.r S⟩
    · rw [run_y (by omega) hb2]
      rw [show (true && true) = true from rfl, if_pos rfl, if_pos rfl, nm_v, nI_add]
      obtain ⟨S', w1, w2, w3, w4⟩ := ih (b + 1) (by omega) n (by omega) (mI S 9 (nI (b + 1))) (hT.f (F89.m9 S _)) h8 (mI_s _ _ _)
      exact ⟨S', w1, w2, w3, (F89.m9 S _).t w4⟩
theorem fl_x : ∀ c, c < 128 → fig c = true → ltr c = false := by decide +kernel
theorem n74_f {t : Nat → Nat} {len a : Nat} (hO : TextOk t len) (ha : a < len) (hf : fig (t a) = true) : ∀ m b, b + m = len → ∀ n, m < n → ∀ S : MS, TM t len S → S.2.1 8 = nI a → S.2.1 9 = nI b → ∃ S', mX11_next_L74 n S = some S' ∧ S'.2.1 8 = nI a ∧ S'.2.1 9 = nI (run fig t len b) ∧ F89 S S' := by
  have h150 := hO.1
  have hl := fl_x _ (hO.2 a ha) hf
  intro m
  induction m with
  | zero =>
    intro b hb n hn S hT h8 h9
    obtain ⟨n, rfl⟩ : ∃ j, n = j + 1 := ⟨n - 1, by omega⟩
    rw [mX11_next_L74_s, h8, h9, isL_v hO hT (by omega), isL_v hO hT (by omega), isFg_v hO hT (by omega), isFg_v hO hT (by omega), ob_v, ob_v, ob_v, ob_v, ifB, ifB, ifB, ifB, run_n (fun q => by omega), hl, hf, show decide (a < len) = true by simp; omega, show decide (b < len) = false by simp; omega]
    exact ⟨S, rfl, h8, h9, F89.r S⟩
  | succ m ih =>
    intro b hb n hn S hT h8 h9
    obtain ⟨n, rfl⟩ : ∃ j, n = j + 1 := ⟨n - 1, by omega⟩
    rw [mX11_next_L74_s, h8, h9, isL_v hO hT (by omega), isFg_v hO hT (by omega), isFg_v hO hT (by omega), ob_v, ifB, hl, hf, show decide (a < len) = true by simp; omega, show decide (b < len) = true by simp; omega, show (true && false) = false from rfl, if_neg (by decide), ob_v, ob_v, ifB, ifB, show (true && true) = true from rfl, if_pos rfl, Bool.true_and]
    cases hb2 : fig (t b)
    · rw [run_n (fun q => by rw [hb2] at q; exact absurd q.2 (by decide))]
      exact ⟨S, rfl, h8, h9, F89.r S⟩
    · rw [run_y (by omega) hb2]
      rw [if_pos rfl, nm_v, nI_add]
      obtain ⟨S', w1, w2, w3, w4⟩ := ih (b + 1) (by omega) n (by omega) (mI S 9 (nI (b + 1))) (hT.f (F89.m9 S _)) h8 (mI_s _ _ _)
      exact ⟨S', w1, w2, w3, (F89.m9 S _).t w4⟩
theorem n74_v {t : Nat → Nat} {len a : Nat} (hO : TextOk t len) (ha : a ≤ len) (S : MS) (hT : TM t len S) (h8 : S.2.1 8 = nI a) (h9 : S.2.1 9 = nI (if a < len then a + 1 else a)) : ∃ S', mX11_next_L74 FU S = some S' ∧ At t len a S' ∧ F89 S S' := by
  have h150 := hO.1
  by_cases hc : a < len
  · rw [if_pos hc] at h9
    cases hl : ltr (t a)
    · cases hf : fig (t a)
      · rw [show FU = 999999 + 1 from rfl, mX11_next_L74_s, h8, isL_v hO hT (by omega), isFg_v hO hT (by omega), ob_v, ob_v, ifB, ifB, hl, hf, Bool.and_false]
        refine ⟨S, rfl, ⟨h8, ?_⟩, F89.r S⟩
        rw [h9]
        unfold en
        rw [if_pos hc, hl, hf]
        rfl
      · obtain ⟨S', w1, w2, w3, w4⟩ := n74_f hO hc hf (len - (a + 1)) (a + 1) (by omega) FU (by unfold FU; omega) S hT h8 h9
        refine ⟨S', w1, ⟨w2, ?_⟩, w4⟩
        rw [w3]
        unfold en
        rw [if_pos hc, hl, hf, run_y hc hf]
        rfl
    · obtain ⟨S', w1, w2, w3, w4⟩ := n74_l hO hc hl (len - (a + 1)) (a + 1) (by omega) FU (by unfold FU; omega) S hT h8 h9
      refine ⟨S', w1, ⟨w2, ?_⟩, w4⟩
      rw [w3]
      unfold en
      rw [if_pos hc, hl, run_y hc hl]
      rfl
  · rw [if_neg hc] at h9
    rw [show FU = 999999 + 1 from rfl, mX11_next_L74_s, h8, isL_v hO hT (by omega), isFg_v hO hT (by omega), ob_v, ob_v, ifB, ifB, show decide (a < len) = false by simp; omega, Bool.false_and, Bool.false_and]
    refine ⟨S, rfl, ⟨h8, ?_⟩, F89.r S⟩
    rw [h9]
    unfold en
    rw [if_neg hc]
theorem n8_v {t : Nat → Nat} {len : Nat} (hO : TextOk t len) : ∀ m i, i + m = len → ∀ n, m < n → ∀ S : MS, TM t len S → S.2.1 8 = nI i → ∃ S', mX11_next_L8 n S = some S' ∧ At t len (sk t len i) S' ∧ F89 S S' := by
  have h150 := hO.1
  intro m
  induction m with
  | zero =>
    intro i hi n hn S hT h8
    obtain ⟨n, rfl⟩ : ∃ j, n = j + 1 := ⟨n - 1, by omega⟩
    rw [mX11_next_L8_s, hT.1, h8, if_pos (nI_le (by omega) (by omega)), if_pos (nI_le (by omega) (by omega)), nm_v]
    unfold sk
    rw [run_n (fun q => by omega)]
    obtain ⟨S', w1, w2, w3⟩ := n74_v hO (show i ≤ len by omega) (mI S 9 (nI i)) (hT.f (F89.m9 S _)) h8 (by rw [if_neg (by omega)]; exact mI_s _ _ _)
    exact ⟨S', w1, w2, (F89.m9 S _).t w3⟩
  | succ m ih =>
    intro i hi n hn S hT h8
    obtain ⟨n, rfl⟩ : ∃ j, n = j + 1 := ⟨n - 1, by omega⟩
    have h128 := hO.2 i (by omega)
    rw [mX11_next_L8_s, hT.1, h8, if_neg (nI_ge (by omega) (by omega)), ald_v (by omega) (by decide), hT.2.1 i (by omega), ifN_eq (by omega) (by decide), if_neg (nI_ge (by omega) (by omega)), nI_add]
    unfold sk
    by_cases hb : t i = 32
    · rw [if_pos hb, nm_v, run_y (by omega) (show blk (t i) = true by unfold blk; simp [hb])]
      obtain ⟨S', w1, w2, w3⟩ := ih (i + 1) (by omega) n (by omega) (mI S 8 (nI (i + 1))) (hT.f (F89.m8 S _)) (mI_s _ _ _)
      exact ⟨S', w1, w2, (F89.m8 S _).t w3⟩
    · rw [if_neg hb, nm_v, run_n (fun q => hb (by have := q.2; unfold blk at this; simpa using this))]
      obtain ⟨S', w1, w2, w3⟩ := n74_v hO (show i ≤ len by omega) (mI S 9 (nI (i + 1))) (hT.f (F89.m9 S _)) h8 (by rw [if_pos (by omega)]; exact mI_s _ _ _)
      exact ⟨S', w1, w2, (F89.m9 S _).t w3⟩
theorem next_v {t : Nat → Nat} {len b : Nat} (hO : TextOk t len) {S : MS} (hT : TM t len S) (hb : b ≤ len) (h9 : S.2.1 9 = nI b) : ∃ S', mX11_next S = some S' ∧ At t len (sk t len b) S' ∧ F89 S S' := by
  have h150 := hO.1
  unfold mX11_next
  rw [nm_v, h9]
  obtain ⟨S', w1, w2, w3⟩ := n8_v hO (len - b) b (by omega) FU (by unfold FU; omega) (mI S 8 (nI b)) (hT.f (F89.m8 S _)) (mI_s _ _ _)
  exact ⟨S', w1, w2, (F89.m8 S _).t w3⟩
