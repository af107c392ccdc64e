/-! the class's tokens -/
theorem xI_s (X : TX) (k : Nat) (x : Int32) : (xI X k x).2 k = x := if_pos rfl
theorem xI_n (X : TX) {k j : Nat} (x : Int32) (h : j ≠ k) : (xI X k x).2 j = X.2 j := if_neg h
/-- the bytes, their length and the ITEM at hand stay -/
def FX (X X' : TX) : Prop := X'.1 = X.1 ∧ X'.2 1 = X.2 1 ∧ ∀ k, 6 ≤ k → X'.2 k = X.2 k
theorem FX.r (X : TX) : FX X X := ⟨rfl, rfl, fun _ _ => rfl⟩
theorem FX.t {X Y Z : TX} (h1 : FX X Y) (h2 : FX Y Z) : FX X Z := ⟨h2.1.trans h1.1, h2.2.1.trans h1.2.1, fun k hk => (h2.2.2 k hk).trans (h1.2.2 k hk)⟩
theorem FX.m (X : TX) {k : Nat} (x : Int32) (h : 1 ≠ k ∧ k < 6) : FX X (xI X k x) := ⟨rfl, xI_n X x h.1, fun j hj => xI_n X x (by omega)⟩
theorem TC.f {t : Nat → Nat} {len : Nat} {X X' : TX} (h : TC t len X) (hf : FX X X') : TC t len X' := ⟨hf.2.1.trans h.1, by rw [hf.1]; exact h.2⟩
def Tk (t : Nat → Nat) (len a : Nat) (X : TX) : Prop := X.2 3 = nI a ∧ X.2 5 = nI (en t len a) ∧ X.2 2 = nI (kd t len a) ∧ (kd t len a = 3 → X.2 4 = nI (nu t len a))
theorem byte_v {t : Nat → Nat} {len i : Nat} {X : TX} (hO : TextOk t len) (h : TC t len X) (hi : i ≤ 1000) : mX0_byteAt X (nI i) = some (if i < len then nI (t i) else -1) := by
  have h150 := hO.1
  unfold mX0_byteAt
  rw [if_neg (nI_pos (by omega)), h.1, ifN_le (by omega) (by omega), ifN_le (by decide) (by omega)]
  by_cases hc : i < len
  · rw [if_neg (by omega), if_neg (by omega), ald_v (by omega) (by decide), h.2 i hc, if_pos hc]
  · rw [if_pos (by omega), if_neg hc]
theorem sch_v : ∀ i, i < 3 → ∀ k, k < 7 → k < (wch i).length → sch i (nI k) = some (nI ((wch i).getD k 0)) := by decide +kernel
theorem sLen_v : ∀ i, i < 3 → sLen.getD i 0 = (wch i).length := by decide +kernel
theorem alW_s (t : Nat → Nat) (w a k m : Nat) : alW t w a k (m + 1) = (decide (t (a + k) = (wch w).getD k 0) && alW t w a (k + 1) m) := by
  unfold alW
  rw [List.range'_succ, List.all_cons]
theorem stands_L {t : Nat → Nat} {len a i : Nat} {X : TX} (hO : TextOk t len) (hT : TC t len X) (h3 : X.2 3 = nI a) (hi : i < 3) (ha : a + (wch i).length ≤ len) : ∀ m k, k + m = (wch i).length → ∀ n, m < n → mX0_standsThere_L20 i X n (nI k) = some (if alW t i a k m then nI 1 else nI 0) := by
  have h150 := hO.1
  have hl := wc_l i hi
  intro m
  induction m with
  | zero =>
    intro k hk n hn
    obtain ⟨n, rfl⟩ : ∃ j, n = j + 1 := ⟨n - 1, by omega⟩
    rw [mX0_standsThere_L20_s, sLen_v i hi, if_pos (nI_le (by omega) (by omega)), zo_1]
    rfl
  | succ m ih =>
    intro k hk n hn
    obtain ⟨n, rfl⟩ : ∃ j, n = j + 1 := ⟨n - 1, by omega⟩
    rw [mX0_standsThere_L20_s, sLen_v i hi, if_neg (nI_ge (by omega) (by omega)), h3, nI_add, byte_v hO hT (by omega), if_pos (by omega), ob_v, sch_v i hi k (by omega) (by omega), ob_v, ifN_eq (by have := hO.2 (a + k) (by omega); omega) (by have := wc_lt i hi k (by omega); omega), alW_s]
    by_cases hq : t (a + k) = (wch i).getD k 0
    · rw [if_pos hq, nm_v, nI_add, ih (k + 1) (by omega) n (by omega), show decide (t (a + k) = (wch i).getD k 0) = true from decide_eq_true hq]
      rfl
    · rw [if_neg hq, zo_0, show decide (t (a + k) = (wch i).getD k 0) = false from decide_eq_false hq]
      rfl
theorem stands_v {t : Nat → Nat} {len a e i : Nat} {X : TX} (hO : TextOk t len) (hT : TC t len X) (h3 : X.2 3 = nI a) (h5 : X.2 5 = nI e) (ha : a ≤ e) (he : e ≤ len) (hi : i < 3) : mX0_standsThere i X = some (if isW t i a e then nI 1 else nI 0) := by
  have h150 := hO.1
  have hl := wc_l i hi
  unfold mX0_standsThere isW
  rw [h3, h5, pk_sub ha, sLen_v i hi, ifN_eq (by omega) (by omega)]
  by_cases hc : e - a = (wch i).length
  · rw [if_pos hc, stands_L hO hT h3 hi (by omega) (wch i).length 0 (by omega) FU (by unfold FU; omega), show decide (e - a = (wch i).length) = true from decide_eq_true hc, Bool.true_and]
  · rw [if_neg hc, zo_0, show decide (e - a = (wch i).length) = false from decide_eq_false hc]
    rfl
def wd (t : Nat → Nat) (a e : Nat) : Nat := if isW t 0 a e then 4 else if isW t 1 a e then 5 else if isW t 2 a e then 6 else 1
/-- the word is told -/
theorem tell_v {t : Nat → Nat} {len a e : Nat} {X : TX} (hO : TextOk t len) (hT : TC t len X) (h3 : X.2 3 = nI a) (h5 : X.2 5 = nI e) (ha : a ≤ e) (he : e ≤ len) : ((mX0_standsThere 0 X).bind fun r1 => (if r1 = 0 then (mX0_standsThere 1 X).bind fun r2 => (if r2 = 0 then (mX0_standsThere 2 X).bind fun r3 => (if r3 = 0 then nm (xI X 2 (nI 1)) fun S4 => some S4 else nm (xI X 2 (nI 6)) fun S5 => some S5) else nm (xI X 2 (nI 5)) fun S6 => some S6) else nm (xI X 2 (nI 4)) fun S7 => some S7)) = some (xI X 2 (nI (wd t a e))) := by
  rw [stands_v hO hT h3 h5 ha he (by decide), stands_v hO hT h3 h5 ha he (by decide), stands_v hO hT h3 h5 ha he (by decide), ob_v, ob_v, ob_v, ifB, ifB, ifB]
  unfold wd
  cases isW t 0 a e <;> cases isW t 1 a e <;> cases isW t 2 a e <;> rfl
theorem word_v {t : Nat → Nat} {len a : Nat} (hO : TextOk t len) : ∀ m b, b + m = len → a ≤ b → ∀ n, m < n → ∀ X : TX, TC t len X → X.2 3 = nI a → X.2 5 = nI b → ∃ X', mX0_advanceOverWord_L0 n X = some X' ∧ X'.2 3 = nI a ∧ X'.2 5 = nI (run ltr t len b) ∧ X'.2 2 = nI (wd t a (run ltr t len b)) ∧ FX X X' := by
  have h150 := hO.1
  intro m
  induction m with
  | zero =>
    intro b hb hab n hn X hT h3 h5
    obtain ⟨n, rfl⟩ : ∃ j, n = j + 1 := ⟨n - 1, by omega⟩
    rw [mX0_advanceOverWord_L0_s, hT.1, h5, if_pos (nI_le (by omega) (by omega)), tell_v hO hT h3 h5 hab (by omega), run_n (fun q => by omega)]
    exact ⟨_, rfl, (xI_n _ _ (by decide)).trans h3, (xI_n _ _ (by decide)).trans h5, xI_s _ _ _, FX.m X _ (by decide)⟩
  | succ m ih =>
    intro b hb hab n hn X hT h3 h5
    obtain ⟨n, rfl⟩ : ∃ j, n = j + 1 := ⟨n - 1, by omega⟩
    rw [mX0_advanceOverWord_L0_s, hT.1, h5, if_neg (nI_ge (by omega) (by omega)), byte_v hO hT (by omega), if_pos (by omega), ob_v, ci_l _ (hO.2 b (by omega)), ob_v, ifB]
    cases hl : ltr (t b)
    · rw [if_neg (by decide), tell_v hO hT h3 h5 hab (by omega), run_n (fun q => by rw [hl] at q; exact absurd q.2 (by decide))]
      exact ⟨_, rfl, (xI_n _ _ (by decide)).trans h3, (xI_n _ _ (by decide)).trans h5, xI_s _ _ _, FX.m X _ (by decide)⟩
    · rw [if_pos rfl, nm_v, nI_add, run_y (by omega) hl]
      obtain ⟨X', w1, w2, w3, w4, w5⟩ := ih (b + 1) (by omega) (by omega) n (by omega) (xI X 5 (nI (b + 1))) (hT.f (FX.m X _ (by decide))) ((xI_n _ _ (by decide)).trans h3) (xI_s _ _ _)
      exact ⟨X', w1, w2, w3, w4, (FX.m X _ (by decide)).t w5⟩
theorem figs_v {t : Nat → Nat} {len a : Nat} (hO : TextOk t len) : ∀ m b, b + m = len → a ≤ b → (∀ k, a ≤ k → k < b → fig (t k) = true) → ∀ n, m < n → ∀ X : TX, TC t len X → X.2 3 = nI a → X.2 5 = nI b → X.2 4 = nI (nb t a b) → ∃ X', mX0_advanceOverFigures_L5 n X = some X' ∧ X'.2 3 = nI a ∧ X'.2 5 = nI (run fig t len b) ∧ X'.2 2 = nI (if run fig t len b - a ≤ 2 then 3 else 1) ∧ X'.2 4 = nI (nb t a (run fig t len b)) ∧ FX X X' := by
  have h150 := hO.1
  intro m
  induction m with
  | zero =>
    intro b hb hab hfa n hn X hT h3 h5 h4
    obtain ⟨n, rfl⟩ : ∃ j, n = j + 1 := ⟨n - 1, by omega⟩
    rw [mX0_advanceOverFigures_L5_s, hT.1, h5, h3, if_pos (nI_le (by omega) (by omega)), pk_sub hab, ifN_lt (by decide) (by omega), run_n (fun q => by omega)]
    by_cases hc : b - a ≤ 2
    · rw [if_neg (by omega), if_pos hc]
      exact ⟨_, rfl, (xI_n _ _ (by decide)).trans h3, (xI_n _ _ (by decide)).trans h5, xI_s _ _ _, (xI_n _ _ (by decide)).trans h4, FX.m X _ (by decide)⟩
    · rw [if_pos (by omega), if_neg hc]
      exact ⟨_, rfl, (xI_n _ _ (by decide)).trans h3, (xI_n _ _ (by decide)).trans h5, xI_s _ _ _, (xI_n _ _ (by decide)).trans h4, FX.m X _ (by decide)⟩
  | succ m ih =>
    intro b hb hab hfa n hn X hT h3 h5 h4
    obtain ⟨n, rfl⟩ : ∃ j, n = j + 1 := ⟨n - 1, by omega⟩
    have h128 := hO.2 b (by omega)
    rw [mX0_advanceOverFigures_L5_s, hT.1, h5, h3, if_neg (nI_ge (by omega) (by omega)), byte_v hO hT (by omega), if_pos (show b < len by omega), ob_v, ci_f _ h128, ob_v, ifB, pk_sub hab, ifN_lt (by decide) (by omega), ifN_le (by decide) (by omega), nI_add, ob_v, h4]
    cases hf : fig (t b)
    · rw [if_neg (by decide), run_n (fun q => by rw [hf] at q; exact absurd q.2 (by decide))]
      by_cases hc : b - a ≤ 2
      · rw [if_neg (by omega), if_pos hc]
        exact ⟨_, rfl, (xI_n _ _ (by decide)).trans h3, (xI_n _ _ (by decide)).trans h5, xI_s _ _ _, (xI_n _ _ (by decide)).trans h4, FX.m X _ (by decide)⟩
      · rw [if_pos (by omega), if_neg hc]
        exact ⟨_, rfl, (xI_n _ _ (by decide)).trans h3, (xI_n _ _ (by decide)).trans h5, xI_s _ _ _, (xI_n _ _ (by decide)).trans h4, FX.m X _ (by decide)⟩
    · have hg := fig_ge hf
      have hfa2 : ∀ k, a ≤ k → k < b + 1 → fig (t k) = true := fun k h1 h2 => by
        by_cases hk : k = b
        · rw [hk]; exact hf
        · exact hfa k h1 (by omega)
      rw [if_pos rfl, run_y (by omega) hf]
      by_cases hc : 2 ≤ b - a
      · have en' : nb t a (b + 1) = nb t a b := by
          unfold nb
          rw [if_neg (by omega), if_neg (by omega), if_neg (by omega), if_neg (by omega)]
        rw [if_pos hc, nm_v]
        obtain ⟨X', w1, w2, w3, w4, w5, w6⟩ := ih (b + 1) (by omega) (by omega) hfa2 n (by omega) (xI X 5 (nI (b + 1))) (hT.f (FX.m X _ (by decide))) ((xI_n _ _ (by decide)).trans h3) (xI_s _ _ _) (by rw [en']; exact (xI_n _ _ (by decide)).trans h4)
        exact ⟨X', w1, w2, w3, w4, w5, (FX.m X _ (by decide)).t w6⟩
      · have en' : 10 * nb t a b + t b - 48 = nb t a (b + 1) := by
          unfold nb
          by_cases hba : b = a
          · rw [if_pos (by omega), if_neg (by omega), if_pos (by omega), hba]
            omega
          · rw [if_neg (by omega), if_pos (by omega), if_neg (by omega), if_neg (by omega), show a + 1 = b by omega]
        rw [if_neg hc, pk_mul, nI_add, pk_sub (by omega), en', nm_v, show (xI X 4 (nI (nb t a (b + 1)))).2 5 = nI b from (xI_n _ _ (by decide)).trans h5, nI_add, nm_v]
        have hX : FX X (xI (xI X 4 (nI (nb t a (b + 1)))) 5 (nI (b + 1))) := (FX.m X _ (by decide)).t (FX.m _ _ (by decide))
        obtain ⟨X', w1, w2, w3, w4, w5, w6⟩ := ih (b + 1) (by omega) (by omega) hfa2 n (by omega) (xI (xI X 4 (nI (nb t a (b + 1)))) 5 (nI (b + 1))) (hT.f hX) ((xI_n _ _ (by decide)).trans ((xI_n _ _ (by decide)).trans h3)) (xI_s _ _ _) ((xI_n _ _ (by decide)).trans (xI_s _ _ _))
        exact ⟨X', w1, w2, w3, w4, w5, hX.t w6⟩
/-- the token at hand is told -/
theorem here_v {t : Nat → Nat} {len a : Nat} {X : TX} (hO : TextOk t len) (hT : TC t len X) (h5 : X.2 5 = nI a) (ha : a ≤ len) : ∃ X', (nm (xI X 3 (X.2 5)) fun S1 => (mX0_byteAt S1 (S1.2 5)).bind fun r2 => (if r2 = (-1 : Int32) then nm (xI S1 2 (nI 0)) fun S10 => some S10 else (mX0_isLetter r2).bind fun r3 => (if r3 = 0 then (mX0_isFigure r2).bind fun r4 => (if r4 = 0 then nm (xI S1 5 ((S1.2 5) + (nI 1))) fun S5 => (if r2 = (nI 59) then nm (xI S5 2 (nI 2)) fun S7 => some S7 else nm (xI S5 2 (nI 1)) fun S6 => some S6) else (mX0_advanceOverFigures S1).bind fun S8 => some S8) else (mX0_advanceOverWord S1).bind fun S9 => some S9))) = some X' ∧ Tk t len a X' ∧ FX X X' := by
  have h150 := hO.1
  rw [nm_v, h5]
  obtain ⟨Y, hY⟩ : ∃ Y, Y = xI X 3 (nI a) := ⟨_, rfl⟩
  have hF : FX X Y := by rw [hY]; exact FX.m X _ (by decide)
  have hTY := hT.f hF
  have y3 : Y.2 3 = nI a := by rw [hY]; exact xI_s _ _ _
  have y5 : Y.2 5 = nI a := by rw [hY]; exact (xI_n _ _ (by decide)).trans h5
  rw [← hY, y5, byte_v hO hTY (by omega), ob_v]
  by_cases hc : a < len
  · have h128 := hO.2 a hc
    rw [if_pos hc, if_neg (fun q => (nI_m1 (by omega)).mp q), ci_l _ h128, ob_v, ifB, ci_f _ h128, ob_v, ifB, nI_add]
    cases hl : ltr (t a)
    · rw [if_neg (by decide)]
      cases hf : fig (t a)
      · have ee : en t len a = a + 1 := by
          unfold en
          rw [if_pos hc, hl, hf]
          rfl
        rw [if_neg (by decide), nm_v, ifN_eq (by omega) (by decide)]
        have hk := kd_o hc hl hf
        by_cases h59 : t a = 59
        · rw [if_pos h59] at hk
          rw [if_pos h59, nm_v]
          refine ⟨_, rfl, ⟨(xI_n _ _ (by decide)).trans ((xI_n _ _ (by decide)).trans y3), ?_, ?_, fun q => ?_⟩, hF.t ((FX.m Y _ (by decide)).t (FX.m _ _ (by decide)))⟩
          · rw [xI_n _ _ (by decide), xI_s, ee]
          · rw [xI_s, hk]
          · rw [hk] at q; exact absurd q (by decide)
        · rw [if_neg h59] at hk
          rw [if_neg h59, nm_v]
          refine ⟨_, rfl, ⟨(xI_n _ _ (by decide)).trans ((xI_n _ _ (by decide)).trans y3), ?_, ?_, fun q => ?_⟩, hF.t ((FX.m Y _ (by decide)).t (FX.m _ _ (by decide)))⟩
          · rw [xI_n _ _ (by decide), xI_s, ee]
          · rw [xI_s, hk]
          · rw [hk] at q; exact absurd q (by decide)
      · rw [if_pos rfl]
        unfold mX0_advanceOverFigures
        rw [nm_v]
        obtain ⟨X', w1, w2, w3, w4, w5, w6⟩ := figs_v hO (len - a) a (by omega) (Nat.le_refl a) (fun k h1 h2 => absurd h2 (by omega)) FU (by unfold FU; omega) (xI Y 4 (nI 0)) (hTY.f (FX.m Y _ (by decide))) ((xI_n _ _ (by decide)).trans y3) ((xI_n _ _ (by decide)).trans y5) (by rw [xI_s]; unfold nb; rw [if_pos (Nat.le_refl a)])
        rw [w1, ob_v]
        have ee := en_f hc hl hf
        refine ⟨X', rfl, ⟨w2, ?_, ?_, fun _ => ?_⟩, hF.t ((FX.m Y _ (by decide)).t w6)⟩
        · rw [w3, ee]
        · rw [w4, kd_f hc hl hf, ee]
        · rw [w5]
          unfold nu
          rw [ee]
    · rw [if_pos rfl]
      unfold mX0_advanceOverWord
      obtain ⟨X', w1, w2, w3, w4, w5⟩ := word_v hO (len - a) a (by omega) (Nat.le_refl a) FU (by unfold FU; omega) Y hTY y3 y5
      rw [w1, ob_v]
      have ee := en_l hc hl
      have hk := kd_l hc hl
      refine ⟨X', rfl, ⟨w2, ?_, ?_, fun q => ?_⟩, hF.t w5⟩
      · rw [w3, ee]
      · rw [w4, hk, ee]
        rfl
      · rw [hk] at q
        (repeat' split at q) <;> omega
  · have ee : en t len a = a := by
      unfold en
      rw [if_neg hc]
    have hk := kd_e (t := t) hc
    rw [if_neg hc, if_pos rfl, nm_v]
    refine ⟨_, rfl, ⟨(xI_n _ _ (by decide)).trans y3, ?_, ?_, fun q => ?_⟩, hF.t (FX.m Y _ (by decide))⟩
    · rw [xI_n _ _ (by decide), y5, ee]
    · rw [xI_s, hk]
    · rw [hk] at q; exact absurd q (by decide)
theorem adv_L {t : Nat → Nat} {len : Nat} (hO : TextOk t len) : ∀ m i, i + m = len → ∀ n, m < n → ∀ X : TX, TC t len X → X.2 5 = nI i → ∃ X', mX0_advance_L0 n X = some X' ∧ Tk t len (sk t len i) X' ∧ FX X X' := by
  have h150 := hO.1
  intro m
  induction m with
  | zero =>
    intro i hi n hn X hT h5
    obtain ⟨n, rfl⟩ : ∃ j, n = j + 1 := ⟨n - 1, by omega⟩
    have q := here_v hO hT h5 (by omega)
    have es : sk t len i = i := run_n (fun q => by omega)
    rw [mX0_advance_L0_s, hT.1, h5, if_pos (nI_le (by omega) (by omega)), es]
    rw [h5] at q
    exact q
  | succ m ih =>
    intro i hi n hn X hT h5
    obtain ⟨n, rfl⟩ : ∃ j, n = j + 1 := ⟨n - 1, by omega⟩
    have h128 := hO.2 i (by omega)
    have q := here_v hO hT h5 (by omega)
    rw [mX0_advance_L0_s, hT.1, h5, if_neg (nI_ge (by omega) (by omega)), byte_v hO hT (by omega), if_pos (by omega), ob_v, ifN_eq (by omega) (by decide), nI_add]
    by_cases hb : t i = 32
    · have es : sk t len i = sk t len (i + 1) := run_y (by omega) (show blk (t i) = true by unfold blk; simp [hb])
      rw [if_pos hb, nm_v, es]
      obtain ⟨X', w1, w2, w3⟩ := ih (i + 1) (by omega) n (by omega) (xI X 5 (nI (i + 1))) (hT.f (FX.m X _ (by decide))) (xI_s _ _ _)
      exact ⟨X', w1, w2, (FX.m X _ (by decide)).t w3⟩
    · have es : sk t len i = i := run_n (fun q => hb (by have := q.2; unfold blk at this; simpa using this))
      rw [if_neg hb, es]
      rw [h5] at q
      exact q
theorem adv_v {t : Nat → Nat} {len i : Nat} (hO : TextOk t len) {X : TX} (hT : TC t len X) (hi : i ≤ len) (h5 : X.2 5 = nI i) : ∃ X', mX0_advance X = some X' ∧ Tk t len (sk t len i) X' ∧ FX X X' :=
  adv_L hO (len - i) i (by omega) FU (by have := hO.1; unfold FU; omega) X hT h5
