/-! odds: sums of products, and the lowest terms -/
theorem setU_tb (b : Nat → Bool) : ∀ n k, (setU b n).testBit k = (decide (k < n) && b k)
  | 0, k => by simp [setU]
  | n + 1, k => by
    have ih := setU_tb b n k
    have e2 : (2 ^ n).testBit k = decide (n = k) := Nat.testBit_two_pow
    unfold setU
    cases hb : b n
    · rw [if_neg (by decide), ih]
      by_cases h1 : k < n
      · simp [h1, show k < n + 1 by omega]
      · by_cases h2 : k = n
        · subst h2; simp [hb]
        · simp [h1, show ¬ k < n + 1 by omega]
    · rw [if_pos rfl, Nat.testBit_or, ih, e2]
      by_cases h1 : k < n
      · simp [h1, show k < n + 1 by omega, show ¬ n = k by omega]
      · by_cases h2 : k = n
        · subst h2; simp [hb]
        · simp [h1, show ¬ k < n + 1 by omega, show ¬ n = k by omega]
/-- PLEADED ones of which a denial wins -/
def opn (g : Nat → Nat) : Nat := setU (fun f => (g 0).testBit f && winsG g f) (g 4)
theorem opn_tb {g : Nat → Nat} {k : Nat} (hk : k < g 4) : (opn g).testBit k = ((g 0).testBit k && winsG g k) := by
  unfold opn
  rw [setU_tb]
  simp [hk]
theorem opn_lt {K : Nat} {g : Nat → Nat} (hB : BookInv K g) : opn g < 64 := setU_lt' _ hB.1.1
theorem lose_L {K : Nat} {g : Nat → Nat} {M : MT} (hM : MRel g M) (hB : BookInv K g) : ∀ m k, k + m = g 4 → ∀ n, m < n → mX3_pleadedThatLose_L4 M n (nI (setU (fun f => (g 0).testBit f && winsG g f) k)) (nI k) = some (nI (opn g)) := by
  intro m
  induction m with
  | zero =>
    intro k hk n hn
    obtain ⟨n, rfl⟩ : ∃ j, n = j + 1 := ⟨n - 1, by omega⟩
    obtain rfl : k = g 4 := by omega
    have h6 := hB.1.1
    rw [mX3_pleadedThatLose_L4_s, hM.1.1, if_pos (nI_le (Nat.le_refl _) (by omega))]
    rfl
  | succ m ih =>
    intro k hk n hn
    obtain ⟨n, rfl⟩ : ∃ j, n = j + 1 := ⟨n - 1, by omega⟩
    have h6 := hB.1.1
    have hlt := setU_lt' (fun f => (g 0).testBit f && winsG g f) (n := k) (m := 6) (by omega)
    have q := ih (k + 1) (by omega) n (by omega)
    rw [mX3_pleadedThatLose_L4_s, hM.1.1, if_neg (nI_ge (by omega) (by omega)), hM.i.2.1, holds_v _ hB.p64 k (by omega), ob_v, ifB, vC_wins hM hB (by omega), ob_v, ifB]
    cases h1 : (g 0).testBit k
    · rw [if_neg (by decide), nm_v, nI_add]
      rw [show setU (fun f => (g 0).testBit f && winsG g f) (k + 1) = setU (fun f => (g 0).testBit f && winsG g f) k by simp [setU, h1]] at q
      exact q
    · rw [if_pos rfl]
      cases h2 : winsG g k
      · rw [if_neg (by decide), nm_v, nI_add]
        rw [show setU (fun f => (g 0).testBit f && winsG g f) (k + 1) = setU (fun f => (g 0).testBit f && winsG g f) k by simp [setU, h1, h2]] at q
        exact q
      · rw [if_pos rfl, or_bit (by omega) (by omega), nm_v, nm_v, nI_add]
        rw [show setU (fun f => (g 0).testBit f && winsG g f) (k + 1) = setU (fun f => (g 0).testBit f && winsG g f) k ||| 2 ^ k by simp [setU, h1, h2]] at q
        exact q
theorem lose_v {K : Nat} {g : Nat → Nat} {M : MT} (hM : MRel g M) (hB : BookInv K g) : mX3_pleadedThatLose M = some (nI (opn g)) :=
  lose_L hM hB (g 4) 0 (by omega) FU (by have := hB.1.1; unfold FU; omega)
theorem pow_L {b t : Nat} (hb : b < 100) (ht : t < 100) : ∀ m k, k + m = t → ∀ n, m < n → mX10_power_L5 n (nI b) (nI t) (lN (b ^ k)) (nI k) = some (lN (b ^ t)) := by
  intro m
  induction m with
  | zero =>
    intro k hk n hn
    obtain ⟨n, rfl⟩ : ∃ j, n = j + 1 := ⟨n - 1, by omega⟩
    obtain rfl : k = t := by omega
    rw [mX10_power_L5_s, if_pos (nI_le (Nat.le_refl _) (by omega))]
  | succ m ih =>
    intro k hk n hn
    obtain ⟨n, rfl⟩ : ∃ j, n = j + 1 := ⟨n - 1, by omega⟩
    rw [mX10_power_L5_s, if_neg (nI_ge (by omega) (by omega)), nm_v, nm_v, nI_add, nI_l (by omega), lN_mul, ← Nat.pow_succ]
    exact ih (k + 1) (by omega) n (by omega)
theorem pow_v {b t : Nat} (hb : b < 100) (ht : t < 100) : mX10_power (nI b) (nI t) = some (lN (b ^ t)) :=
  pow_L hb ht t 0 (by omega) FU (by unfold FU; omega)
/-- how many ways, of the first n FICTIONS -/
def ways (o c d : Nat) : Nat → Nat
  | 0 => 1
  | n + 1 => ways o c d n * (if o.testBit n then (if d.testBit n then c else 10 - c) else if d.testBit n then 0 else 1)
def cntB (x : Nat) : Nat → Nat
  | 0 => 0
  | n + 1 => cntB x n + (if x.testBit n then 1 else 0)
theorem cnt_v : ∀ n, n < 7 → ∀ x, x < 2 ^ n → pop x = cntB x n := by decide +kernel
theorem ways_s {o c d : Nat} (hs : ∀ k, d.testBit k = true → o.testBit k = true) : ∀ n, ∃ e, e + cntB d n = cntB o n ∧ ways o c d n = c ^ cntB d n * (10 - c) ^ e
  | 0 => ⟨0, rfl, rfl⟩
  | n + 1 => by
    obtain ⟨e, h1, h2⟩ := ways_s (c := c) hs n
    have := hs n
    cases ho : o.testBit n <;> cases hd : d.testBit n
    · exact ⟨e, by simp [cntB, ho, hd]; exact h1, by simp [ways, cntB, ho, hd]; exact h2⟩
    · rw [this hd] at ho; exact absurd ho (by decide)
    · refine ⟨e + 1, by simp [cntB, ho, hd]; omega, ?_⟩
      simp [ways, cntB, ho, hd]
      rw [h2, Nat.pow_succ, Nat.mul_assoc]
    · refine ⟨e, by simp [cntB, ho, hd]; omega, ?_⟩
      simp [ways, cntB, ho, hd]
      rw [h2, Nat.pow_succ, Nat.mul_assoc, Nat.mul_assoc, Nat.mul_comm ((10 - c) ^ e) c]
theorem ways_z {o c d k : Nat} (hd : d.testBit k = true) (ho : o.testBit k = false) : ∀ n, k < n → ways o c d n = 0
  | 0, h => absurd h (Nat.not_lt_zero k)
  | n + 1, h => by
    by_cases hk : k = n
    · subst hk
      simp [ways, ho, hd]
    · rw [ways, ways_z hd ho n (by omega), Nat.zero_mul]
def odT (o c d : Nat) : Nat := if andn d o = 0 then c ^ pop d * (10 - c) ^ (pop o - pop d) else 0
def odS (o c : Nat) : Nat → Nat
  | 0 => 0
  | n + 1 => odS o c n + odT o c n
theorem odS_v : ∀ o, o < 64 → ∀ c, c < 11 → odS o c 64 = 10 ^ pop o := by decide +kernel
theorem andn_sub {a b : Nat} (ha : a < 256) (h : andn a b = 0) (k : Nat) (hk : a.testBit k = true) : b.testBit k = true := by
  have e := andn_tb (b := b) ha k
  rw [h, Nat.zero_testBit, hk] at e
  cases hb : b.testBit k
  · rw [hb] at e; exact absurd e (by decide)
  · rfl
theorem andn_0 {a b : Nat} (ha : a < 256) (h : ¬ ∃ k, a.testBit k = true ∧ b.testBit k = false) : andn a b = 0 := by
  apply Nat.eq_of_testBit_eq
  intro k
  rw [andn_tb ha, Nat.zero_testBit]
  cases h1 : a.testBit k
  · rfl
  · cases h2 : b.testBit k
    · exact absurd ⟨k, h1, h2⟩ h
    · rfl
theorem od_term {n o p c d : Nat} (hn : n ≤ 6) (ho : o < 2 ^ n) (hp : p < 2 ^ n) (hop : ∀ k, o.testBit k = true → p.testBit k = true) (hd : d < 64) : (if andn d p = 0 then 1 else 0) * ways o c d n = odT o c d := by
  have h64 : 2 ^ n ≤ 64 := Nat.pow_le_pow_right (n := 2) (by decide) hn
  unfold odT
  by_cases h : andn d o = 0
  · have hs := andn_sub (by omega) h
    have hdp : andn d p = 0 := andn_0 (by omega) (fun ⟨k, k1, k2⟩ => by rw [hop k (hs k k1)] at k2; exact absurd k2 (by decide))
    rw [if_pos h, if_pos hdp, Nat.one_mul]
    have hdn : d < 2 ^ n := by
      apply Nat.lt_of_not_le
      intro q
      have : d ≤ o := by
        have e : d &&& o = d := by
          apply Nat.eq_of_testBit_eq
          intro k
          rw [Nat.testBit_and]
          cases hk : d.testBit k
          · rfl
          · rw [hs k hk]; rfl
        rw [← e]
        exact Nat.and_le_right
      omega
    obtain ⟨e, e1, e2⟩ := ways_s (c := c) hs n
    rw [e2, cnt_v n (by omega) d hdn, cnt_v n (by omega) o ho]
    congr 2
    omega
  · rw [if_neg h]
    by_cases hdp : andn d p = 0
    · rw [if_pos hdp, Nat.one_mul]
      have hs := andn_sub (by omega) hdp
      by_cases hq : ∃ k, d.testBit k = true ∧ o.testBit k = false
      · obtain ⟨k, k1, k2⟩ := hq
        refine ways_z k1 k2 n (Nat.lt_of_not_le fun q => ?_)
        have := hs k k1
        rw [bit_out hp q] at this
        exact absurd this (by decide)
      · exact absurd (andn_0 (by omega) hq) h
    · rw [if_neg hdp, Nat.zero_mul]
theorem od_64 {K : Nat} {g : Nat → Nat} {S : MS} (hR : RowIs S g) (hB : BookInv K g) {c d w : Nat} (hc : c ≤ 10) (hd : d < 64) (y1 : Int32) (y3 y5 : Int64) : ∀ m k, k + m = g 4 → ∀ n, m < n → mX11_odds_L64 S n y1 (nI c) y3 y5 (nI d) (lN (w * ways (opn g) c d k)) (nI k) = some (lN (w * ways (opn g) c d (g 4))) := by
  intro m
  induction m with
  | zero =>
    intro k hk n hn
    obtain ⟨n, rfl⟩ : ∃ j, n = j + 1 := ⟨n - 1, by omega⟩
    obtain rfl : k = g 4 := by omega
    have h6 := hB.1.1
    rw [mX11_odds_L64_s, ald_v (by decide) (by decide), hR 4 (by decide), if_pos (nI_le (Nat.le_refl _) (by omega))]
  | succ m ih =>
    intro k hk n hn
    obtain ⟨n, rfl⟩ : ∃ j, n = j + 1 := ⟨n - 1, by omega⟩
    have h6 := hB.1.1
    have q := ih (k + 1) (by omega) n (by omega)
    rw [show w * ways (opn g) c d (k + 1) = w * ways (opn g) c d k * (if (opn g).testBit k then (if d.testBit k then c else 10 - c) else if d.testBit k then 0 else 1) by rw [ways, Nat.mul_assoc], opn_tb (show k < g 4 by omega)] at q
    rw [mX11_odds_L64_s, ald_v (by decide) (by decide), hR 4 (by decide), if_neg (nI_ge (by omega) (by omega)), ald_v (by decide) (by decide), hR 0 (by decide), has_v _ hB.p64 k (by omega), ob_v, ifB, has_v d hd k (by omega), ob_v, ob_v, ifB, ifB, vM_wins hR hB (by omega), ob_v, ifB, nI_add, pk_sub hc, nI_l (by omega), nI_l (by omega)]
    simp only [nm_v, lN_mul]
    cases h1 : (g 0).testBit k <;> cases h2 : winsG g k <;> cases h3 : d.testBit k <;> simp [h1, h2, h3] at q ⊢ <;> exact q
theorem nzl_v {β : Type} {b : Nat} {k : Option β} (h0 : 0 < b) (hb : b < 2 ^ 63) : nzl (lN b) k = k := by
  unfold nzl
  rw [if_neg (show ¬ lN b = 0 from fun q => absurd ((pk_lEQ hb (by decide : 0 < 2 ^ 63)).mp q) (by omega))]
theorem gcd_r (a b : Nat) : Nat.gcd a b = Nat.gcd b (a % b) := by
  rw [Nat.gcd_comm a b, Nat.gcd_rec b a, Nat.gcd_comm]
theorem mod_half {b r : Nat} (h0 : 0 < r) (h : r < b) : 2 * (b % r) < b := by
  have h1 := Nat.div_add_mod b r
  have h2 := Nat.mod_lt b h0
  have h3 : 0 < b / r := Nat.div_pos (by omega) h0
  have h4 : r * 1 ≤ r * (b / r) := Nat.mul_le_mul_left r h3
  omega
theorem gcd_C : ∀ j a b i n, a < 2 ^ 60 → b < 2 ^ j → b < 2 ^ 60 → i + 2 * j < 190 → 2 * j + 1 < n → mX10_commonDivisor_L9 n (lN a) (lN b) (nI i) = some (lN (Nat.gcd a b)) := by
  intro j
  induction j with
  | zero =>
    intro a b i n ha hb hb2 hi hn
    obtain ⟨n, rfl⟩ : ∃ j, n = j + 1 := ⟨n - 1, by omega⟩
    obtain rfl : b = 0 := by omega
    rw [mX10_commonDivisor_L9_s, if_neg (nI_ge (by omega) (by omega)), if_pos rfl, Nat.gcd_zero_right]
  | succ j ih =>
    intro a b i n ha hb hb2 hi hn
    obtain ⟨n, rfl⟩ : ∃ j, n = j + 1 + 1 := ⟨n - 2, by omega⟩
    rw [mX10_commonDivisor_L9_s, if_neg (nI_ge (by omega) (by omega))]
    by_cases h0 : b = 0
    · subst h0
      rw [if_pos rfl, Nat.gcd_zero_right]
    · rw [if_neg (fun q => h0 ((pk_lEQ (by omega) (by decide)).mp q)), nzl_v (by omega) (by omega), pk_lRem (by omega) (by omega) (by omega), nm_v, nm_v, nI_add, gcd_r a b, mX10_commonDivisor_L9_s, if_neg (nI_ge (by omega) (by omega))]
      have hr := Nat.mod_lt a (show 0 < b by omega)
      generalize a % b = r at hr ⊢
      by_cases h1 : r = 0
      · subst h1
        rw [if_pos rfl, Nat.gcd_zero_right]
      · have hh := mod_half (show 0 < r by omega) hr
        rw [Nat.pow_succ] at hb
        rw [if_neg (fun q => h1 ((pk_lEQ (by omega) (by decide)).mp q)), nzl_v (by omega) (by omega), pk_lRem (by omega) (by omega) (by omega), nm_v, nm_v, nI_add, gcd_r b r]
        exact ih r (b % r) (i + 1 + 1) n (by omega) (by omega) (by omega) (by omega) (by omega)
theorem gcd_M (y1 y3 : Int64) (S : MS) : ∀ j a b n, a < 2 ^ 60 → b < 2 ^ j → b < 2 ^ 60 → 2 * j + 1 < n → mX11_tellPart_L6 n y1 y3 (lN a) (lN b) S = (nzl (lN (Nat.gcd a b)) <| nm (mL S 3 (y1 / lN (Nat.gcd a b))) fun S1 => nzl (lN (Nat.gcd a b)) <| nm (mL S1 4 (y3 / lN (Nat.gcd a b))) fun S2 => some S2) := by
  intro j
  induction j with
  | zero =>
    intro a b n ha hb hb2 hn
    obtain ⟨n, rfl⟩ : ∃ j, n = j + 1 := ⟨n - 1, by omega⟩
    obtain rfl : b = 0 := by omega
    rw [mX11_tellPart_L6_s, if_pos rfl, Nat.gcd_zero_right]
  | succ j ih =>
    intro a b n ha hb hb2 hn
    obtain ⟨n, rfl⟩ : ∃ j, n = j + 1 + 1 := ⟨n - 2, by omega⟩
    rw [mX11_tellPart_L6_s]
    by_cases h0 : b = 0
    · subst h0
      rw [if_pos rfl, Nat.gcd_zero_right]
    · rw [if_neg (fun q => h0 ((pk_lEQ (by omega) (by decide)).mp q)), nzl_v (show 0 < b by omega) (by omega), pk_lRem (by omega) (by omega) (by omega), nm_v, gcd_r a b, mX11_tellPart_L6_s]
      have hr := Nat.mod_lt a (show 0 < b by omega)
      generalize a % b = r at hr ⊢
      by_cases h1 : r = 0
      · subst h1
        rw [if_pos rfl, Nat.gcd_zero_right]
      · have hh := mod_half (show 0 < r by omega) hr
        rw [Nat.pow_succ] at hb
        rw [if_neg (fun q => h1 ((pk_lEQ (by omega) (by decide)).mp q)), nzl_v (show 0 < r by omega) (by omega), pk_lRem (by omega) (by omega) (by omega), nm_v, gcd_r b r]
        exact ih r (b % r) n (by omega) (by omega) (by omega) (by omega)
theorem od_end {K : Nat} {C : CT} {S : MS} (h : Sim K C S) {x y : Nat} (hx : x ≤ y) (h0 : 0 < y) (hy : y ≤ 1000000) : ∃ C' S', mX10_keepFraction C (lN x) (lN y) = some C' ∧ mX11_tellPart S (lN x) (lN y) = some S' ∧ Sim (K + 1) C' S' := by
  have hg : 0 < Nat.gcd x y := Nat.gcd_pos_of_pos_right x h0
  have hg2 : Nat.gcd x y ≤ y := Nat.gcd_le_right x h0
  unfold mX10_keepFraction mX11_tellPart mX10_commonDivisor
  rw [gcd_C 20 x y 0 FU (by omega) (by omega) (by omega) (by decide) (by decide), ob_v, gcd_M _ _ _ 20 x y FU (by omega) (by omega) (by omega) (by decide), if_neg (fun q => absurd ((pk_lLE (by omega) (by decide)).mp q) (by omega))]
  simp only [nzl_v hg (show Nat.gcd x y < 2 ^ 63 by omega), nm_v]
  obtain ⟨g, h1, h2, h3, h4⟩ := h.mono (Nat.le_succ K)
  exact ⟨_, _, rfl, rfl, g, h1, h2, ⟨h3.1, ⟨rfl, rfl⟩, h3.2.2⟩, h4⟩
theorem pop_64 : ∀ o, o < 64 → pop o ≤ 6 := by decide +kernel
theorem pop_sub : ∀ o, o < 64 → ∀ d, d < 64 → andn d o = 0 → pop d ≤ pop o := by decide +kernel
theorem pow10_le {n : Nat} (h : n ≤ 6) : 10 ^ n ≤ 1000000 := Nat.pow_le_pow_right (n := 10) (by decide) h
theorem od_L {K : Nat} {C : CT} {S : MS} {g : Nat → Nat} (h : Sim K C S) (hR : RowIs S g) (hB : BookInv K g) (hM : MRel g (C.1 0)) {ct c : Nat} (hct : ct < g 29) (hc : c ≤ 10) : ∀ m k, k + m = 64 → ∀ n, m < n → ∀ x, x ≤ odS (opn g) c k → ∃ C' S', mX10_odds_L43 n (nI ct) (nI c) (nI (opn g)) (nI (pop (opn g))) (lN x) (nI k) C = some (nI 1, C') ∧ mX11_odds_L33 n (nI ct) (nI c) (lN x) (lN (odS (opn g) c k)) (nI k) S = some (nI 1, S') ∧ Sim (K + 1) C' S' := by
  have ho := opn_lt hB
  have hpo := pop_64 _ ho
  intro m
  induction m with
  | zero =>
    intro k hk n hn x hx
    obtain ⟨n, rfl⟩ : ∃ j, n = j + 1 := ⟨n - 1, by omega⟩
    obtain rfl : k = 64 := by omega
    rw [odS_v _ ho c (by omega)] at hx ⊢
    obtain ⟨C', S', q1, q2, q3⟩ := od_end h hx (Nat.pow_pos (by decide)) (pow10_le hpo)
    rw [mX10_odds_L43_s, mX11_odds_L33_s, if_pos (by decide), if_pos (by decide), pow_v (by decide) (by omega), ob_v, q1, q2, ob_v, ob_v]
    exact ⟨C', S', rfl, rfl, q3⟩
  | succ m ih =>
    intro k hk n hn x hx
    obtain ⟨n, rfl⟩ : ∃ j, n = j + 1 := ⟨n - 1, by omega⟩
    have hp := hB.p64
    have hs0 := hB.s.1
    have h6 := hB.1.1
    have hnp : andn (g 0) k < 64 := and64 hp
    have hs := sup_lt hB (andn (g 0) k)
    have hop : ∀ j, (opn g).testBit j = true → (g 0).testBit j = true := by
      intro j hj
      unfold opn at hj
      rw [setU_tb] at hj
      simp only [Bool.and_eq_true] at hj
      exact hj.2.1
    have ht := od_term (c := c) h6 (setU_lt _ _) hs0 hop (show k < 64 by omega)
    rw [show setU (fun f => (g 0).testBit f && winsG g f) (g 4) = opn g from rfl] at ht
    have hw := fun w => od_64 (w := w) hR hB hc (show k < 64 by omega) (nI ct) (lN x) (lN (odS (opn g) c k)) (g 4) 0 (by omega) FU (by unfold FU; omega)
    have hw1 := hw 1
    have hw0 := hw 0
    rw [show 1 * ways (opn g) c k 0 = 1 from rfl] at hw1
    rw [show 0 * ways (opn g) c k 0 = 0 by rw [Nat.zero_mul]] at hw0
    have href : mX11_odds_L33 (n + 1) (nI ct) (nI c) (lN x) (lN (odS (opn g) c k)) (nI k) S = mX11_odds_L33 n (nI ct) (nI c) (lN (x + if hearsG g ct (sup g (andn (g 0) k)) then odT (opn g) c k else 0)) (lN (odS (opn g) c (k + 1))) (nI (k + 1)) S := by
      rw [mX11_odds_L33_s, if_neg (nI_ge (by omega) (by omega)), ald_v (by decide) (by decide), hR 0 (by decide), nI_andn (by omega) (by omega), ifN_z (Nat.lt_of_lt_of_le (andn_lt (by omega)) (by decide)), hw0, hw1, ob_v, ob_v, ald_v (by decide) (by decide), ald_v (by decide) (by decide), hR 0 (by decide), nI_andn (by omega) (by omega), vM_sup hR hB hnp, ob_v, ob_v, vM_hears hR hB hct hs, ob_v, ob_v, ifB, ifB]
      simp only [nm_v, lN_add, nI_add]
      rw [show odS (opn g) c (k + 1) = odS (opn g) c k + odT (opn g) c k from rfl]
      by_cases hq : andn k (g 0) = 0
      · rw [if_pos hq] at ht
        rw [if_pos hq, ht]
        cases hearsG g ct (sup g (andn (g 0) k)) <;> rfl
      · rw [if_neg hq] at ht
        rw [if_neg hq, ht]
        cases hearsG g ct (sup g (andn (g 0) k)) <;> rfl
    have hcls : mX10_odds_L43 (n + 1) (nI ct) (nI c) (nI (opn g)) (nI (pop (opn g))) (lN x) (nI k) C = mX10_odds_L43 n (nI ct) (nI c) (nI (opn g)) (nI (pop (opn g))) (lN (x + if hearsG g ct (sup g (andn (g 0) k)) then odT (opn g) c k else 0)) (nI (k + 1)) C := by
      rw [mX10_odds_L43_s, if_neg (nI_ge (by omega) (by omega)), nI_andn (by omega) (by omega), ifN_z (Nat.lt_of_lt_of_le (andn_lt (by omega)) (by decide)), hM.i.2.1, nI_andn (by omega) (by omega), vC_sup hM hB hnp, ob_v, vC_hears hM hB hct hs, ob_v, ifB]
      unfold odT
      by_cases hq : andn k (opn g) = 0
      · have hle := pop_sub _ ho k (by omega) hq
        rw [if_pos hq, if_pos hq, bitc_v k (by omega), ob_v, pow_v (by omega) (by omega), ob_v, pk_sub hc, pk_sub hle, pow_v (by omega) (by omega), ob_v]
        simp only [nm_v, lN_add, lN_mul, nI_add]
        cases hearsG g ct (sup g (andn (g 0) k)) <;> rfl
      · rw [if_neg hq, if_neg hq, nm_v, nI_add]
        cases hearsG g ct (sup g (andn (g 0) k)) <;> rfl
    rw [href, hcls]
    refine ih (k + 1) (by omega) n (by omega) _ ?_
    rw [show odS (opn g) c (k + 1) = odS (opn g) c k + odT (opn g) c k from rfl]
    split <;> omega
theorem g_odds {K : Nat} {C : CT} {S : MS} (h : Sim K C S) (a1 a2 : Int32) : Good (K + 1) (mX10_odds C a1 a2) (mX11_odds S a1 a2) := by
  obtain ⟨g, h1, h2, h3, h4⟩ := id h
  unfold mX10_odds mX11_odds
  rcases isC_c h1 a1 with ⟨e1, e2⟩ | ⟨ct, hct, rfl, e1, e2⟩
  · rw [e1, e2, ob_v, ob_v, if_pos z0, if_pos z0]
    exact g_bad h
  rw [e1, e2, ob_v, ob_v, if_neg z1, if_neg z1]
  rcases in_c2 a2 10 (by decide) with ⟨e1, e2, -⟩ | ⟨c, hc, rfl, e1, e2⟩
  · rw [e1, e2, ob_v, ob_v, if_pos z0, if_pos z0]
    exact g_bad h
  have ho := opn_lt h1.2.1
  rw [e1, e2, ob_v, ob_v, if_neg z1, if_neg z1, lose_v h1.2.2 h1.2.1, ob_v, bitc_v _ (by omega), ob_v]
  obtain ⟨C', S', q1, q2, q3⟩ := od_L h h1.1 h1.2.1 h1.2.2 hct hc 64 0 (by decide) FU (by decide) 0 (Nat.zero_le _)
  exact ⟨_, C', S', q1, q2, q3⟩
