/-! calls that only read: both sides answer alike -/
/-- bits of those k below n for which b holds -/
def setU (b : Nat → Bool) : Nat → Nat
  | 0 => 0
  | k + 1 => if b k then setU b k ||| 2 ^ k else setU b k
theorem setU_lt (b : Nat → Bool) : ∀ n, setU b n < 2 ^ n
  | 0 => Nat.zero_lt_one
  | n + 1 => by
    unfold setU
    have ih := setU_lt b n
    have h2 : setU b n < 2 ^ (n + 1) := Nat.lt_of_lt_of_le ih (Nat.pow_le_pow_right (by decide) (by omega))
    split
    · exact Nat.or_lt_two_pow h2 (Nat.pow_lt_pow_right (by decide) (by omega))
    · exact h2
theorem setU_lt' (b : Nat → Bool) {n m : Nat} (h : n ≤ m) : setU b n < 2 ^ m := Nat.lt_of_lt_of_le (setU_lt b n) (Nat.pow_le_pow_right (by decide) h)
theorem ifN_le {β : Type} {a b : Nat} (ha : a < 2 ^ 31) (hb : b < 2 ^ 31) (x y : β) : (if nI a ≤ nI b then x else y) = if a ≤ b then x else y := by
  simp only [nI_leI ha hb]
theorem ifN_lt {β : Type} {a b : Nat} (ha : a < 2 ^ 31) (hb : b < 2 ^ 31) (x y : β) : (if nI a < nI b then x else y) = if a < b then x else y := by
  simp only [nI_ltI ha hb]
theorem ifN_eq {β : Type} {a b : Nat} (ha : a < 2 ^ 31) (hb : b < 2 ^ 31) (x y : β) : (if nI a = nI b then x else y) = if a = b then x else y := by
  simp only [nI_eq ha hb]
theorem ifN_z {β : Type} {a : Nat} (ha : a < 2 ^ 31) (x y : β) : (if nI a = 0 then x else y) = if a = 0 then x else y := by
  simp only [nI_eqz ha]
/-- a truth value that is asked -/
theorem ifB {β : Type} (b : Bool) (x y : β) : (if (if b = true then nI 1 else nI 0) = 0 then x else y) = if b = true then y else x := by
  cases b
  · exact if_pos rfl
  · exact if_neg (by decide)
theorem or_bit {v k : Nat} (hv : v < 2 ^ 31) (hk : k < 31) : nI v ||| (nI 1 <<< (nI k &&& 31)) = nI (v ||| 2 ^ k) := by
  rw [shl_v k hk, nI_or (by omega) (Nat.pow_lt_pow_right (by decide) (by omega))]
theorem or_0 {v : Nat} (hv : v < 2 ^ 31) : nI v ||| nI 0 = nI v := by
  rw [nI_or (by omega) (by decide), Nat.or_zero]
theorem vM_hear_L {K : Nat} {S : MS} {g : Nat → Nat} (hR : RowIs S g) (h : BookInv K g) {p : Nat} (hp : p < 64) : ∀ n k, k ≤ g 29 → g 29 - k < n → mX11_hearBy_L4 S n (nI p) (nI (setU (fun c => hearsG g c (sup g p)) k)) (nI k) = some (nI (setU (fun c => hearsG g c (sup g p)) (g 29))) := by
  intro n
  induction n with
  | zero => intro k _ h2; omega
  | succ n ih =>
    intro k hk hn
    have h4 := h.1.2.1
    have hlt := setU_lt' (fun c => hearsG g c (sup g p)) (show k ≤ 4 by omega)
    rw [mX11_hearBy_L4_s, ald_v (by decide) (by decide), hR 29 (by decide), ifN_le (by omega) (by omega)]
    by_cases hc : g 29 ≤ k
    · rw [if_pos hc, show k = g 29 by omega]
    · rw [if_neg hc, vM_sup hR h hp, ob_v, vM_hears hR h (by omega) (sup_lt h p), ob_v, ifB, nm_v, nm_v, nm_v, nm_v, nI_add, or_bit (by omega) (by omega), or_0 (by omega)]
      have ih' := ih (k + 1) (by omega) (by omega)
      by_cases hb : hearsG g k (sup g p) = true
      · rw [if_pos hb]
        rw [show setU (fun c => hearsG g c (sup g p)) (k + 1) = setU (fun c => hearsG g c (sup g p)) k ||| 2 ^ k by simp [setU, hb]] at ih'
        exact ih'
      · rw [if_neg hb]
        rw [show setU (fun c => hearsG g c (sup g p)) (k + 1) = setU (fun c => hearsG g c (sup g p)) k by simp [setU, hb]] at ih'
        exact ih'
/-- COURTS that HEAR it with p PLEADED -/
def hearS (g : Nat → Nat) (p : Nat) : Nat := setU (fun c => hearsG g c (sup g p)) (g 29)
theorem vM_hearBy {K : Nat} {S : MS} {g : Nat → Nat} (hR : RowIs S g) (h : BookInv K g) {p : Nat} (hp : p < 64) : mX11_hearBy S (nI p) = some (nI (hearS g p)) := by
  unfold mX11_hearBy
  exact vM_hear_L hR h hp FU 0 (Nat.zero_le _) (by have := h.1.2.1; unfold FU; omega)
theorem vC_hear_L {K : Nat} {M : MT} {g : Nat → Nat} (hM : MRel g M) (h : BookInv K g) {s : Nat} (hs : s < 256) : ∀ n k, k ≤ g 29 → g 29 - k < n → mX3_hearing_L4 M n (nI s) (nI (setU (fun c => hearsG g c s) k)) (nI k) = some (nI (setU (fun c => hearsG g c s) (g 29))) := by
  intro n
  induction n with
  | zero => intro k _ h2; omega
  | succ n ih =>
    intro k hk hn
    have h4 := h.1.2.1
    have hlt := setU_lt' (fun c => hearsG g c s) (show k ≤ 4 by omega)
    rw [mX3_hearing_L4_s, hM.1.2.1, ifN_le (by omega) (by omega)]
    by_cases hc : g 29 ≤ k
    · rw [if_pos hc, show k = g 29 by omega]
    · rw [if_neg hc, vC_hears hM h (by omega) hs, ob_v, ifB, nm_v, nm_v, nm_v, nI_add, or_bit (by omega) (by omega)]
      have ih' := ih (k + 1) (by omega) (by omega)
      by_cases hb : hearsG g k s = true
      · rw [if_pos hb]
        rw [show setU (fun c => hearsG g c s) (k + 1) = setU (fun c => hearsG g c s) k ||| 2 ^ k by simp [setU, hb]] at ih'
        exact ih'
      · rw [if_neg hb]
        rw [show setU (fun c => hearsG g c s) (k + 1) = setU (fun c => hearsG g c s) k by simp [setU, hb]] at ih'
        exact ih'
theorem vC_hearing {K : Nat} {M : MT} {g : Nat → Nat} (hM : MRel g M) (h : BookInv K g) {p : Nat} : mX3_hearing M (nI (sup g p)) = some (nI (hearS g p)) := by
  unfold mX3_hearing
  exact vC_hear_L hM h (sup_lt h p) FU 0 (Nat.zero_le _) (by have := h.1.2.1; unfold FU; omega)
theorem hearS_lt {K : Nat} {g : Nat → Nat} (h : BookInv K g) (p : Nat) : hearS g p < 16 := setU_lt' _ h.1.2.1
/-- what the two objects share, all but THE TEXT: the BOOK and SUIT at hand, with what was refused and THE FRACTION, images -/
def Base (K : Nat) (g : Nat → Nat) (C : CT) (S : MS) : Prop := RowIs S g ∧ BookInv K g ∧ MRel g (C.1 0)
theorem sup0 {K : Nat} {g : Nat → Nat} {C : CT} {S : MS} (h : Base K g C S) : mX10_supposed C = some (nI (sup g (g 0))) := by
  unfold mX10_supposed
  rw [h.2.2.2.1.2.1, vC_sup h.2.2 h.2.1 h.2.1.p64]
  rfl
theorem s_hear {K : Nat} {g : Nat → Nat} {C : CT} {S : MS} (h : Base K g C S) : mX10_hear C = some (nI (hearS g (g 0))) ∧ mX11_hear S = some (nI (hearS g (g 0))) := by
  constructor
  · unfold mX10_hear
    rw [sup0 h, ob_v, vC_hearing h.2.2 h.2.1]
    rfl
  · unfold mX11_hear
    rw [ald_v (by decide) (by decide), h.1 0 (by decide), vM_hearBy h.1 h.2.1 h.2.1.p64]
    rfl
theorem pairs_v : ∀ x, x < 256 → ∃ v, v < 16 ∧ mX11_pairsOf (nI x) = some (nI v) ∧ mX10_pairsIn (nI x) = some (nI v) ∧ mX10_contradictIn (nI x) = some (if v = 0 then nI 0 else nI 1) := by
  intro x hx
  have h : ∀ x, x < 256 → (∃ v, v < 16 ∧ (mX11_pairsOf (nI x) = some (nI v) ∧ mX10_pairsIn (nI x) = some (nI v) ∧ mX10_contradictIn (nI x) = some (if v = 0 then nI 0 else nI 1))) := by decide +kernel
  exact h x hx
theorem s_contradict {K : Nat} {g : Nat → Nat} {C : CT} {S : MS} (h : Base K g C S) : ∃ r, mX10_contradict C = some r ∧ mX11_contradict S = some r := by
  obtain ⟨v, -, h1, h2, -⟩ := pairs_v _ (sup_lt h.2.1 (g 0))
  refine ⟨nI v, ?_, ?_⟩
  · unfold mX10_contradict
    rw [sup0 h, ob_v, h2]
    rfl
  · unfold mX11_contradict
    rw [ald_v (by decide) (by decide), h.1 0 (by decide), vM_sup h.1 h.2.1 h.2.1.p64, ob_v, h1]
    rfl
theorem vC_may {K : Nat} {g : Nat → Nat} {C : CT} {S : MS} (h : Base K g C S) (hK : K < 1000) {f : Nat} (hf : f < g 4) : mX10_mayPlead C (nI f) = some (if mayG g f (g 0) (g 1) then nI 1 else nI 0) := by
  have h4 := h.2.1.1.1
  have h1 : g 1 ≤ K := h.2.1.1.2.2.2.2.2.2.1
  unfold mX10_mayPlead mX10_isPleaded
  rw [h.2.2.2.1.2.1, holds_v _ h.2.1.p64 f (by omega), ob_v, sup0 h, ob_v, h.2.2.2.1.2.2.1, vC_allowed h.2.2 h.2.1 hf (sup_lt h.2.1 _) (by omega), ob_v]
  unfold mayG
  cases (g 0).testBit f <;> cases allowK (g (5 + f)) (decide (g (11 + f) &&& sup g (g 0) = g (11 + f))) (decide (g (11 + f) &&& sup g (g 0) ≠ 0)) (g 1) <;> rfl
theorem vC_isF {K : Nat} {g : Nat → Nat} {C : CT} {S : MS} (h : Base K g C S) {f : Nat} (hf : f < 1000) : mX10_isFiction C (nI f) = some (if f < g 4 then nI 1 else nI 0) := by
  have h4 := h.2.1.1.1
  unfold mX10_isFiction
  rw [if_neg (nI_pos (by omega)), h.2.2.1.1, ifN_le (by omega) (by omega)]
  by_cases hc : g 4 ≤ f
  · rw [if_pos hc, if_neg (by omega)]; rfl
  · rw [if_neg hc, if_pos (by omega)]; rfl
def mayS (g : Nat → Nat) (n : Nat) : Nat := setU (fun f => mayG g f (g 0) (g 1)) n
theorem vM_may_L {K : Nat} {g : Nat → Nat} {C : CT} {S : MS} (h : Base K g C S) (hK : K < 1000) : ∀ n k, k ≤ g 4 → g 4 - k < n → mX11_may_L4 S n (nI (mayS g k)) (nI k) = some (nI (mayS g (g 4))) := by
  intro n
  induction n with
  | zero => intro k _ h2; omega
  | succ n ih =>
    intro k hk hn
    have h4 := h.2.1.1.1
    have h1 : g 1 ≤ K := h.2.1.1.2.2.2.2.2.2.1
    have hlt : mayS g k < 2 ^ 6 := setU_lt' _ (by omega)
    rw [mX11_may_L4_s, ald_v (by decide) (by decide), h.1 4 (by decide), ifN_le (by omega) (by omega)]
    by_cases hc : g 4 ≤ k
    · rw [if_pos hc, show k = g 4 by omega]
    · rw [if_neg hc, ald_v (by decide) (by decide), h.1 0 (by decide), ald_v (by decide) (by decide), h.1 1 (by decide), vM_may h.1 h.2.1 (by omega) h.2.1.p64 (by omega), ob_v, ifB, nm_v, nm_v, nm_v, nm_v, nI_add, or_bit (by omega) (by omega), or_0 (by omega)]
      have ih' := ih (k + 1) (by omega) (by omega)
      by_cases hb : mayG g k (g 0) (g 1) = true
      · rw [if_pos hb]
        rw [show mayS g (k + 1) = mayS g k ||| 2 ^ k by simp [mayS, setU, hb]] at ih'
        exact ih'
      · rw [if_neg hb]
        rw [show mayS g (k + 1) = mayS g k by simp [mayS, setU, hb]] at ih'
        exact ih'
theorem vC_may_L {K : Nat} {g : Nat → Nat} {C : CT} {S : MS} (h : Base K g C S) (hK : K < 1000) : ∀ n k, k ≤ 6 → 6 - k < n → ∀ v, v = (if k ≤ g 4 then mayS g k else mayS g (g 4)) → mX10_may_L4 C n (nI v) (nI k) = some (nI (mayS g (g 4))) := by
  intro n
  induction n with
  | zero => intro k _ h2; omega
  | succ n ih =>
    intro k hk hn v hv
    have h4 := h.2.1.1.1
    have hlt : v < 2 ^ 6 := by rw [hv]; split <;> exact setU_lt' _ (by omega)
    rw [mX10_may_L4_s, ifN_le (by decide) (by omega)]
    by_cases hc : 6 ≤ k
    · rw [if_pos hc, hv]
      by_cases h6 : k ≤ g 4
      · rw [if_pos h6, show k = g 4 by omega]
      · rw [if_neg h6]
    · rw [if_neg hc, vC_isF h (by omega), ob_v]
      by_cases hf : k < g 4
      · rw [if_pos hf, if_neg (by decide), vC_may h hK hf, ob_v, ifB, nm_v, nm_v, nm_v, nI_add, or_bit (by omega) (by omega)]
        rw [if_pos (by omega)] at hv
        by_cases hb : mayG g k (g 0) (g 1) = true
        · rw [if_pos hb]
          exact ih (k + 1) (by omega) (by omega) _ (by rw [if_pos (by omega), hv]; simp [mayS, setU, hb])
        · rw [if_neg hb]
          exact ih (k + 1) (by omega) (by omega) _ (by rw [if_pos (by omega), hv]; simp [mayS, setU, hb])
      · rw [if_neg hf, if_pos (show nI 0 = 0 from rfl), nm_v, nI_add]
        refine ih (k + 1) (by omega) (by omega) _ ?_
        rw [if_neg (by omega), hv]
        by_cases h6 : k ≤ g 4
        · rw [if_pos h6, show k = g 4 by omega]
        · rw [if_neg h6]
theorem s_may {K : Nat} {g : Nat → Nat} {C : CT} {S : MS} (h : Base K g C S) (hK : K < 1000) : mX10_may C = some (nI (mayS g (g 4))) ∧ mX11_may S = some (nI (mayS g (g 4))) := by
  have h4 := h.2.1.1.1
  constructor
  · unfold mX10_may
    exact vC_may_L h hK FU 0 (by decide) (by decide) 0 (by rw [if_pos (by omega)]; rfl)
  · unfold mX11_may
    exact vM_may_L h hK FU 0 (by omega) (by unfold FU; omega)
theorem and64 {a b : Nat} (ha : a < 64) : andn a b < 64 := Nat.lt_of_le_of_lt Nat.and_le_left ha
theorem fewer_v {a b : Nat} (ha : a < 64) (hb : b < 64) : mX10_fewer (nI a) (nI b) = some (if pop b ≤ pop a then nI 0 else nI 1) := by
  have h1 := pop_le a
  have h2 := pop_le b
  unfold mX10_fewer
  rw [if_neg (by rw [nI_m1 (by omega)]; exact id), bitc_v a (by omega), ob_v, bitc_v b (by omega), ob_v, ifN_le (by omega) (by omega)]
  split <;> rfl
theorem fewer_m (a : Nat) : mX10_fewer (nI a) (-1) = some (nI 1) := by
  unfold mX10_fewer
  rw [if_pos rfl]
  rfl
theorem s_giveUp_L {K : Nat} {g : Nat → Nat} {C : CT} {S : MS} (h : Base K g C S) : ∀ m k, k + m = 64 → ∀ n, m < n → ∀ y : Int32, (y = -1 ∨ ∃ j, j < 64 ∧ y = nI j) → ∃ r, mX10_giveUp_L4 C n y (nI k) = some r ∧ mX11_giveUp_L4 S n y (nI k) = some r := by
  intro m
  induction m with
  | zero =>
    intro k hk n hn y hy
    obtain ⟨n, rfl⟩ : ∃ j, n = j + 1 := ⟨n - 1, by omega⟩
    refine ⟨y, ?_, ?_⟩
    · rw [mX10_giveUp_L4_s, ifN_le (by decide) (by omega), if_pos (by omega)]
    · rw [mX11_giveUp_L4_s, ifN_le (by decide) (by omega), if_pos (by omega)]
  | succ m ih =>
    intro k hk n hn y hy
    obtain ⟨n, rfl⟩ : ∃ j, n = j + 1 := ⟨n - 1, by omega⟩
    have hp := h.2.1.p64
    have hge : ¬ nI 64 ≤ nI k := nI_ge (by omega) (by decide)
    rw [mX10_giveUp_L4_s, mX11_giveUp_L4_s, if_neg hge, if_neg hge, h.2.2.2.1.2.1]
    simp only [ald_v (show 0 < 288 by decide) (show 288 < 2 ^ 31 by decide), h.1 0 (by decide), nI_andn (show k < 256 by omega) (show g 0 < 256 by omega), nI_andn (show g 0 < 256 by omega) (show k < 256 by omega), nm_v, nI_add]
    have hlt := and64 (a := k) (b := g 0) (by omega)
    simp only [nI_eqz (show andn k (g 0) < 2 ^ 31 by omega)]
    have go : ∀ y : Int32, (y = -1 ∨ ∃ j, j < 64 ∧ y = nI j) → ∃ r, mX10_giveUp_L4 C n y (nI (k + 1)) = some r ∧ mX11_giveUp_L4 S n y (nI (k + 1)) = some r := fun y hy => ih (k + 1) (by omega) n (by omega) y hy
    by_cases hc : andn k (g 0) = 0
    · rw [if_pos hc, if_pos hc]
      have hq := and64 (a := g 0) (b := k) hp
      rw [vC_sup h.2.2 h.2.1 hq, vM_sup h.1 h.2.1 hq, ob_v, ob_v]
      obtain ⟨v, hv, e1, -, e3⟩ := pairs_v _ (sup_lt h.2.1 (andn (g 0) k))
      rw [e1, e3, ob_v, ob_v, ifN_z (by omega)]
      have gok := go (nI k) (Or.inr ⟨k, by omega, rfl⟩)
      rcases hy with rfl | ⟨j, hj, rfl⟩
      · rw [fewer_m, ob_v, if_neg (by decide)]
        by_cases hv0 : v = 0
        · rw [if_pos hv0, if_pos hv0, if_pos (show nI 0 = 0 from rfl), if_pos (show (-1 : Int32) = -1 from rfl)]
          exact gok
        · rw [if_neg hv0, if_neg hv0, if_neg (by decide)]
          exact go _ (Or.inl rfl)
      · have h1 := pop_le k
        have h2 := pop_le j
        rw [fewer_v (by omega) hj, ob_v, bits_v k (by omega), ob_v, bits_v j (by omega), ob_v, ifN_le (by omega) (by omega), if_neg (show ¬ nI j = -1 by rw [nI_m1 (by omega)]; exact id)]
        have goj := go (nI j) (Or.inr ⟨j, hj, rfl⟩)
        by_cases hpp : pop j ≤ pop k
        · rw [if_pos hpp, if_pos hpp, if_pos (show nI 0 = 0 from rfl)]
          by_cases hv0 : v = 0
          · rw [if_pos hv0]; exact goj
          · rw [if_neg hv0]; exact goj
        · rw [if_neg hpp, if_neg hpp, if_neg (by decide)]
          by_cases hv0 : v = 0
          · rw [if_pos hv0, if_pos hv0, if_pos (show nI 0 = 0 from rfl)]; exact gok
          · rw [if_neg hv0, if_neg hv0, if_neg (by decide)]; exact goj
    · rw [if_neg hc, if_neg hc]
      exact go y hy
theorem s_giveUp {K : Nat} {g : Nat → Nat} {C : CT} {S : MS} (h : Base K g C S) : ∃ r, mX10_giveUp C = some r ∧ mX11_giveUp S = some r := by
  unfold mX10_giveUp mX11_giveUp
  exact s_giveUp_L h 64 0 rfl FU (by decide) _ (Or.inl rfl)
theorem den_v : ∀ (b : Bool) (C : CT) (S : MS), ∃ r, mX10_denial_L40 FU (if b then nI 1 else nI 0) (nI 0) (nI 0) C = some (r, C) ∧ mX11_denial_L46 FU (if b then nI 1 else nI 0) (nI 0) (nI 0) S = some (r, S) := by
  intro b C S
  cases b
  · exact ⟨nI 4, rfl, rfl⟩
  · exact ⟨nI 0, rfl, rfl⟩
/-- is it a FICTION, a COURT -/
theorem in_m1 (v : Int32) {n : Nat} (hn : n < 1000) : mX11_in v (nI 0) (nI n - nI 1) = some (if v < 0 ∨ nI n ≤ v then nI 0 else nI 1) := by
  unfold mX11_in
  by_cases h0 : v < 0
  · rw [if_pos (show v < nI 0 from h0), if_pos (Or.inl h0)]; rfl
  · rw [if_neg (show ¬ v < nI 0 from h0)]
    obtain ⟨j, hj, rfl⟩ := nI_of h0
    by_cases h1 : n = 0
    · subst h1
      rw [if_pos (show nI 0 - nI 1 < nI j from Int32.lt_of_lt_of_le (by decide) (nI_pos' hj)), if_pos (Or.inr (show nI 0 ≤ nI j from nI_pos' hj))]
      rfl
    · rw [pk_sub (show 1 ≤ n by omega), ifN_lt (by omega) hj]
      by_cases h2 : n ≤ j
      · rw [if_pos (by omega), if_pos (Or.inr (nI_le h2 hj))]; rfl
      · rw [if_neg (by omega), if_neg (fun q => q.elim h0 (fun q => h2 ((nI_leI (by omega) hj).mp q)))]; rfl
theorem isF_c {K : Nat} {g : Nat → Nat} {C : CT} {S : MS} (h : Base K g C S) (v : Int32) : (mX10_isFiction C v = some (nI 0) ∧ mX11_isFiction S v = some (nI 0)) ∨ ∃ f, f < g 4 ∧ v = nI f ∧ mX10_isFiction C v = some (nI 1) ∧ mX11_isFiction S v = some (nI 1) := by
  have h4 := h.2.1.1.1
  unfold mX10_isFiction mX11_isFiction
  rw [ald_v (by decide) (by decide), h.1 4 (by decide), in_m1 v (by omega), ob_v, h.2.2.1.1]
  by_cases h0 : v < 0
  · left
    rw [if_pos h0, if_pos (Or.inl h0)]
    exact ⟨rfl, rfl⟩
  · by_cases h1 : nI (g 4) ≤ v
    · left
      rw [if_neg h0, if_pos h1, if_pos (Or.inr h1)]
      exact ⟨rfl, rfl⟩
    · right
      obtain ⟨j, hj, rfl⟩ := nI_of h0
      refine ⟨j, Nat.lt_of_not_le (fun q => h1 (nI_le q hj)), rfl, ?_⟩
      rw [if_neg h0, if_neg h1, if_neg (fun q => q.elim h0 h1)]
      exact ⟨rfl, rfl⟩
theorem isC_c {K : Nat} {g : Nat → Nat} {C : CT} {S : MS} (h : Base K g C S) (v : Int32) : (mX10_isCourt C v = some (nI 0) ∧ mX11_isCourt S v = some (nI 0)) ∨ ∃ c, c < g 29 ∧ v = nI c ∧ mX10_isCourt C v = some (nI 1) ∧ mX11_isCourt S v = some (nI 1) := by
  have h4 := h.2.1.1.2.1
  unfold mX10_isCourt mX11_isCourt
  rw [ald_v (by decide) (by decide), h.1 29 (by decide), in_m1 v (by omega), ob_v, h.2.2.1.2.1]
  by_cases h0 : v < 0
  · left
    rw [if_pos h0, if_pos (Or.inl h0)]
    exact ⟨rfl, rfl⟩
  · by_cases h1 : nI (g 29) ≤ v
    · left
      rw [if_neg h0, if_pos h1, if_pos (Or.inr h1)]
      exact ⟨rfl, rfl⟩
    · right
      obtain ⟨j, hj, rfl⟩ := nI_of h0
      refine ⟨j, Nat.lt_of_not_le (fun q => h1 (nI_le q hj)), rfl, ?_⟩
      rw [if_neg h0, if_neg h1, if_neg (fun q => q.elim h0 h1)]
      exact ⟨rfl, rfl⟩
/-! IS, LOOK, TRUTH -/
/-- may all NOTES of f be so, were it of KIND k: the first n of them -/
def noteU (g : Nat → Nat) (f k : Nat) : Nat → Bool
  | 0 => true
  | n + 1 => noteU g f k n && (decide (g (39 + 3 * n) ≠ f) || decide (costK k (g (23 + f)) (g (39 + 3 * n + 1)) = g (39 + 3 * n + 2)))
theorem costK_le {k fee d : Nat} (hf : fee ≤ 20) : costK k fee d ≤ 22 + d := by
  unfold costK
  split
  · split <;> omega
  · split
    · omega
    · split <;> omega
theorem vC_costAs {K : Nat} {M : MT} {g : Nat → Nat} (hM : MRel g M) (h : BookInv K g) {f k d : Nat} (hf : f < g 4) (hk : k < 6) (hd : d < 1000) : mX3_costAs M (nI f) (nI k) (nI d) = some (nI (costK k (g (23 + f)) d)) := by
  have h4 := h.1.1
  obtain ⟨-, -, -, hfe⟩ := h.2.1 f hf
  obtain ⟨-, -, -, c3⟩ := hM.2.2.1 f hf
  unfold mX3_costAs
  rw [kindN_v hk, ob_v, cell_v (by decide) (by omega), ob_v, Nat.mul_comm f 4, c3, v_cost_v hk hfe hd]
  rfl
theorem vM_note_L {K : Nat} {S : MS} {g : Nat → Nat} (hR : RowIs S g) (h : BookInv K g) {f k : Nat} (hf : f < g 4) (hk : k < 6) (y2 : Int32) : ∀ n j, j ≤ g 38 → g 38 - j < n → mX11_kindsOf_L16 S n (nI f) y2 (nI k) (if noteU g f k j then nI 1 else nI 0) (nI j) = some (if noteU g f k (g 38) then nI 1 else nI 0) := by
  intro n
  induction n with
  | zero => intro j _ h2; omega
  | succ n ih =>
    intro j hj hn
    have h4 := h.1.1
    have h38 := h.1.2.2.1
    obtain ⟨-, -, -, hfe⟩ := h.2.1 f hf
    rw [mX11_kindsOf_L16_s, ald_v (by decide) (by decide), hR 38 (by decide), ifN_le (by omega) (by omega)]
    by_cases hc : g 38 ≤ j
    · rw [if_pos hc, show j = g 38 by omega]
    · obtain ⟨n1, n2, n3⟩ := h.2.2.2.1 j (by omega)
      have ih' := ih (j + 1) (by omega) (by omega)
      rw [if_neg hc, pk_mul, nI_add, nm_v, ifB]
      simp only [nm_v, nI_add, ald_v (show 39 + 3 * j < 288 by omega) (show 288 < 2 ^ 31 by decide), ald_v (show 39 + 3 * j + 1 < 288 by omega) (show 288 < 2 ^ 31 by decide), ald_v (show 39 + 3 * j + 2 < 288 by omega) (show 288 < 2 ^ 31 by decide), ald_v (show 23 + f < 288 by omega) (show 288 < 2 ^ 31 by decide), hR (39 + 3 * j) (by omega), hR (39 + 3 * j + 1) (by omega), hR (39 + 3 * j + 2) (by omega), hR (23 + f) (by omega), costBy_v hk hfe (show g (39 + 3 * j + 1) < 1000 by omega), ob_v]
      have hcl := costK_le (k := k) (d := g (39 + 3 * j + 1)) hfe
      rw [ifN_eq (by omega) (by omega), ifN_eq (by omega) (by omega)]
      cases hb : noteU g f k j
      · have e : noteU g f k (j + 1) = false := by simp [noteU, hb]
        rw [e] at ih'
        simpa using ih'
      · by_cases e1 : g (39 + 3 * j) = f
        · by_cases e2 : costK k (g (23 + f)) (g (39 + 3 * j + 1)) = g (39 + 3 * j + 2)
          · have e : noteU g f k (j + 1) = true := by simp [noteU, hb, e2]
            rw [e] at ih'
            simpa [e1, e2] using ih'
          · have e : noteU g f k (j + 1) = false := by simp [noteU, hb, e1, e2]
            rw [e] at ih'
            simpa [e1, e2] using ih'
        · have e : noteU g f k (j + 1) = true := by simp [noteU, hb, e1]
          rw [e] at ih'
          simpa [e1] using ih'
theorem vC_note_L {K : Nat} {M : MT} {g : Nat → Nat} (hM : MRel g M) (h : BookInv K g) {f k : Nat} (hf : f < g 4) (hk : k < 6) : ∀ n j, j ≤ g 38 → g 38 - j < n → noteU g f k j = true → mX3_fitsNotes_L2 M n (nI f) (nI k) (nI j) = some (if noteU g f k (g 38) then nI 1 else nI 0) := by
  intro n
  induction n with
  | zero => intro j _ h2; omega
  | succ n ih =>
    intro j hj hn hb
    have h4 := h.1.1
    have h38 := h.1.2.2.1
    obtain ⟨-, -, -, hfe⟩ := h.2.1 f hf
    rw [mX3_fitsNotes_L2_s, hM.1.2.2.1, ifN_le (by omega) (by omega)]
    by_cases hc : g 38 ≤ j
    · rw [if_pos hc, show g 38 = j by omega, hb]; rfl
    · obtain ⟨n1, n2, n3⟩ := h.2.2.2.1 j (by omega)
      obtain ⟨c0, c1, c2⟩ := hM.2.2.2.2.1 j (by omega)
      have ih' := ih (j + 1) (by omega) (by omega)
      have hcl := costK_le (k := k) (d := g (39 + 3 * j + 1)) hfe
      rw [if_neg hc, cell_v (by decide) (by omega), ob_v, Nat.mul_comm j 3, Nat.add_zero, c0, ifN_eq (by omega) (by omega)]
      -- a note that does not fit ends it
      have stay : noteU g f k (j + 1) = false → noteU g f k (g 38) = false := by
        intro e
        have : ∀ m, noteU g f k (j + 1 + m) = false := by
          intro m
          induction m with
          | zero => exact e
          | succ m im =>
            show (noteU g f k (j + 1 + m) && _) = false
            rw [im]; rfl
        have := this (g 38 - (j + 1))
        rwa [show j + 1 + (g 38 - (j + 1)) = g 38 by omega] at this
      by_cases e1 : g (39 + 3 * j) = f
      · rw [if_pos e1, cell_v (by decide) (by omega), ob_v, Nat.mul_comm j 3, c1, vC_costAs hM h hf hk (by omega), ob_v, cell_v (by decide) (by omega), ob_v, Nat.mul_comm j 3, c2, ifN_eq (by omega) (by omega)]
        by_cases e2 : costK k (g (23 + f)) (g (39 + 3 * j + 1)) = g (39 + 3 * j + 2)
        · rw [if_pos e2, nm_v, nI_add]
          exact ih' (by simp [noteU, hb, e2])
        · rw [if_neg e2, stay (by simp [noteU, hb, e1, e2])]; rfl
      · rw [if_neg e1, nm_v, nI_add]
        exact ih' (by simp [noteU, hb, e1])
/-- KINDS by which all NOTES of f are so -/
def kindS (g : Nat → Nat) (f n : Nat) : Nat := setU (fun k => noteU g f k (g 38)) n
theorem vM_kinds_L {K : Nat} {S : MS} {g : Nat → Nat} (hR : RowIs S g) (h : BookInv K g) {f : Nat} (hf : f < g 4) : ∀ n k, k ≤ 6 → 6 - k < n → mX11_kindsOf_L4 S n (nI f) (nI (kindS g f k)) (nI k) = some (nI (kindS g f 6)) := by
  intro n
  induction n with
  | zero => intro k _ h2; omega
  | succ n ih =>
    intro k hk hn
    have h38 := h.1.2.2.1
    have hlt : kindS g f k < 2 ^ 6 := setU_lt' _ hk
    rw [mX11_kindsOf_L4_s, ifN_le (by decide) (by omega)]
    by_cases hc : 6 ≤ k
    · rw [if_pos hc, show k = 6 by omega]
    · have hx := vM_note_L hR h hf (show k < 6 by omega) (nI (kindS g f k)) FU 0 (by omega) (by unfold FU; omega)
      rw [show (if noteU g f k 0 = true then nI 1 else nI 0) = nI 1 from rfl] at hx
      rw [if_neg hc, hx, ob_v, ifB, nm_v, nm_v, nm_v, nm_v, nI_add, or_bit (by omega) (by omega), or_0 (by omega)]
      have ih' := ih (k + 1) (by omega) (by omega)
      by_cases hb : noteU g f k (g 38) = true
      · rw [if_pos hb]
        rw [show kindS g f (k + 1) = kindS g f k ||| 2 ^ k by simp [kindS, setU, hb]] at ih'
        exact ih'
      · rw [if_neg hb]
        rw [show kindS g f (k + 1) = kindS g f k by simp [kindS, setU, hb]] at ih'
        exact ih'
theorem vC_kinds_L {K : Nat} {M : MT} {g : Nat → Nat} (hM : MRel g M) (h : BookInv K g) {f : Nat} (hf : f < g 4) : ∀ n k, k ≤ 6 → 6 - k < n → mX3_kindsByNotes_L4 M n (nI f) (nI (kindS g f k)) (nI k) = some (nI (kindS g f 6)) := by
  intro n
  induction n with
  | zero => intro k _ h2; omega
  | succ n ih =>
    intro k hk hn
    have h38 := h.1.2.2.1
    have hlt : kindS g f k < 2 ^ 6 := setU_lt' _ hk
    rw [mX3_kindsByNotes_L4_s, ifN_le (by decide) (by omega)]
    by_cases hc : 6 ≤ k
    · rw [if_pos hc, show k = 6 by omega]
    · have hx : mX3_fitsNotes M (nI f) (nI k) = some (if noteU g f k (g 38) then nI 1 else nI 0) := vC_note_L hM h hf (by omega) FU 0 (by omega) (by unfold FU; omega) rfl
      rw [if_neg hc, hx, ob_v, ifB, nm_v, nm_v, nm_v, nI_add, or_bit (by omega) (by omega)]
      have ih' := ih (k + 1) (by omega) (by omega)
      by_cases hb : noteU g f k (g 38) = true
      · rw [if_pos hb]
        rw [show kindS g f (k + 1) = kindS g f k ||| 2 ^ k by simp [kindS, setU, hb]] at ih'
        exact ih'
      · rw [if_neg hb]
        rw [show kindS g f (k + 1) = kindS g f k by simp [kindS, setU, hb]] at ih'
        exact ih'
theorem s_kinds {K : Nat} {g : Nat → Nat} {C : CT} {S : MS} (h : Base K g C S) {f : Nat} (hf : f < g 4) : mX3_kindsByNotes (C.1 0) (nI f) = some (nI (kindS g f 6)) ∧ mX11_kindsOf S (nI f) = some (nI (kindS g f 6)) :=
  ⟨vC_kinds_L h.2.2 h.2.1 hf FU 0 (by decide) (by decide), vM_kinds_L h.1 h.2.1 hf FU 0 (by decide) (by decide)⟩
