/-! LOOK, TRUTH -/
def alU (c : Nat → Nat) (set k : Nat) : Nat → Nat
  | 0 => 0
  | n + 1 => if set.testBit n = true ∧ c n = c k then alU c set k n + 1 else alU c set k n
theorem alU_le (c : Nat → Nat) (set k : Nat) : ∀ n, alU c set k n ≤ n
  | 0 => Nat.le_refl _
  | n + 1 => by
    have := alU_le c set k n
    unfold alU
    split <;> omega
def mostU (c : Nat → Nat) (set : Nat) : Nat → Nat
  | 0 => 0
  | n + 1 => if set.testBit n = true then max (mostU c set n) (alU c set n 6) else mostU c set n
theorem mostU_le (c : Nat → Nat) (set : Nat) : ∀ n, mostU c set n ≤ 6
  | 0 => Nat.zero_le _
  | n + 1 => by
    have h1 := mostU_le c set n
    have h2 := alU_le c set n 6
    unfold mostU
    split <;> omega
theorem vC_al_L {K : Nat} {M : MT} {g : Nat → Nat} (hM : MRel g M) (h : BookInv K g) {f k set d : Nat} (hf : f < g 4) (hs : set < 64) (hd : d < 1000) : ∀ n j, j ≤ 6 → 6 - j < n → mX3_alikeWith_L16 M n (nI f) (nI set) (nI d) (nI (costK k (g (23 + f)) d)) (nI (alU (fun k => costK k (g (23 + f)) d) set k j)) (nI j) = some (nI (alU (fun k => costK k (g (23 + f)) d) set k 6)) := by
  intro n
  induction n with
  | zero => intro k _ h2; omega
  | succ n ih =>
    intro j hj hn
    obtain ⟨-, -, -, hfe⟩ := h.2.1 f hf
    have hal := alU_le (fun k => costK k (g (23 + f)) d) set k j
    have hc1 := costK_le (k := k) (d := d) hfe
    have hc2 := costK_le (k := j) (d := d) hfe
    rw [mX3_alikeWith_L16_s, ifN_le (by decide) (by omega)]
    by_cases hc : 6 ≤ j
    · rw [if_pos hc, show j = 6 by omega]
    · have ih' := ih (j + 1) (by omega) (by omega)
      rw [if_neg hc, holds_v set hs j (by omega), ob_v, ifB, vC_costAs hM h hf (by omega) hd, ob_v, ifN_eq (by omega) (by omega)]
      simp only [nm_v, nI_add]
      by_cases hb : set.testBit j = true
      · rw [if_pos hb]
        by_cases e : costK j (g (23 + f)) d = costK k (g (23 + f)) d
        · rw [if_pos e]
          rw [show alU (fun k => costK k (g (23 + f)) d) set k (j + 1) = alU (fun k => costK k (g (23 + f)) d) set k j + 1 by simp [alU, hb, e]] at ih'
          exact ih'
        · rw [if_neg e]
          rw [show alU (fun k => costK k (g (23 + f)) d) set k (j + 1) = alU (fun k => costK k (g (23 + f)) d) set k j by simp [alU, e]] at ih'
          exact ih'
      · rw [if_neg hb]
        rw [show alU (fun k => costK k (g (23 + f)) d) set k (j + 1) = alU (fun k => costK k (g (23 + f)) d) set k j by simp [alU, hb]] at ih'
        exact ih'
theorem vC_most_L {K : Nat} {M : MT} {g : Nat → Nat} (hM : MRel g M) (h : BookInv K g) {f set d : Nat} (hf : f < g 4) (hs : set < 64) (hd : d < 1000) : ∀ n k, k ≤ 6 → 6 - k < n → mX3_mostAlike_L6 M n (nI f) (nI set) (nI d) (nI (mostU (fun k => costK k (g (23 + f)) d) set k)) (nI k) = some (nI (mostU (fun k => costK k (g (23 + f)) d) set 6)) := by
  intro n
  induction n with
  | zero => intro k _ h2; omega
  | succ n ih =>
    intro k hk hn
    have hm := mostU_le (fun k => costK k (g (23 + f)) d) set k
    have hal := alU_le (fun k => costK k (g (23 + f)) d) set k 6
    rw [mX3_mostAlike_L6_s, ifN_le (by decide) (by omega)]
    by_cases hc : 6 ≤ k
    · rw [if_pos hc, show k = 6 by omega]
    · have ih' := ih (k + 1) (by omega) (by omega)
      have hx : mX3_alikeWith M (nI f) (nI k) (nI set) (nI d) = some (nI (alU (fun k => costK k (g (23 + f)) d) set k 6)) := by
        unfold mX3_alikeWith
        rw [vC_costAs hM h hf (by omega) hd, ob_v]
        exact vC_al_L hM h hf hs hd FU 0 (by decide) (by decide)
      rw [if_neg hc, holds_v set hs k (by omega), ob_v, ifB, hx, ob_v, ifN_lt (by omega) (by omega)]
      simp only [nm_v, nI_add]
      by_cases hb : set.testBit k = true
      · rw [if_pos hb]
        have e : (if mostU (fun k => costK k (g (23 + f)) d) set k < alU (fun k => costK k (g (23 + f)) d) set k 6 then nI (alU (fun k => costK k (g (23 + f)) d) set k 6) else nI (mostU (fun k => costK k (g (23 + f)) d) set k)) = nI (mostU (fun k => costK k (g (23 + f)) d) set (k + 1)) := by
          simp only [mostU, hb, if_true]
          split
          · rw [Nat.max_eq_right (by omega)]
          · rw [Nat.max_eq_left (by omega)]
        rw [e]
        exact ih'
      · rw [if_neg hb]
        rw [show mostU (fun k => costK k (g (23 + f)) d) set (k + 1) = mostU (fun k => costK k (g (23 + f)) d) set k by simp [mostU, hb]] at ih'
        exact ih'
theorem vM_al_L {K : Nat} {S : MS} {g : Nat → Nat} (hR : RowIs S g) (h : BookInv K g) {f k set d : Nat} (hf : f < g 4) (hk : k < 6) (hs : set < 64) (hd : d < 1000) (y4 : Int32) : ∀ n j, j ≤ 6 → 6 - j < n → mX11_mostAlike_L19 S n (nI f) (nI set) (nI d) y4 (nI k) (nI (if set.testBit k then alU (fun k => costK k (g (23 + f)) d) set k j else 0)) (nI j) = some (nI (if set.testBit k then alU (fun k => costK k (g (23 + f)) d) set k 6 else 0)) := by
  intro n
  induction n with
  | zero => intro k _ h2; omega
  | succ n ih =>
    intro j hj hn
    have h4 := h.1.1
    obtain ⟨-, -, -, hfe⟩ := h.2.1 f hf
    have hal := alU_le (fun k => costK k (g (23 + f)) d) set k j
    have hc1 := costK_le (k := k) (d := d) hfe
    have hc2 := costK_le (k := j) (d := d) hfe
    rw [mX11_mostAlike_L19_s, ifN_le (by decide) (by omega)]
    by_cases hc : 6 ≤ j
    · rw [if_pos hc, show j = 6 by omega]
    · have ih' := ih (j + 1) (by omega) (by omega)
      rw [if_neg hc, has_v set hs k hk, ob_v, ifB, has_v set hs j (by omega), ob_v, ifB]
      simp only [nm_v, nI_add, Nat.add_zero, ald_v (show 23 + f < 288 by omega) (show 288 < 2 ^ 31 by decide), hR (23 + f) (by omega), costBy_v hk hfe hd, costBy_v (show j < 6 by omega) hfe hd, ob_v]
      rw [ifN_eq (by omega) (by omega)]
      by_cases hk1 : set.testBit k = true
      · rw [if_pos hk1] at ih' ⊢
        rw [if_pos hk1] at ih'
        rw [if_pos hk1, if_pos hk1]
        by_cases hb : set.testBit j = true
        · rw [if_pos hb]
          by_cases e : costK k (g (23 + f)) d = costK j (g (23 + f)) d
          · rw [if_pos e]
            rw [show alU (fun k => costK k (g (23 + f)) d) set k (j + 1) = alU (fun k => costK k (g (23 + f)) d) set k j + 1 by simp [alU, hb, e]] at ih'
            exact ih'
          · rw [if_neg e]
            rw [show alU (fun k => costK k (g (23 + f)) d) set k (j + 1) = alU (fun k => costK k (g (23 + f)) d) set k j by simp [alU, Ne.symm e]] at ih'
            exact ih'
        · rw [if_neg hb]
          rw [show alU (fun k => costK k (g (23 + f)) d) set k (j + 1) = alU (fun k => costK k (g (23 + f)) d) set k j by simp [alU, hb]] at ih'
          exact ih'
      · rw [if_neg hk1] at ih'
        rw [if_neg hk1] at ih'
        rw [if_neg hk1, if_neg hk1, if_neg hk1]
        exact ih'
theorem vM_most_L {K : Nat} {S : MS} {g : Nat → Nat} (hR : RowIs S g) (h : BookInv K g) {f set d : Nat} (hf : f < g 4) (hs : set < 64) (hd : d < 1000) : ∀ n k, k ≤ 6 → 6 - k < n → mX11_mostAlike_L6 S n (nI f) (nI set) (nI d) (nI (mostU (fun k => costK k (g (23 + f)) d) set k)) (nI k) = some (nI (mostU (fun k => costK k (g (23 + f)) d) set 6)) := by
  intro n
  induction n with
  | zero => intro k _ h2; omega
  | succ n ih =>
    intro k hk hn
    have hm := mostU_le (fun k => costK k (g (23 + f)) d) set k
    have hal := alU_le (fun k => costK k (g (23 + f)) d) set k 6
    rw [mX11_mostAlike_L6_s, ifN_le (by decide) (by omega)]
    by_cases hc : 6 ≤ k
    · rw [if_pos hc, show k = 6 by omega]
    · have ih' := ih (k + 1) (by omega) (by omega)
      have hx := vM_al_L hR h hf (show k < 6 by omega) hs hd (nI (mostU (fun k => costK k (g (23 + f)) d) set k)) FU 0 (by decide) (by decide)
      rw [show (if set.testBit k = true then alU (fun k => costK k (g (23 + f)) d) set k 0 else 0) = 0 by split <;> rfl] at hx
      rw [if_neg hc, hx, ob_v]
      simp only [nm_v, nI_add]
      by_cases hb : set.testBit k = true
      · rw [if_pos hb, ifN_le (by omega) (by omega)]
        by_cases e : alU (fun k => costK k (g (23 + f)) d) set k 6 ≤ mostU (fun k => costK k (g (23 + f)) d) set k
        · rw [if_pos e]
          rw [show mostU (fun k => costK k (g (23 + f)) d) set (k + 1) = mostU (fun k => costK k (g (23 + f)) d) set k by simp only [mostU, hb, if_true]; exact Nat.max_eq_left e] at ih'
          exact ih'
        · rw [if_neg e]
          rw [show mostU (fun k => costK k (g (23 + f)) d) set (k + 1) = alU (fun k => costK k (g (23 + f)) d) set k 6 by simp only [mostU, hb, if_true]; exact Nat.max_eq_right (by omega)] at ih'
          exact ih'
      · rw [if_neg hb, ifN_le (by decide) (by omega), if_pos (Nat.zero_le _)]
        rw [show mostU (fun k => costK k (g (23 + f)) d) set (k + 1) = mostU (fun k => costK k (g (23 + f)) d) set k by simp [mostU, hb]] at ih'
        exact ih'
theorem s_most {K : Nat} {g : Nat → Nat} {C : CT} {S : MS} (h : Base K g C S) {f set d : Nat} (hf : f < g 4) (hs : set < 64) (hd : d < 1000) : ∃ v, v ≤ 6 ∧ mX3_mostAlike (C.1 0) (nI f) (nI set) (nI d) = some (nI v) ∧ mX11_mostAlike S (nI f) (nI set) (nI d) = some (nI v) :=
  ⟨_, mostU_le (fun k => costK k (g (23 + f)) d) set 6, vC_most_L h.2.2 h.2.1 hf hs hd FU 0 (by decide) (by decide), vM_most_L h.1 h.2.1 hf hs hd FU 0 (by decide) (by decide)⟩
theorem s_look_L {K : Nat} {g : Nat → Nat} {C : CT} {S : MS} (h : Base K g C S) {f set : Nat} (hf : f < g 4) (hs : set < 64) : ∀ m k, k + m = 10 → ∀ n, m < n → ∀ (y3 : Int32) (a b : Nat), ((a = b ∧ a ≤ 6) ∨ (a = 7 ∧ b = 99)) → ∃ r, mX10_look_L31 n (nI f) (nI set) y3 (nI a) (nI k) C = some (r, C) ∧ mX11_look_L30 n (nI f) (nI set) y3 (nI b) (nI k) S = some (r, S) := by
  intro m
  induction m with
  | zero =>
    intro k hk n hn y3 a b hab
    obtain ⟨n, rfl⟩ : ∃ j, n = j + 1 := ⟨n - 1, by omega⟩
    refine ⟨y3, ?_, ?_⟩
    · rw [mX10_look_L31_s, ifN_lt (by decide) (by omega), if_pos (by omega)]
    · rw [mX11_look_L30_s, ifN_le (by decide) (by omega), if_pos (by omega)]
  | succ m ih =>
    intro k hk n hn y3 a b hab
    obtain ⟨n, rfl⟩ : ∃ j, n = j + 1 := ⟨n - 1, by omega⟩
    rw [mX10_look_L31_s, mX11_look_L30_s, if_neg (show ¬ nI 9 < nI k from nI_nlt (by omega) (by decide)), if_neg (show ¬ nI 10 ≤ nI k from nI_ge (by omega) (by decide))]
    by_cases h0 : set = 0
    · rw [if_pos (show nI set = 0 by rw [h0]; rfl), if_pos (show nI set = 0 by rw [h0]; rfl)]
      exact ⟨y3, rfl, rfl⟩
    · have hne : ¬ nI set = 0 := fun q => h0 ((nI_eqz (by omega)).mp q)
      obtain ⟨v, hv, e1, e2⟩ := s_most h (d := k) hf hs (by omega)
      rw [if_neg hne, if_neg hne, e1, e2, ob_v, ob_v]
      simp only [nm_v, nI_add]
      rcases hab with ⟨rfl, ha⟩ | ⟨rfl, rfl⟩
      · by_cases hc : a ≤ v
        · have hq : nI a ≤ nI v := nI_le hc (by omega)
          simp only [if_pos hq]
          exact ih (k + 1) (by omega) n (by omega) y3 a a (Or.inl ⟨rfl, ha⟩)
        · have hq : ¬ nI a ≤ nI v := nI_ge (by omega) (by omega)
          simp only [if_neg hq]
          exact ih (k + 1) (by omega) n (by omega) (nI k) v v (Or.inl ⟨rfl, hv⟩)
      · have hq : ¬ nI 7 ≤ nI v := nI_ge (by omega) (by decide)
        have hq2 : ¬ nI 99 ≤ nI v := nI_ge (by omega) (by decide)
        simp only [if_neg hq, if_neg hq2]
        exact ih (k + 1) (by omega) n (by omega) (nI k) v v (Or.inl ⟨rfl, hv⟩)
/-- do the first n HEARD fit, were the FACTS s the TRUE ones -/
def fitU (g : Nat → Nat) (s : Nat) : Nat → Bool
  | 0 => true
  | n + 1 => fitU g s n && (hearsG g (g (58 + 2 * n)) s == decide (g (58 + 2 * n + 1) = 1))
theorem fit_stay (g : Nat → Nat) (s : Nat) {j : Nat} (e : fitU g s j = false) : ∀ m, fitU g s (j + m) = false
  | 0 => e
  | m + 1 => by
    show (fitU g s (j + m) && _) = false
    rw [fit_stay g s e m]; rfl
theorem vC_fit_L {K : Nat} {M : MT} {g : Nat → Nat} (hM : MRel g M) (h : BookInv K g) {s : Nat} (hs : s < 256) : ∀ n j, j ≤ g 57 → g 57 - j < n → fitU g s j = true → mX3_fitsHearings_L2 M n (nI s) (nI j) = some (if fitU g s (g 57) then nI 1 else nI 0) := by
  intro n
  induction n with
  | zero => intro j _ h2; omega
  | succ n ih =>
    intro j hj hn hb
    have h57 := h.1.2.2.2.1
    rw [mX3_fitsHearings_L2_s, hM.1.2.2.2.1, ifN_le (by omega) (by omega)]
    by_cases hc : g 57 ≤ j
    · rw [if_pos hc, show g 57 = j by omega, hb]; rfl
    · obtain ⟨n1, n2⟩ := h.2.2.2.2.1 j (by omega)
      obtain ⟨c0, c1⟩ := hM.2.2.2.2.2.1 j (by omega)
      have ih' := ih (j + 1) (by omega) (by omega)
      have stay : fitU g s (j + 1) = false → fitU g s (g 57) = false := by
        intro e
        have := fit_stay g s e (g 57 - (j + 1))
        rwa [show j + 1 + (g 57 - (j + 1)) = g 57 by omega] at this
      rw [if_neg hc, cell_v (by decide) (by omega), ob_v, Nat.mul_comm j 2, Nat.add_zero, c0, vC_hears hM h n1 hs, ob_v, cell_v (by decide) (by omega), ob_v, Nat.mul_comm j 2, c1, ifN_eq (by omega) (by decide)]
      simp only [nm_v, nI_add]
      have e0 : fitU g s (j + 1) = (hearsG g (g (58 + 2 * j)) s == decide (g (58 + 2 * j + 1) = 1)) := by simp [fitU, hb]
      cases hh : hearsG g (g (58 + 2 * j)) s <;> by_cases h1 : g (58 + 2 * j + 1) = 1
      · rw [if_pos h1, if_neg (by decide), stay (by rw [e0, hh]; simp [h1])]; rfl
      · rw [if_neg h1, if_pos (by rfl)]
        exact ih' (by rw [e0, hh]; simp [h1])
      · rw [if_pos h1, if_pos (by rfl)]
        exact ih' (by rw [e0, hh]; simp [h1])
      · rw [if_neg h1, if_neg (by decide), stay (by rw [e0, hh]; simp [h1])]; rfl
theorem vM_fit_L {K : Nat} {S : MS} {g : Nat → Nat} (hR : RowIs S g) (h : BookInv K g) {s : Nat} (hs : s < 256) (b0 : Bool) : ∀ n j, j ≤ g 57 → g 57 - j < n → mX11_mayBeTrue_L15 S n (nI s) (if b0 && fitU g s j then nI 1 else nI 0) (nI j) = some (if b0 && fitU g s (g 57) then nI 1 else nI 0) := by
  intro n
  induction n with
  | zero => intro j _ h2; omega
  | succ n ih =>
    intro j hj hn
    have h57 := h.1.2.2.2.1
    rw [mX11_mayBeTrue_L15_s, ald_v (by decide) (by decide), hR 57 (by decide), ifN_le (by omega) (by omega)]
    by_cases hc : g 57 ≤ j
    · rw [if_pos hc, show g 57 = j by omega]
      split <;> rfl
    · obtain ⟨n1, n2⟩ := h.2.2.2.2.1 j (by omega)
      have ih' := ih (j + 1) (by omega) (by omega)
      rw [if_neg hc, pk_mul, ifB]
      simp only [nI_add, nm_v]
      rw [ald_v (by omega) (by decide), hR (58 + 2 * j) (by omega), vM_hears hR h n1 hs, ob_v, ald_v (by omega) (by decide), hR (58 + 2 * j + 1) (by omega), ifN_eq (by omega) (by decide)]
      cases hb : (b0 && fitU g s j)
      · have e : (b0 && fitU g s (j + 1)) = false := by
          simp only [fitU]
          cases b0
          · rfl
          · simp at hb; simp [hb]
        rw [e] at ih'
        simpa using ih'
      · have hb1 : b0 = true := by cases b0 <;> simp_all
        have hb2 : fitU g s j = true := by cases b0 <;> simp_all
        have e0 : (b0 && fitU g s (j + 1)) = (hearsG g (g (58 + 2 * j)) s == decide (g (58 + 2 * j + 1) = 1)) := by simp [fitU, hb1, hb2]
        rw [e0] at ih'
        cases hh : hearsG g (g (58 + 2 * j)) s <;> by_cases h1 : g (58 + 2 * j + 1) = 1 <;> simp [hh, h1, nI_eq] at ih' ⊢ <;> exact ih'
theorem s_fit {K : Nat} {g : Nat → Nat} {C : CT} {S : MS} (h : Base K g C S) {s : Nat} (hs : s < 256) : ∃ b : Bool, mX11_mayBeTrue S (nI s) = some (if b then nI 1 else nI 0) ∧ ((mX10_contradictIn (nI s) = some (nI 1) ∧ b = false) ∨ (mX10_contradictIn (nI s) = some (nI 0) ∧ mX3_fitsHearings (C.1 0) (nI s) = some (if b then nI 1 else nI 0))) := by
  obtain ⟨v, hv, e1, -, e3⟩ := pairs_v s hs
  have h57 := h.2.1.1.2.2.2.1
  unfold mX11_mayBeTrue
  rw [e1, ob_v, ifN_z (by omega)]
  by_cases h0 : v = 0
  · have hx := vM_fit_L h.1 h.2.1 hs true FU 0 (by omega) (by unfold FU; omega)
    refine ⟨fitU g s (g 57), ?_, Or.inr ⟨?_, ?_⟩⟩
    · rw [if_pos h0]
      exact hx
    · rw [e3, if_pos h0]
    · exact vC_fit_L h.2.2 h.2.1 hs FU 0 (by omega) (by unfold FU; omega) rfl
  · have hx := vM_fit_L h.1 h.2.1 hs false FU 0 (by omega) (by unfold FU; omega)
    refine ⟨false, ?_, Or.inl ⟨?_, rfl⟩⟩
    · rw [if_neg h0]
      exact hx
    · rw [e3, if_neg h0]
theorem s_truth_L {K : Nat} {g : Nat → Nat} {C : CT} {S : MS} (h : Base K g C S) (y1 : Int32) : ∀ m k, k + m = 256 → ∀ n, m < n → ∀ y2 y3 y4 : Int32, ∃ r, mX10_truth_L26 n y1 y2 y3 y4 (nI k) C = some (r, C) ∧ mX11_truth_L28 n y1 y2 y3 y4 (nI k) S = some (r, S) := by
  intro m
  induction m with
  | zero =>
    intro k hk n hn y2 y3 y4
    obtain ⟨n, rfl⟩ : ∃ j, n = j + 1 := ⟨n - 1, by omega⟩
    rw [mX10_truth_L26_s, mX11_truth_L28_s, if_pos (show nI 255 < nI k from nI_lt (by omega) (by omega)), if_pos (show nI 256 ≤ nI k from nI_le (by omega) (by omega))]
    split
    · exact ⟨_, rfl, rfl⟩
    · split
      · exact ⟨_, rfl, rfl⟩
      · split
        · exact ⟨_, rfl, rfl⟩
        · exact ⟨_, rfl, rfl⟩
  | succ m ih =>
    intro k hk n hn y2 y3 y4
    obtain ⟨n, rfl⟩ : ∃ j, n = j + 1 := ⟨n - 1, by omega⟩
    rw [mX10_truth_L26_s, mX11_truth_L28_s, if_neg (show ¬ nI 255 < nI k from nI_nlt (by omega) (by decide)), if_neg (show ¬ nI 256 ≤ nI k from nI_ge (by omega) (by decide))]
    obtain ⟨b, e1, e2⟩ := s_fit h (s := k) (by omega)
    rw [e1, ob_v, ifB]
    simp only [nm_v, nI_add]
    rcases e2 with ⟨e2, rfl⟩ | ⟨e2, e3⟩
    · rw [e2, ob_v, if_neg (by decide), if_neg (by decide)]
      exact ih (k + 1) (by omega) n (by omega) y2 y3 y4
    · rw [e2, ob_v, if_pos (show nI 0 = 0 from rfl), e3, ob_v, ifB]
      cases b
      · rw [if_neg (by decide), if_neg (by decide)]
        exact ih (k + 1) (by omega) n (by omega) y2 y3 y4
      · rw [if_pos rfl, if_pos rfl]
        exact ih (k + 1) (by omega) n (by omega) _ _ _
