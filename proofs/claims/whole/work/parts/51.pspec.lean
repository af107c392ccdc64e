/-! the BOOK as naturals, and what follows from it -/
/-- the reference's row is g -/
def RowIs (S : MS) (g : Nat → Nat) : Prop := ∀ k, k < 288 → S.1 0 k = nI (g k)
/-- FACTS that the first k FICTIONS give with p PLEADED, and the TRUE ones -/
def supU (g : Nat → Nat) (p : Nat) : Nat → Nat
  | 0 => g 3
  | k + 1 => if p.testBit k then supU g p k ||| 2 ^ g (17 + k) else supU g p k
def sup (g : Nat → Nat) (p : Nat) : Nat := supU g p (g 4)
def costK (k fee d : Nat) : Nat := if k = 1 ∨ k = 3 then (if d ≤ 1 then fee else (fee + 1) / 2) else if k = 2 then fee + 2 else if k = 5 then fee + 2 + d else fee
def winsK (k u : Nat) : Bool := if k = 1 then decide (1 < u) else if k = 3 then decide (0 < u) else if k = 5 then decide (2 < u) else false
def winsG (g : Nat → Nat) (f : Nat) : Bool := winsK (g (5 + f)) (pop (andn (g (11 + f)) (g 3)))
def allowK (k : Nat) (all some' : Bool) (d : Nat) : Bool := if k = 2 ∨ k = 5 then all || decide (d = 0) else if k = 3 then all && decide (d % 2 = 1) else if k = 4 then all || some' else all
/-- may f be PLEADED with p PLEADED at STEP d -/
def mayG (g : Nat → Nat) (f p d : Nat) : Bool := !p.testBit f && allowK (g (5 + f)) (decide (g (11 + f) &&& sup g p = g (11 + f))) (decide (g (11 + f) &&& sup g p ≠ 0)) d
def costG (g : Nat → Nat) (f d : Nat) : Nat := costK (g (5 + f)) (g (23 + f)) d
def hearsG (g : Nat → Nat) (c s : Nat) : Bool := decide (andn (g (30 + c)) s = 0)
/-- what holds of every BOOK and SUIT that K calls may lead to -/
def BookInv (K : Nat) (g : Nat → Nat) : Prop :=
  (g 4 ≤ 6 ∧ g 29 ≤ 4 ∧ g 38 ≤ 6 ∧ g 57 ≤ 6 ∧ g 70 ≤ 8 ∧ g 0 < 2 ^ g 4 ∧ g 1 ≤ K ∧ g 2 ≤ 100 * K ∧ g 3 < 256) ∧
  (∀ f, f < g 4 → g (5 + f) < 6 ∧ g (11 + f) < 256 ∧ g (17 + f) < 8 ∧ g (23 + f) ≤ 20) ∧
  (∀ c, c < g 29 → g (30 + c) < 256 ∧ g (34 + c) ≤ 20) ∧
  (∀ k, k < g 38 → g (39 + 3 * k) < g 4 ∧ g (39 + 3 * k + 1) ≤ 20 ∧ g (39 + 3 * k + 2) ≤ 60) ∧
  (∀ k, k < g 57 → g (58 + 2 * k) < g 29 ∧ g (58 + 2 * k + 1) ≤ 1) ∧
  (∀ k, k < g 70 → g (71 + 3 * k) < 2 ^ g 4 ∧ g (71 + 3 * k + 1) ≤ K ∧ g (71 + 3 * k + 2) ≤ 100 * K)
/-- the class's matter is the BOOK and SUIT of g -/
def MRel (g : Nat → Nat) (M : MT) : Prop :=
  ((M.1 0).1 = nI (g 4) ∧ (M.1 1).1 = nI (g 29) ∧ (M.1 2).1 = nI (g 38) ∧ (M.1 3).1 = nI (g 57) ∧ (M.1 4).1 = nI (g 70)) ∧
  (M.2 7 = nI (g 3) ∧ M.2 8 = nI (g 0) ∧ M.2 9 = nI (g 1) ∧ M.2 10 = nI (g 2)) ∧
  (∀ f, f < g 4 → (M.1 0).2 (4 * f) = nI (g (5 + f)) ∧ (M.1 0).2 (4 * f + 1) = nI (g (11 + f)) ∧ (M.1 0).2 (4 * f + 2) = nI (g (17 + f)) ∧ (M.1 0).2 (4 * f + 3) = nI (g (23 + f))) ∧
  (∀ c, c < g 29 → (M.1 1).2 (2 * c) = nI (g (30 + c)) ∧ (M.1 1).2 (2 * c + 1) = nI (g (34 + c))) ∧
  (∀ k, k < g 38 → (M.1 2).2 (3 * k) = nI (g (39 + 3 * k)) ∧ (M.1 2).2 (3 * k + 1) = nI (g (39 + 3 * k + 1)) ∧ (M.1 2).2 (3 * k + 2) = nI (g (39 + 3 * k + 2))) ∧
  (∀ k, k < g 57 → (M.1 3).2 (2 * k) = nI (g (58 + 2 * k)) ∧ (M.1 3).2 (2 * k + 1) = nI (g (58 + 2 * k + 1))) ∧
  (∀ k, k < g 70 → (M.1 4).2 (3 * k) = nI (g (71 + 3 * k)) ∧ (M.1 4).2 (3 * k + 1) = nI (g (71 + 3 * k + 1)) ∧ (M.1 4).2 (3 * k + 2) = nI (g (71 + 3 * k + 2)))
theorem BookInv.p64 {K : Nat} {g : Nat → Nat} (h : BookInv K g) : g 0 < 64 := by
  have h1 := h.1.2.2.2.2.2.1
  have h2 := h.1.1
  exact Nat.lt_of_lt_of_le h1 (Nat.pow_le_pow_right (n := 2) (by decide) h2)
theorem supU_lt {K : Nat} {g : Nat → Nat} (h : BookInv K g) (p : Nat) : ∀ k, k ≤ g 4 → supU g p k < 256
  | 0, _ => h.1.2.2.2.2.2.2.2.2
  | k + 1, hk => by
    unfold supU
    have ih := supU_lt h p k (by omega)
    have h8 := (h.2.1 k (by omega)).2.2.1
    split
    · exact Nat.or_lt_two_pow (n := 8) ih (Nat.pow_lt_pow_right (by decide) h8)
    · exact ih
theorem sup_lt {K : Nat} {g : Nat → Nat} (h : BookInv K g) (p : Nat) : sup g p < 256 := supU_lt h p _ (Nat.le_refl _)
/-! the reference -/
theorem vM_sup_L {K : Nat} {S : MS} {g : Nat → Nat} (hR : RowIs S g) (h : BookInv K g) {p : Nat} (hp : p < 64) : ∀ n k, k ≤ g 4 → g 4 - k < n → mX11_supposedBy_L9 S n (nI p) (nI (supU g p k)) (nI k) = some (nI (sup g p)) := by
  intro n
  induction n with
  | zero => intro k _ h2; omega
  | succ n ih =>
    intro k hk hn
    have h4 := h.1.1
    rw [mX11_supposedBy_L9_s, ald_v (by decide) (by decide), hR 4 (by decide)]
    by_cases hc : g 4 ≤ k
    · rw [if_pos (nI_le hc (by omega))]
      have : k = g 4 := by omega
      rw [this]; rfl
    · rw [if_neg (fun q => hc ((nI_leI (by omega) (by omega)).mp q)), has_v p hp k (by omega), ob_v]
      have hlt := supU_lt h p k hk
      by_cases hb : p.testBit k
      · rw [if_pos hb, if_neg (by decide), nI_add, ald_v (by omega) (by decide), hR (17 + k) (by omega)]
        have h8 := (h.2.1 k (by omega)).2.2.1
        rw [shl_v _ (by omega), nI_or (by omega) (Nat.pow_lt_pow_right (by decide) (by omega)), nm_v, nm_v, nI_add]
        have e : supU g p k ||| 2 ^ g (17 + k) = supU g p (k + 1) := by simp [supU, hb]
        rw [e]
        exact ih (k + 1) (by omega) (by omega)
      · rw [if_neg hb, if_pos (show nI 0 = 0 from rfl), nm_v, nm_v, nI_add, nI_or (by omega) (by decide), Nat.or_zero]
        have e : supU g p k = supU g p (k + 1) := by simp [supU, hb]
        rw [e]
        exact ih (k + 1) (by omega) (by omega)
theorem vM_sup {K : Nat} {S : MS} {g : Nat → Nat} (hR : RowIs S g) (h : BookInv K g) {p : Nat} (hp : p < 64) : mX11_supposedBy S (nI p) = some (nI (sup g p)) := by
  unfold mX11_supposedBy
  rw [ald_v (by decide) (by decide), hR 3 (by decide)]
  exact vM_sup_L hR h hp FU 0 (Nat.zero_le _) (by have := h.1.1; unfold FU; omega)
theorem costBy_v {k fee d : Nat} (hk : k < 6) (hf : fee ≤ 20) (hd : d < 1000) : mX11_costBy (nI k) (nI fee) (nI d) = some (nI (costK k fee d)) := by
  have hdiv : (nI (fee + 1) / nI 2) = nI ((fee + 1) / 2) := pk_div (by omega) (by decide) (by decide)
  have hle : (nI d ≤ nI 1) ↔ d ≤ 1 := nI_leI (by omega) (by decide)
  have e : mX11_costBy (nI k) (nI fee) (nI d) = some (if k = 1 ∨ k = 3 then (if nI d ≤ nI 1 then nI fee else (nI fee + nI 1) / nI 2) else if k = 2 then nI fee + nI 2 else if k = 5 then nI fee + nI 2 + nI d else nI fee) := by
    unfold mX11_costBy
    have e1 : ∀ j, j < 6 → ((nI k = nI j) ↔ k = j) := fun j hj => nI_eq (by omega) (by omega)
    simp only [e1 1 (by decide), e1 2 (by decide), e1 3 (by decide), e1 4 (by decide), e1 5 (by decide)]
    rcases (show k = 0 ∨ k = 1 ∨ k = 2 ∨ k = 3 ∨ k = 4 ∨ k = 5 by omega) with rfl | rfl | rfl | rfl | rfl | rfl <;> simp <;> split <;> rfl
  rw [e, nI_add, hdiv, nI_add, nI_add]
  simp only [hle]
  unfold costK
  congr 1
  split
  · split <;> rfl
  · split
    · rfl
    · split <;> rfl

theorem n00 : (nI 0 = (0 : Int32)) = True := eq_true rfl
theorem n10 : (nI 1 = (0 : Int32)) = False := eq_false (by decide)
theorem vM_wins {K : Nat} {S : MS} {g : Nat → Nat} (hR : RowIs S g) (h : BookInv K g) {f : Nat} (hf : f < g 4) : mX11_wins S (nI f) = some (if winsG g f then nI 1 else nI 0) := by
  have h4 := h.1.1
  obtain ⟨hk, hn, -, -⟩ := h.2.1 f hf
  have h3 : g 3 < 256 := h.1.2.2.2.2.2.2.2.2
  have hpop := pop_le (andn (g (11 + f)) (g 3))
  unfold mX11_wins
  rw [nI_add, ald_v (by omega) (by decide), hR (11 + f) (by omega), ald_v (by decide) (by decide), hR 3 (by decide), nI_andn hn h3, bits_v _ (andn_lt hn), ob_v, nI_add, ald_v (by omega) (by decide), hR (5 + f) (by omega)]
  unfold winsG winsK
  generalize g (5 + f) = k at hk ⊢
  generalize pop (andn (g (11 + f)) (g 3)) = u at hpop ⊢
  have e1 : ∀ j, j < 6 → ((nI k = nI j) ↔ k = j) := fun j hj => nI_eq (by omega) (by omega)
  simp only [e1 1 (by decide), e1 2 (by decide), e1 3 (by decide), e1 4 (by decide), e1 5 (by decide), zo_0, zo_1, nI_leI (show u < 2 ^ 31 by omega) (show 1 < 2 ^ 31 by decide), nI_leI (show u < 2 ^ 31 by omega) (show 2 < 2 ^ 31 by decide), nI_lez (show u < 2 ^ 31 by omega)]
  rcases (show k = 0 ∨ k = 1 ∨ k = 2 ∨ k = 3 ∨ k = 4 ∨ k = 5 by omega) with rfl | rfl | rfl | rfl | rfl | rfl <;> simp <;> split <;> simp <;> omega
theorem vM_cost {K : Nat} {S : MS} {g : Nat → Nat} (hR : RowIs S g) (h : BookInv K g) {f d : Nat} (hf : f < g 4) (hd : d < 1000) : mX11_cost S (nI f) (nI d) = some (nI (costG g f d)) := by
  have h4 := h.1.1
  obtain ⟨hk, -, -, hfe⟩ := h.2.1 f hf
  unfold mX11_cost
  rw [nI_add, ald_v (by omega) (by decide), hR (5 + f) (by omega), nI_add, ald_v (by omega) (by decide), hR (23 + f) (by omega), costBy_v hk hfe hd]
  rfl
theorem rem2 {d : Nat} (hd : d < 1000) : nI d - nI d / nI 2 * nI 2 = nI (d % 2) := pk_rem (by omega) (by decide) (by decide)
theorem vM_may {K : Nat} {S : MS} {g : Nat → Nat} (hR : RowIs S g) (h : BookInv K g) {f p d : Nat} (hf : f < g 4) (hp : p < 64) (hd : d < 1000) : mX11_mayPlead S (nI f) (nI p) (nI d) = some (if mayG g f p d then nI 1 else nI 0) := by
  have h4 := h.1.1
  obtain ⟨hk, hn, -, -⟩ := h.2.1 f hf
  have hs := sup_lt h p
  unfold mX11_mayPlead
  rw [nI_add, ald_v (by omega) (by decide), hR (11 + f) (by omega), vM_sup hR h hp, ob_v, nI_and (by omega) (by omega), nm_v, has_v p hp f (by omega), nI_add, rem2 hd]
  simp only [ald_v (show 5 + f < 288 by omega) (show 288 < 2 ^ 31 by decide), hR (5 + f) (by omega)]
  unfold mayG allowK
  have hal : g (11 + f) &&& sup g p < 256 := Nat.lt_of_le_of_lt Nat.and_le_left hn
  generalize g (5 + f) = k at hk ⊢
  generalize g (11 + f) &&& sup g p = x at hal ⊢
  generalize g (11 + f) = y at hn ⊢
  have e1 : ∀ j, j < 6 → ((nI k = nI j) ↔ k = j) := fun j hj => nI_eq (by omega) (by omega)
  simp only [e1 1 (by decide), e1 2 (by decide), e1 3 (by decide), e1 4 (by decide), e1 5 (by decide), zo_0, zo_1, ob_v, nI_eq (show x < 2 ^ 31 by omega) (show y < 2 ^ 31 by omega), nI_eqz (show x < 2 ^ 31 by omega), nI_eqz (show d < 2 ^ 31 by omega), nI_eq (show d % 2 < 2 ^ 31 by omega) (show 1 < 2 ^ 31 by decide)]
  cases p.testBit f <;> rcases (show k = 0 ∨ k = 1 ∨ k = 2 ∨ k = 3 ∨ k = 4 ∨ k = 5 by omega) with rfl | rfl | rfl | rfl | rfl | rfl <;> simp [n00, n10] <;> (repeat' split) <;> simp_all
theorem vM_hears {K : Nat} {S : MS} {g : Nat → Nat} (hR : RowIs S g) (h : BookInv K g) {c s : Nat} (hc : c < g 29) (hs : s < 256) : mX11_hears S (nI c) (nI s) = some (if hearsG g c s then nI 1 else nI 0) := by
  have h4 := h.1.2.1
  have hn := (h.2.2.1 c hc).1
  unfold mX11_hears
  rw [nI_add, ald_v (by omega) (by decide), hR (30 + c) (by omega), nI_andn hn hs]
  have := andn_lt (b := s) hn
  simp only [nI_eqz (show andn (g (30 + c)) s < 2 ^ 31 by omega), zo_0, zo_1, hearsG]
  split <;> simp_all

/-! the class -/
theorem cell_v {M : RS} {mo wi : Nat} {nn a b : Nat} (hn : nn < 1000) (hlt : a * wi + b < nn) : mX7_cell (nI mo) (nI wi) nn M (nI a) (nI b) = some (M.2 (a * wi + b)) := by
  unfold mX7_cell
  rw [nm_v, pk_mul, nI_add, if_neg (nI_pos (by omega)), show Int32.ofNat nn = nI nn from rfl, if_neg (fun q => absurd ((nI_leI (a := nn) (by omega) (by omega)).mp q) (by omega)), ald_v hlt (by omega)]
theorem vC_sup_L {K : Nat} {M : MT} {g : Nat → Nat} (hM : MRel g M) (h : BookInv K g) {p : Nat} (hp : p < 64) : ∀ n k, k ≤ g 4 → g 4 - k < n → mX3_factsWith_L7 M n (nI p) (nI (supU g p k)) (nI k) = some (nI (sup g p)) := by
  intro n
  induction n with
  | zero => intro k _ h2; omega
  | succ n ih =>
    intro k hk hn
    have h4 := h.1.1
    rw [mX3_factsWith_L7_s, hM.1.1]
    by_cases hc : g 4 ≤ k
    · rw [if_pos (nI_le hc (by omega))]
      have : k = g 4 := by omega
      rw [this]; rfl
    · rw [if_neg (fun q => hc ((nI_leI (by omega) (by omega)).mp q)), holds_v p hp k (by omega), ob_v]
      have hlt := supU_lt h p k hk
      by_cases hb : p.testBit k
      · have hcell := (hM.2.2.1 k (by omega)).2.2.1
        rw [if_pos hb, if_neg (by decide), cell_v (by decide) (by omega), ob_v, Nat.mul_comm k 4, hcell]
        have h8 := (h.2.1 k (by omega)).2.2.1
        rw [shl_v _ (by omega), nI_or (by omega) (Nat.pow_lt_pow_right (by decide) (by omega)), nm_v, nm_v, nI_add]
        have e : supU g p k ||| 2 ^ g (17 + k) = supU g p (k + 1) := by simp [supU, hb]
        rw [e]
        exact ih (k + 1) (by omega) (by omega)
      · rw [if_neg hb, if_pos (show nI 0 = 0 from rfl), nm_v, nI_add]
        have e : supU g p k = supU g p (k + 1) := by simp [supU, hb]
        rw [e]
        exact ih (k + 1) (by omega) (by omega)
theorem vC_sup {K : Nat} {M : MT} {g : Nat → Nat} (hM : MRel g M) (h : BookInv K g) {p : Nat} (hp : p < 64) : mX3_factsWith M (nI p) = some (nI (sup g p)) := by
  unfold mX3_factsWith
  rw [hM.2.1.1]
  exact vC_sup_L hM h hp FU 0 (Nat.zero_le _) (by have := h.1.1; unfold FU; omega)
theorem kindN_v {M : MT} {k : Nat} (hk : k < 6) : mX3_kindNumbered M (nI k) = some k := by
  unfold mX3_kindNumbered adq
  rw [if_neg (nI_pos (by omega)), if_pos (nI_lt hk (by decide)), if_neg (nI_in hk (by decide)), nI_clamp (by omega)]
theorem v_cost_v {k fee d : Nat} (hk : k < 6) (hf : fee ≤ 20) (hd : d < 1000) : v_cost k (nI fee) (nI d) = some (nI (costK k fee d)) := by
  have hdiv : (nI (fee + 1) / nI 2) = nI ((fee + 1) / 2) := pk_div (by omega) (by decide) (by decide)
  have hlt : (nI d < nI 2) ↔ d ≤ 1 := (nI_ltI (by omega) (by decide)).trans (by omega)
  rcases (show k = 0 ∨ k = 1 ∨ k = 2 ∨ k = 3 ∨ k = 4 ∨ k = 5 by omega) with rfl | rfl | rfl | rfl | rfl | rfl
  · rfl
  · simp only [v_cost, mX5_cost, mX6_cost, ob_v, nm_v, hlt, nI_add, hdiv, costK]; simp; split <;> rfl
  · simp only [v_cost, mX1_cost, mX6_cost, ob_v, nI_add, costK]; simp
  · simp only [v_cost, mX5_cost, mX6_cost, ob_v, nm_v, hlt, nI_add, hdiv, costK]; simp; split <;> rfl
  · rfl
  · simp only [v_cost, mX8_cost, mX1_cost, mX6_cost, ob_v, nI_add, costK]; simp
theorem v_wins_v {k u : Nat} (hk : k < 6) (hu : u ≤ 8) : v_losesWith k (nI u) = some (if winsK k u then nI 1 else nI 0) := by
  have hl : ∀ j, j < 6 → ((nI u < nI j) ↔ u < j) := fun j hj => nI_ltI (by omega) (by omega)
  rcases (show k = 0 ∨ k = 1 ∨ k = 2 ∨ k = 3 ∨ k = 4 ∨ k = 5 by omega) with rfl | rfl | rfl | rfl | rfl | rfl
  · rfl
  · simp only [v_losesWith, mX5_losesWith, hl 2 (by decide), zo_0, zo_1, winsK]; simp; split <;> simp <;> omega
  · rfl
  · simp only [v_losesWith, mX9_losesWith, hl 1 (by decide), zo_0, zo_1, winsK]; simp; split <;> simp <;> omega
  · rfl
  · simp only [v_losesWith, mX8_losesWith, hl 3 (by decide), zo_0, zo_1, winsK]; simp; split <;> simp <;> omega

theorem flt_le (a b : Nat → Bool) : ∀ L : List Nat, (L.filter fun i => a i && b i).length ≤ (L.filter a).length := by
  intro L
  induction L with
  | nil => exact Nat.le_refl _
  | cons i L ih =>
    cases ha : a i <;> cases hb : b i <;> simp [List.filter_cons, ha, hb] <;> omega
theorem flt_eq (a b : Nat → Bool) : ∀ L : List Nat, ((L.filter fun i => a i && b i).length = (L.filter a).length ↔ ∀ i ∈ L, a i = true → b i = true) := by
  intro L
  induction L with
  | nil => simp
  | cons i L ih =>
    have hle := flt_le a b L
    cases ha : a i <;> cases hb : b i <;> simp [List.filter_cons, ha, hb, ih] <;> omega
theorem pop_and (x y : Nat) : pop (x &&& y) = ((List.range 8).filter fun i => x.testBit i && y.testBit i).length := by
  unfold pop
  simp only [Nat.testBit_and]
theorem byte_bits {x : Nat} (hx : x < 256) (i : Nat) (hi : 8 ≤ i) : x.testBit i = false := Nat.testBit_lt_two_pow (Nat.lt_of_lt_of_le hx (Nat.pow_le_pow_right (n := 2) (by decide) hi))
theorem pop_eq_a {x : Nat} (hx : x < 256) (y : Nat) : (pop (x &&& y) = pop x) ↔ x &&& y = x := by
  rw [pop_and]
  unfold pop
  rw [flt_eq]
  constructor
  · intro h
    apply Nat.eq_of_testBit_eq
    intro i
    rw [Nat.testBit_and]
    by_cases hi : i < 8
    · have := h i (List.mem_range.mpr hi)
      cases hb : x.testBit i
      · rfl
      · simp [this hb]
    · rw [byte_bits hx i (by omega)]; rfl
  · intro h i _ hb
    rw [← h, Nat.testBit_and] at hb
    simp only [Bool.and_eq_true] at hb
    exact hb.2
theorem pop_pos {z : Nat} (hz : z < 256) : (1 ≤ pop z) ↔ z ≠ 0 := by
  constructor
  · intro h q
    subst q
    exact absurd h (by decide)
  · intro h
    unfold pop
    apply Nat.one_le_iff_ne_zero.mpr
    intro q
    apply h
    apply Nat.eq_of_testBit_eq
    intro i
    rw [Nat.zero_testBit]
    by_cases hi : i < 8
    · have h2 := List.eq_nil_of_length_eq_zero q
      have h3 := List.filter_eq_nil_iff.mp h2 i (List.mem_range.mpr hi)
      simpa using h3
    · exact byte_bits hz i (by omega)
theorem odd_v : ∀ d, d < 1000 → nI d &&& nI 1 = nI (d % 2) := by
  intro d hd
  rw [nI_and (by omega) (by decide), Nat.and_one_is_mod]
theorem v_allows_v {k x y d : Nat} (hk : k < 6) (hx : x < 256) (hy : y < 256) (hd : d < 1000) : v_allows k (nI (pop x)) (nI (pop (x &&& y))) (nI d) = some (if allowK k (decide (x &&& y = x)) (decide (x &&& y ≠ 0)) d then nI 1 else nI 0) := by
  have h1 := pop_le x
  have h2 := pop_le (x &&& y)
  have q1 : (nI (pop (x &&& y)) = nI (pop x)) = (decide (x &&& y = x) = true) := by
    rw [decide_eq_true_eq, ← propext (pop_eq_a hx y)]
    exact propext (nI_eq (by omega) (by omega))
  have q2 : (nI 1 ≤ nI (pop (x &&& y))) = (decide (x &&& y ≠ 0) = true) := by
    rw [decide_eq_true_eq, ← propext (pop_pos (Nat.lt_of_le_of_lt Nat.and_le_left hx))]
    exact propext (nI_leI (by decide) (by omega))
  have q3 : (nI d = 0) = (d = 0) := propext (nI_eqz (by omega))
  have q4 : (nI d &&& nI 1 = nI 1) = (d % 2 = 1) := by rw [odd_v d hd]; exact propext (nI_eq (by omega) (by decide))
  have key : ∀ a s : Bool, (nI (pop (x &&& y)) = nI (pop x)) = (a = true) → (nI 1 ≤ nI (pop (x &&& y))) = (s = true) → v_allows k (nI (pop x)) (nI (pop (x &&& y))) (nI d) = some (if allowK k a s d then nI 1 else nI 0) := by
    intro a s q1 q2
    rcases (show k = 0 ∨ k = 1 ∨ k = 2 ∨ k = 3 ∨ k = 4 ∨ k = 5 by omega) with rfl | rfl | rfl | rfl | rfl | rfl <;>
      simp only [v_allows, mX6_allows, mX1_allows, mX9_allows, mX2_allows, zo_0, zo_1, q1, q2, q3, q4, allowK] <;>
      cases a <;> cases s <;> by_cases c3 : d = 0 <;> by_cases c4 : d % 2 = 1 <;> simp [c3, c4, ob_v, n00, n10]
  exact key _ _ q1 q2
theorem vC_allowed {K : Nat} {M : MT} {g : Nat → Nat} (hM : MRel g M) (h : BookInv K g) {f s d : Nat} (hf : f < g 4) (hs : s < 256) (hd : d < 1000) : mX3_allowed M (nI f) (nI s) (nI d) = some (if allowK (g (5 + f)) (decide (g (11 + f) &&& s = g (11 + f))) (decide (g (11 + f) &&& s ≠ 0)) d then nI 1 else nI 0) := by
  have h4 := h.1.1
  obtain ⟨hk, hn, -, -⟩ := h.2.1 f hf
  obtain ⟨c0, c1, -, -⟩ := hM.2.2.1 f hf
  unfold mX3_allowed
  rw [cell_v (by decide) (by omega), ob_v, Nat.mul_comm f 4, c1, bitc_v _ hn, ob_v, nI_and (by omega) (by omega), bitc_v _ (Nat.lt_of_le_of_lt Nat.and_le_left hn), ob_v, cell_v (by decide) (by omega), ob_v, Nat.mul_comm f 4, Nat.add_zero, c0, kindN_v hk, ob_v, v_allows_v hk hn hs hd, ob_v]
  split <;> rfl
theorem vC_cost {K : Nat} {M : MT} {g : Nat → Nat} (hM : MRel g M) (h : BookInv K g) {f d : Nat} (hf : f < g 4) (hd : d < 1000) : mX3_ownCost M (nI f) (nI d) = some (nI (costG g f d)) := by
  have h4 := h.1.1
  obtain ⟨hk, -, -, hfe⟩ := h.2.1 f hf
  obtain ⟨c0, -, -, c3⟩ := hM.2.2.1 f hf
  unfold mX3_ownCost
  rw [cell_v (by decide) (by omega), ob_v, Nat.mul_comm f 4, Nat.add_zero, c0, kindN_v hk, ob_v, cell_v (by decide) (by omega), ob_v, Nat.mul_comm f 4, c3, v_cost_v hk hfe hd]
  rfl
theorem vC_wins {K : Nat} {M : MT} {g : Nat → Nat} (hM : MRel g M) (h : BookInv K g) {f : Nat} (hf : f < g 4) : mX3_denialWins M (nI f) = some (if winsG g f then nI 1 else nI 0) := by
  have h4 := h.1.1
  have h3 : g 3 < 256 := h.1.2.2.2.2.2.2.2.2
  obtain ⟨hk, hn, -, -⟩ := h.2.1 f hf
  obtain ⟨c0, c1, -, -⟩ := hM.2.2.1 f hf
  unfold mX3_denialWins
  rw [cell_v (by decide) (by omega), ob_v, Nat.mul_comm f 4, c1, hM.2.1.1, nI_andn hn h3, bitc_v _ (andn_lt hn), ob_v, cell_v (by decide) (by omega), ob_v, Nat.mul_comm f 4, Nat.add_zero, c0, kindN_v hk, ob_v, v_wins_v hk (pop_le _), ob_v]
  unfold winsG
  split <;> rfl
theorem vC_hears {K : Nat} {M : MT} {g : Nat → Nat} (hM : MRel g M) (h : BookInv K g) {c s : Nat} (hc : c < g 29) (hs : s < 256) : mX3_courtHears M (nI c) (nI s) = some (if hearsG g c s then nI 1 else nI 0) := by
  have h4 := h.1.2.1
  have hn := (h.2.2.1 c hc).1
  have c0 := (hM.2.2.2.1 c hc).1
  unfold mX3_courtHears
  rw [cell_v (by decide) (by omega), ob_v, Nat.mul_comm c 2, Nat.add_zero, c0, nI_andn hn hs]
  have := andn_lt (b := s) hn
  simp only [nI_eqz (show andn (g (30 + c)) s < 2 ^ 31 by omega), zo_0, zo_1, hearsG]
  split <;> simp_all
