/-! rows of FICTIONS, one behind the other: the reference's walk, whatever looks on -/
theorem mA_s (S : MS) (k i : Nat) (x : Int32) : (mA S k i x).1 k = upd (S.1 k) i x := if_pos rfl
theorem mA_n (S : MS) {k j : Nat} (i : Nat) (x : Int32) (h : j ≠ k) : (mA S k i x).1 j = S.1 j := if_neg h
theorem mI_s (S : MS) (k : Nat) (x : Int32) : (mI S k x).2.1 k = x := if_pos rfl
theorem mI_n (S : MS) {k j : Nat} (x : Int32) (h : j ≠ k) : (mI S k x).2.1 j = S.2.1 j := if_neg h
/-- one kid's share -/
def KD {σ : Type} (g : Nat → Nat) (F : List Nat → Nat → Nat → σ → σ) (pre : List Nat) (p c : Nat) (x : σ) (f : Nat) : σ :=
  if mayG g f p (g 1 + pre.length) then F (pre ++ [f]) (p ||| 2 ^ f) (c + costG g f (g 1 + pre.length)) x else x
/-- all rows that go on from one, told to vs in their order -/
def FT {σ : Type} (g : Nat → Nat) (vs : σ → List Nat → Nat → Nat → σ) : Nat → List Nat → Nat → Nat → σ → σ
  | 0 => fun _ _ _ x => x
  | r + 1 => fun pre p c x => (List.range' 0 (g 4)).foldl (KD g (FT g vs r) pre p c) (vs x pre p c)
def StR (g : Nat → Nat) (S0 S : MS) (k : Nat) (pl co : Nat → Nat) (pre : List Nat) : Prop :=
  Keep S0 S ∧ RowIs S g ∧ S.2.1 19 = nI 1 ∧ S.2.1 18 = nI k ∧ pre.length = k ∧ (∀ j, j < k → S.1 15 j = nI (pre.getD j 0)) ∧ (∀ j, j ≤ k → S.1 16 j = nI (pl j)) ∧ (∀ j, j ≤ k → S.1 17 j = nI (co j))
def Num (g : Nat → Nat) (k : Nat) (pl co : Nat → Nat) : Prop := pl k < 2 ^ g 4 ∧ pop (pl k) = pop (g 0) + k ∧ co k ≤ 200 * k
def nx (g : Nat → Nat) (p d : Nat) : Nat → Nat → Nat
  | 0, f => f
  | m + 1, f => if mayG g f p d then f else nx g p d m (f + 1)
theorem p_64 {K p : Nat} {g : Nat → Nat} (hB : BookInv K g) (hp : p < 2 ^ g 4) : p < 64 := Nat.lt_of_lt_of_le hp (Nat.pow_le_pow_right (n := 2) (by decide) hB.1.1)
theorem v_L23 {K k : Nat} {g pl co : Nat → Nat} {S0 S : MS} {pre : List Nat} (hB : BookInv K g) (hK : K ≤ 100) (h : StR g S0 S k pl co pre) (hn : Num g k pl co) (hk : k ≤ 6) : ∀ m f n, f + m = g 4 → m < n → mX11_nextRow_L23 S n (nI f) = some (nI (nx g (pl k) (g 1 + k) m f)) := by
  obtain ⟨-, hR, -, h18, -, -, h16, -⟩ := h
  have h6 := hB.1.1
  have hd := hB.s.2.1
  have hp := p_64 hB hn.1
  intro m
  induction m with
  | zero =>
    intro f n hf hn
    obtain ⟨n, rfl⟩ : ∃ j, n = j + 1 := ⟨n - 1, by omega⟩
    rw [mX11_nextRow_L23_s, ald_v (by decide) (by decide), hR 4 (by decide), if_pos (nI_le (by omega) (by omega))]
    rfl
  | succ m ih =>
    intro f n hf hn
    obtain ⟨n, rfl⟩ : ∃ j, n = j + 1 := ⟨n - 1, by omega⟩
    rw [mX11_nextRow_L23_s, ald_v (by decide) (by decide), hR 4 (by decide), if_neg (nI_ge (by omega) (by omega)), h18, ald_v (by omega) (by decide), h16 k (Nat.le_refl k), ald_v (by decide) (by decide), hR 1 (by decide), nI_add, vM_may hR hB (by omega) hp (by omega), ob_v, ifB]
    unfold nx
    cases mayG g f (pl k) (g 1 + k)
    · rw [if_neg (by decide), if_neg (by decide), nm_v, nI_add]
      exact ih (f + 1) n (by omega) (by omega)
    · rw [if_pos rfl, if_pos rfl]
theorem skip_f {K k f m : Nat} {g pl co : Nat → Nat} {S0 S : MS} {pre : List Nat} (hB : BookInv K g) (hK : K ≤ 100) (h : StR g S0 S k pl co pre) (hn : Num g k pl co) (hk : k ≤ 6) (hf : f + (m + 1) = g 4) (hm : mayG g f (pl k) (g 1 + k) = false) (N : Nat) : mX11_nextRow_L16 (N + 1) (nI f) S = mX11_nextRow_L16 (N + 1) (nI (f + 1)) S := by
  have h6 := hB.1.1
  have e1 := v_L23 hB hK h hn hk (m + 1) f FU hf (by unfold FU; omega)
  have e2 := v_L23 hB hK h hn hk m (f + 1) FU (by omega) (by unfold FU; omega)
  have e3 : nx g (pl k) (g 1 + k) (m + 1) f = nx g (pl k) (g 1 + k) m (f + 1) := by
    rw [nx, hm]
    rfl
  rw [mX11_nextRow_L16_s, mX11_nextRow_L16_s, e1, e2, e3]
theorem getD_l (pre : List Nat) (f : Nat) {j : Nat} (h : j < pre.length) : (pre ++ [f]).getD j 0 = pre.getD j 0 := by
  simp [List.getD, List.getElem?_append_left h]
theorem getD_r (pre : List Nat) (f : Nat) : (pre ++ [f]).getD pre.length 0 = f := by
  simp [List.getD]
theorem desc {K k f m : Nat} {g pl co : Nat → Nat} {S0 S : MS} {pre : List Nat} (hB : BookInv K g) (hK : K ≤ 100) (h : StR g S0 S k pl co pre) (hn : Num g k pl co) (hk : k < 6) (hf : f + (m + 1) = g 4) (hm : mayG g f (pl k) (g 1 + k) = true) (N : Nat) : ∃ S', mX11_nextRow_L16 (N + 1) (nI f) S = some (nI 1, S') ∧ StR g S0 S' (k + 1) (updN pl (k + 1) (pl k ||| 2 ^ f)) (updN co (k + 1) (co k + costG g f (g 1 + k))) (pre ++ [f]) ∧ S'.1 20 = S.1 20 ∧ S'.2.1 21 = S.2.1 21 := by
  have h6 := hB.1.1
  have hd := hB.s.2.1
  have hp := p_64 hB hn.1
  have e1 := v_L23 hB hK h hn (by omega) (m + 1) f FU hf (by unfold FU; omega)
  have e3 : nx g (pl k) (g 1 + k) (m + 1) f = f := by
    rw [nx, hm]
    rfl
  rw [e3] at e1
  obtain ⟨hKe, hR, h19, h18, hl, h15, h16, h17⟩ := h
  rw [mX11_nextRow_L16_s, e1, h18, if_neg (nI_pos (by omega)), ob_v, ald_v (by decide) (by decide), hR 4 (by decide), if_neg (nI_ge (by omega) (by omega)), ast_v (by omega) (by decide), nm_v, nI_clamp (by omega)]
  obtain ⟨T1, hT1⟩ : ∃ T, T = mA S 15 k (nI f) := ⟨_, rfl⟩
  have t18 : T1.2.1 18 = nI k := by rw [hT1]; exact h18
  have t16 : T1.1 16 k = nI (pl k) := by rw [hT1]; exact h16 k (Nat.le_refl k)
  rw [← hT1, t18, ald_v (by omega) (by decide), t16, nI_add, ast_v (by omega) (by decide), nm_v, nI_clamp (by omega), or_bit (by omega) (by omega)]
  obtain ⟨T2, hT2⟩ : ∃ T, T = mA T1 16 (k + 1) (nI (pl k ||| 2 ^ f)) := ⟨_, rfl⟩
  have u18 : T2.2.1 18 = nI k := by rw [hT2]; exact t18
  have u17 : T2.1 17 k = nI (co k) := by rw [hT2, hT1]; exact h17 k (Nat.le_refl k)
  have uR : RowIs T2 g := by rw [hT2, hT1]; exact hR
  rw [← hT2, u18, ald_v (by omega) (by decide), u17, ald_v (by decide) (by decide), uR 1 (by decide), nI_add, vM_cost uR hB (by omega) (by omega), ob_v, nI_add, ast_v (by omega) (by decide), nm_v, nI_clamp (by omega), nI_add]
  obtain ⟨T3, hT3⟩ : ∃ T, T = mA T2 17 (k + 1) (nI (co k + costG g f (g 1 + k))) := ⟨_, rfl⟩
  have v18 : T3.2.1 18 = nI k := by rw [hT3]; exact u18
  rw [← hT3, v18, nI_add, nm_v, zo_1]
  refine ⟨mI T3 18 (nI (k + 1)), rfl, ⟨?_, ?_, ?_, mI_s _ _ _, ?_, ?_, ?_, ?_⟩, ?_, ?_⟩
  · rw [hT3, hT2, hT1]
    exact hKe
  · rw [hT3]
    exact uR
  · rw [hT3, hT2, hT1]
    exact h19
  · rw [List.length_append, hl]
    rfl
  · intro j hj
    show T3.1 15 j = _
    rw [hT3, mA_n _ _ _ (by decide), hT2, mA_n _ _ _ (by decide), hT1, mA_s, upd_v]
    by_cases hjk : j = k
    · rw [if_pos hjk, hjk, ← hl, getD_r]
    · rw [if_neg hjk, getD_l _ _ (by omega)]
      exact h15 j (by omega)
  · intro j hj
    show T3.1 16 j = _
    rw [hT3, mA_n _ _ _ (by decide), hT2, mA_s, upd_v]
    by_cases hjk : j = k + 1
    · rw [if_pos hjk, hjk, updN_s]
    · rw [if_neg hjk, updN_n hjk, hT1, mA_n _ _ _ (by decide)]
      exact h16 j (by omega)
  · intro j hj
    show T3.1 17 j = _
    rw [hT3, mA_s, upd_v]
    by_cases hjk : j = k + 1
    · rw [if_pos hjk, hjk, updN_s]
    · rw [if_neg hjk, updN_n hjk, hT2, mA_n _ _ _ (by decide), hT1, mA_n _ _ _ (by decide)]
      exact h17 j (by omega)
  · rw [hT3, hT2, hT1]
    rfl
  · rw [hT3, hT2, hT1]
    rfl
theorem popk {K k f : Nat} {g pl co pl' co' : Nat → Nat} {S0 S : MS} {pre : List Nat} (hB : BookInv K g) (hK : K ≤ 100) (h : StR g S0 S (k + 1) pl' co' (pre ++ [f])) (hn : Num g (k + 1) pl' co') (hk : k < 6) (e1 : ∀ j, j ≤ k → pl' j = pl j) (e2 : ∀ j, j ≤ k → co' j = co j) (N : Nat) : mX11_nextRow_L16 (N + 1) (nI (g 4)) S = mX11_nextRow_L16 N (nI (f + 1)) (mI S 18 (nI k)) ∧ StR g S0 (mI S 18 (nI k)) k pl co pre := by
  have h6 := hB.1.1
  have q : mX11_nextRow_L23 S FU (nI (g 4)) = some (nI (g 4)) := v_L23 hB hK h hn (by omega) 0 (g 4) FU (by omega) (by unfold FU; omega)
  obtain ⟨hKe, hR, h19, h18, hl, h15, h16, h17⟩ := h
  have hl' : pre.length = k := by
    rw [List.length_append] at hl
    have : [f].length = 1 := rfl
    omega
  refine ⟨?_, hKe, hR, h19, mI_s _ _ _, hl', fun j hj => ?_, fun j hj => ?_, fun j hj => ?_⟩
  · have t18 : (mI S 18 (nI k)).2.1 18 = nI k := mI_s _ _ _
    have t15 : (mI S 18 (nI k)).1 15 k = nI f := by
      show S.1 15 k = nI f
      rw [h15 k (by omega), ← hl', getD_r]
    rw [mX11_nextRow_L16_s, q, h18, if_neg (nI_pos (by omega)), ob_v, ald_v (by decide) (by decide), hR 4 (by decide), if_pos (nI_le (Nat.le_refl _) (by omega)), nm_v, nI_subk, t18, if_pos (nI_pos' (by omega)), ald_v (by omega) (by decide), t15, nm_v, nI_add]
  · show S.1 15 j = _
    rw [h15 j (by omega), getD_l _ _ (by omega)]
  · show S.1 16 j = _
    rw [h16 j (by omega), e1 j hj]
  · show S.1 17 j = _
    rw [h17 j (by omega), e2 j hj]
theorem popz {K : Nat} {g pl co : Nat → Nat} {S0 S : MS} {pre : List Nat} (hB : BookInv K g) (hK : K ≤ 100) (h : StR g S0 S 0 pl co pre) (hn : Num g 0 pl co) (N : Nat) : mX11_nextRow_L16 (N + 1 + 1) (nI (g 4)) S = some (nI 0, mI S 18 (nI 0 - nI 1)) := by
  have h6 := hB.1.1
  have q : mX11_nextRow_L23 S FU (nI (g 4)) = some (nI (g 4)) := v_L23 hB hK h hn (by omega) 0 (g 4) FU (by omega) (by unfold FU; omega)
  obtain ⟨hKe, hR, h19, h18, hl, h15, h16, h17⟩ := h
  have t18 : (mI S 18 (nI 0 - nI 1)).2.1 18 = nI 0 - nI 1 := mI_s _ _ _
  rw [mX11_nextRow_L16_s, q, h18, if_neg (by decide), ob_v, ald_v (by decide) (by decide), hR 4 (by decide), if_pos (nI_le (Nat.le_refl _) (by omega)), nm_v, t18, if_neg (by decide), mX11_nextRow_L16_s, t18, if_pos (by decide), zo_0]
/-- what looks on goes on -/
def cn {α : Type} (vis : α → MS → Option (α × MS)) (Lp : Nat → α → MS → Option (α × MS)) (n : Nat) (a : α) : Int32 × MS → Option (α × MS) := fun x => if x.1 = 0 then some (a, x.2) else (vis a x.2).bind fun y => Lp n y.1 y.2
theorem pop_all : ∀ p, p < 64 → 6 ≤ pop p → ∀ f, f < 6 → p.testBit f = true := by decide +kernel
theorem pop_or : ∀ p, p < 64 → ∀ f, f < 6 → p.testBit f = false → pop (p ||| 2 ^ f) = pop p + 1 := by decide +kernel
theorem may_b {g : Nat → Nat} {f p d : Nat} (h : mayG g f p d = true) : p.testBit f = false := by
  unfold mayG at h
  cases hq : p.testBit f
  · rfl
  · rw [hq] at h
    exact absurd h (by simp)
theorem Num.go {K k f : Nat} {g pl co : Nat → Nat} (hB : BookInv K g) (hK : K ≤ 100) (h : Num g k pl co) (hf : f < g 4) (hk : k < 6) (hm : mayG g f (pl k) (g 1 + k) = true) : Num g (k + 1) (updN pl (k + 1) (pl k ||| 2 ^ f)) (updN co (k + 1) (co k + costG g f (g 1 + k))) := by
  have h6 := hB.1.1
  have hd := hB.s.2.1
  have hc : costG g f (g 1 + k) ≤ 22 + (g 1 + k) := costK_le (hB.f.2 f hf).2.2.2
  refine ⟨?_, ?_, ?_⟩
  · rw [updN_s]
    exact Nat.or_lt_two_pow h.1 (Nat.pow_lt_pow_right (by decide) hf)
  · rw [updN_s, pop_or _ (p_64 hB h.1) f (by omega) (may_b hm), h.2.1]
    omega
  · rw [updN_s]
    have := h.2.2
    omega
theorem sub_v {α σ : Type} {K : Nat} {g : Nat → Nat} {S0 : MS} (hB : BookInv K g) (hK : K ≤ 100) {vis : α → MS → Option (α × MS)} {Lp : Nat → α → MS → Option (α × MS)} {vs : σ → List Nat → Nat → Nat → σ} {J : σ → α → MS → Prop}
    (hLp : ∀ n a S, Lp (n + 1) a S = (mX11_nextRow S).bind (cn vis Lp n a))
    (hJ : ∀ x a S S', J x a S → S'.1 20 = S.1 20 → S'.2.1 21 = S.2.1 21 → J x a S')
    (hv : ∀ x a S k pl co pre, k ≤ 6 → StR g S0 S k pl co pre → Num g k pl co → J x a S → ∃ a' S', vis a S = some (a', S') ∧ J (vs x pre (pl k) (co k)) a' S' ∧ StR g S0 S' k pl co pre) :
    ∀ r k, k + r = 6 → ∀ m f, f + m = g 4 → ∀ pl co pre x a S N n, StR g S0 S k pl co pre → Num g k pl co → J x a S → k + 2 ≤ N → m * 7 ^ r ≤ n → ∃ a' S' N' n', (mX11_nextRow_L16 N (nI f) S).bind (cn vis Lp n a) = (mX11_nextRow_L16 N' (nI (g 4)) S').bind (cn vis Lp n' a') ∧ StR g S0 S' k pl co pre ∧ J ((List.range' f m).foldl (KD g (FT g vs r) pre (pl k) (co k)) x) a' S' ∧ k + 2 ≤ N' ∧ n ≤ n' + m * 7 ^ r := by
  have h6 := hB.1.1
  intro r
  induction r with
  | zero =>
    intro k hk m
    induction m with
    | zero =>
      intro f hf pl co pre x a S N n hS hn hj hN hb
      obtain rfl : f = g 4 := by omega
      exact ⟨a, S, N, n, rfl, hS, hj, hN, by omega⟩
    | succ m ih =>
      intro f hf pl co pre x a S N n hS hn hj hN hb
      obtain ⟨N, rfl⟩ : ∃ j, N = j + 1 := ⟨N - 1, by omega⟩
      have hbit := pop_all _ (p_64 hB hn.1) (by rw [hn.2.1]; omega) f (by omega)
      have hm : mayG g f (pl k) (g 1 + k) = false := by
        cases hq : mayG g f (pl k) (g 1 + k)
        · rfl
        · rw [may_b hq] at hbit
          exact absurd hbit (by decide)
      rw [skip_f hB hK hS hn (by omega) hf hm]
      have hl : pre.length = k := hS.2.2.2.2.1
      have e : (List.range' f (m + 1)).foldl (KD g (FT g vs 0) pre (pl k) (co k)) x = (List.range' (f + 1) m).foldl (KD g (FT g vs 0) pre (pl k) (co k)) x := by
        rw [List.range'_succ, List.foldl_cons]
        congr 1
        unfold KD
        rw [hl, hm]
        rfl
      rw [e]
      rw [Nat.succ_mul] at hb ⊢
      obtain ⟨a', S', N', n', w1, w2, w3, w4, w5⟩ := ih (f + 1) (by omega) pl co pre x a S (N + 1) n hS hn hj hN (by omega)
      exact ⟨a', S', N', n', w1, w2, w3, w4, by omega⟩
  | succ r ihr =>
    intro k hk m
    induction m with
    | zero =>
      intro f hf pl co pre x a S N n hS hn hj hN hb
      obtain rfl : f = g 4 := by omega
      exact ⟨a, S, N, n, rfl, hS, hj, hN, by omega⟩
    | succ m ih =>
      intro f hf pl co pre x a S N n hS hn hj hN hb
      obtain ⟨N, rfl⟩ : ∃ j, N = j + 1 := ⟨N - 1, by omega⟩
      have hl : pre.length = k := hS.2.2.2.2.1
      have h7 : 0 < 7 ^ r := Nat.pow_pos (by decide)
      obtain ⟨X, hX⟩ : ∃ X, X = 7 ^ (r + 1) := ⟨_, rfl⟩
      have hX2 : X = 7 * 7 ^ r := by rw [hX, Nat.pow_succ, Nat.mul_comm]
      rw [← hX] at ih
      rw [← hX, Nat.succ_mul] at hb ⊢
      cases hm : mayG g f (pl k) (g 1 + k)
      · rw [skip_f hB hK hS hn (by omega) hf hm]
        have e : (List.range' f (m + 1)).foldl (KD g (FT g vs (r + 1)) pre (pl k) (co k)) x = (List.range' (f + 1) m).foldl (KD g (FT g vs (r + 1)) pre (pl k) (co k)) x := by
          rw [List.range'_succ, List.foldl_cons]
          congr 1
          unfold KD
          rw [hl, hm]
          rfl
        rw [e]
        obtain ⟨a', S', N', n', w1, w2, w3, w4, w5⟩ := ih (f + 1) (by omega) pl co pre x a S (N + 1) n hS hn hj hN (by omega)
        exact ⟨a', S', N', n', w1, w2, w3, w4, by omega⟩
      · obtain ⟨S1, d1, d2, d3, d4⟩ := desc hB hK hS hn (by omega) hf hm N
        have hn2 := hn.go hB hK (show f < g 4 by omega) (by omega) hm
        obtain ⟨a2, S2, v1, v2, v3⟩ := hv x a S1 (k + 1) _ _ _ (by omega) d2 hn2 (hJ _ _ _ _ hj d3 d4)
        obtain ⟨n, rfl⟩ : ∃ j, n = j + 1 := ⟨n - 1, by omega⟩
        have hstart : (mX11_nextRow_L16 (N + 1) (nI f) S).bind (cn vis Lp (n + 1) a) = (mX11_nextRow_L16 FU (nI 0) S2).bind (cn vis Lp n a2) := by
          rw [d1, ob_v]
          unfold cn
          rw [if_neg z1, v1, ob_v, hLp]
          unfold mX11_nextRow
          rw [v3.2.2.1, if_neg z1]
          rfl
        have hle : g 4 * 7 ^ r ≤ 6 * 7 ^ r := Nat.mul_le_mul_right _ h6
        obtain ⟨a3, S3, N3, n3, w1, w2, w3, w4, w5⟩ := ihr (k + 1) (by omega) (g 4) 0 (by omega) _ _ _ _ a2 S2 FU n v3 hn2 v2 (by unfold FU; omega) (by omega)
        obtain ⟨N3, rfl⟩ : ∃ j, N3 = j + 1 := ⟨N3 - 1, by omega⟩
        obtain ⟨p1, p2⟩ := popk (pl := pl) (co := co) hB hK w2 hn2 (by omega) (fun j hj => updN_n (by omega)) (fun j hj => updN_n (by omega)) N3
        rw [hstart, w1, p1]
        have e : (List.range' f (m + 1)).foldl (KD g (FT g vs (r + 1)) pre (pl k) (co k)) x = (List.range' (f + 1) m).foldl (KD g (FT g vs (r + 1)) pre (pl k) (co k)) (FT g vs (r + 1) (pre ++ [f]) (pl k ||| 2 ^ f) (co k + costG g f (g 1 + k)) x) := by
          rw [List.range'_succ, List.foldl_cons]
          congr 1
          unfold KD
          rw [hl, hm]
          rfl
        rw [e]
        rw [updN_s, updN_s] at w3
        obtain ⟨a', S', N', n', z1, z2, z3, z4, z5⟩ := ih (f + 1) (by omega) pl co pre _ a3 (mI S3 18 (nI k)) N3 n3 p2 hn (hJ _ _ _ _ w3 rfl rfl) (by omega) (by omega)
        exact ⟨a', S', N', n', z1, z2, z3, z4, by omega⟩
theorem search_v {α σ : Type} {K : Nat} {g : Nat → Nat} {S : MS} (hR : RowIs S g) (hB : BookInv K g) (hK : K ≤ 100) {vis : α → MS → Option (α × MS)} {Lp : Nat → α → MS → Option (α × MS)} {vs : σ → List Nat → Nat → Nat → σ} {J : σ → α → MS → Prop}
    (hLp : ∀ n a S, Lp (n + 1) a S = (mX11_nextRow S).bind (cn vis Lp n a))
    (hJ : ∀ x a S S', J x a S → S'.1 20 = S.1 20 → S'.2.1 21 = S.2.1 21 → J x a S')
    (hv : ∀ x a S' k pl co pre, k ≤ 6 → StR g S S' k pl co pre → Num g k pl co → J x a S' → ∃ a' S'', vis a S' = some (a', S'') ∧ J (vs x pre (pl k) (co k)) a' S'' ∧ StR g S S'' k pl co pre)
    (x : σ) (a : α) (hj : J x a S) : ∃ a' S', ((mX11_beginRows S).bind fun S1 => Lp FU a S1) = some (a', S') ∧ J (FT g vs 7 [] (g 0) 0 x) a' S' ∧ Keep S S' ∧ RowIs S' g := by
  have h6 := hB.1.1
  unfold mX11_beginRows
  rw [nm_v, nm_v]
  obtain ⟨T1, hT1⟩ : ∃ T, T = mI (mI S 19 (nI 0)) 18 (nI 0) := ⟨_, rfl⟩
  have t0 : T1.1 0 0 = nI (g 0) := by rw [hT1]; exact hR 0 (by decide)
  rw [← hT1, ald_v (by decide) (by decide), t0, ast_v (by decide) (by decide), nm_v, ast_v (by decide) (by decide), nm_v, nI_clamp (by decide), ob_v]
  obtain ⟨T2, hT2⟩ : ∃ T, T = mA (mA T1 16 0 (nI (g 0))) 17 0 (nI 0) := ⟨_, rfl⟩
  have u19 : T2.2.1 19 = nI 0 := by rw [hT2, hT1]; rfl
  have hst : StR g S (mI T2 19 (nI 1)) 0 (fun _ => g 0) (fun _ => 0) [] := by
    rw [hT2, hT1]
    refine ⟨⟨rfl, rfl, rfl, rfl, rfl, rfl, rfl⟩, hR, rfl, rfl, rfl, fun j hj => absurd hj (Nat.not_lt_zero j), fun j hj => ?_, fun j hj => ?_⟩
    · obtain rfl : j = 0 := by omega
      rfl
    · obtain rfl : j = 0 := by omega
      rfl
  have hnum : Num g 0 (fun _ => g 0) (fun _ => 0) := ⟨hB.s.1, rfl, Nat.zero_le _⟩
  have hj2 : J x a (mI T2 19 (nI 1)) := hJ _ _ _ _ hj (by rw [hT2, hT1]; rfl) (by rw [hT2, hT1]; rfl)
  obtain ⟨a2, S2, v1, v2, v3⟩ := hv x a _ 0 _ _ _ (by decide) hst hnum hj2
  have hle : g 4 * 7 ^ 6 ≤ 6 * 7 ^ 6 := Nat.mul_le_mul_right _ h6
  obtain ⟨a3, S3, N3, n3, w1, w2, w3, w4, w5⟩ := sub_v hB hK hLp hJ hv 6 0 (by decide) (g 4) 0 (by omega) _ _ _ _ a2 S2 FU 999998 v3 hnum v2 (by unfold FU; omega) (by omega)
  obtain ⟨N3, rfl⟩ : ∃ j, N3 = j + 1 + 1 := ⟨N3 - 2, by omega⟩
  have p := popz hB hK w2 hnum N3
  rw [← hT2, show FU = 999998 + 1 + 1 from rfl, hLp]
  have e1 : mX11_nextRow T2 = some (nI 1, mI T2 19 (nI 1)) := by
    unfold mX11_nextRow
    rw [u19, if_pos z0, nm_v, zo_1]
  have e2 : mX11_nextRow S2 = mX11_nextRow_L16 FU (nI 0) S2 := by
    unfold mX11_nextRow
    rw [v3.2.2.1, if_neg z1]
  rw [e1, ob_v]
  refine ⟨a3, mI S3 18 (nI 0 - nI 1), ?_, hJ _ _ _ _ w3 rfl rfl, w2.1, w2.2.1⟩
  have e3 : cn vis Lp (999998 + 1) a (nI 1, mI T2 19 (nI 1)) = Lp (999998 + 1) a2 S2 := by
    unfold cn
    rw [if_neg z1, v1, ob_v]
  rw [e3, hLp, e2, w1, p, ob_v]
  unfold cn
  rw [if_pos z0]
