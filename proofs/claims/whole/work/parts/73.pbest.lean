/-! the best row: what the walk finds, and what the class's table says -/
theorem mrg_0 (x : Option (Nat × List Nat)) : mrg x none = x := by cases x <;> rfl
theorem mrg_a (a b c : Option (Nat × List Nat)) : mrg (mrg a b) c = mrg a (mrg b c) := by
  cases a with
  | none => rfl
  | some a =>
    obtain ⟨a, la⟩ := a
    cases b with
    | none => rfl
    | some b =>
      obtain ⟨b, lb⟩ := b
      cases c with
      | none => rw [mrg_0, mrg_0]
      | some c =>
        obtain ⟨c, lc⟩ := c
        by_cases h1 : a ≤ b
        · rw [mrg_y h1]
          by_cases h2 : b ≤ c
          · rw [mrg_y h2, mrg_y h1, mrg_y (by omega)]
          · rw [mrg_n h2]
        · rw [mrg_n h1]
          by_cases h2 : b ≤ c
          · rw [mrg_y h2, mrg_n h1]
          · rw [mrg_n h2, mrg_n (by omega)]
theorem mrg_i {a b : Option (Nat × List Nat)} {z : Nat × List Nat} (h : mrg a b = some z) : a = some z ∨ b = some z := by
  cases a with
  | none => exact Or.inr h
  | some a =>
    cases b with
    | none => exact Or.inl h
    | some b =>
      obtain ⟨a, la⟩ := a
      obtain ⟨b, lb⟩ := b
      by_cases h1 : a ≤ b
      · rw [mrg_y h1] at h
        exact Or.inl h
      · rw [mrg_n h1] at h
        exact Or.inr h
def wt (g : Nat → Nat) (w f d : Nat) : Nat := if w = 0 then 1 else costG g f d
def shf (u f : Nat) (y : Option (Nat × List Nat)) : Option (Nat × List Nat) := y.map fun y => (u + y.1, f :: y.2)
def lif (u : Nat) (pre : List Nat) (y : Option (Nat × List Nat)) : Option (Nat × List Nat) := y.map fun y => (u + y.1, pre ++ y.2)
def bStep (g : Nat → Nat) (w p : Nat) (B : Nat → Option (Nat × List Nat)) (x : Option (Nat × List Nat)) (f : Nat) : Option (Nat × List Nat) := if mayG g f p (dA g p) then mrg x (shf (wt g w f (dA g p)) f (B (p ||| 2 ^ f))) else x
/-- the first least row from a set on -/
def bT (g : Nat → Nat) (ct w : Nat) : Nat → Nat → Option (Nat × List Nat)
  | 0 => fun _ => none
  | r + 1 => fun p => if hearsG g ct (sup g p) then some (0, []) else (List.range' 0 (g 4)).foldl (bStep g w p (bT g ct w r)) none
theorem bT_s (g : Nat → Nat) (ct w r p : Nat) : bT g ct w (r + 1) p = if hearsG g ct (sup g p) then some (0, []) else (List.range' 0 (g 4)).foldl (bStep g w p (bT g ct w r)) none := rfl
theorem lif_m (u : Nat) (pre : List Nat) (a b : Option (Nat × List Nat)) : lif u pre (mrg a b) = mrg (lif u pre a) (lif u pre b) := by
  cases a with
  | none => rfl
  | some a =>
    cases b with
    | none => rfl
    | some b =>
      obtain ⟨a, la⟩ := a
      obtain ⟨b, lb⟩ := b
      by_cases h1 : a ≤ b
      · rw [mrg_y h1]
        exact (mrg_y (show u + a ≤ u + b by omega)).symm
      · rw [mrg_n h1]
        exact (mrg_n (show ¬ u + a ≤ u + b by omega)).symm
theorem lif_s (u k f : Nat) (pre : List Nat) (y : Option (Nat × List Nat)) : lif (u + k) (pre ++ [f]) y = lif u pre (shf k f y) := by
  cases y with
  | none => rfl
  | some y => simp [lif, shf, Nat.add_assoc]
theorem lif_le {u v : Nat} {l pre : List Nat} (h : v ≤ u) (y : Option (Nat × List Nat)) : mrg (some (v, l)) (lif u pre y) = some (v, l) := by
  cases y with
  | none => rfl
  | some y => exact mrg_y (by omega)
theorem vv_s (g : Nat → Nat) (ct w f d c : Nat) (pre : List Nat) : vv g ct w (pre ++ [f]) (c + costG g f d) = vv g ct w pre c + wt g w f d := by
  unfold vv wt
  by_cases h : w = 0
  · rw [if_pos h, if_pos h, if_pos h, List.length_append]
    rfl
  · rw [if_neg h, if_neg h, if_neg h]
    omega
theorem b_fold {K : Nat} {g : Nat → Nat} (hB : BookInv K g) (ct w : Nat) : ∀ r pre p c x, p < 2 ^ g 4 → pop p = pop (g 0) + pre.length → FT g (vsB g ct w) r pre p c x = mrg x (lif (vv g ct w pre c) pre (bT g ct w r p)) := by
  have h6 := hB.1.1
  intro r
  induction r with
  | zero => intro pre p c x _ _; exact (mrg_0 x).symm
  | succ r ih =>
    intro pre p c x hp hl
    have hd : g 1 + pre.length = dA g p := by unfold dA; omega
    have hkd : ∀ f, f < g 4 → ∀ z, KD g (FT g (vsB g ct w) r) pre p c z f = if mayG g f p (dA g p) then mrg z (lif (vv g ct w pre c) pre (shf (wt g w f (dA g p)) f (bT g ct w r (p ||| 2 ^ f)))) else z := by
      intro f hf z
      unfold KD
      rw [hd]
      cases hm : mayG g f p (dA g p)
      · rfl
      · rw [if_pos rfl, if_pos rfl, ih _ _ _ _ (Nat.or_lt_two_pow hp (Nat.pow_lt_pow_right (by decide) hf)) (by rw [pop_or _ (p_64 hB hp) f (by omega) (may_b hm), hl, List.length_append]; rfl), vv_s, lif_s]
    have key : ∀ L : List Nat, (∀ f ∈ L, f < g 4) → ∀ y, L.foldl (KD g (FT g (vsB g ct w) r) pre p c) (mrg x (lif (vv g ct w pre c) pre y)) = mrg x (lif (vv g ct w pre c) pre (L.foldl (bStep g w p (bT g ct w r)) y)) := by
      intro L
      induction L with
      | nil => intro _ y; rfl
      | cons f L ihL =>
        intro hL y
        rw [List.foldl_cons, List.foldl_cons, hkd f (hL f List.mem_cons_self)]
        have hbs : bStep g w p (bT g ct w r) y f = if mayG g f p (dA g p) then mrg y (shf (wt g w f (dA g p)) f (bT g ct w r (p ||| 2 ^ f))) else y := rfl
        rw [hbs]
        cases hm : mayG g f p (dA g p)
        · rw [if_neg (by decide), if_neg (by decide)]
          exact ihL (fun f' hf' => hL f' (List.mem_cons_of_mem _ hf')) y
        · rw [if_pos rfl, if_pos rfl, mrg_a, ← lif_m]
          exact ihL (fun f' hf' => hL f' (List.mem_cons_of_mem _ hf')) _
    show (List.range' 0 (g 4)).foldl (KD g (FT g (vsB g ct w) r) pre p c) (vsB g ct w x pre p c) = _
    rw [bT_s, show vsB g ct w x pre p c = if hearsG g ct (sup g p) then mrg x (some (vv g ct w pre c, pre)) else x from rfl]
    cases hh : hearsG g ct (sup g p)
    · rw [if_neg (by decide), if_neg (by decide), ← key _ (fun f hf => rng_lt hf), show lif (vv g ct w pre c) pre none = none from rfl, mrg_0]
    · rw [if_pos rfl, if_pos rfl, show lif (vv g ct w pre c) pre (some (0, [])) = some (vv g ct w pre c, pre) by simp [lif]]
      obtain ⟨v, l, hz, hv⟩ : ∃ v l, mrg x (some (vv g ct w pre c, pre)) = some (v, l) ∧ v ≤ vv g ct w pre c := by
        cases x with
        | none => exact ⟨_, _, rfl, Nat.le_refl _⟩
        | some u =>
          obtain ⟨u, l⟩ := u
          by_cases h1 : u ≤ vv g ct w pre c
          · exact ⟨u, l, mrg_y h1, h1⟩
          · exact ⟨_, _, mrg_n h1, Nat.le_refl _⟩
      rw [hz]
      have stay : ∀ L : List Nat, (∀ f ∈ L, f < g 4) → L.foldl (KD g (FT g (vsB g ct w) r) pre p c) (some (v, l)) = some (v, l) := by
        intro L
        induction L with
        | nil => intro _; rfl
        | cons f L ihL =>
          intro hL
          rw [List.foldl_cons, hkd f (hL f List.mem_cons_self), lif_le hv]
          rw [show (if mayG g f p (dA g p) = true then some (v, l) else some (v, l)) = some (v, l) by split <;> rfl]
          exact ihL (fun f' hf' => hL f' (List.mem_cons_of_mem _ hf'))
      exact stay _ (fun f hf => rng_lt hf)
theorem bs_i {g : Nat → Nat} {w p : Nat} {B : Nat → Option (Nat × List Nat)} {z : Nat × List Nat} : ∀ (L : List Nat) (y : Option (Nat × List Nat)), L.foldl (bStep g w p B) y = some z → y = some z ∨ ∃ f, f ∈ L ∧ mayG g f p (dA g p) = true ∧ shf (wt g w f (dA g p)) f (B (p ||| 2 ^ f)) = some z := by
  intro L
  induction L with
  | nil => intro y h; exact Or.inl h
  | cons f L ih =>
    intro y h
    rw [List.foldl_cons] at h
    rcases ih _ h with h | ⟨f', h1, h2, h3⟩
    · unfold bStep at h
      cases hm : mayG g f p (dA g p)
      · rw [hm, if_neg (by decide)] at h
        exact Or.inl h
      · rw [hm, if_pos rfl] at h
        rcases mrg_i h with h | h
        · exact Or.inl h
        · exact Or.inr ⟨f, List.mem_cons_self, hm, h⟩
    · exact Or.inr ⟨f', List.mem_cons_of_mem _ h1, h2, h3⟩
theorem shf_i {u f : Nat} {y : Option (Nat × List Nat)} {v : Nat} {l : List Nat} (h : shf u f y = some (v, l)) : ∃ v' l', y = some (v', l') ∧ v = u + v' ∧ l = f :: l' := by
  cases y with
  | none => exact nomatch h
  | some y =>
    obtain ⟨v', l'⟩ := y
    have h2 : some (u + v', f :: l') = some (v, l) := h
    injection h2 with h3
    injection h3 with h4 h5
    exact ⟨v', l', rfl, h4.symm, h5.symm⟩
/-- a row found: its first FICTION, and the rest -/
theorem bT_i {g : Nat → Nat} {ct w r p v : Nat} {l : List Nat} (h : bT g ct w (r + 1) p = some (v, l)) : (v = 0 ∧ l = []) ∨ ∃ f v' l', f < g 4 ∧ mayG g f p (dA g p) = true ∧ bT g ct w r (p ||| 2 ^ f) = some (v', l') ∧ v = wt g w f (dA g p) + v' ∧ l = f :: l' := by
  rw [bT_s] at h
  cases hh : hearsG g ct (sup g p)
  · rw [hh, if_neg (by decide)] at h
    rcases bs_i _ _ h with h | ⟨f, h1, h2, h3⟩
    · exact nomatch h
    · obtain ⟨v', l', e1, e2, e3⟩ := shf_i h3
      exact Or.inr ⟨f, v', l', rng_lt h1, h2, e1, e2, e3⟩
  · rw [hh, if_pos rfl] at h
    injection h with h3
    injection h3 with h4 h5
    exact Or.inl ⟨h4.symm, h5.symm⟩
theorem wt_le {K f d w : Nat} {g : Nat → Nat} (hB : BookInv K g) (hf : f < g 4) : wt g w f d ≤ 22 + d := by
  have : costG g f d ≤ 22 + d := costK_le (hB.f.2 f hf).2.2.2
  unfold wt
  split <;> omega
theorem bT_ok {K : Nat} {g : Nat → Nat} (hB : BookInv K g) (hK : K ≤ 100) (ct w : Nat) : ∀ r p v l, p < 2 ^ g 4 → bT g ct w r p = some (v, l) → v ≤ 200 * r ∧ l.length + 1 ≤ r := by
  intro r
  induction r with
  | zero => intro p v l _ h; exact nomatch h
  | succ r ih =>
    intro p v l hp h
    rcases bT_i h with ⟨rfl, rfl⟩ | ⟨f, v', l', f1, f2, f3, rfl, rfl⟩
    · exact ⟨Nat.zero_le _, Nat.succ_le_succ (Nat.zero_le r)⟩
    · obtain ⟨i1, i2⟩ := ih _ _ _ (Nat.or_lt_two_pow hp (Nat.pow_lt_pow_right (by decide) f1)) f3
      have h1 := wt_le (d := dA g p) (w := w) hB f1
      have h2 : dA g p ≤ 100 + 6 := by
        have := hB.s.2.1
        have := pop_64 p (p_64 hB hp)
        unfold dA
        omega
      refine ⟨by omega, ?_⟩
      rw [List.length_cons]
      omega
def rE : Option (Nat × List Nat) → Int32
  | none => -1
  | some y => nI y.1
def fE : Option (Nat × List Nat) → Int32
  | none => -1
  | some y => match y.2 with | [] => -1 | f :: _ => nI f
def bP (g : Nat → Nat) (ct w q : Nat) : Option (Nat × List Nat) := bT g ct w (7 - (pop q - pop (g 0))) q
theorem at_v {fa : Nat → Int32} {q : Nat} (hq : q < 64) : mX4_at 64 fa (nI q) = some (fa q) := by
  unfold mX4_at
  rw [if_neg (nI_pos (by omega)), show Int32.ofNat 64 = nI 64 from rfl, if_neg (nI_ge hq (by decide)), ald_v hq (by decide)]
theorem keep_v {M : MT} {P : PA} {q : Nat} (hq : q < 64) (a b : Int32) : mX4_keep M P (nI q) a b = some (upd P.1 q a, upd P.2 q b) := by
  unfold mX4_keep
  rw [if_neg (nI_pos (by omega)), if_neg (nI_ge hq (by decide)), if_neg (nI_ge hq (by decide)), ast_v hq (by decide), nm_v, ast_v hq (by decide), nm_v, nI_clamp (by omega)]
def AccOk (x : Option (Nat × List Nat)) : Prop := ∀ v l, x = some (v, l) → v ≤ 10000 ∧ ∃ f l', l = f :: l'
theorem settle_L {K q ct w : Nat} {g : Nat → Nat} {M : MT} {P : PA} (hM : MRel g M) (hB : BookInv K g) (hK : K ≤ 100) (hq : q < 2 ^ g 4) (hw : w ≤ 1) (B : Nat → Option (Nat × List Nat)) (hb : ∀ f, f < g 4 → q.testBit f = false → P.1 (q ||| 2 ^ f) = rE (B (q ||| 2 ^ f)) ∧ ∀ v l, B (q ||| 2 ^ f) = some (v, l) → v ≤ 2000) : ∀ m f, f + m = g 4 → ∀ n, m < n → ∀ x, AccOk x → mX4_settle_L44 M n (nI w) (nI q) (nI (sup g q)) (nI (dA g q)) (rE x) (fE x) (nI f) P = some (upd P.1 q (rE ((List.range' f m).foldl (bStep g w q B) x)), upd P.2 q (fE ((List.range' f m).foldl (bStep g w q B) x))) := by
  have h6 := hB.1.1
  have hq6 := p_64 hB hq
  have hd := dA_lt hB hK hq6
  have hd2 : dA g q ≤ 106 := by
    have := hB.s.2.1
    have := pop_64 q hq6
    unfold dA
    omega
  intro m
  induction m with
  | zero =>
    intro f hf n hn x hx
    obtain ⟨n, rfl⟩ : ∃ j, n = j + 1 := ⟨n - 1, by omega⟩
    rw [mX4_settle_L44_s, hM.1.1, if_pos (nI_le (by omega) (by omega)), keep_v hq6, ob_v]
    rfl
  | succ m ih =>
    intro f hf n hn x hx
    obtain ⟨n, rfl⟩ : ∃ j, n = j + 1 := ⟨n - 1, by omega⟩
    have hor6 : q ||| 2 ^ f < 64 := Nat.or_lt_two_pow (n := 6) hq6 (Nat.pow_lt_pow_right (by decide) (by omega))
    rw [mX4_settle_L44_s, hM.1.1, if_neg (nI_ge (by omega) (by omega)), or_bit (by omega) (by omega), at_v hor6, ob_v, holds_v q hq6 f (by omega), ob_v, ifB, List.range'_succ, List.foldl_cons]
    have hnext := fun x hx => ih (f + 1) (by omega) n (by omega) x hx
    cases hbit : q.testBit f
    · obtain ⟨hb1, hb2⟩ := hb f (by omega) hbit
      rw [if_neg (by decide), hb1, vC_allowed hM hB (by omega) (sup_lt hB q) hd, ob_v, ifB, ← may_al hbit, nI_add, vC_cost hM hB (by omega) hd, ob_v]
      have hbs : bStep g w q B x f = if mayG g f q (dA g q) then mrg x (shf (wt g w f (dA g q)) f (B (q ||| 2 ^ f))) else x := rfl
      rw [hbs]
      cases hB2 : B (q ||| 2 ^ f) with
      | none =>
        rw [if_pos (show rE none = -1 from rfl), nm_v, show shf (wt g w f (dA g q)) f none = none from rfl, mrg_0, show (if mayG g f q (dA g q) = true then x else x) = x by split <;> rfl]
        exact hnext x hx
      | some y =>
        obtain ⟨v, l⟩ := y
        have hv := hb2 v l hB2
        have hwt := wt_le (d := dA g q) (w := w) hB (show f < g 4 by omega)
        rw [show rE (some (v, l)) = nI v from rfl, if_neg (fun z => (nI_m1 (by omega)).mp z)]
        cases hm : mayG g f q (dA g q)
        · rw [if_neg (by decide), if_neg (by decide), nm_v]
          exact hnext x hx
        · rw [if_pos rfl, if_pos rfl]
          have hsum : (if nI w = nI 1 then nI v + nI (costG g f (dA g q)) else nI v + nI 1) = nI (wt g w f (dA g q) + v) := by
            unfold wt
            rcases (show w = 0 ∨ w = 1 by omega) with rfl | rfl
            · rw [if_neg (by decide), if_pos rfl, nI_add, Nat.add_comm]
            · rw [if_pos rfl, if_neg (by decide), nI_add, Nat.add_comm]
          have hshf : shf (wt g w f (dA g q)) f (some (v, l)) = some (wt g w f (dA g q) + v, f :: l) := rfl
          rw [hshf]
          have goal : (if rE x = (-1 : Int32) then mX4_settle_L44 M n (nI w) (nI q) (nI (sup g q)) (nI (dA g q)) (nI (wt g w f (dA g q) + v)) (nI f) (nI (f + 1)) P else (if rE x ≤ nI (wt g w f (dA g q) + v) then mX4_settle_L44 M n (nI w) (nI q) (nI (sup g q)) (nI (dA g q)) (rE x) (fE x) (nI (f + 1)) P else mX4_settle_L44 M n (nI w) (nI q) (nI (sup g q)) (nI (dA g q)) (nI (wt g w f (dA g q) + v)) (nI f) (nI (f + 1)) P)) = some (upd P.1 q (rE ((List.range' (f + 1) m).foldl (bStep g w q B) (mrg x (some (wt g w f (dA g q) + v, f :: l))))), upd P.2 q (fE ((List.range' (f + 1) m).foldl (bStep g w q B) (mrg x (some (wt g w f (dA g q) + v, f :: l)))))) := by
            have hok : AccOk (some (wt g w f (dA g q) + v, f :: l)) := by
              intro v' l' e
              injection e with e1
              injection e1 with e2 e3
              exact ⟨by omega, f, l, e3.symm⟩
            cases x with
            | none =>
              rw [if_pos (show rE none = -1 from rfl)]
              exact hnext _ hok
            | some u =>
              obtain ⟨u, lu⟩ := u
              have hu := (hx u lu rfl).1
              rw [show rE (some (u, lu)) = nI u from rfl, if_neg (fun z => (nI_m1 (by omega)).mp z), ifN_le (by omega) (by omega)]
              by_cases hc : u ≤ wt g w f (dA g q) + v
              · rw [if_pos hc, mrg_y hc]
                exact hnext _ hx
              · rw [if_neg hc, mrg_n hc]
                exact hnext _ hok
          rcases (show w = 0 ∨ w = 1 by omega) with rfl | rfl
          · rw [if_neg (by decide)] at hsum
            rw [if_neg (by decide), hsum]
            simp only [nm_v]
            exact goal
          · rw [if_pos rfl] at hsum
            rw [if_pos rfl, hsum]
            simp only [nm_v]
            exact goal
    · have hbs : bStep g w q B x f = x := by
        unfold bStep
        cases hm : mayG g f q (dA g q)
        · rfl
        · rw [may_b hm] at hbit
          exact absurd hbit (by decide)
      rw [if_pos rfl, nm_v, nI_add, hbs]
      exact hnext x hx
