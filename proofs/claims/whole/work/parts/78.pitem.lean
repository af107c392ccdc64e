/-! numbers, FACTS, FICTIONS, COURTS: both readers side by side; the class is one token ahead -/
def nxt (t : Nat → Nat) (len a : Nat) : Nat := sk t len (en t len a)
theorem nxt_b {t : Nat → Nat} {len a : Nat} (h : a ≤ len) : a ≤ nxt t len a ∧ nxt t len a ≤ len ∧ (a < len → a < nxt t len a) := by
  have h1 := en_b (t := t) h
  have h2 := sk_b (t := t) h1.2.1
  unfold nxt
  omega
theorem kd_le (t : Nat → Nat) (len a : Nat) : kd t len a ≤ 6 := by
  unfold kd
  (repeat' split) <;> omega
theorem kd3 {t : Nat → Nat} {len a : Nat} (h : kd t len a = 3) : a < len ∧ ltr (t a) = false ∧ fig (t a) = true ∧ en t len a - a ≤ 2 := by
  by_cases h1 : a < len
  · cases h2 : ltr (t a)
    · cases h3 : fig (t a)
      · rw [kd_o h1 h2 h3] at h
        split at h <;> omega
      · rw [kd_f h1 h2 h3] at h
        refine ⟨h1, rfl, rfl, ?_⟩
        split at h <;> omega
    · rw [kd_l h1 h2] at h
      (repeat' split at h) <;> omega
  · rw [kd_e h1] at h
    omega
theorem nu_lt {t : Nat → Nat} {len a : Nat} (h : kd t len a = 3) : nu t len a < 1000 := by
  obtain ⟨h1, h2, h3, h4⟩ := kd3 h
  have g1 := fig_ge h3
  rcases nu_v h1 h2 h3 h4 with ⟨-, e⟩ | ⟨-, e, -, e4⟩
  · omega
  · have := fig_ge e4
    omega
theorem next_j {t : Nat → Nat} {len a : Nat} (hO : TextOk t len) {S : MS} (hT : TM t len S) (h : At t len a S) (ha : a ≤ len) : ∃ S', mX11_next S = some S' ∧ At t len (nxt t len a) S' ∧ F89 S S' :=
  next_v hO hT (en_b ha).2.1 h.2
theorem adv_j {t : Nat → Nat} {len a : Nat} (hO : TextOk t len) {X : TX} (hT : TC t len X) (h : Tk t len a X) (ha : a ≤ len) : ∃ X', mX0_advance X = some X' ∧ Tk t len (nxt t len a) X' ∧ FX X X' :=
  adv_v hO hT (en_b ha).2.1 h.2.1
theorem take_n {t : Nat → Nat} {len a b : Nat} (hO : TextOk t len) {X : TX} (hT : TC t len X) (h : Tk t len a X) (ha : a ≤ len) (hb : b < 1000) : (kd t len a = 3 ∧ nu t len a ≤ b ∧ nE t len a b = nI (nu t len a) ∧ ∃ X', mX0_takeNumber X (nI b) = some (nI (nu t len a), X') ∧ Tk t len (nxt t len a) X' ∧ FX X X') ∨ (nE t len a b = -1 ∧ mX0_takeNumber X (nI b) = some (-1, X)) := by
  have hk := kd_le t len a
  unfold mX0_takeNumber nE
  rw [h.2.2.1, ifN_eq (by omega) (by decide)]
  by_cases h3 : kd t len a = 3
  · have hn := nu_lt h3
    rw [if_pos h3, h.2.2.2 h3, ifN_le (by omega) (by omega)]
    by_cases hc : nu t len a ≤ b
    · obtain ⟨X', w1, w2, w3⟩ := adv_j hO hT h ha
      rw [if_pos hc, w1, ob_v, if_pos ⟨h3, hc⟩]
      exact Or.inl ⟨h3, hc, rfl, X', rfl, w2, w3⟩
    · rw [if_neg hc, if_neg (fun q => hc q.2)]
      exact Or.inr ⟨rfl, rfl⟩
  · rw [if_neg h3, if_neg (fun q => h3 q.1)]
    exact Or.inr ⟨rfl, rfl⟩
theorem num_j {t : Nat → Nat} {len a b : Nat} (hO : TextOk t len) {S : MS} {X : TX} (hM : TM t len S) (hC : TC t len X) (hA : At t len a S) (hK : Tk t len (nxt t len a) X) (ha : a ≤ len) (hb : b < 1000) : ∃ S', F89 S S' ∧ At t len (nxt t len a) S' ∧ ((∃ v X', v ≤ b ∧ mX11_number S (nI 0) (nI b) = some (nI v, S') ∧ mX0_takeNumber X (nI b) = some (nI v, X') ∧ Tk t len (nxt t len (nxt t len a)) X' ∧ FX X X') ∨ (mX11_number S (nI 0) (nI b) = some (-1, S') ∧ mX0_takeNumber X (nI b) = some (-1, X))) := by
  obtain ⟨S', w1, w2, w3⟩ := next_j hO hM hA ha
  have hn := nxt_b (t := t) ha
  have e : mX11_number S (nI 0) (nI b) = some (nE t len (nxt t len a) b, S') := by
    unfold mX11_number
    rw [w1, ob_v, numHere_v hO (hM.f w3) w2 hn.2.1 hb, ob_v]
  refine ⟨S', w3, w2, ?_⟩
  rcases take_n hO hC hK hn.2.1 hb with ⟨-, q2, q3, X', q4, q5, q6⟩ | ⟨q1, q2⟩
  · rw [q3] at e
    exact Or.inl ⟨_, X', q2, e, q4, q5, q6⟩
  · rw [q1] at e
    exact Or.inr ⟨e, q2⟩
theorem facts_L {t : Nat → Nat} {len : Nat} (hO : TextOk t len) : ∀ m a, a + m = len → ∀ n n', m < n → m < n' → ∀ (S : MS) (X : TX) (s y : Nat), TM t len S → TC t len X → At t len a S → Tk t len a X → s < 256 → y ≤ a → ∃ S' X' a', a' ≤ len ∧ F89 S S' ∧ FX X X' ∧ At t len a' S' ∧ ((∃ s', s' < 256 ∧ mX11_facts_L6 n (nI s) S = some (nI s', S') ∧ mX0_takeFacts_L4 n' (nI s) (nI y) X = some (nI s', X') ∧ Tk t len (nxt t len a') X') ∨ (mX11_facts_L6 n (nI s) S = some (-1, S') ∧ mX0_takeFacts_L4 n' (nI s) (nI y) X = some (-1, X') ∧ Tk t len a' X')) := by
  have h150 := hO.1
  intro m
  induction m using Nat.strongRecOn with
  | ind m ih =>
    intro a hm n n' hn hn' S X s y hM hC hA hK hs hy
    obtain ⟨n, rfl⟩ : ∃ j, n = j + 1 := ⟨n - 1, by omega⟩
    obtain ⟨n', rfl⟩ : ∃ j, n' = j + 1 := ⟨n' - 1, by omega⟩
    have ha : a ≤ len := by omega
    have hkl := kd_le t len a
    have href : mX11_facts_L6 (n + 1) (nI s) S = if (decide (a < len) && fig (t a)) = true then (if nE t len a 7 = (-1 : Int32) then some ((-1 : Int32), S) else nm (nI s ||| ((nI 1) <<< (nE t len a 7 &&& 31))) fun x5 => (mX11_next S).bind fun S6 => mX11_facts_L6 n x5 S6) else (if len ≤ a then some ((-1 : Int32), S) else ald (S.1 5) 150 (nI a) fun v3 => (if v3 = (nI 59) then some (nI s, S) else some ((-1 : Int32), S))) := by
      rw [mX11_facts_L6_s, hA.1, isFg_v hO hM (by omega), ob_v, ifB, numHere_v hO hM hA ha (by decide), ob_v, hM.1, ifN_le (by omega) (by omega)]
    have hcls : mX0_takeFacts_L4 (n' + 1) (nI s) (nI y) X = if kd t len a = 2 then (mX0_advance X).bind fun S5 => some (nI s, S5) else (mX0_takeNumber X (nI 7)).bind fun ⟨r2, S1⟩ => (if r2 = (-1 : Int32) then some ((-1 : Int32), S1) else nm (nI s ||| ((nI 1) <<< (r2 &&& 31))) fun x3 => nm (nI y + (nI 1)) fun x4 => mX0_takeFacts_L4 n' x3 x4 S1) := by
      rw [mX0_takeFacts_L4_s, if_neg (nI_nlt (by omega) (by omega)), hK.2.2.1, ifN_eq (by omega) (by decide)]
    have hfail : kd t len a ≠ 2 → nE t len a 7 = -1 → mX11_facts_L6 (n + 1) (nI s) S = some (-1, S) → ∃ S' X' a', a' ≤ len ∧ F89 S S' ∧ FX X X' ∧ At t len a' S' ∧ ((∃ s', s' < 256 ∧ mX11_facts_L6 (n + 1) (nI s) S = some (nI s', S') ∧ mX0_takeFacts_L4 (n' + 1) (nI s) (nI y) X = some (nI s', X') ∧ Tk t len (nxt t len a') X') ∨ (mX11_facts_L6 (n + 1) (nI s) S = some (-1, S') ∧ mX0_takeFacts_L4 (n' + 1) (nI s) (nI y) X = some (-1, X') ∧ Tk t len a' X')) := by
      intro h2 h3 h4
      refine ⟨S, X, a, ha, F89.r S, FX.r X, hA, Or.inr ⟨h4, ?_, hK⟩⟩
      rw [hcls, if_neg h2]
      rcases take_n hO hC hK ha (show 7 < 1000 by decide) with ⟨q1, -, q3, -⟩ | ⟨-, q2⟩
      · rw [h3] at q3
        exact absurd q3.symm (fun z => (nI_m1 (by have := nu_lt q1; omega)).mp z)
      · rw [q2, ob_v]
        rfl
    by_cases h1 : a < len
    · have h128 := hO.2 a h1
      cases hf : fig (t a)
      · rw [hf, Bool.and_false, if_neg (by decide), if_neg (by omega), ald_v (by omega) (by decide), hM.2.1 a h1, ifN_eq (by omega) (by decide)] at href
        have hnE : nE t len a 7 = -1 := by
          unfold nE
          rw [if_neg (fun q => by have := (kd3 q.1).2.2.1; rw [hf] at this; exact absurd this (by decide))]
        by_cases h59 : t a = 59
        · have hl : ltr (t a) = false := by rw [h59]; rfl
          have hk := kd_o h1 hl hf
          rw [if_pos h59] at hk href
          obtain ⟨X', w1, w2, w3⟩ := adv_j hO hC hK ha
          rw [hk, if_pos rfl, w1, ob_v] at hcls
          exact ⟨S, X', a, ha, F89.r S, w3, hA, Or.inl ⟨s, hs, href, hcls, w2⟩⟩
        · rw [if_neg h59] at href
          refine hfail ?_ hnE href
          cases hl : ltr (t a)
          · rw [kd_o h1 hl hf, if_neg h59]
            decide
          · rw [kd_l h1 hl]
            intro q
            (repeat' split at q) <;> omega
      · have hl := fl_x _ h128 hf
        rw [hf, show decide (a < len) = true from decide_eq_true h1, Bool.true_and, if_pos rfl] at href
        have hk2 : kd t len a ≠ 2 := by
          rw [kd_f h1 hl hf]
          split <;> decide
        rcases take_n hO hC hK ha (show 7 < 1000 by decide) with ⟨q1, q2, q3, X1, q4, q5, q6⟩ | ⟨q1, q2⟩
        · have hn1 := nu_lt q1
          obtain ⟨S1, w1, w2, w3⟩ := next_j hO hM hA ha
          have hb := nxt_b (t := t) ha
          have hor : s ||| 2 ^ nu t len a < 256 := Nat.or_lt_two_pow (n := 8) hs (Nat.pow_lt_pow_right (by decide) (by omega))
          rw [q3, if_neg (fun z => (nI_m1 (by omega)).mp z), or_bit (by omega) (by omega), nm_v, w1, ob_v] at href
          rw [if_neg hk2, q4, ob_v] at hcls
          have hcls2 : mX0_takeFacts_L4 (n' + 1) (nI s) (nI y) X = mX0_takeFacts_L4 n' (nI (s ||| 2 ^ nu t len a)) (nI (y + 1)) X1 := by
            rw [hcls]
            show (if nI (nu t len a) = (-1 : Int32) then some ((-1 : Int32), X1) else mX0_takeFacts_L4 n' (nI s ||| ((nI 1) <<< (nI (nu t len a) &&& 31))) (nI y + (nI 1)) X1) = _
            rw [if_neg (fun z => (nI_m1 (by omega)).mp z), or_bit (by omega) (by omega), nI_add]
          have hlt := hb.2.2 h1
          obtain ⟨S', X', a', r1, r2, r3, r4, r5⟩ := ih (len - nxt t len a) (by omega) (nxt t len a) (by omega) n n' (by omega) (by omega) S1 X1 (s ||| 2 ^ nu t len a) (y + 1) (hM.f w3) (hC.f q6) w2 q5 hor (by omega)
          refine ⟨S', X', a', r1, w3.t r2, q6.t r3, r4, ?_⟩
          rw [href, hcls2]
          exact r5
        · rw [q1, if_pos rfl] at href
          exact hfail hk2 q1 href
    · rw [show decide (a < len) = false from decide_eq_false h1, Bool.false_and, if_neg (by decide), if_pos (by omega)] at href
      have hk := kd_e (t := t) h1
      refine hfail (by rw [hk]; decide) ?_ href
      unfold nE
      rw [hk, if_neg (fun q => by omega)]
/-- the FACTS that end an ITEM -/
theorem facts_j {t : Nat → Nat} {len a : Nat} (hO : TextOk t len) {S : MS} {X : TX} (hM : TM t len S) (hC : TC t len X) (hA : At t len a S) (hK : Tk t len (nxt t len a) X) (ha : a ≤ len) : ∃ S' X' a', a' ≤ len ∧ F89 S S' ∧ FX X X' ∧ At t len a' S' ∧ ((∃ s', s' < 256 ∧ mX11_facts S = some (nI s', S') ∧ mX0_takeFacts X = some (nI s', X') ∧ Tk t len (nxt t len a') X') ∨ (mX11_facts S = some (-1, S') ∧ mX0_takeFacts X = some (-1, X') ∧ Tk t len a' X')) := by
  have h150 := hO.1
  obtain ⟨S1, w1, w2, w3⟩ := next_j hO hM hA ha
  have hb := nxt_b (t := t) ha
  unfold mX11_facts mX0_takeFacts
  rw [w1, ob_v]
  obtain ⟨S', X', a', r1, r2, r3, r4, r5⟩ := facts_L hO (len - nxt t len a) (nxt t len a) (by omega) FU FU (by unfold FU; omega) (by unfold FU; omega) S1 X 0 0 (hM.f w3) hC w2 hK (by decide) (Nat.zero_le _)
  exact ⟨S', X', a', r1, w3.t r2, r3, r4, r5⟩
/-- what was read so far, on both sides -/
def RdF (u v : Nat → Int32) (n : Nat) : Prop := ∀ f, f < n → ∃ a b c d, (a < 6 ∧ b < 256 ∧ c < 8 ∧ d ≤ 20) ∧ (u (4 * f) = nI a ∧ u (4 * f + 1) = nI b ∧ u (4 * f + 2) = nI c ∧ u (4 * f + 3) = nI d) ∧ (v (4 * f) = nI a ∧ v (4 * f + 1) = nI b ∧ v (4 * f + 2) = nI c ∧ v (4 * f + 3) = nI d)
def RdC (u v : Nat → Int32) (n : Nat) : Prop := ∀ f, f < n → ∃ a b, (a < 256 ∧ b ≤ 20) ∧ (u (2 * f) = nI a ∧ u (2 * f + 1) = nI b) ∧ (v (2 * f) = nI a ∧ v (2 * f + 1) = nI b)
def Rd (S : MS) (M : MT) (nf nc : Nat) : Prop := (S.2.1 12 = nI nf ∧ S.2.1 14 = nI nc ∧ (M.1 0).1 = nI nf ∧ (M.1 1).1 = nI nc) ∧ (nf ≤ 6 ∧ nc ≤ 4) ∧ RdF (S.1 11) (M.1 0).2 nf ∧ RdC (S.1 13) (M.1 1).2 nc ∧ ((M.1 2).1 = nI 0 ∧ (M.1 3).1 = nI 0 ∧ (M.1 4).1 = nI 0 ∧ M.2 8 = nI 0 ∧ M.2 9 = nI 0 ∧ M.2 10 = nI 0)
theorem Rd.f {S S' : MS} {M : MT} {nf nc : Nat} (h : Rd S M nf nc) (hf : F89 S S') : Rd S' M nf nc := by
  obtain ⟨⟨a1, a2, a3, a4⟩, b, c, d, e⟩ := h
  exact ⟨⟨(hf.2.2 12 (by decide) (by decide)).trans a1, (hf.2.2 14 (by decide) (by decide)).trans a2, a3, a4⟩, b, by rw [hf.1]; exact c, by rw [hf.1]; exact d, e⟩
def FRd (S S' : MS) : Prop := (∀ j, j ≠ 11 → j ≠ 13 → S'.1 j = S.1 j) ∧ S'.2.2 = S.2.2 ∧ S'.2.1 6 = S.2.1 6
theorem F89.d {S S' : MS} (h : F89 S S') : FRd S S' := ⟨fun j _ _ => by rw [h.1], h.2.1, h.2.2 6 (by decide) (by decide)⟩
theorem FRd.t {S T U : MS} (h1 : FRd S T) (h2 : FRd T U) : FRd S U := ⟨fun j a b => (h2.1 j a b).trans (h1.1 j a b), h2.2.1.trans h1.2.1, h2.2.2.trans h1.2.2⟩
theorem TM.d {t : Nat → Nat} {len : Nat} {S S' : MS} (h : TM t len S) (hf : FRd S S') : TM t len S' := ⟨hf.2.2.trans h.1, by rw [hf.1 5 (by decide) (by decide)]; exact h.2.1, by rw [hf.1 7 (by decide) (by decide)]; exact h.2.2⟩
theorem rdF_add {u v : Nat → Int32} {n a b c d : Nat} (h : RdF u v n) (hb : a < 6 ∧ b < 256 ∧ c < 8 ∧ d ≤ 20) : RdF (upd (upd (upd (upd u (4 * n) (nI a)) (4 * n + 1) (nI b)) (4 * n + 2) (nI c)) (4 * n + 3) (nI d)) (upd (upd (upd (upd v (n * 4 + 0) (nI a)) (n * 4 + 1) (nI b)) (n * 4 + 2) (nI c)) (n * 4 + 3) (nI d)) (n + 1) := by
  intro f hf
  rw [Nat.mul_comm n 4, Nat.add_zero]
  by_cases e : f = n
  · subst e
    refine ⟨a, b, c, d, hb, ⟨?_, ?_, ?_, ?_⟩, ?_, ?_, ?_, ?_⟩
    · rw [upd_n (by omega), upd_n (by omega), upd_n (by omega), upd_s]
    · rw [upd_n (by omega), upd_n (by omega), upd_s]
    · rw [upd_n (by omega), upd_s]
    · rw [upd_s]
    · rw [upd_n (by omega), upd_n (by omega), upd_n (by omega), upd_v, if_pos (by omega)]
    · rw [upd_n (by omega), upd_n (by omega), upd_s]
    · rw [upd_n (by omega), upd_s]
    · rw [upd_s]
  · obtain ⟨a', b', c', d', q1, ⟨q2, q3, q4, q5⟩, q6, q7, q8, q9⟩ := h f (by omega)
    refine ⟨a', b', c', d', q1, ⟨?_, ?_, ?_, ?_⟩, ?_, ?_, ?_, ?_⟩ <;> rw [upd_n (by omega), upd_n (by omega), upd_n (by omega), upd_n (by omega)] <;> assumption
theorem rdC_add {u v : Nat → Int32} {n a b : Nat} (h : RdC u v n) (hb : a < 256 ∧ b ≤ 20) : RdC (upd (upd u (2 * n) (nI a)) (2 * n + 1) (nI b)) (upd (upd v (n * 2 + 0) (nI a)) (n * 2 + 1) (nI b)) (n + 1) := by
  intro f hf
  rw [Nat.mul_comm n 2, Nat.add_zero]
  by_cases e : f = n
  · subst e
    refine ⟨a, b, hb, ⟨?_, ?_⟩, ?_, ?_⟩
    · rw [upd_n (by omega), upd_s]
    · rw [upd_s]
    · rw [upd_n (by omega), upd_v, if_pos (by omega)]
    · rw [upd_s]
  · obtain ⟨a', b', q1, ⟨q2, q3⟩, q6, q7⟩ := h f (by omega)
    refine ⟨a', b', q1, ⟨?_, ?_⟩, ?_, ?_⟩ <;> rw [upd_n (by omega), upd_n (by omega)] <;> assumption
/-- both fail at the same place, or both go on -/
def Out (t : Nat → Nat) (len : Nat) (S : MS) (X : TX) (M : MT) (tr : Int32) (nf nc : Nat) (x : Option (Int32 × MS)) (y : Option (Int32 × (TX × MT))) : Prop :=
  ∃ S' X' M' a', a' ≤ len ∧ FRd S S' ∧ FX X X' ∧ At t len a' S' ∧ ((x = some (nI 1, S') ∧ y = some (nI 1, (X', M')) ∧ Tk t len (nxt t len a') X' ∧ Rd S' M' nf nc ∧ S'.2.1 10 = S.2.1 10 ∧ M'.2 7 = tr) ∨ (x = some (nI 0, S') ∧ y = some (nI 0, (X', M')) ∧ Tk t len a' X'))
