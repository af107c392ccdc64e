/-! numbers, FACTS, FICTIONS, COURTS: both readers side by side -/
/-- a number ahead of the FACTS, on both sides -/
theorem num_j {t : Nat → Nat} {len a y n k w q bb : Nat} (hO : TextOk t len) {S : MS} {X : TX} {M : MT} {A B C f : Int32} (hM : TM t len S) (hA : At t len a S) (ha : a ≤ len) (h : CL t len (en t len a) y (n + 1) X) (hk : k < 1000) (hI : IS X w q A B C f) (hw : w ≤ 6) (hq : q < ahd w) (hb : mst w q = bb) : ∃ S' X', F89 S S' ∧ At t len (nxt t len a) S' ∧ FY X X' ∧ ((∃ v, v ≤ bb ∧ mX11_number S (nI 0) (nI bb) = some (nI v, S') ∧ CL t len (en t len (nxt t len a)) (y + 1) n X' ∧ IS X' w (q + 1) B C (nI v) f ∧ mX0_readInto_L19 (n + 1) (nI k) (nI y) (X, M) = mX0_readInto_L19 n (nI k) (nI (y + 1)) (X', M)) ∨ (mX11_number S (nI 0) (nI bb) = some (-1, S') ∧ mX0_readInto_L19 (n + 1) (nI k) (nI y) (X, M) = some ((-10 : Int32) - nI (nxt t len a), (X', M)))) := by
  have h3 := ahd_le w
  have h20 := mst_le w q
  obtain ⟨S', w1, w2, w3⟩ := next_j hO hM hA ha
  have hn := nxt_b (t := t) ha
  have e : mX11_number S (nI 0) (nI bb) = some (nE t len (nxt t len a) bb, S') := by
    unfold mX11_number
    rw [w1, ob_v, numHere_v hO (hM.f w3) w2 hn.2.1 (by omega), ob_v]
  by_cases hc : kd t len (nxt t len a) = 3 ∧ nu t len (nxt t len a) ≤ bb
  · obtain ⟨X', r1, r2, r3, r4⟩ := cl_na (M := M) hO h hk hI hw hq hc.1 (by rw [hb]; exact hc.2)
    refine ⟨S', X', w3, w2, r1, Or.inl ⟨nu t len (nxt t len a), hc.2, ?_, r2, r3, r4⟩⟩
    rw [e]
    unfold nE
    rw [if_pos hc]
  · obtain ⟨X', r1, r2⟩ := cl_no (M := M) hO h hk hI hw (by omega) (fun z => by omega) (by rw [hb]; exact hc)
    refine ⟨S', X', w3, w2, r1, Or.inr ⟨?_, r2⟩⟩
    rw [e]
    unfold nE
    rw [if_neg hc]
/-- a turn of the reference's loop over FACTS -/
theorem ref_F {t : Nat → Nat} {len a n s : Nat} (hO : TextOk t len) {S : MS} (hM : TM t len S) (hA : At t len a S) (ha : a ≤ len) (hs : s < 256) : mX11_facts_L6 (n + 1) (nI s) S = if kd t len a = 2 then some (nI s, S) else if kd t len a = 3 ∧ nu t len a ≤ 7 then (mX11_next S).bind fun S6 => mX11_facts_L6 n (nI (s ||| 2 ^ nu t len a)) S6 else some ((-1 : Int32), S) := by
  have h150 := hO.1
  rw [mX11_facts_L6_s, hA.1, isFg_v hO hM (by omega), ob_v, ifB, numHere_v hO hM hA ha (by decide), ob_v, hM.1, ifN_le (by omega) (by omega)]
  by_cases h1 : a < len
  · have h128 := hO.2 a h1
    cases hf : fig (t a)
    · rw [Bool.and_false, if_neg (by decide), if_neg (by omega), ald_v (by omega) (by decide), hM.2.1 a h1, ifN_eq (by omega) (by decide)]
      have hn3 : ¬ (kd t len a = 3 ∧ nu t len a ≤ 7) := fun z => by
        have := (kd3 z.1).2.2.1
        rw [hf] at this
        exact absurd this (by decide)
      by_cases h59 : t a = 59
      · have hl : ltr (t a) = false := by rw [h59]; rfl
        have hk := kd_o h1 hl hf
        rw [if_pos h59] at hk
        rw [if_pos h59, if_pos hk]
      · have hk : ¬ kd t len a = 2 := by
          cases hl : ltr (t a)
          · rw [kd_o h1 hl hf, if_neg h59]
            decide
          · rw [kd_l h1 hl]
            intro q
            (repeat' split at q) <;> omega
        rw [if_neg h59, if_neg hk, if_neg hn3]
    · have hl := fl_x _ h128 hf
      have hk2 : ¬ kd t len a = 2 := by
        rw [kd_f h1 hl hf]
        split <;> decide
      rw [show decide (a < len) = true from decide_eq_true h1, Bool.true_and, if_pos rfl, if_neg hk2]
      unfold nE
      by_cases hc : kd t len a = 3 ∧ nu t len a ≤ 7
      · rw [if_pos hc, if_pos hc, if_neg (m1_n (by omega)), or_bit (by omega) (by omega), nm_v]
      · rw [if_neg hc, if_neg hc, if_pos rfl]
  · have hk := kd_e (t := t) h1
    rw [show decide (a < len) = false from decide_eq_false h1, Bool.false_and, if_neg (by decide), if_pos (by omega), if_neg (by omega), if_neg (fun z => by omega)]
theorem facts_L {t : Nat → Nat} {len k w : Nat} {M : MT} {A B C : Int32} (hO : TextOk t len) (hk : k < 1000) (hw : w ≤ 6) : ∀ m a, a + m = len → ∀ n, m < n → ∀ (S : MS) (X : TX) (s e y nl q : Nat), TM t len S → At t len a S → sk t len e = a → CL t len e y nl X → IS X w q A B C (nI s) → ahd w ≤ q → q ≤ y → s < 256 → ∃ S' X' a', a' ≤ len ∧ F89 S S' ∧ FY X X' ∧ At t len a' S' ∧ ((∃ s' e' y' n' q', s' < 256 ∧ mX11_facts_L6 n (nI s) S = some (nI s', S') ∧ kd t len a' = 2 ∧ sk t len e' = a' ∧ CL t len e' y' n' X' ∧ IS X' w q' A B C (nI s') ∧ ahd w ≤ q' ∧ q' ≤ y' ∧ mX0_readInto_L19 nl (nI k) (nI y) (X, M) = mX0_readInto_L19 n' (nI k) (nI y') (X', M)) ∨ (mX11_facts_L6 n (nI s) S = some (-1, S') ∧ mX0_readInto_L19 nl (nI k) (nI y) (X, M) = some ((-10 : Int32) - nI a', (X', M)))) := by
  have h150 := hO.1
  intro m
  induction m using Nat.strongRecOn with
  | ind m ih =>
    intro a hm n hn S X s e y nl q hM hA he hL hI hq hqy hs
    have ha : a ≤ len := by omega
    obtain ⟨n, rfl⟩ : ∃ j, n = j + 1 := ⟨n - 1, by omega⟩
    obtain ⟨nl, rfl⟩ : ∃ j, nl = j + 1 := ⟨nl - 1, by have := hL.2.2.2.2; omega⟩
    have hey := hL.2.2
    have href := ref_F (n := n) hO hM hA ha hs
    by_cases c2 : kd t len a = 2
    · rw [if_pos c2] at href
      exact ⟨S, X, a, ha, F89.r S, FY.r X, hA, Or.inl ⟨s, e, y, nl + 1, q, hs, href, c2, he, hL, hI, hq, hqy, rfl⟩⟩
    · rw [if_neg c2] at href
      by_cases c3 : kd t len a = 3 ∧ nu t len a ≤ 7
      · rw [if_pos c3] at href
        obtain ⟨S1, w1, w2, w3⟩ := next_j hO hM hA ha
        have hb := nxt_b (t := t) ha
        have hlt := hb.2.2 (kd3 c3.1).1
        have hor : s ||| 2 ^ nu t len a < 256 := Nat.or_lt_two_pow (n := 8) hs (Nat.pow_lt_pow_right (by decide) (by omega))
        have h7 : 7 ≤ mst w q := by
          unfold mst
          rw [if_neg (fun z => by obtain ⟨z1, z2⟩ := z; rw [z1, z2] at hq; exact absurd hq (by decide))]
          split <;> omega
        obtain ⟨X1, r1, r2, r3, r4⟩ := cl_nb (M := M) hO hL hk hI hw hq (by omega) hs (by rw [he]; exact c3.1) (by rw [he]; exact c3.2) (by rw [he]; omega)
        rw [he] at r2 r3
        obtain ⟨S', X', a', u1, u2, u3, u4, u5⟩ := ih (len - nxt t len a) (by omega) (nxt t len a) (by omega) n (by omega) S1 X1 (s ||| 2 ^ nu t len a) (en t len a) (y + 1) nl (q + 1) (hM.f w3) w2 rfl r2 r3 (by omega) (by omega) hor
        refine ⟨S', X', a', u1, w3.t u2, r1.t u3, u4, ?_⟩
        rw [href, w1, ob_v, r4]
        exact u5
      · rw [if_neg c3] at href
        obtain ⟨X1, r1, r2⟩ := cl_no (M := M) hO hL hk hI hw (by omega) (fun z => c2 (by rw [he] at z; exact z.1)) (fun z => c3 (by
          rw [he] at z
          refine ⟨z.1, ?_⟩
          have z2 := z.2
          unfold mst at z2
          rw [if_neg (fun z => by obtain ⟨z1, z2⟩ := z; rw [z1, z2] at hq; exact absurd hq (by decide)), if_neg (by omega)] at z2
          exact z2))
        rw [he] at r2
        exact ⟨S, X1, a, ha, F89.r S, r1, hA, Or.inr ⟨href, r2⟩⟩
/-- the FACTS that end an ITEM, up to its ; -/
theorem facts_j {t : Nat → Nat} {len a y n k w q : Nat} (hO : TextOk t len) {S : MS} {X : TX} {M : MT} {A B C : Int32} (hM : TM t len S) (hA : At t len a S) (ha : a ≤ len) (hk : k < 1000) (hw : w ≤ 6) (h : CL t len (en t len a) y n X) (hI : IS X w q A B C (nI 0)) (hq : ahd w ≤ q) (hqy : q ≤ y) : ∃ S' X' a', a' ≤ len ∧ F89 S S' ∧ FY X X' ∧ At t len a' S' ∧ ((∃ s' e' y' n' q', s' < 256 ∧ mX11_facts S = some (nI s', S') ∧ kd t len a' = 2 ∧ sk t len e' = a' ∧ CL t len e' y' n' X' ∧ IS X' w q' A B C (nI s') ∧ ahd w ≤ q' ∧ q' ≤ y' ∧ mX0_readInto_L19 n (nI k) (nI y) (X, M) = mX0_readInto_L19 n' (nI k) (nI y') (X', M)) ∨ (mX11_facts S = some (-1, S') ∧ mX0_readInto_L19 n (nI k) (nI y) (X, M) = some ((-10 : Int32) - nI a', (X', M)))) := by
  have h150 := hO.1
  obtain ⟨S1, w1, w2, w3⟩ := next_j hO hM hA ha
  have hb := nxt_b (t := t) ha
  unfold mX11_facts
  rw [w1, ob_v]
  obtain ⟨S', X', a', r1, r2, r3, r4, r5⟩ := facts_L (M := M) hO hk hw (len - nxt t len a) (nxt t len a) (by omega) FU (by unfold FU; omega) S1 X 0 (en t len a) y n q (hM.f w3) w2 rfl h hI hq hqy (by decide)
  exact ⟨S', X', a', r1, w3.t r2, r3, r4, r5⟩
/-- the same, and the ; taken: the ITEM stands -/
theorem item_j {t : Nat → Nat} {len e y n k w q : Nat} (hO : TextOk t len) {X : TX} {M M' : MT} {A B C f : Int32} (hk : k < 1000) (hw : w ≤ 6) (h : CL t len e y n X) (hI : IS X w q A B C f) (hq : ahd w ≤ q) (hqy : q ≤ y) (h2 : kd t len (sk t len e) = 2) (hE : ∀ q0 (X1 : TX), IS X1 w q0 A B C f → mX0_endItem (X1, M) = some (xI X1 6 (-1), M')) : ∃ X' n', FY X X' ∧ CL t len (en t len (sk t len e)) (y + 1) n' X' ∧ X'.2 6 = (-1 : Int32) ∧ mX0_readInto_L19 n (nI k) (nI y) (X, M) = mX0_readInto_L19 n' (nI (k + 1)) (nI (y + 1)) (X', M') := by
  have h150 := hO.1
  have hey := h.2.2
  obtain ⟨n, rfl⟩ : ∃ j, n = j + 1 := ⟨n - 1, by omega⟩
  obtain ⟨X', r1, r2, r3, r4⟩ := cl_stop hO h hk hI hw hq (by omega) h2 (fun X1 => hE q X1)
  exact ⟨X', n, r1, r2, r3, r4⟩
theorem end_5 {q n : Nat} {X : TX} {M : MT} {a b c f : Int32} (h : IS X 5 q a b c f) (hm : (M.1 0).1 = nI n) (hn : n < 6) : mX0_endItem (X, M) = some (xI X 6 (-1), tR M 0 (nI (n + 1), upd (upd (upd (upd (M.1 0).2 (n * 4 + 0) a) (n * 4 + 1) f) (n * 4 + 2) b) (n * 4 + 3) c)) := by
  unfold mX0_endItem
  dsimp only
  rw [h.1, if_pos rfl, h.2.2.1, h.2.2.2.1, h.2.2.2.2.1, h.2.2.2.2.2, add4 hm (by decide) hn (by decide) (by omega), ob_v, nm_v, nm_v]
theorem end_6 {q n : Nat} {X : TX} {M : MT} {a b c f : Int32} (h : IS X 6 q a b c f) (hm : (M.1 1).1 = nI n) (hn : n < 4) : mX0_endItem (X, M) = some (xI X 6 (-1), tR M 1 (nI (n + 1), upd (upd (M.1 1).2 (n * 2 + 0) f) (n * 2 + 1) c)) := by
  unfold mX0_endItem
  dsimp only
  rw [h.1, if_neg (by decide), if_pos rfl, h.2.2.2.2.1, h.2.2.2.2.2, add2 hm (by decide) hn (by decide) (by omega), ob_v, nm_v, nm_v]
theorem end_4 {q : Nat} {X : TX} {M : MT} {a b c f : Int32} (h : IS X 4 q a b c f) : mX0_endItem (X, M) = some (xI X 6 (-1), tI M 7 f) := by
  unfold mX0_endItem
  dsimp only
  rw [h.1, if_neg (by decide), if_neg (by decide), h.2.2.2.2.2, nm_v, nm_v]
/-- what was read so far, on both sides -/
def RdF (u v : Nat → Int32) (n : Nat) : Prop := ∀ f, f < n → ∃ a b c d, (a < 6 ∧ b < 256 ∧ c < 8 ∧ d ≤ 20) ∧ (u (4 * f) = nI a ∧ u (4 * f + 1) = nI b ∧ u (4 * f + 2) = nI c ∧ u (4 * f + 3) = nI d) ∧ (v (4 * f) = nI a ∧ v (4 * f + 1) = nI b ∧ v (4 * f + 2) = nI c ∧ v (4 * f + 3) = nI d)
def RdC (u v : Nat → Int32) (n : Nat) : Prop := ∀ f, f < n → ∃ a b, (a < 256 ∧ b ≤ 20) ∧ (u (2 * f) = nI a ∧ u (2 * f + 1) = nI b) ∧ (v (2 * f) = nI a ∧ v (2 * f + 1) = nI b)
def Rd (S : MS) (M : MT) (nf nc : Nat) : Prop := (S.2.1 12 = nI nf ∧ S.2.1 14 = nI nc ∧ (M.1 0).1 = nI nf ∧ (M.1 1).1 = nI nc) ∧ (nf ≤ 6 ∧ nc ≤ 4) ∧ RdF (S.1 11) (M.1 0).2 nf ∧ RdC (S.1 13) (M.1 1).2 nc ∧ ((M.1 2).1 = nI 0 ∧ (M.1 3).1 = nI 0 ∧ (M.1 4).1 = nI 0 ∧ M.2 8 = nI 0 ∧ M.2 9 = nI 0 ∧ M.2 10 = nI 0)
theorem Rd.f {S S' : MS} {M : MT} {nf nc : Nat} (h : Rd S M nf nc) (hf : F89 S S') : Rd S' M nf nc := by
  obtain ⟨⟨a1, a2, a3, a4⟩, b, c, d, e⟩ := h
  exact ⟨⟨(hf.2.2 12 (by decide) (by decide)).trans a1, (hf.2.2 14 (by decide) (by decide)).trans a2, a3, a4⟩, b, by rw [hf.1]; exact c, by rw [hf.1]; exact d, e⟩
def FRd (S S' : MS) : Prop := (∀ j, j ≠ 11 → j ≠ 13 → S'.1 j = S.1 j) ∧ S'.2.2 = S.2.2 ∧ S'.2.1 6 = S.2.1 6
theorem F89.d {S S' : MS} (h : F89 S S') : FRd S S' := ⟨fun j _ _ => by rw [h.1], h.2.1, h.2.2 6 (by decide) (by decide)⟩
theorem FRd.t {S T U : MS} (h1 : FRd S T) (h2 : FRd T U) : FRd S U := ⟨fun j a b => (h2.1 j a b).trans (h1.1 j a b), h2.2.1.trans h1.2.1, h2.2.2.trans h1.2.2⟩
theorem TM.d {t : Nat → Nat} {len : Nat} {S S' : MS} (h : TM t len S) (hf : FRd S S') : TM t len S' := ⟨hf.2.2.trans h.1, by rw [hf.1 5 (by decide) (by decide)]; exact h.2.1, by rw [hf.1 7 (by decide) (by decide)]; exact h.2.2⟩
theorem rdF_add {u v : Nat → Int32} {n a b c d : Nat} (h : RdF u v n) (hb : a < 6 ∧ b < 256 ∧ c < 8 ∧ d ≤ 20) : RdF (upd (upd (upd (upd u (4 * n) (nI a)) (4 * n + 1) (nI b)) (4 * n + 2) (nI c)) (4 * n + 3) (nI d)) (upd (upd (upd (upd v (n * 4 + 0) (nI a)) (n * 4 + 1) (nI b)) (n * 4 + 2) (nI c)) (n * 4 + 3) (nI d)) (n + 1) := by
  intro f hf
  rw [Nat.mul_comm n 4, Nat.add_zero]
  by_cases e : f = n
  · subst e
    refine ⟨a, b, c, d, hb, ⟨?_, ?_, ?_, ?_⟩, ?_, ?_, ?_, ?_⟩
    · rw [upd_n (by omega), upd_n (by omega), upd_n (by omega), upd_s]
    · rw [upd_n (by omega), upd_n (by omega), upd_s]
    · rw [upd_n (by omega), upd_s]
    · rw [upd_s]
    · rw [upd_n (by omega), upd_n (by omega), upd_n (by omega), upd_v, if_pos (by omega)]
    · rw [upd_n (by omega), upd_n (by omega), upd_s]
    · rw [upd_n (by omega), upd_s]
    · rw [upd_s]
  · obtain ⟨a', b', c', d', q1, ⟨q2, q3, q4, q5⟩, q6, q7, q8, q9⟩ := h f (by omega)
    refine ⟨a', b', c', d', q1, ⟨?_, ?_, ?_, ?_⟩, ?_, ?_, ?_, ?_⟩ <;> rw [upd_n (by omega), upd_n (by omega), upd_n (by omega), upd_n (by omega)] <;> assumption
theorem rdC_add {u v : Nat → Int32} {n a b : Nat} (h : RdC u v n) (hb : a < 256 ∧ b ≤ 20) : RdC (upd (upd u (2 * n) (nI a)) (2 * n + 1) (nI b)) (upd (upd v (n * 2 + 0) (nI a)) (n * 2 + 1) (nI b)) (n + 1) := by
  intro f hf
  rw [Nat.mul_comm n 2, Nat.add_zero]
  by_cases e : f = n
  · subst e
    refine ⟨a, b, hb, ⟨?_, ?_⟩, ?_, ?_⟩
    · rw [upd_n (by omega), upd_s]
    · rw [upd_s]
    · rw [upd_n (by omega), upd_v, if_pos (by omega)]
    · rw [upd_s]
  · obtain ⟨a', b', q1, ⟨q2, q3⟩, q6, q7⟩ := h f (by omega)
    refine ⟨a', b', q1, ⟨?_, ?_⟩, ?_, ?_⟩ <;> rw [upd_n (by omega), upd_n (by omega)] <;> assumption
/-- both fail at the same place, or both go on -/
def Out (t : Nat → Nat) (len k y n : Nat) (S : MS) (X : TX) (M : MT) (nf nc : Nat) (x : Option (Int32 × MS)) : Prop :=
  ∃ S' X' M' a', a' ≤ len ∧ FRd S S' ∧ FY X X' ∧ At t len a' S' ∧ ((∃ y' n', x = some (nI 1, S') ∧ mX0_readInto_L19 n (nI k) (nI y) (X, M) = mX0_readInto_L19 n' (nI (k + 1)) (nI y') (X', M') ∧ CL t len (en t len a') y' n' X' ∧ X'.2 6 = (-1 : Int32) ∧ Rd S' M' nf nc ∧ S'.2.1 10 = S.2.1 10 ∧ M'.2 7 = M.2 7) ∨ (x = some (nI 0, S') ∧ mX0_readInto_L19 n (nI k) (nI y) (X, M) = some ((-10 : Int32) - nI a', (X', M'))))
theorem CL.n1 {t : Nat → Nat} {len e y n : Nat} {X : TX} (h : CL t len e y n X) : ∃ j, n = j + 1 := ⟨n - 1, by have := h.2.2.2.2; omega⟩
theorem fict_j {t : Nat → Nat} {len a nf nc k y n : Nat} (hO : TextOk t len) {S : MS} {X : TX} {M : MT} {A B C : Int32} (hk : k < 1000) (hM : TM t len S) (hA : At t len a S) (ha : a ≤ len) (hL : CL t len (en t len a) y n X) (hI : IS X 5 0 A B C (nI 0)) (hy : 1 ≤ y) (hD : Rd S M nf nc) (hn : nf < 6) : Out t len k y n S X M (nf + 1) nc (mX11_readsFiction S) := by
  unfold mX11_readsFiction
  rw [hD.1.1, if_neg (fun q => absurd ((nI_eq (by omega) (by decide)).mp q) (by omega))]
  have b1 := nxt_b (t := t) ha
  have b2 := nxt_b (t := t) b1.2.1
  have b3 := nxt_b (t := t) b2.2.1
  obtain ⟨n, rfl⟩ := hL.n1
  obtain ⟨S1, X1, f1, A1, x1, c1⟩ := num_j (M := M) hO hM hA ha hL hk hI (by decide) (show 0 < ahd 5 by decide) (show mst 5 0 = 5 by decide)
  rcases c1 with ⟨v1, l1, m1, L1, I1, k1⟩ | ⟨m1, k1⟩
  · rw [m1, ob_v]
    dsimp only
    rw [if_neg (m1_n (by omega))]
    obtain ⟨n, rfl⟩ := L1.n1
    obtain ⟨S2, X2, f2, A2, x2, c2⟩ := num_j (M := M) hO (hM.f f1) A1 b1.2.1 L1 hk I1 (by decide) (show 0 + 1 < ahd 5 by decide) (show mst 5 (0 + 1) = 7 by decide)
    rcases c2 with ⟨v2, l2, m2, L2, I2, k2⟩ | ⟨m2, k2⟩
    · rw [m2, ob_v]
      dsimp only
      rw [if_neg (m1_n (by omega))]
      obtain ⟨n, rfl⟩ := L2.n1
      obtain ⟨S3, X3, f3, A3, x3, c3⟩ := num_j (M := M) hO ((hM.f f1).f f2) A2 b2.2.1 L2 hk I2 (by decide) (show 0 + 1 + 1 < ahd 5 by decide) (show mst 5 (0 + 1 + 1) = 20 by decide)
      rcases c3 with ⟨v3, l3, m3, L3, I3, k3⟩ | ⟨m3, k3⟩
      · rw [m3, ob_v]
        dsimp only
        rw [if_neg (m1_n (by omega))]
        obtain ⟨S4, X4, a4, l4, f4, x4, A4, c4⟩ := facts_j (M := M) hO (((hM.f f1).f f2).f f3) A3 b3.2.1 hk (by decide) L3 I3 (by decide) (by omega)
        have hF := ((f1.t f2).t f3).t f4
        have hX := ((x1.t x2).t x3).t x4
        rcases c4 with ⟨v4, e4, y4, n4, q4, lt4, m4, d4, s4, L4, I4, g4, h4, k4⟩ | ⟨m4, k4⟩
        · rw [m4, ob_v]
          dsimp only
          rw [if_neg (m1_n (by omega))]
          obtain ⟨X5, n5, x5, L5, w5, k5⟩ := item_j hO hk (by decide) L4 I4 g4 h4 (by rw [s4]; exact d4) (fun q0 X1 h => end_5 h hD.1.2.2.1 hn)
          rw [s4] at L5
          have hD4 := hD.f hF
          have e12 := hD4.1.1
          rw [e12, pk_mul, ast_v (by omega) (by decide), nm_v, nI_clamp (by omega), show (mA S4 11 (4 * nf) (nI v1)).2.1 12 = nI nf from e12, pk_mul, nI_add, ast_v (by omega) (by decide), nm_v, nI_clamp (by omega)]
          obtain ⟨T2, hT2⟩ : ∃ T, T = mA (mA S4 11 (4 * nf) (nI v1)) 11 (4 * nf + 1) (nI v4) := ⟨_, rfl⟩
          have t12 : T2.2.1 12 = nI nf := by rw [hT2]; exact e12
          rw [← hT2, t12, pk_mul, nI_add, ast_v (by omega) (by decide), nm_v, nI_clamp (by omega), show (mA T2 11 (4 * nf + 2) (nI v2)).2.1 12 = nI nf from t12, pk_mul, nI_add, ast_v (by omega) (by decide), nm_v, nI_clamp (by omega)]
          obtain ⟨T4, hT4⟩ : ∃ T, T = mA (mA T2 11 (4 * nf + 2) (nI v2)) 11 (4 * nf + 3) (nI v3) := ⟨_, rfl⟩
          have u12 : T4.2.1 12 = nI nf := by rw [hT4]; exact t12
          rw [← hT4, u12, nI_add, nm_v, zo_1]
          have q11 : T4.1 11 = upd (upd (upd (upd (S4.1 11) (4 * nf) (nI v1)) (4 * nf + 1) (nI v4)) (4 * nf + 2) (nI v2)) (4 * nf + 3) (nI v3) := by
            rw [hT4, mA_s, mA_s, hT2, mA_s, mA_s]
          have qn : ∀ j, j ≠ 11 → T4.1 j = S4.1 j := fun j hj => by
            rw [hT4, mA_n _ _ _ hj, mA_n _ _ _ hj, hT2, mA_n _ _ _ hj, mA_n _ _ _ hj]
          have q2 : T4.2 = S4.2 := by rw [hT4, hT2]; rfl
          have q21 : ∀ j, j ≠ 12 → (mI T4 12 (nI (nf + 1))).2.1 j = S4.2.1 j := fun j hj => by rw [mI_n _ _ hj, q2]
          refine ⟨mI T4 12 (nI (nf + 1)), X5, _, a4, l4, ?_, hX.t x5, ⟨(q21 8 (by decide)).trans A4.1, (q21 9 (by decide)).trans A4.2⟩, Or.inl ⟨y4 + 1, n5, rfl, ((k1.trans k2).trans k3).trans (k4.trans k5), L5, w5, ?_, ?_, rfl⟩⟩
          · exact hF.d.t ⟨fun j h1 _ => qn j h1, by show T4.2.2 = S4.2.2; rw [q2], q21 6 (by decide)⟩
          · obtain ⟨⟨r1, r2, r3, r4⟩, ⟨r5, r6⟩, r7, r8, r9⟩ := hD4
            refine ⟨⟨mI_s _ _ _, (q21 14 (by decide)).trans r2, rfl, r4⟩, ⟨by omega, r6⟩, ?_, ?_, r9⟩
            · show RdF (T4.1 11) _ _
              rw [q11]
              exact rdF_add r7 ⟨by omega, lt4, by omega, l3⟩
            · show RdC (T4.1 13) _ _
              rw [qn 13 (by decide)]
              exact r8
          · exact (q21 10 (by decide)).trans (hF.2.2 10 (by decide) (by decide))
        · rw [m4, ob_v]
          dsimp only
          rw [if_pos rfl, zo_0]
          exact ⟨S4, X4, M, a4, l4, hF.d, hX, A4, Or.inr ⟨rfl, ((k1.trans k2).trans k3).trans k4⟩⟩
      · rw [m3, ob_v]
        dsimp only
        rw [if_pos rfl, zo_0]
        exact ⟨S3, X3, M, _, b3.2.1, ((f1.t f2).t f3).d, (x1.t x2).t x3, A3, Or.inr ⟨rfl, (k1.trans k2).trans k3⟩⟩
    · rw [m2, ob_v]
      dsimp only
      rw [if_pos rfl, zo_0]
      exact ⟨S2, X2, M, _, b2.2.1, (f1.t f2).d, x1.t x2, A2, Or.inr ⟨rfl, k1.trans k2⟩⟩
  · rw [m1, ob_v]
    dsimp only
    rw [if_pos rfl, zo_0]
    exact ⟨S1, X1, M, _, b1.2.1, f1.d, x1, A1, Or.inr ⟨rfl, k1⟩⟩
theorem court_j {t : Nat → Nat} {len a nf nc k y n : Nat} (hO : TextOk t len) {S : MS} {X : TX} {M : MT} {A B C : Int32} (hk : k < 1000) (hM : TM t len S) (hA : At t len a S) (ha : a ≤ len) (hL : CL t len (en t len a) y n X) (hI : IS X 6 0 A B C (nI 0)) (hy : 1 ≤ y) (hD : Rd S M nf nc) (hn : nc < 4) : Out t len k y n S X M nf (nc + 1) (mX11_readsCourt S) := by
  unfold mX11_readsCourt
  rw [hD.1.2.1, if_neg (fun q => absurd ((nI_eq (by omega) (by decide)).mp q) (by omega))]
  have b1 := nxt_b (t := t) ha
  obtain ⟨n, rfl⟩ := hL.n1
  obtain ⟨S1, X1, f1, A1, x1, c1⟩ := num_j (M := M) hO hM hA ha hL hk hI (by decide) (show 0 < ahd 6 by decide) (show mst 6 0 = 20 by decide)
  rcases c1 with ⟨v1, l1, m1, L1, I1, k1⟩ | ⟨m1, k1⟩
  · rw [m1, ob_v]
    dsimp only
    rw [if_neg (m1_n (by omega))]
    obtain ⟨S4, X4, a4, l4, f4, x4, A4, c4⟩ := facts_j (M := M) hO (hM.f f1) A1 b1.2.1 hk (by decide) L1 I1 (by decide) (by omega)
    have hF := f1.t f4
    have hX := x1.t x4
    rcases c4 with ⟨v4, e4, y4, n4, q4, lt4, m4, d4, s4, L4, I4, g4, h4, k4⟩ | ⟨m4, k4⟩
    · rw [m4, ob_v]
      dsimp only
      rw [if_neg (m1_n (by omega))]
      obtain ⟨X5, n5, x5, L5, w5, k5⟩ := item_j hO hk (by decide) L4 I4 g4 h4 (by rw [s4]; exact d4) (fun q0 X1 h => end_6 h hD.1.2.2.2 hn)
      rw [s4] at L5
      have hD4 := hD.f hF
      have e12 := hD4.1.2.1
      rw [e12, pk_mul, ast_v (by omega) (by decide), nm_v, nI_clamp (by omega), show (mA S4 13 (2 * nc) (nI v4)).2.1 14 = nI nc from e12, pk_mul, nI_add, ast_v (by omega) (by decide), nm_v, nI_clamp (by omega)]
      obtain ⟨T4, hT4⟩ : ∃ T, T = mA (mA S4 13 (2 * nc) (nI v4)) 13 (2 * nc + 1) (nI v1) := ⟨_, rfl⟩
      have u12 : T4.2.1 14 = nI nc := by rw [hT4]; exact e12
      rw [← hT4, u12, nI_add, nm_v, zo_1]
      have q11 : T4.1 13 = upd (upd (S4.1 13) (2 * nc) (nI v4)) (2 * nc + 1) (nI v1) := by
        rw [hT4, mA_s, mA_s]
      have qn : ∀ j, j ≠ 13 → T4.1 j = S4.1 j := fun j hj => by
        rw [hT4, mA_n _ _ _ hj, mA_n _ _ _ hj]
      have q2 : T4.2 = S4.2 := by rw [hT4]; rfl
      have q21 : ∀ j, j ≠ 14 → (mI T4 14 (nI (nc + 1))).2.1 j = S4.2.1 j := fun j hj => by rw [mI_n _ _ hj, q2]
      refine ⟨mI T4 14 (nI (nc + 1)), X5, _, a4, l4, ?_, hX.t x5, ⟨(q21 8 (by decide)).trans A4.1, (q21 9 (by decide)).trans A4.2⟩, Or.inl ⟨y4 + 1, n5, rfl, k1.trans (k4.trans k5), L5, w5, ?_, ?_, rfl⟩⟩
      · exact hF.d.t ⟨fun j _ h1 => qn j h1, by show T4.2.2 = S4.2.2; rw [q2], q21 6 (by decide)⟩
      · obtain ⟨⟨r1, r2, r3, r4⟩, ⟨r5, r6⟩, r7, r8, r9⟩ := hD4
        refine ⟨⟨(q21 12 (by decide)).trans r1, mI_s _ _ _, r3, rfl⟩, ⟨r5, by omega⟩, ?_, ?_, r9⟩
        · show RdF (T4.1 11) _ _
          rw [qn 11 (by decide)]
          exact r7
        · show RdC (T4.1 13) _ _
          rw [q11]
          exact rdC_add r8 ⟨lt4, l1⟩
      · exact (q21 10 (by decide)).trans (hF.2.2 10 (by decide) (by decide))
    · rw [m4, ob_v]
      dsimp only
      rw [if_pos rfl, zo_0]
      exact ⟨S4, X4, M, a4, l4, hF.d, hX, A4, Or.inr ⟨rfl, k1.trans k4⟩⟩
  · rw [m1, ob_v]
    dsimp only
    rw [if_pos rfl, zo_0]
    exact ⟨S1, X1, M, _, b1.2.1, f1.d, x1, A1, Or.inr ⟨rfl, k1⟩⟩
