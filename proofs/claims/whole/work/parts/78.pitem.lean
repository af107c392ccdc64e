/-! the ITEMS of THE TEXT: a turn of the class's loop, TOKEN by TOKEN -/
def nxt (t : Nat → Nat) (len a : Nat) : Nat := sk t len (en t len a)
theorem nxt_b {t : Nat → Nat} {len a : Nat} (h : a ≤ len) : a ≤ nxt t len a ∧ nxt t len a ≤ len ∧ (a < len → a < nxt t len a) := by
  have h1 := en_b (t := t) h
  have h2 := sk_b (t := t) h1.2.1
  unfold nxt
  omega
theorem kd_le (t : Nat → Nat) (len a : Nat) : kd t len a ≤ 6 := by
  unfold kd
  (repeat' split) <;> omega
theorem kd_z {t : Nat → Nat} {len a : Nat} (h : a < len) : kd t len a ≠ 0 := by
  unfold kd
  rw [if_pos h]
  (repeat' split) <;> decide
theorem kd_in {t : Nat → Nat} {len a : Nat} (h : kd t len a ≠ 0) : a < len := by
  apply Nat.lt_of_not_le
  intro q
  exact h (kd_e (by omega))
theorem kd3 {t : Nat → Nat} {len a : Nat} (h : kd t len a = 3) : a < len ∧ ltr (t a) = false ∧ fig (t a) = true ∧ en t len a - a ≤ 2 := by
  by_cases h1 : a < len
  · cases h2 : ltr (t a)
    · cases h3 : fig (t a)
      · rw [kd_o h1 h2 h3] at h
        split at h <;> omega
      · rw [kd_f h1 h2 h3] at h
        refine ⟨h1, rfl, rfl, ?_⟩
        split at h <;> omega
    · rw [kd_l h1 h2] at h
      (repeat' split at h) <;> omega
  · rw [kd_e h1] at h
    omega
theorem nu_lt {t : Nat → Nat} {len a : Nat} (h : kd t len a = 3) : nu t len a < 1000 := by
  obtain ⟨h1, h2, h3, h4⟩ := kd3 h
  have g1 := fig_ge h3
  rcases nu_v h1 h2 h3 h4 with ⟨-, e⟩ | ⟨-, e, -, e4⟩
  · omega
  · have := fig_ge e4
    omega
theorem next_j {t : Nat → Nat} {len a : Nat} (hO : TextOk t len) {S : MS} (hT : TM t len S) (h : At t len a S) (ha : a ≤ len) : ∃ S', mX11_next S = some S' ∧ At t len (nxt t len a) S' ∧ F89 S S' :=
  next_v hO hT (en_b ha).2.1 h.2
theorem m1_n {v : Nat} (h : v < 1000) : ¬ nI v = (-1 : Int32) := fun q => (nI_m1 (by omega)).mp q
/-- the bytes and their length stay -/
def FY (X X' : TX) : Prop := X'.1 = X.1 ∧ X'.2 1 = X.2 1
theorem FY.r (X : TX) : FY X X := ⟨rfl, rfl⟩
theorem FY.t {X Y Z : TX} (h1 : FY X Y) (h2 : FY Y Z) : FY X Z := ⟨h2.1.trans h1.1, h2.2.trans h1.2⟩
theorem FX.y {X X' : TX} (h : FX X X') : FY X X' := ⟨h.1, h.2.1⟩
theorem TC.y {t : Nat → Nat} {len : Nat} {X X' : TX} (h : TC t len X) (hf : FY X X') : TC t len X' := ⟨hf.2.trans h.1, by rw [hf.1]; exact h.2⟩
/-- only the ITEM at hand has changed -/
def FZ (X X' : TX) : Prop := X'.1 = X.1 ∧ ∀ k, k < 6 → X'.2 k = X.2 k
theorem FZ.t {X Y Z : TX} (h1 : FZ X Y) (h2 : FZ Y Z) : FZ X Z := ⟨h2.1.trans h1.1, fun k hk => (h2.2 k hk).trans (h1.2 k hk)⟩
theorem FZ.m (X : TX) {k : Nat} (x : Int32) (h : 6 ≤ k) : FZ X (xI X k x) := ⟨rfl, fun j hj => xI_n X x (by omega)⟩
theorem FZ.y {X X' : TX} (h : FZ X X') : FY X X' := ⟨h.1, h.2 1 (by decide)⟩
/-- where the loop stands: the next TOKEN is sought from e on, y TOKENS were taken, n turns are left -/
def CL (t : Nat → Nat) (len e y n : Nat) (X : TX) : Prop := TC t len X ∧ X.2 5 = nI e ∧ e ≤ len ∧ y ≤ e ∧ len - e < n
theorem CL.go {t : Nat → Nat} {len e y n : Nat} {X X' : TX} (h : CL t len e y (n + 1) X) (hp : sk t len e < len) (hC : TC t len X') (h5 : X'.2 5 = nI (en t len (sk t len e))) : CL t len (en t len (sk t len e)) (y + 1) n X' := by
  obtain ⟨-, -, he, hy, hn⟩ := h
  have hs := sk_b (t := t) he
  have hb := en_b (t := t) hs.2
  have h3 := hb.2.2 hp
  exact ⟨hC, h5, hb.2.1, by omega, by omega⟩
theorem turn_v {t : Nat → Nat} {len e y n k : Nat} {X : TX} {M : MT} (hO : TextOk t len) (h : CL t len e y (n + 1) X) (hk : k < 1000) : ∃ X', FX X X' ∧ Tk t len (sk t len e) X' ∧ (kd t len (sk t len e) = 0 → mX0_readInto_L19 (n + 1) (nI k) (nI y) (X, M) = some ((if X.2 6 = (-1 : Int32) ∧ 0 < k then nI k else (-10 : Int32) - nI (sk t len e)), (X', M))) ∧ (kd t len (sk t len e) ≠ 0 → ∀ r X2 M2, mX0_takeToken (X', M) (if k = 0 then nI 1 else nI 0) = some (r, (X2, M2)) → X2.2 2 = X'.2 2 → mX0_readInto_L19 (n + 1) (nI k) (nI y) (X, M) = if r = 0 then some ((-10 : Int32) - X2.2 3, (X2, M2)) else mX0_readInto_L19 n (nI (if kd t len (sk t len e) = 2 then k + 1 else k)) (nI (y + 1)) (X2, M2)) := by
  obtain ⟨hC, h5, he, hy, hn⟩ := h
  have h150 := hO.1
  have hkl := kd_le t len (sk t len e)
  have hlt : ¬ nI 150 < nI y := nI_nlt (by omega) (by decide)
  obtain ⟨X', w1, w2, w3⟩ := adv_v hO hC he h5
  refine ⟨X', w3, w2, fun h0 => ?_, fun h0 r X2 M2 ht h2 => ?_⟩
  · have e2 : X'.2 2 = 0 := by rw [w2.2.2.1, h0]; rfl
    rw [mX0_readInto_L19_s]
    simp only [if_neg hlt, w1, ob_v, nm_v, if_pos e2]
    rw [w3.2.2 6 (by decide), w2.1]
    by_cases hw : X.2 6 = (-1 : Int32)
    · rw [if_pos hw]
      by_cases hk0 : 0 < k
      · rw [if_neg (nI_nle hk0 (by omega)), if_pos ⟨hw, hk0⟩]
      · obtain rfl : k = 0 := by omega
        rw [if_pos (by decide), if_neg (fun q => hk0 q.2)]
    · rw [if_neg hw, if_neg (fun q => hw q.1)]
  · have e2 : ¬ X'.2 2 = 0 := by
      rw [w2.2.2.1]
      exact nI_ne0 (Nat.pos_of_ne_zero h0) (by omega)
    have e3 : ¬ X2.2 2 = 0 := by rw [h2]; exact e2
    have e4 : X2.2 2 = nI 2 ↔ kd t len (sk t len e) = 2 := by
      rw [h2, w2.2.2.1]
      exact nI_eq (by omega) (by decide)
    rw [mX0_readInto_L19_s]
    simp only [if_neg hlt, w1, ob_v, nm_v, if_neg e2]
    by_cases hk0 : k = 0
    · subst hk0
      rw [if_pos rfl] at ht
      simp only [if_pos z0, ht, ob_v, if_neg e3, nI_add]
      by_cases hr : r = 0
      · simp only [if_pos hr]
      · simp only [if_neg hr]
        by_cases c2 : kd t len (sk t len e) = 2
        · rw [if_pos (e4.mpr c2), if_pos c2]
        · rw [if_neg (fun z => c2 (e4.mp z)), if_neg c2]
    · rw [if_neg hk0] at ht
      simp only [if_neg (nI_ne0 (Nat.pos_of_ne_zero hk0) (by omega)), ht, ob_v, if_neg e3, nI_add]
      by_cases hr : r = 0
      · simp only [if_pos hr]
      · simp only [if_neg hr]
        by_cases c2 : kd t len (sk t len e) = 2
        · rw [if_pos (e4.mpr c2), if_pos c2]
        · rw [if_neg (fun z => c2 (e4.mp z)), if_neg c2]
/-- how many numbers stand ahead of the FACTS; the most that the next number may be -/
def ahd (w : Nat) : Nat := if w = 5 then 3 else if w = 6 then 1 else 0
def mst (w q : Nat) : Nat := if w = 5 ∧ q = 0 then 5 else if q + 1 = ahd w then 20 else 7
theorem ahd_le (w : Nat) : ahd w ≤ 3 := by
  unfold ahd
  (repeat' split) <;> omega
theorem mst_le (w q : Nat) : mst w q ≤ 20 := by
  unfold mst
  (repeat' split) <;> omega
theorem ahd_v {X : TX} {w : Nat} (hw : w ≤ 6) (h : X.2 6 = nI w) : mX0_numbersAhead X = some (nI (ahd w)) := by
  unfold mX0_numbersAhead ahd
  rw [h, ifN_eq (by omega) (by decide), ifN_eq (by omega) (by decide)]
  by_cases h5 : w = 5
  · rw [if_pos h5, if_pos h5]
  · rw [if_neg h5, if_neg h5]
    by_cases h6 : w = 6
    · rw [if_pos h6, if_pos h6]
    · rw [if_neg h6, if_neg h6]
theorem mst_v {X : TX} {w q : Nat} (hw : w ≤ 6) (hq : q < 1000) (h6 : X.2 6 = nI w) (h7 : X.2 7 = nI q) : mX0_mostHere X = some (nI (mst w q)) := by
  have h3 := ahd_le w
  have e0 : nI 0 - nI 1 = (-1 : Int32) := by decide
  have e1 : nI q = nI (ahd w) - nI 1 ↔ q + 1 = ahd w := by
    by_cases ha : ahd w = 0
    · rw [ha, e0]
      exact ⟨fun z => absurd z (m1_n hq), fun z => by omega⟩
    · rw [pk_sub (by omega), nI_eq (by omega) (by omega)]
      omega
  have e5 : nI w = nI 5 ↔ w = 5 := nI_eq (by omega) (by decide)
  unfold mX0_mostHere mst
  rw [ahd_v hw h6, h6, h7]
  simp only [ob_v]
  by_cases h5 : w = 5
  · rw [if_pos (e5.mpr h5)]
    by_cases h0 : q = 0
    · rw [if_pos (show nI q = 0 by rw [h0]; rfl), if_pos ⟨h5, h0⟩]
    · rw [if_neg (nI_ne0 (Nat.pos_of_ne_zero h0) (by omega)), if_neg (show ¬ (w = 5 ∧ q = 0) from fun z => h0 z.2)]
      by_cases c : q + 1 = ahd w
      · rw [if_pos (e1.mpr c), if_pos c]
      · rw [if_neg (fun z => c (e1.mp z)), if_neg c]
  · rw [if_neg (fun z => h5 (e5.mp z)), if_neg (show ¬ (w = 5 ∧ q = 0) from fun z => h5 z.1)]
    by_cases c : q + 1 = ahd w
    · rw [if_pos (e1.mpr c), if_pos c]
    · rw [if_neg (fun z => c (e1.mp z)), if_neg c]
/-- the ITEM at hand: its word, how many numbers it has, KIND, what it gives, FEE, FACTS -/
def IS (X : TX) (w q : Nat) (a b c f : Int32) : Prop := X.2 6 = nI w ∧ X.2 7 = nI q ∧ X.2 8 = a ∧ X.2 9 = b ∧ X.2 10 = c ∧ X.2 11 = f
theorem IS.f {X X' : TX} {w q : Nat} {a b c f : Int32} (h : IS X w q a b c f) (hf : FX X X') : IS X' w q a b c f :=
  ⟨(hf.2.2 6 (by decide)).trans h.1, (hf.2.2 7 (by decide)).trans h.2.1, (hf.2.2 8 (by decide)).trans h.2.2.1, (hf.2.2 9 (by decide)).trans h.2.2.2.1, (hf.2.2 10 (by decide)).trans h.2.2.2.2.1, (hf.2.2 11 (by decide)).trans h.2.2.2.2.2⟩
theorem tt_v {t : Nat → Nat} {len p w q : Nat} {X : TX} {M : MT} {x a b c f : Int32} (hK : Tk t len p X) (hI : IS X w q a b c f) (hw : w ≤ 6) (hq : q < 1000) : mX0_takeToken (X, M) x = if kd t len p = 2 ∧ ahd w ≤ q then (mX0_endItem (X, M)).bind fun S8 => some (nI 1, S8) else if kd t len p = 3 ∧ nu t len p ≤ mst w q then (mX0_takeNumber X).bind fun u => some (nI 1, (u, M)) else some (nI 0, (X, M)) := by
  have hk := kd_le t len p
  have h3 := ahd_le w
  have h20 := mst_le w q
  have d2 : nI (kd t len p) = nI 2 ↔ kd t len p = 2 := nI_eq (by omega) (by decide)
  have d3 : nI (kd t len p) = nI 3 ↔ kd t len p = 3 := nI_eq (by omega) (by decide)
  unfold mX0_takeToken
  simp only [hI.1, if_neg (m1_n (show w < 1000 by omega)), hK.2.2.1, ahd_v hw hI.1, mst_v hw hq hI.1 hI.2.1, ob_v, hI.2.1, nm_v, zo_0, zo_1]
  by_cases c2 : kd t len p = 2
  · have c3 : ¬ kd t len p = 3 := by omega
    rw [if_pos (d2.mpr c2)]
    by_cases c : ahd w ≤ q
    · rw [if_neg (nI_nlt c (by omega)), if_pos ⟨c2, c⟩]
    · rw [if_pos (nI_lt (by omega) (by omega)), if_neg (fun z => c3 (d3.mp z)), if_neg (show ¬ (kd t len p = 2 ∧ ahd w ≤ q) from fun z => c z.2), if_neg (show ¬ (kd t len p = 3 ∧ nu t len p ≤ mst w q) from fun z => c3 z.1)]
  · rw [if_neg (fun z => c2 (d2.mp z)), if_neg (show ¬ (kd t len p = 2 ∧ ahd w ≤ q) from fun z => c2 z.1)]
    by_cases c3 : kd t len p = 3
    · have hn := nu_lt c3
      rw [if_pos (d3.mpr c3), hK.2.2.2 c3]
      by_cases c : nu t len p ≤ mst w q
      · rw [if_neg (nI_nlt c (by omega)), if_pos ⟨c3, c⟩]
      · rw [if_pos (nI_lt (by omega) (by omega)), if_neg (show ¬ (kd t len p = 3 ∧ nu t len p ≤ mst w q) from fun z => c z.2)]
    · rw [if_neg (fun z => c3 (d3.mp z)), if_neg (show ¬ (kd t len p = 3 ∧ nu t len p ≤ mst w q) from fun z => c3 z.1)]
theorem tn_a {w q v : Nat} {X : TX} {a b c f : Int32} (hI : IS X w q a b c f) (hw : w ≤ 6) (hq : q < ahd w) (h4 : X.2 4 = nI v) : ∃ X', mX0_takeNumber X = some X' ∧ FZ X X' ∧ IS X' w (q + 1) b c (nI v) f := by
  have h3 := ahd_le w
  unfold mX0_takeNumber
  rw [ahd_v hw hI.1, ob_v, if_pos (show X.2 7 < nI (ahd w) by rw [hI.2.1]; exact nI_lt hq (by omega))]
  refine ⟨_, rfl, (((FZ.m X _ (by decide)).t (FZ.m _ _ (by decide))).t (FZ.m _ _ (by decide))).t (FZ.m _ _ (by decide)), hI.1, ?_, hI.2.2.2.1, hI.2.2.2.2.1, h4, hI.2.2.2.2.2⟩
  show X.2 7 + nI 1 = nI (q + 1)
  rw [hI.2.1, nI_add]
theorem tn_b {w q v s : Nat} {X : TX} {a b c : Int32} (hI : IS X w q a b c (nI s)) (hw : w ≤ 6) (hq : ahd w ≤ q) (hq2 : q < 1000) (h4 : X.2 4 = nI v) (hv : v ≤ 7) (hs : s < 256) : ∃ X', mX0_takeNumber X = some X' ∧ FZ X X' ∧ IS X' w (q + 1) a b c (nI (s ||| 2 ^ v)) := by
  have h3 := ahd_le w
  unfold mX0_takeNumber
  rw [ahd_v hw hI.1, ob_v, if_neg (show ¬ X.2 7 < nI (ahd w) by rw [hI.2.1]; exact nI_nlt hq (by omega))]
  refine ⟨_, rfl, (FZ.m X _ (by decide)).t (FZ.m _ _ (by decide)), hI.1, ?_, hI.2.2.1, hI.2.2.2.1, hI.2.2.2.2.1, ?_⟩
  · show X.2 7 + nI 1 = nI (q + 1)
    rw [hI.2.1, nI_add]
  · show X.2 11 ||| ((nI 1) <<< ((X.2 4) &&& 31)) = nI (s ||| 2 ^ v)
    rw [hI.2.2.2.2.2, h4, or_bit (by omega) (by omega)]
/-- a TOKEN that doesn't fit the ITEM at hand -/
theorem cl_no {t : Nat → Nat} {len e y n k w q : Nat} {X : TX} {M : MT} {a b c f : Int32} (hO : TextOk t len) (h : CL t len e y (n + 1) X) (hk : k < 1000) (hI : IS X w q a b c f) (hw : w ≤ 6) (hq : q < 1000) (h2 : ¬ (kd t len (sk t len e) = 2 ∧ ahd w ≤ q)) (h3 : ¬ (kd t len (sk t len e) = 3 ∧ nu t len (sk t len e) ≤ mst w q)) : ∃ X', FY X X' ∧ mX0_readInto_L19 (n + 1) (nI k) (nI y) (X, M) = some ((-10 : Int32) - nI (sk t len e), (X', M)) := by
  obtain ⟨X', w1, w2, w3, w4⟩ := turn_v (M := M) hO h hk
  refine ⟨X', w1.y, ?_⟩
  by_cases h0 : kd t len (sk t len e) = 0
  · rw [w3 h0, if_neg (fun z => m1_n (v := w) (by omega) (hI.1.symm.trans z.1))]
  · rw [w4 h0 (nI 0) X' M (by rw [tt_v w2 (hI.f w1) hw hq, if_neg h2, if_neg h3]) rfl, if_pos z0, w2.1]
/-- a number ahead of the FACTS -/
theorem cl_na {t : Nat → Nat} {len e y n k w q : Nat} {X : TX} {M : MT} {a b c f : Int32} (hO : TextOk t len) (h : CL t len e y (n + 1) X) (hk : k < 1000) (hI : IS X w q a b c f) (hw : w ≤ 6) (hq : q < ahd w) (h3 : kd t len (sk t len e) = 3) (hm : nu t len (sk t len e) ≤ mst w q) : ∃ X', FY X X' ∧ CL t len (en t len (sk t len e)) (y + 1) n X' ∧ IS X' w (q + 1) b c (nI (nu t len (sk t len e))) f ∧ mX0_readInto_L19 (n + 1) (nI k) (nI y) (X, M) = mX0_readInto_L19 n (nI k) (nI (y + 1)) (X', M) := by
  have h3' := ahd_le w
  obtain ⟨X1, w1, w2, w3, w4⟩ := turn_v (M := M) hO h hk
  obtain ⟨X', r1, r2, r3⟩ := tn_a (hI.f w1) hw hq (w2.2.2.2 h3)
  refine ⟨X', w1.y.t r2.y, h.go (kd3 h3).1 ((h.1.f w1).y r2.y) ((r2.2 5 (by decide)).trans w2.2.1), r3, ?_⟩
  rw [w4 (by omega) (nI 1) X' M (by rw [tt_v w2 (hI.f w1) hw (by omega), if_neg (fun z => by omega), if_pos ⟨h3, hm⟩, r1, ob_v]) (r2.2 2 (by decide)), if_neg z1, if_neg (by omega)]
/-- one of the FACTS -/
theorem cl_nb {t : Nat → Nat} {len e y n k w q s : Nat} {X : TX} {M : MT} {a b c : Int32} (hO : TextOk t len) (h : CL t len e y (n + 1) X) (hk : k < 1000) (hI : IS X w q a b c (nI s)) (hw : w ≤ 6) (hq : ahd w ≤ q) (hq2 : q < 1000) (hs : s < 256) (h3 : kd t len (sk t len e) = 3) (h7 : nu t len (sk t len e) ≤ 7) (hm : nu t len (sk t len e) ≤ mst w q) : ∃ X', FY X X' ∧ CL t len (en t len (sk t len e)) (y + 1) n X' ∧ IS X' w (q + 1) a b c (nI (s ||| 2 ^ nu t len (sk t len e))) ∧ mX0_readInto_L19 (n + 1) (nI k) (nI y) (X, M) = mX0_readInto_L19 n (nI k) (nI (y + 1)) (X', M) := by
  obtain ⟨X1, w1, w2, w3, w4⟩ := turn_v (M := M) hO h hk
  obtain ⟨X', r1, r2, r3⟩ := tn_b (hI.f w1) hw hq hq2 (w2.2.2.2 h3) h7 hs
  refine ⟨X', w1.y.t r2.y, h.go (kd3 h3).1 ((h.1.f w1).y r2.y) ((r2.2 5 (by decide)).trans w2.2.1), r3, ?_⟩
  rw [w4 (by omega) (nI 1) X' M (by rw [tt_v w2 (hI.f w1) hw hq2, if_neg (fun z => by omega), if_pos ⟨h3, hm⟩, r1, ob_v]) (r2.2 2 (by decide)), if_neg z1, if_neg (by omega)]
/-- the ; that ends the ITEM -/
theorem cl_stop {t : Nat → Nat} {len e y n k w q : Nat} {X : TX} {M M' : MT} {a b c f : Int32} (hO : TextOk t len) (h : CL t len e y (n + 1) X) (hk : k < 1000) (hI : IS X w q a b c f) (hw : w ≤ 6) (hq : ahd w ≤ q) (hq2 : q < 1000) (h2 : kd t len (sk t len e) = 2) (hE : ∀ X1 : TX, IS X1 w q a b c f → mX0_endItem (X1, M) = some (xI X1 6 (-1), M')) : ∃ X', FY X X' ∧ CL t len (en t len (sk t len e)) (y + 1) n X' ∧ X'.2 6 = (-1 : Int32) ∧ mX0_readInto_L19 (n + 1) (nI k) (nI y) (X, M) = mX0_readInto_L19 n (nI (k + 1)) (nI (y + 1)) (X', M') := by
  obtain ⟨X1, w1, w2, w3, w4⟩ := turn_v (M := M) hO h hk
  have hz : FZ X1 (xI X1 6 (-1)) := FZ.m X1 _ (by decide)
  refine ⟨xI X1 6 (-1), w1.y.t hz.y, h.go (kd_in (show kd t len (sk t len e) ≠ 0 by omega)) ((h.1.f w1).y hz.y) ((hz.2 5 (by decide)).trans w2.2.1), xI_s _ _ _, ?_⟩
  rw [w4 (by omega) (nI 1) (xI X1 6 (-1)) M' (by rw [tt_v w2 (hI.f w1) hw hq2, if_pos ⟨h2, hq⟩, hE X1 (hI.f w1), ob_v]) (hz.2 2 (by decide)), if_neg z1, if_pos h2]
/-- a word that begins an ITEM -/
def bgn (X : TX) (w : Nat) : TX := xI (xI (xI X 6 (nI w)) 7 (nI 0)) 11 (nI 0)
theorem tt_m {X : TX} {M : MT} {x r : Int32} {Z : TX × MT} (hm : X.2 6 = (-1 : Int32)) (hr : r = nI 0 ∨ r = nI 1) (hB : mX0_beginItem (X, M) x = some (r, Z)) : mX0_takeToken (X, M) x = some (r, Z) := by
  unfold mX0_takeToken
  simp only [if_pos hm, hB, ob_v]
  rcases hr with rfl | rfl
  · exact zo_0 _
  · exact zo_1 _
theorem cl_beg {t : Nat → Nat} {len e y n k w : Nat} {X : TX} {M : MT} (hO : TextOk t len) (h : CL t len e y (n + 1) X) (hk : k < 1000) (hm : X.2 6 = (-1 : Int32)) (hw : kd t len (sk t len e) = w) (h4 : 4 ≤ w) (hB : ∀ X1 : TX, X1.2 2 = nI w → mX0_beginItem (X1, M) (if k = 0 then nI 1 else nI 0) = some (nI 1, (bgn X1 w, M))) : ∃ X', FY X X' ∧ CL t len (en t len (sk t len e)) (y + 1) n X' ∧ (∃ a b c, IS X' w 0 a b c (nI 0)) ∧ mX0_readInto_L19 (n + 1) (nI k) (nI y) (X, M) = mX0_readInto_L19 n (nI k) (nI (y + 1)) (X', M) := by
  obtain ⟨X1, w1, w2, w3, w4⟩ := turn_v (M := M) hO h hk
  have hz : FZ X1 (bgn X1 w) := ((FZ.m X1 _ (by decide)).t (FZ.m _ _ (by decide))).t (FZ.m _ _ (by decide))
  have hm1 := (w1.2.2 6 (by decide)).trans hm
  refine ⟨bgn X1 w, w1.y.t hz.y, h.go (kd_in (show kd t len (sk t len e) ≠ 0 by omega)) ((h.1.f w1).y hz.y) ((hz.2 5 (by decide)).trans w2.2.1), ⟨X1.2 8, X1.2 9, X1.2 10, rfl, rfl, rfl, rfl, rfl, rfl⟩, ?_⟩
  rw [w4 (by omega) (nI 1) (bgn X1 w) M (tt_m hm1 (Or.inr rfl) (hB X1 (by rw [w2.2.2.1, hw]))) (hz.2 2 (by decide)), if_neg z1, if_neg (by omega)]
/-- a TOKEN that begins no ITEM -/
theorem cl_bno {t : Nat → Nat} {len e y n k : Nat} {X : TX} {M : MT} (hO : TextOk t len) (h : CL t len e y (n + 1) X) (hk : k < 1000) (hm : X.2 6 = (-1 : Int32)) (h0 : kd t len (sk t len e) ≠ 0 ∨ k = 0) (hB : ∀ X1 : TX, X1.2 2 = nI (kd t len (sk t len e)) → mX0_beginItem (X1, M) (if k = 0 then nI 1 else nI 0) = some (nI 0, (X1, M))) : ∃ X', FY X X' ∧ mX0_readInto_L19 (n + 1) (nI k) (nI y) (X, M) = some ((-10 : Int32) - nI (sk t len e), (X', M)) := by
  obtain ⟨X', w1, w2, w3, w4⟩ := turn_v (M := M) hO h hk
  have hm1 := (w1.2.2 6 (by decide)).trans hm
  refine ⟨X', w1.y, ?_⟩
  by_cases c0 : kd t len (sk t len e) = 0
  · rw [w3 c0, if_neg (fun z => by omega)]
  · rw [w4 c0 (nI 0) X' M (tt_m hm1 (Or.inl rfl) (hB X' w2.2.2.1)) rfl, if_pos z0, w2.1]
/-- the end, behind an ITEM -/
theorem cl_end {t : Nat → Nat} {len e y n k : Nat} {X : TX} {M : MT} (hO : TextOk t len) (h : CL t len e y (n + 1) X) (hk : k < 1000) (hm : X.2 6 = (-1 : Int32)) (h0 : kd t len (sk t len e) = 0) (hk0 : 0 < k) : ∃ X', FY X X' ∧ mX0_readInto_L19 (n + 1) (nI k) (nI y) (X, M) = some (nI k, (X', M)) := by
  obtain ⟨X', w1, w2, w3, w4⟩ := turn_v (M := M) hO h hk
  refine ⟨X', w1.y, ?_⟩
  rw [w3 h0, if_pos ⟨hm, hk0⟩]
