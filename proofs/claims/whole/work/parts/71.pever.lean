/-! ever and best, told by the reference's walk -/
theorem ald_b {β γ : Type} (f : Nat → Int32) (n : Nat) (i : Int32) (k : Int32 → Option β) (h : β → Option γ) : (ald f n i k).bind h = ald f n i fun v => (k v).bind h := by
  unfold ald
  split <;> rfl
theorem nm_b {α β γ : Type} (x : α) (k : α → Option β) (h : β → Option γ) : (nm x k).bind h = nm x fun v => (k v).bind h := rfl
theorem ite_b {β γ : Type} (c : Prop) [Decidable c] (x y : Option β) (h : β → Option γ) : (if c then x else y).bind h = if c then x.bind h else y.bind h := by
  split <;> rfl
noncomputable def visE (a : Int32) (S : MS) : Option (Int32 × MS) := ald (S.1 16) 7 (S.2.1 18) fun v => (mX11_supposedBy S v).bind fun r => some (a ||| r, S)
theorem ever_Lp (n : Nat) (a : Int32) (S : MS) : mX11_ever_L6 (n + 1) a S = (mX11_nextRow S).bind (cn visE mX11_ever_L6 n a) := by
  rw [mX11_ever_L6_s]
  cases mX11_nextRow S with
  | none => rfl
  | some v =>
    obtain ⟨r, S2⟩ := v
    rw [ob_v, ob_v]
    show (if r = 0 then some (a, S2) else ald (S2.1 16) 7 (S2.2.1 18) fun v4 => (mX11_supposedBy S2 v4).bind fun r5 => mX11_ever_L6 n (a ||| r5) S2) = if r = 0 then some (a, S2) else (visE a S2).bind fun y => mX11_ever_L6 n y.1 y.2
    unfold visE
    rw [ald_b]
    simp only [Option.bind_assoc, Option.bind_some]
def vsE (g : Nat → Nat) (x : Nat) (_ : List Nat) (p _ : Nat) : Nat := x ||| sup g p
theorem vM_ever {K : Nat} {g : Nat → Nat} {S : MS} (hR : RowIs S g) (hB : BookInv K g) (hK : K ≤ 100) : ∃ S', mX11_ever S = some (nI (FT g (vsE g) 7 [] (g 0) 0 0), S') ∧ Keep S S' ∧ RowIs S' g := by
  obtain ⟨a', S', w1, w2, w3, w4⟩ := search_v (J := fun x a _ => a = nI x ∧ x < 256) (vs := vsE g) hR hB hK ever_Lp (fun x a S S' h _ _ => h) (fun x a S' k pl co pre hk hS hn hj => by
    obtain ⟨rfl, hx⟩ := hj
    have hs := sup_lt hB (pl k)
    refine ⟨nI (x ||| sup g (pl k)), S', ?_, ⟨rfl, Nat.or_lt_two_pow (n := 8) hx hs⟩, hS⟩
    unfold visE
    rw [hS.2.2.2.1, ald_v (by omega) (by decide), hS.2.2.2.2.2.2.1 k (Nat.le_refl k), vM_sup hS.2.1 hB (p_64 hB hn.1), ob_v, nI_or (by omega) (by omega)]) 0 (nI 0) ⟨rfl, by decide⟩
  obtain ⟨rfl, -⟩ := w2
  exact ⟨S', w1, w3, w4⟩
/-- the STEP at which a set is PLEADED -/
def dA (g : Nat → Nat) (p : Nat) : Nat := g 1 + (pop p - pop (g 0))
def evT (g : Nat → Nat) : Nat → Nat → Nat
  | 0 => fun _ => 0
  | r + 1 => fun p => (List.range' 0 (g 4)).foldl (fun x f => if mayG g f p (dA g p) then x ||| evT g r (p ||| 2 ^ f) else x) (sup g p)
theorem rng_lt {n f : Nat} (h : f ∈ List.range' 0 n) : f < n := by
  have := List.mem_range'_1.mp h
  omega
theorem ev_fold {K : Nat} {g : Nat → Nat} (hB : BookInv K g) : ∀ r pre p c x, p < 2 ^ g 4 → pop p = pop (g 0) + pre.length → FT g (vsE g) r pre p c x = x ||| evT g r p := by
  have h6 := hB.1.1
  intro r
  induction r with
  | zero => intro pre p c x _ _; exact (Nat.or_zero x).symm
  | succ r ih =>
    intro pre p c x hp hl
    have hd : g 1 + pre.length = dA g p := by unfold dA; omega
    have key : ∀ L : List Nat, (∀ f ∈ L, f < g 4) → ∀ y, L.foldl (KD g (FT g (vsE g) r) pre p c) (x ||| y) = x ||| L.foldl (fun x f => if mayG g f p (dA g p) then x ||| evT g r (p ||| 2 ^ f) else x) y := by
      intro L
      induction L with
      | nil => intro _ y; rfl
      | cons f L ihL =>
        intro hL y
        have hf := hL f (List.mem_cons_self)
        have hkd : KD g (FT g (vsE g) r) pre p c (x ||| y) f = if mayG g f p (dA g p) then FT g (vsE g) r (pre ++ [f]) (p ||| 2 ^ f) (c + costG g f (dA g p)) (x ||| y) else x ||| y := by
          unfold KD
          rw [hd]
        rw [List.foldl_cons, List.foldl_cons, hkd]
        cases hm : mayG g f p (dA g p)
        · rw [if_neg (by decide), if_neg (by decide)]
          exact ihL (fun f' hf' => hL f' (List.mem_cons_of_mem _ hf')) y
        · rw [if_pos rfl, if_pos rfl, ih _ _ _ _ (Nat.or_lt_two_pow hp (Nat.pow_lt_pow_right (by decide) hf)) (by rw [pop_or _ (p_64 hB hp) f (by omega) (may_b hm), hl, List.length_append]; rfl), Nat.or_assoc]
          exact ihL (fun f' hf' => hL f' (List.mem_cons_of_mem _ hf')) _
    exact key _ (fun f hf => rng_lt hf) _
/-! the best row -/
def mrg : Option (Nat × List Nat) → Option (Nat × List Nat) → Option (Nat × List Nat)
  | none, y => y
  | some a, none => some a
  | some a, some b => if a.1 ≤ b.1 then some a else some b
theorem mrg_y {u v : Nat} {l k : List Nat} (h : u ≤ v) : mrg (some (u, l)) (some (v, k)) = some (u, l) := if_pos h
theorem mrg_n {u v : Nat} {l k : List Nat} (h : ¬ u ≤ v) : mrg (some (u, l)) (some (v, k)) = some (v, k) := if_neg h
/-- what a row comes to: how many it has, or what is paid and the COURT's fee -/
def vv (g : Nat → Nat) (ct w : Nat) (pre : List Nat) (c : Nat) : Nat := if w = 0 then pre.length else c + g (34 + ct)
def vsB (g : Nat → Nat) (ct w : Nat) (x : Option (Nat × List Nat)) (pre : List Nat) (p c : Nat) : Option (Nat × List Nat) := if hearsG g ct (sup g p) then mrg x (some (vv g ct w pre c, pre)) else x
def JB : Option (Nat × List Nat) → Int32 → MS → Prop
  | none, a, _ => a = -1
  | some (v, l), a, S => a = nI v ∧ v < 100000 ∧ l.length ≤ 6 ∧ S.2.1 21 = nI l.length ∧ ∀ j, j < l.length → S.1 20 j = nI (l.getD j 0)
noncomputable def visB (y1 y2 : Int32) (a : Int32) (S2 : MS) : Option (Int32 × MS) :=
  if y2 = 0 then ald (S2.1 16) 7 (S2.2.1 18) fun v17 => (mX11_supposedBy S2 v17).bind fun r18 => (mX11_hears S2 y1 r18).bind fun r19 => (if r19 = 0 then some (a, S2) else (if a = (-1 : Int32) then nm (mI S2 21 (S2.2.1 18)) fun S20 => (mX11_bestTo_L91 FU y1 y2 (S2.2.1 18) (nI 0) S20).bind fun S21 => some (S2.2.1 18, S21) else (if a ≤ (S2.2.1 18) then some (a, S2) else nm (mI S2 21 (S2.2.1 18)) fun S22 => (mX11_bestTo_L91 FU y1 y2 (S2.2.1 18) (nI 0) S22).bind fun S23 => some (S2.2.1 18, S23))))
  else ald (S2.1 17) 7 (S2.2.1 18) fun v4 => ald (S2.1 0) 288 ((nI 34) + y1) fun v5 => nm (v4 + v5) fun x6 => ald (S2.1 16) 7 (S2.2.1 18) fun v7 => (mX11_supposedBy S2 v7).bind fun r8 => (mX11_hears S2 y1 r8).bind fun r9 => (if r9 = 0 then some (a, S2) else (if a = (-1 : Int32) then nm (mI S2 21 (S2.2.1 18)) fun S10 => (mX11_bestTo_L91 FU y1 y2 x6 (nI 0) S10).bind fun S14 => some (x6, S14) else (if a ≤ x6 then some (a, S2) else nm (mI S2 21 (S2.2.1 18)) fun S15 => (mX11_bestTo_L91 FU y1 y2 x6 (nI 0) S15).bind fun S16 => some (x6, S16))))
theorem best_Lp (y1 y2 : Int32) (n : Nat) (a : Int32) (S : MS) : mX11_bestTo_L6 (n + 1) y1 y2 a S = (mX11_nextRow S).bind (cn (visB y1 y2) (fun n a S => mX11_bestTo_L6 n y1 y2 a S) n a) := by
  rw [mX11_bestTo_L6_s]
  cases mX11_nextRow S with
  | none => rfl
  | some v =>
    obtain ⟨r, S2⟩ := v
    rw [ob_v, ob_v]
    unfold cn visB
    simp only [ite_b, ald_b, nm_v, Option.bind_assoc, Option.bind_some]
theorem L91_v {k : Nat} (y1 y2 y3 : Int32) (hk : k ≤ 6) : ∀ m j, j + m = k → ∀ n, m < n → ∀ S : MS, S.2.1 18 = nI k → ∃ S', mX11_bestTo_L91 n y1 y2 y3 (nI j) S = some S' ∧ (∀ i, i < k → S'.1 20 i = if j ≤ i then S.1 15 i else S.1 20 i) ∧ (∀ t, t ≠ 20 → S'.1 t = S.1 t) ∧ S'.2 = S.2 := by
  intro m
  induction m with
  | zero =>
    intro j hj n hn S h18
    obtain ⟨n, rfl⟩ : ∃ j, n = j + 1 := ⟨n - 1, by omega⟩
    obtain rfl : j = k := by omega
    rw [mX11_bestTo_L91_s, h18, if_pos (nI_le (Nat.le_refl j) (by omega))]
    exact ⟨S, rfl, fun i hi => by rw [if_neg (by omega)], fun _ _ => rfl, rfl⟩
  | succ m ih =>
    intro j hj n hn S h18
    obtain ⟨n, rfl⟩ : ∃ j, n = j + 1 := ⟨n - 1, by omega⟩
    rw [mX11_bestTo_L91_s, h18, if_neg (nI_ge (by omega) (by omega)), ald_v (by omega) (by decide), ast_v (by omega) (by decide), nm_v, nm_v, nI_clamp (by omega), nI_add]
    obtain ⟨S', w1, w2, w3, w4⟩ := ih (j + 1) (by omega) n (by omega) (mA S 20 j (S.1 15 j)) h18
    refine ⟨S', w1, fun i hi => ?_, fun t ht => ?_, w4⟩
    · rw [w2 i hi, mA_n _ _ _ (by decide), mA_s, upd_v]
      by_cases h1 : i = j
      · rw [if_neg (by omega), if_pos h1, if_pos (by omega), h1]
      · by_cases h2 : j ≤ i
        · rw [if_pos (by omega), if_pos h2]
        · rw [if_neg (by omega), if_neg h1, if_neg h2]
    · rw [w3 t ht, mA_n _ _ _ ht]
/-- a better row is kept -/
theorem take_v {g pl co : Nat → Nat} {S0 S : MS} {k v : Nat} {pre : List Nat} (y1 y2 : Int32) (hk : k ≤ 6) (h : StR g S0 S k pl co pre) (hv : v < 100000) : ∃ S', (nm (mI S 21 (S.2.1 18)) fun S20 => (mX11_bestTo_L91 FU y1 y2 (nI v) (nI 0) S20).bind fun S21 => some (nI v, S21)) = some (nI v, S') ∧ JB (some (v, pre)) (nI v) S' ∧ StR g S0 S' k pl co pre := by
  obtain ⟨⟨a1, a2, a3, a4, a5, a6, a7⟩, hR, h19, h18, hl, h15, h16, h17⟩ := h
  obtain ⟨S', w1, w2, w3, w4⟩ := L91_v (k := k) y1 y2 (nI v) hk k 0 (by omega) FU (by unfold FU; omega) (mI S 21 (S.2.1 18)) h18
  rw [nm_v, w1, ob_v]
  have x3 : ∀ t, t ≠ 20 → S'.1 t = S.1 t := w3
  have x4 : ∀ t, t ≠ 21 → S'.2.1 t = S.2.1 t := fun t ht => by rw [w4]; exact mI_n _ _ ht
  have x5 : S'.2.2 = S.2.2 := by rw [w4]; rfl
  refine ⟨S', rfl, ⟨rfl, hv, by omega, ?_, fun j hj => ?_⟩, ⟨?_, ?_, ?_, ?_, ?_, ?_, ?_, ?_⟩⟩
  · rw [w4, mI_s, h18, hl]
  · rw [w2 j (by omega), if_pos (Nat.zero_le j)]
    exact h15 j (by omega)
  · exact ⟨(x3 1 (by decide)).trans a1, (x3 2 (by decide)).trans a2, (x3 5 (by decide)).trans a3, (x3 7 (by decide)).trans a4, (x4 6 (by decide)).trans a5, by rw [x5]; exact a6, by rw [x5]; exact a7⟩
  · intro j hj
    rw [x3 0 (by decide)]
    exact hR j hj
  · rw [x4 19 (by decide)]; exact h19
  · rw [x4 18 (by decide)]; exact h18
  · exact hl
  · intro j hj
    rw [x3 15 (by decide)]
    exact h15 j hj
  · intro j hj
    rw [x3 16 (by decide)]
    exact h16 j hj
  · intro j hj
    rw [x3 17 (by decide)]
    exact h17 j hj
theorem visB_v {K : Nat} {g : Nat → Nat} {S0 : MS} (hB : BookInv K g) {ct w : Nat} (hct : ct < g 29) (hw : w ≤ 1) (x : Option (Nat × List Nat)) (a : Int32) (S : MS) (k : Nat) (pl co : Nat → Nat) (pre : List Nat) (hk : k ≤ 6) (hS : StR g S0 S k pl co pre) (hn : Num g k pl co) (hj : JB x a S) : ∃ a' S', visB (nI ct) (nI w) a S = some (a', S') ∧ JB (vsB g ct w x pre (pl k) (co k)) a' S' ∧ StR g S0 S' k pl co pre := by
  have hs := sup_lt hB (pl k)
  have h18 := hS.2.2.2.1
  have hl := hS.2.2.2.2.1
  have h16 := hS.2.2.2.2.2.2.1 k (Nat.le_refl k)
  have h17 := hS.2.2.2.2.2.2.2 k (Nat.le_refl k)
  have h4 := hB.1.2.1
  have hfee := (hB.c.2 ct hct).2
  have hco := hn.2.2
  obtain ⟨v, hv⟩ : ∃ v, v = vv g ct w pre (co k) := ⟨_, rfl⟩
  have hvl : v < 100000 := by
    rw [hv]
    unfold vv
    split <;> omega
  obtain ⟨T, t1, t2, t3⟩ := take_v (v := v) (nI ct) (nI w) hk hS hvl
  have key : ∃ a' S', (if (if hearsG g ct (sup g (pl k)) then nI 1 else nI 0) = 0 then some (a, S) else (if a = (-1 : Int32) then nm (mI S 21 (S.2.1 18)) fun S20 => (mX11_bestTo_L91 FU (nI ct) (nI w) (nI v) (nI 0) S20).bind fun S21 => some (nI v, S21) else (if a ≤ nI v then some (a, S) else nm (mI S 21 (S.2.1 18)) fun S22 => (mX11_bestTo_L91 FU (nI ct) (nI w) (nI v) (nI 0) S22).bind fun S23 => some (nI v, S23)))) = some (a', S') ∧ JB (vsB g ct w x pre (pl k) (co k)) a' S' ∧ StR g S0 S' k pl co pre := by
    unfold vsB
    rw [ifB, ← hv, t1]
    cases hearsG g ct (sup g (pl k))
    · rw [if_neg (by decide), if_neg (by decide)]
      exact ⟨a, S, rfl, hj, hS⟩
    · rw [if_pos rfl, if_pos rfl]
      cases x with
      | none =>
        rw [if_pos (show a = -1 from hj)]
        exact ⟨_, T, rfl, t2, t3⟩
      | some u =>
        obtain ⟨u, l⟩ := u
        obtain ⟨rfl, hu, -⟩ := id hj
        rw [if_neg (fun q => (nI_m1 (by omega)).mp q), ifN_le (by omega) (by omega)]
        by_cases hc : u ≤ v
        · rw [if_pos hc, mrg_y hc]
          exact ⟨_, S, rfl, hj, hS⟩
        · rw [if_neg hc, mrg_n hc]
          exact ⟨_, T, rfl, t2, t3⟩
  unfold visB
  rcases (show w = 0 ∨ w = 1 by omega) with rfl | rfl
  · have e : nI v = S.2.1 18 := by
      rw [h18, hv, ← hl]
      rfl
    rw [if_pos z0, h18, ald_v (by omega) (by decide), h16, vM_sup hS.2.1 hB (p_64 hB hn.1), ob_v, vM_hears hS.2.1 hB hct hs, ob_v]
    rw [e, h18] at key
    exact key
  · have e : nI v = nI (co k + g (34 + ct)) := by rw [hv]; rfl
    rw [if_neg z1, h18, ald_v (by omega) (by decide), h17, nI_add, ald_v (by omega) (by decide), hS.2.1 (34 + ct) (by omega), nI_add, nm_v, ald_v (by omega) (by decide), h16, vM_sup hS.2.1 hB (p_64 hB hn.1), ob_v, vM_hears hS.2.1 hB hct hs, ob_v]
    rw [e, h18] at key
    exact key
theorem vM_best {K : Nat} {g : Nat → Nat} {S : MS} (hR : RowIs S g) (hB : BookInv K g) (hK : K ≤ 100) {ct w : Nat} (hct : ct < g 29) (hw : w ≤ 1) : ∃ a S', mX11_bestTo S (nI ct) (nI w) = some (a, S') ∧ JB (FT g (vsB g ct w) 7 [] (g 0) 0 none) a S' ∧ Keep S S' ∧ RowIs S' g := by
  refine search_v (J := JB) (vs := vsB g ct w) (Lp := fun n a S => mX11_bestTo_L6 n (nI ct) (nI w) a S) hR hB hK (best_Lp _ _) (fun x a S S' h e1 e2 => ?_) (visB_v hB hct hw) none (-1) rfl
  cases x with
  | none => exact h
  | some u =>
    obtain ⟨q1, q2, q3, q4, q5⟩ := h
    exact ⟨q1, q2, q3, by rw [e2]; exact q4, fun j hj => by rw [e1]; exact q5 j hj⟩
