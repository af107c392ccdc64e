/-! the pictures, counted: numbers are naturals (nI), the reference's row is g -/
theorem nm_v {α β : Type} (x : α) (k : α → Option β) : nm x k = k x := rfl
theorem ald_v {β : Type} {f : Nat → Int32} {n : Nat} {k : Int32 → Option β} {j : Nat} (hj : j < n) (hn : n < 2 ^ 31) : ald f n (nI j) k = k (f j) := by
  unfold ald
  rw [if_neg (nI_in hj hn), nI_clamp (by omega)]
theorem ast_v {β : Type} {n : Nat} {k : Option β} {j : Nat} (hj : j < n) (hn : n < 2 ^ 31) : ast n (nI j) k = k := by
  unfold ast
  rw [if_neg (nI_in hj hn)]
theorem zo_0 {β : Type} (k : Option β) : zo (nI 0) k = k := rfl
theorem zo_1 {β : Type} (k : Option β) : zo (nI 1) k = k := rfl
theorem ob_v {α β : Type} (x : α) (k : α → Option β) : (some x).bind k = k x := rfl
theorem nI_eqz {a : Nat} (h : a < 2 ^ 31) : (nI a = 0) ↔ a = 0 := nI_eq h (by decide)
theorem nI_ltz {a : Nat} (h : a < 2 ^ 31) : (nI a < 0) ↔ False := ⟨fun q => nI_pos h q, False.elim⟩
theorem nI_lez {a : Nat} (h : a < 2 ^ 31) : (nI a ≤ 0) ↔ a = 0 := (nI_leI h (by decide : 0 < 2 ^ 31)).trans Nat.le_zero
theorem nI_zle {a : Nat} (h : a < 2 ^ 31) : ((0 : Int32) ≤ nI a) ↔ True := ⟨fun _ => trivial, fun _ => nI_pos' h⟩
theorem nI_zlt {a : Nat} (h : a < 2 ^ 31) : ((0 : Int32) < nI a) ↔ 0 < a := nI_ltI (by decide : 0 < 2 ^ 31) h
theorem nI_neg {a : Nat} (h : a < 2 ^ 31) (z : Int32) (hz : z < 0) : (nI a = z) ↔ False := ⟨fun q => by rw [← q] at hz; exact nI_pos h hz, False.elim⟩
theorem nI_m1 {a : Nat} (h : a < 2 ^ 31) : (nI a = (-1 : Int32)) ↔ False := nI_neg h _ (by decide)
theorem nI_inj' {a b : Nat} (ha : a < 2 ^ 31) (hb : b < 2 ^ 31) (h : nI a = nI b) : a = b := (nI_eq ha hb).mp h
theorem upd_v (f : Nat → Int32) (k : Nat) (x : Int32) (j : Nat) : upd f k x j = if j = k then x else f j := rfl
theorem nI_bv (a : Nat) : (nI a).toBitVec = BitVec.ofNat 32 a := rfl
theorem nI_tb {a : Nat} (h : a < 2 ^ 32) (i : Nat) : (nI a).toBitVec.getLsbD i = a.testBit i := by
  rw [nI_bv, BitVec.getLsbD_ofNat]
  by_cases hi : i < 32
  · simp [hi]
  · simp [hi]
    exact Nat.testBit_lt_two_pow (Nat.lt_of_lt_of_le h (Nat.pow_le_pow_right (n := 2) (by decide) (show 32 ≤ i by omega)))
theorem nI_and {a b : Nat} (ha : a < 2 ^ 32) (hb : b < 2 ^ 32) : nI a &&& nI b = nI (a &&& b) := by
  apply Int32.toBitVec_inj.mp
  rw [Int32.toBitVec_and]
  apply BitVec.eq_of_getLsbD_eq
  intro i hi
  have hab : a &&& b < 2 ^ 32 := Nat.lt_of_le_of_lt Nat.and_le_left ha
  rw [BitVec.getLsbD_and, nI_tb ha, nI_tb hb, nI_tb hab, Nat.testBit_and]
theorem nI_or {a b : Nat} (ha : a < 2 ^ 32) (hb : b < 2 ^ 32) : nI a ||| nI b = nI (a ||| b) := by
  apply Int32.toBitVec_inj.mp
  rw [Int32.toBitVec_or]
  apply BitVec.eq_of_getLsbD_eq
  intro i hi
  rw [BitVec.getLsbD_or, nI_tb ha, nI_tb hb, nI_tb (Nat.or_lt_two_pow ha hb), Nat.testBit_or]
/-- a without b, both bytes -/
def andn (a b : Nat) : Nat := a &&& (b ^^^ 255)
theorem andn_lt {a b : Nat} (ha : a < 256) : andn a b < 256 := Nat.lt_of_le_of_lt Nat.and_le_left ha
theorem tb255 (i : Nat) : (255 : Nat).testBit i = decide (i < 8) := by
  have h : (255 : Nat) = 2 ^ 8 - 1 := rfl
  rw [h, Nat.testBit_two_pow_sub_one]
theorem andn_tb {a b : Nat} (ha : a < 256) (i : Nat) : (andn a b).testBit i = (a.testBit i && !b.testBit i) := by
  unfold andn
  rw [Nat.testBit_and, Nat.testBit_xor, tb255]
  by_cases hi : i < 8
  · simp [hi]
  · have h1 : a.testBit i = false := Nat.testBit_lt_two_pow (Nat.lt_of_lt_of_le ha (Nat.pow_le_pow_right (n := 2) (by decide) (show 8 ≤ i by omega)))
    simp [h1]
theorem nI_andn {a b : Nat} (ha : a < 256) (hb : b < 256) : nI a &&& (nI b ^^^ (-1 : Int32)) = nI (andn a b) := by
  apply Int32.toBitVec_inj.mp
  rw [Int32.toBitVec_and, Int32.toBitVec_xor]
  apply BitVec.eq_of_getLsbD_eq
  intro i hi
  have h1 : (-1 : Int32).toBitVec.getLsbD i = true := by
    have : (-1 : Int32).toBitVec = BitVec.allOnes 32 := by decide
    rw [this, BitVec.getLsbD_allOnes]
    simp [hi]
  rw [BitVec.getLsbD_and, BitVec.getLsbD_xor, h1, nI_tb (by omega), nI_tb (by omega), nI_tb (Nat.lt_of_lt_of_le (andn_lt ha) (by decide)), andn_tb ha]
  cases a.testBit i <;> cases b.testBit i <;> rfl
theorem shl_v : ∀ f, f < 31 → (nI 1 <<< (nI f &&& 31)) = nI (2 ^ f) := by decide +kernel
theorem has_v : ∀ p, p < 64 → ∀ f, f < 6 → mX11_has (nI p) (nI f) = some (if p.testBit f then nI 1 else nI 0) := by decide +kernel
theorem holds_v : ∀ p, p < 64 → ∀ f, f < 6 → mX10_holds (nI p) (nI f) = some (if p.testBit f then nI 1 else nI 0) := by decide +kernel
/-- how many bits of a byte -/
def pop (x : Nat) : Nat := ((List.range 8).filter fun i => x.testBit i).length
theorem bits_v : ∀ x, x < 256 → mX11_bits (nI x) = some (nI (pop x)) := by decide +kernel
theorem bitc_v : ∀ x, x < 256 → mJ6_bitCount_0f7a4 (nI x) = some (nI (pop x)) := by decide +kernel
theorem pop_le (x : Nat) : pop x ≤ 8 := by
  unfold pop
  exact Nat.le_trans (List.length_filter_le _ _) (by decide)
theorem in_c (v : Int32) (b : Nat) (hb : b < 2 ^ 31) : (mX11_in v (nI 0) (nI b) = some (nI 0) ∧ mX10_within v (nI 0) (nI b) = some (nI 0)) ∨ ∃ j : Nat, j ≤ b ∧ v = nI j ∧ mX11_in v (nI 0) (nI b) = some (nI 1) ∧ mX10_within v (nI 0) (nI b) = some (nI 1) := by
  unfold mX11_in mX10_within
  by_cases h1 : v < nI 0
  · left; rw [if_pos h1]; exact ⟨rfl, rfl⟩
  · obtain ⟨j, hj, rfl⟩ := nI_of h1
    by_cases h2 : j ≤ b
    · right
      refine ⟨j, h2, rfl, ?_⟩
      rw [if_neg h1, if_neg (nI_nlt h2 hb)]
      exact ⟨rfl, rfl⟩
    · left
      rw [if_neg h1, if_pos (nI_lt (by omega) hj)]
      exact ⟨rfl, rfl⟩
