theorem bitof_v : ∀ p, p < 64 → ∀ f, f < 6 → ((nI p >>> (nI f &&& 31)) &&& nI 1) = (if p.testBit f then nI 1 else nI 0) := by decide +kernel
theorem b01 {α : Type} (b : Bool) (x : α) : (if (if b then nI 1 else nI 0) = 0 then some (nI 0, x) else some (nI 1, x)) = some ((if b then nI 1 else nI 0), x) := by
  cases b
  · exact if_pos z0
  · exact if_neg z1
theorem isPl_v {K : Nat} {g : Nat → Nat} {C : CT} {S : MS} (h1 : Base K g C S) {f : Nat} (hf : f < g 4) : mX10_isPleaded C (nI f) = some (if (g 0).testBit f then nI 1 else nI 0) := by
  have h6 := h1.2.1.1.1
  unfold mX10_isPleaded
  rw [h1.2.2.2.1.2.1, holds_v _ h1.2.1.p64 f (by omega), ob_v]
  cases (g 0).testBit f
  · exact zo_0 _
  · exact zo_1 _
theorem g_of {K : Nat} {C : CT} {S : MS} (h : Sim K C S) (hK : K < 1000) (a1 a2 : Int32) : Good (K + 1) (mX10_of C a1 a2) (mX11_of S a1 a2) := by
  obtain ⟨g, h1, h2, h3, h4⟩ := id h
  have h6 := h1.2.1.1.1
  have hs := h1.2.1.s
  unfold mX10_of mX11_of
  rcases isF_c h1 a1 with ⟨e1, e2⟩ | ⟨f, hf, rfl, e1, e2⟩
  · rw [e1, e2, ob_v, ob_v, if_pos z0, if_pos z0]
    exact g_bad h
  rw [e1, e2, ob_v, ob_v, if_neg z1, if_neg z1]
  rcases in_c2 a2 7 (by decide) with ⟨e1, e2, -⟩ | ⟨j, hj, rfl, e1, e2⟩
  · rw [e1, e2, ob_v, ob_v, if_pos z0, if_pos z0]
    exact g_bad h
  rw [e1, e2, ob_v, ob_v, if_neg z1, if_neg z1]
  obtain ⟨f0, f1, f2, f3⟩ := h1.2.2.f.2 f hf
  have d1 : g 1 < 1000 := by have := hs.2.1; omega
  have ne : ∀ a b : Nat, a < 8 → b < 8 → a ≠ b → ¬ nI a = nI b := fun a b p q r => ne_nI (by omega) (by omega) r
  rcases (show j = 0 ∨ j = 1 ∨ j = 2 ∨ j = 3 ∨ j = 4 ∨ j = 5 ∨ j = 6 ∨ j = 7 by omega) with rfl | rfl | rfl | rfl | rfl | rfl | rfl | rfl
  · rw [if_neg (ne 0 4 (by decide) (by decide) (by decide)), if_neg (ne 0 5 (by decide) (by decide) (by decide)), if_neg (ne 0 6 (by decide) (by decide) (by decide)), if_neg (ne 0 7 (by decide) (by decide) (by decide)), if_pos rfl, nI_add, ald_v (by omega) (by decide), h1.1 _ (by omega), cell_v (by decide) (by omega), ob_v, Nat.mul_comm f 4, show ((C.1 0).1 0).2 (4 * f + 0) = _ from f0]
    exact Good.same h (Nat.le_succ K) _ rfl rfl
  · rw [if_neg (ne 1 4 (by decide) (by decide) (by decide)), if_neg (ne 1 5 (by decide) (by decide) (by decide)), if_neg (ne 1 6 (by decide) (by decide) (by decide)), if_neg (ne 1 7 (by decide) (by decide) (by decide)), if_neg (ne 1 0 (by decide) (by decide) (by decide)), if_pos rfl, nI_add, ald_v (by omega) (by decide), h1.1 _ (by omega), cell_v (by decide) (by omega), ob_v, Nat.mul_comm f 4, f1]
    exact Good.same h (Nat.le_succ K) _ rfl rfl
  · rw [if_neg (ne 2 4 (by decide) (by decide) (by decide)), if_neg (ne 2 5 (by decide) (by decide) (by decide)), if_neg (ne 2 6 (by decide) (by decide) (by decide)), if_neg (ne 2 7 (by decide) (by decide) (by decide)), if_neg (ne 2 0 (by decide) (by decide) (by decide)), if_neg (ne 2 1 (by decide) (by decide) (by decide)), if_pos rfl, nI_add, ald_v (by omega) (by decide), h1.1 _ (by omega), cell_v (by decide) (by omega), ob_v, Nat.mul_comm f 4, f2]
    exact Good.same h (Nat.le_succ K) _ rfl rfl
  · rw [if_neg (ne 3 4 (by decide) (by decide) (by decide)), if_neg (ne 3 5 (by decide) (by decide) (by decide)), if_neg (ne 3 6 (by decide) (by decide) (by decide)), if_neg (ne 3 7 (by decide) (by decide) (by decide)), if_neg (ne 3 0 (by decide) (by decide) (by decide)), if_neg (ne 3 1 (by decide) (by decide) (by decide)), if_neg (ne 3 2 (by decide) (by decide) (by decide)), if_pos rfl, nI_add, ald_v (by omega) (by decide), h1.1 _ (by omega), cell_v (by decide) (by omega), ob_v, Nat.mul_comm f 4, f3]
    exact Good.same h (Nat.le_succ K) _ rfl rfl
  · rw [if_pos rfl, if_neg (ne 4 0 (by decide) (by decide) (by decide)), if_neg (ne 4 1 (by decide) (by decide) (by decide)), if_neg (ne 4 2 (by decide) (by decide) (by decide)), if_neg (ne 4 3 (by decide) (by decide) (by decide)), if_pos rfl, ald_v (by decide) (by decide), h1.1 0 (by decide), bitof_v _ h1.2.1.p64 f (by omega), isPl_v h1 hf, ob_v, b01]
    exact Good.same h (Nat.le_succ K) _ rfl rfl
  · rw [if_neg (ne 5 4 (by decide) (by decide) (by decide)), if_pos rfl, if_neg (ne 5 0 (by decide) (by decide) (by decide)), if_neg (ne 5 1 (by decide) (by decide) (by decide)), if_neg (ne 5 2 (by decide) (by decide) (by decide)), if_neg (ne 5 3 (by decide) (by decide) (by decide)), if_neg (ne 5 4 (by decide) (by decide) (by decide)), if_pos rfl, ald_v (by decide) (by decide), h1.1 0 (by decide), ald_v (by decide) (by decide), h1.1 1 (by decide), vM_may h1.1 h1.2.1 hf h1.2.1.p64 d1, vC_may h1 hK hf, ob_v, ob_v, b01, b01]
    exact Good.same h (Nat.le_succ K) _ rfl rfl
  · rw [if_neg (ne 6 4 (by decide) (by decide) (by decide)), if_neg (ne 6 5 (by decide) (by decide) (by decide)), if_pos rfl, if_neg (ne 6 0 (by decide) (by decide) (by decide)), if_neg (ne 6 1 (by decide) (by decide) (by decide)), if_neg (ne 6 2 (by decide) (by decide) (by decide)), if_neg (ne 6 3 (by decide) (by decide) (by decide)), if_neg (ne 6 4 (by decide) (by decide) (by decide)), if_neg (ne 6 5 (by decide) (by decide) (by decide)), if_pos rfl, ald_v (by decide) (by decide), h1.1 1 (by decide), vM_cost h1.1 h1.2.1 hf d1, h1.2.2.i.2.2.1, vC_cost h1.2.2 h1.2.1 hf d1, ob_v, ob_v]
    exact Good.same h (Nat.le_succ K) _ rfl rfl
  · rw [if_neg (ne 7 4 (by decide) (by decide) (by decide)), if_neg (ne 7 5 (by decide) (by decide) (by decide)), if_neg (ne 7 6 (by decide) (by decide) (by decide)), if_pos rfl, if_neg (ne 7 0 (by decide) (by decide) (by decide)), if_neg (ne 7 1 (by decide) (by decide) (by decide)), if_neg (ne 7 2 (by decide) (by decide) (by decide)), if_neg (ne 7 3 (by decide) (by decide) (by decide)), if_neg (ne 7 4 (by decide) (by decide) (by decide)), if_neg (ne 7 5 (by decide) (by decide) (by decide)), if_neg (ne 7 6 (by decide) (by decide) (by decide)), vM_wins h1.1 h1.2.1 hf, vC_wins h1.2.2 h1.2.1 hf, ob_v, ob_v, b01, b01]
    exact Good.same h (Nat.le_succ K) _ rfl rfl
