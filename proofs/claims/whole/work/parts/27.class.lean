noncomputable def mX10_clear (S : CT) : Option (Int32 × CT) := nm (cT S (xI (S.2.1) 1 (nI 0))) fun S1 => some (((S.2.1).2 1), S1)
set_option maxHeartbeats 4000000 in
set_option maxRecDepth 100000 in
theorem tcX10_clear (l : Launch) (D : va_G) (cs : CS) (ad : Nat → Nat) (sz : Nat) (S : CT) (z : Int32 × CT) (hm : mX10_clear S = some z) : Met l yX10_clear (Cond.code yX10_clear cX10_clear 2 (some .int) :: gw_tbl) ({ frames := 0, cells := 0, slots := 0, locals := 0 }) (PcW D cs sz (WC cs ad S) [.ref (ad 0)]) (QWi D cs (va_A (WC cs ad S) sz) (fun u => WC cs ad u) z) 0 0 (va_A (WC cs ad S) sz) := by
  refine met_W rfl (Nat.le_of_ble_eq_true rfl) (fun p e s m below meth c E hP hD hS hA ls hl => ?_)
  generalize va_A (WC cs ad S) sz = A at hD hS hA ⊢
  obtain ⟨hx, hb, hr, hml, hown, hlk, hT, hN, hK⟩ := id E
  obtain ⟨H, hH⟩ : ∃ H, H = s.heap := ⟨_, rfl⟩
  obtain ⟨locs, hlo⟩ : ∃ L : List Loc, L = [] := ⟨_, rfl⟩
  have hP : va_P D classes (WC cs ad S) H := by rw [hH]; exact hP
  have hS : va_S A s.heap H locs := by rw [hH, hlo]; exact hS
  rw [show W p l e _ s m _ below meth c s.heap [] 0 0 = W p l e _ s m _ below meth c H locs 0 0 by rw [hH, hlo]]
  have hl : lv_has ls 2 [(0, .ref (ad 0))] := hl
  unfold mX10_clear at hm
  refine lv_aload_n hx hb dX10_clear_0 rfl (lv_at hl 0 rfl) ?_
  refine gf_X10_48 (v := .ref (ad 90)) hx hb hT hown hK hP 0 rfl rfl dX10_clear_1 ?_
  refine gf_X10_111 (v := .int ((S.2.1).2 1)) hx hb hT hown hK hP 56 rfl rfl dX10_clear_4 ?_
  refine lv_istore_n (lv' := [(1, .int ((S.2.1).2 1)), (0, .ref (ad 0))]) hx hb dX10_clear_7 rfl hl (by decide) rfl (fun ls hl => ?_)
  refine lv_aload_n hx hb dX10_clear_8 rfl (lv_at hl 1 rfl) ?_
  refine gf_X10_48 (v := .ref (ad 90)) hx hb hT hown hK hP 0 rfl rfl dX10_clear_9 ?_
  refine lv_iconst (v := (nI 0)) hx hb dX10_clear_12 (by decide) ?_
  refine pf_X10_111 (wf := (fun u => WC cs ad u)) (u0 := cT S (xI (S.2.1) 1 (nI 0))) hx hb hT hown hK hP hD hS 56 rfl (Nat.le_of_ble_eq_true rfl) rfl rfl rfl hm dX10_clear_13 (fun S1 H locs hm hP hD hS => ?_)
  refine lv_iload_n hx hb dX10_clear_16 rfl (lv_at hl 0 rfl) ?_
  exact x_iretW (wf := (fun u => WC cs ad u)) hx hb hr hlk hK hP hD hS hm dX10_clear_17
noncomputable def mX10_read (S : CT) : Option (Int32 × CT) := (mX0_readInto (S.2.1, S.1 1)).bind fun ⟨r3, u2⟩ => nm (cM (cT S u2.1) 1 u2.2) fun S1 => (if r3 ≤ 0 then some (r3, S1) else (mX3_become (S1.1 1) (S1.1 0)).bind fun u5 => nm (cM S1 0 u5) fun S4 => some (r3, S4))
set_option maxHeartbeats 4000000 in
set_option maxRecDepth 100000 in
theorem tcX10_read (l : Launch) (D : va_G) (cs : CS) (kS vS : Nat → Nat) (SA : Nat → Prop) (ad : Nat → Nat) (sz : Nat) (S : CT) (z : Int32 × CT) (hm : mX10_read S = some z) (hSA : ∀ q, va_A (WC cs ad S) sz q → SA q) : Met l yX10_read (Cond.code yX10_read cX10_read 2 (some .int) :: gw_tbl) ({ frames := 8, cells := 0, slots := 0, locals := 171 }) (PcWS D cs kS vS SA sz (WC cs ad S) [.ref (ad 0)]) (QWi D cs (va_A (WC cs ad S) sz) (fun u => WC cs ad u) z) 0 0 (va_A (WC cs ad S) sz) := by
  refine met_WS rfl (Nat.le_of_ble_eq_true rfl) (fun p e s m below meth c E hE hP hD hS hA ls hl => ?_)
  generalize va_A (WC cs ad S) sz = A at hD hS hA hSA ⊢
  obtain ⟨hx, hb, hr, hml, hown, hlk, hT, hN, hK⟩ := id E
  obtain ⟨H, hH⟩ : ∃ H, H = s.heap := ⟨_, rfl⟩
  obtain ⟨locs, hlo⟩ : ∃ L : List Loc, L = [] := ⟨_, rfl⟩
  have hP : va_P D classes (WC cs ad S) H := by rw [hH]; exact hP
  have hS : va_S A s.heap H locs := by rw [hH, hlo]; exact hS
  rw [show W p l e _ s m _ below meth c s.heap [] 0 0 = W p l e _ s m _ below meth c H locs 0 0 by rw [hH, hlo]]
  have hl : lv_has ls 2 [(0, .ref (ad 0))] := hl
  unfold mX10_read at hm
  refine lv_aload_n hx hb dX10_read_0 rfl (lv_at hl 0 rfl) ?_
  refine gf_X10_48 (v := .ref (ad 90)) hx hb hT hown hK hP 0 rfl rfl dX10_read_1 ?_
  refine lv_aload_n hx hb dX10_read_4 rfl (lv_at hl 0 rfl) ?_
  refine gf_X10_36 (v := .ref (ad 30)) hx hb hT hown hK hP 0 rfl rfl dX10_read_5 ?_
  refine xVSW_i (As := [.ref (ad 30)]) (rest := []) (wr := [((ad 0), .inr (10, [.ref (ad 10), .ref (ad 30), .ref (ad 50), .ref (ad 70), .ref (ad 90), .ref (ad 95), .int (S.2.2.2.1 6), .int (S.2.2.2.1 7), .long (S.2.2.2.2 8), .long (S.2.2.2.2 9), .int (S.2.2.2.1 10), .int (S.2.2.2.1 11), .int (S.2.2.2.1 12)])), ((ad 10), .inr (3, [.ref (ad 1), .ref (ad 11), .ref (ad 12), .ref (ad 14), .ref (ad 16), .ref (ad 18), .ref (ad 20), .int ((S.1 0).2 7), .int ((S.1 0).2 8), .int ((S.1 0).2 9), .int ((S.1 0).2 10)])), ((ad 11), .inr (6, [])), ((ad 12), .inr (7, [.int (nI 6), .int (nI 4), .ref (ad 13), .int (((S.1 0).1 0).1)])), ((ad 13), .inl (cs 0, 24, .inl (((S.1 0).1 0).2))), ((ad 14), .inr (7, [.int (nI 4), .int (nI 2), .ref (ad 15), .int (((S.1 0).1 1).1)])), ((ad 15), .inl (cs 0, 8, .inl (((S.1 0).1 1).2))), ((ad 16), .inr (7, [.int (nI 6), .int (nI 3), .ref (ad 17), .int (((S.1 0).1 2).1)])), ((ad 17), .inl (cs 0, 18, .inl (((S.1 0).1 2).2))), ((ad 18), .inr (7, [.int (nI 6), .int (nI 2), .ref (ad 19), .int (((S.1 0).1 3).1)])), ((ad 19), .inl (cs 0, 12, .inl (((S.1 0).1 3).2))), ((ad 20), .inr (7, [.int (nI 8), .int (nI 3), .ref (ad 21), .int (((S.1 0).1 4).1)])), ((ad 21), .inl (cs 0, 24, .inl (((S.1 0).1 4).2))), ((ad 50), .inr (3, [.ref (ad 1), .ref (ad 51), .ref (ad 52), .ref (ad 54), .ref (ad 56), .ref (ad 58), .ref (ad 60), .int ((S.1 2).2 7), .int ((S.1 2).2 8), .int ((S.1 2).2 9), .int ((S.1 2).2 10)])), ((ad 51), .inr (6, [])), ((ad 52), .inr (7, [.int (nI 6), .int (nI 4), .ref (ad 53), .int (((S.1 2).1 0).1)])), ((ad 53), .inl (cs 0, 24, .inl (((S.1 2).1 0).2))), ((ad 54), .inr (7, [.int (nI 4), .int (nI 2), .ref (ad 55), .int (((S.1 2).1 1).1)])), ((ad 55), .inl (cs 0, 8, .inl (((S.1 2).1 1).2))), ((ad 56), .inr (7, [.int (nI 6), .int (nI 3), .ref (ad 57), .int (((S.1 2).1 2).1)])), ((ad 57), .inl (cs 0, 18, .inl (((S.1 2).1 2).2))), ((ad 58), .inr (7, [.int (nI 6), .int (nI 2), .ref (ad 59), .int (((S.1 2).1 3).1)])), ((ad 59), .inl (cs 0, 12, .inl (((S.1 2).1 3).2))), ((ad 60), .inr (7, [.int (nI 8), .int (nI 3), .ref (ad 61), .int (((S.1 2).1 4).1)])), ((ad 61), .inl (cs 0, 24, .inl (((S.1 2).1 4).2))), ((ad 70), .inr (3, [.ref (ad 1), .ref (ad 71), .ref (ad 72), .ref (ad 74), .ref (ad 76), .ref (ad 78), .ref (ad 80), .int ((S.1 3).2 7), .int ((S.1 3).2 8), .int ((S.1 3).2 9), .int ((S.1 3).2 10)])), ((ad 71), .inr (6, [])), ((ad 72), .inr (7, [.int (nI 6), .int (nI 4), .ref (ad 73), .int (((S.1 3).1 0).1)])), ((ad 73), .inl (cs 0, 24, .inl (((S.1 3).1 0).2))), ((ad 74), .inr (7, [.int (nI 4), .int (nI 2), .ref (ad 75), .int (((S.1 3).1 1).1)])), ((ad 75), .inl (cs 0, 8, .inl (((S.1 3).1 1).2))), ((ad 76), .inr (7, [.int (nI 6), .int (nI 3), .ref (ad 77), .int (((S.1 3).1 2).1)])), ((ad 77), .inl (cs 0, 18, .inl (((S.1 3).1 2).2))), ((ad 78), .inr (7, [.int (nI 6), .int (nI 2), .ref (ad 79), .int (((S.1 3).1 3).1)])), ((ad 79), .inl (cs 0, 12, .inl (((S.1 3).1 3).2))), ((ad 80), .inr (7, [.int (nI 8), .int (nI 3), .ref (ad 81), .int (((S.1 3).1 4).1)])), ((ad 81), .inl (cs 0, 24, .inl (((S.1 3).1 4).2))), ((ad 95), .inr (4, [.ref (ad 96), .ref (ad 97)])), ((ad 96), .inl (cs 0, 64, .inl ((S.2.2.1).1))), ((ad 97), .inl (cs 0, 64, .inl ((S.2.2.1).2)))]) (wg := fun u2 => WC cs ad (cM (cT S u2.1) 1 u2.2)) hx hb hml hown hT hN (hE.at hS hSA) hK hP hD hS hA hSA cw_X10_114 hm (fun z h => tcX0_readInto l D cs kS vS SA ad 30 H.size (S.2.1, S.1 1) z h) ⟨rfl, rfl⟩ ⟨by decide, by decide⟩ [56, 57, 20, 21, 22, 23, 24, 25, 26, 27, 28, 29, 30, 31, 1, 2, 3, 4, 5, 6, 7] [0, 8, 9, 10, 11, 12, 13, 14, 15, 16, 17, 18, 19, 32, 33, 34, 35, 36, 37, 38, 39, 40, 41, 42, 43, 44, 45, 46, 47, 48, 49, 50, 51, 52, 53, 54, 55, 58, 59, 60] [0, 54, 55, 56, 57, 58, 59, 60, 1, 2, 3, 4, 5, 6, 7, 8, 9, 10, 11, 12, 42, 43, 44, 45, 46, 47, 48, 49, 50, 51, 52, 53, 13, 14, 15, 16, 17, 18, 19, 20, 21, 22, 23, 24, 25, 26, 27, 28, 29, 30, 31, 32, 33, 34, 35, 36, 40, 41, 37, 38, 39] rfl (by decide) rfl (by decide) (by decide) (fun _ => rfl) (by decide) (b := (ad 90)) 0 rfl rfl rfl hl.1 rfl rfl (Nat.le_of_ble_eq_true rfl) dX10_read_8 ⟨Nat.zero_le _, Nat.zero_le _⟩ (fun r3 u2 H locs hm hP hD hS => ?_)
  obtain ⟨S1, hm, eS1⟩ := nm_ex hm
  rw [← eS1] at hP hD
  refine lv_istore_n (lv' := [(1, .int r3), (0, .ref (ad 0))]) hx hb dX10_read_11 rfl hl (by decide) rfl (fun ls hl => ?_)
  refine lv_iload_n hx hb dX10_read_12 rfl (lv_at hl 0 rfl) ?_
  refine x_if_le (tgt := 27) hx hb dX10_read_13 (by decide) hm (fun hm => ?_) (fun hm => ?_)
  · refine lv_iload_n hx hb dX10_read_27 rfl (lv_at hl 0 rfl) ?_
    exact x_iretW (wf := (fun u => WC cs ad u)) hx hb hr hlk hK hP hD hS hm dX10_read_28
  · refine lv_aload_n hx hb dX10_read_16 rfl (lv_at hl 1 rfl) ?_
    refine gf_X10_30 (v := .ref (ad 10)) hx hb hT hown hK hP 0 rfl rfl dX10_read_17 ?_
    refine lv_aload_n hx hb dX10_read_20 rfl (lv_at hl 1 rfl) ?_
    refine gf_X10_36 (v := .ref (ad 30)) hx hb hT hown hK hP 0 rfl rfl dX10_read_21 ?_
    refine xVW_v (As := [.ref (ad 30)]) (rest := []) (wr := [((ad 0), .inr (10, [.ref (ad 10), .ref (ad 30), .ref (ad 50), .ref (ad 70), .ref (ad 90), .ref (ad 95), .int (S1.2.2.2.1 6), .int (S1.2.2.2.1 7), .long (S1.2.2.2.2 8), .long (S1.2.2.2.2 9), .int (S1.2.2.2.1 10), .int (S1.2.2.2.1 11), .int (S1.2.2.2.1 12)])), ((ad 1), .inl (cs 2, 6, .inr (.inr (.inr (.inr (fun k => some (ad (2 + k)))))))), ((ad 2), .inr (6, [])), ((ad 3), .inr (5, [])), ((ad 4), .inr (1, [])), ((ad 5), .inr (9, [])), ((ad 6), .inr (2, [])), ((ad 7), .inr (8, [])), ((ad 50), .inr (3, [.ref (ad 1), .ref (ad 51), .ref (ad 52), .ref (ad 54), .ref (ad 56), .ref (ad 58), .ref (ad 60), .int ((S1.1 2).2 7), .int ((S1.1 2).2 8), .int ((S1.1 2).2 9), .int ((S1.1 2).2 10)])), ((ad 51), .inr (6, [])), ((ad 52), .inr (7, [.int (nI 6), .int (nI 4), .ref (ad 53), .int (((S1.1 2).1 0).1)])), ((ad 53), .inl (cs 0, 24, .inl (((S1.1 2).1 0).2))), ((ad 54), .inr (7, [.int (nI 4), .int (nI 2), .ref (ad 55), .int (((S1.1 2).1 1).1)])), ((ad 55), .inl (cs 0, 8, .inl (((S1.1 2).1 1).2))), ((ad 56), .inr (7, [.int (nI 6), .int (nI 3), .ref (ad 57), .int (((S1.1 2).1 2).1)])), ((ad 57), .inl (cs 0, 18, .inl (((S1.1 2).1 2).2))), ((ad 58), .inr (7, [.int (nI 6), .int (nI 2), .ref (ad 59), .int (((S1.1 2).1 3).1)])), ((ad 59), .inl (cs 0, 12, .inl (((S1.1 2).1 3).2))), ((ad 60), .inr (7, [.int (nI 8), .int (nI 3), .ref (ad 61), .int (((S1.1 2).1 4).1)])), ((ad 61), .inl (cs 0, 24, .inl (((S1.1 2).1 4).2))), ((ad 70), .inr (3, [.ref (ad 1), .ref (ad 71), .ref (ad 72), .ref (ad 74), .ref (ad 76), .ref (ad 78), .ref (ad 80), .int ((S1.1 3).2 7), .int ((S1.1 3).2 8), .int ((S1.1 3).2 9), .int ((S1.1 3).2 10)])), ((ad 71), .inr (6, [])), ((ad 72), .inr (7, [.int (nI 6), .int (nI 4), .ref (ad 73), .int (((S1.1 3).1 0).1)])), ((ad 73), .inl (cs 0, 24, .inl (((S1.1 3).1 0).2))), ((ad 74), .inr (7, [.int (nI 4), .int (nI 2), .ref (ad 75), .int (((S1.1 3).1 1).1)])), ((ad 75), .inl (cs 0, 8, .inl (((S1.1 3).1 1).2))), ((ad 76), .inr (7, [.int (nI 6), .int (nI 3), .ref (ad 77), .int (((S1.1 3).1 2).1)])), ((ad 77), .inl (cs 0, 18, .inl (((S1.1 3).1 2).2))), ((ad 78), .inr (7, [.int (nI 6), .int (nI 2), .ref (ad 79), .int (((S1.1 3).1 3).1)])), ((ad 79), .inl (cs 0, 12, .inl (((S1.1 3).1 3).2))), ((ad 80), .inr (7, [.int (nI 8), .int (nI 3), .ref (ad 81), .int (((S1.1 3).1 4).1)])), ((ad 81), .inl (cs 0, 24, .inl (((S1.1 3).1 4).2))), ((ad 90), .inr (0, [.ref (ad 91), .int ((S1.2.1).2 1), .int ((S1.2.1).2 2), .int ((S1.2.1).2 3), .int ((S1.2.1).2 4), .int ((S1.2.1).2 5), .int ((S1.2.1).2 6), .int ((S1.2.1).2 7), .int ((S1.2.1).2 8), .int ((S1.2.1).2 9), .int ((S1.2.1).2 10), .int ((S1.2.1).2 11)])), ((ad 91), .inl (cs 0, 150, .inl ((S1.2.1).1))), ((ad 95), .inr (4, [.ref (ad 96), .ref (ad 97)])), ((ad 96), .inl (cs 0, 64, .inl ((S1.2.2.1).1))), ((ad 97), .inl (cs 0, 64, .inl ((S1.2.2.1).2)))]) (wg := fun u5 => WC cs ad (cM S1 0 u5)) hx hb hml hown hT hN hK hP hD hS hA cw_X10_118 hm (fun z h => tcX3_become l D cs ad 10 30 (S1.1 1) H.size (S1.1 0) z h) ⟨rfl, rfl⟩ ⟨by decide, by decide⟩ [8, 9, 10, 11, 12, 13, 14, 15, 16, 17, 18, 19, 20, 21, 22, 23, 24, 25, 26, 27, 28, 29, 30, 31] [0, 1, 2, 3, 4, 5, 6, 7, 32, 33, 34, 35, 36, 37, 38, 39, 40, 41, 42, 43, 44, 45, 46, 47, 48, 49, 50, 51, 52, 53, 54, 55, 56, 57, 58, 59, 60] [0, 1, 2, 3, 4, 5, 6, 7, 37, 38, 39, 40, 41, 42, 43, 44, 45, 46, 47, 48, 49, 50, 51, 52, 53, 54, 55, 56, 57, 58, 59, 60, 8, 9, 10, 11, 12, 13, 14, 15, 16, 17, 18, 19, 20, 21, 22, 23, 24, 25, 26, 27, 28, 29, 30, 31, 32, 33, 34, 35, 36] rfl (by decide) rfl (by decide) (by decide) (fun _ => rfl) (by decide) (b := (ad 10)) 0 rfl rfl rfl hl.1 rfl rfl (Nat.le_of_ble_eq_true rfl) dX10_read_24 ⟨Nat.zero_le _, Nat.zero_le _⟩ (fun u5 H locs hm hP hD hS => ?_)
    obtain ⟨S4, hm, eS4⟩ := nm_ex hm
    rw [← eS4] at hP hD
    refine lv_iload_n hx hb dX10_read_27 rfl (lv_at hl 0 rfl) ?_
    exact x_iretW (wf := (fun u => WC cs ad u)) hx hb hr hlk hK hP hD hS hm dX10_read_28
noncomputable def mX10_suit (S : CT) : Option (Int32 × CT) := (mJ6_bitCount_0f7a4 ((S.1 0).2 8)).bind fun r1 => (mX3_beginSuit (S.1 0)).bind fun u3 => nm (cM S 0 u3) fun S2 => some (r1, S2)
set_option maxHeartbeats 4000000 in
set_option maxRecDepth 100000 in
theorem tcX10_suit (l : Launch) (D : va_G) (cs : CS) (ad : Nat → Nat) (sz : Nat) (S : CT) (z : Int32 × CT) (hm : mX10_suit S = some z) : Met l yX10_suit (Cond.code yX10_suit cX10_suit 2 (some .int) :: gw_tbl) ({ frames := 2, cells := 0, slots := 0, locals := 40 }) (PcW D cs sz (WC cs ad S) [.ref (ad 0)]) (QWi D cs (va_A (WC cs ad S) sz) (fun u => WC cs ad u) z) 0 0 (va_A (WC cs ad S) sz) := by
  refine met_W rfl (Nat.le_of_ble_eq_true rfl) (fun p e s m below meth c E hP hD hS hA ls hl => ?_)
  generalize va_A (WC cs ad S) sz = A at hD hS hA ⊢
  obtain ⟨hx, hb, hr, hml, hown, hlk, hT, hN, hK⟩ := id E
  obtain ⟨H, hH⟩ : ∃ H, H = s.heap := ⟨_, rfl⟩
  obtain ⟨locs, hlo⟩ : ∃ L : List Loc, L = [] := ⟨_, rfl⟩
  have hP : va_P D classes (WC cs ad S) H := by rw [hH]; exact hP
  have hS : va_S A s.heap H locs := by rw [hH, hlo]; exact hS
  rw [show W p l e _ s m _ below meth c s.heap [] 0 0 = W p l e _ s m _ below meth c H locs 0 0 by rw [hH, hlo]]
  have hl : lv_has ls 2 [(0, .ref (ad 0))] := hl
  unfold mX10_suit at hm
  refine lv_aload_n hx hb dX10_suit_0 rfl (lv_at hl 0 rfl) ?_
  refine gf_X10_30 (v := .ref (ad 10)) hx hb hT hown hK hP 0 rfl rfl dX10_suit_1 ?_
  refine gf_X10_122 (v := .int ((S.1 0).2 8)) hx hb hT hown hK hP 8 rfl rfl dX10_suit_4 ?_
  refine xS_i (As := [.int ((S.1 0).2 8)]) (rest := []) hx hb hml hown hT hN hK (hP.sub (ws' := []) [] rfl) cw_X10_125 hm (fun z h => tcJ6_bitCount_0f7a4 l D cs ((S.1 0).2 8) z h) ⟨rfl, rfl⟩ ⟨by decide, by decide⟩ hl.1 rfl rfl (Nat.le_of_ble_eq_true rfl) dX10_suit_7 ⟨Nat.zero_le _, Nat.zero_le _⟩ (fun r1 hm => ?_)
  refine lv_istore_n (lv' := [(1, .int r1), (0, .ref (ad 0))]) hx hb dX10_suit_10 rfl hl (by decide) rfl (fun ls hl => ?_)
  refine lv_aload_n hx hb dX10_suit_11 rfl (lv_at hl 1 rfl) ?_
  refine gf_X10_30 (v := .ref (ad 10)) hx hb hT hown hK hP 0 rfl rfl dX10_suit_12 ?_
  refine xVW_v (As := []) (rest := []) (wr := [((ad 0), .inr (10, [.ref (ad 10), .ref (ad 30), .ref (ad 50), .ref (ad 70), .ref (ad 90), .ref (ad 95), .int (S.2.2.2.1 6), .int (S.2.2.2.1 7), .long (S.2.2.2.2 8), .long (S.2.2.2.2 9), .int (S.2.2.2.1 10), .int (S.2.2.2.1 11), .int (S.2.2.2.1 12)])), ((ad 30), .inr (3, [.ref (ad 1), .ref (ad 31), .ref (ad 32), .ref (ad 34), .ref (ad 36), .ref (ad 38), .ref (ad 40), .int ((S.1 1).2 7), .int ((S.1 1).2 8), .int ((S.1 1).2 9), .int ((S.1 1).2 10)])), ((ad 31), .inr (6, [])), ((ad 32), .inr (7, [.int (nI 6), .int (nI 4), .ref (ad 33), .int (((S.1 1).1 0).1)])), ((ad 33), .inl (cs 0, 24, .inl (((S.1 1).1 0).2))), ((ad 34), .inr (7, [.int (nI 4), .int (nI 2), .ref (ad 35), .int (((S.1 1).1 1).1)])), ((ad 35), .inl (cs 0, 8, .inl (((S.1 1).1 1).2))), ((ad 36), .inr (7, [.int (nI 6), .int (nI 3), .ref (ad 37), .int (((S.1 1).1 2).1)])), ((ad 37), .inl (cs 0, 18, .inl (((S.1 1).1 2).2))), ((ad 38), .inr (7, [.int (nI 6), .int (nI 2), .ref (ad 39), .int (((S.1 1).1 3).1)])), ((ad 39), .inl (cs 0, 12, .inl (((S.1 1).1 3).2))), ((ad 40), .inr (7, [.int (nI 8), .int (nI 3), .ref (ad 41), .int (((S.1 1).1 4).1)])), ((ad 41), .inl (cs 0, 24, .inl (((S.1 1).1 4).2))), ((ad 50), .inr (3, [.ref (ad 1), .ref (ad 51), .ref (ad 52), .ref (ad 54), .ref (ad 56), .ref (ad 58), .ref (ad 60), .int ((S.1 2).2 7), .int ((S.1 2).2 8), .int ((S.1 2).2 9), .int ((S.1 2).2 10)])), ((ad 51), .inr (6, [])), ((ad 52), .inr (7, [.int (nI 6), .int (nI 4), .ref (ad 53), .int (((S.1 2).1 0).1)])), ((ad 53), .inl (cs 0, 24, .inl (((S.1 2).1 0).2))), ((ad 54), .inr (7, [.int (nI 4), .int (nI 2), .ref (ad 55), .int (((S.1 2).1 1).1)])), ((ad 55), .inl (cs 0, 8, .inl (((S.1 2).1 1).2))), ((ad 56), .inr (7, [.int (nI 6), .int (nI 3), .ref (ad 57), .int (((S.1 2).1 2).1)])), ((ad 57), .inl (cs 0, 18, .inl (((S.1 2).1 2).2))), ((ad 58), .inr (7, [.int (nI 6), .int (nI 2), .ref (ad 59), .int (((S.1 2).1 3).1)])), ((ad 59), .inl (cs 0, 12, .inl (((S.1 2).1 3).2))), ((ad 60), .inr (7, [.int (nI 8), .int (nI 3), .ref (ad 61), .int (((S.1 2).1 4).1)])), ((ad 61), .inl (cs 0, 24, .inl (((S.1 2).1 4).2))), ((ad 70), .inr (3, [.ref (ad 1), .ref (ad 71), .ref (ad 72), .ref (ad 74), .ref (ad 76), .ref (ad 78), .ref (ad 80), .int ((S.1 3).2 7), .int ((S.1 3).2 8), .int ((S.1 3).2 9), .int ((S.1 3).2 10)])), ((ad 71), .inr (6, [])), ((ad 72), .inr (7, [.int (nI 6), .int (nI 4), .ref (ad 73), .int (((S.1 3).1 0).1)])), ((ad 73), .inl (cs 0, 24, .inl (((S.1 3).1 0).2))), ((ad 74), .inr (7, [.int (nI 4), .int (nI 2), .ref (ad 75), .int (((S.1 3).1 1).1)])), ((ad 75), .inl (cs 0, 8, .inl (((S.1 3).1 1).2))), ((ad 76), .inr (7, [.int (nI 6), .int (nI 3), .ref (ad 77), .int (((S.1 3).1 2).1)])), ((ad 77), .inl (cs 0, 18, .inl (((S.1 3).1 2).2))), ((ad 78), .inr (7, [.int (nI 6), .int (nI 2), .ref (ad 79), .int (((S.1 3).1 3).1)])), ((ad 79), .inl (cs 0, 12, .inl (((S.1 3).1 3).2))), ((ad 80), .inr (7, [.int (nI 8), .int (nI 3), .ref (ad 81), .int (((S.1 3).1 4).1)])), ((ad 81), .inl (cs 0, 24, .inl (((S.1 3).1 4).2))), ((ad 90), .inr (0, [.ref (ad 91), .int ((S.2.1).2 1), .int ((S.2.1).2 2), .int ((S.2.1).2 3), .int ((S.2.1).2 4), .int ((S.2.1).2 5), .int ((S.2.1).2 6), .int ((S.2.1).2 7), .int ((S.2.1).2 8), .int ((S.2.1).2 9), .int ((S.2.1).2 10), .int ((S.2.1).2 11)])), ((ad 91), .inl (cs 0, 150, .inl ((S.2.1).1))), ((ad 95), .inr (4, [.ref (ad 96), .ref (ad 97)])), ((ad 96), .inl (cs 0, 64, .inl ((S.2.2.1).1))), ((ad 97), .inl (cs 0, 64, .inl ((S.2.2.1).2)))]) (wg := fun u3 => WC cs ad (cM S 0 u3)) hx hb hml hown hT hN hK hP hD hS hA cw_X10_131 hm (fun z h => tcX3_beginSuit l D cs ad 10 H.size (S.1 0) z h) ⟨rfl, rfl⟩ ⟨by decide, by decide⟩ [8, 9, 10, 11, 12, 13, 14, 15, 16, 17, 18, 19, 1, 2, 3, 4, 5, 6, 7] [0, 20, 21, 22, 23, 24, 25, 26, 27, 28, 29, 30, 31, 32, 33, 34, 35, 36, 37, 38, 39, 40, 41, 42, 43, 44, 45, 46, 47, 48, 49, 50, 51, 52, 53, 54, 55, 56, 57, 58, 59, 60] [0, 54, 55, 56, 57, 58, 59, 60, 42, 43, 44, 45, 46, 47, 48, 49, 50, 51, 52, 53, 1, 2, 3, 4, 5, 6, 7, 8, 9, 10, 11, 12, 13, 14, 15, 16, 17, 18, 19, 20, 21, 22, 23, 24, 25, 26, 27, 28, 29, 30, 31, 32, 33, 34, 35, 36, 37, 38, 39, 40, 41] rfl (by decide) rfl (by decide) (by decide) (fun _ => rfl) (by decide) (b := (ad 10)) 0 rfl rfl rfl hl.1 rfl rfl (Nat.le_of_ble_eq_true rfl) dX10_suit_15 ⟨Nat.zero_le _, Nat.zero_le _⟩ (fun u3 H locs hm hP hD hS => ?_)
  obtain ⟨S2, hm, eS2⟩ := nm_ex hm
  rw [← eS2] at hP hD
  refine lv_iload_n hx hb dX10_suit_18 rfl (lv_at hl 0 rfl) ?_
  exact x_iretW (wf := (fun u => WC cs ad u)) hx hb hr hlk hK hP hD hS hm dX10_suit_19
noncomputable def mX10_ever (S : CT) : Option Int32 := (mX4_reachable (S.1 0) (S.2.2.1)).bind fun r1 => some r1
set_option maxHeartbeats 4000000 in
set_option maxRecDepth 100000 in
theorem tcX10_ever (l : Launch) (D : va_G) (cs : CS) (ad : Nat → Nat) (S : CT) (z : Int32) (hm : mX10_ever S = some z) : Met l yX10_ever (Cond.code yX10_ever cX10_ever 1 (some .int) :: gw_tbl) ({ frames := 5, cells := 0, slots := 0, locals := 126 }) (PcR D cs (WC cs ad S) [.ref (ad 0)]) (QRi z) 0 0 NoF := by
  refine met_R rfl (Nat.le_of_ble_eq_true rfl) (fun p e s m below meth c E hP ls hl => ?_)
  obtain ⟨hx, hb, hr, hml, hown, hlk, hT, hN, hK⟩ := id E
  have hl : lv_has ls 1 [(0, .ref (ad 0))] := hl
  unfold mX10_ever at hm
  refine lv_aload_n hx hb dX10_ever_0 rfl (lv_at hl 0 rfl) ?_
  refine gf_X10_55 (v := .ref (ad 95)) hx hb hT hown hK hP 0 rfl rfl dX10_ever_1 ?_
  refine lv_aload_n hx hb dX10_ever_4 rfl (lv_at hl 0 rfl) ?_
  refine gf_X10_30 (v := .ref (ad 10)) hx hb hT hown hK hP 0 rfl rfl dX10_ever_5 ?_
  refine xV_i (As := [.ref (ad 10)]) (rest := []) hx hb hml hown hT hN hK (hP.sub (ws' := WP cs ad 10 (S.1 0) (S.2.2.1)) [58, 59, 60, 8, 9, 10, 11, 12, 13, 14, 15, 16, 17, 18, 19, 1, 2, 3, 4, 5, 6, 7] rfl) cw_X10_189 hm (fun z h => tcX4_reachable l D cs ad 10 (S.1 0) (S.2.2.1) z h) ⟨rfl, rfl⟩ ⟨by decide, by decide⟩ (b := (ad 95)) 0 rfl rfl rfl hl.1 rfl rfl (Nat.le_of_ble_eq_true rfl) dX10_ever_8 ⟨Nat.zero_le _, Nat.zero_le _⟩ (fun r1 hm => ?_)
  exact x_iretR hx hb hr hlk hm dX10_ever_11
noncomputable def mX10_giveUp_L4 (S : CT) : Nat → Int32 → Int32 → Option Int32 := fun n => Nat.rec (motive := fun _ => Int32 → Int32 → Option Int32) (fun _ _ => none) (fun _ rc => fun y1 y2 => (if (nI 64) ≤ y2 then some y1 else (if (y2 &&& (((S.1 0).2 8) ^^^ (-1 : Int32))) = 0 then (mX10_fewer y2 y1).bind fun r2 => (if r2 = 0 then nm (y2 + (nI 1)) fun x3 => rc y1 x3 else (mX3_factsWith (S.1 0) (((S.1 0).2 8) &&& (y2 ^^^ (-1 : Int32)))).bind fun r4 => (mX10_contradictIn r4).bind fun r5 => (if r5 = 0 then nm (y2 + (nI 1)) fun x7 => rc y2 x7 else nm (y2 + (nI 1)) fun x6 => rc y1 x6)) else nm (y2 + (nI 1)) fun x1 => rc y1 x1))) n
theorem mX10_giveUp_L4_s (S : CT) (n : Nat) (y1 : Int32) (y2 : Int32) : mX10_giveUp_L4 S (n + 1) y1 y2 = (if (nI 64) ≤ y2 then some y1 else (if (y2 &&& (((S.1 0).2 8) ^^^ (-1 : Int32))) = 0 then (mX10_fewer y2 y1).bind fun r2 => (if r2 = 0 then nm (y2 + (nI 1)) fun x3 => (mX10_giveUp_L4 S n) y1 x3 else (mX3_factsWith (S.1 0) (((S.1 0).2 8) &&& (y2 ^^^ (-1 : Int32)))).bind fun r4 => (mX10_contradictIn r4).bind fun r5 => (if r5 = 0 then nm (y2 + (nI 1)) fun x7 => (mX10_giveUp_L4 S n) y2 x7 else nm (y2 + (nI 1)) fun x6 => (mX10_giveUp_L4 S n) y1 x6)) else nm (y2 + (nI 1)) fun x1 => (mX10_giveUp_L4 S n) y1 x1)) := rfl
noncomputable def mX10_giveUp (S : CT) : Option Int32 := mX10_giveUp_L4 S FU (-1 : Int32) (nI 0)
set_option maxHeartbeats 4000000 in
set_option maxRecDepth 100000 in
theorem kX10_giveUp_L4 {p : Program} {l : Launch} {e : Env} {s : State} {m : MethodId} {below : List Frame} {meth : Method} {c : Code} {D : va_G} {cs : CS}  {ad : Nat → Nat} {S : CT}  (E : EV p s m [.ref (ad 0)].toArray meth c cX10_giveUp 3 RX10 (some .int) D cs) (hP : va_P D classes (WC cs ad S) s.heap) (z : Int32) : ∀ (n : Nat) (y1 : Int32) (y2 : Int32), mX10_giveUp_L4 S n y1 y2 = some z → ∀ ls : Array Slot, lv_has ls 3 [(0, .ref (ad 0)), (1, .int y1), (2, .int y2)] → W p l e ({ frames := 2, cells := 0, slots := 0, locals := 46 }) s m [.ref (ad 0)].toArray below meth c s.heap [] 0 0 (MQ below (QRi z) [.ref (ad 0)].toArray s 0 0 NoF) (F0 m 4 ls []) := by
  obtain ⟨hx, hb, hr, hml, hown, hlk, hT, hN, hK⟩ := id E
  intro n
  induction n with
  | zero =>
    intro y1 y2 hm
    exact nomatch (show (none : Option Int32) = some z from hm)
  | succ n ih =>
    intro y1 y2 hm ls hl
    rw [mX10_giveUp_L4_s] at hm
    refine lv_iload_n hx hb dX10_giveUp_4 rfl (lv_at hl 2 rfl) ?_
    refine lv_bipush (v := (nI 64)) hx hb dX10_giveUp_5 (by decide) ?_
    refine x_icmp_ge (tgt := 64) hx hb dX10_giveUp_7 (by decide) hm (fun hm => ?_) (fun hm => ?_)
    · refine lv_iload_n hx hb dX10_giveUp_64 rfl (lv_at hl 1 rfl) ?_
      exact x_iretR hx hb hr hlk hm dX10_giveUp_65
    · refine lv_iload_n hx hb dX10_giveUp_10 rfl (lv_at hl 2 rfl) ?_
      refine lv_aload_n hx hb dX10_giveUp_11 rfl (lv_at hl 0 rfl) ?_
      refine gf_X10_30 (v := .ref (ad 10)) hx hb hT hown hK hP 0 rfl rfl dX10_giveUp_12 ?_
      refine gf_X10_122 (v := .int ((S.1 0).2 8)) hx hb hT hown hK hP 8 rfl rfl dX10_giveUp_15 ?_
      refine lv_iconst (v := (-1 : Int32)) hx hb dX10_giveUp_18 (by decide) ?_
      refine lv_ixor hx hb dX10_giveUp_19 ?_
      refine lv_iand hx hb dX10_giveUp_20 ?_
      refine x_if_ne (tgt := 58) hx hb dX10_giveUp_21 (by decide) hm (fun hm => ?_) (fun hm => ?_)
      · refine x_iinc (lv' := fun x1 => [(2, .int x1), (0, .ref (ad 0)), (1, .int y1)]) hx hb dX10_giveUp_58 hl (k := 2) rfl (by decide) (v0 := (nI 1)) (by decide) (fun _ => rfl) hm (fun x1 ls hm hl => ?_)
        refine lv_goto (tgt := 4) hx hb dX10_giveUp_61 (by decide) ?_
        exact ih y1 x1 hm ls (lv_sub hl [1, 2, 0] rfl)
      · refine lv_iload_n hx hb dX10_giveUp_24 rfl (lv_at hl 2 rfl) ?_
        refine lv_iload_n hx hb dX10_giveUp_25 rfl (lv_at hl 1 rfl) ?_
        refine xS_i (As := [.int y2, .int y1]) (rest := []) hx hb hml hown hT hN hK (hP.sub (ws' := []) [] rfl) cw_X10_195 hm (fun z h => tcX10_fewer l D cs y2 y1 z h) ⟨rfl, rfl⟩ ⟨by decide, by decide⟩ hl.1 rfl rfl (Nat.le_of_ble_eq_true rfl) dX10_giveUp_26 ⟨Nat.zero_le _, Nat.zero_le _⟩ (fun r2 hm => ?_)
        refine x_if_eq (tgt := 58) hx hb dX10_giveUp_29 (by decide) hm (fun hm => ?_) (fun hm => ?_)
        · refine x_iinc (lv' := fun x3 => [(2, .int x3), (0, .ref (ad 0)), (1, .int y1)]) hx hb dX10_giveUp_58 hl (k := 2) rfl (by decide) (v0 := (nI 1)) (by decide) (fun _ => rfl) hm (fun x3 ls hm hl => ?_)
          refine lv_goto (tgt := 4) hx hb dX10_giveUp_61 (by decide) ?_
          exact ih y1 x3 hm ls (lv_sub hl [1, 2, 0] rfl)
        · refine lv_aload_n hx hb dX10_giveUp_32 rfl (lv_at hl 0 rfl) ?_
          refine gf_X10_30 (v := .ref (ad 10)) hx hb hT hown hK hP 0 rfl rfl dX10_giveUp_33 ?_
          refine lv_aload_n hx hb dX10_giveUp_36 rfl (lv_at hl 0 rfl) ?_
          refine gf_X10_30 (v := .ref (ad 10)) hx hb hT hown hK hP 0 rfl rfl dX10_giveUp_37 ?_
          refine gf_X10_122 (v := .int ((S.1 0).2 8)) hx hb hT hown hK hP 8 rfl rfl dX10_giveUp_40 ?_
          refine lv_iload_n hx hb dX10_giveUp_43 rfl (lv_at hl 2 rfl) ?_
          refine lv_iconst (v := (-1 : Int32)) hx hb dX10_giveUp_44 (by decide) ?_
          refine lv_ixor hx hb dX10_giveUp_45 ?_
          refine lv_iand hx hb dX10_giveUp_46 ?_
          refine xV_i (As := [.int (((S.1 0).2 8) &&& (y2 ^^^ (-1 : Int32)))]) (rest := []) hx hb hml hown hT hN hK (hP.sub (ws' := WT cs ad 10 (S.1 0)) [8, 9, 10, 11, 12, 13, 14, 15, 16, 17, 18, 19, 1, 2, 3, 4, 5, 6, 7] rfl) cw_X10_199 hm (fun z h => tcX3_factsWith l D cs ad 10 (S.1 0) (((S.1 0).2 8) &&& (y2 ^^^ (-1 : Int32))) z h) ⟨rfl, rfl⟩ ⟨by decide, by decide⟩ (b := (ad 10)) 0 rfl rfl rfl hl.1 rfl rfl (Nat.le_of_ble_eq_true rfl) dX10_giveUp_47 ⟨Nat.zero_le _, Nat.zero_le _⟩ (fun r4 hm => ?_)
          refine xS_i (As := [.int r4]) (rest := []) hx hb hml hown hT hN hK (hP.sub (ws' := []) [] rfl) cw_X10_202 hm (fun z h => tcX10_contradictIn l D cs r4 z h) ⟨rfl, rfl⟩ ⟨by decide, by decide⟩ hl.1 rfl rfl (Nat.le_of_ble_eq_true rfl) dX10_giveUp_50 ⟨Nat.zero_le _, Nat.zero_le _⟩ (fun r5 hm => ?_)
          refine x_if_ne (tgt := 58) hx hb dX10_giveUp_53 (by decide) hm (fun hm => ?_) (fun hm => ?_)
          · refine x_iinc (lv' := fun x6 => [(2, .int x6), (0, .ref (ad 0)), (1, .int y1)]) hx hb dX10_giveUp_58 hl (k := 2) rfl (by decide) (v0 := (nI 1)) (by decide) (fun _ => rfl) hm (fun x6 ls hm hl => ?_)
            refine lv_goto (tgt := 4) hx hb dX10_giveUp_61 (by decide) ?_
            exact ih y1 x6 hm ls (lv_sub hl [1, 2, 0] rfl)
          · refine lv_iload_n hx hb dX10_giveUp_56 rfl (lv_at hl 2 rfl) ?_
            refine lv_istore_n (lv' := [(1, .int y2), (0, .ref (ad 0)), (2, .int y2)]) hx hb dX10_giveUp_57 rfl hl (by decide) rfl (fun ls hl => ?_)
            refine x_iinc (lv' := fun x7 => [(2, .int x7), (1, .int y2), (0, .ref (ad 0))]) hx hb dX10_giveUp_58 hl (k := 2) rfl (by decide) (v0 := (nI 1)) (by decide) (fun _ => rfl) hm (fun x7 ls hm hl => ?_)
            refine lv_goto (tgt := 4) hx hb dX10_giveUp_61 (by decide) ?_
            exact ih y2 x7 hm ls (lv_sub hl [2, 1, 0] rfl)
set_option maxHeartbeats 4000000 in
set_option maxRecDepth 100000 in
theorem tcX10_giveUp (l : Launch) (D : va_G) (cs : CS) (ad : Nat → Nat) (S : CT) (z : Int32) (hm : mX10_giveUp S = some z) : Met l yX10_giveUp (Cond.code yX10_giveUp cX10_giveUp 3 (some .int) :: gw_tbl) ({ frames := 2, cells := 0, slots := 0, locals := 46 }) (PcR D cs (WC cs ad S) [.ref (ad 0)]) (QRi z) 0 0 NoF := by
  refine met_R rfl (Nat.le_of_ble_eq_true rfl) (fun p e s m below meth c E hP ls hl => ?_)
  obtain ⟨hx, hb, hr, hml, hown, hlk, hT, hN, hK⟩ := id E
  have hl : lv_has ls 3 [(0, .ref (ad 0))] := hl
  unfold mX10_giveUp at hm
  refine lv_iconst (v := (-1 : Int32)) hx hb dX10_giveUp_0 (by decide) ?_
  refine lv_istore_n (lv' := [(1, .int (-1 : Int32)), (0, .ref (ad 0))]) hx hb dX10_giveUp_1 rfl hl (by decide) rfl (fun ls hl => ?_)
  refine lv_iconst (v := (nI 0)) hx hb dX10_giveUp_2 (by decide) ?_
  refine lv_istore_n (lv' := [(2, .int (nI 0)), (1, .int (-1 : Int32)), (0, .ref (ad 0))]) hx hb dX10_giveUp_3 rfl hl (by decide) rfl (fun ls hl => ?_)
  exact kX10_giveUp_L4 E hP _ FU (-1 : Int32) (nI 0) hm ls (lv_sub hl [2, 1, 0] rfl)
noncomputable def mX10_refuseBad (S : CT) : Option (Int32 × CT) := nm (cI S 10 ((S.2.2.2.1 10) + (nI 1))) fun S1 => some ((-2 : Int32), S1)
set_option maxHeartbeats 4000000 in
set_option maxRecDepth 100000 in
theorem tcX10_refuseBad (l : Launch) (D : va_G) (cs : CS) (ad : Nat → Nat) (sz : Nat) (S : CT) (z : Int32 × CT) (hm : mX10_refuseBad S = some z) : Met l yX10_refuseBad (Cond.code yX10_refuseBad cX10_refuseBad 1 (some .int) :: gw_tbl) ({ frames := 0, cells := 0, slots := 0, locals := 0 }) (PcW D cs sz (WC cs ad S) [.ref (ad 0)]) (QWi D cs (va_A (WC cs ad S) sz) (fun u => WC cs ad u) z) 0 0 (va_A (WC cs ad S) sz) := by
  refine met_W rfl (Nat.le_of_ble_eq_true rfl) (fun p e s m below meth c E hP hD hS hA ls hl => ?_)
  generalize va_A (WC cs ad S) sz = A at hD hS hA ⊢
  obtain ⟨hx, hb, hr, hml, hown, hlk, hT, hN, hK⟩ := id E
  obtain ⟨H, hH⟩ : ∃ H, H = s.heap := ⟨_, rfl⟩
  obtain ⟨locs, hlo⟩ : ∃ L : List Loc, L = [] := ⟨_, rfl⟩
  have hP : va_P D classes (WC cs ad S) H := by rw [hH]; exact hP
  have hS : va_S A s.heap H locs := by rw [hH, hlo]; exact hS
  rw [show W p l e _ s m _ below meth c s.heap [] 0 0 = W p l e _ s m _ below meth c H locs 0 0 by rw [hH, hlo]]
  have hl : lv_has ls 1 [(0, .ref (ad 0))] := hl
  unfold mX10_refuseBad at hm
  refine lv_aload_n hx hb dX10_refuseBad_0 rfl (lv_at hl 0 rfl) ?_
  refine lv_dup hx hb dX10_refuseBad_1 rfl ?_
  refine gf_X10_263 (v := .int (S.2.2.2.1 10)) hx hb hT hown hK hP 0 rfl rfl dX10_refuseBad_2 ?_
  refine lv_iconst (v := (nI 1)) hx hb dX10_refuseBad_5 (by decide) ?_
  refine lv_iadd hx hb dX10_refuseBad_6 ?_
  refine pf_X10_263 (wf := (fun u => WC cs ad u)) (u0 := cI S 10 ((S.2.2.2.1 10) + (nI 1))) hx hb hT hown hK hP hD hS 0 rfl (Nat.le_of_ble_eq_true rfl) rfl rfl rfl hm dX10_refuseBad_7 (fun S1 H locs hm hP hD hS => ?_)
  refine lv_bipush (v := (-2 : Int32)) hx hb dX10_refuseBad_10 (by decide) ?_
  exact x_iretW (wf := (fun u => WC cs ad u)) hx hb hr hlk hK hP hD hS hm dX10_refuseBad_12
noncomputable def mX10_book (S : CT) (a1 : Int32) : Option (Int32 × CT) := (mX10_within a1 (nI 0) (nI 255)).bind fun r1 => (if r1 = 0 then (mX10_refuseBad S).bind fun ⟨r5, S4⟩ => some (r5, S4) else (mX3_begin (S.1 0) a1).bind fun u3 => nm (cM S 0 u3) fun S2 => some ((((S.1 0).1 0).1), S2))
set_option maxHeartbeats 4000000 in
set_option maxRecDepth 100000 in
theorem tcX10_book (l : Launch) (D : va_G) (cs : CS) (ad : Nat → Nat) (sz : Nat) (S : CT) (a1 : Int32) (z : Int32 × CT) (hm : mX10_book S a1 = some z) : Met l yX10_book (Cond.code yX10_book cX10_book 3 (some .int) :: gw_tbl) ({ frames := 3, cells := 0, slots := 0, locals := 61 }) (PcW D cs sz (WC cs ad S) [.ref (ad 0), .int a1]) (QWi D cs (va_A (WC cs ad S) sz) (fun u => WC cs ad u) z) 0 0 (va_A (WC cs ad S) sz) := by
  refine met_W rfl (Nat.le_of_ble_eq_true rfl) (fun p e s m below meth c E hP hD hS hA ls hl => ?_)
  generalize va_A (WC cs ad S) sz = A at hD hS hA ⊢
  obtain ⟨hx, hb, hr, hml, hown, hlk, hT, hN, hK⟩ := id E
  obtain ⟨H, hH⟩ : ∃ H, H = s.heap := ⟨_, rfl⟩
  obtain ⟨locs, hlo⟩ : ∃ L : List Loc, L = [] := ⟨_, rfl⟩
  have hP : va_P D classes (WC cs ad S) H := by rw [hH]; exact hP
  have hS : va_S A s.heap H locs := by rw [hH, hlo]; exact hS
  rw [show W p l e _ s m _ below meth c s.heap [] 0 0 = W p l e _ s m _ below meth c H locs 0 0 by rw [hH, hlo]]
  have hl : lv_has ls 3 [(0, .ref (ad 0)), (1, .int a1)] := hl
  unfold mX10_book at hm
  refine lv_iload_n hx hb dX10_book_0 rfl (lv_at hl 1 rfl) ?_
  refine lv_iconst (v := (nI 0)) hx hb dX10_book_1 (by decide) ?_
  refine lv_sipush (v := (nI 255)) hx hb dX10_book_2 (by decide) ?_
  refine xS_i (As := [.int a1, .int (nI 0), .int (nI 255)]) (rest := []) hx hb hml hown hT hN hK (hP.sub (ws' := []) [] rfl) cw_X10_66 hm (fun z h => tcX10_within l D cs a1 (nI 0) (nI 255) z h) ⟨rfl, rfl⟩ ⟨by decide, by decide⟩ hl.1 rfl rfl (Nat.le_of_ble_eq_true rfl) dX10_book_5 ⟨Nat.zero_le _, Nat.zero_le _⟩ (fun r1 hm => ?_)
  refine x_if_ne (tgt := 16) hx hb dX10_book_8 (by decide) hm (fun hm => ?_) (fun hm => ?_)
  · refine lv_aload_n hx hb dX10_book_16 rfl (lv_at hl 0 rfl) ?_
    refine gf_X10_30 (v := .ref (ad 10)) hx hb hT hown hK hP 0 rfl rfl dX10_book_17 ?_
    refine gf_X10_74 (v := .ref (ad 12)) hx hb hT hown hK hP 8 rfl rfl dX10_book_20 ?_
    refine gf_X10_78 (v := .int (((S.1 0).1 0).1)) hx hb hT hown hK hP 10 rfl rfl dX10_book_23 ?_
    refine lv_istore_n (lv' := [(2, .int (((S.1 0).1 0).1)), (0, .ref (ad 0)), (1, .int a1)]) hx hb dX10_book_26 rfl hl (by decide) rfl (fun ls hl => ?_)
    refine lv_aload_n hx hb dX10_book_27 rfl (lv_at hl 1 rfl) ?_
    refine gf_X10_30 (v := .ref (ad 10)) hx hb hT hown hK hP 0 rfl rfl dX10_book_28 ?_
    refine lv_iload_n hx hb dX10_book_31 rfl (lv_at hl 2 rfl) ?_
    refine xVW_v (As := [.int a1]) (rest := []) (wr := [((ad 0), .inr (10, [.ref (ad 10), .ref (ad 30), .ref (ad 50), .ref (ad 70), .ref (ad 90), .ref (ad 95), .int (S.2.2.2.1 6), .int (S.2.2.2.1 7), .long (S.2.2.2.2 8), .long (S.2.2.2.2 9), .int (S.2.2.2.1 10), .int (S.2.2.2.1 11), .int (S.2.2.2.1 12)])), ((ad 30), .inr (3, [.ref (ad 1), .ref (ad 31), .ref (ad 32), .ref (ad 34), .ref (ad 36), .ref (ad 38), .ref (ad 40), .int ((S.1 1).2 7), .int ((S.1 1).2 8), .int ((S.1 1).2 9), .int ((S.1 1).2 10)])), ((ad 31), .inr (6, [])), ((ad 32), .inr (7, [.int (nI 6), .int (nI 4), .ref (ad 33), .int (((S.1 1).1 0).1)])), ((ad 33), .inl (cs 0, 24, .inl (((S.1 1).1 0).2))), ((ad 34), .inr (7, [.int (nI 4), .int (nI 2), .ref (ad 35), .int (((S.1 1).1 1).1)])), ((ad 35), .inl (cs 0, 8, .inl (((S.1 1).1 1).2))), ((ad 36), .inr (7, [.int (nI 6), .int (nI 3), .ref (ad 37), .int (((S.1 1).1 2).1)])), ((ad 37), .inl (cs 0, 18, .inl (((S.1 1).1 2).2))), ((ad 38), .inr (7, [.int (nI 6), .int (nI 2), .ref (ad 39), .int (((S.1 1).1 3).1)])), ((ad 39), .inl (cs 0, 12, .inl (((S.1 1).1 3).2))), ((ad 40), .inr (7, [.int (nI 8), .int (nI 3), .ref (ad 41), .int (((S.1 1).1 4).1)])), ((ad 41), .inl (cs 0, 24, .inl (((S.1 1).1 4).2))), ((ad 50), .inr (3, [.ref (ad 1), .ref (ad 51), .ref (ad 52), .ref (ad 54), .ref (ad 56), .ref (ad 58), .ref (ad 60), .int ((S.1 2).2 7), .int ((S.1 2).2 8), .int ((S.1 2).2 9), .int ((S.1 2).2 10)])), ((ad 51), .inr (6, [])), ((ad 52), .inr (7, [.int (nI 6), .int (nI 4), .ref (ad 53), .int (((S.1 2).1 0).1)])), ((ad 53), .inl (cs 0, 24, .inl (((S.1 2).1 0).2))), ((ad 54), .inr (7, [.int (nI 4), .int (nI 2), .ref (ad 55), .int (((S.1 2).1 1).1)])), ((ad 55), .inl (cs 0, 8, .inl (((S.1 2).1 1).2))), ((ad 56), .inr (7, [.int (nI 6), .int (nI 3), .ref (ad 57), .int (((S.1 2).1 2).1)])), ((ad 57), .inl (cs 0, 18, .inl (((S.1 2).1 2).2))), ((ad 58), .inr (7, [.int (nI 6), .int (nI 2), .ref (ad 59), .int (((S.1 2).1 3).1)])), ((ad 59), .inl (cs 0, 12, .inl (((S.1 2).1 3).2))), ((ad 60), .inr (7, [.int (nI 8), .int (nI 3), .ref (ad 61), .int (((S.1 2).1 4).1)])), ((ad 61), .inl (cs 0, 24, .inl (((S.1 2).1 4).2))), ((ad 70), .inr (3, [.ref (ad 1), .ref (ad 71), .ref (ad 72), .ref (ad 74), .ref (ad 76), .ref (ad 78), .ref (ad 80), .int ((S.1 3).2 7), .int ((S.1 3).2 8), .int ((S.1 3).2 9), .int ((S.1 3).2 10)])), ((ad 71), .inr (6, [])), ((ad 72), .inr (7, [.int (nI 6), .int (nI 4), .ref (ad 73), .int (((S.1 3).1 0).1)])), ((ad 73), .inl (cs 0, 24, .inl (((S.1 3).1 0).2))), ((ad 74), .inr (7, [.int (nI 4), .int (nI 2), .ref (ad 75), .int (((S.1 3).1 1).1)])), ((ad 75), .inl (cs 0, 8, .inl (((S.1 3).1 1).2))), ((ad 76), .inr (7, [.int (nI 6), .int (nI 3), .ref (ad 77), .int (((S.1 3).1 2).1)])), ((ad 77), .inl (cs 0, 18, .inl (((S.1 3).1 2).2))), ((ad 78), .inr (7, [.int (nI 6), .int (nI 2), .ref (ad 79), .int (((S.1 3).1 3).1)])), ((ad 79), .inl (cs 0, 12, .inl (((S.1 3).1 3).2))), ((ad 80), .inr (7, [.int (nI 8), .int (nI 3), .ref (ad 81), .int (((S.1 3).1 4).1)])), ((ad 81), .inl (cs 0, 24, .inl (((S.1 3).1 4).2))), ((ad 90), .inr (0, [.ref (ad 91), .int ((S.2.1).2 1), .int ((S.2.1).2 2), .int ((S.2.1).2 3), .int ((S.2.1).2 4), .int ((S.2.1).2 5), .int ((S.2.1).2 6), .int ((S.2.1).2 7), .int ((S.2.1).2 8), .int ((S.2.1).2 9), .int ((S.2.1).2 10), .int ((S.2.1).2 11)])), ((ad 91), .inl (cs 0, 150, .inl ((S.2.1).1))), ((ad 95), .inr (4, [.ref (ad 96), .ref (ad 97)])), ((ad 96), .inl (cs 0, 64, .inl ((S.2.2.1).1))), ((ad 97), .inl (cs 0, 64, .inl ((S.2.2.1).2)))]) (wg := fun u3 => WC cs ad (cM S 0 u3)) hx hb hml hown hT hN hK hP hD hS hA cw_X10_84 hm (fun z h => tcX3_begin l D cs ad 10 H.size (S.1 0) a1 z h) ⟨rfl, rfl⟩ ⟨by decide, by decide⟩ [8, 9, 10, 11, 12, 13, 14, 15, 16, 17, 18, 19, 1, 2, 3, 4, 5, 6, 7] [0, 20, 21, 22, 23, 24, 25, 26, 27, 28, 29, 30, 31, 32, 33, 34, 35, 36, 37, 38, 39, 40, 41, 42, 43, 44, 45, 46, 47, 48, 49, 50, 51, 52, 53, 54, 55, 56, 57, 58, 59, 60] [0, 54, 55, 56, 57, 58, 59, 60, 42, 43, 44, 45, 46, 47, 48, 49, 50, 51, 52, 53, 1, 2, 3, 4, 5, 6, 7, 8, 9, 10, 11, 12, 13, 14, 15, 16, 17, 18, 19, 20, 21, 22, 23, 24, 25, 26, 27, 28, 29, 30, 31, 32, 33, 34, 35, 36, 37, 38, 39, 40, 41] rfl (by decide) rfl (by decide) (by decide) (fun _ => rfl) (by decide) (b := (ad 10)) 0 rfl rfl rfl hl.1 rfl rfl (Nat.le_of_ble_eq_true rfl) dX10_book_32 ⟨Nat.zero_le _, Nat.zero_le _⟩ (fun u3 H locs hm hP hD hS => ?_)
    obtain ⟨S2, hm, eS2⟩ := nm_ex hm
    rw [← eS2] at hP hD
    refine lv_iload_n hx hb dX10_book_35 rfl (lv_at hl 0 rfl) ?_
    exact x_iretW (wf := (fun u => WC cs ad u)) hx hb hr hlk hK hP hD hS hm dX10_book_36
  · refine lv_aload_n hx hb dX10_book_11 rfl (lv_at hl 0 rfl) ?_
    refine xVW_i (As := []) (rest := []) (wr := []) (wg := (fun u => WC cs ad u)) hx hb hml hown hT hN hK hP hD hS hA cw_X10_70 hm (fun z h => tcX10_refuseBad l D cs ad H.size S z h) ⟨rfl, rfl⟩ ⟨by decide, by decide⟩ [0, 1, 2, 3, 4, 5, 6, 7, 8, 9, 10, 11, 12, 13, 14, 15, 16, 17, 18, 19, 20, 21, 22, 23, 24, 25, 26, 27, 28, 29, 30, 31, 32, 33, 34, 35, 36, 37, 38, 39, 40, 41, 42, 43, 44, 45, 46, 47, 48, 49, 50, 51, 52, 53, 54, 55, 56, 57, 58, 59, 60] [] [0, 1, 2, 3, 4, 5, 6, 7, 8, 9, 10, 11, 12, 13, 14, 15, 16, 17, 18, 19, 20, 21, 22, 23, 24, 25, 26, 27, 28, 29, 30, 31, 32, 33, 34, 35, 36, 37, 38, 39, 40, 41, 42, 43, 44, 45, 46, 47, 48, 49, 50, 51, 52, 53, 54, 55, 56, 57, 58, 59, 60] rfl (by decide) rfl (by decide) (by decide) (fun _ => rfl) (by decide) (b := (ad 0)) 0 rfl rfl rfl hl.1 rfl rfl (Nat.le_of_ble_eq_true rfl) dX10_book_12 ⟨Nat.zero_le _, Nat.zero_le _⟩ (fun r5 S4 H locs hm hP hD hS => ?_)
    exact x_iretW (wf := (fun u => WC cs ad u)) hx hb hr hlk hK hP hD hS hm dX10_book_15
noncomputable def mX10_fees_L21  : Nat → Int32 → Int32 → Int32 → Int32 → CT → Option (Int32 × CT) := fun n => Nat.rec (motive := fun _ => Int32 → Int32 → Int32 → Int32 → CT → Option (Int32 × CT)) (fun _ _ _ _ _ => none) (fun _ rc => fun y1 y2 y3 y4 S => (if (((S.1 0).1 1).1) ≤ y4 then (if y1 = 0 then some (y2, S) else some (y3, S)) else (mX4_measure (S.1 0) (S.2.2.1) y4 (nI 1)).bind fun ⟨r4, u3⟩ => nm (cP S u3) fun S2 => (mX7_cell (nI 4) (nI 2) 8 ((S2.1 0).1 1) y4 (nI 1)).bind fun r5 => nm (r4 + r5) fun x6 => (if r4 = (-1 : Int32) then nm (y4 + (nI 1)) fun x7 => rc y1 y2 y3 x7 S2 else (if y2 = (-1 : Int32) then nm (y4 + (nI 1)) fun x8 => rc y1 y4 x6 x8 S2 else (if y3 ≤ x6 then nm (y4 + (nI 1)) fun x9 => rc y1 y2 y3 x9 S2 else nm (y4 + (nI 1)) fun x10 => rc y1 y4 x6 x10 S2))))) n
theorem mX10_fees_L21_s  (n : Nat) (y1 : Int32) (y2 : Int32) (y3 : Int32) (y4 : Int32) (S : CT) : mX10_fees_L21  (n + 1) y1 y2 y3 y4 S = (if (((S.1 0).1 1).1) ≤ y4 then (if y1 = 0 then some (y2, S) else some (y3, S)) else (mX4_measure (S.1 0) (S.2.2.1) y4 (nI 1)).bind fun ⟨r4, u3⟩ => nm (cP S u3) fun S2 => (mX7_cell (nI 4) (nI 2) 8 ((S2.1 0).1 1) y4 (nI 1)).bind fun r5 => nm (r4 + r5) fun x6 => (if r4 = (-1 : Int32) then nm (y4 + (nI 1)) fun x7 => (mX10_fees_L21  n) y1 y2 y3 x7 S2 else (if y2 = (-1 : Int32) then nm (y4 + (nI 1)) fun x8 => (mX10_fees_L21  n) y1 y4 x6 x8 S2 else (if y3 ≤ x6 then nm (y4 + (nI 1)) fun x9 => (mX10_fees_L21  n) y1 y2 y3 x9 S2 else nm (y4 + (nI 1)) fun x10 => (mX10_fees_L21  n) y1 y4 x6 x10 S2)))) := rfl
noncomputable def mX10_fees (S : CT) (a1 : Int32) : Option (Int32 × CT) := (mX10_within a1 (nI 0) (nI 1)).bind fun r1 => (if r1 = 0 then (mX10_refuseBad S).bind fun ⟨r12, S11⟩ => some (r12, S11) else mX10_fees_L21 FU a1 (-1 : Int32) (-1 : Int32) (nI 0) S)
set_option maxHeartbeats 4000000 in
set_option maxRecDepth 100000 in
theorem kX10_fees_L21 {p : Program} {l : Launch} {e : Env} {s : State} {m : MethodId} {below : List Frame} {meth : Method} {c : Code} {D : va_G} {cs : CS} {A : Nat → Prop}  {ad : Nat → Nat} {a1 : Int32} (E : EV p s m [.ref (ad 0), .int a1].toArray meth c cX10_fees 7 RX10 (some .int) D cs) (hA : ∀ q : Nat, s.heap.size ≤ q → A q) (z : Int32 × CT) : ∀ (n : Nat) (y1 : Int32) (y2 : Int32) (y3 : Int32) (y4 : Int32) (S : CT), mX10_fees_L21  n y1 y2 y3 y4 S = some z → ∀ (H : Heap) (locs : List Loc), va_P D classes (WC cs ad S) H → va_D A (WC cs ad S) → va_S A s.heap H locs → ∀ ls : Array Slot, lv_has ls 7 [(0, .ref (ad 0)), (1, .int y1), (2, .int y2), (3, .int y3), (4, .int y4)] → W p l e ({ frames := 6, cells := 0, slots := 0, locals := 144 }) s m [.ref (ad 0), .int a1].toArray below meth c H locs 0 0 (MQ below (QWi D cs A (fun u => WC cs ad u) z) [.ref (ad 0), .int a1].toArray s 0 0 A) (F0 m 21 ls []) := by
  obtain ⟨hx, hb, hr, hml, hown, hlk, hT, hN, hK⟩ := id E
  intro n
  induction n with
  | zero =>
    intro y1 y2 y3 y4 S hm
    exact nomatch (show (none : Option (Int32 × CT)) = some z from hm)
  | succ n ih =>
    intro y1 y2 y3 y4 S hm H locs hP hD hS ls hl
    rw [mX10_fees_L21_s] at hm
    refine lv_iload hx hb dX10_fees_21 (lv_at hl 4 rfl) ?_
    refine lv_aload_n hx hb dX10_fees_23 rfl (lv_at hl 0 rfl) ?_
    refine gf_X10_30 (v := .ref (ad 10)) hx hb hT hown hK hP 0 rfl rfl dX10_fees_24 ?_
    refine gf_X10_105 (v := .ref (ad 14)) hx hb hT hown hK hP 8 rfl rfl dX10_fees_27 ?_
    refine gf_X10_78 (v := .int (((S.1 0).1 1).1)) hx hb hT hown hK hP 12 rfl rfl dX10_fees_30 ?_
    refine x_icmp_ge (tgt := 99) hx hb dX10_fees_33 (by decide) hm (fun hm => ?_) (fun hm => ?_)
    · refine lv_iload_n hx hb dX10_fees_99 rfl (lv_at hl 1 rfl) ?_
      refine x_if_ne (tgt := 107) hx hb dX10_fees_100 (by decide) hm (fun hm => ?_) (fun hm => ?_)
      · refine lv_iload_n hx hb dX10_fees_107 rfl (lv_at hl 3 rfl) ?_
        exact x_iretW (wf := (fun u => WC cs ad u)) hx hb hr hlk hK hP hD hS hm dX10_fees_108
      · refine lv_iload_n hx hb dX10_fees_103 rfl (lv_at hl 2 rfl) ?_
        refine lv_goto (tgt := 108) hx hb dX10_fees_104 (by decide) ?_
        exact x_iretW (wf := (fun u => WC cs ad u)) hx hb hr hlk hK hP hD hS hm dX10_fees_108
    · refine lv_aload_n hx hb dX10_fees_36 rfl (lv_at hl 0 rfl) ?_
      refine gf_X10_55 (v := .ref (ad 95)) hx hb hT hown hK hP 0 rfl rfl dX10_fees_37 ?_
      refine lv_aload_n hx hb dX10_fees_40 rfl (lv_at hl 0 rfl) ?_
      refine gf_X10_30 (v := .ref (ad 10)) hx hb hT hown hK hP 0 rfl rfl dX10_fees_41 ?_
      refine lv_iload hx hb dX10_fees_44 (lv_at hl 4 rfl) ?_
      refine lv_iconst (v := (nI 1)) hx hb dX10_fees_46 (by decide) ?_
      refine xVW_i (As := [.ref (ad 10), .int y4, .int (nI 1)]) (rest := []) (wr := [((ad 0), .inr (10, [.ref (ad 10), .ref (ad 30), .ref (ad 50), .ref (ad 70), .ref (ad 90), .ref (ad 95), .int (S.2.2.2.1 6), .int (S.2.2.2.1 7), .long (S.2.2.2.2 8), .long (S.2.2.2.2 9), .int (S.2.2.2.1 10), .int (S.2.2.2.1 11), .int (S.2.2.2.1 12)])), ((ad 30), .inr (3, [.ref (ad 1), .ref (ad 31), .ref (ad 32), .ref (ad 34), .ref (ad 36), .ref (ad 38), .ref (ad 40), .int ((S.1 1).2 7), .int ((S.1 1).2 8), .int ((S.1 1).2 9), .int ((S.1 1).2 10)])), ((ad 31), .inr (6, [])), ((ad 32), .inr (7, [.int (nI 6), .int (nI 4), .ref (ad 33), .int (((S.1 1).1 0).1)])), ((ad 33), .inl (cs 0, 24, .inl (((S.1 1).1 0).2))), ((ad 34), .inr (7, [.int (nI 4), .int (nI 2), .ref (ad 35), .int (((S.1 1).1 1).1)])), ((ad 35), .inl (cs 0, 8, .inl (((S.1 1).1 1).2))), ((ad 36), .inr (7, [.int (nI 6), .int (nI 3), .ref (ad 37), .int (((S.1 1).1 2).1)])), ((ad 37), .inl (cs 0, 18, .inl (((S.1 1).1 2).2))), ((ad 38), .inr (7, [.int (nI 6), .int (nI 2), .ref (ad 39), .int (((S.1 1).1 3).1)])), ((ad 39), .inl (cs 0, 12, .inl (((S.1 1).1 3).2))), ((ad 40), .inr (7, [.int (nI 8), .int (nI 3), .ref (ad 41), .int (((S.1 1).1 4).1)])), ((ad 41), .inl (cs 0, 24, .inl (((S.1 1).1 4).2))), ((ad 50), .inr (3, [.ref (ad 1), .ref (ad 51), .ref (ad 52), .ref (ad 54), .ref (ad 56), .ref (ad 58), .ref (ad 60), .int ((S.1 2).2 7), .int ((S.1 2).2 8), .int ((S.1 2).2 9), .int ((S.1 2).2 10)])), ((ad 51), .inr (6, [])), ((ad 52), .inr (7, [.int (nI 6), .int (nI 4), .ref (ad 53), .int (((S.1 2).1 0).1)])), ((ad 53), .inl (cs 0, 24, .inl (((S.1 2).1 0).2))), ((ad 54), .inr (7, [.int (nI 4), .int (nI 2), .ref (ad 55), .int (((S.1 2).1 1).1)])), ((ad 55), .inl (cs 0, 8, .inl (((S.1 2).1 1).2))), ((ad 56), .inr (7, [.int (nI 6), .int (nI 3), .ref (ad 57), .int (((S.1 2).1 2).1)])), ((ad 57), .inl (cs 0, 18, .inl (((S.1 2).1 2).2))), ((ad 58), .inr (7, [.int (nI 6), .int (nI 2), .ref (ad 59), .int (((S.1 2).1 3).1)])), ((ad 59), .inl (cs 0, 12, .inl (((S.1 2).1 3).2))), ((ad 60), .inr (7, [.int (nI 8), .int (nI 3), .ref (ad 61), .int (((S.1 2).1 4).1)])), ((ad 61), .inl (cs 0, 24, .inl (((S.1 2).1 4).2))), ((ad 70), .inr (3, [.ref (ad 1), .ref (ad 71), .ref (ad 72), .ref (ad 74), .ref (ad 76), .ref (ad 78), .ref (ad 80), .int ((S.1 3).2 7), .int ((S.1 3).2 8), .int ((S.1 3).2 9), .int ((S.1 3).2 10)])), ((ad 71), .inr (6, [])), ((ad 72), .inr (7, [.int (nI 6), .int (nI 4), .ref (ad 73), .int (((S.1 3).1 0).1)])), ((ad 73), .inl (cs 0, 24, .inl (((S.1 3).1 0).2))), ((ad 74), .inr (7, [.int (nI 4), .int (nI 2), .ref (ad 75), .int (((S.1 3).1 1).1)])), ((ad 75), .inl (cs 0, 8, .inl (((S.1 3).1 1).2))), ((ad 76), .inr (7, [.int (nI 6), .int (nI 3), .ref (ad 77), .int (((S.1 3).1 2).1)])), ((ad 77), .inl (cs 0, 18, .inl (((S.1 3).1 2).2))), ((ad 78), .inr (7, [.int (nI 6), .int (nI 2), .ref (ad 79), .int (((S.1 3).1 3).1)])), ((ad 79), .inl (cs 0, 12, .inl (((S.1 3).1 3).2))), ((ad 80), .inr (7, [.int (nI 8), .int (nI 3), .ref (ad 81), .int (((S.1 3).1 4).1)])), ((ad 81), .inl (cs 0, 24, .inl (((S.1 3).1 4).2))), ((ad 90), .inr (0, [.ref (ad 91), .int ((S.2.1).2 1), .int ((S.2.1).2 2), .int ((S.2.1).2 3), .int ((S.2.1).2 4), .int ((S.2.1).2 5), .int ((S.2.1).2 6), .int ((S.2.1).2 7), .int ((S.2.1).2 8), .int ((S.2.1).2 9), .int ((S.2.1).2 10), .int ((S.2.1).2 11)])), ((ad 91), .inl (cs 0, 150, .inl ((S.2.1).1)))]) (wg := fun u3 => WC cs ad (cP S u3)) hx hb hml hown hT hN hK hP hD hS hA cw_X10_181 hm (fun z h => tcX4_measure l D cs ad 10 (S.1 0) H.size (S.2.2.1) y4 (nI 1) z h) ⟨rfl, rfl⟩ ⟨by decide, by decide⟩ [58, 59, 60, 8, 9, 10, 11, 12, 13, 14, 15, 16, 17, 18, 19, 1, 2, 3, 4, 5, 6, 7] [0, 20, 21, 22, 23, 24, 25, 26, 27, 28, 29, 30, 31, 32, 33, 34, 35, 36, 37, 38, 39, 40, 41, 42, 43, 44, 45, 46, 47, 48, 49, 50, 51, 52, 53, 54, 55, 56, 57] [0, 54, 55, 56, 57, 58, 59, 60, 42, 43, 44, 45, 46, 47, 48, 49, 50, 51, 52, 53, 1, 2, 3, 4, 5, 6, 7, 8, 9, 10, 11, 12, 13, 14, 15, 16, 17, 18, 19, 20, 21, 22, 23, 24, 25, 26, 27, 28, 29, 30, 31, 32, 33, 34, 35, 36, 37, 38, 39, 40, 41] rfl (by decide) rfl (by decide) (by decide) (fun _ => rfl) (by decide) (b := (ad 95)) 0 rfl rfl rfl hl.1 rfl rfl (Nat.le_of_ble_eq_true rfl) dX10_fees_47 ⟨Nat.zero_le _, Nat.zero_le _⟩ (fun r4 u3 H locs hm hP hD hS => ?_)
      obtain ⟨S2, hm, eS2⟩ := nm_ex hm
      rw [← eS2] at hP hD
      refine lv_istore (lv' := [(5, .int r4), (0, .ref (ad 0)), (1, .int y1), (2, .int y2), (3, .int y3), (4, .int y4)]) hx hb dX10_fees_50 hl (by decide) rfl (fun ls hl => ?_)
      refine lv_iload hx hb dX10_fees_52 (lv_at hl 0 rfl) ?_
      refine lv_aload_n hx hb dX10_fees_54 rfl (lv_at hl 1 rfl) ?_
      refine gf_X10_30 (v := .ref (ad 10)) hx hb hT hown hK hP 0 rfl rfl dX10_fees_55 ?_
      refine gf_X10_105 (v := .ref (ad 14)) hx hb hT hown hK hP 8 rfl rfl dX10_fees_58 ?_
      refine lv_iload hx hb dX10_fees_61 (lv_at hl 5 rfl) ?_
      refine lv_iconst (v := (nI 1)) hx hb dX10_fees_63 (by decide) ?_
      refine xV_i (As := [.int y4, .int (nI 1)]) (rest := [.int r4]) hx hb hml hown hT hN hK (hP.sub (ws' := WR cs ad 14 (nI 4) (nI 2) 8 ((S2.1 0).1 1)) [12, 13] rfl) cw_X10_166 hm (fun z h => tcX7_cell l D cs ad 14 (nI 4) (nI 2) 8 ((S2.1 0).1 1) y4 (nI 1) z h) ⟨rfl, rfl⟩ ⟨by decide, by decide⟩ (b := (ad 14)) 0 rfl rfl rfl hl.1 rfl rfl (Nat.le_of_ble_eq_true rfl) dX10_fees_64 ⟨Nat.zero_le _, Nat.zero_le _⟩ (fun r5 hm => ?_)
      refine lv_iadd hx hb dX10_fees_67 ?_
      refine xi_nm hm (fun x6 hm => ?_)
      refine lv_istore (lv' := [(6, .int x6), (5, .int r4), (0, .ref (ad 0)), (1, .int y1), (2, .int y2), (3, .int y3), (4, .int y4)]) hx hb dX10_fees_68 hl (by decide) rfl (fun ls hl => ?_)
      refine lv_iload hx hb dX10_fees_70 (lv_at hl 1 rfl) ?_
      refine lv_iconst (v := (-1 : Int32)) hx hb dX10_fees_72 (by decide) ?_
      refine x_icmp_eq (tgt := 93) hx hb dX10_fees_73 (by decide) hm (fun hm => ?_) (fun hm => ?_)
      · refine x_iinc (lv' := fun x7 => [(4, .int x7), (6, .int x6), (5, .int r4), (0, .ref (ad 0)), (1, .int y1), (2, .int y2), (3, .int y3)]) hx hb dX10_fees_93 hl (k := 6) rfl (by decide) (v0 := (nI 1)) (by decide) (fun _ => rfl) hm (fun x7 ls hm hl => ?_)
        refine lv_goto (tgt := 21) hx hb dX10_fees_96 (by decide) ?_
        exact ih y1 y2 y3 x7 S2 hm H locs hP hD hS ls (lv_sub hl [3, 4, 5, 6, 0] rfl)
      · refine lv_iload_n hx hb dX10_fees_76 rfl (lv_at hl 4 rfl) ?_
        refine lv_iconst (v := (-1 : Int32)) hx hb dX10_fees_77 (by decide) ?_
        refine x_icmp_eq (tgt := 87) hx hb dX10_fees_78 (by decide) hm (fun hm => ?_) (fun hm => ?_)
        · refine lv_iload hx hb dX10_fees_87 (lv_at hl 6 rfl) ?_
          refine lv_istore_n (lv' := [(2, .int y4), (6, .int x6), (5, .int r4), (0, .ref (ad 0)), (1, .int y1), (3, .int y3), (4, .int y4)]) hx hb dX10_fees_89 rfl hl (by decide) rfl (fun ls hl => ?_)
          refine lv_iload hx hb dX10_fees_90 (lv_at hl 1 rfl) ?_
          refine lv_istore_n (lv' := [(3, .int x6), (2, .int y4), (6, .int x6), (5, .int r4), (0, .ref (ad 0)), (1, .int y1), (4, .int y4)]) hx hb dX10_fees_92 rfl hl (by decide) rfl (fun ls hl => ?_)
          refine x_iinc (lv' := fun x8 => [(4, .int x8), (3, .int x6), (2, .int y4), (6, .int x6), (5, .int r4), (0, .ref (ad 0)), (1, .int y1)]) hx hb dX10_fees_93 hl (k := 6) rfl (by decide) (v0 := (nI 1)) (by decide) (fun _ => rfl) hm (fun x8 ls hm hl => ?_)
          refine lv_goto (tgt := 21) hx hb dX10_fees_96 (by decide) ?_
          exact ih y1 y4 x6 x8 S2 hm H locs hP hD hS ls (lv_sub hl [5, 6, 2, 1, 0] rfl)
        · refine lv_iload hx hb dX10_fees_81 (lv_at hl 0 rfl) ?_
          refine lv_iload_n hx hb dX10_fees_83 rfl (lv_at hl 5 rfl) ?_
          refine x_icmp_ge (tgt := 93) hx hb dX10_fees_84 (by decide) hm (fun hm => ?_) (fun hm => ?_)
          · refine x_iinc (lv' := fun x9 => [(4, .int x9), (6, .int x6), (5, .int r4), (0, .ref (ad 0)), (1, .int y1), (2, .int y2), (3, .int y3)]) hx hb dX10_fees_93 hl (k := 6) rfl (by decide) (v0 := (nI 1)) (by decide) (fun _ => rfl) hm (fun x9 ls hm hl => ?_)
            refine lv_goto (tgt := 21) hx hb dX10_fees_96 (by decide) ?_
            exact ih y1 y2 y3 x9 S2 hm H locs hP hD hS ls (lv_sub hl [3, 4, 5, 6, 0] rfl)
          · refine lv_iload hx hb dX10_fees_87 (lv_at hl 6 rfl) ?_
            refine lv_istore_n (lv' := [(2, .int y4), (6, .int x6), (5, .int r4), (0, .ref (ad 0)), (1, .int y1), (3, .int y3), (4, .int y4)]) hx hb dX10_fees_89 rfl hl (by decide) rfl (fun ls hl => ?_)
            refine lv_iload hx hb dX10_fees_90 (lv_at hl 1 rfl) ?_
            refine lv_istore_n (lv' := [(3, .int x6), (2, .int y4), (6, .int x6), (5, .int r4), (0, .ref (ad 0)), (1, .int y1), (4, .int y4)]) hx hb dX10_fees_92 rfl hl (by decide) rfl (fun ls hl => ?_)
            refine x_iinc (lv' := fun x10 => [(4, .int x10), (3, .int x6), (2, .int y4), (6, .int x6), (5, .int r4), (0, .ref (ad 0)), (1, .int y1)]) hx hb dX10_fees_93 hl (k := 6) rfl (by decide) (v0 := (nI 1)) (by decide) (fun _ => rfl) hm (fun x10 ls hm hl => ?_)
            refine lv_goto (tgt := 21) hx hb dX10_fees_96 (by decide) ?_
            exact ih y1 y4 x6 x10 S2 hm H locs hP hD hS ls (lv_sub hl [5, 6, 2, 1, 0] rfl)
set_option maxHeartbeats 4000000 in
set_option maxRecDepth 100000 in
theorem tcX10_fees (l : Launch) (D : va_G) (cs : CS) (ad : Nat → Nat) (sz : Nat) (S : CT) (a1 : Int32) (z : Int32 × CT) (hm : mX10_fees S a1 = some z) : Met l yX10_fees (Cond.code yX10_fees cX10_fees 7 (some .int) :: gw_tbl) ({ frames := 6, cells := 0, slots := 0, locals := 144 }) (PcW D cs sz (WC cs ad S) [.ref (ad 0), .int a1]) (QWi D cs (va_A (WC cs ad S) sz) (fun u => WC cs ad u) z) 0 0 (va_A (WC cs ad S) sz) := by
  refine met_W rfl (Nat.le_of_ble_eq_true rfl) (fun p e s m below meth c E hP hD hS hA ls hl => ?_)
  generalize va_A (WC cs ad S) sz = A at hD hS hA ⊢
  obtain ⟨hx, hb, hr, hml, hown, hlk, hT, hN, hK⟩ := id E
  obtain ⟨H, hH⟩ : ∃ H, H = s.heap := ⟨_, rfl⟩
  obtain ⟨locs, hlo⟩ : ∃ L : List Loc, L = [] := ⟨_, rfl⟩
  have hP : va_P D classes (WC cs ad S) H := by rw [hH]; exact hP
  have hS : va_S A s.heap H locs := by rw [hH, hlo]; exact hS
  rw [show W p l e _ s m _ below meth c s.heap [] 0 0 = W p l e _ s m _ below meth c H locs 0 0 by rw [hH, hlo]]
  have hl : lv_has ls 7 [(0, .ref (ad 0)), (1, .int a1)] := hl
  unfold mX10_fees at hm
  refine lv_iload_n hx hb dX10_fees_0 rfl (lv_at hl 1 rfl) ?_
  refine lv_iconst (v := (nI 0)) hx hb dX10_fees_1 (by decide) ?_
  refine lv_iconst (v := (nI 1)) hx hb dX10_fees_2 (by decide) ?_
  refine xS_i (As := [.int a1, .int (nI 0), .int (nI 1)]) (rest := []) hx hb hml hown hT hN hK (hP.sub (ws' := []) [] rfl) cw_X10_66 hm (fun z h => tcX10_within l D cs a1 (nI 0) (nI 1) z h) ⟨rfl, rfl⟩ ⟨by decide, by decide⟩ hl.1 rfl rfl (Nat.le_of_ble_eq_true rfl) dX10_fees_3 ⟨Nat.zero_le _, Nat.zero_le _⟩ (fun r1 hm => ?_)
  refine x_if_ne (tgt := 14) hx hb dX10_fees_6 (by decide) hm (fun hm => ?_) (fun hm => ?_)
  · refine lv_iconst (v := (-1 : Int32)) hx hb dX10_fees_14 (by decide) ?_
    refine lv_istore_n (lv' := [(2, .int (-1 : Int32)), (0, .ref (ad 0)), (1, .int a1)]) hx hb dX10_fees_15 rfl hl (by decide) rfl (fun ls hl => ?_)
    refine lv_iconst (v := (-1 : Int32)) hx hb dX10_fees_16 (by decide) ?_
    refine lv_istore_n (lv' := [(3, .int (-1 : Int32)), (2, .int (-1 : Int32)), (0, .ref (ad 0)), (1, .int a1)]) hx hb dX10_fees_17 rfl hl (by decide) rfl (fun ls hl => ?_)
    refine lv_iconst (v := (nI 0)) hx hb dX10_fees_18 (by decide) ?_
    refine lv_istore (lv' := [(4, .int (nI 0)), (3, .int (-1 : Int32)), (2, .int (-1 : Int32)), (0, .ref (ad 0)), (1, .int a1)]) hx hb dX10_fees_19 hl (by decide) rfl (fun ls hl => ?_)
    exact kX10_fees_L21 E hA _ FU a1 (-1 : Int32) (-1 : Int32) (nI 0) S hm H locs hP hD hS ls (lv_sub hl [3, 4, 2, 1, 0] rfl)
  · refine lv_aload_n hx hb dX10_fees_9 rfl (lv_at hl 0 rfl) ?_
    refine xVW_i (As := []) (rest := []) (wr := []) (wg := (fun u => WC cs ad u)) hx hb hml hown hT hN hK hP hD hS hA cw_X10_70 hm (fun z h => tcX10_refuseBad l D cs ad H.size S z h) ⟨rfl, rfl⟩ ⟨by decide, by decide⟩ [0, 1, 2, 3, 4, 5, 6, 7, 8, 9, 10, 11, 12, 13, 14, 15, 16, 17, 18, 19, 20, 21, 22, 23, 24, 25, 26, 27, 28, 29, 30, 31, 32, 33, 34, 35, 36, 37, 38, 39, 40, 41, 42, 43, 44, 45, 46, 47, 48, 49, 50, 51, 52, 53, 54, 55, 56, 57, 58, 59, 60] [] [0, 1, 2, 3, 4, 5, 6, 7, 8, 9, 10, 11, 12, 13, 14, 15, 16, 17, 18, 19, 20, 21, 22, 23, 24, 25, 26, 27, 28, 29, 30, 31, 32, 33, 34, 35, 36, 37, 38, 39, 40, 41, 42, 43, 44, 45, 46, 47, 48, 49, 50, 51, 52, 53, 54, 55, 56, 57, 58, 59, 60] rfl (by decide) rfl (by decide) (by decide) (fun _ => rfl) (by decide) (b := (ad 0)) 0 rfl rfl rfl hl.1 rfl rfl (Nat.le_of_ble_eq_true rfl) dX10_fees_10 ⟨Nat.zero_le _, Nat.zero_le _⟩ (fun r12 S11 H locs hm hP hD hS => ?_)
    exact x_iretW (wf := (fun u => WC cs ad u)) hx hb hr hlk hK hP hD hS hm dX10_fees_13
noncomputable def mX10_forget (S : CT) (a1 : Int32) : Option (Int32 × CT) := (mX10_within a1 (nI 0) (nI 1)).bind fun r1 => (if r1 = 0 then (mX10_refuseBad S).bind fun ⟨r7, S6⟩ => some (r7, S6) else (if a1 = 0 then (mX7_empty (nI 6) (nI 3) 18 ((S.1 0).1 2)).bind fun u5 => nm (cM S 0 (tR (S.1 0) 2 u5)) fun S4 => some ((((S.1 0).1 2).1), S4) else (mX7_empty (nI 6) (nI 2) 12 ((S.1 0).1 3)).bind fun u3 => nm (cM S 0 (tR (S.1 0) 3 u3)) fun S2 => some ((((S.1 0).1 3).1), S2)))
set_option maxHeartbeats 4000000 in
set_option maxRecDepth 100000 in
theorem tcX10_forget (l : Launch) (D : va_G) (cs : CS) (ad : Nat → Nat) (sz : Nat) (S : CT) (a1 : Int32) (z : Int32 × CT) (hm : mX10_forget S a1 = some z) : Met l yX10_forget (Cond.code yX10_forget cX10_forget 4 (some .int) :: gw_tbl) ({ frames := 1, cells := 0, slots := 0, locals := 22 }) (PcW D cs sz (WC cs ad S) [.ref (ad 0), .int a1]) (QWi D cs (va_A (WC cs ad S) sz) (fun u => WC cs ad u) z) 0 0 (va_A (WC cs ad S) sz) := by
  refine met_W rfl (Nat.le_of_ble_eq_true rfl) (fun p e s m below meth c E hP hD hS hA ls hl => ?_)
  generalize va_A (WC cs ad S) sz = A at hD hS hA ⊢
  obtain ⟨hx, hb, hr, hml, hown, hlk, hT, hN, hK⟩ := id E
  obtain ⟨H, hH⟩ : ∃ H, H = s.heap := ⟨_, rfl⟩
  obtain ⟨locs, hlo⟩ : ∃ L : List Loc, L = [] := ⟨_, rfl⟩
  have hP : va_P D classes (WC cs ad S) H := by rw [hH]; exact hP
  have hS : va_S A s.heap H locs := by rw [hH, hlo]; exact hS
  rw [show W p l e _ s m _ below meth c s.heap [] 0 0 = W p l e _ s m _ below meth c H locs 0 0 by rw [hH, hlo]]
  have hl : lv_has ls 4 [(0, .ref (ad 0)), (1, .int a1)] := hl
  unfold mX10_forget at hm
  refine lv_iload_n hx hb dX10_forget_0 rfl (lv_at hl 1 rfl) ?_
  refine lv_iconst (v := (nI 0)) hx hb dX10_forget_1 (by decide) ?_
  refine lv_iconst (v := (nI 1)) hx hb dX10_forget_2 (by decide) ?_
  refine xS_i (As := [.int a1, .int (nI 0), .int (nI 1)]) (rest := []) hx hb hml hown hT hN hK (hP.sub (ws' := []) [] rfl) cw_X10_66 hm (fun z h => tcX10_within l D cs a1 (nI 0) (nI 1) z h) ⟨rfl, rfl⟩ ⟨by decide, by decide⟩ hl.1 rfl rfl (Nat.le_of_ble_eq_true rfl) dX10_forget_3 ⟨Nat.zero_le _, Nat.zero_le _⟩ (fun r1 hm => ?_)
  refine x_if_ne (tgt := 14) hx hb dX10_forget_6 (by decide) hm (fun hm => ?_) (fun hm => ?_)
  · refine lv_iload_n hx hb dX10_forget_14 rfl (lv_at hl 1 rfl) ?_
    refine x_if_ne (tgt := 28) hx hb dX10_forget_15 (by decide) hm (fun hm => ?_) (fun hm => ?_)
    · refine lv_aload_n hx hb dX10_forget_28 rfl (lv_at hl 0 rfl) ?_
      refine gf_X10_30 (v := .ref (ad 10)) hx hb hT hown hK hP 0 rfl rfl dX10_forget_29 ?_
      refine gf_X10_215 (v := .ref (ad 18)) hx hb hT hown hK hP 8 rfl rfl dX10_forget_32 ?_
      refine lv_astore_n (lv' := [(2, .ref (ad 18)), (0, .ref (ad 0)), (1, .int a1)]) hx hb dX10_forget_35 rfl hl (by decide) rfl (fun ls hl => ?_)
      refine lv_aload_n hx hb dX10_forget_36 rfl (lv_at hl 0 rfl) ?_
      refine gf_X10_78 (v := .int (((S.1 0).1 3).1)) hx hb hT hown hK hP 16 rfl rfl dX10_forget_37 ?_
      refine lv_istore_n (lv' := [(3, .int (((S.1 0).1 3).1)), (2, .ref (ad 18)), (0, .ref (ad 0)), (1, .int a1)]) hx hb dX10_forget_40 rfl hl (by decide) rfl (fun ls hl => ?_)
      refine lv_aload_n hx hb dX10_forget_41 rfl (lv_at hl 1 rfl) ?_
      refine xVW_v (As := []) (rest := []) (wr := [((ad 0), .inr (10, [.ref (ad 10), .ref (ad 30), .ref (ad 50), .ref (ad 70), .ref (ad 90), .ref (ad 95), .int (S.2.2.2.1 6), .int (S.2.2.2.1 7), .long (S.2.2.2.2 8), .long (S.2.2.2.2 9), .int (S.2.2.2.1 10), .int (S.2.2.2.1 11), .int (S.2.2.2.1 12)])), ((ad 1), .inl (cs 2, 6, .inr (.inr (.inr (.inr (fun k => some (ad (2 + k)))))))), ((ad 2), .inr (6, [])), ((ad 3), .inr (5, [])), ((ad 4), .inr (1, [])), ((ad 5), .inr (9, [])), ((ad 6), .inr (2, [])), ((ad 7), .inr (8, [])), ((ad 10), .inr (3, [.ref (ad 1), .ref (ad 11), .ref (ad 12), .ref (ad 14), .ref (ad 16), .ref (ad 18), .ref (ad 20), .int ((S.1 0).2 7), .int ((S.1 0).2 8), .int ((S.1 0).2 9), .int ((S.1 0).2 10)])), ((ad 11), .inr (6, [])), ((ad 12), .inr (7, [.int (nI 6), .int (nI 4), .ref (ad 13), .int (((S.1 0).1 0).1)])), ((ad 13), .inl (cs 0, 24, .inl (((S.1 0).1 0).2))), ((ad 14), .inr (7, [.int (nI 4), .int (nI 2), .ref (ad 15), .int (((S.1 0).1 1).1)])), ((ad 15), .inl (cs 0, 8, .inl (((S.1 0).1 1).2))), ((ad 16), .inr (7, [.int (nI 6), .int (nI 3), .ref (ad 17), .int (((S.1 0).1 2).1)])), ((ad 17), .inl (cs 0, 18, .inl (((S.1 0).1 2).2))), ((ad 20), .inr (7, [.int (nI 8), .int (nI 3), .ref (ad 21), .int (((S.1 0).1 4).1)])), ((ad 21), .inl (cs 0, 24, .inl (((S.1 0).1 4).2))), ((ad 30), .inr (3, [.ref (ad 1), .ref (ad 31), .ref (ad 32), .ref (ad 34), .ref (ad 36), .ref (ad 38), .ref (ad 40), .int ((S.1 1).2 7), .int ((S.1 1).2 8), .int ((S.1 1).2 9), .int ((S.1 1).2 10)])), ((ad 31), .inr (6, [])), ((ad 32), .inr (7, [.int (nI 6), .int (nI 4), .ref (ad 33), .int (((S.1 1).1 0).1)])), ((ad 33), .inl (cs 0, 24, .inl (((S.1 1).1 0).2))), ((ad 34), .inr (7, [.int (nI 4), .int (nI 2), .ref (ad 35), .int (((S.1 1).1 1).1)])), ((ad 35), .inl (cs 0, 8, .inl (((S.1 1).1 1).2))), ((ad 36), .inr (7, [.int (nI 6), .int (nI 3), .ref (ad 37), .int (((S.1 1).1 2).1)])), ((ad 37), .inl (cs 0, 18, .inl (((S.1 1).1 2).2))), ((ad 38), .inr (7, [.int (nI 6), .int (nI 2), .ref (ad 39), .int (((S.1 1).1 3).1)])), ((ad 39), .inl (cs 0, 12, .inl (((S.1 1).1 3).2))), ((ad 40), .inr (7, [.int (nI 8), .int (nI 3), .ref (ad 41), .int (((S.1 1).1 4).1)])), ((ad 41), .inl (cs 0, 24, .inl (((S.1 1).1 4).2))), ((ad 50), .inr (3, [.ref (ad 1), .ref (ad 51), .ref (ad 52), .ref (ad 54), .ref (ad 56), .ref (ad 58), .ref (ad 60), .int ((S.1 2).2 7), .int ((S.1 2).2 8), .int ((S.1 2).2 9), .int ((S.1 2).2 10)])), ((ad 51), .inr (6, [])), ((ad 52), .inr (7, [.int (nI 6), .int (nI 4), .ref (ad 53), .int (((S.1 2).1 0).1)])), ((ad 53), .inl (cs 0, 24, .inl (((S.1 2).1 0).2))), ((ad 54), .inr (7, [.int (nI 4), .int (nI 2), .ref (ad 55), .int (((S.1 2).1 1).1)])), ((ad 55), .inl (cs 0, 8, .inl (((S.1 2).1 1).2))), ((ad 56), .inr (7, [.int (nI 6), .int (nI 3), .ref (ad 57), .int (((S.1 2).1 2).1)])), ((ad 57), .inl (cs 0, 18, .inl (((S.1 2).1 2).2))), ((ad 58), .inr (7, [.int (nI 6), .int (nI 2), .ref (ad 59), .int (((S.1 2).1 3).1)])), ((ad 59), .inl (cs 0, 12, .inl (((S.1 2).1 3).2))), ((ad 60), .inr (7, [.int (nI 8), .int (nI 3), .ref (ad 61), .int (((S.1 2).1 4).1)])), ((ad 61), .inl (cs 0, 24, .inl (((S.1 2).1 4).2))), ((ad 70), .inr (3, [.ref (ad 1), .ref (ad 71), .ref (ad 72), .ref (ad 74), .ref (ad 76), .ref (ad 78), .ref (ad 80), .int ((S.1 3).2 7), .int ((S.1 3).2 8), .int ((S.1 3).2 9), .int ((S.1 3).2 10)])), ((ad 71), .inr (6, [])), ((ad 72), .inr (7, [.int (nI 6), .int (nI 4), .ref (ad 73), .int (((S.1 3).1 0).1)])), ((ad 73), .inl (cs 0, 24, .inl (((S.1 3).1 0).2))), ((ad 74), .inr (7, [.int (nI 4), .int (nI 2), .ref (ad 75), .int (((S.1 3).1 1).1)])), ((ad 75), .inl (cs 0, 8, .inl (((S.1 3).1 1).2))), ((ad 76), .inr (7, [.int (nI 6), .int (nI 3), .ref (ad 77), .int (((S.1 3).1 2).1)])), ((ad 77), .inl (cs 0, 18, .inl (((S.1 3).1 2).2))), ((ad 78), .inr (7, [.int (nI 6), .int (nI 2), .ref (ad 79), .int (((S.1 3).1 3).1)])), ((ad 79), .inl (cs 0, 12, .inl (((S.1 3).1 3).2))), ((ad 80), .inr (7, [.int (nI 8), .int (nI 3), .ref (ad 81), .int (((S.1 3).1 4).1)])), ((ad 81), .inl (cs 0, 24, .inl (((S.1 3).1 4).2))), ((ad 90), .inr (0, [.ref (ad 91), .int ((S.2.1).2 1), .int ((S.2.1).2 2), .int ((S.2.1).2 3), .int ((S.2.1).2 4), .int ((S.2.1).2 5), .int ((S.2.1).2 6), .int ((S.2.1).2 7), .int ((S.2.1).2 8), .int ((S.2.1).2 9), .int ((S.2.1).2 10), .int ((S.2.1).2 11)])), ((ad 91), .inl (cs 0, 150, .inl ((S.2.1).1))), ((ad 95), .inr (4, [.ref (ad 96), .ref (ad 97)])), ((ad 96), .inl (cs 0, 64, .inl ((S.2.2.1).1))), ((ad 97), .inl (cs 0, 64, .inl ((S.2.2.1).2)))]) (wg := fun u3 => WC cs ad (cM S 0 (tR (S.1 0) 3 u3))) hx hb hml hown hT hN hK hP hD hS hA cw_X10_102 hm (fun z h => tcX7_empty l D cs ad 18 (nI 6) (nI 2) 12 H.size ((S.1 0).1 3) z h) ⟨rfl, rfl⟩ ⟨by decide, by decide⟩ [16, 17] [0, 1, 2, 3, 4, 5, 6, 7, 8, 9, 10, 11, 12, 13, 14, 15, 18, 19, 20, 21, 22, 23, 24, 25, 26, 27, 28, 29, 30, 31, 32, 33, 34, 35, 36, 37, 38, 39, 40, 41, 42, 43, 44, 45, 46, 47, 48, 49, 50, 51, 52, 53, 54, 55, 56, 57, 58, 59, 60] [0, 1, 2, 3, 4, 5, 6, 7, 8, 9, 10, 11, 12, 13, 14, 15, 59, 60, 16, 17, 18, 19, 20, 21, 22, 23, 24, 25, 26, 27, 28, 29, 30, 31, 32, 33, 34, 35, 36, 37, 38, 39, 40, 41, 42, 43, 44, 45, 46, 47, 48, 49, 50, 51, 52, 53, 54, 55, 56, 57, 58] rfl (by decide) rfl (by decide) (by decide) (fun _ => rfl) (by decide) (b := (ad 18)) 0 rfl rfl rfl hl.1 rfl rfl (Nat.le_of_ble_eq_true rfl) dX10_forget_42 ⟨Nat.zero_le _, Nat.zero_le _⟩ (fun u3 H locs hm hP hD hS => ?_)
      obtain ⟨S2, hm, eS2⟩ := nm_ex hm
      rw [← eS2] at hP hD
      refine lv_iload_n hx hb dX10_forget_45 rfl (lv_at hl 0 rfl) ?_
      exact x_iretW (wf := (fun u => WC cs ad u)) hx hb hr hlk hK hP hD hS hm dX10_forget_46
    · refine lv_aload_n hx hb dX10_forget_18 rfl (lv_at hl 0 rfl) ?_
      refine gf_X10_30 (v := .ref (ad 10)) hx hb hT hown hK hP 0 rfl rfl dX10_forget_19 ?_
      refine gf_X10_212 (v := .ref (ad 16)) hx hb hT hown hK hP 8 rfl rfl dX10_forget_22 ?_
      refine lv_goto (tgt := 35) hx hb dX10_forget_25 (by decide) ?_
      refine lv_astore_n (lv' := [(2, .ref (ad 16)), (0, .ref (ad 0)), (1, .int a1)]) hx hb dX10_forget_35 rfl hl (by decide) rfl (fun ls hl => ?_)
      refine lv_aload_n hx hb dX10_forget_36 rfl (lv_at hl 0 rfl) ?_
      refine gf_X10_78 (v := .int (((S.1 0).1 2).1)) hx hb hT hown hK hP 14 rfl rfl dX10_forget_37 ?_
      refine lv_istore_n (lv' := [(3, .int (((S.1 0).1 2).1)), (2, .ref (ad 16)), (0, .ref (ad 0)), (1, .int a1)]) hx hb dX10_forget_40 rfl hl (by decide) rfl (fun ls hl => ?_)
      refine lv_aload_n hx hb dX10_forget_41 rfl (lv_at hl 1 rfl) ?_
      refine xVW_v (As := []) (rest := []) (wr := [((ad 0), .inr (10, [.ref (ad 10), .ref (ad 30), .ref (ad 50), .ref (ad 70), .ref (ad 90), .ref (ad 95), .int (S.2.2.2.1 6), .int (S.2.2.2.1 7), .long (S.2.2.2.2 8), .long (S.2.2.2.2 9), .int (S.2.2.2.1 10), .int (S.2.2.2.1 11), .int (S.2.2.2.1 12)])), ((ad 1), .inl (cs 2, 6, .inr (.inr (.inr (.inr (fun k => some (ad (2 + k)))))))), ((ad 2), .inr (6, [])), ((ad 3), .inr (5, [])), ((ad 4), .inr (1, [])), ((ad 5), .inr (9, [])), ((ad 6), .inr (2, [])), ((ad 7), .inr (8, [])), ((ad 10), .inr (3, [.ref (ad 1), .ref (ad 11), .ref (ad 12), .ref (ad 14), .ref (ad 16), .ref (ad 18), .ref (ad 20), .int ((S.1 0).2 7), .int ((S.1 0).2 8), .int ((S.1 0).2 9), .int ((S.1 0).2 10)])), ((ad 11), .inr (6, [])), ((ad 12), .inr (7, [.int (nI 6), .int (nI 4), .ref (ad 13), .int (((S.1 0).1 0).1)])), ((ad 13), .inl (cs 0, 24, .inl (((S.1 0).1 0).2))), ((ad 14), .inr (7, [.int (nI 4), .int (nI 2), .ref (ad 15), .int (((S.1 0).1 1).1)])), ((ad 15), .inl (cs 0, 8, .inl (((S.1 0).1 1).2))), ((ad 18), .inr (7, [.int (nI 6), .int (nI 2), .ref (ad 19), .int (((S.1 0).1 3).1)])), ((ad 19), .inl (cs 0, 12, .inl (((S.1 0).1 3).2))), ((ad 20), .inr (7, [.int (nI 8), .int (nI 3), .ref (ad 21), .int (((S.1 0).1 4).1)])), ((ad 21), .inl (cs 0, 24, .inl (((S.1 0).1 4).2))), ((ad 30), .inr (3, [.ref (ad 1), .ref (ad 31), .ref (ad 32), .ref (ad 34), .ref (ad 36), .ref (ad 38), .ref (ad 40), .int ((S.1 1).2 7), .int ((S.1 1).2 8), .int ((S.1 1).2 9), .int ((S.1 1).2 10)])), ((ad 31), .inr (6, [])), ((ad 32), .inr (7, [.int (nI 6), .int (nI 4), .ref (ad 33), .int (((S.1 1).1 0).1)])), ((ad 33), .inl (cs 0, 24, .inl (((S.1 1).1 0).2))), ((ad 34), .inr (7, [.int (nI 4), .int (nI 2), .ref (ad 35), .int (((S.1 1).1 1).1)])), ((ad 35), .inl (cs 0, 8, .inl (((S.1 1).1 1).2))), ((ad 36), .inr (7, [.int (nI 6), .int (nI 3), .ref (ad 37), .int (((S.1 1).1 2).1)])), ((ad 37), .inl (cs 0, 18, .inl (((S.1 1).1 2).2))), ((ad 38), .inr (7, [.int (nI 6), .int (nI 2), .ref (ad 39), .int (((S.1 1).1 3).1)])), ((ad 39), .inl (cs 0, 12, .inl (((S.1 1).1 3).2))), ((ad 40), .inr (7, [.int (nI 8), .int (nI 3), .ref (ad 41), .int (((S.1 1).1 4).1)])), ((ad 41), .inl (cs 0, 24, .inl (((S.1 1).1 4).2))), ((ad 50), .inr (3, [.ref (ad 1), .ref (ad 51), .ref (ad 52), .ref (ad 54), .ref (ad 56), .ref (ad 58), .ref (ad 60), .int ((S.1 2).2 7), .int ((S.1 2).2 8), .int ((S.1 2).2 9), .int ((S.1 2).2 10)])), ((ad 51), .inr (6, [])), ((ad 52), .inr (7, [.int (nI 6), .int (nI 4), .ref (ad 53), .int (((S.1 2).1 0).1)])), ((ad 53), .inl (cs 0, 24, .inl (((S.1 2).1 0).2))), ((ad 54), .inr (7, [.int (nI 4), .int (nI 2), .ref (ad 55), .int (((S.1 2).1 1).1)])), ((ad 55), .inl (cs 0, 8, .inl (((S.1 2).1 1).2))), ((ad 56), .inr (7, [.int (nI 6), .int (nI 3), .ref (ad 57), .int (((S.1 2).1 2).1)])), ((ad 57), .inl (cs 0, 18, .inl (((S.1 2).1 2).2))), ((ad 58), .inr (7, [.int (nI 6), .int (nI 2), .ref (ad 59), .int (((S.1 2).1 3).1)])), ((ad 59), .inl (cs 0, 12, .inl (((S.1 2).1 3).2))), ((ad 60), .inr (7, [.int (nI 8), .int (nI 3), .ref (ad 61), .int (((S.1 2).1 4).1)])), ((ad 61), .inl (cs 0, 24, .inl (((S.1 2).1 4).2))), ((ad 70), .inr (3, [.ref (ad 1), .ref (ad 71), .ref (ad 72), .ref (ad 74), .ref (ad 76), .ref (ad 78), .ref (ad 80), .int ((S.1 3).2 7), .int ((S.1 3).2 8), .int ((S.1 3).2 9), .int ((S.1 3).2 10)])), ((ad 71), .inr (6, [])), ((ad 72), .inr (7, [.int (nI 6), .int (nI 4), .ref (ad 73), .int (((S.1 3).1 0).1)])), ((ad 73), .inl (cs 0, 24, .inl (((S.1 3).1 0).2))), ((ad 74), .inr (7, [.int (nI 4), .int (nI 2), .ref (ad 75), .int (((S.1 3).1 1).1)])), ((ad 75), .inl (cs 0, 8, .inl (((S.1 3).1 1).2))), ((ad 76), .inr (7, [.int (nI 6), .int (nI 3), .ref (ad 77), .int (((S.1 3).1 2).1)])), ((ad 77), .inl (cs 0, 18, .inl (((S.1 3).1 2).2))), ((ad 78), .inr (7, [.int (nI 6), .int (nI 2), .ref (ad 79), .int (((S.1 3).1 3).1)])), ((ad 79), .inl (cs 0, 12, .inl (((S.1 3).1 3).2))), ((ad 80), .inr (7, [.int (nI 8), .int (nI 3), .ref (ad 81), .int (((S.1 3).1 4).1)])), ((ad 81), .inl (cs 0, 24, .inl (((S.1 3).1 4).2))), ((ad 90), .inr (0, [.ref (ad 91), .int ((S.2.1).2 1), .int ((S.2.1).2 2), .int ((S.2.1).2 3), .int ((S.2.1).2 4), .int ((S.2.1).2 5), .int ((S.2.1).2 6), .int ((S.2.1).2 7), .int ((S.2.1).2 8), .int ((S.2.1).2 9), .int ((S.2.1).2 10), .int ((S.2.1).2 11)])), ((ad 91), .inl (cs 0, 150, .inl ((S.2.1).1))), ((ad 95), .inr (4, [.ref (ad 96), .ref (ad 97)])), ((ad 96), .inl (cs 0, 64, .inl ((S.2.2.1).1))), ((ad 97), .inl (cs 0, 64, .inl ((S.2.2.1).2)))]) (wg := fun u5 => WC cs ad (cM S 0 (tR (S.1 0) 2 u5))) hx hb hml hown hT hN hK hP hD hS hA cw_X10_102 hm (fun z h => tcX7_empty l D cs ad 16 (nI 6) (nI 3) 18 H.size ((S.1 0).1 2) z h) ⟨rfl, rfl⟩ ⟨by decide, by decide⟩ [14, 15] [0, 1, 2, 3, 4, 5, 6, 7, 8, 9, 10, 11, 12, 13, 16, 17, 18, 19, 20, 21, 22, 23, 24, 25, 26, 27, 28, 29, 30, 31, 32, 33, 34, 35, 36, 37, 38, 39, 40, 41, 42, 43, 44, 45, 46, 47, 48, 49, 50, 51, 52, 53, 54, 55, 56, 57, 58, 59, 60] [0, 1, 2, 3, 4, 5, 6, 7, 8, 9, 10, 11, 12, 13, 59, 60, 14, 15, 16, 17, 18, 19, 20, 21, 22, 23, 24, 25, 26, 27, 28, 29, 30, 31, 32, 33, 34, 35, 36, 37, 38, 39, 40, 41, 42, 43, 44, 45, 46, 47, 48, 49, 50, 51, 52, 53, 54, 55, 56, 57, 58] rfl (by decide) rfl (by decide) (by decide) (fun _ => rfl) (by decide) (b := (ad 16)) 0 rfl rfl rfl hl.1 rfl rfl (Nat.le_of_ble_eq_true rfl) dX10_forget_42 ⟨Nat.zero_le _, Nat.zero_le _⟩ (fun u5 H locs hm hP hD hS => ?_)
      obtain ⟨S4, hm, eS4⟩ := nm_ex hm
      rw [← eS4] at hP hD
      refine lv_iload_n hx hb dX10_forget_45 rfl (lv_at hl 0 rfl) ?_
      exact x_iretW (wf := (fun u => WC cs ad u)) hx hb hr hlk hK hP hD hS hm dX10_forget_46
  · refine lv_aload_n hx hb dX10_forget_9 rfl (lv_at hl 0 rfl) ?_
    refine xVW_i (As := []) (rest := []) (wr := []) (wg := (fun u => WC cs ad u)) hx hb hml hown hT hN hK hP hD hS hA cw_X10_70 hm (fun z h => tcX10_refuseBad l D cs ad H.size S z h) ⟨rfl, rfl⟩ ⟨by decide, by decide⟩ [0, 1, 2, 3, 4, 5, 6, 7, 8, 9, 10, 11, 12, 13, 14, 15, 16, 17, 18, 19, 20, 21, 22, 23, 24, 25, 26, 27, 28, 29, 30, 31, 32, 33, 34, 35, 36, 37, 38, 39, 40, 41, 42, 43, 44, 45, 46, 47, 48, 49, 50, 51, 52, 53, 54, 55, 56, 57, 58, 59, 60] [] [0, 1, 2, 3, 4, 5, 6, 7, 8, 9, 10, 11, 12, 13, 14, 15, 16, 17, 18, 19, 20, 21, 22, 23, 24, 25, 26, 27, 28, 29, 30, 31, 32, 33, 34, 35, 36, 37, 38, 39, 40, 41, 42, 43, 44, 45, 46, 47, 48, 49, 50, 51, 52, 53, 54, 55, 56, 57, 58, 59, 60] rfl (by decide) rfl (by decide) (by decide) (fun _ => rfl) (by decide) (b := (ad 0)) 0 rfl rfl rfl hl.1 rfl rfl (Nat.le_of_ble_eq_true rfl) dX10_forget_10 ⟨Nat.zero_le _, Nat.zero_le _⟩ (fun r7 S6 H locs hm hP hD hS => ?_)
    exact x_iretW (wf := (fun u => WC cs ad u)) hx hb hr hlk hK hP hD hS hm dX10_forget_13
noncomputable def mX10_truth_L26  : Nat → Int32 → Int32 → Int32 → Int32 → Int32 → CT → Option (Int32 × CT) := fun n => Nat.rec (motive := fun _ => Int32 → Int32 → Int32 → Int32 → Int32 → CT → Option (Int32 × CT)) (fun _ _ _ _ _ _ => none) (fun _ rc => fun y1 y2 y3 y4 y5 S => (if (nI 255) < y5 then (if y1 = 0 then some (y2, S) else (if y1 = (nI 2) then some (y4, S) else (if y2 = 0 then some ((-1 : Int32), S) else some (y3, S)))) else (mX10_contradictIn y5).bind fun r2 => (if r2 = 0 then (mX3_fitsHearings (S.1 0) y5).bind fun r4 => (if r4 = 0 then nm (y5 + (nI 1)) fun x5 => rc y1 y2 y3 y4 x5 S else nm (y2 + (nI 1)) fun x6 => nm (y3 &&& y5) fun x7 => nm (y4 ||| y5) fun x8 => nm (y5 + (nI 1)) fun x9 => rc y1 x6 x7 x8 x9 S) else nm (y5 + (nI 1)) fun x3 => rc y1 y2 y3 y4 x3 S))) n
theorem mX10_truth_L26_s  (n : Nat) (y1 : Int32) (y2 : Int32) (y3 : Int32) (y4 : Int32) (y5 : Int32) (S : CT) : mX10_truth_L26  (n + 1) y1 y2 y3 y4 y5 S = (if (nI 255) < y5 then (if y1 = 0 then some (y2, S) else (if y1 = (nI 2) then some (y4, S) else (if y2 = 0 then some ((-1 : Int32), S) else some (y3, S)))) else (mX10_contradictIn y5).bind fun r2 => (if r2 = 0 then (mX3_fitsHearings (S.1 0) y5).bind fun r4 => (if r4 = 0 then nm (y5 + (nI 1)) fun x5 => (mX10_truth_L26  n) y1 y2 y3 y4 x5 S else nm (y2 + (nI 1)) fun x6 => nm (y3 &&& y5) fun x7 => nm (y4 ||| y5) fun x8 => nm (y5 + (nI 1)) fun x9 => (mX10_truth_L26  n) y1 x6 x7 x8 x9 S) else nm (y5 + (nI 1)) fun x3 => (mX10_truth_L26  n) y1 y2 y3 y4 x3 S)) := rfl
noncomputable def mX10_truth (S : CT) (a1 : Int32) : Option (Int32 × CT) := (mX10_within a1 (nI 0) (nI 2)).bind fun r1 => (if r1 = 0 then (mX10_refuseBad S).bind fun ⟨r11, S10⟩ => some (r11, S10) else mX10_truth_L26 FU a1 (nI 0) (nI 255) (nI 0) (nI 0) S)
set_option maxHeartbeats 4000000 in
set_option maxRecDepth 100000 in
theorem kX10_truth_L26 {p : Program} {l : Launch} {e : Env} {s : State} {m : MethodId} {below : List Frame} {meth : Method} {c : Code} {D : va_G} {cs : CS} {A : Nat → Prop}  {ad : Nat → Nat} {a1 : Int32} (E : EV p s m [.ref (ad 0), .int a1].toArray meth c cX10_truth 6 RX10 (some .int) D cs) (hA : ∀ q : Nat, s.heap.size ≤ q → A q) (z : Int32 × CT) : ∀ (n : Nat) (y1 : Int32) (y2 : Int32) (y3 : Int32) (y4 : Int32) (y5 : Int32) (S : CT), mX10_truth_L26  n y1 y2 y3 y4 y5 S = some z → ∀ (H : Heap) (locs : List Loc), va_P D classes (WC cs ad S) H → va_D A (WC cs ad S) → va_S A s.heap H locs → ∀ ls : Array Slot, lv_has ls 6 [(0, .ref (ad 0)), (1, .int y1), (2, .int y2), (3, .int y3), (4, .int y4), (5, .int y5)] → W p l e ({ frames := 3, cells := 0, slots := 0, locals := 68 }) s m [.ref (ad 0), .int a1].toArray below meth c H locs 0 0 (MQ below (QWi D cs A (fun u => WC cs ad u) z) [.ref (ad 0), .int a1].toArray s 0 0 A) (F0 m 26 ls []) := by
  obtain ⟨hx, hb, hr, hml, hown, hlk, hT, hN, hK⟩ := id E
  intro n
  induction n with
  | zero =>
    intro y1 y2 y3 y4 y5 S hm
    exact nomatch (show (none : Option (Int32 × CT)) = some z from hm)
  | succ n ih =>
    intro y1 y2 y3 y4 y5 S hm H locs hP hD hS ls hl
    rw [mX10_truth_L26_s] at hm
    refine lv_iload hx hb dX10_truth_26 (lv_at hl 5 rfl) ?_
    refine lv_sipush (v := (nI 255)) hx hb dX10_truth_28 (by decide) ?_
    refine x_icmp_gt (tgt := 75) hx hb dX10_truth_31 (by decide) hm (fun hm => ?_) (fun hm => ?_)
    · refine lv_iload_n hx hb dX10_truth_75 rfl (lv_at hl 1 rfl) ?_
      refine x_if_ne (tgt := 81) hx hb dX10_truth_76 (by decide) hm (fun hm => ?_) (fun hm => ?_)
      · refine lv_iload_n hx hb dX10_truth_81 rfl (lv_at hl 1 rfl) ?_
        refine lv_iconst (v := (nI 2)) hx hb dX10_truth_82 (by decide) ?_
        refine x_icmp_ne (tgt := 89) hx hb dX10_truth_83 (by decide) hm (fun hm => ?_) (fun hm => ?_)
        · refine lv_iload_n hx hb dX10_truth_89 rfl (lv_at hl 2 rfl) ?_
          refine x_if_ne (tgt := 97) hx hb dX10_truth_90 (by decide) hm (fun hm => ?_) (fun hm => ?_)
          · refine lv_iload_n hx hb dX10_truth_97 rfl (lv_at hl 3 rfl) ?_
            exact x_iretW (wf := (fun u => WC cs ad u)) hx hb hr hlk hK hP hD hS hm dX10_truth_98
          · refine lv_iconst (v := (-1 : Int32)) hx hb dX10_truth_93 (by decide) ?_
            refine lv_goto (tgt := 98) hx hb dX10_truth_94 (by decide) ?_
            exact x_iretW (wf := (fun u => WC cs ad u)) hx hb hr hlk hK hP hD hS hm dX10_truth_98
        · refine lv_iload hx hb dX10_truth_86 (lv_at hl 4 rfl) ?_
          exact x_iretW (wf := (fun u => WC cs ad u)) hx hb hr hlk hK hP hD hS hm dX10_truth_88
      · refine lv_iload_n hx hb dX10_truth_79 rfl (lv_at hl 2 rfl) ?_
        exact x_iretW (wf := (fun u => WC cs ad u)) hx hb hr hlk hK hP hD hS hm dX10_truth_80
    · refine lv_iload hx hb dX10_truth_34 (lv_at hl 5 rfl) ?_
      refine xS_i (As := [.int y5]) (rest := []) hx hb hml hown hT hN hK (hP.sub (ws' := []) [] rfl) cw_X10_202 hm (fun z h => tcX10_contradictIn l D cs y5 z h) ⟨rfl, rfl⟩ ⟨by decide, by decide⟩ hl.1 rfl rfl (Nat.le_of_ble_eq_true rfl) dX10_truth_36 ⟨Nat.zero_le _, Nat.zero_le _⟩ (fun r2 hm => ?_)
      refine x_if_ne (tgt := 69) hx hb dX10_truth_39 (by decide) hm (fun hm => ?_) (fun hm => ?_)
      · refine x_iinc (lv' := fun x3 => [(5, .int x3), (0, .ref (ad 0)), (1, .int y1), (2, .int y2), (3, .int y3), (4, .int y4)]) hx hb dX10_truth_69 hl (k := 5) rfl (by decide) (v0 := (nI 1)) (by decide) (fun _ => rfl) hm (fun x3 ls hm hl => ?_)
        refine lv_goto (tgt := 26) hx hb dX10_truth_72 (by decide) ?_
        exact ih y1 y2 y3 y4 x3 S hm H locs hP hD hS ls (lv_sub hl [1, 2, 3, 4, 5, 0] rfl)
      · refine lv_aload_n hx hb dX10_truth_42 rfl (lv_at hl 0 rfl) ?_
        refine gf_X10_30 (v := .ref (ad 10)) hx hb hT hown hK hP 0 rfl rfl dX10_truth_43 ?_
        refine lv_iload hx hb dX10_truth_46 (lv_at hl 5 rfl) ?_
        refine xV_i (As := [.int y5]) (rest := []) hx hb hml hown hT hN hK (hP.sub (ws' := WT cs ad 10 (S.1 0)) [8, 9, 10, 11, 12, 13, 14, 15, 16, 17, 18, 19, 1, 2, 3, 4, 5, 6, 7] rfl) cw_X10_225 hm (fun z h => tcX3_fitsHearings l D cs ad 10 (S.1 0) y5 z h) ⟨rfl, rfl⟩ ⟨by decide, by decide⟩ (b := (ad 10)) 0 rfl rfl rfl hl.1 rfl rfl (Nat.le_of_ble_eq_true rfl) dX10_truth_48 ⟨Nat.zero_le _, Nat.zero_le _⟩ (fun r4 hm => ?_)
        refine x_if_eq (tgt := 69) hx hb dX10_truth_51 (by decide) hm (fun hm => ?_) (fun hm => ?_)
        · refine x_iinc (lv' := fun x5 => [(5, .int x5), (0, .ref (ad 0)), (1, .int y1), (2, .int y2), (3, .int y3), (4, .int y4)]) hx hb dX10_truth_69 hl (k := 5) rfl (by decide) (v0 := (nI 1)) (by decide) (fun _ => rfl) hm (fun x5 ls hm hl => ?_)
          refine lv_goto (tgt := 26) hx hb dX10_truth_72 (by decide) ?_
          exact ih y1 y2 y3 y4 x5 S hm H locs hP hD hS ls (lv_sub hl [1, 2, 3, 4, 5, 0] rfl)
        · refine x_iinc (lv' := fun x6 => [(2, .int x6), (0, .ref (ad 0)), (1, .int y1), (3, .int y3), (4, .int y4), (5, .int y5)]) hx hb dX10_truth_54 hl (k := 2) rfl (by decide) (v0 := (nI 1)) (by decide) (fun _ => rfl) hm (fun x6 ls hm hl => ?_)
          refine lv_iload_n hx hb dX10_truth_57 rfl (lv_at hl 3 rfl) ?_
          refine lv_iload hx hb dX10_truth_58 (lv_at hl 5 rfl) ?_
          refine lv_iand hx hb dX10_truth_60 ?_
          refine xi_nm hm (fun x7 hm => ?_)
          refine lv_istore_n (lv' := [(3, .int x7), (2, .int x6), (0, .ref (ad 0)), (1, .int y1), (4, .int y4), (5, .int y5)]) hx hb dX10_truth_61 rfl hl (by decide) rfl (fun ls hl => ?_)
          refine lv_iload hx hb dX10_truth_62 (lv_at hl 4 rfl) ?_
          refine lv_iload hx hb dX10_truth_64 (lv_at hl 5 rfl) ?_
          refine lv_ior hx hb dX10_truth_66 ?_
          refine xi_nm hm (fun x8 hm => ?_)
          refine lv_istore (lv' := [(4, .int x8), (3, .int x7), (2, .int x6), (0, .ref (ad 0)), (1, .int y1), (5, .int y5)]) hx hb dX10_truth_67 hl (by decide) rfl (fun ls hl => ?_)
          refine x_iinc (lv' := fun x9 => [(5, .int x9), (4, .int x8), (3, .int x7), (2, .int x6), (0, .ref (ad 0)), (1, .int y1)]) hx hb dX10_truth_69 hl (k := 5) rfl (by decide) (v0 := (nI 1)) (by decide) (fun _ => rfl) hm (fun x9 ls hm hl => ?_)
          refine lv_goto (tgt := 26) hx hb dX10_truth_72 (by decide) ?_
          exact ih y1 x6 x7 x8 x9 S hm H locs hP hD hS ls (lv_sub hl [4, 5, 3, 2, 1, 0] rfl)
set_option maxHeartbeats 4000000 in
set_option maxRecDepth 100000 in
theorem tcX10_truth (l : Launch) (D : va_G) (cs : CS) (ad : Nat → Nat) (sz : Nat) (S : CT) (a1 : Int32) (z : Int32 × CT) (hm : mX10_truth S a1 = some z) : Met l yX10_truth (Cond.code yX10_truth cX10_truth 6 (some .int) :: gw_tbl) ({ frames := 3, cells := 0, slots := 0, locals := 68 }) (PcW D cs sz (WC cs ad S) [.ref (ad 0), .int a1]) (QWi D cs (va_A (WC cs ad S) sz) (fun u => WC cs ad u) z) 0 0 (va_A (WC cs ad S) sz) := by
  refine met_W rfl (Nat.le_of_ble_eq_true rfl) (fun p e s m below meth c E hP hD hS hA ls hl => ?_)
  generalize va_A (WC cs ad S) sz = A at hD hS hA ⊢
  obtain ⟨hx, hb, hr, hml, hown, hlk, hT, hN, hK⟩ := id E
  obtain ⟨H, hH⟩ : ∃ H, H = s.heap := ⟨_, rfl⟩
  obtain ⟨locs, hlo⟩ : ∃ L : List Loc, L = [] := ⟨_, rfl⟩
  have hP : va_P D classes (WC cs ad S) H := by rw [hH]; exact hP
  have hS : va_S A s.heap H locs := by rw [hH, hlo]; exact hS
  rw [show W p l e _ s m _ below meth c s.heap [] 0 0 = W p l e _ s m _ below meth c H locs 0 0 by rw [hH, hlo]]
  have hl : lv_has ls 6 [(0, .ref (ad 0)), (1, .int a1)] := hl
  unfold mX10_truth at hm
  refine lv_iload_n hx hb dX10_truth_0 rfl (lv_at hl 1 rfl) ?_
  refine lv_iconst (v := (nI 0)) hx hb dX10_truth_1 (by decide) ?_
  refine lv_iconst (v := (nI 2)) hx hb dX10_truth_2 (by decide) ?_
  refine xS_i (As := [.int a1, .int (nI 0), .int (nI 2)]) (rest := []) hx hb hml hown hT hN hK (hP.sub (ws' := []) [] rfl) cw_X10_66 hm (fun z h => tcX10_within l D cs a1 (nI 0) (nI 2) z h) ⟨rfl, rfl⟩ ⟨by decide, by decide⟩ hl.1 rfl rfl (Nat.le_of_ble_eq_true rfl) dX10_truth_3 ⟨Nat.zero_le _, Nat.zero_le _⟩ (fun r1 hm => ?_)
  refine x_if_ne (tgt := 14) hx hb dX10_truth_6 (by decide) hm (fun hm => ?_) (fun hm => ?_)
  · refine lv_iconst (v := (nI 0)) hx hb dX10_truth_14 (by decide) ?_
    refine lv_istore_n (lv' := [(2, .int (nI 0)), (0, .ref (ad 0)), (1, .int a1)]) hx hb dX10_truth_15 rfl hl (by decide) rfl (fun ls hl => ?_)
    refine lv_sipush (v := (nI 255)) hx hb dX10_truth_16 (by decide) ?_
    refine lv_istore_n (lv' := [(3, .int (nI 255)), (2, .int (nI 0)), (0, .ref (ad 0)), (1, .int a1)]) hx hb dX10_truth_19 rfl hl (by decide) rfl (fun ls hl => ?_)
    refine lv_iconst (v := (nI 0)) hx hb dX10_truth_20 (by decide) ?_
    refine lv_istore (lv' := [(4, .int (nI 0)), (3, .int (nI 255)), (2, .int (nI 0)), (0, .ref (ad 0)), (1, .int a1)]) hx hb dX10_truth_21 hl (by decide) rfl (fun ls hl => ?_)
    refine lv_iconst (v := (nI 0)) hx hb dX10_truth_23 (by decide) ?_
    refine lv_istore (lv' := [(5, .int (nI 0)), (4, .int (nI 0)), (3, .int (nI 255)), (2, .int (nI 0)), (0, .ref (ad 0)), (1, .int a1)]) hx hb dX10_truth_24 hl (by decide) rfl (fun ls hl => ?_)
    exact kX10_truth_L26 E hA _ FU a1 (nI 0) (nI 255) (nI 0) (nI 0) S hm H locs hP hD hS ls (lv_sub hl [4, 5, 3, 2, 1, 0] rfl)
  · refine lv_aload_n hx hb dX10_truth_9 rfl (lv_at hl 0 rfl) ?_
    refine xVW_i (As := []) (rest := []) (wr := []) (wg := (fun u => WC cs ad u)) hx hb hml hown hT hN hK hP hD hS hA cw_X10_70 hm (fun z h => tcX10_refuseBad l D cs ad H.size S z h) ⟨rfl, rfl⟩ ⟨by decide, by decide⟩ [0, 1, 2, 3, 4, 5, 6, 7, 8, 9, 10, 11, 12, 13, 14, 15, 16, 17, 18, 19, 20, 21, 22, 23, 24, 25, 26, 27, 28, 29, 30, 31, 32, 33, 34, 35, 36, 37, 38, 39, 40, 41, 42, 43, 44, 45, 46, 47, 48, 49, 50, 51, 52, 53, 54, 55, 56, 57, 58, 59, 60] [] [0, 1, 2, 3, 4, 5, 6, 7, 8, 9, 10, 11, 12, 13, 14, 15, 16, 17, 18, 19, 20, 21, 22, 23, 24, 25, 26, 27, 28, 29, 30, 31, 32, 33, 34, 35, 36, 37, 38, 39, 40, 41, 42, 43, 44, 45, 46, 47, 48, 49, 50, 51, 52, 53, 54, 55, 56, 57, 58, 59, 60] rfl (by decide) rfl (by decide) (by decide) (fun _ => rfl) (by decide) (b := (ad 0)) 0 rfl rfl rfl hl.1 rfl rfl (Nat.le_of_ble_eq_true rfl) dX10_truth_10 ⟨Nat.zero_le _, Nat.zero_le _⟩ (fun r11 S10 H locs hm hP hD hS => ?_)
    exact x_iretW (wf := (fun u => WC cs ad u)) hx hb hr hlk hK hP hD hS hm dX10_truth_13
noncomputable def mX10_terms_L49  : Nat → Int32 → Int64 → Int32 → Int32 → Int32 → CT → Option (Int32 × CT) := fun n => Nat.rec (motive := fun _ => Int32 → Int64 → Int32 → Int32 → Int32 → CT → Option (Int32 × CT)) (fun _ _ _ _ _ _ => none) (fun _ rc => fun y2 y3 y5 y6 y7 S => (if y2 ≤ y7 then (mX3_factsWith (S.1 0) y5).bind fun r6 => (mX3_hearing (S.1 0) r6).bind fun r7 => (mJ6_bitCount_0f7a4 r7).bind fun r8 => some (r8, S) else nm (((y3 * (lN 1103515245)) + (lN 12345)) - ((y3 * (lN 1103515245)) + (lN 12345)) / (lN 2147483648) * (lN 2147483648)) fun x9 => nm (((x9 / (lN 65536)) - (x9 / (lN 65536)) / (lN 6) * (lN 6)).toInt32) fun x10 => (mX3_afterTerm (S.1 0) x10 y5 y6).bind fun r11 => (if r11 ≤ y5 then nm (y7 + (nI 1)) fun x12 => rc y2 x9 r11 y6 x12 S else nm (y6 + (nI 1)) fun x13 => nm (y7 + (nI 1)) fun x14 => rc y2 x9 r11 x13 x14 S))) n
theorem mX10_terms_L49_s  (n : Nat) (y2 : Int32) (y3 : Int64) (y5 : Int32) (y6 : Int32) (y7 : Int32) (S : CT) : mX10_terms_L49  (n + 1) y2 y3 y5 y6 y7 S = (if y2 ≤ y7 then (mX3_factsWith (S.1 0) y5).bind fun r6 => (mX3_hearing (S.1 0) r6).bind fun r7 => (mJ6_bitCount_0f7a4 r7).bind fun r8 => some (r8, S) else nm (((y3 * (lN 1103515245)) + (lN 12345)) - ((y3 * (lN 1103515245)) + (lN 12345)) / (lN 2147483648) * (lN 2147483648)) fun x9 => nm (((x9 / (lN 65536)) - (x9 / (lN 65536)) / (lN 6) * (lN 6)).toInt32) fun x10 => (mX3_afterTerm (S.1 0) x10 y5 y6).bind fun r11 => (if r11 ≤ y5 then nm (y7 + (nI 1)) fun x12 => (mX10_terms_L49  n) y2 x9 r11 y6 x12 S else nm (y6 + (nI 1)) fun x13 => nm (y7 + (nI 1)) fun x14 => (mX10_terms_L49  n) y2 x9 r11 x13 x14 S)) := rfl
noncomputable def mX10_terms (S : CT) (a1 : Int32) (a2 : Int32) : Option (Int32 × CT) := (mX10_within a1 (nI 0) (nI 999999)).bind fun r1 => (if r1 = 0 then (mX10_refuseBad S).bind fun ⟨r3, S2⟩ => some (r3, S2) else (mX10_within a2 (nI 0) (nI 60)).bind fun r4 => (if r4 = 0 then (mX10_refuseBad S).bind fun ⟨r16, S15⟩ => some (r16, S15) else nm a1.toInt64 fun x5 => mX10_terms_L49 FU a2 x5 ((S.1 0).2 8) ((S.1 0).2 9) (nI 0) S))
set_option maxHeartbeats 4000000 in
set_option maxRecDepth 100000 in
theorem kX10_terms_L49 {p : Program} {l : Launch} {e : Env} {s : State} {m : MethodId} {below : List Frame} {meth : Method} {c : Code} {D : va_G} {cs : CS} {A : Nat → Prop}  {ad : Nat → Nat} {a1 : Int32} {a2 : Int32} (E : EV p s m [.ref (ad 0), .int a1, .int a2].toArray meth c cX10_terms 10 RX10 (some .int) D cs) (hA : ∀ q : Nat, s.heap.size ≤ q → A q) (z : Int32 × CT) : ∀ (n : Nat) (y2 : Int32) (y3 : Int64) (y5 : Int32) (y6 : Int32) (y7 : Int32) (S : CT), mX10_terms_L49  n y2 y3 y5 y6 y7 S = some z → ∀ (H : Heap) (locs : List Loc), va_P D classes (WC cs ad S) H → va_D A (WC cs ad S) → va_S A s.heap H locs → ∀ ls : Array Slot, lv_has ls 10 [(0, .ref (ad 0)), (2, .int y2), (3, .long y3), (5, .int y5), (6, .int y6), (7, .int y7)] → W p l e ({ frames := 4, cells := 0, slots := 0, locals := 95 }) s m [.ref (ad 0), .int a1, .int a2].toArray below meth c H locs 0 0 (MQ below (QWi D cs A (fun u => WC cs ad u) z) [.ref (ad 0), .int a1, .int a2].toArray s 0 0 A) (F0 m 49 ls []) := by
  obtain ⟨hx, hb, hr, hml, hown, hlk, hT, hN, hK⟩ := id E
  intro n
  induction n with
  | zero =>
    intro y2 y3 y5 y6 y7 S hm
    exact nomatch (show (none : Option (Int32 × CT)) = some z from hm)
  | succ n ih =>
    intro y2 y3 y5 y6 y7 S hm H locs hP hD hS ls hl
    rw [mX10_terms_L49_s] at hm
    refine lv_iload hx hb dX10_terms_49 (lv_at hl 5 rfl) ?_
    refine lv_iload_n hx hb dX10_terms_51 rfl (lv_at hl 1 rfl) ?_
    refine x_icmp_ge (tgt := 116) hx hb dX10_terms_52 (by decide) hm (fun hm => ?_) (fun hm => ?_)
    · refine lv_aload_n hx hb dX10_terms_116 rfl (lv_at hl 0 rfl) ?_
      refine gf_X10_30 (v := .ref (ad 10)) hx hb hT hown hK hP 0 rfl rfl dX10_terms_117 ?_
      refine lv_aload_n hx hb dX10_terms_120 rfl (lv_at hl 0 rfl) ?_
      refine gf_X10_30 (v := .ref (ad 10)) hx hb hT hown hK hP 0 rfl rfl dX10_terms_121 ?_
      refine lv_iload hx hb dX10_terms_124 (lv_at hl 3 rfl) ?_
      refine xV_i (As := [.int y5]) (rest := [.ref (ad 10)]) hx hb hml hown hT hN hK (hP.sub (ws' := WT cs ad 10 (S.1 0)) [8, 9, 10, 11, 12, 13, 14, 15, 16, 17, 18, 19, 1, 2, 3, 4, 5, 6, 7] rfl) cw_X10_199 hm (fun z h => tcX3_factsWith l D cs ad 10 (S.1 0) y5 z h) ⟨rfl, rfl⟩ ⟨by decide, by decide⟩ (b := (ad 10)) 0 rfl rfl rfl hl.1 rfl rfl (Nat.le_of_ble_eq_true rfl) dX10_terms_126 ⟨Nat.zero_le _, Nat.zero_le _⟩ (fun r6 hm => ?_)
      refine xV_i (As := [.int r6]) (rest := []) hx hb hml hown hT hN hK (hP.sub (ws' := WT cs ad 10 (S.1 0)) [8, 9, 10, 11, 12, 13, 14, 15, 16, 17, 18, 19, 1, 2, 3, 4, 5, 6, 7] rfl) cw_X10_175 hm (fun z h => tcX3_hearing l D cs ad 10 (S.1 0) r6 z h) ⟨rfl, rfl⟩ ⟨by decide, by decide⟩ (b := (ad 10)) 0 rfl rfl rfl hl.1 rfl rfl (Nat.le_of_ble_eq_true rfl) dX10_terms_129 ⟨Nat.zero_le _, Nat.zero_le _⟩ (fun r7 hm => ?_)
      refine xS_i (As := [.int r7]) (rest := []) hx hb hml hown hT hN hK (hP.sub (ws' := []) [] rfl) cw_X10_125 hm (fun z h => tcJ6_bitCount_0f7a4 l D cs r7 z h) ⟨rfl, rfl⟩ ⟨by decide, by decide⟩ hl.1 rfl rfl (Nat.le_of_ble_eq_true rfl) dX10_terms_132 ⟨Nat.zero_le _, Nat.zero_le _⟩ (fun r8 hm => ?_)
      exact x_iretW (wf := (fun u => WC cs ad u)) hx hb hr hlk hK hP hD hS hm dX10_terms_135
    · refine lv_lload_n hx hb dX10_terms_55 rfl (lv_at hl 2 rfl) ?_
      refine lv_ldc2 hx hb hown (hT _ tw_768) dX10_terms_56 ?_
      refine lv_lmul hx hb dX10_terms_59 ?_
      refine lv_ldc2 hx hb hown (hT _ tw_769) dX10_terms_60 ?_
      refine lv_ladd hx hb dX10_terms_63 ?_
      refine lv_ldc2 hx hb hown (hT _ tw_770) dX10_terms_64 ?_
      refine lv_lrem hx hb dX10_terms_67 (by decide) ?_
      refine xl_nm hm (fun x9 hm => ?_)
      refine lv_lstore_n (lv' := [(3, .long x9), (0, .ref (ad 0)), (2, .int y2), (5, .int y5), (6, .int y6), (7, .int y7)]) hx hb dX10_terms_68 rfl hl (by decide) rfl (fun ls hl => ?_)
      refine lv_lload_n hx hb dX10_terms_69 rfl (lv_at hl 0 rfl) ?_
      refine lv_ldc2 hx hb hown (hT _ tw_771) dX10_terms_70 ?_
      refine lv_ldiv hx hb dX10_terms_73 (by decide) ?_
      refine lv_ldc2 hx hb hown (hT _ tw_772) dX10_terms_74 ?_
      refine lv_lrem hx hb dX10_terms_77 (by decide) ?_
      refine lv_l2i hx hb dX10_terms_78 rfl ?_
      refine xi_nm hm (fun x10 hm => ?_)
      refine lv_istore (lv' := [(8, .int x10), (3, .long x9), (0, .ref (ad 0)), (2, .int y2), (5, .int y5), (6, .int y6), (7, .int y7)]) hx hb dX10_terms_79 hl (by decide) rfl (fun ls hl => ?_)
      refine lv_aload_n hx hb dX10_terms_81 rfl (lv_at hl 2 rfl) ?_
      refine gf_X10_30 (v := .ref (ad 10)) hx hb hT hown hK hP 0 rfl rfl dX10_terms_82 ?_
      refine lv_iload hx hb dX10_terms_85 (lv_at hl 0 rfl) ?_
      refine lv_iload hx hb dX10_terms_87 (lv_at hl 4 rfl) ?_
      refine lv_iload hx hb dX10_terms_89 (lv_at hl 5 rfl) ?_
      refine xV_i (As := [.int x10, .int y5, .int y6]) (rest := []) hx hb hml hown hT hN hK (hP.sub (ws' := WT cs ad 10 (S.1 0)) [8, 9, 10, 11, 12, 13, 14, 15, 16, 17, 18, 19, 1, 2, 3, 4, 5, 6, 7] rfl) cw_X10_253 hm (fun z h => tcX3_afterTerm l D cs ad 10 (S.1 0) x10 y5 y6 z h) ⟨rfl, rfl⟩ ⟨by decide, by decide⟩ (b := (ad 10)) 0 rfl rfl rfl hl.1 rfl rfl (Nat.le_of_ble_eq_true rfl) dX10_terms_91 ⟨Nat.zero_le _, Nat.zero_le _⟩ (fun r11 hm => ?_)
      refine lv_istore (lv' := [(9, .int r11), (8, .int x10), (3, .long x9), (0, .ref (ad 0)), (2, .int y2), (5, .int y5), (6, .int y6), (7, .int y7)]) hx hb dX10_terms_94 hl (by decide) rfl (fun ls hl => ?_)
      refine lv_iload hx hb dX10_terms_96 (lv_at hl 0 rfl) ?_
      refine lv_iload hx hb dX10_terms_98 (lv_at hl 5 rfl) ?_
      refine x_icmp_le (tgt := 106) hx hb dX10_terms_100 (by decide) hm (fun hm => ?_) (fun hm => ?_)
      · refine lv_iload hx hb dX10_terms_106 (lv_at hl 0 rfl) ?_
        refine lv_istore (lv' := [(5, .int r11), (9, .int r11), (8, .int x10), (3, .long x9), (0, .ref (ad 0)), (2, .int y2), (6, .int y6), (7, .int y7)]) hx hb dX10_terms_108 hl (by decide) rfl (fun ls hl => ?_)
        refine x_iinc (lv' := fun x12 => [(7, .int x12), (5, .int r11), (9, .int r11), (8, .int x10), (3, .long x9), (0, .ref (ad 0)), (2, .int y2), (6, .int y6)]) hx hb dX10_terms_110 hl (k := 7) rfl (by decide) (v0 := (nI 1)) (by decide) (fun _ => rfl) hm (fun x12 ls hm hl => ?_)
        refine lv_goto (tgt := 49) hx hb dX10_terms_113 (by decide) ?_
        exact ih y2 x9 r11 y6 x12 S hm H locs hP hD hS ls (lv_sub hl [5, 6, 4, 1, 7, 0] rfl)
      · refine x_iinc (lv' := fun x13 => [(6, .int x13), (9, .int r11), (8, .int x10), (3, .long x9), (0, .ref (ad 0)), (2, .int y2), (5, .int y5), (7, .int y7)]) hx hb dX10_terms_103 hl (k := 6) rfl (by decide) (v0 := (nI 1)) (by decide) (fun _ => rfl) hm (fun x13 ls hm hl => ?_)
        refine lv_iload hx hb dX10_terms_106 (lv_at hl 1 rfl) ?_
        refine lv_istore (lv' := [(5, .int r11), (6, .int x13), (9, .int r11), (8, .int x10), (3, .long x9), (0, .ref (ad 0)), (2, .int y2), (7, .int y7)]) hx hb dX10_terms_108 hl (by decide) rfl (fun ls hl => ?_)
        refine x_iinc (lv' := fun x14 => [(7, .int x14), (5, .int r11), (6, .int x13), (9, .int r11), (8, .int x10), (3, .long x9), (0, .ref (ad 0)), (2, .int y2)]) hx hb dX10_terms_110 hl (k := 7) rfl (by decide) (v0 := (nI 1)) (by decide) (fun _ => rfl) hm (fun x14 ls hm hl => ?_)
        refine lv_goto (tgt := 49) hx hb dX10_terms_113 (by decide) ?_
        exact ih y2 x9 r11 x13 x14 S hm H locs hP hD hS ls (lv_sub hl [6, 7, 5, 1, 2, 0] rfl)
set_option maxHeartbeats 4000000 in
set_option maxRecDepth 100000 in
theorem tcX10_terms (l : Launch) (D : va_G) (cs : CS) (ad : Nat → Nat) (sz : Nat) (S : CT) (a1 : Int32) (a2 : Int32) (z : Int32 × CT) (hm : mX10_terms S a1 a2 = some z) : Met l yX10_terms (Cond.code yX10_terms cX10_terms 10 (some .int) :: gw_tbl) ({ frames := 4, cells := 0, slots := 0, locals := 95 }) (PcW D cs sz (WC cs ad S) [.ref (ad 0), .int a1, .int a2]) (QWi D cs (va_A (WC cs ad S) sz) (fun u => WC cs ad u) z) 0 0 (va_A (WC cs ad S) sz) := by
  refine met_W rfl (Nat.le_of_ble_eq_true rfl) (fun p e s m below meth c E hP hD hS hA ls hl => ?_)
  generalize va_A (WC cs ad S) sz = A at hD hS hA ⊢
  obtain ⟨hx, hb, hr, hml, hown, hlk, hT, hN, hK⟩ := id E
  obtain ⟨H, hH⟩ : ∃ H, H = s.heap := ⟨_, rfl⟩
  obtain ⟨locs, hlo⟩ : ∃ L : List Loc, L = [] := ⟨_, rfl⟩
  have hP : va_P D classes (WC cs ad S) H := by rw [hH]; exact hP
  have hS : va_S A s.heap H locs := by rw [hH, hlo]; exact hS
  rw [show W p l e _ s m _ below meth c s.heap [] 0 0 = W p l e _ s m _ below meth c H locs 0 0 by rw [hH, hlo]]
  have hl : lv_has ls 10 [(0, .ref (ad 0)), (1, .int a1), (2, .int a2)] := hl
  unfold mX10_terms at hm
  refine lv_iload_n hx hb dX10_terms_0 rfl (lv_at hl 1 rfl) ?_
  refine lv_iconst (v := (nI 0)) hx hb dX10_terms_1 (by decide) ?_
  refine lv_ldc hx hb hown (hT _ tw_767) dX10_terms_2 ?_
  refine xS_i (As := [.int a1, .int (nI 0), .int (nI 999999)]) (rest := []) hx hb hml hown hT hN hK (hP.sub (ws' := []) [] rfl) cw_X10_66 hm (fun z h => tcX10_within l D cs a1 (nI 0) (nI 999999) z h) ⟨rfl, rfl⟩ ⟨by decide, by decide⟩ hl.1 rfl rfl (Nat.le_of_ble_eq_true rfl) dX10_terms_4 ⟨Nat.zero_le _, Nat.zero_le _⟩ (fun r1 hm => ?_)
  refine x_if_eq (tgt := 20) hx hb dX10_terms_7 (by decide) hm (fun hm => ?_) (fun hm => ?_)
  · refine lv_aload_n hx hb dX10_terms_20 rfl (lv_at hl 0 rfl) ?_
    refine xVW_i (As := []) (rest := []) (wr := []) (wg := (fun u => WC cs ad u)) hx hb hml hown hT hN hK hP hD hS hA cw_X10_70 hm (fun z h => tcX10_refuseBad l D cs ad H.size S z h) ⟨rfl, rfl⟩ ⟨by decide, by decide⟩ [0, 1, 2, 3, 4, 5, 6, 7, 8, 9, 10, 11, 12, 13, 14, 15, 16, 17, 18, 19, 20, 21, 22, 23, 24, 25, 26, 27, 28, 29, 30, 31, 32, 33, 34, 35, 36, 37, 38, 39, 40, 41, 42, 43, 44, 45, 46, 47, 48, 49, 50, 51, 52, 53, 54, 55, 56, 57, 58, 59, 60] [] [0, 1, 2, 3, 4, 5, 6, 7, 8, 9, 10, 11, 12, 13, 14, 15, 16, 17, 18, 19, 20, 21, 22, 23, 24, 25, 26, 27, 28, 29, 30, 31, 32, 33, 34, 35, 36, 37, 38, 39, 40, 41, 42, 43, 44, 45, 46, 47, 48, 49, 50, 51, 52, 53, 54, 55, 56, 57, 58, 59, 60] rfl (by decide) rfl (by decide) (by decide) (fun _ => rfl) (by decide) (b := (ad 0)) 0 rfl rfl rfl hl.1 rfl rfl (Nat.le_of_ble_eq_true rfl) dX10_terms_21 ⟨Nat.zero_le _, Nat.zero_le _⟩ (fun r3 S2 H locs hm hP hD hS => ?_)
    exact x_iretW (wf := (fun u => WC cs ad u)) hx hb hr hlk hK hP hD hS hm dX10_terms_24
  · refine lv_iload_n hx hb dX10_terms_10 rfl (lv_at hl 2 rfl) ?_
    refine lv_iconst (v := (nI 0)) hx hb dX10_terms_11 (by decide) ?_
    refine lv_bipush (v := (nI 60)) hx hb dX10_terms_12 (by decide) ?_
    refine xS_i (As := [.int a2, .int (nI 0), .int (nI 60)]) (rest := []) hx hb hml hown hT hN hK (hP.sub (ws' := []) [] rfl) cw_X10_66 hm (fun z h => tcX10_within l D cs a2 (nI 0) (nI 60) z h) ⟨rfl, rfl⟩ ⟨by decide, by decide⟩ hl.1 rfl rfl (Nat.le_of_ble_eq_true rfl) dX10_terms_14 ⟨Nat.zero_le _, Nat.zero_le _⟩ (fun r4 hm => ?_)
    refine x_if_ne (tgt := 25) hx hb dX10_terms_17 (by decide) hm (fun hm => ?_) (fun hm => ?_)
    · refine lv_iload_n hx hb dX10_terms_25 rfl (lv_at hl 1 rfl) ?_
      refine lv_i2l hx hb dX10_terms_26 rfl ?_
      refine xl_nm hm (fun x5 hm => ?_)
      refine lv_lstore_n (lv' := [(3, .long x5), (0, .ref (ad 0)), (1, .int a1), (2, .int a2)]) hx hb dX10_terms_27 rfl hl (by decide) rfl (fun ls hl => ?_)
      refine lv_aload_n hx hb dX10_terms_28 rfl (lv_at hl 1 rfl) ?_
      refine gf_X10_30 (v := .ref (ad 10)) hx hb hT hown hK hP 0 rfl rfl dX10_terms_29 ?_
      refine gf_X10_122 (v := .int ((S.1 0).2 8)) hx hb hT hown hK hP 8 rfl rfl dX10_terms_32 ?_
      refine lv_istore (lv' := [(5, .int ((S.1 0).2 8)), (3, .long x5), (0, .ref (ad 0)), (1, .int a1), (2, .int a2)]) hx hb dX10_terms_35 hl (by decide) rfl (fun ls hl => ?_)
      refine lv_aload_n hx hb dX10_terms_37 rfl (lv_at hl 2 rfl) ?_
      refine gf_X10_30 (v := .ref (ad 10)) hx hb hT hown hK hP 0 rfl rfl dX10_terms_38 ?_
      refine gf_X10_144 (v := .int ((S.1 0).2 9)) hx hb hT hown hK hP 8 rfl rfl dX10_terms_41 ?_
      refine lv_istore (lv' := [(6, .int ((S.1 0).2 9)), (5, .int ((S.1 0).2 8)), (3, .long x5), (0, .ref (ad 0)), (1, .int a1), (2, .int a2)]) hx hb dX10_terms_44 hl (by decide) rfl (fun ls hl => ?_)
      refine lv_iconst (v := (nI 0)) hx hb dX10_terms_46 (by decide) ?_
      refine lv_istore (lv' := [(7, .int (nI 0)), (6, .int ((S.1 0).2 9)), (5, .int ((S.1 0).2 8)), (3, .long x5), (0, .ref (ad 0)), (1, .int a1), (2, .int a2)]) hx hb dX10_terms_47 hl (by decide) rfl (fun ls hl => ?_)
      exact kX10_terms_L49 E hA _ FU a2 x5 ((S.1 0).2 8) ((S.1 0).2 9) (nI 0) S hm H locs hP hD hS ls (lv_sub hl [4, 6, 3, 2, 1, 0] rfl)
    · refine lv_aload_n hx hb dX10_terms_20 rfl (lv_at hl 0 rfl) ?_
      refine xVW_i (As := []) (rest := []) (wr := []) (wg := (fun u => WC cs ad u)) hx hb hml hown hT hN hK hP hD hS hA cw_X10_70 hm (fun z h => tcX10_refuseBad l D cs ad H.size S z h) ⟨rfl, rfl⟩ ⟨by decide, by decide⟩ [0, 1, 2, 3, 4, 5, 6, 7, 8, 9, 10, 11, 12, 13, 14, 15, 16, 17, 18, 19, 20, 21, 22, 23, 24, 25, 26, 27, 28, 29, 30, 31, 32, 33, 34, 35, 36, 37, 38, 39, 40, 41, 42, 43, 44, 45, 46, 47, 48, 49, 50, 51, 52, 53, 54, 55, 56, 57, 58, 59, 60] [] [0, 1, 2, 3, 4, 5, 6, 7, 8, 9, 10, 11, 12, 13, 14, 15, 16, 17, 18, 19, 20, 21, 22, 23, 24, 25, 26, 27, 28, 29, 30, 31, 32, 33, 34, 35, 36, 37, 38, 39, 40, 41, 42, 43, 44, 45, 46, 47, 48, 49, 50, 51, 52, 53, 54, 55, 56, 57, 58, 59, 60] rfl (by decide) rfl (by decide) (by decide) (fun _ => rfl) (by decide) (b := (ad 0)) 0 rfl rfl rfl hl.1 rfl rfl (Nat.le_of_ble_eq_true rfl) dX10_terms_21 ⟨Nat.zero_le _, Nat.zero_le _⟩ (fun r16 S15 H locs hm hP hD hS => ?_)
      exact x_iretW (wf := (fun u => WC cs ad u)) hx hb hr hlk hK hP hD hS hm dX10_terms_24
noncomputable def mX10_part (S : CT) (a1 : Int32) : Option (Int64 × CT) := (mX10_within a1 (nI 0) (nI 1)).bind fun r1 => (if r1 = 0 then (mX10_refuseBad S).bind fun ⟨r3, S2⟩ => some (r3.toInt64, S2) else (if a1 = 0 then some ((S.2.2.2.2 8), S) else some ((S.2.2.2.2 9), S)))
set_option maxHeartbeats 4000000 in
set_option maxRecDepth 100000 in
theorem tcX10_part (l : Launch) (D : va_G) (cs : CS) (ad : Nat → Nat) (sz : Nat) (S : CT) (a1 : Int32) (z : Int64 × CT) (hm : mX10_part S a1 = some z) : Met l yX10_part (Cond.code yX10_part cX10_part 2 (some .long) :: gw_tbl) ({ frames := 1, cells := 0, slots := 0, locals := 22 }) (PcW D cs sz (WC cs ad S) [.ref (ad 0), .int a1]) (QWl D cs (va_A (WC cs ad S) sz) (fun u => WC cs ad u) z) 0 0 (va_A (WC cs ad S) sz) := by
  refine met_W rfl (Nat.le_of_ble_eq_true rfl) (fun p e s m below meth c E hP hD hS hA ls hl => ?_)
  generalize va_A (WC cs ad S) sz = A at hD hS hA ⊢
  obtain ⟨hx, hb, hr, hml, hown, hlk, hT, hN, hK⟩ := id E
  obtain ⟨H, hH⟩ : ∃ H, H = s.heap := ⟨_, rfl⟩
  obtain ⟨locs, hlo⟩ : ∃ L : List Loc, L = [] := ⟨_, rfl⟩
  have hP : va_P D classes (WC cs ad S) H := by rw [hH]; exact hP
  have hS : va_S A s.heap H locs := by rw [hH, hlo]; exact hS
  rw [show W p l e _ s m _ below meth c s.heap [] 0 0 = W p l e _ s m _ below meth c H locs 0 0 by rw [hH, hlo]]
  have hl : lv_has ls 2 [(0, .ref (ad 0)), (1, .int a1)] := hl
  unfold mX10_part at hm
  refine lv_iload_n hx hb dX10_part_0 rfl (lv_at hl 1 rfl) ?_
  refine lv_iconst (v := (nI 0)) hx hb dX10_part_1 (by decide) ?_
  refine lv_iconst (v := (nI 1)) hx hb dX10_part_2 (by decide) ?_
  refine xS_i (As := [.int a1, .int (nI 0), .int (nI 1)]) (rest := []) hx hb hml hown hT hN hK (hP.sub (ws' := []) [] rfl) cw_X10_66 hm (fun z h => tcX10_within l D cs a1 (nI 0) (nI 1) z h) ⟨rfl, rfl⟩ ⟨by decide, by decide⟩ hl.1 rfl rfl (Nat.le_of_ble_eq_true rfl) dX10_part_3 ⟨Nat.zero_le _, Nat.zero_le _⟩ (fun r1 hm => ?_)
  refine x_if_ne (tgt := 15) hx hb dX10_part_6 (by decide) hm (fun hm => ?_) (fun hm => ?_)
  · refine lv_iload_n hx hb dX10_part_15 rfl (lv_at hl 1 rfl) ?_
    refine x_if_ne (tgt := 26) hx hb dX10_part_16 (by decide) hm (fun hm => ?_) (fun hm => ?_)
    · refine lv_aload_n hx hb dX10_part_26 rfl (lv_at hl 0 rfl) ?_
      refine gf_X10_63 (v := .long (S.2.2.2.2 9)) hx hb hT hown hK hP 0 rfl rfl dX10_part_27 ?_
      exact x_lretW (wf := (fun u => WC cs ad u)) hx hb hr hlk hK hP hD hS hm dX10_part_30
    · refine lv_aload_n hx hb dX10_part_19 rfl (lv_at hl 0 rfl) ?_
      refine gf_X10_59 (v := .long (S.2.2.2.2 8)) hx hb hT hown hK hP 0 rfl rfl dX10_part_20 ?_
      refine lv_goto (tgt := 30) hx hb dX10_part_23 (by decide) ?_
      exact x_lretW (wf := (fun u => WC cs ad u)) hx hb hr hlk hK hP hD hS hm dX10_part_30
  · refine lv_aload_n hx hb dX10_part_9 rfl (lv_at hl 0 rfl) ?_
    refine xVW_i (As := []) (rest := []) (wr := []) (wg := (fun u => WC cs ad u)) hx hb hml hown hT hN hK hP hD hS hA cw_X10_70 hm (fun z h => tcX10_refuseBad l D cs ad H.size S z h) ⟨rfl, rfl⟩ ⟨by decide, by decide⟩ [0, 1, 2, 3, 4, 5, 6, 7, 8, 9, 10, 11, 12, 13, 14, 15, 16, 17, 18, 19, 20, 21, 22, 23, 24, 25, 26, 27, 28, 29, 30, 31, 32, 33, 34, 35, 36, 37, 38, 39, 40, 41, 42, 43, 44, 45, 46, 47, 48, 49, 50, 51, 52, 53, 54, 55, 56, 57, 58, 59, 60] [] [0, 1, 2, 3, 4, 5, 6, 7, 8, 9, 10, 11, 12, 13, 14, 15, 16, 17, 18, 19, 20, 21, 22, 23, 24, 25, 26, 27, 28, 29, 30, 31, 32, 33, 34, 35, 36, 37, 38, 39, 40, 41, 42, 43, 44, 45, 46, 47, 48, 49, 50, 51, 52, 53, 54, 55, 56, 57, 58, 59, 60] rfl (by decide) rfl (by decide) (by decide) (fun _ => rfl) (by decide) (b := (ad 0)) 0 rfl rfl rfl hl.1 rfl rfl (Nat.le_of_ble_eq_true rfl) dX10_part_10 ⟨Nat.zero_le _, Nat.zero_le _⟩ (fun r3 S2 H locs hm hP hD hS => ?_)
    refine lv_i2l hx hb dX10_part_13 rfl ?_
    exact x_lretW (wf := (fun u => WC cs ad u)) hx hb hr hlk hK hP hD hS hm dX10_part_14
noncomputable def mX10_image (S : CT) (a1 : Int32) : Option (Int32 × CT) := (mX10_within a1 (nI 0) (nI 1)).bind fun r1 => (if r1 = 0 then (mX10_refuseBad S).bind fun ⟨r9, S8⟩ => some (r9, S8) else (if a1 = 0 then (mX3_become (S.1 0) (S.1 2)).bind fun u6 => nm (cM S 2 u6) fun S5 => nm (cI S5 6 (nI 1)) fun S7 => some ((nI 1), S7) else (mX3_become (S.1 0) (S.1 3)).bind fun u3 => nm (cM S 3 u3) fun S2 => nm (cI S2 7 (nI 1)) fun S4 => some ((nI 1), S4)))
set_option maxHeartbeats 4000000 in
set_option maxRecDepth 100000 in
theorem tcX10_image (l : Launch) (D : va_G) (cs : CS) (ad : Nat → Nat) (sz : Nat) (S : CT) (a1 : Int32) (z : Int32 × CT) (hm : mX10_image S a1 = some z) : Met l yX10_image (Cond.code yX10_image cX10_image 2 (some .int) :: gw_tbl) ({ frames := 2, cells := 0, slots := 0, locals := 43 }) (PcW D cs sz (WC cs ad S) [.ref (ad 0), .int a1]) (QWi D cs (va_A (WC cs ad S) sz) (fun u => WC cs ad u) z) 0 0 (va_A (WC cs ad S) sz) := by
  refine met_W rfl (Nat.le_of_ble_eq_true rfl) (fun p e s m below meth c E hP hD hS hA ls hl => ?_)
  generalize va_A (WC cs ad S) sz = A at hD hS hA ⊢
  obtain ⟨hx, hb, hr, hml, hown, hlk, hT, hN, hK⟩ := id E
  obtain ⟨H, hH⟩ : ∃ H, H = s.heap := ⟨_, rfl⟩
  obtain ⟨locs, hlo⟩ : ∃ L : List Loc, L = [] := ⟨_, rfl⟩
  have hP : va_P D classes (WC cs ad S) H := by rw [hH]; exact hP
  have hS : va_S A s.heap H locs := by rw [hH, hlo]; exact hS
  rw [show W p l e _ s m _ below meth c s.heap [] 0 0 = W p l e _ s m _ below meth c H locs 0 0 by rw [hH, hlo]]
  have hl : lv_has ls 2 [(0, .ref (ad 0)), (1, .int a1)] := hl
  unfold mX10_image at hm
  refine lv_iload_n hx hb dX10_image_0 rfl (lv_at hl 1 rfl) ?_
  refine lv_iconst (v := (nI 0)) hx hb dX10_image_1 (by decide) ?_
  refine lv_iconst (v := (nI 1)) hx hb dX10_image_2 (by decide) ?_
  refine xS_i (As := [.int a1, .int (nI 0), .int (nI 1)]) (rest := []) hx hb hml hown hT hN hK (hP.sub (ws' := []) [] rfl) cw_X10_66 hm (fun z h => tcX10_within l D cs a1 (nI 0) (nI 1) z h) ⟨rfl, rfl⟩ ⟨by decide, by decide⟩ hl.1 rfl rfl (Nat.le_of_ble_eq_true rfl) dX10_image_3 ⟨Nat.zero_le _, Nat.zero_le _⟩ (fun r1 hm => ?_)
  refine x_if_ne (tgt := 14) hx hb dX10_image_6 (by decide) hm (fun hm => ?_) (fun hm => ?_)
  · refine lv_iload_n hx hb dX10_image_14 rfl (lv_at hl 1 rfl) ?_
    refine x_if_ne (tgt := 37) hx hb dX10_image_15 (by decide) hm (fun hm => ?_) (fun hm => ?_)
    · refine lv_aload_n hx hb dX10_image_37 rfl (lv_at hl 0 rfl) ?_
      refine gf_X10_42 (v := .ref (ad 70)) hx hb hT hown hK hP 0 rfl rfl dX10_image_38 ?_
      refine lv_aload_n hx hb dX10_image_41 rfl (lv_at hl 0 rfl) ?_
      refine gf_X10_30 (v := .ref (ad 10)) hx hb hT hown hK hP 0 rfl rfl dX10_image_42 ?_
      refine xVW_v (As := [.ref (ad 10)]) (rest := []) (wr := [((ad 0), .inr (10, [.ref (ad 10), .ref (ad 30), .ref (ad 50), .ref (ad 70), .ref (ad 90), .ref (ad 95), .int (S.2.2.2.1 6), .int (S.2.2.2.1 7), .long (S.2.2.2.2 8), .long (S.2.2.2.2 9), .int (S.2.2.2.1 10), .int (S.2.2.2.1 11), .int (S.2.2.2.1 12)])), ((ad 1), .inl (cs 2, 6, .inr (.inr (.inr (.inr (fun k => some (ad (2 + k)))))))), ((ad 2), .inr (6, [])), ((ad 3), .inr (5, [])), ((ad 4), .inr (1, [])), ((ad 5), .inr (9, [])), ((ad 6), .inr (2, [])), ((ad 7), .inr (8, [])), ((ad 30), .inr (3, [.ref (ad 1), .ref (ad 31), .ref (ad 32), .ref (ad 34), .ref (ad 36), .ref (ad 38), .ref (ad 40), .int ((S.1 1).2 7), .int ((S.1 1).2 8), .int ((S.1 1).2 9), .int ((S.1 1).2 10)])), ((ad 31), .inr (6, [])), ((ad 32), .inr (7, [.int (nI 6), .int (nI 4), .ref (ad 33), .int (((S.1 1).1 0).1)])), ((ad 33), .inl (cs 0, 24, .inl (((S.1 1).1 0).2))), ((ad 34), .inr (7, [.int (nI 4), .int (nI 2), .ref (ad 35), .int (((S.1 1).1 1).1)])), ((ad 35), .inl (cs 0, 8, .inl (((S.1 1).1 1).2))), ((ad 36), .inr (7, [.int (nI 6), .int (nI 3), .ref (ad 37), .int (((S.1 1).1 2).1)])), ((ad 37), .inl (cs 0, 18, .inl (((S.1 1).1 2).2))), ((ad 38), .inr (7, [.int (nI 6), .int (nI 2), .ref (ad 39), .int (((S.1 1).1 3).1)])), ((ad 39), .inl (cs 0, 12, .inl (((S.1 1).1 3).2))), ((ad 40), .inr (7, [.int (nI 8), .int (nI 3), .ref (ad 41), .int (((S.1 1).1 4).1)])), ((ad 41), .inl (cs 0, 24, .inl (((S.1 1).1 4).2))), ((ad 50), .inr (3, [.ref (ad 1), .ref (ad 51), .ref (ad 52), .ref (ad 54), .ref (ad 56), .ref (ad 58), .ref (ad 60), .int ((S.1 2).2 7), .int ((S.1 2).2 8), .int ((S.1 2).2 9), .int ((S.1 2).2 10)])), ((ad 51), .inr (6, [])), ((ad 52), .inr (7, [.int (nI 6), .int (nI 4), .ref (ad 53), .int (((S.1 2).1 0).1)])), ((ad 53), .inl (cs 0, 24, .inl (((S.1 2).1 0).2))), ((ad 54), .inr (7, [.int (nI 4), .int (nI 2), .ref (ad 55), .int (((S.1 2).1 1).1)])), ((ad 55), .inl (cs 0, 8, .inl (((S.1 2).1 1).2))), ((ad 56), .inr (7, [.int (nI 6), .int (nI 3), .ref (ad 57), .int (((S.1 2).1 2).1)])), ((ad 57), .inl (cs 0, 18, .inl (((S.1 2).1 2).2))), ((ad 58), .inr (7, [.int (nI 6), .int (nI 2), .ref (ad 59), .int (((S.1 2).1 3).1)])), ((ad 59), .inl (cs 0, 12, .inl (((S.1 2).1 3).2))), ((ad 60), .inr (7, [.int (nI 8), .int (nI 3), .ref (ad 61), .int (((S.1 2).1 4).1)])), ((ad 61), .inl (cs 0, 24, .inl (((S.1 2).1 4).2))), ((ad 90), .inr (0, [.ref (ad 91), .int ((S.2.1).2 1), .int ((S.2.1).2 2), .int ((S.2.1).2 3), .int ((S.2.1).2 4), .int ((S.2.1).2 5), .int ((S.2.1).2 6), .int ((S.2.1).2 7), .int ((S.2.1).2 8), .int ((S.2.1).2 9), .int ((S.2.1).2 10), .int ((S.2.1).2 11)])), ((ad 91), .inl (cs 0, 150, .inl ((S.2.1).1))), ((ad 95), .inr (4, [.ref (ad 96), .ref (ad 97)])), ((ad 96), .inl (cs 0, 64, .inl ((S.2.2.1).1))), ((ad 97), .inl (cs 0, 64, .inl ((S.2.2.1).2)))]) (wg := fun u3 => WC cs ad (cM S 3 u3)) hx hb hml hown hT hN hK hP hD hS hA cw_X10_118 hm (fun z h => tcX3_become l D cs ad 70 10 (S.1 0) H.size (S.1 3) z h) ⟨rfl, rfl⟩ ⟨by decide, by decide⟩ [44, 45, 46, 47, 48, 49, 50, 51, 52, 53, 54, 55, 8, 9, 10, 11, 12, 13, 14, 15, 16, 17, 18, 19] [0, 1, 2, 3, 4, 5, 6, 7, 20, 21, 22, 23, 24, 25, 26, 27, 28, 29, 30, 31, 32, 33, 34, 35, 36, 37, 38, 39, 40, 41, 42, 43, 56, 57, 58, 59, 60] [0, 1, 2, 3, 4, 5, 6, 7, 49, 50, 51, 52, 53, 54, 55, 56, 57, 58, 59, 60, 8, 9, 10, 11, 12, 13, 14, 15, 16, 17, 18, 19, 20, 21, 22, 23, 24, 25, 26, 27, 28, 29, 30, 31, 37, 38, 39, 40, 41, 42, 43, 44, 45, 46, 47, 48, 32, 33, 34, 35, 36] rfl (by decide) rfl (by decide) (by decide) (fun _ => rfl) (by decide) (b := (ad 70)) 0 rfl rfl rfl hl.1 rfl rfl (Nat.le_of_ble_eq_true rfl) dX10_image_45 ⟨Nat.zero_le _, Nat.zero_le _⟩ (fun u3 H locs hm hP hD hS => ?_)
      obtain ⟨S2, hm, eS2⟩ := nm_ex hm
      rw [← eS2] at hP hD
      refine lv_aload_n hx hb dX10_image_48 rfl (lv_at hl 0 rfl) ?_
      refine lv_iconst (v := (nI 1)) hx hb dX10_image_49 (by decide) ?_
      refine pf_X10_260 (wf := (fun u => WC cs ad u)) (u0 := cI S2 7 (nI 1)) hx hb hT hown hK hP hD hS 0 rfl (Nat.le_of_ble_eq_true rfl) (by decide +kernel) (by decide +kernel) rfl hm dX10_image_50 (fun S4 H locs hm hP hD hS => ?_)
      refine lv_iconst (v := (nI 1)) hx hb dX10_image_53 (by decide) ?_
      exact x_iretW (wf := (fun u => WC cs ad u)) hx hb hr hlk hK hP hD hS hm dX10_image_54
    · refine lv_aload_n hx hb dX10_image_18 rfl (lv_at hl 0 rfl) ?_
      refine gf_X10_39 (v := .ref (ad 50)) hx hb hT hown hK hP 0 rfl rfl dX10_image_19 ?_
      refine lv_aload_n hx hb dX10_image_22 rfl (lv_at hl 0 rfl) ?_
      refine gf_X10_30 (v := .ref (ad 10)) hx hb hT hown hK hP 0 rfl rfl dX10_image_23 ?_
      refine xVW_v (As := [.ref (ad 10)]) (rest := []) (wr := [((ad 0), .inr (10, [.ref (ad 10), .ref (ad 30), .ref (ad 50), .ref (ad 70), .ref (ad 90), .ref (ad 95), .int (S.2.2.2.1 6), .int (S.2.2.2.1 7), .long (S.2.2.2.2 8), .long (S.2.2.2.2 9), .int (S.2.2.2.1 10), .int (S.2.2.2.1 11), .int (S.2.2.2.1 12)])), ((ad 1), .inl (cs 2, 6, .inr (.inr (.inr (.inr (fun k => some (ad (2 + k)))))))), ((ad 2), .inr (6, [])), ((ad 3), .inr (5, [])), ((ad 4), .inr (1, [])), ((ad 5), .inr (9, [])), ((ad 6), .inr (2, [])), ((ad 7), .inr (8, [])), ((ad 30), .inr (3, [.ref (ad 1), .ref (ad 31), .ref (ad 32), .ref (ad 34), .ref (ad 36), .ref (ad 38), .ref (ad 40), .int ((S.1 1).2 7), .int ((S.1 1).2 8), .int ((S.1 1).2 9), .int ((S.1 1).2 10)])), ((ad 31), .inr (6, [])), ((ad 32), .inr (7, [.int (nI 6), .int (nI 4), .ref (ad 33), .int (((S.1 1).1 0).1)])), ((ad 33), .inl (cs 0, 24, .inl (((S.1 1).1 0).2))), ((ad 34), .inr (7, [.int (nI 4), .int (nI 2), .ref (ad 35), .int (((S.1 1).1 1).1)])), ((ad 35), .inl (cs 0, 8, .inl (((S.1 1).1 1).2))), ((ad 36), .inr (7, [.int (nI 6), .int (nI 3), .ref (ad 37), .int (((S.1 1).1 2).1)])), ((ad 37), .inl (cs 0, 18, .inl (((S.1 1).1 2).2))), ((ad 38), .inr (7, [.int (nI 6), .int (nI 2), .ref (ad 39), .int (((S.1 1).1 3).1)])), ((ad 39), .inl (cs 0, 12, .inl (((S.1 1).1 3).2))), ((ad 40), .inr (7, [.int (nI 8), .int (nI 3), .ref (ad 41), .int (((S.1 1).1 4).1)])), ((ad 41), .inl (cs 0, 24, .inl (((S.1 1).1 4).2))), ((ad 70), .inr (3, [.ref (ad 1), .ref (ad 71), .ref (ad 72), .ref (ad 74), .ref (ad 76), .ref (ad 78), .ref (ad 80), .int ((S.1 3).2 7), .int ((S.1 3).2 8), .int ((S.1 3).2 9), .int ((S.1 3).2 10)])), ((ad 71), .inr (6, [])), ((ad 72), .inr (7, [.int (nI 6), .int (nI 4), .ref (ad 73), .int (((S.1 3).1 0).1)])), ((ad 73), .inl (cs 0, 24, .inl (((S.1 3).1 0).2))), ((ad 74), .inr (7, [.int (nI 4), .int (nI 2), .ref (ad 75), .int (((S.1 3).1 1).1)])), ((ad 75), .inl (cs 0, 8, .inl (((S.1 3).1 1).2))), ((ad 76), .inr (7, [.int (nI 6), .int (nI 3), .ref (ad 77), .int (((S.1 3).1 2).1)])), ((ad 77), .inl (cs 0, 18, .inl (((S.1 3).1 2).2))), ((ad 78), .inr (7, [.int (nI 6), .int (nI 2), .ref (ad 79), .int (((S.1 3).1 3).1)])), ((ad 79), .inl (cs 0, 12, .inl (((S.1 3).1 3).2))), ((ad 80), .inr (7, [.int (nI 8), .int (nI 3), .ref (ad 81), .int (((S.1 3).1 4).1)])), ((ad 81), .inl (cs 0, 24, .inl (((S.1 3).1 4).2))), ((ad 90), .inr (0, [.ref (ad 91), .int ((S.2.1).2 1), .int ((S.2.1).2 2), .int ((S.2.1).2 3), .int ((S.2.1).2 4), .int ((S.2.1).2 5), .int ((S.2.1).2 6), .int ((S.2.1).2 7), .int ((S.2.1).2 8), .int ((S.2.1).2 9), .int ((S.2.1).2 10), .int ((S.2.1).2 11)])), ((ad 91), .inl (cs 0, 150, .inl ((S.2.1).1))), ((ad 95), .inr (4, [.ref (ad 96), .ref (ad 97)])), ((ad 96), .inl (cs 0, 64, .inl ((S.2.2.1).1))), ((ad 97), .inl (cs 0, 64, .inl ((S.2.2.1).2)))]) (wg := fun u6 => WC cs ad (cM S 2 u6)) hx hb hml hown hT hN hK hP hD hS hA cw_X10_118 hm (fun z h => tcX3_become l D cs ad 50 10 (S.1 0) H.size (S.1 2) z h) ⟨rfl, rfl⟩ ⟨by decide, by decide⟩ [32, 33, 34, 35, 36, 37, 38, 39, 40, 41, 42, 43, 8, 9, 10, 11, 12, 13, 14, 15, 16, 17, 18, 19] [0, 1, 2, 3, 4, 5, 6, 7, 20, 21, 22, 23, 24, 25, 26, 27, 28, 29, 30, 31, 44, 45, 46, 47, 48, 49, 50, 51, 52, 53, 54, 55, 56, 57, 58, 59, 60] [0, 1, 2, 3, 4, 5, 6, 7, 49, 50, 51, 52, 53, 54, 55, 56, 57, 58, 59, 60, 8, 9, 10, 11, 12, 13, 14, 15, 16, 17, 18, 19, 37, 38, 39, 40, 41, 42, 43, 44, 45, 46, 47, 48, 20, 21, 22, 23, 24, 25, 26, 27, 28, 29, 30, 31, 32, 33, 34, 35, 36] rfl (by decide) rfl (by decide) (by decide) (fun _ => rfl) (by decide) (b := (ad 50)) 0 rfl rfl rfl hl.1 rfl rfl (Nat.le_of_ble_eq_true rfl) dX10_image_26 ⟨Nat.zero_le _, Nat.zero_le _⟩ (fun u6 H locs hm hP hD hS => ?_)
      obtain ⟨S5, hm, eS5⟩ := nm_ex hm
      rw [← eS5] at hP hD
      refine lv_aload_n hx hb dX10_image_29 rfl (lv_at hl 0 rfl) ?_
      refine lv_iconst (v := (nI 1)) hx hb dX10_image_30 (by decide) ?_
      refine pf_X10_256 (wf := (fun u => WC cs ad u)) (u0 := cI S5 6 (nI 1)) hx hb hT hown hK hP hD hS 0 rfl (Nat.le_of_ble_eq_true rfl) (by decide +kernel) (by decide +kernel) rfl hm dX10_image_31 (fun S7 H locs hm hP hD hS => ?_)
      refine lv_goto (tgt := 53) hx hb dX10_image_34 (by decide) ?_
      refine lv_iconst (v := (nI 1)) hx hb dX10_image_53 (by decide) ?_
      exact x_iretW (wf := (fun u => WC cs ad u)) hx hb hr hlk hK hP hD hS hm dX10_image_54
  · refine lv_aload_n hx hb dX10_image_9 rfl (lv_at hl 0 rfl) ?_
    refine xVW_i (As := []) (rest := []) (wr := []) (wg := (fun u => WC cs ad u)) hx hb hml hown hT hN hK hP hD hS hA cw_X10_70 hm (fun z h => tcX10_refuseBad l D cs ad H.size S z h) ⟨rfl, rfl⟩ ⟨by decide, by decide⟩ [0, 1, 2, 3, 4, 5, 6, 7, 8, 9, 10, 11, 12, 13, 14, 15, 16, 17, 18, 19, 20, 21, 22, 23, 24, 25, 26, 27, 28, 29, 30, 31, 32, 33, 34, 35, 36, 37, 38, 39, 40, 41, 42, 43, 44, 45, 46, 47, 48, 49, 50, 51, 52, 53, 54, 55, 56, 57, 58, 59, 60] [] [0, 1, 2, 3, 4, 5, 6, 7, 8, 9, 10, 11, 12, 13, 14, 15, 16, 17, 18, 19, 20, 21, 22, 23, 24, 25, 26, 27, 28, 29, 30, 31, 32, 33, 34, 35, 36, 37, 38, 39, 40, 41, 42, 43, 44, 45, 46, 47, 48, 49, 50, 51, 52, 53, 54, 55, 56, 57, 58, 59, 60] rfl (by decide) rfl (by decide) (by decide) (fun _ => rfl) (by decide) (b := (ad 0)) 0 rfl rfl rfl hl.1 rfl rfl (Nat.le_of_ble_eq_true rfl) dX10_image_10 ⟨Nat.zero_le _, Nat.zero_le _⟩ (fun r9 S8 H locs hm hP hD hS => ?_)
    exact x_iretW (wf := (fun u => WC cs ad u)) hx hb hr hlk hK hP hD hS hm dX10_image_13
noncomputable def mX10_status (S : CT) (a1 : Int32) : Option (Int32 × CT) := (if a1 = (nI 0) then some ((S.2.2.2.1 10), S) else if a1 = (nI 1) then some ((S.2.2.2.1 11), S) else if a1 = (nI 2) then some ((S.2.2.2.1 12), S) else (mX10_refuseBad S).bind fun ⟨r2, S1⟩ => some ((-1 : Int32), S1))
set_option maxHeartbeats 4000000 in
set_option maxRecDepth 100000 in
theorem tcX10_status (l : Launch) (D : va_G) (cs : CS) (ad : Nat → Nat) (sz : Nat) (S : CT) (a1 : Int32) (z : Int32 × CT) (hm : mX10_status S a1 = some z) : Met l yX10_status (Cond.code yX10_status cX10_status 2 (some .int) :: gw_tbl) ({ frames := 1, cells := 0, slots := 0, locals := 20 }) (PcW D cs sz (WC cs ad S) [.ref (ad 0), .int a1]) (QWi D cs (va_A (WC cs ad S) sz) (fun u => WC cs ad u) z) 0 0 (va_A (WC cs ad S) sz) := by
  refine met_W rfl (Nat.le_of_ble_eq_true rfl) (fun p e s m below meth c E hP hD hS hA ls hl => ?_)
  generalize va_A (WC cs ad S) sz = A at hD hS hA ⊢
  obtain ⟨hx, hb, hr, hml, hown, hlk, hT, hN, hK⟩ := id E
  obtain ⟨H, hH⟩ : ∃ H, H = s.heap := ⟨_, rfl⟩
  obtain ⟨locs, hlo⟩ : ∃ L : List Loc, L = [] := ⟨_, rfl⟩
  have hP : va_P D classes (WC cs ad S) H := by rw [hH]; exact hP
  have hS : va_S A s.heap H locs := by rw [hH, hlo]; exact hS
  rw [show W p l e _ s m _ below meth c s.heap [] 0 0 = W p l e _ s m _ below meth c H locs 0 0 by rw [hH, hlo]]
  have hl : lv_has ls 2 [(0, .ref (ad 0)), (1, .int a1)] := hl
  unfold mX10_status at hm
  refine lv_iload_n hx hb dX10_status_0 rfl (lv_at hl 1 rfl) ?_
  rcases sw_c hm with ⟨e1_0, hm⟩ | ⟨e1_0, hm⟩
  · refine lv_tableIn (tgt := 28) (off := 27) hx hb dX10_status_1 (by rw [e1_0]; decide) (by rw [e1_0]; decide) (by rw [e1_0]; rfl) (by decide) ?_
    refine lv_aload_n hx hb dX10_status_28 rfl (lv_at hl 0 rfl) ?_
    refine gf_X10_263 (v := .int (S.2.2.2.1 10)) hx hb hT hown hK hP 0 rfl rfl dX10_status_29 ?_
    exact x_iretW (wf := (fun u => WC cs ad u)) hx hb hr hlk hK hP hD hS hm dX10_status_32
  rcases sw_c hm with ⟨e1_1, hm⟩ | ⟨e1_1, hm⟩
  · refine lv_tableIn (tgt := 33) (off := 32) hx hb dX10_status_1 (by rw [e1_1]; decide) (by rw [e1_1]; decide) (by rw [e1_1]; rfl) (by decide) ?_
    refine lv_aload_n hx hb dX10_status_33 rfl (lv_at hl 0 rfl) ?_
    refine gf_X10_266 (v := .int (S.2.2.2.1 11)) hx hb hT hown hK hP 0 rfl rfl dX10_status_34 ?_
    exact x_iretW (wf := (fun u => WC cs ad u)) hx hb hr hlk hK hP hD hS hm dX10_status_37
  rcases sw_c hm with ⟨e1_2, hm⟩ | ⟨e1_2, hm⟩
  · refine lv_tableIn (tgt := 38) (off := 37) hx hb dX10_status_1 (by rw [e1_2]; decide) (by rw [e1_2]; decide) (by rw [e1_2]; rfl) (by decide) ?_
    refine lv_aload_n hx hb dX10_status_38 rfl (lv_at hl 0 rfl) ?_
    refine gf_X10_269 (v := .int (S.2.2.2.1 12)) hx hb hT hown hK hP 0 rfl rfl dX10_status_39 ?_
    exact x_iretW (wf := (fun u => WC cs ad u)) hx hb hr hlk hK hP hD hS hm dX10_status_42
  refine lv_tableOut (tgt := 43) hx hb dX10_status_1 (sw_out_0_3 e1_0 e1_1 e1_2) (by decide) ?_
  refine lv_aload_n hx hb dX10_status_43 rfl (lv_at hl 0 rfl) ?_
  refine xVW_i (As := []) (rest := []) (wr := []) (wg := (fun u => WC cs ad u)) hx hb hml hown hT hN hK hP hD hS hA cw_X10_70 hm (fun z h => tcX10_refuseBad l D cs ad H.size S z h) ⟨rfl, rfl⟩ ⟨by decide, by decide⟩ [0, 1, 2, 3, 4, 5, 6, 7, 8, 9, 10, 11, 12, 13, 14, 15, 16, 17, 18, 19, 20, 21, 22, 23, 24, 25, 26, 27, 28, 29, 30, 31, 32, 33, 34, 35, 36, 37, 38, 39, 40, 41, 42, 43, 44, 45, 46, 47, 48, 49, 50, 51, 52, 53, 54, 55, 56, 57, 58, 59, 60] [] [0, 1, 2, 3, 4, 5, 6, 7, 8, 9, 10, 11, 12, 13, 14, 15, 16, 17, 18, 19, 20, 21, 22, 23, 24, 25, 26, 27, 28, 29, 30, 31, 32, 33, 34, 35, 36, 37, 38, 39, 40, 41, 42, 43, 44, 45, 46, 47, 48, 49, 50, 51, 52, 53, 54, 55, 56, 57, 58, 59, 60] rfl (by decide) rfl (by decide) (by decide) (fun _ => rfl) (by decide) (b := (ad 0)) 0 rfl rfl rfl hl.1 rfl rfl (Nat.le_of_ble_eq_true rfl) dX10_status_44 ⟨Nat.zero_le _, Nat.zero_le _⟩ (fun r2 S1 H locs hm hP hD hS => ?_)
  refine lv_pop hx hb dX10_status_47 rfl ?_
  refine lv_iconst (v := (-1 : Int32)) hx hb dX10_status_48 (by decide) ?_
  exact x_iretW (wf := (fun u => WC cs ad u)) hx hb hr hlk hK hP hD hS hm dX10_status_49
noncomputable def mX10_refuseNo (S : CT) : Option (Int32 × CT) := nm (cI S 11 ((S.2.2.2.1 11) + (nI 1))) fun S1 => some ((-3 : Int32), S1)
set_option maxHeartbeats 4000000 in
set_option maxRecDepth 100000 in
theorem tcX10_refuseNo (l : Launch) (D : va_G) (cs : CS) (ad : Nat → Nat) (sz : Nat) (S : CT) (z : Int32 × CT) (hm : mX10_refuseNo S = some z) : Met l yX10_refuseNo (Cond.code yX10_refuseNo cX10_refuseNo 1 (some .int) :: gw_tbl) ({ frames := 0, cells := 0, slots := 0, locals := 0 }) (PcW D cs sz (WC cs ad S) [.ref (ad 0)]) (QWi D cs (va_A (WC cs ad S) sz) (fun u => WC cs ad u) z) 0 0 (va_A (WC cs ad S) sz) := by
  refine met_W rfl (Nat.le_of_ble_eq_true rfl) (fun p e s m below meth c E hP hD hS hA ls hl => ?_)
  generalize va_A (WC cs ad S) sz = A at hD hS hA ⊢
  obtain ⟨hx, hb, hr, hml, hown, hlk, hT, hN, hK⟩ := id E
  obtain ⟨H, hH⟩ : ∃ H, H = s.heap := ⟨_, rfl⟩
  obtain ⟨locs, hlo⟩ : ∃ L : List Loc, L = [] := ⟨_, rfl⟩
  have hP : va_P D classes (WC cs ad S) H := by rw [hH]; exact hP
  have hS : va_S A s.heap H locs := by rw [hH, hlo]; exact hS
  rw [show W p l e _ s m _ below meth c s.heap [] 0 0 = W p l e _ s m _ below meth c H locs 0 0 by rw [hH, hlo]]
  have hl : lv_has ls 1 [(0, .ref (ad 0))] := hl
  unfold mX10_refuseNo at hm
  refine lv_aload_n hx hb dX10_refuseNo_0 rfl (lv_at hl 0 rfl) ?_
  refine lv_dup hx hb dX10_refuseNo_1 rfl ?_
  refine gf_X10_266 (v := .int (S.2.2.2.1 11)) hx hb hT hown hK hP 0 rfl rfl dX10_refuseNo_2 ?_
  refine lv_iconst (v := (nI 1)) hx hb dX10_refuseNo_5 (by decide) ?_
  refine lv_iadd hx hb dX10_refuseNo_6 ?_
  refine pf_X10_266 (wf := (fun u => WC cs ad u)) (u0 := cI S 11 ((S.2.2.2.1 11) + (nI 1))) hx hb hT hown hK hP hD hS 0 rfl (Nat.le_of_ble_eq_true rfl) rfl rfl rfl hm dX10_refuseNo_7 (fun S1 H locs hm hP hD hS => ?_)
  refine lv_bipush (v := (-3 : Int32)) hx hb dX10_refuseNo_10 (by decide) ?_
  exact x_iretW (wf := (fun u => WC cs ad u)) hx hb hr hlk hK hP hD hS hm dX10_refuseNo_12
noncomputable def mX10_undo (S : CT) : Option (Int32 × CT) := (if (((S.1 0).1 4).1) = 0 then (mX10_refuseNo S).bind fun ⟨r4, S3⟩ => some (r4, S3) else (mX3_takeBack (S.1 0)).bind fun u2 => nm (cM S 0 u2) fun S1 => some (((S1.1 0).2 9), S1))
set_option maxHeartbeats 4000000 in
set_option maxRecDepth 100000 in
theorem tcX10_undo (l : Launch) (D : va_G) (cs : CS) (ad : Nat → Nat) (sz : Nat) (S : CT) (z : Int32 × CT) (hm : mX10_undo S = some z) : Met l yX10_undo (Cond.code yX10_undo cX10_undo 1 (some .int) :: gw_tbl) ({ frames := 2, cells := 0, slots := 0, locals := 44 }) (PcW D cs sz (WC cs ad S) [.ref (ad 0)]) (QWi D cs (va_A (WC cs ad S) sz) (fun u => WC cs ad u) z) 0 0 (va_A (WC cs ad S) sz) := by
  refine met_W rfl (Nat.le_of_ble_eq_true rfl) (fun p e s m below meth c E hP hD hS hA ls hl => ?_)
  generalize va_A (WC cs ad S) sz = A at hD hS hA ⊢
  obtain ⟨hx, hb, hr, hml, hown, hlk, hT, hN, hK⟩ := id E
  obtain ⟨H, hH⟩ : ∃ H, H = s.heap := ⟨_, rfl⟩
  obtain ⟨locs, hlo⟩ : ∃ L : List Loc, L = [] := ⟨_, rfl⟩
  have hP : va_P D classes (WC cs ad S) H := by rw [hH]; exact hP
  have hS : va_S A s.heap H locs := by rw [hH, hlo]; exact hS
  rw [show W p l e _ s m _ below meth c s.heap [] 0 0 = W p l e _ s m _ below meth c H locs 0 0 by rw [hH, hlo]]
  have hl : lv_has ls 1 [(0, .ref (ad 0))] := hl
  unfold mX10_undo at hm
  refine lv_aload_n hx hb dX10_undo_0 rfl (lv_at hl 0 rfl) ?_
  refine gf_X10_30 (v := .ref (ad 10)) hx hb hT hown hK hP 0 rfl rfl dX10_undo_1 ?_
  refine gf_X10_99 (v := .ref (ad 20)) hx hb hT hown hK hP 8 rfl rfl dX10_undo_4 ?_
  refine gf_X10_78 (v := .int (((S.1 0).1 4).1)) hx hb hT hown hK hP 18 rfl rfl dX10_undo_7 ?_
  refine x_if_ne (tgt := 18) hx hb dX10_undo_10 (by decide) hm (fun hm => ?_) (fun hm => ?_)
  · refine lv_aload_n hx hb dX10_undo_18 rfl (lv_at hl 0 rfl) ?_
    refine gf_X10_30 (v := .ref (ad 10)) hx hb hT hown hK hP 0 rfl rfl dX10_undo_19 ?_
    refine xVW_v (As := []) (rest := []) (wr := [((ad 0), .inr (10, [.ref (ad 10), .ref (ad 30), .ref (ad 50), .ref (ad 70), .ref (ad 90), .ref (ad 95), .int (S.2.2.2.1 6), .int (S.2.2.2.1 7), .long (S.2.2.2.2 8), .long (S.2.2.2.2 9), .int (S.2.2.2.1 10), .int (S.2.2.2.1 11), .int (S.2.2.2.1 12)])), ((ad 30), .inr (3, [.ref (ad 1), .ref (ad 31), .ref (ad 32), .ref (ad 34), .ref (ad 36), .ref (ad 38), .ref (ad 40), .int ((S.1 1).2 7), .int ((S.1 1).2 8), .int ((S.1 1).2 9), .int ((S.1 1).2 10)])), ((ad 31), .inr (6, [])), ((ad 32), .inr (7, [.int (nI 6), .int (nI 4), .ref (ad 33), .int (((S.1 1).1 0).1)])), ((ad 33), .inl (cs 0, 24, .inl (((S.1 1).1 0).2))), ((ad 34), .inr (7, [.int (nI 4), .int (nI 2), .ref (ad 35), .int (((S.1 1).1 1).1)])), ((ad 35), .inl (cs 0, 8, .inl (((S.1 1).1 1).2))), ((ad 36), .inr (7, [.int (nI 6), .int (nI 3), .ref (ad 37), .int (((S.1 1).1 2).1)])), ((ad 37), .inl (cs 0, 18, .inl (((S.1 1).1 2).2))), ((ad 38), .inr (7, [.int (nI 6), .int (nI 2), .ref (ad 39), .int (((S.1 1).1 3).1)])), ((ad 39), .inl (cs 0, 12, .inl (((S.1 1).1 3).2))), ((ad 40), .inr (7, [.int (nI 8), .int (nI 3), .ref (ad 41), .int (((S.1 1).1 4).1)])), ((ad 41), .inl (cs 0, 24, .inl (((S.1 1).1 4).2))), ((ad 50), .inr (3, [.ref (ad 1), .ref (ad 51), .ref (ad 52), .ref (ad 54), .ref (ad 56), .ref (ad 58), .ref (ad 60), .int ((S.1 2).2 7), .int ((S.1 2).2 8), .int ((S.1 2).2 9), .int ((S.1 2).2 10)])), ((ad 51), .inr (6, [])), ((ad 52), .inr (7, [.int (nI 6), .int (nI 4), .ref (ad 53), .int (((S.1 2).1 0).1)])), ((ad 53), .inl (cs 0, 24, .inl (((S.1 2).1 0).2))), ((ad 54), .inr (7, [.int (nI 4), .int (nI 2), .ref (ad 55), .int (((S.1 2).1 1).1)])), ((ad 55), .inl (cs 0, 8, .inl (((S.1 2).1 1).2))), ((ad 56), .inr (7, [.int (nI 6), .int (nI 3), .ref (ad 57), .int (((S.1 2).1 2).1)])), ((ad 57), .inl (cs 0, 18, .inl (((S.1 2).1 2).2))), ((ad 58), .inr (7, [.int (nI 6), .int (nI 2), .ref (ad 59), .int (((S.1 2).1 3).1)])), ((ad 59), .inl (cs 0, 12, .inl (((S.1 2).1 3).2))), ((ad 60), .inr (7, [.int (nI 8), .int (nI 3), .ref (ad 61), .int (((S.1 2).1 4).1)])), ((ad 61), .inl (cs 0, 24, .inl (((S.1 2).1 4).2))), ((ad 70), .inr (3, [.ref (ad 1), .ref (ad 71), .ref (ad 72), .ref (ad 74), .ref (ad 76), .ref (ad 78), .ref (ad 80), .int ((S.1 3).2 7), .int ((S.1 3).2 8), .int ((S.1 3).2 9), .int ((S.1 3).2 10)])), ((ad 71), .inr (6, [])), ((ad 72), .inr (7, [.int (nI 6), .int (nI 4), .ref (ad 73), .int (((S.1 3).1 0).1)])), ((ad 73), .inl (cs 0, 24, .inl (((S.1 3).1 0).2))), ((ad 74), .inr (7, [.int (nI 4), .int (nI 2), .ref (ad 75), .int (((S.1 3).1 1).1)])), ((ad 75), .inl (cs 0, 8, .inl (((S.1 3).1 1).2))), ((ad 76), .inr (7, [.int (nI 6), .int (nI 3), .ref (ad 77), .int (((S.1 3).1 2).1)])), ((ad 77), .inl (cs 0, 18, .inl (((S.1 3).1 2).2))), ((ad 78), .inr (7, [.int (nI 6), .int (nI 2), .ref (ad 79), .int (((S.1 3).1 3).1)])), ((ad 79), .inl (cs 0, 12, .inl (((S.1 3).1 3).2))), ((ad 80), .inr (7, [.int (nI 8), .int (nI 3), .ref (ad 81), .int (((S.1 3).1 4).1)])), ((ad 81), .inl (cs 0, 24, .inl (((S.1 3).1 4).2))), ((ad 90), .inr (0, [.ref (ad 91), .int ((S.2.1).2 1), .int ((S.2.1).2 2), .int ((S.2.1).2 3), .int ((S.2.1).2 4), .int ((S.2.1).2 5), .int ((S.2.1).2 6), .int ((S.2.1).2 7), .int ((S.2.1).2 8), .int ((S.2.1).2 9), .int ((S.2.1).2 10), .int ((S.2.1).2 11)])), ((ad 91), .inl (cs 0, 150, .inl ((S.2.1).1))), ((ad 95), .inr (4, [.ref (ad 96), .ref (ad 97)])), ((ad 96), .inl (cs 0, 64, .inl ((S.2.2.1).1))), ((ad 97), .inl (cs 0, 64, .inl ((S.2.2.1).2)))]) (wg := fun u2 => WC cs ad (cM S 0 u2)) hx hb hml hown hT hN hK hP hD hS hA cw_X10_163 hm (fun z h => tcX3_takeBack l D cs ad 10 H.size (S.1 0) z h) ⟨rfl, rfl⟩ ⟨by decide, by decide⟩ [8, 9, 10, 11, 12, 13, 14, 15, 16, 17, 18, 19, 1, 2, 3, 4, 5, 6, 7] [0, 20, 21, 22, 23, 24, 25, 26, 27, 28, 29, 30, 31, 32, 33, 34, 35, 36, 37, 38, 39, 40, 41, 42, 43, 44, 45, 46, 47, 48, 49, 50, 51, 52, 53, 54, 55, 56, 57, 58, 59, 60] [0, 54, 55, 56, 57, 58, 59, 60, 42, 43, 44, 45, 46, 47, 48, 49, 50, 51, 52, 53, 1, 2, 3, 4, 5, 6, 7, 8, 9, 10, 11, 12, 13, 14, 15, 16, 17, 18, 19, 20, 21, 22, 23, 24, 25, 26, 27, 28, 29, 30, 31, 32, 33, 34, 35, 36, 37, 38, 39, 40, 41] rfl (by decide) rfl (by decide) (by decide) (fun _ => rfl) (by decide) (b := (ad 10)) 0 rfl rfl rfl hl.1 rfl rfl (Nat.le_of_ble_eq_true rfl) dX10_undo_22 ⟨Nat.zero_le _, Nat.zero_le _⟩ (fun u2 H locs hm hP hD hS => ?_)
    obtain ⟨S1, hm, eS1⟩ := nm_ex hm
    rw [← eS1] at hP hD
    refine lv_aload_n hx hb dX10_undo_25 rfl (lv_at hl 0 rfl) ?_
    refine gf_X10_30 (v := .ref (ad 10)) hx hb hT hown hK hP 0 rfl rfl dX10_undo_26 ?_
    refine gf_X10_144 (v := .int ((S1.1 0).2 9)) hx hb hT hown hK hP 8 rfl rfl dX10_undo_29 ?_
    exact x_iretW (wf := (fun u => WC cs ad u)) hx hb hr hlk hK hP hD hS hm dX10_undo_32
  · refine lv_aload_n hx hb dX10_undo_13 rfl (lv_at hl 0 rfl) ?_
    refine xVW_i (As := []) (rest := []) (wr := []) (wg := (fun u => WC cs ad u)) hx hb hml hown hT hN hK hP hD hS hA cw_X10_141 hm (fun z h => tcX10_refuseNo l D cs ad H.size S z h) ⟨rfl, rfl⟩ ⟨by decide, by decide⟩ [0, 1, 2, 3, 4, 5, 6, 7, 8, 9, 10, 11, 12, 13, 14, 15, 16, 17, 18, 19, 20, 21, 22, 23, 24, 25, 26, 27, 28, 29, 30, 31, 32, 33, 34, 35, 36, 37, 38, 39, 40, 41, 42, 43, 44, 45, 46, 47, 48, 49, 50, 51, 52, 53, 54, 55, 56, 57, 58, 59, 60] [] [0, 1, 2, 3, 4, 5, 6, 7, 8, 9, 10, 11, 12, 13, 14, 15, 16, 17, 18, 19, 20, 21, 22, 23, 24, 25, 26, 27, 28, 29, 30, 31, 32, 33, 34, 35, 36, 37, 38, 39, 40, 41, 42, 43, 44, 45, 46, 47, 48, 49, 50, 51, 52, 53, 54, 55, 56, 57, 58, 59, 60] rfl (by decide) rfl (by decide) (by decide) (fun _ => rfl) (by decide) (b := (ad 0)) 0 rfl rfl rfl hl.1 rfl rfl (Nat.le_of_ble_eq_true rfl) dX10_undo_14 ⟨Nat.zero_le _, Nat.zero_le _⟩ (fun r4 S3 H locs hm hP hD hS => ?_)
    exact x_iretW (wf := (fun u => WC cs ad u)) hx hb hr hlk hK hP hD hS hm dX10_undo_17
noncomputable def mX10_from (S : CT) (a1 : Int32) : Option (Int32 × CT) := (mX10_within a1 (nI 0) (nI 1)).bind fun r1 => (if r1 = 0 then (mX10_refuseBad S).bind fun ⟨r15, S14⟩ => some (r15, S14) else (if a1 = 0 then (if (S.2.2.2.1 6) = 0 then (mX10_refuseNo S).bind fun ⟨r13, S12⟩ => some (r13, S12) else (if a1 = 0 then (mX3_become (S.1 2) (S.1 0)).bind fun u11 => nm (cM S 0 u11) fun S10 => some ((nI 1), S10) else (mX3_become (S.1 3) (S.1 0)).bind fun u9 => nm (cM S 0 u9) fun S8 => some ((nI 1), S8))) else (if (S.2.2.2.1 7) = 0 then (mX10_refuseNo S).bind fun ⟨r7, S6⟩ => some (r7, S6) else (if a1 = 0 then (mX3_become (S.1 2) (S.1 0)).bind fun u5 => nm (cM S 0 u5) fun S4 => some ((nI 1), S4) else (mX3_become (S.1 3) (S.1 0)).bind fun u3 => nm (cM S 0 u3) fun S2 => some ((nI 1), S2)))))
set_option maxHeartbeats 4000000 in
set_option maxRecDepth 100000 in
theorem tcX10_from (l : Launch) (D : va_G) (cs : CS) (ad : Nat → Nat) (sz : Nat) (S : CT) (a1 : Int32) (z : Int32 × CT) (hm : mX10_from S a1 = some z) : Met l yX10_from (Cond.code yX10_from cX10_from 2 (some .int) :: gw_tbl) ({ frames := 2, cells := 0, slots := 0, locals := 43 }) (PcW D cs sz (WC cs ad S) [.ref (ad 0), .int a1]) (QWi D cs (va_A (WC cs ad S) sz) (fun u => WC cs ad u) z) 0 0 (va_A (WC cs ad S) sz) := by
  refine met_W rfl (Nat.le_of_ble_eq_true rfl) (fun p e s m below meth c E hP hD hS hA ls hl => ?_)
  generalize va_A (WC cs ad S) sz = A at hD hS hA ⊢
  obtain ⟨hx, hb, hr, hml, hown, hlk, hT, hN, hK⟩ := id E
  obtain ⟨H, hH⟩ : ∃ H, H = s.heap := ⟨_, rfl⟩
  obtain ⟨locs, hlo⟩ : ∃ L : List Loc, L = [] := ⟨_, rfl⟩
  have hP : va_P D classes (WC cs ad S) H := by rw [hH]; exact hP
  have hS : va_S A s.heap H locs := by rw [hH, hlo]; exact hS
  rw [show W p l e _ s m _ below meth c s.heap [] 0 0 = W p l e _ s m _ below meth c H locs 0 0 by rw [hH, hlo]]
  have hl : lv_has ls 2 [(0, .ref (ad 0)), (1, .int a1)] := hl
  unfold mX10_from at hm
  refine lv_iload_n hx hb dX10_from_0 rfl (lv_at hl 1 rfl) ?_
  refine lv_iconst (v := (nI 0)) hx hb dX10_from_1 (by decide) ?_
  refine lv_iconst (v := (nI 1)) hx hb dX10_from_2 (by decide) ?_
  refine xS_i (As := [.int a1, .int (nI 0), .int (nI 1)]) (rest := []) hx hb hml hown hT hN hK (hP.sub (ws' := []) [] rfl) cw_X10_66 hm (fun z h => tcX10_within l D cs a1 (nI 0) (nI 1) z h) ⟨rfl, rfl⟩ ⟨by decide, by decide⟩ hl.1 rfl rfl (Nat.le_of_ble_eq_true rfl) dX10_from_3 ⟨Nat.zero_le _, Nat.zero_le _⟩ (fun r1 hm => ?_)
  refine x_if_ne (tgt := 14) hx hb dX10_from_6 (by decide) hm (fun hm => ?_) (fun hm => ?_)
  · refine lv_iload_n hx hb dX10_from_14 rfl (lv_at hl 1 rfl) ?_
    refine x_if_ne (tgt := 28) hx hb dX10_from_15 (by decide) hm (fun hm => ?_) (fun hm => ?_)
    · refine lv_aload_n hx hb dX10_from_28 rfl (lv_at hl 0 rfl) ?_
      refine gf_X10_260 (v := .int (S.2.2.2.1 7)) hx hb hT hown hK hP 0 rfl rfl dX10_from_29 ?_
      refine x_if_ne (tgt := 40) hx hb dX10_from_32 (by decide) hm (fun hm => ?_) (fun hm => ?_)
      · refine lv_aload_n hx hb dX10_from_40 rfl (lv_at hl 0 rfl) ?_
        refine gf_X10_30 (v := .ref (ad 10)) hx hb hT hown hK hP 0 rfl rfl dX10_from_41 ?_
        refine lv_iload_n hx hb dX10_from_44 rfl (lv_at hl 1 rfl) ?_
        refine x_if_ne (tgt := 55) hx hb dX10_from_45 (by decide) hm (fun hm => ?_) (fun hm => ?_)
        · refine lv_aload_n hx hb dX10_from_55 rfl (lv_at hl 0 rfl) ?_
          refine gf_X10_42 (v := .ref (ad 70)) hx hb hT hown hK hP 0 rfl rfl dX10_from_56 ?_
          refine xVW_v (As := [.ref (ad 70)]) (rest := []) (wr := [((ad 0), .inr (10, [.ref (ad 10), .ref (ad 30), .ref (ad 50), .ref (ad 70), .ref (ad 90), .ref (ad 95), .int (S.2.2.2.1 6), .int (S.2.2.2.1 7), .long (S.2.2.2.2 8), .long (S.2.2.2.2 9), .int (S.2.2.2.1 10), .int (S.2.2.2.1 11), .int (S.2.2.2.1 12)])), ((ad 1), .inl (cs 2, 6, .inr (.inr (.inr (.inr (fun k => some (ad (2 + k)))))))), ((ad 2), .inr (6, [])), ((ad 3), .inr (5, [])), ((ad 4), .inr (1, [])), ((ad 5), .inr (9, [])), ((ad 6), .inr (2, [])), ((ad 7), .inr (8, [])), ((ad 30), .inr (3, [.ref (ad 1), .ref (ad 31), .ref (ad 32), .ref (ad 34), .ref (ad 36), .ref (ad 38), .ref (ad 40), .int ((S.1 1).2 7), .int ((S.1 1).2 8), .int ((S.1 1).2 9), .int ((S.1 1).2 10)])), ((ad 31), .inr (6, [])), ((ad 32), .inr (7, [.int (nI 6), .int (nI 4), .ref (ad 33), .int (((S.1 1).1 0).1)])), ((ad 33), .inl (cs 0, 24, .inl (((S.1 1).1 0).2))), ((ad 34), .inr (7, [.int (nI 4), .int (nI 2), .ref (ad 35), .int (((S.1 1).1 1).1)])), ((ad 35), .inl (cs 0, 8, .inl (((S.1 1).1 1).2))), ((ad 36), .inr (7, [.int (nI 6), .int (nI 3), .ref (ad 37), .int (((S.1 1).1 2).1)])), ((ad 37), .inl (cs 0, 18, .inl (((S.1 1).1 2).2))), ((ad 38), .inr (7, [.int (nI 6), .int (nI 2), .ref (ad 39), .int (((S.1 1).1 3).1)])), ((ad 39), .inl (cs 0, 12, .inl (((S.1 1).1 3).2))), ((ad 40), .inr (7, [.int (nI 8), .int (nI 3), .ref (ad 41), .int (((S.1 1).1 4).1)])), ((ad 41), .inl (cs 0, 24, .inl (((S.1 1).1 4).2))), ((ad 50), .inr (3, [.ref (ad 1), .ref (ad 51), .ref (ad 52), .ref (ad 54), .ref (ad 56), .ref (ad 58), .ref (ad 60), .int ((S.1 2).2 7), .int ((S.1 2).2 8), .int ((S.1 2).2 9), .int ((S.1 2).2 10)])), ((ad 51), .inr (6, [])), ((ad 52), .inr (7, [.int (nI 6), .int (nI 4), .ref (ad 53), .int (((S.1 2).1 0).1)])), ((ad 53), .inl (cs 0, 24, .inl (((S.1 2).1 0).2))), ((ad 54), .inr (7, [.int (nI 4), .int (nI 2), .ref (ad 55), .int (((S.1 2).1 1).1)])), ((ad 55), .inl (cs 0, 8, .inl (((S.1 2).1 1).2))), ((ad 56), .inr (7, [.int (nI 6), .int (nI 3), .ref (ad 57), .int (((S.1 2).1 2).1)])), ((ad 57), .inl (cs 0, 18, .inl (((S.1 2).1 2).2))), ((ad 58), .inr (7, [.int (nI 6), .int (nI 2), .ref (ad 59), .int (((S.1 2).1 3).1)])), ((ad 59), .inl (cs 0, 12, .inl (((S.1 2).1 3).2))), ((ad 60), .inr (7, [.int (nI 8), .int (nI 3), .ref (ad 61), .int (((S.1 2).1 4).1)])), ((ad 61), .inl (cs 0, 24, .inl (((S.1 2).1 4).2))), ((ad 90), .inr (0, [.ref (ad 91), .int ((S.2.1).2 1), .int ((S.2.1).2 2), .int ((S.2.1).2 3), .int ((S.2.1).2 4), .int ((S.2.1).2 5), .int ((S.2.1).2 6), .int ((S.2.1).2 7), .int ((S.2.1).2 8), .int ((S.2.1).2 9), .int ((S.2.1).2 10), .int ((S.2.1).2 11)])), ((ad 91), .inl (cs 0, 150, .inl ((S.2.1).1))), ((ad 95), .inr (4, [.ref (ad 96), .ref (ad 97)])), ((ad 96), .inl (cs 0, 64, .inl ((S.2.2.1).1))), ((ad 97), .inl (cs 0, 64, .inl ((S.2.2.1).2)))]) (wg := fun u3 => WC cs ad (cM S 0 u3)) hx hb hml hown hT hN hK hP hD hS hA cw_X10_118 hm (fun z h => tcX3_become l D cs ad 10 70 (S.1 3) H.size (S.1 0) z h) ⟨rfl, rfl⟩ ⟨by decide, by decide⟩ [8, 9, 10, 11, 12, 13, 14, 15, 16, 17, 18, 19, 44, 45, 46, 47, 48, 49, 50, 51, 52, 53, 54, 55] [0, 1, 2, 3, 4, 5, 6, 7, 20, 21, 22, 23, 24, 25, 26, 27, 28, 29, 30, 31, 32, 33, 34, 35, 36, 37, 38, 39, 40, 41, 42, 43, 56, 57, 58, 59, 60] [0, 1, 2, 3, 4, 5, 6, 7, 37, 38, 39, 40, 41, 42, 43, 44, 45, 46, 47, 48, 8, 9, 10, 11, 12, 13, 14, 15, 16, 17, 18, 19, 20, 21, 22, 23, 24, 25, 26, 27, 28, 29, 30, 31, 49, 50, 51, 52, 53, 54, 55, 56, 57, 58, 59, 60, 32, 33, 34, 35, 36] rfl (by decide) rfl (by decide) (by decide) (fun _ => rfl) (by decide) (b := (ad 10)) 0 rfl rfl rfl hl.1 rfl rfl (Nat.le_of_ble_eq_true rfl) dX10_from_59 ⟨Nat.zero_le _, Nat.zero_le _⟩ (fun u3 H locs hm hP hD hS => ?_)
          obtain ⟨S2, hm, eS2⟩ := nm_ex hm
          rw [← eS2] at hP hD
          refine lv_iconst (v := (nI 1)) hx hb dX10_from_62 (by decide) ?_
          exact x_iretW (wf := (fun u => WC cs ad u)) hx hb hr hlk hK hP hD hS hm dX10_from_63
        · refine lv_aload_n hx hb dX10_from_48 rfl (lv_at hl 0 rfl) ?_
          refine gf_X10_39 (v := .ref (ad 50)) hx hb hT hown hK hP 0 rfl rfl dX10_from_49 ?_
          refine lv_goto (tgt := 59) hx hb dX10_from_52 (by decide) ?_
          refine xVW_v (As := [.ref (ad 50)]) (rest := []) (wr := [((ad 0), .inr (10, [.ref (ad 10), .ref (ad 30), .ref (ad 50), .ref (ad 70), .ref (ad 90), .ref (ad 95), .int (S.2.2.2.1 6), .int (S.2.2.2.1 7), .long (S.2.2.2.2 8), .long (S.2.2.2.2 9), .int (S.2.2.2.1 10), .int (S.2.2.2.1 11), .int (S.2.2.2.1 12)])), ((ad 1), .inl (cs 2, 6, .inr (.inr (.inr (.inr (fun k => some (ad (2 + k)))))))), ((ad 2), .inr (6, [])), ((ad 3), .inr (5, [])), ((ad 4), .inr (1, [])), ((ad 5), .inr (9, [])), ((ad 6), .inr (2, [])), ((ad 7), .inr (8, [])), ((ad 30), .inr (3, [.ref (ad 1), .ref (ad 31), .ref (ad 32), .ref (ad 34), .ref (ad 36), .ref (ad 38), .ref (ad 40), .int ((S.1 1).2 7), .int ((S.1 1).2 8), .int ((S.1 1).2 9), .int ((S.1 1).2 10)])), ((ad 31), .inr (6, [])), ((ad 32), .inr (7, [.int (nI 6), .int (nI 4), .ref (ad 33), .int (((S.1 1).1 0).1)])), ((ad 33), .inl (cs 0, 24, .inl (((S.1 1).1 0).2))), ((ad 34), .inr (7, [.int (nI 4), .int (nI 2), .ref (ad 35), .int (((S.1 1).1 1).1)])), ((ad 35), .inl (cs 0, 8, .inl (((S.1 1).1 1).2))), ((ad 36), .inr (7, [.int (nI 6), .int (nI 3), .ref (ad 37), .int (((S.1 1).1 2).1)])), ((ad 37), .inl (cs 0, 18, .inl (((S.1 1).1 2).2))), ((ad 38), .inr (7, [.int (nI 6), .int (nI 2), .ref (ad 39), .int (((S.1 1).1 3).1)])), ((ad 39), .inl (cs 0, 12, .inl (((S.1 1).1 3).2))), ((ad 40), .inr (7, [.int (nI 8), .int (nI 3), .ref (ad 41), .int (((S.1 1).1 4).1)])), ((ad 41), .inl (cs 0, 24, .inl (((S.1 1).1 4).2))), ((ad 70), .inr (3, [.ref (ad 1), .ref (ad 71), .ref (ad 72), .ref (ad 74), .ref (ad 76), .ref (ad 78), .ref (ad 80), .int ((S.1 3).2 7), .int ((S.1 3).2 8), .int ((S.1 3).2 9), .int ((S.1 3).2 10)])), ((ad 71), .inr (6, [])), ((ad 72), .inr (7, [.int (nI 6), .int (nI 4), .ref (ad 73), .int (((S.1 3).1 0).1)])), ((ad 73), .inl (cs 0, 24, .inl (((S.1 3).1 0).2))), ((ad 74), .inr (7, [.int (nI 4), .int (nI 2), .ref (ad 75), .int (((S.1 3).1 1).1)])), ((ad 75), .inl (cs 0, 8, .inl (((S.1 3).1 1).2))), ((ad 76), .inr (7, [.int (nI 6), .int (nI 3), .ref (ad 77), .int (((S.1 3).1 2).1)])), ((ad 77), .inl (cs 0, 18, .inl (((S.1 3).1 2).2))), ((ad 78), .inr (7, [.int (nI 6), .int (nI 2), .ref (ad 79), .int (((S.1 3).1 3).1)])), ((ad 79), .inl (cs 0, 12, .inl (((S.1 3).1 3).2))), ((ad 80), .inr (7, [.int (nI 8), .int (nI 3), .ref (ad 81), .int (((S.1 3).1 4).1)])), ((ad 81), .inl (cs 0, 24, .inl (((S.1 3).1 4).2))), ((ad 90), .inr (0, [.ref (ad 91), .int ((S.2.1).2 1), .int ((S.2.1).2 2), .int ((S.2.1).2 3), .int ((S.2.1).2 4), .int ((S.2.1).2 5), .int ((S.2.1).2 6), .int ((S.2.1).2 7), .int ((S.2.1).2 8), .int ((S.2.1).2 9), .int ((S.2.1).2 10), .int ((S.2.1).2 11)])), ((ad 91), .inl (cs 0, 150, .inl ((S.2.1).1))), ((ad 95), .inr (4, [.ref (ad 96), .ref (ad 97)])), ((ad 96), .inl (cs 0, 64, .inl ((S.2.2.1).1))), ((ad 97), .inl (cs 0, 64, .inl ((S.2.2.1).2)))]) (wg := fun u5 => WC cs ad (cM S 0 u5)) hx hb hml hown hT hN hK hP hD hS hA cw_X10_118 hm (fun z h => tcX3_become l D cs ad 10 50 (S.1 2) H.size (S.1 0) z h) ⟨rfl, rfl⟩ ⟨by decide, by decide⟩ [8, 9, 10, 11, 12, 13, 14, 15, 16, 17, 18, 19, 32, 33, 34, 35, 36, 37, 38, 39, 40, 41, 42, 43] [0, 1, 2, 3, 4, 5, 6, 7, 20, 21, 22, 23, 24, 25, 26, 27, 28, 29, 30, 31, 44, 45, 46, 47, 48, 49, 50, 51, 52, 53, 54, 55, 56, 57, 58, 59, 60] [0, 1, 2, 3, 4, 5, 6, 7, 37, 38, 39, 40, 41, 42, 43, 44, 45, 46, 47, 48, 8, 9, 10, 11, 12, 13, 14, 15, 16, 17, 18, 19, 49, 50, 51, 52, 53, 54, 55, 56, 57, 58, 59, 60, 20, 21, 22, 23, 24, 25, 26, 27, 28, 29, 30, 31, 32, 33, 34, 35, 36] rfl (by decide) rfl (by decide) (by decide) (fun _ => rfl) (by decide) (b := (ad 10)) 0 rfl rfl rfl hl.1 rfl rfl (Nat.le_of_ble_eq_true rfl) dX10_from_59 ⟨Nat.zero_le _, Nat.zero_le _⟩ (fun u5 H locs hm hP hD hS => ?_)
          obtain ⟨S4, hm, eS4⟩ := nm_ex hm
          rw [← eS4] at hP hD
          refine lv_iconst (v := (nI 1)) hx hb dX10_from_62 (by decide) ?_
          exact x_iretW (wf := (fun u => WC cs ad u)) hx hb hr hlk hK hP hD hS hm dX10_from_63
      · refine lv_aload_n hx hb dX10_from_35 rfl (lv_at hl 0 rfl) ?_
        refine xVW_i (As := []) (rest := []) (wr := []) (wg := (fun u => WC cs ad u)) hx hb hml hown hT hN hK hP hD hS hA cw_X10_141 hm (fun z h => tcX10_refuseNo l D cs ad H.size S z h) ⟨rfl, rfl⟩ ⟨by decide, by decide⟩ [0, 1, 2, 3, 4, 5, 6, 7, 8, 9, 10, 11, 12, 13, 14, 15, 16, 17, 18, 19, 20, 21, 22, 23, 24, 25, 26, 27, 28, 29, 30, 31, 32, 33, 34, 35, 36, 37, 38, 39, 40, 41, 42, 43, 44, 45, 46, 47, 48, 49, 50, 51, 52, 53, 54, 55, 56, 57, 58, 59, 60] [] [0, 1, 2, 3, 4, 5, 6, 7, 8, 9, 10, 11, 12, 13, 14, 15, 16, 17, 18, 19, 20, 21, 22, 23, 24, 25, 26, 27, 28, 29, 30, 31, 32, 33, 34, 35, 36, 37, 38, 39, 40, 41, 42, 43, 44, 45, 46, 47, 48, 49, 50, 51, 52, 53, 54, 55, 56, 57, 58, 59, 60] rfl (by decide) rfl (by decide) (by decide) (fun _ => rfl) (by decide) (b := (ad 0)) 0 rfl rfl rfl hl.1 rfl rfl (Nat.le_of_ble_eq_true rfl) dX10_from_36 ⟨Nat.zero_le _, Nat.zero_le _⟩ (fun r7 S6 H locs hm hP hD hS => ?_)
        exact x_iretW (wf := (fun u => WC cs ad u)) hx hb hr hlk hK hP hD hS hm dX10_from_39
    · refine lv_aload_n hx hb dX10_from_18 rfl (lv_at hl 0 rfl) ?_
      refine gf_X10_256 (v := .int (S.2.2.2.1 6)) hx hb hT hown hK hP 0 rfl rfl dX10_from_19 ?_
      refine x_if_ne (tgt := 40) hx hb dX10_from_22 (by decide) hm (fun hm => ?_) (fun hm => ?_)
      · refine lv_aload_n hx hb dX10_from_40 rfl (lv_at hl 0 rfl) ?_
        refine gf_X10_30 (v := .ref (ad 10)) hx hb hT hown hK hP 0 rfl rfl dX10_from_41 ?_
        refine lv_iload_n hx hb dX10_from_44 rfl (lv_at hl 1 rfl) ?_
        refine x_if_ne (tgt := 55) hx hb dX10_from_45 (by decide) hm (fun hm => ?_) (fun hm => ?_)
        · refine lv_aload_n hx hb dX10_from_55 rfl (lv_at hl 0 rfl) ?_
          refine gf_X10_42 (v := .ref (ad 70)) hx hb hT hown hK hP 0 rfl rfl dX10_from_56 ?_
          refine xVW_v (As := [.ref (ad 70)]) (rest := []) (wr := [((ad 0), .inr (10, [.ref (ad 10), .ref (ad 30), .ref (ad 50), .ref (ad 70), .ref (ad 90), .ref (ad 95), .int (S.2.2.2.1 6), .int (S.2.2.2.1 7), .long (S.2.2.2.2 8), .long (S.2.2.2.2 9), .int (S.2.2.2.1 10), .int (S.2.2.2.1 11), .int (S.2.2.2.1 12)])), ((ad 1), .inl (cs 2, 6, .inr (.inr (.inr (.inr (fun k => some (ad (2 + k)))))))), ((ad 2), .inr (6, [])), ((ad 3), .inr (5, [])), ((ad 4), .inr (1, [])), ((ad 5), .inr (9, [])), ((ad 6), .inr (2, [])), ((ad 7), .inr (8, [])), ((ad 30), .inr (3, [.ref (ad 1), .ref (ad 31), .ref (ad 32), .ref (ad 34), .ref (ad 36), .ref (ad 38), .ref (ad 40), .int ((S.1 1).2 7), .int ((S.1 1).2 8), .int ((S.1 1).2 9), .int ((S.1 1).2 10)])), ((ad 31), .inr (6, [])), ((ad 32), .inr (7, [.int (nI 6), .int (nI 4), .ref (ad 33), .int (((S.1 1).1 0).1)])), ((ad 33), .inl (cs 0, 24, .inl (((S.1 1).1 0).2))), ((ad 34), .inr (7, [.int (nI 4), .int (nI 2), .ref (ad 35), .int (((S.1 1).1 1).1)])), ((ad 35), .inl (cs 0, 8, .inl (((S.1 1).1 1).2))), ((ad 36), .inr (7, [.int (nI 6), .int (nI 3), .ref (ad 37), .int (((S.1 1).1 2).1)])), ((ad 37), .inl (cs 0, 18, .inl (((S.1 1).1 2).2))), ((ad 38), .inr (7, [.int (nI 6), .int (nI 2), .ref (ad 39), .int (((S.1 1).1 3).1)])), ((ad 39), .inl (cs 0, 12, .inl (((S.1 1).1 3).2))), ((ad 40), .inr (7, [.int (nI 8), .int (nI 3), .ref (ad 41), .int (((S.1 1).1 4).1)])), ((ad 41), .inl (cs 0, 24, .inl (((S.1 1).1 4).2))), ((ad 50), .inr (3, [.ref (ad 1), .ref (ad 51), .ref (ad 52), .ref (ad 54), .ref (ad 56), .ref (ad 58), .ref (ad 60), .int ((S.1 2).2 7), .int ((S.1 2).2 8), .int ((S.1 2).2 9), .int ((S.1 2).2 10)])), ((ad 51), .inr (6, [])), ((ad 52), .inr (7, [.int (nI 6), .int (nI 4), .ref (ad 53), .int (((S.1 2).1 0).1)])), ((ad 53), .inl (cs 0, 24, .inl (((S.1 2).1 0).2))), ((ad 54), .inr (7, [.int (nI 4), .int (nI 2), .ref (ad 55), .int (((S.1 2).1 1).1)])), ((ad 55), .inl (cs 0, 8, .inl (((S.1 2).1 1).2))), ((ad 56), .inr (7, [.int (nI 6), .int (nI 3), .ref (ad 57), .int (((S.1 2).1 2).1)])), ((ad 57), .inl (cs 0, 18, .inl (((S.1 2).1 2).2))), ((ad 58), .inr (7, [.int (nI 6), .int (nI 2), .ref (ad 59), .int (((S.1 2).1 3).1)])), ((ad 59), .inl (cs 0, 12, .inl (((S.1 2).1 3).2))), ((ad 60), .inr (7, [.int (nI 8), .int (nI 3), .ref (ad 61), .int (((S.1 2).1 4).1)])), ((ad 61), .inl (cs 0, 24, .inl (((S.1 2).1 4).2))), ((ad 90), .inr (0, [.ref (ad 91), .int ((S.2.1).2 1), .int ((S.2.1).2 2), .int ((S.2.1).2 3), .int ((S.2.1).2 4), .int ((S.2.1).2 5), .int ((S.2.1).2 6), .int ((S.2.1).2 7), .int ((S.2.1).2 8), .int ((S.2.1).2 9), .int ((S.2.1).2 10), .int ((S.2.1).2 11)])), ((ad 91), .inl (cs 0, 150, .inl ((S.2.1).1))), ((ad 95), .inr (4, [.ref (ad 96), .ref (ad 97)])), ((ad 96), .inl (cs 0, 64, .inl ((S.2.2.1).1))), ((ad 97), .inl (cs 0, 64, .inl ((S.2.2.1).2)))]) (wg := fun u9 => WC cs ad (cM S 0 u9)) hx hb hml hown hT hN hK hP hD hS hA cw_X10_118 hm (fun z h => tcX3_become l D cs ad 10 70 (S.1 3) H.size (S.1 0) z h) ⟨rfl, rfl⟩ ⟨by decide, by decide⟩ [8, 9, 10, 11, 12, 13, 14, 15, 16, 17, 18, 19, 44, 45, 46, 47, 48, 49, 50, 51, 52, 53, 54, 55] [0, 1, 2, 3, 4, 5, 6, 7, 20, 21, 22, 23, 24, 25, 26, 27, 28, 29, 30, 31, 32, 33, 34, 35, 36, 37, 38, 39, 40, 41, 42, 43, 56, 57, 58, 59, 60] [0, 1, 2, 3, 4, 5, 6, 7, 37, 38, 39, 40, 41, 42, 43, 44, 45, 46, 47, 48, 8, 9, 10, 11, 12, 13, 14, 15, 16, 17, 18, 19, 20, 21, 22, 23, 24, 25, 26, 27, 28, 29, 30, 31, 49, 50, 51, 52, 53, 54, 55, 56, 57, 58, 59, 60, 32, 33, 34, 35, 36] rfl (by decide) rfl (by decide) (by decide) (fun _ => rfl) (by decide) (b := (ad 10)) 0 rfl rfl rfl hl.1 rfl rfl (Nat.le_of_ble_eq_true rfl) dX10_from_59 ⟨Nat.zero_le _, Nat.zero_le _⟩ (fun u9 H locs hm hP hD hS => ?_)
          obtain ⟨S8, hm, eS8⟩ := nm_ex hm
          rw [← eS8] at hP hD
          refine lv_iconst (v := (nI 1)) hx hb dX10_from_62 (by decide) ?_
          exact x_iretW (wf := (fun u => WC cs ad u)) hx hb hr hlk hK hP hD hS hm dX10_from_63
        · refine lv_aload_n hx hb dX10_from_48 rfl (lv_at hl 0 rfl) ?_
          refine gf_X10_39 (v := .ref (ad 50)) hx hb hT hown hK hP 0 rfl rfl dX10_from_49 ?_
          refine lv_goto (tgt := 59) hx hb dX10_from_52 (by decide) ?_
          refine xVW_v (As := [.ref (ad 50)]) (rest := []) (wr := [((ad 0), .inr (10, [.ref (ad 10), .ref (ad 30), .ref (ad 50), .ref (ad 70), .ref (ad 90), .ref (ad 95), .int (S.2.2.2.1 6), .int (S.2.2.2.1 7), .long (S.2.2.2.2 8), .long (S.2.2.2.2 9), .int (S.2.2.2.1 10), .int (S.2.2.2.1 11), .int (S.2.2.2.1 12)])), ((ad 1), .inl (cs 2, 6, .inr (.inr (.inr (.inr (fun k => some (ad (2 + k)))))))), ((ad 2), .inr (6, [])), ((ad 3), .inr (5, [])), ((ad 4), .inr (1, [])), ((ad 5), .inr (9, [])), ((ad 6), .inr (2, [])), ((ad 7), .inr (8, [])), ((ad 30), .inr (3, [.ref (ad 1), .ref (ad 31), .ref (ad 32), .ref (ad 34), .ref (ad 36), .ref (ad 38), .ref (ad 40), .int ((S.1 1).2 7), .int ((S.1 1).2 8), .int ((S.1 1).2 9), .int ((S.1 1).2 10)])), ((ad 31), .inr (6, [])), ((ad 32), .inr (7, [.int (nI 6), .int (nI 4), .ref (ad 33), .int (((S.1 1).1 0).1)])), ((ad 33), .inl (cs 0, 24, .inl (((S.1 1).1 0).2))), ((ad 34), .inr (7, [.int (nI 4), .int (nI 2), .ref (ad 35), .int (((S.1 1).1 1).1)])), ((ad 35), .inl (cs 0, 8, .inl (((S.1 1).1 1).2))), ((ad 36), .inr (7, [.int (nI 6), .int (nI 3), .ref (ad 37), .int (((S.1 1).1 2).1)])), ((ad 37), .inl (cs 0, 18, .inl (((S.1 1).1 2).2))), ((ad 38), .inr (7, [.int (nI 6), .int (nI 2), .ref (ad 39), .int (((S.1 1).1 3).1)])), ((ad 39), .inl (cs 0, 12, .inl (((S.1 1).1 3).2))), ((ad 40), .inr (7, [.int (nI 8), .int (nI 3), .ref (ad 41), .int (((S.1 1).1 4).1)])), ((ad 41), .inl (cs 0, 24, .inl (((S.1 1).1 4).2))), ((ad 70), .inr (3, [.ref (ad 1), .ref (ad 71), .ref (ad 72), .ref (ad 74), .ref (ad 76), .ref (ad 78), .ref (ad 80), .int ((S.1 3).2 7), .int ((S.1 3).2 8), .int ((S.1 3).2 9), .int ((S.1 3).2 10)])), ((ad 71), .inr (6, [])), ((ad 72), .inr (7, [.int (nI 6), .int (nI 4), .ref (ad 73), .int (((S.1 3).1 0).1)])), ((ad 73), .inl (cs 0, 24, .inl (((S.1 3).1 0).2))), ((ad 74), .inr (7, [.int (nI 4), .int (nI 2), .ref (ad 75), .int (((S.1 3).1 1).1)])), ((ad 75), .inl (cs 0, 8, .inl (((S.1 3).1 1).2))), ((ad 76), .inr (7, [.int (nI 6), .int (nI 3), .ref (ad 77), .int (((S.1 3).1 2).1)])), ((ad 77), .inl (cs 0, 18, .inl (((S.1 3).1 2).2))), ((ad 78), .inr (7, [.int (nI 6), .int (nI 2), .ref (ad 79), .int (((S.1 3).1 3).1)])), ((ad 79), .inl (cs 0, 12, .inl (((S.1 3).1 3).2))), ((ad 80), .inr (7, [.int (nI 8), .int (nI 3), .ref (ad 81), .int (((S.1 3).1 4).1)])), ((ad 81), .inl (cs 0, 24, .inl (((S.1 3).1 4).2))), ((ad 90), .inr (0, [.ref (ad 91), .int ((S.2.1).2 1), .int ((S.2.1).2 2), .int ((S.2.1).2 3), .int ((S.2.1).2 4), .int ((S.2.1).2 5), .int ((S.2.1).2 6), .int ((S.2.1).2 7), .int ((S.2.1).2 8), .int ((S.2.1).2 9), .int ((S.2.1).2 10), .int ((S.2.1).2 11)])), ((ad 91), .inl (cs 0, 150, .inl ((S.2.1).1))), ((ad 95), .inr (4, [.ref (ad 96), .ref (ad 97)])), ((ad 96), .inl (cs 0, 64, .inl ((S.2.2.1).1))), ((ad 97), .inl (cs 0, 64, .inl ((S.2.2.1).2)))]) (wg := fun u11 => WC cs ad (cM S 0 u11)) hx hb hml hown hT hN hK hP hD hS hA cw_X10_118 hm (fun z h => tcX3_become l D cs ad 10 50 (S.1 2) H.size (S.1 0) z h) ⟨rfl, rfl⟩ ⟨by decide, by decide⟩ [8, 9, 10, 11, 12, 13, 14, 15, 16, 17, 18, 19, 32, 33, 34, 35, 36, 37, 38, 39, 40, 41, 42, 43] [0, 1, 2, 3, 4, 5, 6, 7, 20, 21, 22, 23, 24, 25, 26, 27, 28, 29, 30, 31, 44, 45, 46, 47, 48, 49, 50, 51, 52, 53, 54, 55, 56, 57, 58, 59, 60] [0, 1, 2, 3, 4, 5, 6, 7, 37, 38, 39, 40, 41, 42, 43, 44, 45, 46, 47, 48, 8, 9, 10, 11, 12, 13, 14, 15, 16, 17, 18, 19, 49, 50, 51, 52, 53, 54, 55, 56, 57, 58, 59, 60, 20, 21, 22, 23, 24, 25, 26, 27, 28, 29, 30, 31, 32, 33, 34, 35, 36] rfl (by decide) rfl (by decide) (by decide) (fun _ => rfl) (by decide) (b := (ad 10)) 0 rfl rfl rfl hl.1 rfl rfl (Nat.le_of_ble_eq_true rfl) dX10_from_59 ⟨Nat.zero_le _, Nat.zero_le _⟩ (fun u11 H locs hm hP hD hS => ?_)
          obtain ⟨S10, hm, eS10⟩ := nm_ex hm
          rw [← eS10] at hP hD
          refine lv_iconst (v := (nI 1)) hx hb dX10_from_62 (by decide) ?_
          exact x_iretW (wf := (fun u => WC cs ad u)) hx hb hr hlk hK hP hD hS hm dX10_from_63
      · refine lv_goto (tgt := 35) hx hb dX10_from_25 (by decide) ?_
        refine lv_aload_n hx hb dX10_from_35 rfl (lv_at hl 0 rfl) ?_
        refine xVW_i (As := []) (rest := []) (wr := []) (wg := (fun u => WC cs ad u)) hx hb hml hown hT hN hK hP hD hS hA cw_X10_141 hm (fun z h => tcX10_refuseNo l D cs ad H.size S z h) ⟨rfl, rfl⟩ ⟨by decide, by decide⟩ [0, 1, 2, 3, 4, 5, 6, 7, 8, 9, 10, 11, 12, 13, 14, 15, 16, 17, 18, 19, 20, 21, 22, 23, 24, 25, 26, 27, 28, 29, 30, 31, 32, 33, 34, 35, 36, 37, 38, 39, 40, 41, 42, 43, 44, 45, 46, 47, 48, 49, 50, 51, 52, 53, 54, 55, 56, 57, 58, 59, 60] [] [0, 1, 2, 3, 4, 5, 6, 7, 8, 9, 10, 11, 12, 13, 14, 15, 16, 17, 18, 19, 20, 21, 22, 23, 24, 25, 26, 27, 28, 29, 30, 31, 32, 33, 34, 35, 36, 37, 38, 39, 40, 41, 42, 43, 44, 45, 46, 47, 48, 49, 50, 51, 52, 53, 54, 55, 56, 57, 58, 59, 60] rfl (by decide) rfl (by decide) (by decide) (fun _ => rfl) (by decide) (b := (ad 0)) 0 rfl rfl rfl hl.1 rfl rfl (Nat.le_of_ble_eq_true rfl) dX10_from_36 ⟨Nat.zero_le _, Nat.zero_le _⟩ (fun r13 S12 H locs hm hP hD hS => ?_)
        exact x_iretW (wf := (fun u => WC cs ad u)) hx hb hr hlk hK hP hD hS hm dX10_from_39
  · refine lv_aload_n hx hb dX10_from_9 rfl (lv_at hl 0 rfl) ?_
    refine xVW_i (As := []) (rest := []) (wr := []) (wg := (fun u => WC cs ad u)) hx hb hml hown hT hN hK hP hD hS hA cw_X10_70 hm (fun z h => tcX10_refuseBad l D cs ad H.size S z h) ⟨rfl, rfl⟩ ⟨by decide, by decide⟩ [0, 1, 2, 3, 4, 5, 6, 7, 8, 9, 10, 11, 12, 13, 14, 15, 16, 17, 18, 19, 20, 21, 22, 23, 24, 25, 26, 27, 28, 29, 30, 31, 32, 33, 34, 35, 36, 37, 38, 39, 40, 41, 42, 43, 44, 45, 46, 47, 48, 49, 50, 51, 52, 53, 54, 55, 56, 57, 58, 59, 60] [] [0, 1, 2, 3, 4, 5, 6, 7, 8, 9, 10, 11, 12, 13, 14, 15, 16, 17, 18, 19, 20, 21, 22, 23, 24, 25, 26, 27, 28, 29, 30, 31, 32, 33, 34, 35, 36, 37, 38, 39, 40, 41, 42, 43, 44, 45, 46, 47, 48, 49, 50, 51, 52, 53, 54, 55, 56, 57, 58, 59, 60] rfl (by decide) rfl (by decide) (by decide) (fun _ => rfl) (by decide) (b := (ad 0)) 0 rfl rfl rfl hl.1 rfl rfl (Nat.le_of_ble_eq_true rfl) dX10_from_10 ⟨Nat.zero_le _, Nat.zero_le _⟩ (fun r15 S14 H locs hm hP hD hS => ?_)
    exact x_iretW (wf := (fun u => WC cs ad u)) hx hb hr hlk hK hP hD hS hm dX10_from_13
noncomputable def mX10_refuseFull (S : CT) : Option (Int32 × CT) := nm (cI S 12 ((S.2.2.2.1 12) + (nI 1))) fun S1 => some ((-4 : Int32), S1)
set_option maxHeartbeats 4000000 in
set_option maxRecDepth 100000 in
theorem tcX10_refuseFull (l : Launch) (D : va_G) (cs : CS) (ad : Nat → Nat) (sz : Nat) (S : CT) (z : Int32 × CT) (hm : mX10_refuseFull S = some z) : Met l yX10_refuseFull (Cond.code yX10_refuseFull cX10_refuseFull 1 (some .int) :: gw_tbl) ({ frames := 0, cells := 0, slots := 0, locals := 0 }) (PcW D cs sz (WC cs ad S) [.ref (ad 0)]) (QWi D cs (va_A (WC cs ad S) sz) (fun u => WC cs ad u) z) 0 0 (va_A (WC cs ad S) sz) := by
  refine met_W rfl (Nat.le_of_ble_eq_true rfl) (fun p e s m below meth c E hP hD hS hA ls hl => ?_)
  generalize va_A (WC cs ad S) sz = A at hD hS hA ⊢
  obtain ⟨hx, hb, hr, hml, hown, hlk, hT, hN, hK⟩ := id E
  obtain ⟨H, hH⟩ : ∃ H, H = s.heap := ⟨_, rfl⟩
  obtain ⟨locs, hlo⟩ : ∃ L : List Loc, L = [] := ⟨_, rfl⟩
  have hP : va_P D classes (WC cs ad S) H := by rw [hH]; exact hP
  have hS : va_S A s.heap H locs := by rw [hH, hlo]; exact hS
  rw [show W p l e _ s m _ below meth c s.heap [] 0 0 = W p l e _ s m _ below meth c H locs 0 0 by rw [hH, hlo]]
  have hl : lv_has ls 1 [(0, .ref (ad 0))] := hl
  unfold mX10_refuseFull at hm
  refine lv_aload_n hx hb dX10_refuseFull_0 rfl (lv_at hl 0 rfl) ?_
  refine lv_dup hx hb dX10_refuseFull_1 rfl ?_
  refine gf_X10_269 (v := .int (S.2.2.2.1 12)) hx hb hT hown hK hP 0 rfl rfl dX10_refuseFull_2 ?_
  refine lv_iconst (v := (nI 1)) hx hb dX10_refuseFull_5 (by decide) ?_
  refine lv_iadd hx hb dX10_refuseFull_6 ?_
  refine pf_X10_269 (wf := (fun u => WC cs ad u)) (u0 := cI S 12 ((S.2.2.2.1 12) + (nI 1))) hx hb hT hown hK hP hD hS 0 rfl (Nat.le_of_ble_eq_true rfl) rfl rfl rfl hm dX10_refuseFull_7 (fun S1 H locs hm hP hD hS => ?_)
  refine lv_bipush (v := (-4 : Int32)) hx hb dX10_refuseFull_10 (by decide) ?_
  exact x_iretW (wf := (fun u => WC cs ad u)) hx hb hr hlk hK hP hD hS hm dX10_refuseFull_12
noncomputable def mX10_fiction (S : CT) (a1 : Int32) (a2 : Int32) (a3 : Int32) (a4 : Int32) : Option (Int32 × CT) := (mX10_within a1 (nI 0) (nI 5)).bind fun r1 => (if r1 = 0 then (mX10_refuseBad S).bind fun ⟨r3, S2⟩ => some (r3, S2) else (mX10_within a2 (nI 0) (nI 255)).bind fun r4 => (if r4 = 0 then (mX10_refuseBad S).bind fun ⟨r6, S5⟩ => some (r6, S5) else (mX10_within a3 (nI 0) (nI 7)).bind fun r7 => (if r7 = 0 then (mX10_refuseBad S).bind fun ⟨r9, S8⟩ => some (r9, S8) else (mX10_within a4 (nI 0) (nI 20)).bind fun r10 => (if r10 = 0 then (mX10_refuseBad S).bind fun ⟨r19, S18⟩ => some (r19, S18) else (mX7_isFull (nI 6) (nI 4) 24 ((S.1 0).1 0)).bind fun r11 => (if r11 = 0 then (mX7_add (nI 6) (nI 4) 24 ((S.1 0).1 0) a1 a2 a3 a4).bind fun u13 => nm (cM S 0 (tR (S.1 0) 0 u13)) fun S12 => (mX7_empty (nI 8) (nI 3) 24 ((S12.1 0).1 4)).bind fun u15 => nm (cM S12 0 (tR (S12.1 0) 4 u15)) fun S14 => some (((((S14.1 0).1 0).1) - (nI 1)), S14) else (mX10_refuseFull S).bind fun ⟨r17, S16⟩ => some (r17, S16))))))
set_option maxHeartbeats 4000000 in
set_option maxRecDepth 100000 in
theorem tcX10_fiction (l : Launch) (D : va_G) (cs : CS) (ad : Nat → Nat) (sz : Nat) (S : CT) (a1 : Int32) (a2 : Int32) (a3 : Int32) (a4 : Int32) (z : Int32 × CT) (hm : mX10_fiction S a1 a2 a3 a4 = some z) : Met l yX10_fiction (Cond.code yX10_fiction cX10_fiction 5 (some .int) :: gw_tbl) ({ frames := 2, cells := 0, slots := 0, locals := 48 }) (PcW D cs sz (WC cs ad S) [.ref (ad 0), .int a1, .int a2, .int a3, .int a4]) (QWi D cs (va_A (WC cs ad S) sz) (fun u => WC cs ad u) z) 0 0 (va_A (WC cs ad S) sz) := by
  refine met_W rfl (Nat.le_of_ble_eq_true rfl) (fun p e s m below meth c E hP hD hS hA ls hl => ?_)
  generalize va_A (WC cs ad S) sz = A at hD hS hA ⊢
  obtain ⟨hx, hb, hr, hml, hown, hlk, hT, hN, hK⟩ := id E
  obtain ⟨H, hH⟩ : ∃ H, H = s.heap := ⟨_, rfl⟩
  obtain ⟨locs, hlo⟩ : ∃ L : List Loc, L = [] := ⟨_, rfl⟩
  have hP : va_P D classes (WC cs ad S) H := by rw [hH]; exact hP
  have hS : va_S A s.heap H locs := by rw [hH, hlo]; exact hS
  rw [show W p l e _ s m _ below meth c s.heap [] 0 0 = W p l e _ s m _ below meth c H locs 0 0 by rw [hH, hlo]]
  have hl : lv_has ls 5 [(0, .ref (ad 0)), (1, .int a1), (2, .int a2), (3, .int a3), (4, .int a4)] := hl
  unfold mX10_fiction at hm
  refine lv_iload_n hx hb dX10_fiction_0 rfl (lv_at hl 1 rfl) ?_
  refine lv_iconst (v := (nI 0)) hx hb dX10_fiction_1 (by decide) ?_
  refine lv_iconst (v := (nI 5)) hx hb dX10_fiction_2 (by decide) ?_
  refine xS_i (As := [.int a1, .int (nI 0), .int (nI 5)]) (rest := []) hx hb hml hown hT hN hK (hP.sub (ws' := []) [] rfl) cw_X10_66 hm (fun z h => tcX10_within l D cs a1 (nI 0) (nI 5) z h) ⟨rfl, rfl⟩ ⟨by decide, by decide⟩ hl.1 rfl rfl (Nat.le_of_ble_eq_true rfl) dX10_fiction_3 ⟨Nat.zero_le _, Nat.zero_le _⟩ (fun r1 hm => ?_)
  refine x_if_eq (tgt := 41) hx hb dX10_fiction_6 (by decide) hm (fun hm => ?_) (fun hm => ?_)
  · refine lv_aload_n hx hb dX10_fiction_41 rfl (lv_at hl 0 rfl) ?_
    refine xVW_i (As := []) (rest := []) (wr := []) (wg := (fun u => WC cs ad u)) hx hb hml hown hT hN hK hP hD hS hA cw_X10_70 hm (fun z h => tcX10_refuseBad l D cs ad H.size S z h) ⟨rfl, rfl⟩ ⟨by decide, by decide⟩ [0, 1, 2, 3, 4, 5, 6, 7, 8, 9, 10, 11, 12, 13, 14, 15, 16, 17, 18, 19, 20, 21, 22, 23, 24, 25, 26, 27, 28, 29, 30, 31, 32, 33, 34, 35, 36, 37, 38, 39, 40, 41, 42, 43, 44, 45, 46, 47, 48, 49, 50, 51, 52, 53, 54, 55, 56, 57, 58, 59, 60] [] [0, 1, 2, 3, 4, 5, 6, 7, 8, 9, 10, 11, 12, 13, 14, 15, 16, 17, 18, 19, 20, 21, 22, 23, 24, 25, 26, 27, 28, 29, 30, 31, 32, 33, 34, 35, 36, 37, 38, 39, 40, 41, 42, 43, 44, 45, 46, 47, 48, 49, 50, 51, 52, 53, 54, 55, 56, 57, 58, 59, 60] rfl (by decide) rfl (by decide) (by decide) (fun _ => rfl) (by decide) (b := (ad 0)) 0 rfl rfl rfl hl.1 rfl rfl (Nat.le_of_ble_eq_true rfl) dX10_fiction_42 ⟨Nat.zero_le _, Nat.zero_le _⟩ (fun r3 S2 H locs hm hP hD hS => ?_)
    exact x_iretW (wf := (fun u => WC cs ad u)) hx hb hr hlk hK hP hD hS hm dX10_fiction_45
  · refine lv_iload_n hx hb dX10_fiction_9 rfl (lv_at hl 2 rfl) ?_
    refine lv_iconst (v := (nI 0)) hx hb dX10_fiction_10 (by decide) ?_
    refine lv_sipush (v := (nI 255)) hx hb dX10_fiction_11 (by decide) ?_
    refine xS_i (As := [.int a2, .int (nI 0), .int (nI 255)]) (rest := []) hx hb hml hown hT hN hK (hP.sub (ws' := []) [] rfl) cw_X10_66 hm (fun z h => tcX10_within l D cs a2 (nI 0) (nI 255) z h) ⟨rfl, rfl⟩ ⟨by decide, by decide⟩ hl.1 rfl rfl (Nat.le_of_ble_eq_true rfl) dX10_fiction_14 ⟨Nat.zero_le _, Nat.zero_le _⟩ (fun r4 hm => ?_)
    refine x_if_eq (tgt := 41) hx hb dX10_fiction_17 (by decide) hm (fun hm => ?_) (fun hm => ?_)
    · refine lv_aload_n hx hb dX10_fiction_41 rfl (lv_at hl 0 rfl) ?_
      refine xVW_i (As := []) (rest := []) (wr := []) (wg := (fun u => WC cs ad u)) hx hb hml hown hT hN hK hP hD hS hA cw_X10_70 hm (fun z h => tcX10_refuseBad l D cs ad H.size S z h) ⟨rfl, rfl⟩ ⟨by decide, by decide⟩ [0, 1, 2, 3, 4, 5, 6, 7, 8, 9, 10, 11, 12, 13, 14, 15, 16, 17, 18, 19, 20, 21, 22, 23, 24, 25, 26, 27, 28, 29, 30, 31, 32, 33, 34, 35, 36, 37, 38, 39, 40, 41, 42, 43, 44, 45, 46, 47, 48, 49, 50, 51, 52, 53, 54, 55, 56, 57, 58, 59, 60] [] [0, 1, 2, 3, 4, 5, 6, 7, 8, 9, 10, 11, 12, 13, 14, 15, 16, 17, 18, 19, 20, 21, 22, 23, 24, 25, 26, 27, 28, 29, 30, 31, 32, 33, 34, 35, 36, 37, 38, 39, 40, 41, 42, 43, 44, 45, 46, 47, 48, 49, 50, 51, 52, 53, 54, 55, 56, 57, 58, 59, 60] rfl (by decide) rfl (by decide) (by decide) (fun _ => rfl) (by decide) (b := (ad 0)) 0 rfl rfl rfl hl.1 rfl rfl (Nat.le_of_ble_eq_true rfl) dX10_fiction_42 ⟨Nat.zero_le _, Nat.zero_le _⟩ (fun r6 S5 H locs hm hP hD hS => ?_)
      exact x_iretW (wf := (fun u => WC cs ad u)) hx hb hr hlk hK hP hD hS hm dX10_fiction_45
    · refine lv_iload_n hx hb dX10_fiction_20 rfl (lv_at hl 3 rfl) ?_
      refine lv_iconst (v := (nI 0)) hx hb dX10_fiction_21 (by decide) ?_
      refine lv_bipush (v := (nI 7)) hx hb dX10_fiction_22 (by decide) ?_
      refine xS_i (As := [.int a3, .int (nI 0), .int (nI 7)]) (rest := []) hx hb hml hown hT hN hK (hP.sub (ws' := []) [] rfl) cw_X10_66 hm (fun z h => tcX10_within l D cs a3 (nI 0) (nI 7) z h) ⟨rfl, rfl⟩ ⟨by decide, by decide⟩ hl.1 rfl rfl (Nat.le_of_ble_eq_true rfl) dX10_fiction_24 ⟨Nat.zero_le _, Nat.zero_le _⟩ (fun r7 hm => ?_)
      refine x_if_eq (tgt := 41) hx hb dX10_fiction_27 (by decide) hm (fun hm => ?_) (fun hm => ?_)
      · refine lv_aload_n hx hb dX10_fiction_41 rfl (lv_at hl 0 rfl) ?_
        refine xVW_i (As := []) (rest := []) (wr := []) (wg := (fun u => WC cs ad u)) hx hb hml hown hT hN hK hP hD hS hA cw_X10_70 hm (fun z h => tcX10_refuseBad l D cs ad H.size S z h) ⟨rfl, rfl⟩ ⟨by decide, by decide⟩ [0, 1, 2, 3, 4, 5, 6, 7, 8, 9, 10, 11, 12, 13, 14, 15, 16, 17, 18, 19, 20, 21, 22, 23, 24, 25, 26, 27, 28, 29, 30, 31, 32, 33, 34, 35, 36, 37, 38, 39, 40, 41, 42, 43, 44, 45, 46, 47, 48, 49, 50, 51, 52, 53, 54, 55, 56, 57, 58, 59, 60] [] [0, 1, 2, 3, 4, 5, 6, 7, 8, 9, 10, 11, 12, 13, 14, 15, 16, 17, 18, 19, 20, 21, 22, 23, 24, 25, 26, 27, 28, 29, 30, 31, 32, 33, 34, 35, 36, 37, 38, 39, 40, 41, 42, 43, 44, 45, 46, 47, 48, 49, 50, 51, 52, 53, 54, 55, 56, 57, 58, 59, 60] rfl (by decide) rfl (by decide) (by decide) (fun _ => rfl) (by decide) (b := (ad 0)) 0 rfl rfl rfl hl.1 rfl rfl (Nat.le_of_ble_eq_true rfl) dX10_fiction_42 ⟨Nat.zero_le _, Nat.zero_le _⟩ (fun r9 S8 H locs hm hP hD hS => ?_)
        exact x_iretW (wf := (fun u => WC cs ad u)) hx hb hr hlk hK hP hD hS hm dX10_fiction_45
      · refine lv_iload hx hb dX10_fiction_30 (lv_at hl 4 rfl) ?_
        refine lv_iconst (v := (nI 0)) hx hb dX10_fiction_32 (by decide) ?_
        refine lv_bipush (v := (nI 20)) hx hb dX10_fiction_33 (by decide) ?_
        refine xS_i (As := [.int a4, .int (nI 0), .int (nI 20)]) (rest := []) hx hb hml hown hT hN hK (hP.sub (ws' := []) [] rfl) cw_X10_66 hm (fun z h => tcX10_within l D cs a4 (nI 0) (nI 20) z h) ⟨rfl, rfl⟩ ⟨by decide, by decide⟩ hl.1 rfl rfl (Nat.le_of_ble_eq_true rfl) dX10_fiction_35 ⟨Nat.zero_le _, Nat.zero_le _⟩ (fun r10 hm => ?_)
        refine x_if_ne (tgt := 46) hx hb dX10_fiction_38 (by decide) hm (fun hm => ?_) (fun hm => ?_)
        · refine lv_aload_n hx hb dX10_fiction_46 rfl (lv_at hl 0 rfl) ?_
          refine gf_X10_30 (v := .ref (ad 10)) hx hb hT hown hK hP 0 rfl rfl dX10_fiction_47 ?_
          refine gf_X10_74 (v := .ref (ad 12)) hx hb hT hown hK hP 8 rfl rfl dX10_fiction_50 ?_
          refine xV_i (As := []) (rest := []) hx hb hml hown hT hN hK (hP.sub (ws' := WR cs ad 12 (nI 6) (nI 4) 24 ((S.1 0).1 0)) [10, 11] rfl) cw_X10_88 hm (fun z h => tcX7_isFull l D cs ad 12 (nI 6) (nI 4) 24 ((S.1 0).1 0) z h) ⟨rfl, rfl⟩ ⟨by decide, by decide⟩ (b := (ad 12)) 0 rfl rfl rfl hl.1 rfl rfl (Nat.le_of_ble_eq_true rfl) dX10_fiction_53 ⟨Nat.zero_le _, Nat.zero_le _⟩ (fun r11 hm => ?_)
          refine x_if_eq (tgt := 64) hx hb dX10_fiction_56 (by decide) hm (fun hm => ?_) (fun hm => ?_)
          · refine lv_aload_n hx hb dX10_fiction_64 rfl (lv_at hl 0 rfl) ?_
            refine gf_X10_30 (v := .ref (ad 10)) hx hb hT hown hK hP 0 rfl rfl dX10_fiction_65 ?_
            refine gf_X10_74 (v := .ref (ad 12)) hx hb hT hown hK hP 8 rfl rfl dX10_fiction_68 ?_
            refine lv_iload_n hx hb dX10_fiction_71 rfl (lv_at hl 1 rfl) ?_
            refine lv_iload_n hx hb dX10_fiction_72 rfl (lv_at hl 2 rfl) ?_
            refine lv_iload_n hx hb dX10_fiction_73 rfl (lv_at hl 3 rfl) ?_
            refine lv_iload hx hb dX10_fiction_74 (lv_at hl 4 rfl) ?_
            refine xVW_v (As := [.int a1, .int a2, .int a3, .int a4]) (rest := []) (wr := [((ad 0), .inr (10, [.ref (ad 10), .ref (ad 30), .ref (ad 50), .ref (ad 70), .ref (ad 90), .ref (ad 95), .int (S.2.2.2.1 6), .int (S.2.2.2.1 7), .long (S.2.2.2.2 8), .long (S.2.2.2.2 9), .int (S.2.2.2.1 10), .int (S.2.2.2.1 11), .int (S.2.2.2.1 12)])), ((ad 1), .inl (cs 2, 6, .inr (.inr (.inr (.inr (fun k => some (ad (2 + k)))))))), ((ad 2), .inr (6, [])), ((ad 3), .inr (5, [])), ((ad 4), .inr (1, [])), ((ad 5), .inr (9, [])), ((ad 6), .inr (2, [])), ((ad 7), .inr (8, [])), ((ad 10), .inr (3, [.ref (ad 1), .ref (ad 11), .ref (ad 12), .ref (ad 14), .ref (ad 16), .ref (ad 18), .ref (ad 20), .int ((S.1 0).2 7), .int ((S.1 0).2 8), .int ((S.1 0).2 9), .int ((S.1 0).2 10)])), ((ad 11), .inr (6, [])), ((ad 14), .inr (7, [.int (nI 4), .int (nI 2), .ref (ad 15), .int (((S.1 0).1 1).1)])), ((ad 15), .inl (cs 0, 8, .inl (((S.1 0).1 1).2))), ((ad 16), .inr (7, [.int (nI 6), .int (nI 3), .ref (ad 17), .int (((S.1 0).1 2).1)])), ((ad 17), .inl (cs 0, 18, .inl (((S.1 0).1 2).2))), ((ad 18), .inr (7, [.int (nI 6), .int (nI 2), .ref (ad 19), .int (((S.1 0).1 3).1)])), ((ad 19), .inl (cs 0, 12, .inl (((S.1 0).1 3).2))), ((ad 20), .inr (7, [.int (nI 8), .int (nI 3), .ref (ad 21), .int (((S.1 0).1 4).1)])), ((ad 21), .inl (cs 0, 24, .inl (((S.1 0).1 4).2))), ((ad 30), .inr (3, [.ref (ad 1), .ref (ad 31), .ref (ad 32), .ref (ad 34), .ref (ad 36), .ref (ad 38), .ref (ad 40), .int ((S.1 1).2 7), .int ((S.1 1).2 8), .int ((S.1 1).2 9), .int ((S.1 1).2 10)])), ((ad 31), .inr (6, [])), ((ad 32), .inr (7, [.int (nI 6), .int (nI 4), .ref (ad 33), .int (((S.1 1).1 0).1)])), ((ad 33), .inl (cs 0, 24, .inl (((S.1 1).1 0).2))), ((ad 34), .inr (7, [.int (nI 4), .int (nI 2), .ref (ad 35), .int (((S.1 1).1 1).1)])), ((ad 35), .inl (cs 0, 8, .inl (((S.1 1).1 1).2))), ((ad 36), .inr (7, [.int (nI 6), .int (nI 3), .ref (ad 37), .int (((S.1 1).1 2).1)])), ((ad 37), .inl (cs 0, 18, .inl (((S.1 1).1 2).2))), ((ad 38), .inr (7, [.int (nI 6), .int (nI 2), .ref (ad 39), .int (((S.1 1).1 3).1)])), ((ad 39), .inl (cs 0, 12, .inl (((S.1 1).1 3).2))), ((ad 40), .inr (7, [.int (nI 8), .int (nI 3), .ref (ad 41), .int (((S.1 1).1 4).1)])), ((ad 41), .inl (cs 0, 24, .inl (((S.1 1).1 4).2))), ((ad 50), .inr (3, [.ref (ad 1), .ref (ad 51), .ref (ad 52), .ref (ad 54), .ref (ad 56), .ref (ad 58), .ref (ad 60), .int ((S.1 2).2 7), .int ((S.1 2).2 8), .int ((S.1 2).2 9), .int ((S.1 2).2 10)])), ((ad 51), .inr (6, [])), ((ad 52), .inr (7, [.int (nI 6), .int (nI 4), .ref (ad 53), .int (((S.1 2).1 0).1)])), ((ad 53), .inl (cs 0, 24, .inl (((S.1 2).1 0).2))), ((ad 54), .inr (7, [.int (nI 4), .int (nI 2), .ref (ad 55), .int (((S.1 2).1 1).1)])), ((ad 55), .inl (cs 0, 8, .inl (((S.1 2).1 1).2))), ((ad 56), .inr (7, [.int (nI 6), .int (nI 3), .ref (ad 57), .int (((S.1 2).1 2).1)])), ((ad 57), .inl (cs 0, 18, .inl (((S.1 2).1 2).2))), ((ad 58), .inr (7, [.int (nI 6), .int (nI 2), .ref (ad 59), .int (((S.1 2).1 3).1)])), ((ad 59), .inl (cs 0, 12, .inl (((S.1 2).1 3).2))), ((ad 60), .inr (7, [.int (nI 8), .int (nI 3), .ref (ad 61), .int (((S.1 2).1 4).1)])), ((ad 61), .inl (cs 0, 24, .inl (((S.1 2).1 4).2))), ((ad 70), .inr (3, [.ref (ad 1), .ref (ad 71), .ref (ad 72), .ref (ad 74), .ref (ad 76), .ref (ad 78), .ref (ad 80), .int ((S.1 3).2 7), .int ((S.1 3).2 8), .int ((S.1 3).2 9), .int ((S.1 3).2 10)])), ((ad 71), .inr (6, [])), ((ad 72), .inr (7, [.int (nI 6), .int (nI 4), .ref (ad 73), .int (((S.1 3).1 0).1)])), ((ad 73), .inl (cs 0, 24, .inl (((S.1 3).1 0).2))), ((ad 74), .inr (7, [.int (nI 4), .int (nI 2), .ref (ad 75), .int (((S.1 3).1 1).1)])), ((ad 75), .inl (cs 0, 8, .inl (((S.1 3).1 1).2))), ((ad 76), .inr (7, [.int (nI 6), .int (nI 3), .ref (ad 77), .int (((S.1 3).1 2).1)])), ((ad 77), .inl (cs 0, 18, .inl (((S.1 3).1 2).2))), ((ad 78), .inr (7, [.int (nI 6), .int (nI 2), .ref (ad 79), .int (((S.1 3).1 3).1)])), ((ad 79), .inl (cs 0, 12, .inl (((S.1 3).1 3).2))), ((ad 80), .inr (7, [.int (nI 8), .int (nI 3), .ref (ad 81), .int (((S.1 3).1 4).1)])), ((ad 81), .inl (cs 0, 24, .inl (((S.1 3).1 4).2))), ((ad 90), .inr (0, [.ref (ad 91), .int ((S.2.1).2 1), .int ((S.2.1).2 2), .int ((S.2.1).2 3), .int ((S.2.1).2 4), .int ((S.2.1).2 5), .int ((S.2.1).2 6), .int ((S.2.1).2 7), .int ((S.2.1).2 8), .int ((S.2.1).2 9), .int ((S.2.1).2 10), .int ((S.2.1).2 11)])), ((ad 91), .inl (cs 0, 150, .inl ((S.2.1).1))), ((ad 95), .inr (4, [.ref (ad 96), .ref (ad 97)])), ((ad 96), .inl (cs 0, 64, .inl ((S.2.2.1).1))), ((ad 97), .inl (cs 0, 64, .inl ((S.2.2.1).2)))]) (wg := fun u13 => WC cs ad (cM S 0 (tR (S.1 0) 0 u13))) hx hb hml hown hT hN hK hP hD hS hA cw_X10_95 hm (fun z h => tcX7_add l D cs ad 12 (nI 6) (nI 4) 24 H.size ((S.1 0).1 0) a1 a2 a3 a4 z h) ⟨rfl, rfl⟩ ⟨by decide, by decide⟩ [10, 11] [0, 1, 2, 3, 4, 5, 6, 7, 8, 9, 12, 13, 14, 15, 16, 17, 18, 19, 20, 21, 22, 23, 24, 25, 26, 27, 28, 29, 30, 31, 32, 33, 34, 35, 36, 37, 38, 39, 40, 41, 42, 43, 44, 45, 46, 47, 48, 49, 50, 51, 52, 53, 54, 55, 56, 57, 58, 59, 60] [0, 1, 2, 3, 4, 5, 6, 7, 8, 9, 59, 60, 10, 11, 12, 13, 14, 15, 16, 17, 18, 19, 20, 21, 22, 23, 24, 25, 26, 27, 28, 29, 30, 31, 32, 33, 34, 35, 36, 37, 38, 39, 40, 41, 42, 43, 44, 45, 46, 47, 48, 49, 50, 51, 52, 53, 54, 55, 56, 57, 58] rfl (by decide) rfl (by decide) (by decide) (fun _ => rfl) (by decide) (b := (ad 12)) 0 rfl rfl rfl hl.1 rfl rfl (Nat.le_of_ble_eq_true rfl) dX10_fiction_76 ⟨Nat.zero_le _, Nat.zero_le _⟩ (fun u13 H locs hm hP hD hS => ?_)
            obtain ⟨S12, hm, eS12⟩ := nm_ex hm
            rw [← eS12] at hP hD
            refine lv_aload_n hx hb dX10_fiction_79 rfl (lv_at hl 0 rfl) ?_
            refine gf_X10_30 (v := .ref (ad 10)) hx hb hT hown hK hP 0 rfl rfl dX10_fiction_80 ?_
            refine gf_X10_99 (v := .ref (ad 20)) hx hb hT hown hK hP 8 rfl rfl dX10_fiction_83 ?_
            refine xVW_v (As := []) (rest := []) (wr := [((ad 0), .inr (10, [.ref (ad 10), .ref (ad 30), .ref (ad 50), .ref (ad 70), .ref (ad 90), .ref (ad 95), .int (S12.2.2.2.1 6), .int (S12.2.2.2.1 7), .long (S12.2.2.2.2 8), .long (S12.2.2.2.2 9), .int (S12.2.2.2.1 10), .int (S12.2.2.2.1 11), .int (S12.2.2.2.1 12)])), ((ad 1), .inl (cs 2, 6, .inr (.inr (.inr (.inr (fun k => some (ad (2 + k)))))))), ((ad 2), .inr (6, [])), ((ad 3), .inr (5, [])), ((ad 4), .inr (1, [])), ((ad 5), .inr (9, [])), ((ad 6), .inr (2, [])), ((ad 7), .inr (8, [])), ((ad 10), .inr (3, [.ref (ad 1), .ref (ad 11), .ref (ad 12), .ref (ad 14), .ref (ad 16), .ref (ad 18), .ref (ad 20), .int ((S12.1 0).2 7), .int ((S12.1 0).2 8), .int ((S12.1 0).2 9), .int ((S12.1 0).2 10)])), ((ad 11), .inr (6, [])), ((ad 12), .inr (7, [.int (nI 6), .int (nI 4), .ref (ad 13), .int (((S12.1 0).1 0).1)])), ((ad 13), .inl (cs 0, 24, .inl (((S12.1 0).1 0).2))), ((ad 14), .inr (7, [.int (nI 4), .int (nI 2), .ref (ad 15), .int (((S12.1 0).1 1).1)])), ((ad 15), .inl (cs 0, 8, .inl (((S12.1 0).1 1).2))), ((ad 16), .inr (7, [.int (nI 6), .int (nI 3), .ref (ad 17), .int (((S12.1 0).1 2).1)])), ((ad 17), .inl (cs 0, 18, .inl (((S12.1 0).1 2).2))), ((ad 18), .inr (7, [.int (nI 6), .int (nI 2), .ref (ad 19), .int (((S12.1 0).1 3).1)])), ((ad 19), .inl (cs 0, 12, .inl (((S12.1 0).1 3).2))), ((ad 30), .inr (3, [.ref (ad 1), .ref (ad 31), .ref (ad 32), .ref (ad 34), .ref (ad 36), .ref (ad 38), .ref (ad 40), .int ((S12.1 1).2 7), .int ((S12.1 1).2 8), .int ((S12.1 1).2 9), .int ((S12.1 1).2 10)])), ((ad 31), .inr (6, [])), ((ad 32), .inr (7, [.int (nI 6), .int (nI 4), .ref (ad 33), .int (((S12.1 1).1 0).1)])), ((ad 33), .inl (cs 0, 24, .inl (((S12.1 1).1 0).2))), ((ad 34), .inr (7, [.int (nI 4), .int (nI 2), .ref (ad 35), .int (((S12.1 1).1 1).1)])), ((ad 35), .inl (cs 0, 8, .inl (((S12.1 1).1 1).2))), ((ad 36), .inr (7, [.int (nI 6), .int (nI 3), .ref (ad 37), .int (((S12.1 1).1 2).1)])), ((ad 37), .inl (cs 0, 18, .inl (((S12.1 1).1 2).2))), ((ad 38), .inr (7, [.int (nI 6), .int (nI 2), .ref (ad 39), .int (((S12.1 1).1 3).1)])), ((ad 39), .inl (cs 0, 12, .inl (((S12.1 1).1 3).2))), ((ad 40), .inr (7, [.int (nI 8), .int (nI 3), .ref (ad 41), .int (((S12.1 1).1 4).1)])), ((ad 41), .inl (cs 0, 24, .inl (((S12.1 1).1 4).2))), ((ad 50), .inr (3, [.ref (ad 1), .ref (ad 51), .ref (ad 52), .ref (ad 54), .ref (ad 56), .ref (ad 58), .ref (ad 60), .int ((S12.1 2).2 7), .int ((S12.1 2).2 8), .int ((S12.1 2).2 9), .int ((S12.1 2).2 10)])), ((ad 51), .inr (6, [])), ((ad 52), .inr (7, [.int (nI 6), .int (nI 4), .ref (ad 53), .int (((S12.1 2).1 0).1)])), ((ad 53), .inl (cs 0, 24, .inl (((S12.1 2).1 0).2))), ((ad 54), .inr (7, [.int (nI 4), .int (nI 2), .ref (ad 55), .int (((S12.1 2).1 1).1)])), ((ad 55), .inl (cs 0, 8, .inl (((S12.1 2).1 1).2))), ((ad 56), .inr (7, [.int (nI 6), .int (nI 3), .ref (ad 57), .int (((S12.1 2).1 2).1)])), ((ad 57), .inl (cs 0, 18, .inl (((S12.1 2).1 2).2))), ((ad 58), .inr (7, [.int (nI 6), .int (nI 2), .ref (ad 59), .int (((S12.1 2).1 3).1)])), ((ad 59), .inl (cs 0, 12, .inl (((S12.1 2).1 3).2))), ((ad 60), .inr (7, [.int (nI 8), .int (nI 3), .ref (ad 61), .int (((S12.1 2).1 4).1)])), ((ad 61), .inl (cs 0, 24, .inl (((S12.1 2).1 4).2))), ((ad 70), .inr (3, [.ref (ad 1), .ref (ad 71), .ref (ad 72), .ref (ad 74), .ref (ad 76), .ref (ad 78), .ref (ad 80), .int ((S12.1 3).2 7), .int ((S12.1 3).2 8), .int ((S12.1 3).2 9), .int ((S12.1 3).2 10)])), ((ad 71), .inr (6, [])), ((ad 72), .inr (7, [.int (nI 6), .int (nI 4), .ref (ad 73), .int (((S12.1 3).1 0).1)])), ((ad 73), .inl (cs 0, 24, .inl (((S12.1 3).1 0).2))), ((ad 74), .inr (7, [.int (nI 4), .int (nI 2), .ref (ad 75), .int (((S12.1 3).1 1).1)])), ((ad 75), .inl (cs 0, 8, .inl (((S12.1 3).1 1).2))), ((ad 76), .inr (7, [.int (nI 6), .int (nI 3), .ref (ad 77), .int (((S12.1 3).1 2).1)])), ((ad 77), .inl (cs 0, 18, .inl (((S12.1 3).1 2).2))), ((ad 78), .inr (7, [.int (nI 6), .int (nI 2), .ref (ad 79), .int (((S12.1 3).1 3).1)])), ((ad 79), .inl (cs 0, 12, .inl (((S12.1 3).1 3).2))), ((ad 80), .inr (7, [.int (nI 8), .int (nI 3), .ref (ad 81), .int (((S12.1 3).1 4).1)])), ((ad 81), .inl (cs 0, 24, .inl (((S12.1 3).1 4).2))), ((ad 90), .inr (0, [.ref (ad 91), .int ((S12.2.1).2 1), .int ((S12.2.1).2 2), .int ((S12.2.1).2 3), .int ((S12.2.1).2 4), .int ((S12.2.1).2 5), .int ((S12.2.1).2 6), .int ((S12.2.1).2 7), .int ((S12.2.1).2 8), .int ((S12.2.1).2 9), .int ((S12.2.1).2 10), .int ((S12.2.1).2 11)])), ((ad 91), .inl (cs 0, 150, .inl ((S12.2.1).1))), ((ad 95), .inr (4, [.ref (ad 96), .ref (ad 97)])), ((ad 96), .inl (cs 0, 64, .inl ((S12.2.2.1).1))), ((ad 97), .inl (cs 0, 64, .inl ((S12.2.2.1).2)))]) (wg := fun u15 => WC cs ad (cM S12 0 (tR (S12.1 0) 4 u15))) hx hb hml hown hT hN hK hP hD hS hA cw_X10_102 hm (fun z h => tcX7_empty l D cs ad 20 (nI 8) (nI 3) 24 H.size ((S12.1 0).1 4) z h) ⟨rfl, rfl⟩ ⟨by decide, by decide⟩ [18, 19] [0, 1, 2, 3, 4, 5, 6, 7, 8, 9, 10, 11, 12, 13, 14, 15, 16, 17, 20, 21, 22, 23, 24, 25, 26, 27, 28, 29, 30, 31, 32, 33, 34, 35, 36, 37, 38, 39, 40, 41, 42, 43, 44, 45, 46, 47, 48, 49, 50, 51, 52, 53, 54, 55, 56, 57, 58, 59, 60] [0, 1, 2, 3, 4, 5, 6, 7, 8, 9, 10, 11, 12, 13, 14, 15, 16, 17, 59, 60, 18, 19, 20, 21, 22, 23, 24, 25, 26, 27, 28, 29, 30, 31, 32, 33, 34, 35, 36, 37, 38, 39, 40, 41, 42, 43, 44, 45, 46, 47, 48, 49, 50, 51, 52, 53, 54, 55, 56, 57, 58] rfl (by decide) rfl (by decide) (by decide) (fun _ => rfl) (by decide) (b := (ad 20)) 0 rfl rfl rfl hl.1 rfl rfl (Nat.le_of_ble_eq_true rfl) dX10_fiction_86 ⟨Nat.zero_le _, Nat.zero_le _⟩ (fun u15 H locs hm hP hD hS => ?_)
            obtain ⟨S14, hm, eS14⟩ := nm_ex hm
            rw [← eS14] at hP hD
            refine lv_aload_n hx hb dX10_fiction_89 rfl (lv_at hl 0 rfl) ?_
            refine gf_X10_30 (v := .ref (ad 10)) hx hb hT hown hK hP 0 rfl rfl dX10_fiction_90 ?_
            refine gf_X10_74 (v := .ref (ad 12)) hx hb hT hown hK hP 8 rfl rfl dX10_fiction_93 ?_
            refine gf_X10_78 (v := .int (((S14.1 0).1 0).1)) hx hb hT hown hK hP 10 rfl rfl dX10_fiction_96 ?_
            refine lv_iconst (v := (nI 1)) hx hb dX10_fiction_99 (by decide) ?_
            refine lv_isub hx hb dX10_fiction_100 ?_
            exact x_iretW (wf := (fun u => WC cs ad u)) hx hb hr hlk hK hP hD hS hm dX10_fiction_101
          · refine lv_aload_n hx hb dX10_fiction_59 rfl (lv_at hl 0 rfl) ?_
            refine xVW_i (As := []) (rest := []) (wr := []) (wg := (fun u => WC cs ad u)) hx hb hml hown hT hN hK hP hD hS hA cw_X10_92 hm (fun z h => tcX10_refuseFull l D cs ad H.size S z h) ⟨rfl, rfl⟩ ⟨by decide, by decide⟩ [0, 1, 2, 3, 4, 5, 6, 7, 8, 9, 10, 11, 12, 13, 14, 15, 16, 17, 18, 19, 20, 21, 22, 23, 24, 25, 26, 27, 28, 29, 30, 31, 32, 33, 34, 35, 36, 37, 38, 39, 40, 41, 42, 43, 44, 45, 46, 47, 48, 49, 50, 51, 52, 53, 54, 55, 56, 57, 58, 59, 60] [] [0, 1, 2, 3, 4, 5, 6, 7, 8, 9, 10, 11, 12, 13, 14, 15, 16, 17, 18, 19, 20, 21, 22, 23, 24, 25, 26, 27, 28, 29, 30, 31, 32, 33, 34, 35, 36, 37, 38, 39, 40, 41, 42, 43, 44, 45, 46, 47, 48, 49, 50, 51, 52, 53, 54, 55, 56, 57, 58, 59, 60] rfl (by decide) rfl (by decide) (by decide) (fun _ => rfl) (by decide) (b := (ad 0)) 0 rfl rfl rfl hl.1 rfl rfl (Nat.le_of_ble_eq_true rfl) dX10_fiction_60 ⟨Nat.zero_le _, Nat.zero_le _⟩ (fun r17 S16 H locs hm hP hD hS => ?_)
            exact x_iretW (wf := (fun u => WC cs ad u)) hx hb hr hlk hK hP hD hS hm dX10_fiction_63
        · refine lv_aload_n hx hb dX10_fiction_41 rfl (lv_at hl 0 rfl) ?_
          refine xVW_i (As := []) (rest := []) (wr := []) (wg := (fun u => WC cs ad u)) hx hb hml hown hT hN hK hP hD hS hA cw_X10_70 hm (fun z h => tcX10_refuseBad l D cs ad H.size S z h) ⟨rfl, rfl⟩ ⟨by decide, by decide⟩ [0, 1, 2, 3, 4, 5, 6, 7, 8, 9, 10, 11, 12, 13, 14, 15, 16, 17, 18, 19, 20, 21, 22, 23, 24, 25, 26, 27, 28, 29, 30, 31, 32, 33, 34, 35, 36, 37, 38, 39, 40, 41, 42, 43, 44, 45, 46, 47, 48, 49, 50, 51, 52, 53, 54, 55, 56, 57, 58, 59, 60] [] [0, 1, 2, 3, 4, 5, 6, 7, 8, 9, 10, 11, 12, 13, 14, 15, 16, 17, 18, 19, 20, 21, 22, 23, 24, 25, 26, 27, 28, 29, 30, 31, 32, 33, 34, 35, 36, 37, 38, 39, 40, 41, 42, 43, 44, 45, 46, 47, 48, 49, 50, 51, 52, 53, 54, 55, 56, 57, 58, 59, 60] rfl (by decide) rfl (by decide) (by decide) (fun _ => rfl) (by decide) (b := (ad 0)) 0 rfl rfl rfl hl.1 rfl rfl (Nat.le_of_ble_eq_true rfl) dX10_fiction_42 ⟨Nat.zero_le _, Nat.zero_le _⟩ (fun r19 S18 H locs hm hP hD hS => ?_)
          exact x_iretW (wf := (fun u => WC cs ad u)) hx hb hr hlk hK hP hD hS hm dX10_fiction_45
noncomputable def mX10_court (S : CT) (a1 : Int32) (a2 : Int32) : Option (Int32 × CT) := (mX10_within a1 (nI 0) (nI 255)).bind fun r1 => (if r1 = 0 then (mX10_refuseBad S).bind fun ⟨r3, S2⟩ => some (r3, S2) else (mX10_within a2 (nI 0) (nI 20)).bind fun r4 => (if r4 = 0 then (mX10_refuseBad S).bind fun ⟨r13, S12⟩ => some (r13, S12) else (mX7_isFull (nI 4) (nI 2) 8 ((S.1 0).1 1)).bind fun r5 => (if r5 = 0 then (mX7_add (nI 4) (nI 2) 8 ((S.1 0).1 1) a1 a2 (nI 0) (nI 0)).bind fun u7 => nm (cM S 0 (tR (S.1 0) 1 u7)) fun S6 => (mX7_empty (nI 8) (nI 3) 24 ((S6.1 0).1 4)).bind fun u9 => nm (cM S6 0 (tR (S6.1 0) 4 u9)) fun S8 => some (((((S8.1 0).1 1).1) - (nI 1)), S8) else (mX10_refuseFull S).bind fun ⟨r11, S10⟩ => some (r11, S10))))
set_option maxHeartbeats 4000000 in
set_option maxRecDepth 100000 in
theorem tcX10_court (l : Launch) (D : va_G) (cs : CS) (ad : Nat → Nat) (sz : Nat) (S : CT) (a1 : Int32) (a2 : Int32) (z : Int32 × CT) (hm : mX10_court S a1 a2 = some z) : Met l yX10_court (Cond.code yX10_court cX10_court 3 (some .int) :: gw_tbl) ({ frames := 2, cells := 0, slots := 0, locals := 48 }) (PcW D cs sz (WC cs ad S) [.ref (ad 0), .int a1, .int a2]) (QWi D cs (va_A (WC cs ad S) sz) (fun u => WC cs ad u) z) 0 0 (va_A (WC cs ad S) sz) := by
  refine met_W rfl (Nat.le_of_ble_eq_true rfl) (fun p e s m below meth c E hP hD hS hA ls hl => ?_)
  generalize va_A (WC cs ad S) sz = A at hD hS hA ⊢
  obtain ⟨hx, hb, hr, hml, hown, hlk, hT, hN, hK⟩ := id E
  obtain ⟨H, hH⟩ : ∃ H, H = s.heap := ⟨_, rfl⟩
  obtain ⟨locs, hlo⟩ : ∃ L : List Loc, L = [] := ⟨_, rfl⟩
  have hP : va_P D classes (WC cs ad S) H := by rw [hH]; exact hP
  have hS : va_S A s.heap H locs := by rw [hH, hlo]; exact hS
  rw [show W p l e _ s m _ below meth c s.heap [] 0 0 = W p l e _ s m _ below meth c H locs 0 0 by rw [hH, hlo]]
  have hl : lv_has ls 3 [(0, .ref (ad 0)), (1, .int a1), (2, .int a2)] := hl
  unfold mX10_court at hm
  refine lv_iload_n hx hb dX10_court_0 rfl (lv_at hl 1 rfl) ?_
  refine lv_iconst (v := (nI 0)) hx hb dX10_court_1 (by decide) ?_
  refine lv_sipush (v := (nI 255)) hx hb dX10_court_2 (by decide) ?_
  refine xS_i (As := [.int a1, .int (nI 0), .int (nI 255)]) (rest := []) hx hb hml hown hT hN hK (hP.sub (ws' := []) [] rfl) cw_X10_66 hm (fun z h => tcX10_within l D cs a1 (nI 0) (nI 255) z h) ⟨rfl, rfl⟩ ⟨by decide, by decide⟩ hl.1 rfl rfl (Nat.le_of_ble_eq_true rfl) dX10_court_5 ⟨Nat.zero_le _, Nat.zero_le _⟩ (fun r1 hm => ?_)
  refine x_if_eq (tgt := 21) hx hb dX10_court_8 (by decide) hm (fun hm => ?_) (fun hm => ?_)
  · refine lv_aload_n hx hb dX10_court_21 rfl (lv_at hl 0 rfl) ?_
    refine xVW_i (As := []) (rest := []) (wr := []) (wg := (fun u => WC cs ad u)) hx hb hml hown hT hN hK hP hD hS hA cw_X10_70 hm (fun z h => tcX10_refuseBad l D cs ad H.size S z h) ⟨rfl, rfl⟩ ⟨by decide, by decide⟩ [0, 1, 2, 3, 4, 5, 6, 7, 8, 9, 10, 11, 12, 13, 14, 15, 16, 17, 18, 19, 20, 21, 22, 23, 24, 25, 26, 27, 28, 29, 30, 31, 32, 33, 34, 35, 36, 37, 38, 39, 40, 41, 42, 43, 44, 45, 46, 47, 48, 49, 50, 51, 52, 53, 54, 55, 56, 57, 58, 59, 60] [] [0, 1, 2, 3, 4, 5, 6, 7, 8, 9, 10, 11, 12, 13, 14, 15, 16, 17, 18, 19, 20, 21, 22, 23, 24, 25, 26, 27, 28, 29, 30, 31, 32, 33, 34, 35, 36, 37, 38, 39, 40, 41, 42, 43, 44, 45, 46, 47, 48, 49, 50, 51, 52, 53, 54, 55, 56, 57, 58, 59, 60] rfl (by decide) rfl (by decide) (by decide) (fun _ => rfl) (by decide) (b := (ad 0)) 0 rfl rfl rfl hl.1 rfl rfl (Nat.le_of_ble_eq_true rfl) dX10_court_22 ⟨Nat.zero_le _, Nat.zero_le _⟩ (fun r3 S2 H locs hm hP hD hS => ?_)
    exact x_iretW (wf := (fun u => WC cs ad u)) hx hb hr hlk hK hP hD hS hm dX10_court_25
  · refine lv_iload_n hx hb dX10_court_11 rfl (lv_at hl 2 rfl) ?_
    refine lv_iconst (v := (nI 0)) hx hb dX10_court_12 (by decide) ?_
    refine lv_bipush (v := (nI 20)) hx hb dX10_court_13 (by decide) ?_
    refine xS_i (As := [.int a2, .int (nI 0), .int (nI 20)]) (rest := []) hx hb hml hown hT hN hK (hP.sub (ws' := []) [] rfl) cw_X10_66 hm (fun z h => tcX10_within l D cs a2 (nI 0) (nI 20) z h) ⟨rfl, rfl⟩ ⟨by decide, by decide⟩ hl.1 rfl rfl (Nat.le_of_ble_eq_true rfl) dX10_court_15 ⟨Nat.zero_le _, Nat.zero_le _⟩ (fun r4 hm => ?_)
    refine x_if_ne (tgt := 26) hx hb dX10_court_18 (by decide) hm (fun hm => ?_) (fun hm => ?_)
    · refine lv_aload_n hx hb dX10_court_26 rfl (lv_at hl 0 rfl) ?_
      refine gf_X10_30 (v := .ref (ad 10)) hx hb hT hown hK hP 0 rfl rfl dX10_court_27 ?_
      refine gf_X10_105 (v := .ref (ad 14)) hx hb hT hown hK hP 8 rfl rfl dX10_court_30 ?_
      refine xV_i (As := []) (rest := []) hx hb hml hown hT hN hK (hP.sub (ws' := WR cs ad 14 (nI 4) (nI 2) 8 ((S.1 0).1 1)) [12, 13] rfl) cw_X10_88 hm (fun z h => tcX7_isFull l D cs ad 14 (nI 4) (nI 2) 8 ((S.1 0).1 1) z h) ⟨rfl, rfl⟩ ⟨by decide, by decide⟩ (b := (ad 14)) 0 rfl rfl rfl hl.1 rfl rfl (Nat.le_of_ble_eq_true rfl) dX10_court_33 ⟨Nat.zero_le _, Nat.zero_le _⟩ (fun r5 hm => ?_)
      refine x_if_eq (tgt := 44) hx hb dX10_court_36 (by decide) hm (fun hm => ?_) (fun hm => ?_)
      · refine lv_aload_n hx hb dX10_court_44 rfl (lv_at hl 0 rfl) ?_
        refine gf_X10_30 (v := .ref (ad 10)) hx hb hT hown hK hP 0 rfl rfl dX10_court_45 ?_
        refine gf_X10_105 (v := .ref (ad 14)) hx hb hT hown hK hP 8 rfl rfl dX10_court_48 ?_
        refine lv_iload_n hx hb dX10_court_51 rfl (lv_at hl 1 rfl) ?_
        refine lv_iload_n hx hb dX10_court_52 rfl (lv_at hl 2 rfl) ?_
        refine lv_iconst (v := (nI 0)) hx hb dX10_court_53 (by decide) ?_
        refine lv_iconst (v := (nI 0)) hx hb dX10_court_54 (by decide) ?_
        refine xVW_v (As := [.int a1, .int a2, .int (nI 0), .int (nI 0)]) (rest := []) (wr := [((ad 0), .inr (10, [.ref (ad 10), .ref (ad 30), .ref (ad 50), .ref (ad 70), .ref (ad 90), .ref (ad 95), .int (S.2.2.2.1 6), .int (S.2.2.2.1 7), .long (S.2.2.2.2 8), .long (S.2.2.2.2 9), .int (S.2.2.2.1 10), .int (S.2.2.2.1 11), .int (S.2.2.2.1 12)])), ((ad 1), .inl (cs 2, 6, .inr (.inr (.inr (.inr (fun k => some (ad (2 + k)))))))), ((ad 2), .inr (6, [])), ((ad 3), .inr (5, [])), ((ad 4), .inr (1, [])), ((ad 5), .inr (9, [])), ((ad 6), .inr (2, [])), ((ad 7), .inr (8, [])), ((ad 10), .inr (3, [.ref (ad 1), .ref (ad 11), .ref (ad 12), .ref (ad 14), .ref (ad 16), .ref (ad 18), .ref (ad 20), .int ((S.1 0).2 7), .int ((S.1 0).2 8), .int ((S.1 0).2 9), .int ((S.1 0).2 10)])), ((ad 11), .inr (6, [])), ((ad 12), .inr (7, [.int (nI 6), .int (nI 4), .ref (ad 13), .int (((S.1 0).1 0).1)])), ((ad 13), .inl (cs 0, 24, .inl (((S.1 0).1 0).2))), ((ad 16), .inr (7, [.int (nI 6), .int (nI 3), .ref (ad 17), .int (((S.1 0).1 2).1)])), ((ad 17), .inl (cs 0, 18, .inl (((S.1 0).1 2).2))), ((ad 18), .inr (7, [.int (nI 6), .int (nI 2), .ref (ad 19), .int (((S.1 0).1 3).1)])), ((ad 19), .inl (cs 0, 12, .inl (((S.1 0).1 3).2))), ((ad 20), .inr (7, [.int (nI 8), .int (nI 3), .ref (ad 21), .int (((S.1 0).1 4).1)])), ((ad 21), .inl (cs 0, 24, .inl (((S.1 0).1 4).2))), ((ad 30), .inr (3, [.ref (ad 1), .ref (ad 31), .ref (ad 32), .ref (ad 34), .ref (ad 36), .ref (ad 38), .ref (ad 40), .int ((S.1 1).2 7), .int ((S.1 1).2 8), .int ((S.1 1).2 9), .int ((S.1 1).2 10)])), ((ad 31), .inr (6, [])), ((ad 32), .inr (7, [.int (nI 6), .int (nI 4), .ref (ad 33), .int (((S.1 1).1 0).1)])), ((ad 33), .inl (cs 0, 24, .inl (((S.1 1).1 0).2))), ((ad 34), .inr (7, [.int (nI 4), .int (nI 2), .ref (ad 35), .int (((S.1 1).1 1).1)])), ((ad 35), .inl (cs 0, 8, .inl (((S.1 1).1 1).2))), ((ad 36), .inr (7, [.int (nI 6), .int (nI 3), .ref (ad 37), .int (((S.1 1).1 2).1)])), ((ad 37), .inl (cs 0, 18, .inl (((S.1 1).1 2).2))), ((ad 38), .inr (7, [.int (nI 6), .int (nI 2), .ref (ad 39), .int (((S.1 1).1 3).1)])), ((ad 39), .inl (cs 0, 12, .inl (((S.1 1).1 3).2))), ((ad 40), .inr (7, [.int (nI 8), .int (nI 3), .ref (ad 41), .int (((S.1 1).1 4).1)])), ((ad 41), .inl (cs 0, 24, .inl (((S.1 1).1 4).2))), ((ad 50), .inr (3, [.ref (ad 1), .ref (ad 51), .ref (ad 52), .ref (ad 54), .ref (ad 56), .ref (ad 58), .ref (ad 60), .int ((S.1 2).2 7), .int ((S.1 2).2 8), .int ((S.1 2).2 9), .int ((S.1 2).2 10)])), ((ad 51), .inr (6, [])), ((ad 52), .inr (7, [.int (nI 6), .int (nI 4), .ref (ad 53), .int (((S.1 2).1 0).1)])), ((ad 53), .inl (cs 0, 24, .inl (((S.1 2).1 0).2))), ((ad 54), .inr (7, [.int (nI 4), .int (nI 2), .ref (ad 55), .int (((S.1 2).1 1).1)])), ((ad 55), .inl (cs 0, 8, .inl (((S.1 2).1 1).2))), ((ad 56), .inr (7, [.int (nI 6), .int (nI 3), .ref (ad 57), .int (((S.1 2).1 2).1)])), ((ad 57), .inl (cs 0, 18, .inl (((S.1 2).1 2).2))), ((ad 58), .inr (7, [.int (nI 6), .int (nI 2), .ref (ad 59), .int (((S.1 2).1 3).1)])), ((ad 59), .inl (cs 0, 12, .inl (((S.1 2).1 3).2))), ((ad 60), .inr (7, [.int (nI 8), .int (nI 3), .ref (ad 61), .int (((S.1 2).1 4).1)])), ((ad 61), .inl (cs 0, 24, .inl (((S.1 2).1 4).2))), ((ad 70), .inr (3, [.ref (ad 1), .ref (ad 71), .ref (ad 72), .ref (ad 74), .ref (ad 76), .ref (ad 78), .ref (ad 80), .int ((S.1 3).2 7), .int ((S.1 3).2 8), .int ((S.1 3).2 9), .int ((S.1 3).2 10)])), ((ad 71), .inr (6, [])), ((ad 72), .inr (7, [.int (nI 6), .int (nI 4), .ref (ad 73), .int (((S.1 3).1 0).1)])), ((ad 73), .inl (cs 0, 24, .inl (((S.1 3).1 0).2))), ((ad 74), .inr (7, [.int (nI 4), .int (nI 2), .ref (ad 75), .int (((S.1 3).1 1).1)])), ((ad 75), .inl (cs 0, 8, .inl (((S.1 3).1 1).2))), ((ad 76), .inr (7, [.int (nI 6), .int (nI 3), .ref (ad 77), .int (((S.1 3).1 2).1)])), ((ad 77), .inl (cs 0, 18, .inl (((S.1 3).1 2).2))), ((ad 78), .inr (7, [.int (nI 6), .int (nI 2), .ref (ad 79), .int (((S.1 3).1 3).1)])), ((ad 79), .inl (cs 0, 12, .inl (((S.1 3).1 3).2))), ((ad 80), .inr (7, [.int (nI 8), .int (nI 3), .ref (ad 81), .int (((S.1 3).1 4).1)])), ((ad 81), .inl (cs 0, 24, .inl (((S.1 3).1 4).2))), ((ad 90), .inr (0, [.ref (ad 91), .int ((S.2.1).2 1), .int ((S.2.1).2 2), .int ((S.2.1).2 3), .int ((S.2.1).2 4), .int ((S.2.1).2 5), .int ((S.2.1).2 6), .int ((S.2.1).2 7), .int ((S.2.1).2 8), .int ((S.2.1).2 9), .int ((S.2.1).2 10), .int ((S.2.1).2 11)])), ((ad 91), .inl (cs 0, 150, .inl ((S.2.1).1))), ((ad 95), .inr (4, [.ref (ad 96), .ref (ad 97)])), ((ad 96), .inl (cs 0, 64, .inl ((S.2.2.1).1))), ((ad 97), .inl (cs 0, 64, .inl ((S.2.2.1).2)))]) (wg := fun u7 => WC cs ad (cM S 0 (tR (S.1 0) 1 u7))) hx hb hml hown hT hN hK hP hD hS hA cw_X10_95 hm (fun z h => tcX7_add l D cs ad 14 (nI 4) (nI 2) 8 H.size ((S.1 0).1 1) a1 a2 (nI 0) (nI 0) z h) ⟨rfl, rfl⟩ ⟨by decide, by decide⟩ [12, 13] [0, 1, 2, 3, 4, 5, 6, 7, 8, 9, 10, 11, 14, 15, 16, 17, 18, 19, 20, 21, 22, 23, 24, 25, 26, 27, 28, 29, 30, 31, 32, 33, 34, 35, 36, 37, 38, 39, 40, 41, 42, 43, 44, 45, 46, 47, 48, 49, 50, 51, 52, 53, 54, 55, 56, 57, 58, 59, 60] [0, 1, 2, 3, 4, 5, 6, 7, 8, 9, 10, 11, 59, 60, 12, 13, 14, 15, 16, 17, 18, 19, 20, 21, 22, 23, 24, 25, 26, 27, 28, 29, 30, 31, 32, 33, 34, 35, 36, 37, 38, 39, 40, 41, 42, 43, 44, 45, 46, 47, 48, 49, 50, 51, 52, 53, 54, 55, 56, 57, 58] rfl (by decide) rfl (by decide) (by decide) (fun _ => rfl) (by decide) (b := (ad 14)) 0 rfl rfl rfl hl.1 rfl rfl (Nat.le_of_ble_eq_true rfl) dX10_court_55 ⟨Nat.zero_le _, Nat.zero_le _⟩ (fun u7 H locs hm hP hD hS => ?_)
        obtain ⟨S6, hm, eS6⟩ := nm_ex hm
        rw [← eS6] at hP hD
        refine lv_aload_n hx hb dX10_court_58 rfl (lv_at hl 0 rfl) ?_
        refine gf_X10_30 (v := .ref (ad 10)) hx hb hT hown hK hP 0 rfl rfl dX10_court_59 ?_
        refine gf_X10_99 (v := .ref (ad 20)) hx hb hT hown hK hP 8 rfl rfl dX10_court_62 ?_
        refine xVW_v (As := []) (rest := []) (wr := [((ad 0), .inr (10, [.ref (ad 10), .ref (ad 30), .ref (ad 50), .ref (ad 70), .ref (ad 90), .ref (ad 95), .int (S6.2.2.2.1 6), .int (S6.2.2.2.1 7), .long (S6.2.2.2.2 8), .long (S6.2.2.2.2 9), .int (S6.2.2.2.1 10), .int (S6.2.2.2.1 11), .int (S6.2.2.2.1 12)])), ((ad 1), .inl (cs 2, 6, .inr (.inr (.inr (.inr (fun k => some (ad (2 + k)))))))), ((ad 2), .inr (6, [])), ((ad 3), .inr (5, [])), ((ad 4), .inr (1, [])), ((ad 5), .inr (9, [])), ((ad 6), .inr (2, [])), ((ad 7), .inr (8, [])), ((ad 10), .inr (3, [.ref (ad 1), .ref (ad 11), .ref (ad 12), .ref (ad 14), .ref (ad 16), .ref (ad 18), .ref (ad 20), .int ((S6.1 0).2 7), .int ((S6.1 0).2 8), .int ((S6.1 0).2 9), .int ((S6.1 0).2 10)])), ((ad 11), .inr (6, [])), ((ad 12), .inr (7, [.int (nI 6), .int (nI 4), .ref (ad 13), .int (((S6.1 0).1 0).1)])), ((ad 13), .inl (cs 0, 24, .inl (((S6.1 0).1 0).2))), ((ad 14), .inr (7, [.int (nI 4), .int (nI 2), .ref (ad 15), .int (((S6.1 0).1 1).1)])), ((ad 15), .inl (cs 0, 8, .inl (((S6.1 0).1 1).2))), ((ad 16), .inr (7, [.int (nI 6), .int (nI 3), .ref (ad 17), .int (((S6.1 0).1 2).1)])), ((ad 17), .inl (cs 0, 18, .inl (((S6.1 0).1 2).2))), ((ad 18), .inr (7, [.int (nI 6), .int (nI 2), .ref (ad 19), .int (((S6.1 0).1 3).1)])), ((ad 19), .inl (cs 0, 12, .inl (((S6.1 0).1 3).2))), ((ad 30), .inr (3, [.ref (ad 1), .ref (ad 31), .ref (ad 32), .ref (ad 34), .ref (ad 36), .ref (ad 38), .ref (ad 40), .int ((S6.1 1).2 7), .int ((S6.1 1).2 8), .int ((S6.1 1).2 9), .int ((S6.1 1).2 10)])), ((ad 31), .inr (6, [])), ((ad 32), .inr (7, [.int (nI 6), .int (nI 4), .ref (ad 33), .int (((S6.1 1).1 0).1)])), ((ad 33), .inl (cs 0, 24, .inl (((S6.1 1).1 0).2))), ((ad 34), .inr (7, [.int (nI 4), .int (nI 2), .ref (ad 35), .int (((S6.1 1).1 1).1)])), ((ad 35), .inl (cs 0, 8, .inl (((S6.1 1).1 1).2))), ((ad 36), .inr (7, [.int (nI 6), .int (nI 3), .ref (ad 37), .int (((S6.1 1).1 2).1)])), ((ad 37), .inl (cs 0, 18, .inl (((S6.1 1).1 2).2))), ((ad 38), .inr (7, [.int (nI 6), .int (nI 2), .ref (ad 39), .int (((S6.1 1).1 3).1)])), ((ad 39), .inl (cs 0, 12, .inl (((S6.1 1).1 3).2))), ((ad 40), .inr (7, [.int (nI 8), .int (nI 3), .ref (ad 41), .int (((S6.1 1).1 4).1)])), ((ad 41), .inl (cs 0, 24, .inl (((S6.1 1).1 4).2))), ((ad 50), .inr (3, [.ref (ad 1), .ref (ad 51), .ref (ad 52), .ref (ad 54), .ref (ad 56), .ref (ad 58), .ref (ad 60), .int ((S6.1 2).2 7), .int ((S6.1 2).2 8), .int ((S6.1 2).2 9), .int ((S6.1 2).2 10)])), ((ad 51), .inr (6, [])), ((ad 52), .inr (7, [.int (nI 6), .int (nI 4), .ref (ad 53), .int (((S6.1 2).1 0).1)])), ((ad 53), .inl (cs 0, 24, .inl (((S6.1 2).1 0).2))), ((ad 54), .inr (7, [.int (nI 4), .int (nI 2), .ref (ad 55), .int (((S6.1 2).1 1).1)])), ((ad 55), .inl (cs 0, 8, .inl (((S6.1 2).1 1).2))), ((ad 56), .inr (7, [.int (nI 6), .int (nI 3), .ref (ad 57), .int (((S6.1 2).1 2).1)])), ((ad 57), .inl (cs 0, 18, .inl (((S6.1 2).1 2).2))), ((ad 58), .inr (7, [.int (nI 6), .int (nI 2), .ref (ad 59), .int (((S6.1 2).1 3).1)])), ((ad 59), .inl (cs 0, 12, .inl (((S6.1 2).1 3).2))), ((ad 60), .inr (7, [.int (nI 8), .int (nI 3), .ref (ad 61), .int (((S6.1 2).1 4).1)])), ((ad 61), .inl (cs 0, 24, .inl (((S6.1 2).1 4).2))), ((ad 70), .inr (3, [.ref (ad 1), .ref (ad 71), .ref (ad 72), .ref (ad 74), .ref (ad 76), .ref (ad 78), .ref (ad 80), .int ((S6.1 3).2 7), .int ((S6.1 3).2 8), .int ((S6.1 3).2 9), .int ((S6.1 3).2 10)])), ((ad 71), .inr (6, [])), ((ad 72), .inr (7, [.int (nI 6), .int (nI 4), .ref (ad 73), .int (((S6.1 3).1 0).1)])), ((ad 73), .inl (cs 0, 24, .inl (((S6.1 3).1 0).2))), ((ad 74), .inr (7, [.int (nI 4), .int (nI 2), .ref (ad 75), .int (((S6.1 3).1 1).1)])), ((ad 75), .inl (cs 0, 8, .inl (((S6.1 3).1 1).2))), ((ad 76), .inr (7, [.int (nI 6), .int (nI 3), .ref (ad 77), .int (((S6.1 3).1 2).1)])), ((ad 77), .inl (cs 0, 18, .inl (((S6.1 3).1 2).2))), ((ad 78), .inr (7, [.int (nI 6), .int (nI 2), .ref (ad 79), .int (((S6.1 3).1 3).1)])), ((ad 79), .inl (cs 0, 12, .inl (((S6.1 3).1 3).2))), ((ad 80), .inr (7, [.int (nI 8), .int (nI 3), .ref (ad 81), .int (((S6.1 3).1 4).1)])), ((ad 81), .inl (cs 0, 24, .inl (((S6.1 3).1 4).2))), ((ad 90), .inr (0, [.ref (ad 91), .int ((S6.2.1).2 1), .int ((S6.2.1).2 2), .int ((S6.2.1).2 3), .int ((S6.2.1).2 4), .int ((S6.2.1).2 5), .int ((S6.2.1).2 6), .int ((S6.2.1).2 7), .int ((S6.2.1).2 8), .int ((S6.2.1).2 9), .int ((S6.2.1).2 10), .int ((S6.2.1).2 11)])), ((ad 91), .inl (cs 0, 150, .inl ((S6.2.1).1))), ((ad 95), .inr (4, [.ref (ad 96), .ref (ad 97)])), ((ad 96), .inl (cs 0, 64, .inl ((S6.2.2.1).1))), ((ad 97), .inl (cs 0, 64, .inl ((S6.2.2.1).2)))]) (wg := fun u9 => WC cs ad (cM S6 0 (tR (S6.1 0) 4 u9))) hx hb hml hown hT hN hK hP hD hS hA cw_X10_102 hm (fun z h => tcX7_empty l D cs ad 20 (nI 8) (nI 3) 24 H.size ((S6.1 0).1 4) z h) ⟨rfl, rfl⟩ ⟨by decide, by decide⟩ [18, 19] [0, 1, 2, 3, 4, 5, 6, 7, 8, 9, 10, 11, 12, 13, 14, 15, 16, 17, 20, 21, 22, 23, 24, 25, 26, 27, 28, 29, 30, 31, 32, 33, 34, 35, 36, 37, 38, 39, 40, 41, 42, 43, 44, 45, 46, 47, 48, 49, 50, 51, 52, 53, 54, 55, 56, 57, 58, 59, 60] [0, 1, 2, 3, 4, 5, 6, 7, 8, 9, 10, 11, 12, 13, 14, 15, 16, 17, 59, 60, 18, 19, 20, 21, 22, 23, 24, 25, 26, 27, 28, 29, 30, 31, 32, 33, 34, 35, 36, 37, 38, 39, 40, 41, 42, 43, 44, 45, 46, 47, 48, 49, 50, 51, 52, 53, 54, 55, 56, 57, 58] rfl (by decide) rfl (by decide) (by decide) (fun _ => rfl) (by decide) (b := (ad 20)) 0 rfl rfl rfl hl.1 rfl rfl (Nat.le_of_ble_eq_true rfl) dX10_court_65 ⟨Nat.zero_le _, Nat.zero_le _⟩ (fun u9 H locs hm hP hD hS => ?_)
        obtain ⟨S8, hm, eS8⟩ := nm_ex hm
        rw [← eS8] at hP hD
        refine lv_aload_n hx hb dX10_court_68 rfl (lv_at hl 0 rfl) ?_
        refine gf_X10_30 (v := .ref (ad 10)) hx hb hT hown hK hP 0 rfl rfl dX10_court_69 ?_
        refine gf_X10_105 (v := .ref (ad 14)) hx hb hT hown hK hP 8 rfl rfl dX10_court_72 ?_
        refine gf_X10_78 (v := .int (((S8.1 0).1 1).1)) hx hb hT hown hK hP 12 rfl rfl dX10_court_75 ?_
        refine lv_iconst (v := (nI 1)) hx hb dX10_court_78 (by decide) ?_
        refine lv_isub hx hb dX10_court_79 ?_
        exact x_iretW (wf := (fun u => WC cs ad u)) hx hb hr hlk hK hP hD hS hm dX10_court_80
      · refine lv_aload_n hx hb dX10_court_39 rfl (lv_at hl 0 rfl) ?_
        refine xVW_i (As := []) (rest := []) (wr := []) (wg := (fun u => WC cs ad u)) hx hb hml hown hT hN hK hP hD hS hA cw_X10_92 hm (fun z h => tcX10_refuseFull l D cs ad H.size S z h) ⟨rfl, rfl⟩ ⟨by decide, by decide⟩ [0, 1, 2, 3, 4, 5, 6, 7, 8, 9, 10, 11, 12, 13, 14, 15, 16, 17, 18, 19, 20, 21, 22, 23, 24, 25, 26, 27, 28, 29, 30, 31, 32, 33, 34, 35, 36, 37, 38, 39, 40, 41, 42, 43, 44, 45, 46, 47, 48, 49, 50, 51, 52, 53, 54, 55, 56, 57, 58, 59, 60] [] [0, 1, 2, 3, 4, 5, 6, 7, 8, 9, 10, 11, 12, 13, 14, 15, 16, 17, 18, 19, 20, 21, 22, 23, 24, 25, 26, 27, 28, 29, 30, 31, 32, 33, 34, 35, 36, 37, 38, 39, 40, 41, 42, 43, 44, 45, 46, 47, 48, 49, 50, 51, 52, 53, 54, 55, 56, 57, 58, 59, 60] rfl (by decide) rfl (by decide) (by decide) (fun _ => rfl) (by decide) (b := (ad 0)) 0 rfl rfl rfl hl.1 rfl rfl (Nat.le_of_ble_eq_true rfl) dX10_court_40 ⟨Nat.zero_le _, Nat.zero_le _⟩ (fun r11 S10 H locs hm hP hD hS => ?_)
        exact x_iretW (wf := (fun u => WC cs ad u)) hx hb hr hlk hK hP hD hS hm dX10_court_43
    · refine lv_aload_n hx hb dX10_court_21 rfl (lv_at hl 0 rfl) ?_
      refine xVW_i (As := []) (rest := []) (wr := []) (wg := (fun u => WC cs ad u)) hx hb hml hown hT hN hK hP hD hS hA cw_X10_70 hm (fun z h => tcX10_refuseBad l D cs ad H.size S z h) ⟨rfl, rfl⟩ ⟨by decide, by decide⟩ [0, 1, 2, 3, 4, 5, 6, 7, 8, 9, 10, 11, 12, 13, 14, 15, 16, 17, 18, 19, 20, 21, 22, 23, 24, 25, 26, 27, 28, 29, 30, 31, 32, 33, 34, 35, 36, 37, 38, 39, 40, 41, 42, 43, 44, 45, 46, 47, 48, 49, 50, 51, 52, 53, 54, 55, 56, 57, 58, 59, 60] [] [0, 1, 2, 3, 4, 5, 6, 7, 8, 9, 10, 11, 12, 13, 14, 15, 16, 17, 18, 19, 20, 21, 22, 23, 24, 25, 26, 27, 28, 29, 30, 31, 32, 33, 34, 35, 36, 37, 38, 39, 40, 41, 42, 43, 44, 45, 46, 47, 48, 49, 50, 51, 52, 53, 54, 55, 56, 57, 58, 59, 60] rfl (by decide) rfl (by decide) (by decide) (fun _ => rfl) (by decide) (b := (ad 0)) 0 rfl rfl rfl hl.1 rfl rfl (Nat.le_of_ble_eq_true rfl) dX10_court_22 ⟨Nat.zero_le _, Nat.zero_le _⟩ (fun r13 S12 H locs hm hP hD hS => ?_)
      exact x_iretW (wf := (fun u => WC cs ad u)) hx hb hr hlk hK hP hD hS hm dX10_court_25
noncomputable def mX10_type (S : CT) (a1 : Int32) : Option (Int32 × CT) := (mX10_within a1 (nI 0) (nI 127)).bind fun r1 => (if r1 = 0 then (mX10_refuseBad S).bind fun ⟨r8, S7⟩ => some (r8, S7) else (mX0_isFull (S.2.1)).bind fun r2 => (if r2 = 0 then (mX0_add (S.2.1) a1).bind fun u4 => nm (cT S u4) fun S3 => some (((S3.2.1).2 1), S3) else (mX10_refuseFull S).bind fun ⟨r6, S5⟩ => some (r6, S5)))
set_option maxHeartbeats 4000000 in
set_option maxRecDepth 100000 in
theorem tcX10_type (l : Launch) (D : va_G) (cs : CS) (ad : Nat → Nat) (sz : Nat) (S : CT) (a1 : Int32) (z : Int32 × CT) (hm : mX10_type S a1 = some z) : Met l yX10_type (Cond.code yX10_type cX10_type 2 (some .int) :: gw_tbl) ({ frames := 1, cells := 0, slots := 0, locals := 22 }) (PcW D cs sz (WC cs ad S) [.ref (ad 0), .int a1]) (QWi D cs (va_A (WC cs ad S) sz) (fun u => WC cs ad u) z) 0 0 (va_A (WC cs ad S) sz) := by
  refine met_W rfl (Nat.le_of_ble_eq_true rfl) (fun p e s m below meth c E hP hD hS hA ls hl => ?_)
  generalize va_A (WC cs ad S) sz = A at hD hS hA ⊢
  obtain ⟨hx, hb, hr, hml, hown, hlk, hT, hN, hK⟩ := id E
  obtain ⟨H, hH⟩ : ∃ H, H = s.heap := ⟨_, rfl⟩
  obtain ⟨locs, hlo⟩ : ∃ L : List Loc, L = [] := ⟨_, rfl⟩
  have hP : va_P D classes (WC cs ad S) H := by rw [hH]; exact hP
  have hS : va_S A s.heap H locs := by rw [hH, hlo]; exact hS
  rw [show W p l e _ s m _ below meth c s.heap [] 0 0 = W p l e _ s m _ below meth c H locs 0 0 by rw [hH, hlo]]
  have hl : lv_has ls 2 [(0, .ref (ad 0)), (1, .int a1)] := hl
  unfold mX10_type at hm
  refine lv_iload_n hx hb dX10_type_0 rfl (lv_at hl 1 rfl) ?_
  refine lv_iconst (v := (nI 0)) hx hb dX10_type_1 (by decide) ?_
  refine lv_bipush (v := (nI 127)) hx hb dX10_type_2 (by decide) ?_
  refine xS_i (As := [.int a1, .int (nI 0), .int (nI 127)]) (rest := []) hx hb hml hown hT hN hK (hP.sub (ws' := []) [] rfl) cw_X10_66 hm (fun z h => tcX10_within l D cs a1 (nI 0) (nI 127) z h) ⟨rfl, rfl⟩ ⟨by decide, by decide⟩ hl.1 rfl rfl (Nat.le_of_ble_eq_true rfl) dX10_type_4 ⟨Nat.zero_le _, Nat.zero_le _⟩ (fun r1 hm => ?_)
  refine x_if_ne (tgt := 15) hx hb dX10_type_7 (by decide) hm (fun hm => ?_) (fun hm => ?_)
  · refine lv_aload_n hx hb dX10_type_15 rfl (lv_at hl 0 rfl) ?_
    refine gf_X10_48 (v := .ref (ad 90)) hx hb hT hown hK hP 0 rfl rfl dX10_type_16 ?_
    refine xV_i (As := []) (rest := []) hx hb hml hown hT hN hK (hP.sub (ws' := WX cs ad (S.2.1)) [56, 57] rfl) cw_X10_108 hm (fun z h => tcX0_isFull l D cs ad (S.2.1) z h) ⟨rfl, rfl⟩ ⟨by decide, by decide⟩ (b := (ad 90)) 0 rfl rfl rfl hl.1 rfl rfl (Nat.le_of_ble_eq_true rfl) dX10_type_19 ⟨Nat.zero_le _, Nat.zero_le _⟩ (fun r2 hm => ?_)
    refine x_if_eq (tgt := 30) hx hb dX10_type_22 (by decide) hm (fun hm => ?_) (fun hm => ?_)
    · refine lv_aload_n hx hb dX10_type_30 rfl (lv_at hl 0 rfl) ?_
      refine gf_X10_48 (v := .ref (ad 90)) hx hb hT hown hK hP 0 rfl rfl dX10_type_31 ?_
      refine lv_iload_n hx hb dX10_type_34 rfl (lv_at hl 1 rfl) ?_
      refine xVW_v (As := [.int a1]) (rest := []) (wr := [((ad 0), .inr (10, [.ref (ad 10), .ref (ad 30), .ref (ad 50), .ref (ad 70), .ref (ad 90), .ref (ad 95), .int (S.2.2.2.1 6), .int (S.2.2.2.1 7), .long (S.2.2.2.2 8), .long (S.2.2.2.2 9), .int (S.2.2.2.1 10), .int (S.2.2.2.1 11), .int (S.2.2.2.1 12)])), ((ad 1), .inl (cs 2, 6, .inr (.inr (.inr (.inr (fun k => some (ad (2 + k)))))))), ((ad 2), .inr (6, [])), ((ad 3), .inr (5, [])), ((ad 4), .inr (1, [])), ((ad 5), .inr (9, [])), ((ad 6), .inr (2, [])), ((ad 7), .inr (8, [])), ((ad 10), .inr (3, [.ref (ad 1), .ref (ad 11), .ref (ad 12), .ref (ad 14), .ref (ad 16), .ref (ad 18), .ref (ad 20), .int ((S.1 0).2 7), .int ((S.1 0).2 8), .int ((S.1 0).2 9), .int ((S.1 0).2 10)])), ((ad 11), .inr (6, [])), ((ad 12), .inr (7, [.int (nI 6), .int (nI 4), .ref (ad 13), .int (((S.1 0).1 0).1)])), ((ad 13), .inl (cs 0, 24, .inl (((S.1 0).1 0).2))), ((ad 14), .inr (7, [.int (nI 4), .int (nI 2), .ref (ad 15), .int (((S.1 0).1 1).1)])), ((ad 15), .inl (cs 0, 8, .inl (((S.1 0).1 1).2))), ((ad 16), .inr (7, [.int (nI 6), .int (nI 3), .ref (ad 17), .int (((S.1 0).1 2).1)])), ((ad 17), .inl (cs 0, 18, .inl (((S.1 0).1 2).2))), ((ad 18), .inr (7, [.int (nI 6), .int (nI 2), .ref (ad 19), .int (((S.1 0).1 3).1)])), ((ad 19), .inl (cs 0, 12, .inl (((S.1 0).1 3).2))), ((ad 20), .inr (7, [.int (nI 8), .int (nI 3), .ref (ad 21), .int (((S.1 0).1 4).1)])), ((ad 21), .inl (cs 0, 24, .inl (((S.1 0).1 4).2))), ((ad 30), .inr (3, [.ref (ad 1), .ref (ad 31), .ref (ad 32), .ref (ad 34), .ref (ad 36), .ref (ad 38), .ref (ad 40), .int ((S.1 1).2 7), .int ((S.1 1).2 8), .int ((S.1 1).2 9), .int ((S.1 1).2 10)])), ((ad 31), .inr (6, [])), ((ad 32), .inr (7, [.int (nI 6), .int (nI 4), .ref (ad 33), .int (((S.1 1).1 0).1)])), ((ad 33), .inl (cs 0, 24, .inl (((S.1 1).1 0).2))), ((ad 34), .inr (7, [.int (nI 4), .int (nI 2), .ref (ad 35), .int (((S.1 1).1 1).1)])), ((ad 35), .inl (cs 0, 8, .inl (((S.1 1).1 1).2))), ((ad 36), .inr (7, [.int (nI 6), .int (nI 3), .ref (ad 37), .int (((S.1 1).1 2).1)])), ((ad 37), .inl (cs 0, 18, .inl (((S.1 1).1 2).2))), ((ad 38), .inr (7, [.int (nI 6), .int (nI 2), .ref (ad 39), .int (((S.1 1).1 3).1)])), ((ad 39), .inl (cs 0, 12, .inl (((S.1 1).1 3).2))), ((ad 40), .inr (7, [.int (nI 8), .int (nI 3), .ref (ad 41), .int (((S.1 1).1 4).1)])), ((ad 41), .inl (cs 0, 24, .inl (((S.1 1).1 4).2))), ((ad 50), .inr (3, [.ref (ad 1), .ref (ad 51), .ref (ad 52), .ref (ad 54), .ref (ad 56), .ref (ad 58), .ref (ad 60), .int ((S.1 2).2 7), .int ((S.1 2).2 8), .int ((S.1 2).2 9), .int ((S.1 2).2 10)])), ((ad 51), .inr (6, [])), ((ad 52), .inr (7, [.int (nI 6), .int (nI 4), .ref (ad 53), .int (((S.1 2).1 0).1)])), ((ad 53), .inl (cs 0, 24, .inl (((S.1 2).1 0).2))), ((ad 54), .inr (7, [.int (nI 4), .int (nI 2), .ref (ad 55), .int (((S.1 2).1 1).1)])), ((ad 55), .inl (cs 0, 8, .inl (((S.1 2).1 1).2))), ((ad 56), .inr (7, [.int (nI 6), .int (nI 3), .ref (ad 57), .int (((S.1 2).1 2).1)])), ((ad 57), .inl (cs 0, 18, .inl (((S.1 2).1 2).2))), ((ad 58), .inr (7, [.int (nI 6), .int (nI 2), .ref (ad 59), .int (((S.1 2).1 3).1)])), ((ad 59), .inl (cs 0, 12, .inl (((S.1 2).1 3).2))), ((ad 60), .inr (7, [.int (nI 8), .int (nI 3), .ref (ad 61), .int (((S.1 2).1 4).1)])), ((ad 61), .inl (cs 0, 24, .inl (((S.1 2).1 4).2))), ((ad 70), .inr (3, [.ref (ad 1), .ref (ad 71), .ref (ad 72), .ref (ad 74), .ref (ad 76), .ref (ad 78), .ref (ad 80), .int ((S.1 3).2 7), .int ((S.1 3).2 8), .int ((S.1 3).2 9), .int ((S.1 3).2 10)])), ((ad 71), .inr (6, [])), ((ad 72), .inr (7, [.int (nI 6), .int (nI 4), .ref (ad 73), .int (((S.1 3).1 0).1)])), ((ad 73), .inl (cs 0, 24, .inl (((S.1 3).1 0).2))), ((ad 74), .inr (7, [.int (nI 4), .int (nI 2), .ref (ad 75), .int (((S.1 3).1 1).1)])), ((ad 75), .inl (cs 0, 8, .inl (((S.1 3).1 1).2))), ((ad 76), .inr (7, [.int (nI 6), .int (nI 3), .ref (ad 77), .int (((S.1 3).1 2).1)])), ((ad 77), .inl (cs 0, 18, .inl (((S.1 3).1 2).2))), ((ad 78), .inr (7, [.int (nI 6), .int (nI 2), .ref (ad 79), .int (((S.1 3).1 3).1)])), ((ad 79), .inl (cs 0, 12, .inl (((S.1 3).1 3).2))), ((ad 80), .inr (7, [.int (nI 8), .int (nI 3), .ref (ad 81), .int (((S.1 3).1 4).1)])), ((ad 81), .inl (cs 0, 24, .inl (((S.1 3).1 4).2))), ((ad 95), .inr (4, [.ref (ad 96), .ref (ad 97)])), ((ad 96), .inl (cs 0, 64, .inl ((S.2.2.1).1))), ((ad 97), .inl (cs 0, 64, .inl ((S.2.2.1).2)))]) (wg := fun u4 => WC cs ad (cT S u4)) hx hb hml hown hT hN hK hP hD hS hA cw_X10_109 hm (fun z h => tcX0_add l D cs ad H.size (S.2.1) a1 z h) ⟨rfl, rfl⟩ ⟨by decide, by decide⟩ [56, 57] [0, 1, 2, 3, 4, 5, 6, 7, 8, 9, 10, 11, 12, 13, 14, 15, 16, 17, 18, 19, 20, 21, 22, 23, 24, 25, 26, 27, 28, 29, 30, 31, 32, 33, 34, 35, 36, 37, 38, 39, 40, 41, 42, 43, 44, 45, 46, 47, 48, 49, 50, 51, 52, 53, 54, 55, 58, 59, 60] [0, 1, 2, 3, 4, 5, 6, 7, 8, 9, 10, 11, 12, 13, 14, 15, 16, 17, 18, 19, 20, 21, 22, 23, 24, 25, 26, 27, 28, 29, 30, 31, 32, 33, 34, 35, 36, 37, 38, 39, 40, 41, 42, 43, 44, 45, 46, 47, 48, 49, 50, 51, 52, 53, 54, 55, 59, 60, 56, 57, 58] rfl (by decide) rfl (by decide) (by decide) (fun _ => rfl) (by decide) (b := (ad 90)) 0 rfl rfl rfl hl.1 rfl rfl (Nat.le_of_ble_eq_true rfl) dX10_type_35 ⟨Nat.zero_le _, Nat.zero_le _⟩ (fun u4 H locs hm hP hD hS => ?_)
      obtain ⟨S3, hm, eS3⟩ := nm_ex hm
      rw [← eS3] at hP hD
      refine lv_aload_n hx hb dX10_type_38 rfl (lv_at hl 0 rfl) ?_
      refine gf_X10_48 (v := .ref (ad 90)) hx hb hT hown hK hP 0 rfl rfl dX10_type_39 ?_
      refine gf_X10_111 (v := .int ((S3.2.1).2 1)) hx hb hT hown hK hP 56 rfl rfl dX10_type_42 ?_
      exact x_iretW (wf := (fun u => WC cs ad u)) hx hb hr hlk hK hP hD hS hm dX10_type_45
    · refine lv_aload_n hx hb dX10_type_25 rfl (lv_at hl 0 rfl) ?_
      refine xVW_i (As := []) (rest := []) (wr := []) (wg := (fun u => WC cs ad u)) hx hb hml hown hT hN hK hP hD hS hA cw_X10_92 hm (fun z h => tcX10_refuseFull l D cs ad H.size S z h) ⟨rfl, rfl⟩ ⟨by decide, by decide⟩ [0, 1, 2, 3, 4, 5, 6, 7, 8, 9, 10, 11, 12, 13, 14, 15, 16, 17, 18, 19, 20, 21, 22, 23, 24, 25, 26, 27, 28, 29, 30, 31, 32, 33, 34, 35, 36, 37, 38, 39, 40, 41, 42, 43, 44, 45, 46, 47, 48, 49, 50, 51, 52, 53, 54, 55, 56, 57, 58, 59, 60] [] [0, 1, 2, 3, 4, 5, 6, 7, 8, 9, 10, 11, 12, 13, 14, 15, 16, 17, 18, 19, 20, 21, 22, 23, 24, 25, 26, 27, 28, 29, 30, 31, 32, 33, 34, 35, 36, 37, 38, 39, 40, 41, 42, 43, 44, 45, 46, 47, 48, 49, 50, 51, 52, 53, 54, 55, 56, 57, 58, 59, 60] rfl (by decide) rfl (by decide) (by decide) (fun _ => rfl) (by decide) (b := (ad 0)) 0 rfl rfl rfl hl.1 rfl rfl (Nat.le_of_ble_eq_true rfl) dX10_type_26 ⟨Nat.zero_le _, Nat.zero_le _⟩ (fun r6 S5 H locs hm hP hD hS => ?_)
      exact x_iretW (wf := (fun u => WC cs ad u)) hx hb hr hlk hK hP hD hS hm dX10_type_29
  · refine lv_aload_n hx hb dX10_type_10 rfl (lv_at hl 0 rfl) ?_
    refine xVW_i (As := []) (rest := []) (wr := []) (wg := (fun u => WC cs ad u)) hx hb hml hown hT hN hK hP hD hS hA cw_X10_70 hm (fun z h => tcX10_refuseBad l D cs ad H.size S z h) ⟨rfl, rfl⟩ ⟨by decide, by decide⟩ [0, 1, 2, 3, 4, 5, 6, 7, 8, 9, 10, 11, 12, 13, 14, 15, 16, 17, 18, 19, 20, 21, 22, 23, 24, 25, 26, 27, 28, 29, 30, 31, 32, 33, 34, 35, 36, 37, 38, 39, 40, 41, 42, 43, 44, 45, 46, 47, 48, 49, 50, 51, 52, 53, 54, 55, 56, 57, 58, 59, 60] [] [0, 1, 2, 3, 4, 5, 6, 7, 8, 9, 10, 11, 12, 13, 14, 15, 16, 17, 18, 19, 20, 21, 22, 23, 24, 25, 26, 27, 28, 29, 30, 31, 32, 33, 34, 35, 36, 37, 38, 39, 40, 41, 42, 43, 44, 45, 46, 47, 48, 49, 50, 51, 52, 53, 54, 55, 56, 57, 58, 59, 60] rfl (by decide) rfl (by decide) (by decide) (fun _ => rfl) (by decide) (b := (ad 0)) 0 rfl rfl rfl hl.1 rfl rfl (Nat.le_of_ble_eq_true rfl) dX10_type_11 ⟨Nat.zero_le _, Nat.zero_le _⟩ (fun r8 S7 H locs hm hP hD hS => ?_)
    exact x_iretW (wf := (fun u => WC cs ad u)) hx hb hr hlk hK hP hD hS hm dX10_type_14
noncomputable def mX10_isFiction (S : CT) (a1 : Int32) : Option Int32 := (if a1 < 0 then zo (nI 0) (some (nI 0)) else (if (((S.1 0).1 0).1) ≤ a1 then zo (nI 0) (some (nI 0)) else zo (nI 1) (some (nI 1))))
set_option maxHeartbeats 4000000 in
set_option maxRecDepth 100000 in
theorem tcX10_isFiction (l : Launch) (D : va_G) (cs : CS) (ad : Nat → Nat) (S : CT) (a1 : Int32) (z : Int32) (hm : mX10_isFiction S a1 = some z) : Met l yX10_isFiction (Cond.code yX10_isFiction cX10_isFiction 2 (some .boolean) :: gw_tbl) ({ frames := 0, cells := 0, slots := 0, locals := 0 }) (PcR D cs (WC cs ad S) [.ref (ad 0), .int a1]) (QRi z) 0 0 NoF := by
  refine met_R rfl (Nat.le_of_ble_eq_true rfl) (fun p e s m below meth c E hP ls hl => ?_)
  obtain ⟨hx, hb, hr, hml, hown, hlk, hT, hN, hK⟩ := id E
  have hl : lv_has ls 2 [(0, .ref (ad 0)), (1, .int a1)] := hl
  unfold mX10_isFiction at hm
  refine lv_iload_n hx hb dX10_isFiction_0 rfl (lv_at hl 1 rfl) ?_
  refine x_if_lt (tgt := 22) hx hb dX10_isFiction_1 (by decide) hm (fun hm => ?_) (fun hm => ?_)
  · refine lv_iconst (v := (nI 0)) hx hb dX10_isFiction_22 (by decide) ?_
    exact x_zretR hx hb hr hlk hm dX10_isFiction_23
  · refine lv_iload_n hx hb dX10_isFiction_4 rfl (lv_at hl 1 rfl) ?_
    refine lv_aload_n hx hb dX10_isFiction_5 rfl (lv_at hl 0 rfl) ?_
    refine gf_X10_30 (v := .ref (ad 10)) hx hb hT hown hK hP 0 rfl rfl dX10_isFiction_6 ?_
    refine gf_X10_74 (v := .ref (ad 12)) hx hb hT hown hK hP 8 rfl rfl dX10_isFiction_9 ?_
    refine gf_X10_78 (v := .int (((S.1 0).1 0).1)) hx hb hT hown hK hP 10 rfl rfl dX10_isFiction_12 ?_
    refine x_icmp_ge (tgt := 22) hx hb dX10_isFiction_15 (by decide) hm (fun hm => ?_) (fun hm => ?_)
    · refine lv_iconst (v := (nI 0)) hx hb dX10_isFiction_22 (by decide) ?_
      exact x_zretR hx hb hr hlk hm dX10_isFiction_23
    · refine lv_iconst (v := (nI 1)) hx hb dX10_isFiction_18 (by decide) ?_
      refine lv_goto (tgt := 23) hx hb dX10_isFiction_19 (by decide) ?_
      exact x_zretR hx hb hr hlk hm dX10_isFiction_23
noncomputable def mX10_note (S : CT) (a1 : Int32) (a2 : Int32) (a3 : Int32) : Option (Int32 × CT) := (mX10_isFiction S a1).bind fun r1 => (if r1 = 0 then (mX10_refuseBad S).bind fun ⟨r3, S2⟩ => some (r3, S2) else (mX10_within a2 (nI 0) (nI 20)).bind fun r4 => (if r4 = 0 then (mX10_refuseBad S).bind fun ⟨r6, S5⟩ => some (r6, S5) else (mX10_within a3 (nI 0) (nI 60)).bind fun r7 => (if r7 = 0 then (mX10_refuseBad S).bind fun ⟨r14, S13⟩ => some (r14, S13) else (mX7_isFull (nI 6) (nI 3) 18 ((S.1 0).1 2)).bind fun r8 => (if r8 = 0 then (mX7_add (nI 6) (nI 3) 18 ((S.1 0).1 2) a1 a2 a3 (nI 0)).bind fun u10 => nm (cM S 0 (tR (S.1 0) 2 u10)) fun S9 => some ((((S9.1 0).1 2).1), S9) else (mX10_refuseFull S).bind fun ⟨r12, S11⟩ => some (r12, S11)))))
set_option maxHeartbeats 4000000 in
set_option maxRecDepth 100000 in
theorem tcX10_note (l : Launch) (D : va_G) (cs : CS) (ad : Nat → Nat) (sz : Nat) (S : CT) (a1 : Int32) (a2 : Int32) (a3 : Int32) (z : Int32 × CT) (hm : mX10_note S a1 a2 a3 = some z) : Met l yX10_note (Cond.code yX10_note cX10_note 4 (some .int) :: gw_tbl) ({ frames := 2, cells := 0, slots := 0, locals := 48 }) (PcW D cs sz (WC cs ad S) [.ref (ad 0), .int a1, .int a2, .int a3]) (QWi D cs (va_A (WC cs ad S) sz) (fun u => WC cs ad u) z) 0 0 (va_A (WC cs ad S) sz) := by
  refine met_W rfl (Nat.le_of_ble_eq_true rfl) (fun p e s m below meth c E hP hD hS hA ls hl => ?_)
  generalize va_A (WC cs ad S) sz = A at hD hS hA ⊢
  obtain ⟨hx, hb, hr, hml, hown, hlk, hT, hN, hK⟩ := id E
  obtain ⟨H, hH⟩ : ∃ H, H = s.heap := ⟨_, rfl⟩
  obtain ⟨locs, hlo⟩ : ∃ L : List Loc, L = [] := ⟨_, rfl⟩
  have hP : va_P D classes (WC cs ad S) H := by rw [hH]; exact hP
  have hS : va_S A s.heap H locs := by rw [hH, hlo]; exact hS
  rw [show W p l e _ s m _ below meth c s.heap [] 0 0 = W p l e _ s m _ below meth c H locs 0 0 by rw [hH, hlo]]
  have hl : lv_has ls 4 [(0, .ref (ad 0)), (1, .int a1), (2, .int a2), (3, .int a3)] := hl
  unfold mX10_note at hm
  refine lv_aload_n hx hb dX10_note_0 rfl (lv_at hl 0 rfl) ?_
  refine lv_iload_n hx hb dX10_note_1 rfl (lv_at hl 1 rfl) ?_
  refine xV_i (As := [.int a1]) (rest := []) hx hb hml hown hT hN hK hP cw_X10_134 hm (fun z h => tcX10_isFiction l D cs ad S a1 z h) ⟨rfl, rfl⟩ ⟨by decide, by decide⟩ (b := (ad 0)) 0 rfl rfl rfl hl.1 rfl rfl (Nat.le_of_ble_eq_true rfl) dX10_note_2 ⟨Nat.zero_le _, Nat.zero_le _⟩ (fun r1 hm => ?_)
  refine x_if_eq (tgt := 28) hx hb dX10_note_5 (by decide) hm (fun hm => ?_) (fun hm => ?_)
  · refine lv_aload_n hx hb dX10_note_28 rfl (lv_at hl 0 rfl) ?_
    refine xVW_i (As := []) (rest := []) (wr := []) (wg := (fun u => WC cs ad u)) hx hb hml hown hT hN hK hP hD hS hA cw_X10_70 hm (fun z h => tcX10_refuseBad l D cs ad H.size S z h) ⟨rfl, rfl⟩ ⟨by decide, by decide⟩ [0, 1, 2, 3, 4, 5, 6, 7, 8, 9, 10, 11, 12, 13, 14, 15, 16, 17, 18, 19, 20, 21, 22, 23, 24, 25, 26, 27, 28, 29, 30, 31, 32, 33, 34, 35, 36, 37, 38, 39, 40, 41, 42, 43, 44, 45, 46, 47, 48, 49, 50, 51, 52, 53, 54, 55, 56, 57, 58, 59, 60] [] [0, 1, 2, 3, 4, 5, 6, 7, 8, 9, 10, 11, 12, 13, 14, 15, 16, 17, 18, 19, 20, 21, 22, 23, 24, 25, 26, 27, 28, 29, 30, 31, 32, 33, 34, 35, 36, 37, 38, 39, 40, 41, 42, 43, 44, 45, 46, 47, 48, 49, 50, 51, 52, 53, 54, 55, 56, 57, 58, 59, 60] rfl (by decide) rfl (by decide) (by decide) (fun _ => rfl) (by decide) (b := (ad 0)) 0 rfl rfl rfl hl.1 rfl rfl (Nat.le_of_ble_eq_true rfl) dX10_note_29 ⟨Nat.zero_le _, Nat.zero_le _⟩ (fun r3 S2 H locs hm hP hD hS => ?_)
    exact x_iretW (wf := (fun u => WC cs ad u)) hx hb hr hlk hK hP hD hS hm dX10_note_32
  · refine lv_iload_n hx hb dX10_note_8 rfl (lv_at hl 2 rfl) ?_
    refine lv_iconst (v := (nI 0)) hx hb dX10_note_9 (by decide) ?_
    refine lv_bipush (v := (nI 20)) hx hb dX10_note_10 (by decide) ?_
    refine xS_i (As := [.int a2, .int (nI 0), .int (nI 20)]) (rest := []) hx hb hml hown hT hN hK (hP.sub (ws' := []) [] rfl) cw_X10_66 hm (fun z h => tcX10_within l D cs a2 (nI 0) (nI 20) z h) ⟨rfl, rfl⟩ ⟨by decide, by decide⟩ hl.1 rfl rfl (Nat.le_of_ble_eq_true rfl) dX10_note_12 ⟨Nat.zero_le _, Nat.zero_le _⟩ (fun r4 hm => ?_)
    refine x_if_eq (tgt := 28) hx hb dX10_note_15 (by decide) hm (fun hm => ?_) (fun hm => ?_)
    · refine lv_aload_n hx hb dX10_note_28 rfl (lv_at hl 0 rfl) ?_
      refine xVW_i (As := []) (rest := []) (wr := []) (wg := (fun u => WC cs ad u)) hx hb hml hown hT hN hK hP hD hS hA cw_X10_70 hm (fun z h => tcX10_refuseBad l D cs ad H.size S z h) ⟨rfl, rfl⟩ ⟨by decide, by decide⟩ [0, 1, 2, 3, 4, 5, 6, 7, 8, 9, 10, 11, 12, 13, 14, 15, 16, 17, 18, 19, 20, 21, 22, 23, 24, 25, 26, 27, 28, 29, 30, 31, 32, 33, 34, 35, 36, 37, 38, 39, 40, 41, 42, 43, 44, 45, 46, 47, 48, 49, 50, 51, 52, 53, 54, 55, 56, 57, 58, 59, 60] [] [0, 1, 2, 3, 4, 5, 6, 7, 8, 9, 10, 11, 12, 13, 14, 15, 16, 17, 18, 19, 20, 21, 22, 23, 24, 25, 26, 27, 28, 29, 30, 31, 32, 33, 34, 35, 36, 37, 38, 39, 40, 41, 42, 43, 44, 45, 46, 47, 48, 49, 50, 51, 52, 53, 54, 55, 56, 57, 58, 59, 60] rfl (by decide) rfl (by decide) (by decide) (fun _ => rfl) (by decide) (b := (ad 0)) 0 rfl rfl rfl hl.1 rfl rfl (Nat.le_of_ble_eq_true rfl) dX10_note_29 ⟨Nat.zero_le _, Nat.zero_le _⟩ (fun r6 S5 H locs hm hP hD hS => ?_)
      exact x_iretW (wf := (fun u => WC cs ad u)) hx hb hr hlk hK hP hD hS hm dX10_note_32
    · refine lv_iload_n hx hb dX10_note_18 rfl (lv_at hl 3 rfl) ?_
      refine lv_iconst (v := (nI 0)) hx hb dX10_note_19 (by decide) ?_
      refine lv_bipush (v := (nI 60)) hx hb dX10_note_20 (by decide) ?_
      refine xS_i (As := [.int a3, .int (nI 0), .int (nI 60)]) (rest := []) hx hb hml hown hT hN hK (hP.sub (ws' := []) [] rfl) cw_X10_66 hm (fun z h => tcX10_within l D cs a3 (nI 0) (nI 60) z h) ⟨rfl, rfl⟩ ⟨by decide, by decide⟩ hl.1 rfl rfl (Nat.le_of_ble_eq_true rfl) dX10_note_22 ⟨Nat.zero_le _, Nat.zero_le _⟩ (fun r7 hm => ?_)
      refine x_if_ne (tgt := 33) hx hb dX10_note_25 (by decide) hm (fun hm => ?_) (fun hm => ?_)
      · refine lv_aload_n hx hb dX10_note_33 rfl (lv_at hl 0 rfl) ?_
        refine gf_X10_30 (v := .ref (ad 10)) hx hb hT hown hK hP 0 rfl rfl dX10_note_34 ?_
        refine gf_X10_212 (v := .ref (ad 16)) hx hb hT hown hK hP 8 rfl rfl dX10_note_37 ?_
        refine xV_i (As := []) (rest := []) hx hb hml hown hT hN hK (hP.sub (ws' := WR cs ad 16 (nI 6) (nI 3) 18 ((S.1 0).1 2)) [14, 15] rfl) cw_X10_88 hm (fun z h => tcX7_isFull l D cs ad 16 (nI 6) (nI 3) 18 ((S.1 0).1 2) z h) ⟨rfl, rfl⟩ ⟨by decide, by decide⟩ (b := (ad 16)) 0 rfl rfl rfl hl.1 rfl rfl (Nat.le_of_ble_eq_true rfl) dX10_note_40 ⟨Nat.zero_le _, Nat.zero_le _⟩ (fun r8 hm => ?_)
        refine x_if_eq (tgt := 51) hx hb dX10_note_43 (by decide) hm (fun hm => ?_) (fun hm => ?_)
        · refine lv_aload_n hx hb dX10_note_51 rfl (lv_at hl 0 rfl) ?_
          refine gf_X10_30 (v := .ref (ad 10)) hx hb hT hown hK hP 0 rfl rfl dX10_note_52 ?_
          refine gf_X10_212 (v := .ref (ad 16)) hx hb hT hown hK hP 8 rfl rfl dX10_note_55 ?_
          refine lv_iload_n hx hb dX10_note_58 rfl (lv_at hl 1 rfl) ?_
          refine lv_iload_n hx hb dX10_note_59 rfl (lv_at hl 2 rfl) ?_
          refine lv_iload_n hx hb dX10_note_60 rfl (lv_at hl 3 rfl) ?_
          refine lv_iconst (v := (nI 0)) hx hb dX10_note_61 (by decide) ?_
          refine xVW_v (As := [.int a1, .int a2, .int a3, .int (nI 0)]) (rest := []) (wr := [((ad 0), .inr (10, [.ref (ad 10), .ref (ad 30), .ref (ad 50), .ref (ad 70), .ref (ad 90), .ref (ad 95), .int (S.2.2.2.1 6), .int (S.2.2.2.1 7), .long (S.2.2.2.2 8), .long (S.2.2.2.2 9), .int (S.2.2.2.1 10), .int (S.2.2.2.1 11), .int (S.2.2.2.1 12)])), ((ad 1), .inl (cs 2, 6, .inr (.inr (.inr (.inr (fun k => some (ad (2 + k)))))))), ((ad 2), .inr (6, [])), ((ad 3), .inr (5, [])), ((ad 4), .inr (1, [])), ((ad 5), .inr (9, [])), ((ad 6), .inr (2, [])), ((ad 7), .inr (8, [])), ((ad 10), .inr (3, [.ref (ad 1), .ref (ad 11), .ref (ad 12), .ref (ad 14), .ref (ad 16), .ref (ad 18), .ref (ad 20), .int ((S.1 0).2 7), .int ((S.1 0).2 8), .int ((S.1 0).2 9), .int ((S.1 0).2 10)])), ((ad 11), .inr (6, [])), ((ad 12), .inr (7, [.int (nI 6), .int (nI 4), .ref (ad 13), .int (((S.1 0).1 0).1)])), ((ad 13), .inl (cs 0, 24, .inl (((S.1 0).1 0).2))), ((ad 14), .inr (7, [.int (nI 4), .int (nI 2), .ref (ad 15), .int (((S.1 0).1 1).1)])), ((ad 15), .inl (cs 0, 8, .inl (((S.1 0).1 1).2))), ((ad 18), .inr (7, [.int (nI 6), .int (nI 2), .ref (ad 19), .int (((S.1 0).1 3).1)])), ((ad 19), .inl (cs 0, 12, .inl (((S.1 0).1 3).2))), ((ad 20), .inr (7, [.int (nI 8), .int (nI 3), .ref (ad 21), .int (((S.1 0).1 4).1)])), ((ad 21), .inl (cs 0, 24, .inl (((S.1 0).1 4).2))), ((ad 30), .inr (3, [.ref (ad 1), .ref (ad 31), .ref (ad 32), .ref (ad 34), .ref (ad 36), .ref (ad 38), .ref (ad 40), .int ((S.1 1).2 7), .int ((S.1 1).2 8), .int ((S.1 1).2 9), .int ((S.1 1).2 10)])), ((ad 31), .inr (6, [])), ((ad 32), .inr (7, [.int (nI 6), .int (nI 4), .ref (ad 33), .int (((S.1 1).1 0).1)])), ((ad 33), .inl (cs 0, 24, .inl (((S.1 1).1 0).2))), ((ad 34), .inr (7, [.int (nI 4), .int (nI 2), .ref (ad 35), .int (((S.1 1).1 1).1)])), ((ad 35), .inl (cs 0, 8, .inl (((S.1 1).1 1).2))), ((ad 36), .inr (7, [.int (nI 6), .int (nI 3), .ref (ad 37), .int (((S.1 1).1 2).1)])), ((ad 37), .inl (cs 0, 18, .inl (((S.1 1).1 2).2))), ((ad 38), .inr (7, [.int (nI 6), .int (nI 2), .ref (ad 39), .int (((S.1 1).1 3).1)])), ((ad 39), .inl (cs 0, 12, .inl (((S.1 1).1 3).2))), ((ad 40), .inr (7, [.int (nI 8), .int (nI 3), .ref (ad 41), .int (((S.1 1).1 4).1)])), ((ad 41), .inl (cs 0, 24, .inl (((S.1 1).1 4).2))), ((ad 50), .inr (3, [.ref (ad 1), .ref (ad 51), .ref (ad 52), .ref (ad 54), .ref (ad 56), .ref (ad 58), .ref (ad 60), .int ((S.1 2).2 7), .int ((S.1 2).2 8), .int ((S.1 2).2 9), .int ((S.1 2).2 10)])), ((ad 51), .inr (6, [])), ((ad 52), .inr (7, [.int (nI 6), .int (nI 4), .ref (ad 53), .int (((S.1 2).1 0).1)])), ((ad 53), .inl (cs 0, 24, .inl (((S.1 2).1 0).2))), ((ad 54), .inr (7, [.int (nI 4), .int (nI 2), .ref (ad 55), .int (((S.1 2).1 1).1)])), ((ad 55), .inl (cs 0, 8, .inl (((S.1 2).1 1).2))), ((ad 56), .inr (7, [.int (nI 6), .int (nI 3), .ref (ad 57), .int (((S.1 2).1 2).1)])), ((ad 57), .inl (cs 0, 18, .inl (((S.1 2).1 2).2))), ((ad 58), .inr (7, [.int (nI 6), .int (nI 2), .ref (ad 59), .int (((S.1 2).1 3).1)])), ((ad 59), .inl (cs 0, 12, .inl (((S.1 2).1 3).2))), ((ad 60), .inr (7, [.int (nI 8), .int (nI 3), .ref (ad 61), .int (((S.1 2).1 4).1)])), ((ad 61), .inl (cs 0, 24, .inl (((S.1 2).1 4).2))), ((ad 70), .inr (3, [.ref (ad 1), .ref (ad 71), .ref (ad 72), .ref (ad 74), .ref (ad 76), .ref (ad 78), .ref (ad 80), .int ((S.1 3).2 7), .int ((S.1 3).2 8), .int ((S.1 3).2 9), .int ((S.1 3).2 10)])), ((ad 71), .inr (6, [])), ((ad 72), .inr (7, [.int (nI 6), .int (nI 4), .ref (ad 73), .int (((S.1 3).1 0).1)])), ((ad 73), .inl (cs 0, 24, .inl (((S.1 3).1 0).2))), ((ad 74), .inr (7, [.int (nI 4), .int (nI 2), .ref (ad 75), .int (((S.1 3).1 1).1)])), ((ad 75), .inl (cs 0, 8, .inl (((S.1 3).1 1).2))), ((ad 76), .inr (7, [.int (nI 6), .int (nI 3), .ref (ad 77), .int (((S.1 3).1 2).1)])), ((ad 77), .inl (cs 0, 18, .inl (((S.1 3).1 2).2))), ((ad 78), .inr (7, [.int (nI 6), .int (nI 2), .ref (ad 79), .int (((S.1 3).1 3).1)])), ((ad 79), .inl (cs 0, 12, .inl (((S.1 3).1 3).2))), ((ad 80), .inr (7, [.int (nI 8), .int (nI 3), .ref (ad 81), .int (((S.1 3).1 4).1)])), ((ad 81), .inl (cs 0, 24, .inl (((S.1 3).1 4).2))), ((ad 90), .inr (0, [.ref (ad 91), .int ((S.2.1).2 1), .int ((S.2.1).2 2), .int ((S.2.1).2 3), .int ((S.2.1).2 4), .int ((S.2.1).2 5), .int ((S.2.1).2 6), .int ((S.2.1).2 7), .int ((S.2.1).2 8), .int ((S.2.1).2 9), .int ((S.2.1).2 10), .int ((S.2.1).2 11)])), ((ad 91), .inl (cs 0, 150, .inl ((S.2.1).1))), ((ad 95), .inr (4, [.ref (ad 96), .ref (ad 97)])), ((ad 96), .inl (cs 0, 64, .inl ((S.2.2.1).1))), ((ad 97), .inl (cs 0, 64, .inl ((S.2.2.1).2)))]) (wg := fun u10 => WC cs ad (cM S 0 (tR (S.1 0) 2 u10))) hx hb hml hown hT hN hK hP hD hS hA cw_X10_95 hm (fun z h => tcX7_add l D cs ad 16 (nI 6) (nI 3) 18 H.size ((S.1 0).1 2) a1 a2 a3 (nI 0) z h) ⟨rfl, rfl⟩ ⟨by decide, by decide⟩ [14, 15] [0, 1, 2, 3, 4, 5, 6, 7, 8, 9, 10, 11, 12, 13, 16, 17, 18, 19, 20, 21, 22, 23, 24, 25, 26, 27, 28, 29, 30, 31, 32, 33, 34, 35, 36, 37, 38, 39, 40, 41, 42, 43, 44, 45, 46, 47, 48, 49, 50, 51, 52, 53, 54, 55, 56, 57, 58, 59, 60] [0, 1, 2, 3, 4, 5, 6, 7, 8, 9, 10, 11, 12, 13, 59, 60, 14, 15, 16, 17, 18, 19, 20, 21, 22, 23, 24, 25, 26, 27, 28, 29, 30, 31, 32, 33, 34, 35, 36, 37, 38, 39, 40, 41, 42, 43, 44, 45, 46, 47, 48, 49, 50, 51, 52, 53, 54, 55, 56, 57, 58] rfl (by decide) rfl (by decide) (by decide) (fun _ => rfl) (by decide) (b := (ad 16)) 0 rfl rfl rfl hl.1 rfl rfl (Nat.le_of_ble_eq_true rfl) dX10_note_62 ⟨Nat.zero_le _, Nat.zero_le _⟩ (fun u10 H locs hm hP hD hS => ?_)
          obtain ⟨S9, hm, eS9⟩ := nm_ex hm
          rw [← eS9] at hP hD
          refine lv_aload_n hx hb dX10_note_65 rfl (lv_at hl 0 rfl) ?_
          refine gf_X10_30 (v := .ref (ad 10)) hx hb hT hown hK hP 0 rfl rfl dX10_note_66 ?_
          refine gf_X10_212 (v := .ref (ad 16)) hx hb hT hown hK hP 8 rfl rfl dX10_note_69 ?_
          refine gf_X10_78 (v := .int (((S9.1 0).1 2).1)) hx hb hT hown hK hP 14 rfl rfl dX10_note_72 ?_
          exact x_iretW (wf := (fun u => WC cs ad u)) hx hb hr hlk hK hP hD hS hm dX10_note_75
        · refine lv_aload_n hx hb dX10_note_46 rfl (lv_at hl 0 rfl) ?_
          refine xVW_i (As := []) (rest := []) (wr := []) (wg := (fun u => WC cs ad u)) hx hb hml hown hT hN hK hP hD hS hA cw_X10_92 hm (fun z h => tcX10_refuseFull l D cs ad H.size S z h) ⟨rfl, rfl⟩ ⟨by decide, by decide⟩ [0, 1, 2, 3, 4, 5, 6, 7, 8, 9, 10, 11, 12, 13, 14, 15, 16, 17, 18, 19, 20, 21, 22, 23, 24, 25, 26, 27, 28, 29, 30, 31, 32, 33, 34, 35, 36, 37, 38, 39, 40, 41, 42, 43, 44, 45, 46, 47, 48, 49, 50, 51, 52, 53, 54, 55, 56, 57, 58, 59, 60] [] [0, 1, 2, 3, 4, 5, 6, 7, 8, 9, 10, 11, 12, 13, 14, 15, 16, 17, 18, 19, 20, 21, 22, 23, 24, 25, 26, 27, 28, 29, 30, 31, 32, 33, 34, 35, 36, 37, 38, 39, 40, 41, 42, 43, 44, 45, 46, 47, 48, 49, 50, 51, 52, 53, 54, 55, 56, 57, 58, 59, 60] rfl (by decide) rfl (by decide) (by decide) (fun _ => rfl) (by decide) (b := (ad 0)) 0 rfl rfl rfl hl.1 rfl rfl (Nat.le_of_ble_eq_true rfl) dX10_note_47 ⟨Nat.zero_le _, Nat.zero_le _⟩ (fun r12 S11 H locs hm hP hD hS => ?_)
          exact x_iretW (wf := (fun u => WC cs ad u)) hx hb hr hlk hK hP hD hS hm dX10_note_50
      · refine lv_aload_n hx hb dX10_note_28 rfl (lv_at hl 0 rfl) ?_
        refine xVW_i (As := []) (rest := []) (wr := []) (wg := (fun u => WC cs ad u)) hx hb hml hown hT hN hK hP hD hS hA cw_X10_70 hm (fun z h => tcX10_refuseBad l D cs ad H.size S z h) ⟨rfl, rfl⟩ ⟨by decide, by decide⟩ [0, 1, 2, 3, 4, 5, 6, 7, 8, 9, 10, 11, 12, 13, 14, 15, 16, 17, 18, 19, 20, 21, 22, 23, 24, 25, 26, 27, 28, 29, 30, 31, 32, 33, 34, 35, 36, 37, 38, 39, 40, 41, 42, 43, 44, 45, 46, 47, 48, 49, 50, 51, 52, 53, 54, 55, 56, 57, 58, 59, 60] [] [0, 1, 2, 3, 4, 5, 6, 7, 8, 9, 10, 11, 12, 13, 14, 15, 16, 17, 18, 19, 20, 21, 22, 23, 24, 25, 26, 27, 28, 29, 30, 31, 32, 33, 34, 35, 36, 37, 38, 39, 40, 41, 42, 43, 44, 45, 46, 47, 48, 49, 50, 51, 52, 53, 54, 55, 56, 57, 58, 59, 60] rfl (by decide) rfl (by decide) (by decide) (fun _ => rfl) (by decide) (b := (ad 0)) 0 rfl rfl rfl hl.1 rfl rfl (Nat.le_of_ble_eq_true rfl) dX10_note_29 ⟨Nat.zero_le _, Nat.zero_le _⟩ (fun r14 S13 H locs hm hP hD hS => ?_)
        exact x_iretW (wf := (fun u => WC cs ad u)) hx hb hr hlk hK hP hD hS hm dX10_note_32
noncomputable def mX10_is (S : CT) (a1 : Int32) : Option (Int32 × CT) := (mX10_isFiction S a1).bind fun r1 => (if r1 = 0 then (mX10_refuseBad S).bind fun ⟨r4, S3⟩ => some (r4, S3) else (mX3_kindsByNotes (S.1 0) a1).bind fun r2 => some (r2, S))
set_option maxHeartbeats 4000000 in
set_option maxRecDepth 100000 in
theorem tcX10_is (l : Launch) (D : va_G) (cs : CS) (ad : Nat → Nat) (sz : Nat) (S : CT) (a1 : Int32) (z : Int32 × CT) (hm : mX10_is S a1 = some z) : Met l yX10_is (Cond.code yX10_is cX10_is 2 (some .int) :: gw_tbl) ({ frames := 6, cells := 0, slots := 0, locals := 135 }) (PcW D cs sz (WC cs ad S) [.ref (ad 0), .int a1]) (QWi D cs (va_A (WC cs ad S) sz) (fun u => WC cs ad u) z) 0 0 (va_A (WC cs ad S) sz) := by
  refine met_W rfl (Nat.le_of_ble_eq_true rfl) (fun p e s m below meth c E hP hD hS hA ls hl => ?_)
  generalize va_A (WC cs ad S) sz = A at hD hS hA ⊢
  obtain ⟨hx, hb, hr, hml, hown, hlk, hT, hN, hK⟩ := id E
  obtain ⟨H, hH⟩ : ∃ H, H = s.heap := ⟨_, rfl⟩
  obtain ⟨locs, hlo⟩ : ∃ L : List Loc, L = [] := ⟨_, rfl⟩
  have hP : va_P D classes (WC cs ad S) H := by rw [hH]; exact hP
  have hS : va_S A s.heap H locs := by rw [hH, hlo]; exact hS
  rw [show W p l e _ s m _ below meth c s.heap [] 0 0 = W p l e _ s m _ below meth c H locs 0 0 by rw [hH, hlo]]
  have hl : lv_has ls 2 [(0, .ref (ad 0)), (1, .int a1)] := hl
  unfold mX10_is at hm
  refine lv_aload_n hx hb dX10_is_0 rfl (lv_at hl 0 rfl) ?_
  refine lv_iload_n hx hb dX10_is_1 rfl (lv_at hl 1 rfl) ?_
  refine xV_i (As := [.int a1]) (rest := []) hx hb hml hown hT hN hK hP cw_X10_134 hm (fun z h => tcX10_isFiction l D cs ad S a1 z h) ⟨rfl, rfl⟩ ⟨by decide, by decide⟩ (b := (ad 0)) 0 rfl rfl rfl hl.1 rfl rfl (Nat.le_of_ble_eq_true rfl) dX10_is_2 ⟨Nat.zero_le _, Nat.zero_le _⟩ (fun r1 hm => ?_)
  refine x_if_ne (tgt := 13) hx hb dX10_is_5 (by decide) hm (fun hm => ?_) (fun hm => ?_)
  · refine lv_aload_n hx hb dX10_is_13 rfl (lv_at hl 0 rfl) ?_
    refine gf_X10_30 (v := .ref (ad 10)) hx hb hT hown hK hP 0 rfl rfl dX10_is_14 ?_
    refine lv_iload_n hx hb dX10_is_17 rfl (lv_at hl 1 rfl) ?_
    refine xV_i (As := [.int a1]) (rest := []) hx hb hml hown hT hN hK (hP.sub (ws' := WT cs ad 10 (S.1 0)) [8, 9, 10, 11, 12, 13, 14, 15, 16, 17, 18, 19, 1, 2, 3, 4, 5, 6, 7] rfl) cw_X10_218 hm (fun z h => tcX3_kindsByNotes l D cs ad 10 (S.1 0) a1 z h) ⟨rfl, rfl⟩ ⟨by decide, by decide⟩ (b := (ad 10)) 0 rfl rfl rfl hl.1 rfl rfl (Nat.le_of_ble_eq_true rfl) dX10_is_18 ⟨Nat.zero_le _, Nat.zero_le _⟩ (fun r2 hm => ?_)
    exact x_iretW (wf := (fun u => WC cs ad u)) hx hb hr hlk hK hP hD hS hm dX10_is_21
  · refine lv_aload_n hx hb dX10_is_8 rfl (lv_at hl 0 rfl) ?_
    refine xVW_i (As := []) (rest := []) (wr := []) (wg := (fun u => WC cs ad u)) hx hb hml hown hT hN hK hP hD hS hA cw_X10_70 hm (fun z h => tcX10_refuseBad l D cs ad H.size S z h) ⟨rfl, rfl⟩ ⟨by decide, by decide⟩ [0, 1, 2, 3, 4, 5, 6, 7, 8, 9, 10, 11, 12, 13, 14, 15, 16, 17, 18, 19, 20, 21, 22, 23, 24, 25, 26, 27, 28, 29, 30, 31, 32, 33, 34, 35, 36, 37, 38, 39, 40, 41, 42, 43, 44, 45, 46, 47, 48, 49, 50, 51, 52, 53, 54, 55, 56, 57, 58, 59, 60] [] [0, 1, 2, 3, 4, 5, 6, 7, 8, 9, 10, 11, 12, 13, 14, 15, 16, 17, 18, 19, 20, 21, 22, 23, 24, 25, 26, 27, 28, 29, 30, 31, 32, 33, 34, 35, 36, 37, 38, 39, 40, 41, 42, 43, 44, 45, 46, 47, 48, 49, 50, 51, 52, 53, 54, 55, 56, 57, 58, 59, 60] rfl (by decide) rfl (by decide) (by decide) (fun _ => rfl) (by decide) (b := (ad 0)) 0 rfl rfl rfl hl.1 rfl rfl (Nat.le_of_ble_eq_true rfl) dX10_is_9 ⟨Nat.zero_le _, Nat.zero_le _⟩ (fun r4 S3 H locs hm hP hD hS => ?_)
    exact x_iretW (wf := (fun u => WC cs ad u)) hx hb hr hlk hK hP hD hS hm dX10_is_12
noncomputable def mX10_look_L31  : Nat → Int32 → Int32 → Int32 → Int32 → Int32 → CT → Option (Int32 × CT) := fun n => Nat.rec (motive := fun _ => Int32 → Int32 → Int32 → Int32 → Int32 → CT → Option (Int32 × CT)) (fun _ _ _ _ _ _ => none) (fun _ rc => fun y1 y2 y3 y4 y5 S => (if (nI 9) < y5 then some (y3, S) else (if y2 = 0 then some (y3, S) else (mX3_mostAlike (S.1 0) y1 y2 y5).bind fun r3 => (if y4 ≤ r3 then nm (y5 + (nI 1)) fun x4 => rc y1 y2 y3 y4 x4 S else nm (y5 + (nI 1)) fun x5 => rc y1 y2 y5 r3 x5 S)))) n
theorem mX10_look_L31_s  (n : Nat) (y1 : Int32) (y2 : Int32) (y3 : Int32) (y4 : Int32) (y5 : Int32) (S : CT) : mX10_look_L31  (n + 1) y1 y2 y3 y4 y5 S = (if (nI 9) < y5 then some (y3, S) else (if y2 = 0 then some (y3, S) else (mX3_mostAlike (S.1 0) y1 y2 y5).bind fun r3 => (if y4 ≤ r3 then nm (y5 + (nI 1)) fun x4 => (mX10_look_L31  n) y1 y2 y3 y4 x4 S else nm (y5 + (nI 1)) fun x5 => (mX10_look_L31  n) y1 y2 y5 r3 x5 S))) := rfl
noncomputable def mX10_look (S : CT) (a1 : Int32) : Option (Int32 × CT) := (mX10_isFiction S a1).bind fun r1 => (if r1 = 0 then (mX10_refuseBad S).bind fun ⟨r7, S6⟩ => some (r7, S6) else (mX3_kindsByNotes (S.1 0) a1).bind fun r2 => mX10_look_L31 FU a1 r2 (-1 : Int32) (nI 7) (nI 0) S)
set_option maxHeartbeats 4000000 in
set_option maxRecDepth 100000 in
theorem kX10_look_L31 {p : Program} {l : Launch} {e : Env} {s : State} {m : MethodId} {below : List Frame} {meth : Method} {c : Code} {D : va_G} {cs : CS} {A : Nat → Prop}  {ad : Nat → Nat} {a1 : Int32} (E : EV p s m [.ref (ad 0), .int a1].toArray meth c cX10_look 7 RX10 (some .int) D cs) (hA : ∀ q : Nat, s.heap.size ≤ q → A q) (z : Int32 × CT) : ∀ (n : Nat) (y1 : Int32) (y2 : Int32) (y3 : Int32) (y4 : Int32) (y5 : Int32) (S : CT), mX10_look_L31  n y1 y2 y3 y4 y5 S = some z → ∀ (H : Heap) (locs : List Loc), va_P D classes (WC cs ad S) H → va_D A (WC cs ad S) → va_S A s.heap H locs → ∀ ls : Array Slot, lv_has ls 7 [(0, .ref (ad 0)), (1, .int y1), (2, .int y2), (3, .int y3), (4, .int y4), (5, .int y5)] → W p l e ({ frames := 6, cells := 0, slots := 0, locals := 141 }) s m [.ref (ad 0), .int a1].toArray below meth c H locs 0 0 (MQ below (QWi D cs A (fun u => WC cs ad u) z) [.ref (ad 0), .int a1].toArray s 0 0 A) (F0 m 31 ls []) := by
  obtain ⟨hx, hb, hr, hml, hown, hlk, hT, hN, hK⟩ := id E
  intro n
  induction n with
  | zero =>
    intro y1 y2 y3 y4 y5 S hm
    exact nomatch (show (none : Option (Int32 × CT)) = some z from hm)
  | succ n ih =>
    intro y1 y2 y3 y4 y5 S hm H locs hP hD hS ls hl
    rw [mX10_look_L31_s] at hm
    refine lv_iload hx hb dX10_look_31 (lv_at hl 5 rfl) ?_
    refine lv_bipush (v := (nI 9)) hx hb dX10_look_33 (by decide) ?_
    refine x_icmp_gt (tgt := 75) hx hb dX10_look_35 (by decide) hm (fun hm => ?_) (fun hm => ?_)
    · refine lv_iload_n hx hb dX10_look_75 rfl (lv_at hl 3 rfl) ?_
      exact x_iretW (wf := (fun u => WC cs ad u)) hx hb hr hlk hK hP hD hS hm dX10_look_76
    · refine lv_iload_n hx hb dX10_look_38 rfl (lv_at hl 2 rfl) ?_
      refine x_if_eq (tgt := 75) hx hb dX10_look_39 (by decide) hm (fun hm => ?_) (fun hm => ?_)
      · refine lv_iload_n hx hb dX10_look_75 rfl (lv_at hl 3 rfl) ?_
        exact x_iretW (wf := (fun u => WC cs ad u)) hx hb hr hlk hK hP hD hS hm dX10_look_76
      · refine lv_aload_n hx hb dX10_look_42 rfl (lv_at hl 0 rfl) ?_
        refine gf_X10_30 (v := .ref (ad 10)) hx hb hT hown hK hP 0 rfl rfl dX10_look_43 ?_
        refine lv_iload_n hx hb dX10_look_46 rfl (lv_at hl 1 rfl) ?_
        refine lv_iload_n hx hb dX10_look_47 rfl (lv_at hl 2 rfl) ?_
        refine lv_iload hx hb dX10_look_48 (lv_at hl 5 rfl) ?_
        refine xV_i (As := [.int y1, .int y2, .int y5]) (rest := []) hx hb hml hown hT hN hK (hP.sub (ws' := WT cs ad 10 (S.1 0)) [8, 9, 10, 11, 12, 13, 14, 15, 16, 17, 18, 19, 1, 2, 3, 4, 5, 6, 7] rfl) cw_X10_221 hm (fun z h => tcX3_mostAlike l D cs ad 10 (S.1 0) y1 y2 y5 z h) ⟨rfl, rfl⟩ ⟨by decide, by decide⟩ (b := (ad 10)) 0 rfl rfl rfl hl.1 rfl rfl (Nat.le_of_ble_eq_true rfl) dX10_look_50 ⟨Nat.zero_le _, Nat.zero_le _⟩ (fun r3 hm => ?_)
        refine lv_istore (lv' := [(6, .int r3), (0, .ref (ad 0)), (1, .int y1), (2, .int y2), (3, .int y3), (4, .int y4), (5, .int y5)]) hx hb dX10_look_53 hl (by decide) rfl (fun ls hl => ?_)
        refine lv_iload hx hb dX10_look_55 (lv_at hl 0 rfl) ?_
        refine lv_iload hx hb dX10_look_57 (lv_at hl 5 rfl) ?_
        refine x_icmp_ge (tgt := 69) hx hb dX10_look_59 (by decide) hm (fun hm => ?_) (fun hm => ?_)
        · refine x_iinc (lv' := fun x4 => [(5, .int x4), (6, .int r3), (0, .ref (ad 0)), (1, .int y1), (2, .int y2), (3, .int y3), (4, .int y4)]) hx hb dX10_look_69 hl (k := 6) rfl (by decide) (v0 := (nI 1)) (by decide) (fun _ => rfl) hm (fun x4 ls hm hl => ?_)
          refine lv_goto (tgt := 31) hx hb dX10_look_72 (by decide) ?_
          exact ih y1 y2 y3 y4 x4 S hm H locs hP hD hS ls (lv_sub hl [2, 3, 4, 5, 6, 0] rfl)
        · refine lv_iload hx hb dX10_look_62 (lv_at hl 0 rfl) ?_
          refine lv_istore (lv' := [(4, .int r3), (6, .int r3), (0, .ref (ad 0)), (1, .int y1), (2, .int y2), (3, .int y3), (5, .int y5)]) hx hb dX10_look_64 hl (by decide) rfl (fun ls hl => ?_)
          refine lv_iload hx hb dX10_look_66 (lv_at hl 6 rfl) ?_
          refine lv_istore_n (lv' := [(3, .int y5), (4, .int r3), (6, .int r3), (0, .ref (ad 0)), (1, .int y1), (2, .int y2), (5, .int y5)]) hx hb dX10_look_68 rfl hl (by decide) rfl (fun ls hl => ?_)
          refine x_iinc (lv' := fun x5 => [(5, .int x5), (3, .int y5), (4, .int r3), (6, .int r3), (0, .ref (ad 0)), (1, .int y1), (2, .int y2)]) hx hb dX10_look_69 hl (k := 6) rfl (by decide) (v0 := (nI 1)) (by decide) (fun _ => rfl) hm (fun x5 ls hm hl => ?_)
          refine lv_goto (tgt := 31) hx hb dX10_look_72 (by decide) ?_
          exact ih y1 y2 y5 r3 x5 S hm H locs hP hD hS ls (lv_sub hl [4, 5, 6, 1, 2, 0] rfl)
set_option maxHeartbeats 4000000 in
set_option maxRecDepth 100000 in
theorem tcX10_look (l : Launch) (D : va_G) (cs : CS) (ad : Nat → Nat) (sz : Nat) (S : CT) (a1 : Int32) (z : Int32 × CT) (hm : mX10_look S a1 = some z) : Met l yX10_look (Cond.code yX10_look cX10_look 7 (some .int) :: gw_tbl) ({ frames := 6, cells := 0, slots := 0, locals := 141 }) (PcW D cs sz (WC cs ad S) [.ref (ad 0), .int a1]) (QWi D cs (va_A (WC cs ad S) sz) (fun u => WC cs ad u) z) 0 0 (va_A (WC cs ad S) sz) := by
  refine met_W rfl (Nat.le_of_ble_eq_true rfl) (fun p e s m below meth c E hP hD hS hA ls hl => ?_)
  generalize va_A (WC cs ad S) sz = A at hD hS hA ⊢
  obtain ⟨hx, hb, hr, hml, hown, hlk, hT, hN, hK⟩ := id E
  obtain ⟨H, hH⟩ : ∃ H, H = s.heap := ⟨_, rfl⟩
  obtain ⟨locs, hlo⟩ : ∃ L : List Loc, L = [] := ⟨_, rfl⟩
  have hP : va_P D classes (WC cs ad S) H := by rw [hH]; exact hP
  have hS : va_S A s.heap H locs := by rw [hH, hlo]; exact hS
  rw [show W p l e _ s m _ below meth c s.heap [] 0 0 = W p l e _ s m _ below meth c H locs 0 0 by rw [hH, hlo]]
  have hl : lv_has ls 7 [(0, .ref (ad 0)), (1, .int a1)] := hl
  unfold mX10_look at hm
  refine lv_aload_n hx hb dX10_look_0 rfl (lv_at hl 0 rfl) ?_
  refine lv_iload_n hx hb dX10_look_1 rfl (lv_at hl 1 rfl) ?_
  refine xV_i (As := [.int a1]) (rest := []) hx hb hml hown hT hN hK hP cw_X10_134 hm (fun z h => tcX10_isFiction l D cs ad S a1 z h) ⟨rfl, rfl⟩ ⟨by decide, by decide⟩ (b := (ad 0)) 0 rfl rfl rfl hl.1 rfl rfl (Nat.le_of_ble_eq_true rfl) dX10_look_2 ⟨Nat.zero_le _, Nat.zero_le _⟩ (fun r1 hm => ?_)
  refine x_if_ne (tgt := 13) hx hb dX10_look_5 (by decide) hm (fun hm => ?_) (fun hm => ?_)
  · refine lv_aload_n hx hb dX10_look_13 rfl (lv_at hl 0 rfl) ?_
    refine gf_X10_30 (v := .ref (ad 10)) hx hb hT hown hK hP 0 rfl rfl dX10_look_14 ?_
    refine lv_iload_n hx hb dX10_look_17 rfl (lv_at hl 1 rfl) ?_
    refine xV_i (As := [.int a1]) (rest := []) hx hb hml hown hT hN hK (hP.sub (ws' := WT cs ad 10 (S.1 0)) [8, 9, 10, 11, 12, 13, 14, 15, 16, 17, 18, 19, 1, 2, 3, 4, 5, 6, 7] rfl) cw_X10_218 hm (fun z h => tcX3_kindsByNotes l D cs ad 10 (S.1 0) a1 z h) ⟨rfl, rfl⟩ ⟨by decide, by decide⟩ (b := (ad 10)) 0 rfl rfl rfl hl.1 rfl rfl (Nat.le_of_ble_eq_true rfl) dX10_look_18 ⟨Nat.zero_le _, Nat.zero_le _⟩ (fun r2 hm => ?_)
    refine lv_istore_n (lv' := [(2, .int r2), (0, .ref (ad 0)), (1, .int a1)]) hx hb dX10_look_21 rfl hl (by decide) rfl (fun ls hl => ?_)
    refine lv_iconst (v := (-1 : Int32)) hx hb dX10_look_22 (by decide) ?_
    refine lv_istore_n (lv' := [(3, .int (-1 : Int32)), (2, .int r2), (0, .ref (ad 0)), (1, .int a1)]) hx hb dX10_look_23 rfl hl (by decide) rfl (fun ls hl => ?_)
    refine lv_bipush (v := (nI 7)) hx hb dX10_look_24 (by decide) ?_
    refine lv_istore (lv' := [(4, .int (nI 7)), (3, .int (-1 : Int32)), (2, .int r2), (0, .ref (ad 0)), (1, .int a1)]) hx hb dX10_look_26 hl (by decide) rfl (fun ls hl => ?_)
    refine lv_iconst (v := (nI 0)) hx hb dX10_look_28 (by decide) ?_
    refine lv_istore (lv' := [(5, .int (nI 0)), (4, .int (nI 7)), (3, .int (-1 : Int32)), (2, .int r2), (0, .ref (ad 0)), (1, .int a1)]) hx hb dX10_look_29 hl (by decide) rfl (fun ls hl => ?_)
    exact kX10_look_L31 E hA _ FU a1 r2 (-1 : Int32) (nI 7) (nI 0) S hm H locs hP hD hS ls (lv_sub hl [4, 5, 3, 2, 1, 0] rfl)
  · refine lv_aload_n hx hb dX10_look_8 rfl (lv_at hl 0 rfl) ?_
    refine xVW_i (As := []) (rest := []) (wr := []) (wg := (fun u => WC cs ad u)) hx hb hml hown hT hN hK hP hD hS hA cw_X10_70 hm (fun z h => tcX10_refuseBad l D cs ad H.size S z h) ⟨rfl, rfl⟩ ⟨by decide, by decide⟩ [0, 1, 2, 3, 4, 5, 6, 7, 8, 9, 10, 11, 12, 13, 14, 15, 16, 17, 18, 19, 20, 21, 22, 23, 24, 25, 26, 27, 28, 29, 30, 31, 32, 33, 34, 35, 36, 37, 38, 39, 40, 41, 42, 43, 44, 45, 46, 47, 48, 49, 50, 51, 52, 53, 54, 55, 56, 57, 58, 59, 60] [] [0, 1, 2, 3, 4, 5, 6, 7, 8, 9, 10, 11, 12, 13, 14, 15, 16, 17, 18, 19, 20, 21, 22, 23, 24, 25, 26, 27, 28, 29, 30, 31, 32, 33, 34, 35, 36, 37, 38, 39, 40, 41, 42, 43, 44, 45, 46, 47, 48, 49, 50, 51, 52, 53, 54, 55, 56, 57, 58, 59, 60] rfl (by decide) rfl (by decide) (by decide) (fun _ => rfl) (by decide) (b := (ad 0)) 0 rfl rfl rfl hl.1 rfl rfl (Nat.le_of_ble_eq_true rfl) dX10_look_9 ⟨Nat.zero_le _, Nat.zero_le _⟩ (fun r7 S6 H locs hm hP hD hS => ?_)
    exact x_iretW (wf := (fun u => WC cs ad u)) hx hb hr hlk hK hP hD hS hm dX10_look_12
noncomputable def mX10_isCourt (S : CT) (a1 : Int32) : Option Int32 := (if a1 < 0 then zo (nI 0) (some (nI 0)) else (if (((S.1 0).1 1).1) ≤ a1 then zo (nI 0) (some (nI 0)) else zo (nI 1) (some (nI 1))))
set_option maxHeartbeats 4000000 in
set_option maxRecDepth 100000 in
theorem tcX10_isCourt (l : Launch) (D : va_G) (cs : CS) (ad : Nat → Nat) (S : CT) (a1 : Int32) (z : Int32) (hm : mX10_isCourt S a1 = some z) : Met l yX10_isCourt (Cond.code yX10_isCourt cX10_isCourt 2 (some .boolean) :: gw_tbl) ({ frames := 0, cells := 0, slots := 0, locals := 0 }) (PcR D cs (WC cs ad S) [.ref (ad 0), .int a1]) (QRi z) 0 0 NoF := by
  refine met_R rfl (Nat.le_of_ble_eq_true rfl) (fun p e s m below meth c E hP ls hl => ?_)
  obtain ⟨hx, hb, hr, hml, hown, hlk, hT, hN, hK⟩ := id E
  have hl : lv_has ls 2 [(0, .ref (ad 0)), (1, .int a1)] := hl
  unfold mX10_isCourt at hm
  refine lv_iload_n hx hb dX10_isCourt_0 rfl (lv_at hl 1 rfl) ?_
  refine x_if_lt (tgt := 22) hx hb dX10_isCourt_1 (by decide) hm (fun hm => ?_) (fun hm => ?_)
  · refine lv_iconst (v := (nI 0)) hx hb dX10_isCourt_22 (by decide) ?_
    exact x_zretR hx hb hr hlk hm dX10_isCourt_23
  · refine lv_iload_n hx hb dX10_isCourt_4 rfl (lv_at hl 1 rfl) ?_
    refine lv_aload_n hx hb dX10_isCourt_5 rfl (lv_at hl 0 rfl) ?_
    refine gf_X10_30 (v := .ref (ad 10)) hx hb hT hown hK hP 0 rfl rfl dX10_isCourt_6 ?_
    refine gf_X10_105 (v := .ref (ad 14)) hx hb hT hown hK hP 8 rfl rfl dX10_isCourt_9 ?_
    refine gf_X10_78 (v := .int (((S.1 0).1 1).1)) hx hb hT hown hK hP 12 rfl rfl dX10_isCourt_12 ?_
    refine x_icmp_ge (tgt := 22) hx hb dX10_isCourt_15 (by decide) hm (fun hm => ?_) (fun hm => ?_)
    · refine lv_iconst (v := (nI 0)) hx hb dX10_isCourt_22 (by decide) ?_
      exact x_zretR hx hb hr hlk hm dX10_isCourt_23
    · refine lv_iconst (v := (nI 1)) hx hb dX10_isCourt_18 (by decide) ?_
      refine lv_goto (tgt := 23) hx hb dX10_isCourt_19 (by decide) ?_
      exact x_zretR hx hb hr hlk hm dX10_isCourt_23
noncomputable def mX10_least (S : CT) (a1 : Int32) (a2 : Int32) (a3 : Int32) : Option (Int32 × CT) := (mX10_isCourt S a1).bind fun r1 => (if r1 = 0 then (mX10_refuseBad S).bind fun ⟨r3, S2⟩ => some ((-10 : Int32), S2) else (mX10_within a2 (nI 0) (nI 1)).bind fun r4 => (if r4 = 0 then (mX10_refuseBad S).bind fun ⟨r6, S5⟩ => some ((-10 : Int32), S5) else (if (-1 : Int32) ≤ a3 then (mX4_measure (S.1 0) (S.2.2.1) a1 a2).bind fun ⟨r9, u8⟩ => nm (cP S u8) fun S7 => (if r9 = (-1 : Int32) then some ((-1 : Int32), S7) else (if a3 = (-1 : Int32) then (if a2 = (nI 1) then (mX7_cell (nI 4) (nI 2) 8 ((S7.1 0).1 1) a1 (nI 1)).bind fun r11 => some ((r9 + r11), S7) else some (r9, S7)) else (mX4_fictionAt (S7.1 0) (S7.2.2.1) a3).bind fun r10 => some (r10, S7))) else (mX10_refuseBad S).bind fun ⟨r13, S12⟩ => some ((-10 : Int32), S12))))
set_option maxHeartbeats 4000000 in
set_option maxRecDepth 100000 in
theorem tcX10_least (l : Launch) (D : va_G) (cs : CS) (ad : Nat → Nat) (sz : Nat) (S : CT) (a1 : Int32) (a2 : Int32) (a3 : Int32) (z : Int32 × CT) (hm : mX10_least S a1 a2 a3 = some z) : Met l yX10_least (Cond.code yX10_least cX10_least 5 (some .int) :: gw_tbl) ({ frames := 6, cells := 0, slots := 0, locals := 144 }) (PcW D cs sz (WC cs ad S) [.ref (ad 0), .int a1, .int a2, .int a3]) (QWi D cs (va_A (WC cs ad S) sz) (fun u => WC cs ad u) z) 0 0 (va_A (WC cs ad S) sz) := by
  refine met_W rfl (Nat.le_of_ble_eq_true rfl) (fun p e s m below meth c E hP hD hS hA ls hl => ?_)
  generalize va_A (WC cs ad S) sz = A at hD hS hA ⊢
  obtain ⟨hx, hb, hr, hml, hown, hlk, hT, hN, hK⟩ := id E
  obtain ⟨H, hH⟩ : ∃ H, H = s.heap := ⟨_, rfl⟩
  obtain ⟨locs, hlo⟩ : ∃ L : List Loc, L = [] := ⟨_, rfl⟩
  have hP : va_P D classes (WC cs ad S) H := by rw [hH]; exact hP
  have hS : va_S A s.heap H locs := by rw [hH, hlo]; exact hS
  rw [show W p l e _ s m _ below meth c s.heap [] 0 0 = W p l e _ s m _ below meth c H locs 0 0 by rw [hH, hlo]]
  have hl : lv_has ls 5 [(0, .ref (ad 0)), (1, .int a1), (2, .int a2), (3, .int a3)] := hl
  unfold mX10_least at hm
  refine lv_aload_n hx hb dX10_least_0 rfl (lv_at hl 0 rfl) ?_
  refine lv_iload_n hx hb dX10_least_1 rfl (lv_at hl 1 rfl) ?_
  refine xV_i (As := [.int a1]) (rest := []) hx hb hml hown hT hN hK hP cw_X10_178 hm (fun z h => tcX10_isCourt l D cs ad S a1 z h) ⟨rfl, rfl⟩ ⟨by decide, by decide⟩ (b := (ad 0)) 0 rfl rfl rfl hl.1 rfl rfl (Nat.le_of_ble_eq_true rfl) dX10_least_2 ⟨Nat.zero_le _, Nat.zero_le _⟩ (fun r1 hm => ?_)
  refine x_if_eq (tgt := 22) hx hb dX10_least_5 (by decide) hm (fun hm => ?_) (fun hm => ?_)
  · refine lv_aload_n hx hb dX10_least_22 rfl (lv_at hl 0 rfl) ?_
    refine xVW_i (As := []) (rest := []) (wr := []) (wg := (fun u => WC cs ad u)) hx hb hml hown hT hN hK hP hD hS hA cw_X10_70 hm (fun z h => tcX10_refuseBad l D cs ad H.size S z h) ⟨rfl, rfl⟩ ⟨by decide, by decide⟩ [0, 1, 2, 3, 4, 5, 6, 7, 8, 9, 10, 11, 12, 13, 14, 15, 16, 17, 18, 19, 20, 21, 22, 23, 24, 25, 26, 27, 28, 29, 30, 31, 32, 33, 34, 35, 36, 37, 38, 39, 40, 41, 42, 43, 44, 45, 46, 47, 48, 49, 50, 51, 52, 53, 54, 55, 56, 57, 58, 59, 60] [] [0, 1, 2, 3, 4, 5, 6, 7, 8, 9, 10, 11, 12, 13, 14, 15, 16, 17, 18, 19, 20, 21, 22, 23, 24, 25, 26, 27, 28, 29, 30, 31, 32, 33, 34, 35, 36, 37, 38, 39, 40, 41, 42, 43, 44, 45, 46, 47, 48, 49, 50, 51, 52, 53, 54, 55, 56, 57, 58, 59, 60] rfl (by decide) rfl (by decide) (by decide) (fun _ => rfl) (by decide) (b := (ad 0)) 0 rfl rfl rfl hl.1 rfl rfl (Nat.le_of_ble_eq_true rfl) dX10_least_23 ⟨Nat.zero_le _, Nat.zero_le _⟩ (fun r3 S2 H locs hm hP hD hS => ?_)
    refine lv_pop hx hb dX10_least_26 rfl ?_
    refine lv_bipush (v := (-10 : Int32)) hx hb dX10_least_27 (by decide) ?_
    exact x_iretW (wf := (fun u => WC cs ad u)) hx hb hr hlk hK hP hD hS hm dX10_least_29
  · refine lv_iload_n hx hb dX10_least_8 rfl (lv_at hl 2 rfl) ?_
    refine lv_iconst (v := (nI 0)) hx hb dX10_least_9 (by decide) ?_
    refine lv_iconst (v := (nI 1)) hx hb dX10_least_10 (by decide) ?_
    refine xS_i (As := [.int a2, .int (nI 0), .int (nI 1)]) (rest := []) hx hb hml hown hT hN hK (hP.sub (ws' := []) [] rfl) cw_X10_66 hm (fun z h => tcX10_within l D cs a2 (nI 0) (nI 1) z h) ⟨rfl, rfl⟩ ⟨by decide, by decide⟩ hl.1 rfl rfl (Nat.le_of_ble_eq_true rfl) dX10_least_11 ⟨Nat.zero_le _, Nat.zero_le _⟩ (fun r4 hm => ?_)
    refine x_if_eq (tgt := 22) hx hb dX10_least_14 (by decide) hm (fun hm => ?_) (fun hm => ?_)
    · refine lv_aload_n hx hb dX10_least_22 rfl (lv_at hl 0 rfl) ?_
      refine xVW_i (As := []) (rest := []) (wr := []) (wg := (fun u => WC cs ad u)) hx hb hml hown hT hN hK hP hD hS hA cw_X10_70 hm (fun z h => tcX10_refuseBad l D cs ad H.size S z h) ⟨rfl, rfl⟩ ⟨by decide, by decide⟩ [0, 1, 2, 3, 4, 5, 6, 7, 8, 9, 10, 11, 12, 13, 14, 15, 16, 17, 18, 19, 20, 21, 22, 23, 24, 25, 26, 27, 28, 29, 30, 31, 32, 33, 34, 35, 36, 37, 38, 39, 40, 41, 42, 43, 44, 45, 46, 47, 48, 49, 50, 51, 52, 53, 54, 55, 56, 57, 58, 59, 60] [] [0, 1, 2, 3, 4, 5, 6, 7, 8, 9, 10, 11, 12, 13, 14, 15, 16, 17, 18, 19, 20, 21, 22, 23, 24, 25, 26, 27, 28, 29, 30, 31, 32, 33, 34, 35, 36, 37, 38, 39, 40, 41, 42, 43, 44, 45, 46, 47, 48, 49, 50, 51, 52, 53, 54, 55, 56, 57, 58, 59, 60] rfl (by decide) rfl (by decide) (by decide) (fun _ => rfl) (by decide) (b := (ad 0)) 0 rfl rfl rfl hl.1 rfl rfl (Nat.le_of_ble_eq_true rfl) dX10_least_23 ⟨Nat.zero_le _, Nat.zero_le _⟩ (fun r6 S5 H locs hm hP hD hS => ?_)
      refine lv_pop hx hb dX10_least_26 rfl ?_
      refine lv_bipush (v := (-10 : Int32)) hx hb dX10_least_27 (by decide) ?_
      exact x_iretW (wf := (fun u => WC cs ad u)) hx hb hr hlk hK hP hD hS hm dX10_least_29
    · refine lv_iload_n hx hb dX10_least_17 rfl (lv_at hl 3 rfl) ?_
      refine lv_iconst (v := (-1 : Int32)) hx hb dX10_least_18 (by decide) ?_
      refine x_icmp_ge (tgt := 30) hx hb dX10_least_19 (by decide) hm (fun hm => ?_) (fun hm => ?_)
      · refine lv_aload_n hx hb dX10_least_30 rfl (lv_at hl 0 rfl) ?_
        refine gf_X10_55 (v := .ref (ad 95)) hx hb hT hown hK hP 0 rfl rfl dX10_least_31 ?_
        refine lv_aload_n hx hb dX10_least_34 rfl (lv_at hl 0 rfl) ?_
        refine gf_X10_30 (v := .ref (ad 10)) hx hb hT hown hK hP 0 rfl rfl dX10_least_35 ?_
        refine lv_iload_n hx hb dX10_least_38 rfl (lv_at hl 1 rfl) ?_
        refine lv_iload_n hx hb dX10_least_39 rfl (lv_at hl 2 rfl) ?_
        refine xVW_i (As := [.ref (ad 10), .int a1, .int a2]) (rest := []) (wr := [((ad 0), .inr (10, [.ref (ad 10), .ref (ad 30), .ref (ad 50), .ref (ad 70), .ref (ad 90), .ref (ad 95), .int (S.2.2.2.1 6), .int (S.2.2.2.1 7), .long (S.2.2.2.2 8), .long (S.2.2.2.2 9), .int (S.2.2.2.1 10), .int (S.2.2.2.1 11), .int (S.2.2.2.1 12)])), ((ad 30), .inr (3, [.ref (ad 1), .ref (ad 31), .ref (ad 32), .ref (ad 34), .ref (ad 36), .ref (ad 38), .ref (ad 40), .int ((S.1 1).2 7), .int ((S.1 1).2 8), .int ((S.1 1).2 9), .int ((S.1 1).2 10)])), ((ad 31), .inr (6, [])), ((ad 32), .inr (7, [.int (nI 6), .int (nI 4), .ref (ad 33), .int (((S.1 1).1 0).1)])), ((ad 33), .inl (cs 0, 24, .inl (((S.1 1).1 0).2))), ((ad 34), .inr (7, [.int (nI 4), .int (nI 2), .ref (ad 35), .int (((S.1 1).1 1).1)])), ((ad 35), .inl (cs 0, 8, .inl (((S.1 1).1 1).2))), ((ad 36), .inr (7, [.int (nI 6), .int (nI 3), .ref (ad 37), .int (((S.1 1).1 2).1)])), ((ad 37), .inl (cs 0, 18, .inl (((S.1 1).1 2).2))), ((ad 38), .inr (7, [.int (nI 6), .int (nI 2), .ref (ad 39), .int (((S.1 1).1 3).1)])), ((ad 39), .inl (cs 0, 12, .inl (((S.1 1).1 3).2))), ((ad 40), .inr (7, [.int (nI 8), .int (nI 3), .ref (ad 41), .int (((S.1 1).1 4).1)])), ((ad 41), .inl (cs 0, 24, .inl (((S.1 1).1 4).2))), ((ad 50), .inr (3, [.ref (ad 1), .ref (ad 51), .ref (ad 52), .ref (ad 54), .ref (ad 56), .ref (ad 58), .ref (ad 60), .int ((S.1 2).2 7), .int ((S.1 2).2 8), .int ((S.1 2).2 9), .int ((S.1 2).2 10)])), ((ad 51), .inr (6, [])), ((ad 52), .inr (7, [.int (nI 6), .int (nI 4), .ref (ad 53), .int (((S.1 2).1 0).1)])), ((ad 53), .inl (cs 0, 24, .inl (((S.1 2).1 0).2))), ((ad 54), .inr (7, [.int (nI 4), .int (nI 2), .ref (ad 55), .int (((S.1 2).1 1).1)])), ((ad 55), .inl (cs 0, 8, .inl (((S.1 2).1 1).2))), ((ad 56), .inr (7, [.int (nI 6), .int (nI 3), .ref (ad 57), .int (((S.1 2).1 2).1)])), ((ad 57), .inl (cs 0, 18, .inl (((S.1 2).1 2).2))), ((ad 58), .inr (7, [.int (nI 6), .int (nI 2), .ref (ad 59), .int (((S.1 2).1 3).1)])), ((ad 59), .inl (cs 0, 12, .inl (((S.1 2).1 3).2))), ((ad 60), .inr (7, [.int (nI 8), .int (nI 3), .ref (ad 61), .int (((S.1 2).1 4).1)])), ((ad 61), .inl (cs 0, 24, .inl (((S.1 2).1 4).2))), ((ad 70), .inr (3, [.ref (ad 1), .ref (ad 71), .ref (ad 72), .ref (ad 74), .ref (ad 76), .ref (ad 78), .ref (ad 80), .int ((S.1 3).2 7), .int ((S.1 3).2 8), .int ((S.1 3).2 9), .int ((S.1 3).2 10)])), ((ad 71), .inr (6, [])), ((ad 72), .inr (7, [.int (nI 6), .int (nI 4), .ref (ad 73), .int (((S.1 3).1 0).1)])), ((ad 73), .inl (cs 0, 24, .inl (((S.1 3).1 0).2))), ((ad 74), .inr (7, [.int (nI 4), .int (nI 2), .ref (ad 75), .int (((S.1 3).1 1).1)])), ((ad 75), .inl (cs 0, 8, .inl (((S.1 3).1 1).2))), ((ad 76), .inr (7, [.int (nI 6), .int (nI 3), .ref (ad 77), .int (((S.1 3).1 2).1)])), ((ad 77), .inl (cs 0, 18, .inl (((S.1 3).1 2).2))), ((ad 78), .inr (7, [.int (nI 6), .int (nI 2), .ref (ad 79), .int (((S.1 3).1 3).1)])), ((ad 79), .inl (cs 0, 12, .inl (((S.1 3).1 3).2))), ((ad 80), .inr (7, [.int (nI 8), .int (nI 3), .ref (ad 81), .int (((S.1 3).1 4).1)])), ((ad 81), .inl (cs 0, 24, .inl (((S.1 3).1 4).2))), ((ad 90), .inr (0, [.ref (ad 91), .int ((S.2.1).2 1), .int ((S.2.1).2 2), .int ((S.2.1).2 3), .int ((S.2.1).2 4), .int ((S.2.1).2 5), .int ((S.2.1).2 6), .int ((S.2.1).2 7), .int ((S.2.1).2 8), .int ((S.2.1).2 9), .int ((S.2.1).2 10), .int ((S.2.1).2 11)])), ((ad 91), .inl (cs 0, 150, .inl ((S.2.1).1)))]) (wg := fun u8 => WC cs ad (cP S u8)) hx hb hml hown hT hN hK hP hD hS hA cw_X10_181 hm (fun z h => tcX4_measure l D cs ad 10 (S.1 0) H.size (S.2.2.1) a1 a2 z h) ⟨rfl, rfl⟩ ⟨by decide, by decide⟩ [58, 59, 60, 8, 9, 10, 11, 12, 13, 14, 15, 16, 17, 18, 19, 1, 2, 3, 4, 5, 6, 7] [0, 20, 21, 22, 23, 24, 25, 26, 27, 28, 29, 30, 31, 32, 33, 34, 35, 36, 37, 38, 39, 40, 41, 42, 43, 44, 45, 46, 47, 48, 49, 50, 51, 52, 53, 54, 55, 56, 57] [0, 54, 55, 56, 57, 58, 59, 60, 42, 43, 44, 45, 46, 47, 48, 49, 50, 51, 52, 53, 1, 2, 3, 4, 5, 6, 7, 8, 9, 10, 11, 12, 13, 14, 15, 16, 17, 18, 19, 20, 21, 22, 23, 24, 25, 26, 27, 28, 29, 30, 31, 32, 33, 34, 35, 36, 37, 38, 39, 40, 41] rfl (by decide) rfl (by decide) (by decide) (fun _ => rfl) (by decide) (b := (ad 95)) 0 rfl rfl rfl hl.1 rfl rfl (Nat.le_of_ble_eq_true rfl) dX10_least_40 ⟨Nat.zero_le _, Nat.zero_le _⟩ (fun r9 u8 H locs hm hP hD hS => ?_)
        obtain ⟨S7, hm, eS7⟩ := nm_ex hm
        rw [← eS7] at hP hD
        refine lv_istore (lv' := [(4, .int r9), (0, .ref (ad 0)), (1, .int a1), (2, .int a2), (3, .int a3)]) hx hb dX10_least_43 hl (by decide) rfl (fun ls hl => ?_)
        refine lv_iload hx hb dX10_least_45 (lv_at hl 0 rfl) ?_
        refine lv_iconst (v := (-1 : Int32)) hx hb dX10_least_47 (by decide) ?_
        refine x_icmp_ne (tgt := 53) hx hb dX10_least_48 (by decide) hm (fun hm => ?_) (fun hm => ?_)
        · refine lv_iload_n hx hb dX10_least_53 rfl (lv_at hl 4 rfl) ?_
          refine lv_iconst (v := (-1 : Int32)) hx hb dX10_least_54 (by decide) ?_
          refine x_icmp_ne (tgt := 84) hx hb dX10_least_55 (by decide) hm (fun hm => ?_) (fun hm => ?_)
          · refine lv_aload_n hx hb dX10_least_84 rfl (lv_at hl 1 rfl) ?_
            refine gf_X10_55 (v := .ref (ad 95)) hx hb hT hown hK hP 0 rfl rfl dX10_least_85 ?_
            refine lv_aload_n hx hb dX10_least_88 rfl (lv_at hl 1 rfl) ?_
            refine gf_X10_30 (v := .ref (ad 10)) hx hb hT hown hK hP 0 rfl rfl dX10_least_89 ?_
            refine lv_iload_n hx hb dX10_least_92 rfl (lv_at hl 4 rfl) ?_
            refine xV_i (As := [.ref (ad 10), .int a3]) (rest := []) hx hb hml hown hT hN hK (hP.sub (ws' := WP cs ad 10 (S7.1 0) (S7.2.2.1)) [58, 59, 60, 8, 9, 10, 11, 12, 13, 14, 15, 16, 17, 18, 19, 1, 2, 3, 4, 5, 6, 7] rfl) cw_X10_185 hm (fun z h => tcX4_fictionAt l D cs ad 10 (S7.1 0) (S7.2.2.1) a3 z h) ⟨rfl, rfl⟩ ⟨by decide, by decide⟩ (b := (ad 95)) 0 rfl rfl rfl hl.1 rfl rfl (Nat.le_of_ble_eq_true rfl) dX10_least_93 ⟨Nat.zero_le _, Nat.zero_le _⟩ (fun r10 hm => ?_)
            exact x_iretW (wf := (fun u => WC cs ad u)) hx hb hr hlk hK hP hD hS hm dX10_least_96
          · refine lv_iload_n hx hb dX10_least_58 rfl (lv_at hl 3 rfl) ?_
            refine lv_iconst (v := (nI 1)) hx hb dX10_least_59 (by decide) ?_
            refine x_icmp_ne (tgt := 81) hx hb dX10_least_60 (by decide) hm (fun hm => ?_) (fun hm => ?_)
            · refine lv_iload hx hb dX10_least_81 (lv_at hl 0 rfl) ?_
              exact x_iretW (wf := (fun u => WC cs ad u)) hx hb hr hlk hK hP hD hS hm dX10_least_83
            · refine lv_iload hx hb dX10_least_63 (lv_at hl 0 rfl) ?_
              refine lv_aload_n hx hb dX10_least_65 rfl (lv_at hl 1 rfl) ?_
              refine gf_X10_30 (v := .ref (ad 10)) hx hb hT hown hK hP 0 rfl rfl dX10_least_66 ?_
              refine gf_X10_105 (v := .ref (ad 14)) hx hb hT hown hK hP 8 rfl rfl dX10_least_69 ?_
              refine lv_iload_n hx hb dX10_least_72 rfl (lv_at hl 2 rfl) ?_
              refine lv_iconst (v := (nI 1)) hx hb dX10_least_73 (by decide) ?_
              refine xV_i (As := [.int a1, .int (nI 1)]) (rest := [.int r9]) hx hb hml hown hT hN hK (hP.sub (ws' := WR cs ad 14 (nI 4) (nI 2) 8 ((S7.1 0).1 1)) [12, 13] rfl) cw_X10_166 hm (fun z h => tcX7_cell l D cs ad 14 (nI 4) (nI 2) 8 ((S7.1 0).1 1) a1 (nI 1) z h) ⟨rfl, rfl⟩ ⟨by decide, by decide⟩ (b := (ad 14)) 0 rfl rfl rfl hl.1 rfl rfl (Nat.le_of_ble_eq_true rfl) dX10_least_74 ⟨Nat.zero_le _, Nat.zero_le _⟩ (fun r11 hm => ?_)
              refine lv_iadd hx hb dX10_least_77 ?_
              refine lv_goto (tgt := 83) hx hb dX10_least_78 (by decide) ?_
              exact x_iretW (wf := (fun u => WC cs ad u)) hx hb hr hlk hK hP hD hS hm dX10_least_83
        · refine lv_iconst (v := (-1 : Int32)) hx hb dX10_least_51 (by decide) ?_
          exact x_iretW (wf := (fun u => WC cs ad u)) hx hb hr hlk hK hP hD hS hm dX10_least_52
      · refine lv_aload_n hx hb dX10_least_22 rfl (lv_at hl 0 rfl) ?_
        refine xVW_i (As := []) (rest := []) (wr := []) (wg := (fun u => WC cs ad u)) hx hb hml hown hT hN hK hP hD hS hA cw_X10_70 hm (fun z h => tcX10_refuseBad l D cs ad H.size S z h) ⟨rfl, rfl⟩ ⟨by decide, by decide⟩ [0, 1, 2, 3, 4, 5, 6, 7, 8, 9, 10, 11, 12, 13, 14, 15, 16, 17, 18, 19, 20, 21, 22, 23, 24, 25, 26, 27, 28, 29, 30, 31, 32, 33, 34, 35, 36, 37, 38, 39, 40, 41, 42, 43, 44, 45, 46, 47, 48, 49, 50, 51, 52, 53, 54, 55, 56, 57, 58, 59, 60] [] [0, 1, 2, 3, 4, 5, 6, 7, 8, 9, 10, 11, 12, 13, 14, 15, 16, 17, 18, 19, 20, 21, 22, 23, 24, 25, 26, 27, 28, 29, 30, 31, 32, 33, 34, 35, 36, 37, 38, 39, 40, 41, 42, 43, 44, 45, 46, 47, 48, 49, 50, 51, 52, 53, 54, 55, 56, 57, 58, 59, 60] rfl (by decide) rfl (by decide) (by decide) (fun _ => rfl) (by decide) (b := (ad 0)) 0 rfl rfl rfl hl.1 rfl rfl (Nat.le_of_ble_eq_true rfl) dX10_least_23 ⟨Nat.zero_le _, Nat.zero_le _⟩ (fun r13 S12 H locs hm hP hD hS => ?_)
        refine lv_pop hx hb dX10_least_26 rfl ?_
        refine lv_bipush (v := (-10 : Int32)) hx hb dX10_least_27 (by decide) ?_
        exact x_iretW (wf := (fun u => WC cs ad u)) hx hb hr hlk hK hP hD hS hm dX10_least_29
noncomputable def mX10_heard (S : CT) (a1 : Int32) (a2 : Int32) : Option (Int32 × CT) := (mX10_isCourt S a1).bind fun r1 => (if r1 = 0 then (mX10_refuseBad S).bind fun ⟨r3, S2⟩ => some (r3, S2) else (mX10_within a2 (nI 0) (nI 1)).bind fun r4 => (if r4 = 0 then (mX10_refuseBad S).bind fun ⟨r11, S10⟩ => some (r11, S10) else (mX7_isFull (nI 6) (nI 2) 12 ((S.1 0).1 3)).bind fun r5 => (if r5 = 0 then (mX7_add (nI 6) (nI 2) 12 ((S.1 0).1 3) a1 a2 (nI 0) (nI 0)).bind fun u7 => nm (cM S 0 (tR (S.1 0) 3 u7)) fun S6 => some ((((S6.1 0).1 3).1), S6) else (mX10_refuseFull S).bind fun ⟨r9, S8⟩ => some (r9, S8))))
set_option maxHeartbeats 4000000 in
set_option maxRecDepth 100000 in
theorem tcX10_heard (l : Launch) (D : va_G) (cs : CS) (ad : Nat → Nat) (sz : Nat) (S : CT) (a1 : Int32) (a2 : Int32) (z : Int32 × CT) (hm : mX10_heard S a1 a2 = some z) : Met l yX10_heard (Cond.code yX10_heard cX10_heard 3 (some .int) :: gw_tbl) ({ frames := 2, cells := 0, slots := 0, locals := 48 }) (PcW D cs sz (WC cs ad S) [.ref (ad 0), .int a1, .int a2]) (QWi D cs (va_A (WC cs ad S) sz) (fun u => WC cs ad u) z) 0 0 (va_A (WC cs ad S) sz) := by
  refine met_W rfl (Nat.le_of_ble_eq_true rfl) (fun p e s m below meth c E hP hD hS hA ls hl => ?_)
  generalize va_A (WC cs ad S) sz = A at hD hS hA ⊢
  obtain ⟨hx, hb, hr, hml, hown, hlk, hT, hN, hK⟩ := id E
  obtain ⟨H, hH⟩ : ∃ H, H = s.heap := ⟨_, rfl⟩
  obtain ⟨locs, hlo⟩ : ∃ L : List Loc, L = [] := ⟨_, rfl⟩
  have hP : va_P D classes (WC cs ad S) H := by rw [hH]; exact hP
  have hS : va_S A s.heap H locs := by rw [hH, hlo]; exact hS
  rw [show W p l e _ s m _ below meth c s.heap [] 0 0 = W p l e _ s m _ below meth c H locs 0 0 by rw [hH, hlo]]
  have hl : lv_has ls 3 [(0, .ref (ad 0)), (1, .int a1), (2, .int a2)] := hl
  unfold mX10_heard at hm
  refine lv_aload_n hx hb dX10_heard_0 rfl (lv_at hl 0 rfl) ?_
  refine lv_iload_n hx hb dX10_heard_1 rfl (lv_at hl 1 rfl) ?_
  refine xV_i (As := [.int a1]) (rest := []) hx hb hml hown hT hN hK hP cw_X10_178 hm (fun z h => tcX10_isCourt l D cs ad S a1 z h) ⟨rfl, rfl⟩ ⟨by decide, by decide⟩ (b := (ad 0)) 0 rfl rfl rfl hl.1 rfl rfl (Nat.le_of_ble_eq_true rfl) dX10_heard_2 ⟨Nat.zero_le _, Nat.zero_le _⟩ (fun r1 hm => ?_)
  refine x_if_eq (tgt := 17) hx hb dX10_heard_5 (by decide) hm (fun hm => ?_) (fun hm => ?_)
  · refine lv_aload_n hx hb dX10_heard_17 rfl (lv_at hl 0 rfl) ?_
    refine xVW_i (As := []) (rest := []) (wr := []) (wg := (fun u => WC cs ad u)) hx hb hml hown hT hN hK hP hD hS hA cw_X10_70 hm (fun z h => tcX10_refuseBad l D cs ad H.size S z h) ⟨rfl, rfl⟩ ⟨by decide, by decide⟩ [0, 1, 2, 3, 4, 5, 6, 7, 8, 9, 10, 11, 12, 13, 14, 15, 16, 17, 18, 19, 20, 21, 22, 23, 24, 25, 26, 27, 28, 29, 30, 31, 32, 33, 34, 35, 36, 37, 38, 39, 40, 41, 42, 43, 44, 45, 46, 47, 48, 49, 50, 51, 52, 53, 54, 55, 56, 57, 58, 59, 60] [] [0, 1, 2, 3, 4, 5, 6, 7, 8, 9, 10, 11, 12, 13, 14, 15, 16, 17, 18, 19, 20, 21, 22, 23, 24, 25, 26, 27, 28, 29, 30, 31, 32, 33, 34, 35, 36, 37, 38, 39, 40, 41, 42, 43, 44, 45, 46, 47, 48, 49, 50, 51, 52, 53, 54, 55, 56, 57, 58, 59, 60] rfl (by decide) rfl (by decide) (by decide) (fun _ => rfl) (by decide) (b := (ad 0)) 0 rfl rfl rfl hl.1 rfl rfl (Nat.le_of_ble_eq_true rfl) dX10_heard_18 ⟨Nat.zero_le _, Nat.zero_le _⟩ (fun r3 S2 H locs hm hP hD hS => ?_)
    exact x_iretW (wf := (fun u => WC cs ad u)) hx hb hr hlk hK hP hD hS hm dX10_heard_21
  · refine lv_iload_n hx hb dX10_heard_8 rfl (lv_at hl 2 rfl) ?_
    refine lv_iconst (v := (nI 0)) hx hb dX10_heard_9 (by decide) ?_
    refine lv_iconst (v := (nI 1)) hx hb dX10_heard_10 (by decide) ?_
    refine xS_i (As := [.int a2, .int (nI 0), .int (nI 1)]) (rest := []) hx hb hml hown hT hN hK (hP.sub (ws' := []) [] rfl) cw_X10_66 hm (fun z h => tcX10_within l D cs a2 (nI 0) (nI 1) z h) ⟨rfl, rfl⟩ ⟨by decide, by decide⟩ hl.1 rfl rfl (Nat.le_of_ble_eq_true rfl) dX10_heard_11 ⟨Nat.zero_le _, Nat.zero_le _⟩ (fun r4 hm => ?_)
    refine x_if_ne (tgt := 22) hx hb dX10_heard_14 (by decide) hm (fun hm => ?_) (fun hm => ?_)
    · refine lv_aload_n hx hb dX10_heard_22 rfl (lv_at hl 0 rfl) ?_
      refine gf_X10_30 (v := .ref (ad 10)) hx hb hT hown hK hP 0 rfl rfl dX10_heard_23 ?_
      refine gf_X10_215 (v := .ref (ad 18)) hx hb hT hown hK hP 8 rfl rfl dX10_heard_26 ?_
      refine xV_i (As := []) (rest := []) hx hb hml hown hT hN hK (hP.sub (ws' := WR cs ad 18 (nI 6) (nI 2) 12 ((S.1 0).1 3)) [16, 17] rfl) cw_X10_88 hm (fun z h => tcX7_isFull l D cs ad 18 (nI 6) (nI 2) 12 ((S.1 0).1 3) z h) ⟨rfl, rfl⟩ ⟨by decide, by decide⟩ (b := (ad 18)) 0 rfl rfl rfl hl.1 rfl rfl (Nat.le_of_ble_eq_true rfl) dX10_heard_29 ⟨Nat.zero_le _, Nat.zero_le _⟩ (fun r5 hm => ?_)
      refine x_if_eq (tgt := 40) hx hb dX10_heard_32 (by decide) hm (fun hm => ?_) (fun hm => ?_)
      · refine lv_aload_n hx hb dX10_heard_40 rfl (lv_at hl 0 rfl) ?_
        refine gf_X10_30 (v := .ref (ad 10)) hx hb hT hown hK hP 0 rfl rfl dX10_heard_41 ?_
        refine gf_X10_215 (v := .ref (ad 18)) hx hb hT hown hK hP 8 rfl rfl dX10_heard_44 ?_
        refine lv_iload_n hx hb dX10_heard_47 rfl (lv_at hl 1 rfl) ?_
        refine lv_iload_n hx hb dX10_heard_48 rfl (lv_at hl 2 rfl) ?_
        refine lv_iconst (v := (nI 0)) hx hb dX10_heard_49 (by decide) ?_
        refine lv_iconst (v := (nI 0)) hx hb dX10_heard_50 (by decide) ?_
        refine xVW_v (As := [.int a1, .int a2, .int (nI 0), .int (nI 0)]) (rest := []) (wr := [((ad 0), .inr (10, [.ref (ad 10), .ref (ad 30), .ref (ad 50), .ref (ad 70), .ref (ad 90), .ref (ad 95), .int (S.2.2.2.1 6), .int (S.2.2.2.1 7), .long (S.2.2.2.2 8), .long (S.2.2.2.2 9), .int (S.2.2.2.1 10), .int (S.2.2.2.1 11), .int (S.2.2.2.1 12)])), ((ad 1), .inl (cs 2, 6, .inr (.inr (.inr (.inr (fun k => some (ad (2 + k)))))))), ((ad 2), .inr (6, [])), ((ad 3), .inr (5, [])), ((ad 4), .inr (1, [])), ((ad 5), .inr (9, [])), ((ad 6), .inr (2, [])), ((ad 7), .inr (8, [])), ((ad 10), .inr (3, [.ref (ad 1), .ref (ad 11), .ref (ad 12), .ref (ad 14), .ref (ad 16), .ref (ad 18), .ref (ad 20), .int ((S.1 0).2 7), .int ((S.1 0).2 8), .int ((S.1 0).2 9), .int ((S.1 0).2 10)])), ((ad 11), .inr (6, [])), ((ad 12), .inr (7, [.int (nI 6), .int (nI 4), .ref (ad 13), .int (((S.1 0).1 0).1)])), ((ad 13), .inl (cs 0, 24, .inl (((S.1 0).1 0).2))), ((ad 14), .inr (7, [.int (nI 4), .int (nI 2), .ref (ad 15), .int (((S.1 0).1 1).1)])), ((ad 15), .inl (cs 0, 8, .inl (((S.1 0).1 1).2))), ((ad 16), .inr (7, [.int (nI 6), .int (nI 3), .ref (ad 17), .int (((S.1 0).1 2).1)])), ((ad 17), .inl (cs 0, 18, .inl (((S.1 0).1 2).2))), ((ad 20), .inr (7, [.int (nI 8), .int (nI 3), .ref (ad 21), .int (((S.1 0).1 4).1)])), ((ad 21), .inl (cs 0, 24, .inl (((S.1 0).1 4).2))), ((ad 30), .inr (3, [.ref (ad 1), .ref (ad 31), .ref (ad 32), .ref (ad 34), .ref (ad 36), .ref (ad 38), .ref (ad 40), .int ((S.1 1).2 7), .int ((S.1 1).2 8), .int ((S.1 1).2 9), .int ((S.1 1).2 10)])), ((ad 31), .inr (6, [])), ((ad 32), .inr (7, [.int (nI 6), .int (nI 4), .ref (ad 33), .int (((S.1 1).1 0).1)])), ((ad 33), .inl (cs 0, 24, .inl (((S.1 1).1 0).2))), ((ad 34), .inr (7, [.int (nI 4), .int (nI 2), .ref (ad 35), .int (((S.1 1).1 1).1)])), ((ad 35), .inl (cs 0, 8, .inl (((S.1 1).1 1).2))), ((ad 36), .inr (7, [.int (nI 6), .int (nI 3), .ref (ad 37), .int (((S.1 1).1 2).1)])), ((ad 37), .inl (cs 0, 18, .inl (((S.1 1).1 2).2))), ((ad 38), .inr (7, [.int (nI 6), .int (nI 2), .ref (ad 39), .int (((S.1 1).1 3).1)])), ((ad 39), .inl (cs 0, 12, .inl (((S.1 1).1 3).2))), ((ad 40), .inr (7, [.int (nI 8), .int (nI 3), .ref (ad 41), .int (((S.1 1).1 4).1)])), ((ad 41), .inl (cs 0, 24, .inl (((S.1 1).1 4).2))), ((ad 50), .inr (3, [.ref (ad 1), .ref (ad 51), .ref (ad 52), .ref (ad 54), .ref (ad 56), .ref (ad 58), .ref (ad 60), .int ((S.1 2).2 7), .int ((S.1 2).2 8), .int ((S.1 2).2 9), .int ((S.1 2).2 10)])), ((ad 51), .inr (6, [])), ((ad 52), .inr (7, [.int (nI 6), .int (nI 4), .ref (ad 53), .int (((S.1 2).1 0).1)])), ((ad 53), .inl (cs 0, 24, .inl (((S.1 2).1 0).2))), ((ad 54), .inr (7, [.int (nI 4), .int (nI 2), .ref (ad 55), .int (((S.1 2).1 1).1)])), ((ad 55), .inl (cs 0, 8, .inl (((S.1 2).1 1).2))), ((ad 56), .inr (7, [.int (nI 6), .int (nI 3), .ref (ad 57), .int (((S.1 2).1 2).1)])), ((ad 57), .inl (cs 0, 18, .inl (((S.1 2).1 2).2))), ((ad 58), .inr (7, [.int (nI 6), .int (nI 2), .ref (ad 59), .int (((S.1 2).1 3).1)])), ((ad 59), .inl (cs 0, 12, .inl (((S.1 2).1 3).2))), ((ad 60), .inr (7, [.int (nI 8), .int (nI 3), .ref (ad 61), .int (((S.1 2).1 4).1)])), ((ad 61), .inl (cs 0, 24, .inl (((S.1 2).1 4).2))), ((ad 70), .inr (3, [.ref (ad 1), .ref (ad 71), .ref (ad 72), .ref (ad 74), .ref (ad 76), .ref (ad 78), .ref (ad 80), .int ((S.1 3).2 7), .int ((S.1 3).2 8), .int ((S.1 3).2 9), .int ((S.1 3).2 10)])), ((ad 71), .inr (6, [])), ((ad 72), .inr (7, [.int (nI 6), .int (nI 4), .ref (ad 73), .int (((S.1 3).1 0).1)])), ((ad 73), .inl (cs 0, 24, .inl (((S.1 3).1 0).2))), ((ad 74), .inr (7, [.int (nI 4), .int (nI 2), .ref (ad 75), .int (((S.1 3).1 1).1)])), ((ad 75), .inl (cs 0, 8, .inl (((S.1 3).1 1).2))), ((ad 76), .inr (7, [.int (nI 6), .int (nI 3), .ref (ad 77), .int (((S.1 3).1 2).1)])), ((ad 77), .inl (cs 0, 18, .inl (((S.1 3).1 2).2))), ((ad 78), .inr (7, [.int (nI 6), .int (nI 2), .ref (ad 79), .int (((S.1 3).1 3).1)])), ((ad 79), .inl (cs 0, 12, .inl (((S.1 3).1 3).2))), ((ad 80), .inr (7, [.int (nI 8), .int (nI 3), .ref (ad 81), .int (((S.1 3).1 4).1)])), ((ad 81), .inl (cs 0, 24, .inl (((S.1 3).1 4).2))), ((ad 90), .inr (0, [.ref (ad 91), .int ((S.2.1).2 1), .int ((S.2.1).2 2), .int ((S.2.1).2 3), .int ((S.2.1).2 4), .int ((S.2.1).2 5), .int ((S.2.1).2 6), .int ((S.2.1).2 7), .int ((S.2.1).2 8), .int ((S.2.1).2 9), .int ((S.2.1).2 10), .int ((S.2.1).2 11)])), ((ad 91), .inl (cs 0, 150, .inl ((S.2.1).1))), ((ad 95), .inr (4, [.ref (ad 96), .ref (ad 97)])), ((ad 96), .inl (cs 0, 64, .inl ((S.2.2.1).1))), ((ad 97), .inl (cs 0, 64, .inl ((S.2.2.1).2)))]) (wg := fun u7 => WC cs ad (cM S 0 (tR (S.1 0) 3 u7))) hx hb hml hown hT hN hK hP hD hS hA cw_X10_95 hm (fun z h => tcX7_add l D cs ad 18 (nI 6) (nI 2) 12 H.size ((S.1 0).1 3) a1 a2 (nI 0) (nI 0) z h) ⟨rfl, rfl⟩ ⟨by decide, by decide⟩ [16, 17] [0, 1, 2, 3, 4, 5, 6, 7, 8, 9, 10, 11, 12, 13, 14, 15, 18, 19, 20, 21, 22, 23, 24, 25, 26, 27, 28, 29, 30, 31, 32, 33, 34, 35, 36, 37, 38, 39, 40, 41, 42, 43, 44, 45, 46, 47, 48, 49, 50, 51, 52, 53, 54, 55, 56, 57, 58, 59, 60] [0, 1, 2, 3, 4, 5, 6, 7, 8, 9, 10, 11, 12, 13, 14, 15, 59, 60, 16, 17, 18, 19, 20, 21, 22, 23, 24, 25, 26, 27, 28, 29, 30, 31, 32, 33, 34, 35, 36, 37, 38, 39, 40, 41, 42, 43, 44, 45, 46, 47, 48, 49, 50, 51, 52, 53, 54, 55, 56, 57, 58] rfl (by decide) rfl (by decide) (by decide) (fun _ => rfl) (by decide) (b := (ad 18)) 0 rfl rfl rfl hl.1 rfl rfl (Nat.le_of_ble_eq_true rfl) dX10_heard_51 ⟨Nat.zero_le _, Nat.zero_le _⟩ (fun u7 H locs hm hP hD hS => ?_)
        obtain ⟨S6, hm, eS6⟩ := nm_ex hm
        rw [← eS6] at hP hD
        refine lv_aload_n hx hb dX10_heard_54 rfl (lv_at hl 0 rfl) ?_
        refine gf_X10_30 (v := .ref (ad 10)) hx hb hT hown hK hP 0 rfl rfl dX10_heard_55 ?_
        refine gf_X10_215 (v := .ref (ad 18)) hx hb hT hown hK hP 8 rfl rfl dX10_heard_58 ?_
        refine gf_X10_78 (v := .int (((S6.1 0).1 3).1)) hx hb hT hown hK hP 16 rfl rfl dX10_heard_61 ?_
        exact x_iretW (wf := (fun u => WC cs ad u)) hx hb hr hlk hK hP hD hS hm dX10_heard_64
      · refine lv_aload_n hx hb dX10_heard_35 rfl (lv_at hl 0 rfl) ?_
        refine xVW_i (As := []) (rest := []) (wr := []) (wg := (fun u => WC cs ad u)) hx hb hml hown hT hN hK hP hD hS hA cw_X10_92 hm (fun z h => tcX10_refuseFull l D cs ad H.size S z h) ⟨rfl, rfl⟩ ⟨by decide, by decide⟩ [0, 1, 2, 3, 4, 5, 6, 7, 8, 9, 10, 11, 12, 13, 14, 15, 16, 17, 18, 19, 20, 21, 22, 23, 24, 25, 26, 27, 28, 29, 30, 31, 32, 33, 34, 35, 36, 37, 38, 39, 40, 41, 42, 43, 44, 45, 46, 47, 48, 49, 50, 51, 52, 53, 54, 55, 56, 57, 58, 59, 60] [] [0, 1, 2, 3, 4, 5, 6, 7, 8, 9, 10, 11, 12, 13, 14, 15, 16, 17, 18, 19, 20, 21, 22, 23, 24, 25, 26, 27, 28, 29, 30, 31, 32, 33, 34, 35, 36, 37, 38, 39, 40, 41, 42, 43, 44, 45, 46, 47, 48, 49, 50, 51, 52, 53, 54, 55, 56, 57, 58, 59, 60] rfl (by decide) rfl (by decide) (by decide) (fun _ => rfl) (by decide) (b := (ad 0)) 0 rfl rfl rfl hl.1 rfl rfl (Nat.le_of_ble_eq_true rfl) dX10_heard_36 ⟨Nat.zero_le _, Nat.zero_le _⟩ (fun r9 S8 H locs hm hP hD hS => ?_)
        exact x_iretW (wf := (fun u => WC cs ad u)) hx hb hr hlk hK hP hD hS hm dX10_heard_39
    · refine lv_aload_n hx hb dX10_heard_17 rfl (lv_at hl 0 rfl) ?_
      refine xVW_i (As := []) (rest := []) (wr := []) (wg := (fun u => WC cs ad u)) hx hb hml hown hT hN hK hP hD hS hA cw_X10_70 hm (fun z h => tcX10_refuseBad l D cs ad H.size S z h) ⟨rfl, rfl⟩ ⟨by decide, by decide⟩ [0, 1, 2, 3, 4, 5, 6, 7, 8, 9, 10, 11, 12, 13, 14, 15, 16, 17, 18, 19, 20, 21, 22, 23, 24, 25, 26, 27, 28, 29, 30, 31, 32, 33, 34, 35, 36, 37, 38, 39, 40, 41, 42, 43, 44, 45, 46, 47, 48, 49, 50, 51, 52, 53, 54, 55, 56, 57, 58, 59, 60] [] [0, 1, 2, 3, 4, 5, 6, 7, 8, 9, 10, 11, 12, 13, 14, 15, 16, 17, 18, 19, 20, 21, 22, 23, 24, 25, 26, 27, 28, 29, 30, 31, 32, 33, 34, 35, 36, 37, 38, 39, 40, 41, 42, 43, 44, 45, 46, 47, 48, 49, 50, 51, 52, 53, 54, 55, 56, 57, 58, 59, 60] rfl (by decide) rfl (by decide) (by decide) (fun _ => rfl) (by decide) (b := (ad 0)) 0 rfl rfl rfl hl.1 rfl rfl (Nat.le_of_ble_eq_true rfl) dX10_heard_18 ⟨Nat.zero_le _, Nat.zero_le _⟩ (fun r11 S10 H locs hm hP hD hS => ?_)
      exact x_iretW (wf := (fun u => WC cs ad u)) hx hb hr hlk hK hP hD hS hm dX10_heard_21
noncomputable def mX10_isPleaded (S : CT) (a1 : Int32) : Option Int32 := (mX10_holds ((S.1 0).2 8) a1).bind fun r1 => zo r1 (some r1)
set_option maxHeartbeats 4000000 in
set_option maxRecDepth 100000 in
theorem tcX10_isPleaded (l : Launch) (D : va_G) (cs : CS) (ad : Nat → Nat) (S : CT) (a1 : Int32) (z : Int32) (hm : mX10_isPleaded S a1 = some z) : Met l yX10_isPleaded (Cond.code yX10_isPleaded cX10_isPleaded 2 (some .boolean) :: gw_tbl) ({ frames := 1, cells := 0, slots := 0, locals := 21 }) (PcR D cs (WC cs ad S) [.ref (ad 0), .int a1]) (QRi z) 0 0 NoF := by
  refine met_R rfl (Nat.le_of_ble_eq_true rfl) (fun p e s m below meth c E hP ls hl => ?_)
  obtain ⟨hx, hb, hr, hml, hown, hlk, hT, hN, hK⟩ := id E
  have hl : lv_has ls 2 [(0, .ref (ad 0)), (1, .int a1)] := hl
  unfold mX10_isPleaded at hm
  refine lv_aload_n hx hb dX10_isPleaded_0 rfl (lv_at hl 0 rfl) ?_
  refine gf_X10_30 (v := .ref (ad 10)) hx hb hT hown hK hP 0 rfl rfl dX10_isPleaded_1 ?_
  refine gf_X10_122 (v := .int ((S.1 0).2 8)) hx hb hT hown hK hP 8 rfl rfl dX10_isPleaded_4 ?_
  refine lv_iload_n hx hb dX10_isPleaded_7 rfl (lv_at hl 1 rfl) ?_
  refine xS_i (As := [.int ((S.1 0).2 8), .int a1]) (rest := []) hx hb hml hown hT hN hK (hP.sub (ws' := []) [] rfl) cw_X10_286 hm (fun z h => tcX10_holds l D cs ((S.1 0).2 8) a1 z h) ⟨rfl, rfl⟩ ⟨by decide, by decide⟩ hl.1 rfl rfl (Nat.le_of_ble_eq_true rfl) dX10_isPleaded_8 ⟨Nat.zero_le _, Nat.zero_le _⟩ (fun r1 hm => ?_)
  exact x_zretR hx hb hr hlk hm dX10_isPleaded_11
noncomputable def mX10_deny (S : CT) (a1 : Int32) : Option (Int32 × CT) := (mX10_isFiction S a1).bind fun r1 => (if r1 = 0 then (mX10_refuseBad S).bind fun ⟨r10, S9⟩ => some (r10, S9) else (mX10_isPleaded S a1).bind fun r2 => (if r2 = 0 then (mX10_refuseNo S).bind fun ⟨r8, S7⟩ => some (r8, S7) else (mX3_keepForUndo (S.1 0)).bind fun u4 => nm (cM S 0 u4) fun S3 => (mX3_denialWins (S3.1 0) a1).bind fun r5 => (if r5 = 0 then some ((nI 0), S3) else nm (cM S3 0 (tI (S3.1 0) 8 (((S3.1 0).2 8) &&& (((nI 1) <<< (a1 &&& 31)) ^^^ (-1 : Int32))))) fun S6 => some ((nI 1), S6))))
set_option maxHeartbeats 4000000 in
set_option maxRecDepth 100000 in
theorem tcX10_deny (l : Launch) (D : va_G) (cs : CS) (ad : Nat → Nat) (sz : Nat) (S : CT) (a1 : Int32) (z : Int32 × CT) (hm : mX10_deny S a1 = some z) : Met l yX10_deny (Cond.code yX10_deny cX10_deny 2 (some .int) :: gw_tbl) ({ frames := 3, cells := 0, slots := 0, locals := 68 }) (PcW D cs sz (WC cs ad S) [.ref (ad 0), .int a1]) (QWi D cs (va_A (WC cs ad S) sz) (fun u => WC cs ad u) z) 0 0 (va_A (WC cs ad S) sz) := by
  refine met_W rfl (Nat.le_of_ble_eq_true rfl) (fun p e s m below meth c E hP hD hS hA ls hl => ?_)
  generalize va_A (WC cs ad S) sz = A at hD hS hA ⊢
  obtain ⟨hx, hb, hr, hml, hown, hlk, hT, hN, hK⟩ := id E
  obtain ⟨H, hH⟩ : ∃ H, H = s.heap := ⟨_, rfl⟩
  obtain ⟨locs, hlo⟩ : ∃ L : List Loc, L = [] := ⟨_, rfl⟩
  have hP : va_P D classes (WC cs ad S) H := by rw [hH]; exact hP
  have hS : va_S A s.heap H locs := by rw [hH, hlo]; exact hS
  rw [show W p l e _ s m _ below meth c s.heap [] 0 0 = W p l e _ s m _ below meth c H locs 0 0 by rw [hH, hlo]]
  have hl : lv_has ls 2 [(0, .ref (ad 0)), (1, .int a1)] := hl
  unfold mX10_deny at hm
  refine lv_aload_n hx hb dX10_deny_0 rfl (lv_at hl 0 rfl) ?_
  refine lv_iload_n hx hb dX10_deny_1 rfl (lv_at hl 1 rfl) ?_
  refine xV_i (As := [.int a1]) (rest := []) hx hb hml hown hT hN hK hP cw_X10_134 hm (fun z h => tcX10_isFiction l D cs ad S a1 z h) ⟨rfl, rfl⟩ ⟨by decide, by decide⟩ (b := (ad 0)) 0 rfl rfl rfl hl.1 rfl rfl (Nat.le_of_ble_eq_true rfl) dX10_deny_2 ⟨Nat.zero_le _, Nat.zero_le _⟩ (fun r1 hm => ?_)
  refine x_if_ne (tgt := 13) hx hb dX10_deny_5 (by decide) hm (fun hm => ?_) (fun hm => ?_)
  · refine lv_aload_n hx hb dX10_deny_13 rfl (lv_at hl 0 rfl) ?_
    refine lv_iload_n hx hb dX10_deny_14 rfl (lv_at hl 1 rfl) ?_
    refine xV_i (As := [.int a1]) (rest := []) hx hb hml hown hT hN hK hP cw_X10_157 hm (fun z h => tcX10_isPleaded l D cs ad S a1 z h) ⟨rfl, rfl⟩ ⟨by decide, by decide⟩ (b := (ad 0)) 0 rfl rfl rfl hl.1 rfl rfl (Nat.le_of_ble_eq_true rfl) dX10_deny_15 ⟨Nat.zero_le _, Nat.zero_le _⟩ (fun r2 hm => ?_)
    refine x_if_ne (tgt := 26) hx hb dX10_deny_18 (by decide) hm (fun hm => ?_) (fun hm => ?_)
    · refine lv_aload_n hx hb dX10_deny_26 rfl (lv_at hl 0 rfl) ?_
      refine gf_X10_30 (v := .ref (ad 10)) hx hb hT hown hK hP 0 rfl rfl dX10_deny_27 ?_
      refine xVW_v (As := []) (rest := []) (wr := [((ad 0), .inr (10, [.ref (ad 10), .ref (ad 30), .ref (ad 50), .ref (ad 70), .ref (ad 90), .ref (ad 95), .int (S.2.2.2.1 6), .int (S.2.2.2.1 7), .long (S.2.2.2.2 8), .long (S.2.2.2.2 9), .int (S.2.2.2.1 10), .int (S.2.2.2.1 11), .int (S.2.2.2.1 12)])), ((ad 30), .inr (3, [.ref (ad 1), .ref (ad 31), .ref (ad 32), .ref (ad 34), .ref (ad 36), .ref (ad 38), .ref (ad 40), .int ((S.1 1).2 7), .int ((S.1 1).2 8), .int ((S.1 1).2 9), .int ((S.1 1).2 10)])), ((ad 31), .inr (6, [])), ((ad 32), .inr (7, [.int (nI 6), .int (nI 4), .ref (ad 33), .int (((S.1 1).1 0).1)])), ((ad 33), .inl (cs 0, 24, .inl (((S.1 1).1 0).2))), ((ad 34), .inr (7, [.int (nI 4), .int (nI 2), .ref (ad 35), .int (((S.1 1).1 1).1)])), ((ad 35), .inl (cs 0, 8, .inl (((S.1 1).1 1).2))), ((ad 36), .inr (7, [.int (nI 6), .int (nI 3), .ref (ad 37), .int (((S.1 1).1 2).1)])), ((ad 37), .inl (cs 0, 18, .inl (((S.1 1).1 2).2))), ((ad 38), .inr (7, [.int (nI 6), .int (nI 2), .ref (ad 39), .int (((S.1 1).1 3).1)])), ((ad 39), .inl (cs 0, 12, .inl (((S.1 1).1 3).2))), ((ad 40), .inr (7, [.int (nI 8), .int (nI 3), .ref (ad 41), .int (((S.1 1).1 4).1)])), ((ad 41), .inl (cs 0, 24, .inl (((S.1 1).1 4).2))), ((ad 50), .inr (3, [.ref (ad 1), .ref (ad 51), .ref (ad 52), .ref (ad 54), .ref (ad 56), .ref (ad 58), .ref (ad 60), .int ((S.1 2).2 7), .int ((S.1 2).2 8), .int ((S.1 2).2 9), .int ((S.1 2).2 10)])), ((ad 51), .inr (6, [])), ((ad 52), .inr (7, [.int (nI 6), .int (nI 4), .ref (ad 53), .int (((S.1 2).1 0).1)])), ((ad 53), .inl (cs 0, 24, .inl (((S.1 2).1 0).2))), ((ad 54), .inr (7, [.int (nI 4), .int (nI 2), .ref (ad 55), .int (((S.1 2).1 1).1)])), ((ad 55), .inl (cs 0, 8, .inl (((S.1 2).1 1).2))), ((ad 56), .inr (7, [.int (nI 6), .int (nI 3), .ref (ad 57), .int (((S.1 2).1 2).1)])), ((ad 57), .inl (cs 0, 18, .inl (((S.1 2).1 2).2))), ((ad 58), .inr (7, [.int (nI 6), .int (nI 2), .ref (ad 59), .int (((S.1 2).1 3).1)])), ((ad 59), .inl (cs 0, 12, .inl (((S.1 2).1 3).2))), ((ad 60), .inr (7, [.int (nI 8), .int (nI 3), .ref (ad 61), .int (((S.1 2).1 4).1)])), ((ad 61), .inl (cs 0, 24, .inl (((S.1 2).1 4).2))), ((ad 70), .inr (3, [.ref (ad 1), .ref (ad 71), .ref (ad 72), .ref (ad 74), .ref (ad 76), .ref (ad 78), .ref (ad 80), .int ((S.1 3).2 7), .int ((S.1 3).2 8), .int ((S.1 3).2 9), .int ((S.1 3).2 10)])), ((ad 71), .inr (6, [])), ((ad 72), .inr (7, [.int (nI 6), .int (nI 4), .ref (ad 73), .int (((S.1 3).1 0).1)])), ((ad 73), .inl (cs 0, 24, .inl (((S.1 3).1 0).2))), ((ad 74), .inr (7, [.int (nI 4), .int (nI 2), .ref (ad 75), .int (((S.1 3).1 1).1)])), ((ad 75), .inl (cs 0, 8, .inl (((S.1 3).1 1).2))), ((ad 76), .inr (7, [.int (nI 6), .int (nI 3), .ref (ad 77), .int (((S.1 3).1 2).1)])), ((ad 77), .inl (cs 0, 18, .inl (((S.1 3).1 2).2))), ((ad 78), .inr (7, [.int (nI 6), .int (nI 2), .ref (ad 79), .int (((S.1 3).1 3).1)])), ((ad 79), .inl (cs 0, 12, .inl (((S.1 3).1 3).2))), ((ad 80), .inr (7, [.int (nI 8), .int (nI 3), .ref (ad 81), .int (((S.1 3).1 4).1)])), ((ad 81), .inl (cs 0, 24, .inl (((S.1 3).1 4).2))), ((ad 90), .inr (0, [.ref (ad 91), .int ((S.2.1).2 1), .int ((S.2.1).2 2), .int ((S.2.1).2 3), .int ((S.2.1).2 4), .int ((S.2.1).2 5), .int ((S.2.1).2 6), .int ((S.2.1).2 7), .int ((S.2.1).2 8), .int ((S.2.1).2 9), .int ((S.2.1).2 10), .int ((S.2.1).2 11)])), ((ad 91), .inl (cs 0, 150, .inl ((S.2.1).1))), ((ad 95), .inr (4, [.ref (ad 96), .ref (ad 97)])), ((ad 96), .inl (cs 0, 64, .inl ((S.2.2.1).1))), ((ad 97), .inl (cs 0, 64, .inl ((S.2.2.1).2)))]) (wg := fun u4 => WC cs ad (cM S 0 u4)) hx hb hml hown hT hN hK hP hD hS hA cw_X10_151 hm (fun z h => tcX3_keepForUndo l D cs ad 10 H.size (S.1 0) z h) ⟨rfl, rfl⟩ ⟨by decide, by decide⟩ [8, 9, 10, 11, 12, 13, 14, 15, 16, 17, 18, 19, 1, 2, 3, 4, 5, 6, 7] [0, 20, 21, 22, 23, 24, 25, 26, 27, 28, 29, 30, 31, 32, 33, 34, 35, 36, 37, 38, 39, 40, 41, 42, 43, 44, 45, 46, 47, 48, 49, 50, 51, 52, 53, 54, 55, 56, 57, 58, 59, 60] [0, 54, 55, 56, 57, 58, 59, 60, 42, 43, 44, 45, 46, 47, 48, 49, 50, 51, 52, 53, 1, 2, 3, 4, 5, 6, 7, 8, 9, 10, 11, 12, 13, 14, 15, 16, 17, 18, 19, 20, 21, 22, 23, 24, 25, 26, 27, 28, 29, 30, 31, 32, 33, 34, 35, 36, 37, 38, 39, 40, 41] rfl (by decide) rfl (by decide) (by decide) (fun _ => rfl) (by decide) (b := (ad 10)) 0 rfl rfl rfl hl.1 rfl rfl (Nat.le_of_ble_eq_true rfl) dX10_deny_30 ⟨Nat.zero_le _, Nat.zero_le _⟩ (fun u4 H locs hm hP hD hS => ?_)
      obtain ⟨S3, hm, eS3⟩ := nm_ex hm
      rw [← eS3] at hP hD
      refine lv_aload_n hx hb dX10_deny_33 rfl (lv_at hl 0 rfl) ?_
      refine gf_X10_30 (v := .ref (ad 10)) hx hb hT hown hK hP 0 rfl rfl dX10_deny_34 ?_
      refine lv_iload_n hx hb dX10_deny_37 rfl (lv_at hl 1 rfl) ?_
      refine xV_i (As := [.int a1]) (rest := []) hx hb hml hown hT hN hK (hP.sub (ws' := WT cs ad 10 (S3.1 0)) [8, 9, 10, 11, 12, 13, 14, 15, 16, 17, 18, 19, 1, 2, 3, 4, 5, 6, 7] rfl) cw_X10_160 hm (fun z h => tcX3_denialWins l D cs ad 10 (S3.1 0) a1 z h) ⟨rfl, rfl⟩ ⟨by decide, by decide⟩ (b := (ad 10)) 0 rfl rfl rfl hl.1 rfl rfl (Nat.le_of_ble_eq_true rfl) dX10_deny_38 ⟨Nat.zero_le _, Nat.zero_le _⟩ (fun r5 hm => ?_)
      refine x_if_ne (tgt := 46) hx hb dX10_deny_41 (by decide) hm (fun hm => ?_) (fun hm => ?_)
      · refine lv_aload_n hx hb dX10_deny_46 rfl (lv_at hl 0 rfl) ?_
        refine gf_X10_30 (v := .ref (ad 10)) hx hb hT hown hK hP 0 rfl rfl dX10_deny_47 ?_
        refine lv_dup hx hb dX10_deny_50 rfl ?_
        refine gf_X10_122 (v := .int ((S3.1 0).2 8)) hx hb hT hown hK hP 8 rfl rfl dX10_deny_51 ?_
        refine lv_iconst (v := (nI 1)) hx hb dX10_deny_54 (by decide) ?_
        refine lv_iload_n hx hb dX10_deny_55 rfl (lv_at hl 1 rfl) ?_
        refine lv_ishl hx hb dX10_deny_56 ?_
        refine lv_iconst (v := (-1 : Int32)) hx hb dX10_deny_57 (by decide) ?_
        refine lv_ixor hx hb dX10_deny_58 ?_
        refine lv_iand hx hb dX10_deny_59 ?_
        refine pf_X10_122 (wf := (fun u => WC cs ad u)) (u0 := cM S3 0 (tI (S3.1 0) 8 (((S3.1 0).2 8) &&& (((nI 1) <<< (a1 &&& 31)) ^^^ (-1 : Int32))))) hx hb hT hown hK hP hD hS 8 rfl (Nat.le_of_ble_eq_true rfl) rfl rfl rfl hm dX10_deny_60 (fun S6 H locs hm hP hD hS => ?_)
        refine lv_iconst (v := (nI 1)) hx hb dX10_deny_63 (by decide) ?_
        exact x_iretW (wf := (fun u => WC cs ad u)) hx hb hr hlk hK hP hD hS hm dX10_deny_64
      · refine lv_iconst (v := (nI 0)) hx hb dX10_deny_44 (by decide) ?_
        exact x_iretW (wf := (fun u => WC cs ad u)) hx hb hr hlk hK hP hD hS hm dX10_deny_45
    · refine lv_aload_n hx hb dX10_deny_21 rfl (lv_at hl 0 rfl) ?_
      refine xVW_i (As := []) (rest := []) (wr := []) (wg := (fun u => WC cs ad u)) hx hb hml hown hT hN hK hP hD hS hA cw_X10_141 hm (fun z h => tcX10_refuseNo l D cs ad H.size S z h) ⟨rfl, rfl⟩ ⟨by decide, by decide⟩ [0, 1, 2, 3, 4, 5, 6, 7, 8, 9, 10, 11, 12, 13, 14, 15, 16, 17, 18, 19, 20, 21, 22, 23, 24, 25, 26, 27, 28, 29, 30, 31, 32, 33, 34, 35, 36, 37, 38, 39, 40, 41, 42, 43, 44, 45, 46, 47, 48, 49, 50, 51, 52, 53, 54, 55, 56, 57, 58, 59, 60] [] [0, 1, 2, 3, 4, 5, 6, 7, 8, 9, 10, 11, 12, 13, 14, 15, 16, 17, 18, 19, 20, 21, 22, 23, 24, 25, 26, 27, 28, 29, 30, 31, 32, 33, 34, 35, 36, 37, 38, 39, 40, 41, 42, 43, 44, 45, 46, 47, 48, 49, 50, 51, 52, 53, 54, 55, 56, 57, 58, 59, 60] rfl (by decide) rfl (by decide) (by decide) (fun _ => rfl) (by decide) (b := (ad 0)) 0 rfl rfl rfl hl.1 rfl rfl (Nat.le_of_ble_eq_true rfl) dX10_deny_22 ⟨Nat.zero_le _, Nat.zero_le _⟩ (fun r8 S7 H locs hm hP hD hS => ?_)
      exact x_iretW (wf := (fun u => WC cs ad u)) hx hb hr hlk hK hP hD hS hm dX10_deny_25
  · refine lv_aload_n hx hb dX10_deny_8 rfl (lv_at hl 0 rfl) ?_
    refine xVW_i (As := []) (rest := []) (wr := []) (wg := (fun u => WC cs ad u)) hx hb hml hown hT hN hK hP hD hS hA cw_X10_70 hm (fun z h => tcX10_refuseBad l D cs ad H.size S z h) ⟨rfl, rfl⟩ ⟨by decide, by decide⟩ [0, 1, 2, 3, 4, 5, 6, 7, 8, 9, 10, 11, 12, 13, 14, 15, 16, 17, 18, 19, 20, 21, 22, 23, 24, 25, 26, 27, 28, 29, 30, 31, 32, 33, 34, 35, 36, 37, 38, 39, 40, 41, 42, 43, 44, 45, 46, 47, 48, 49, 50, 51, 52, 53, 54, 55, 56, 57, 58, 59, 60] [] [0, 1, 2, 3, 4, 5, 6, 7, 8, 9, 10, 11, 12, 13, 14, 15, 16, 17, 18, 19, 20, 21, 22, 23, 24, 25, 26, 27, 28, 29, 30, 31, 32, 33, 34, 35, 36, 37, 38, 39, 40, 41, 42, 43, 44, 45, 46, 47, 48, 49, 50, 51, 52, 53, 54, 55, 56, 57, 58, 59, 60] rfl (by decide) rfl (by decide) (by decide) (fun _ => rfl) (by decide) (b := (ad 0)) 0 rfl rfl rfl hl.1 rfl rfl (Nat.le_of_ble_eq_true rfl) dX10_deny_9 ⟨Nat.zero_le _, Nat.zero_le _⟩ (fun r10 S9 H locs hm hP hD hS => ?_)
    exact x_iretW (wf := (fun u => WC cs ad u)) hx hb hr hlk hK hP hD hS hm dX10_deny_12
noncomputable def mX10_denial_L40  : Nat → Int32 → Int32 → Int32 → CT → Option (Int32 × CT) := fun n => Nat.rec (motive := fun _ => Int32 → Int32 → Int32 → CT → Option (Int32 × CT)) (fun _ _ _ _ => none) (fun _ rc => fun y2 y3 y4 S => (if (nI 4) ≤ y4 then some (y3, S) else nm (y4 &&& (nI 1)) fun x4 => nm (y4 >>> ((nI 1) &&& 31)) fun x5 => (mX10_gainOfOne x4 x5 y2).bind fun r6 => (mX10_gainOfOne ((nI 1) - x4) x5 y2).bind fun r7 => (if r6 < r7 then nm (y4 + (nI 1)) fun x8 => rc y2 y3 x8 S else (mX10_gainOfOther x4 x5 y2).bind fun r9 => (mX10_gainOfOther x4 ((nI 1) - x5) y2).bind fun r10 => (if r9 < r10 then nm (y4 + (nI 1)) fun x11 => rc y2 y3 x11 S else nm (y3 ||| ((nI 1) <<< (y4 &&& 31))) fun x12 => nm (y4 + (nI 1)) fun x13 => rc y2 x12 x13 S)))) n
theorem mX10_denial_L40_s  (n : Nat) (y2 : Int32) (y3 : Int32) (y4 : Int32) (S : CT) : mX10_denial_L40  (n + 1) y2 y3 y4 S = (if (nI 4) ≤ y4 then some (y3, S) else nm (y4 &&& (nI 1)) fun x4 => nm (y4 >>> ((nI 1) &&& 31)) fun x5 => (mX10_gainOfOne x4 x5 y2).bind fun r6 => (mX10_gainOfOne ((nI 1) - x4) x5 y2).bind fun r7 => (if r6 < r7 then nm (y4 + (nI 1)) fun x8 => (mX10_denial_L40  n) y2 y3 x8 S else (mX10_gainOfOther x4 x5 y2).bind fun r9 => (mX10_gainOfOther x4 ((nI 1) - x5) y2).bind fun r10 => (if r9 < r10 then nm (y4 + (nI 1)) fun x11 => (mX10_denial_L40  n) y2 y3 x11 S else nm (y3 ||| ((nI 1) <<< (y4 &&& 31))) fun x12 => nm (y4 + (nI 1)) fun x13 => (mX10_denial_L40  n) y2 x12 x13 S))) := rfl
noncomputable def mX10_denial (S : CT) (a1 : Int32) : Option (Int32 × CT) := (mX10_isFiction S a1).bind fun r1 => (if r1 = 0 then (mX10_refuseBad S).bind fun ⟨r17, S16⟩ => some (r17, S16) else (mX10_isPleaded S a1).bind fun r2 => (if r2 = 0 then (mX10_refuseNo S).bind fun ⟨r15, S14⟩ => some (r15, S14) else (mX3_denialWins (S.1 0) a1).bind fun r3 => mX10_denial_L40 FU r3 (nI 0) (nI 0) S))
set_option maxHeartbeats 4000000 in
set_option maxRecDepth 100000 in
theorem kX10_denial_L40 {p : Program} {l : Launch} {e : Env} {s : State} {m : MethodId} {below : List Frame} {meth : Method} {c : Code} {D : va_G} {cs : CS} {A : Nat → Prop}  {ad : Nat → Nat} {a1 : Int32} (E : EV p s m [.ref (ad 0), .int a1].toArray meth c cX10_denial 7 RX10 (some .int) D cs) (hA : ∀ q : Nat, s.heap.size ≤ q → A q) (z : Int32 × CT) : ∀ (n : Nat) (y2 : Int32) (y3 : Int32) (y4 : Int32) (S : CT), mX10_denial_L40  n y2 y3 y4 S = some z → ∀ (H : Heap) (locs : List Loc), va_P D classes (WC cs ad S) H → va_D A (WC cs ad S) → va_S A s.heap H locs → ∀ ls : Array Slot, lv_has ls 7 [(2, .int y2), (3, .int y3), (4, .int y4)] → W p l e ({ frames := 2, cells := 0, slots := 0, locals := 45 }) s m [.ref (ad 0), .int a1].toArray below meth c H locs 0 0 (MQ below (QWi D cs A (fun u => WC cs ad u) z) [.ref (ad 0), .int a1].toArray s 0 0 A) (F0 m 40 ls []) := by
  obtain ⟨hx, hb, hr, hml, hown, hlk, hT, hN, hK⟩ := id E
  intro n
  induction n with
  | zero =>
    intro y2 y3 y4 S hm
    exact nomatch (show (none : Option (Int32 × CT)) = some z from hm)
  | succ n ih =>
    intro y2 y3 y4 S hm H locs hP hD hS ls hl
    rw [mX10_denial_L40_s] at hm
    refine lv_iload hx hb dX10_denial_40 (lv_at hl 2 rfl) ?_
    refine lv_iconst (v := (nI 4)) hx hb dX10_denial_42 (by decide) ?_
    refine x_icmp_ge (tgt := 113) hx hb dX10_denial_43 (by decide) hm (fun hm => ?_) (fun hm => ?_)
    · refine lv_iload_n hx hb dX10_denial_113 rfl (lv_at hl 1 rfl) ?_
      exact x_iretW (wf := (fun u => WC cs ad u)) hx hb hr hlk hK hP hD hS hm dX10_denial_114
    · refine lv_iload hx hb dX10_denial_46 (lv_at hl 2 rfl) ?_
      refine lv_iconst (v := (nI 1)) hx hb dX10_denial_48 (by decide) ?_
      refine lv_iand hx hb dX10_denial_49 ?_
      refine xi_nm hm (fun x4 hm => ?_)
      refine lv_istore (lv' := [(5, .int x4), (2, .int y2), (3, .int y3), (4, .int y4)]) hx hb dX10_denial_50 hl (by decide) rfl (fun ls hl => ?_)
      refine lv_iload hx hb dX10_denial_52 (lv_at hl 3 rfl) ?_
      refine lv_iconst (v := (nI 1)) hx hb dX10_denial_54 (by decide) ?_
      refine lv_ishr hx hb dX10_denial_55 ?_
      refine xi_nm hm (fun x5 hm => ?_)
      refine lv_istore (lv' := [(6, .int x5), (5, .int x4), (2, .int y2), (3, .int y3), (4, .int y4)]) hx hb dX10_denial_56 hl (by decide) rfl (fun ls hl => ?_)
      refine lv_iload hx hb dX10_denial_58 (lv_at hl 1 rfl) ?_
      refine lv_iload hx hb dX10_denial_60 (lv_at hl 0 rfl) ?_
      refine lv_iload_n hx hb dX10_denial_62 rfl (lv_at hl 2 rfl) ?_
      refine xS_i (As := [.int x4, .int x5, .int y2]) (rest := []) hx hb hml hown hT hN hK (hP.sub (ws' := []) [] rfl) cw_X10_205 hm (fun z h => tcX10_gainOfOne l D cs x4 x5 y2 z h) ⟨rfl, rfl⟩ ⟨by decide, by decide⟩ hl.1 rfl rfl (Nat.le_of_ble_eq_true rfl) dX10_denial_63 ⟨Nat.zero_le _, Nat.zero_le _⟩ (fun r6 hm => ?_)
      refine lv_iconst (v := (nI 1)) hx hb dX10_denial_66 (by decide) ?_
      refine lv_iload hx hb dX10_denial_67 (lv_at hl 1 rfl) ?_
      refine lv_isub hx hb dX10_denial_69 ?_
      refine lv_iload hx hb dX10_denial_70 (lv_at hl 0 rfl) ?_
      refine lv_iload_n hx hb dX10_denial_72 rfl (lv_at hl 2 rfl) ?_
      refine xS_i (As := [.int ((nI 1) - x4), .int x5, .int y2]) (rest := [.int r6]) hx hb hml hown hT hN hK (hP.sub (ws' := []) [] rfl) cw_X10_205 hm (fun z h => tcX10_gainOfOne l D cs ((nI 1) - x4) x5 y2 z h) ⟨rfl, rfl⟩ ⟨by decide, by decide⟩ hl.1 rfl rfl (Nat.le_of_ble_eq_true rfl) dX10_denial_73 ⟨Nat.zero_le _, Nat.zero_le _⟩ (fun r7 hm => ?_)
      refine x_icmp_lt (tgt := 107) hx hb dX10_denial_76 (by decide) hm (fun hm => ?_) (fun hm => ?_)
      · refine x_iinc (lv' := fun x8 => [(4, .int x8), (6, .int x5), (5, .int x4), (2, .int y2), (3, .int y3)]) hx hb dX10_denial_107 hl (k := 4) rfl (by decide) (v0 := (nI 1)) (by decide) (fun _ => rfl) hm (fun x8 ls hm hl => ?_)
        refine lv_goto (tgt := 40) hx hb dX10_denial_110 (by decide) ?_
        exact ih y2 y3 x8 S hm H locs hP hD hS ls (lv_sub hl [3, 4, 0] rfl)
      · refine lv_iload hx hb dX10_denial_79 (lv_at hl 1 rfl) ?_
        refine lv_iload hx hb dX10_denial_81 (lv_at hl 0 rfl) ?_
        refine lv_iload_n hx hb dX10_denial_83 rfl (lv_at hl 2 rfl) ?_
        refine xS_i (As := [.int x4, .int x5, .int y2]) (rest := []) hx hb hml hown hT hN hK (hP.sub (ws' := []) [] rfl) cw_X10_209 hm (fun z h => tcX10_gainOfOther l D cs x4 x5 y2 z h) ⟨rfl, rfl⟩ ⟨by decide, by decide⟩ hl.1 rfl rfl (Nat.le_of_ble_eq_true rfl) dX10_denial_84 ⟨Nat.zero_le _, Nat.zero_le _⟩ (fun r9 hm => ?_)
        refine lv_iload hx hb dX10_denial_87 (lv_at hl 1 rfl) ?_
        refine lv_iconst (v := (nI 1)) hx hb dX10_denial_89 (by decide) ?_
        refine lv_iload hx hb dX10_denial_90 (lv_at hl 0 rfl) ?_
        refine lv_isub hx hb dX10_denial_92 ?_
        refine lv_iload_n hx hb dX10_denial_93 rfl (lv_at hl 2 rfl) ?_
        refine xS_i (As := [.int x4, .int ((nI 1) - x5), .int y2]) (rest := [.int r9]) hx hb hml hown hT hN hK (hP.sub (ws' := []) [] rfl) cw_X10_209 hm (fun z h => tcX10_gainOfOther l D cs x4 ((nI 1) - x5) y2 z h) ⟨rfl, rfl⟩ ⟨by decide, by decide⟩ hl.1 rfl rfl (Nat.le_of_ble_eq_true rfl) dX10_denial_94 ⟨Nat.zero_le _, Nat.zero_le _⟩ (fun r10 hm => ?_)
        refine x_icmp_lt (tgt := 107) hx hb dX10_denial_97 (by decide) hm (fun hm => ?_) (fun hm => ?_)
        · refine x_iinc (lv' := fun x11 => [(4, .int x11), (6, .int x5), (5, .int x4), (2, .int y2), (3, .int y3)]) hx hb dX10_denial_107 hl (k := 4) rfl (by decide) (v0 := (nI 1)) (by decide) (fun _ => rfl) hm (fun x11 ls hm hl => ?_)
          refine lv_goto (tgt := 40) hx hb dX10_denial_110 (by decide) ?_
          exact ih y2 y3 x11 S hm H locs hP hD hS ls (lv_sub hl [3, 4, 0] rfl)
        · refine lv_iload_n hx hb dX10_denial_100 rfl (lv_at hl 3 rfl) ?_
          refine lv_iconst (v := (nI 1)) hx hb dX10_denial_101 (by decide) ?_
          refine lv_iload hx hb dX10_denial_102 (lv_at hl 4 rfl) ?_
          refine lv_ishl hx hb dX10_denial_104 ?_
          refine lv_ior hx hb dX10_denial_105 ?_
          refine xi_nm hm (fun x12 hm => ?_)
          refine lv_istore_n (lv' := [(3, .int x12), (6, .int x5), (5, .int x4), (2, .int y2), (4, .int y4)]) hx hb dX10_denial_106 rfl hl (by decide) rfl (fun ls hl => ?_)
          refine x_iinc (lv' := fun x13 => [(4, .int x13), (3, .int x12), (6, .int x5), (5, .int x4), (2, .int y2)]) hx hb dX10_denial_107 hl (k := 4) rfl (by decide) (v0 := (nI 1)) (by decide) (fun _ => rfl) hm (fun x13 ls hm hl => ?_)
          refine lv_goto (tgt := 40) hx hb dX10_denial_110 (by decide) ?_
          exact ih y2 x12 x13 S hm H locs hP hD hS ls (lv_sub hl [4, 1, 0] rfl)
set_option maxHeartbeats 4000000 in
set_option maxRecDepth 100000 in
theorem tcX10_denial (l : Launch) (D : va_G) (cs : CS) (ad : Nat → Nat) (sz : Nat) (S : CT) (a1 : Int32) (z : Int32 × CT) (hm : mX10_denial S a1 = some z) : Met l yX10_denial (Cond.code yX10_denial cX10_denial 7 (some .int) :: gw_tbl) ({ frames := 2, cells := 0, slots := 0, locals := 45 }) (PcW D cs sz (WC cs ad S) [.ref (ad 0), .int a1]) (QWi D cs (va_A (WC cs ad S) sz) (fun u => WC cs ad u) z) 0 0 (va_A (WC cs ad S) sz) := by
  refine met_W rfl (Nat.le_of_ble_eq_true rfl) (fun p e s m below meth c E hP hD hS hA ls hl => ?_)
  generalize va_A (WC cs ad S) sz = A at hD hS hA ⊢
  obtain ⟨hx, hb, hr, hml, hown, hlk, hT, hN, hK⟩ := id E
  obtain ⟨H, hH⟩ : ∃ H, H = s.heap := ⟨_, rfl⟩
  obtain ⟨locs, hlo⟩ : ∃ L : List Loc, L = [] := ⟨_, rfl⟩
  have hP : va_P D classes (WC cs ad S) H := by rw [hH]; exact hP
  have hS : va_S A s.heap H locs := by rw [hH, hlo]; exact hS
  rw [show W p l e _ s m _ below meth c s.heap [] 0 0 = W p l e _ s m _ below meth c H locs 0 0 by rw [hH, hlo]]
  have hl : lv_has ls 7 [(0, .ref (ad 0)), (1, .int a1)] := hl
  unfold mX10_denial at hm
  refine lv_aload_n hx hb dX10_denial_0 rfl (lv_at hl 0 rfl) ?_
  refine lv_iload_n hx hb dX10_denial_1 rfl (lv_at hl 1 rfl) ?_
  refine xV_i (As := [.int a1]) (rest := []) hx hb hml hown hT hN hK hP cw_X10_134 hm (fun z h => tcX10_isFiction l D cs ad S a1 z h) ⟨rfl, rfl⟩ ⟨by decide, by decide⟩ (b := (ad 0)) 0 rfl rfl rfl hl.1 rfl rfl (Nat.le_of_ble_eq_true rfl) dX10_denial_2 ⟨Nat.zero_le _, Nat.zero_le _⟩ (fun r1 hm => ?_)
  refine x_if_ne (tgt := 13) hx hb dX10_denial_5 (by decide) hm (fun hm => ?_) (fun hm => ?_)
  · refine lv_aload_n hx hb dX10_denial_13 rfl (lv_at hl 0 rfl) ?_
    refine lv_iload_n hx hb dX10_denial_14 rfl (lv_at hl 1 rfl) ?_
    refine xV_i (As := [.int a1]) (rest := []) hx hb hml hown hT hN hK hP cw_X10_157 hm (fun z h => tcX10_isPleaded l D cs ad S a1 z h) ⟨rfl, rfl⟩ ⟨by decide, by decide⟩ (b := (ad 0)) 0 rfl rfl rfl hl.1 rfl rfl (Nat.le_of_ble_eq_true rfl) dX10_denial_15 ⟨Nat.zero_le _, Nat.zero_le _⟩ (fun r2 hm => ?_)
    refine x_if_ne (tgt := 26) hx hb dX10_denial_18 (by decide) hm (fun hm => ?_) (fun hm => ?_)
    · refine lv_aload_n hx hb dX10_denial_26 rfl (lv_at hl 0 rfl) ?_
      refine gf_X10_30 (v := .ref (ad 10)) hx hb hT hown hK hP 0 rfl rfl dX10_denial_27 ?_
      refine lv_iload_n hx hb dX10_denial_30 rfl (lv_at hl 1 rfl) ?_
      refine xV_i (As := [.int a1]) (rest := []) hx hb hml hown hT hN hK (hP.sub (ws' := WT cs ad 10 (S.1 0)) [8, 9, 10, 11, 12, 13, 14, 15, 16, 17, 18, 19, 1, 2, 3, 4, 5, 6, 7] rfl) cw_X10_160 hm (fun z h => tcX3_denialWins l D cs ad 10 (S.1 0) a1 z h) ⟨rfl, rfl⟩ ⟨by decide, by decide⟩ (b := (ad 10)) 0 rfl rfl rfl hl.1 rfl rfl (Nat.le_of_ble_eq_true rfl) dX10_denial_31 ⟨Nat.zero_le _, Nat.zero_le _⟩ (fun r3 hm => ?_)
      refine lv_istore_n (lv' := [(2, .int r3), (0, .ref (ad 0)), (1, .int a1)]) hx hb dX10_denial_34 rfl hl (by decide) rfl (fun ls hl => ?_)
      refine lv_iconst (v := (nI 0)) hx hb dX10_denial_35 (by decide) ?_
      refine lv_istore_n (lv' := [(3, .int (nI 0)), (2, .int r3), (0, .ref (ad 0)), (1, .int a1)]) hx hb dX10_denial_36 rfl hl (by decide) rfl (fun ls hl => ?_)
      refine lv_iconst (v := (nI 0)) hx hb dX10_denial_37 (by decide) ?_
      refine lv_istore (lv' := [(4, .int (nI 0)), (3, .int (nI 0)), (2, .int r3), (0, .ref (ad 0)), (1, .int a1)]) hx hb dX10_denial_38 hl (by decide) rfl (fun ls hl => ?_)
      exact kX10_denial_L40 E hA _ FU r3 (nI 0) (nI 0) S hm H locs hP hD hS ls (lv_sub hl [2, 1, 0] rfl)
    · refine lv_aload_n hx hb dX10_denial_21 rfl (lv_at hl 0 rfl) ?_
      refine xVW_i (As := []) (rest := []) (wr := []) (wg := (fun u => WC cs ad u)) hx hb hml hown hT hN hK hP hD hS hA cw_X10_141 hm (fun z h => tcX10_refuseNo l D cs ad H.size S z h) ⟨rfl, rfl⟩ ⟨by decide, by decide⟩ [0, 1, 2, 3, 4, 5, 6, 7, 8, 9, 10, 11, 12, 13, 14, 15, 16, 17, 18, 19, 20, 21, 22, 23, 24, 25, 26, 27, 28, 29, 30, 31, 32, 33, 34, 35, 36, 37, 38, 39, 40, 41, 42, 43, 44, 45, 46, 47, 48, 49, 50, 51, 52, 53, 54, 55, 56, 57, 58, 59, 60] [] [0, 1, 2, 3, 4, 5, 6, 7, 8, 9, 10, 11, 12, 13, 14, 15, 16, 17, 18, 19, 20, 21, 22, 23, 24, 25, 26, 27, 28, 29, 30, 31, 32, 33, 34, 35, 36, 37, 38, 39, 40, 41, 42, 43, 44, 45, 46, 47, 48, 49, 50, 51, 52, 53, 54, 55, 56, 57, 58, 59, 60] rfl (by decide) rfl (by decide) (by decide) (fun _ => rfl) (by decide) (b := (ad 0)) 0 rfl rfl rfl hl.1 rfl rfl (Nat.le_of_ble_eq_true rfl) dX10_denial_22 ⟨Nat.zero_le _, Nat.zero_le _⟩ (fun r15 S14 H locs hm hP hD hS => ?_)
      exact x_iretW (wf := (fun u => WC cs ad u)) hx hb hr hlk hK hP hD hS hm dX10_denial_25
  · refine lv_aload_n hx hb dX10_denial_8 rfl (lv_at hl 0 rfl) ?_
    refine xVW_i (As := []) (rest := []) (wr := []) (wg := (fun u => WC cs ad u)) hx hb hml hown hT hN hK hP hD hS hA cw_X10_70 hm (fun z h => tcX10_refuseBad l D cs ad H.size S z h) ⟨rfl, rfl⟩ ⟨by decide, by decide⟩ [0, 1, 2, 3, 4, 5, 6, 7, 8, 9, 10, 11, 12, 13, 14, 15, 16, 17, 18, 19, 20, 21, 22, 23, 24, 25, 26, 27, 28, 29, 30, 31, 32, 33, 34, 35, 36, 37, 38, 39, 40, 41, 42, 43, 44, 45, 46, 47, 48, 49, 50, 51, 52, 53, 54, 55, 56, 57, 58, 59, 60] [] [0, 1, 2, 3, 4, 5, 6, 7, 8, 9, 10, 11, 12, 13, 14, 15, 16, 17, 18, 19, 20, 21, 22, 23, 24, 25, 26, 27, 28, 29, 30, 31, 32, 33, 34, 35, 36, 37, 38, 39, 40, 41, 42, 43, 44, 45, 46, 47, 48, 49, 50, 51, 52, 53, 54, 55, 56, 57, 58, 59, 60] rfl (by decide) rfl (by decide) (by decide) (fun _ => rfl) (by decide) (b := (ad 0)) 0 rfl rfl rfl hl.1 rfl rfl (Nat.le_of_ble_eq_true rfl) dX10_denial_9 ⟨Nat.zero_le _, Nat.zero_le _⟩ (fun r17 S16 H locs hm hP hD hS => ?_)
    exact x_iretW (wf := (fun u => WC cs ad u)) hx hb hr hlk hK hP hD hS hm dX10_denial_12
noncomputable def mX10_supposed (S : CT) : Option Int32 := (mX3_factsWith (S.1 0) ((S.1 0).2 8)).bind fun r1 => some r1
set_option maxHeartbeats 4000000 in
set_option maxRecDepth 100000 in
theorem tcX10_supposed (l : Launch) (D : va_G) (cs : CS) (ad : Nat → Nat) (S : CT) (z : Int32) (hm : mX10_supposed S = some z) : Met l yX10_supposed (Cond.code yX10_supposed cX10_supposed 1 (some .int) :: gw_tbl) ({ frames := 2, cells := 0, slots := 0, locals := 46 }) (PcR D cs (WC cs ad S) [.ref (ad 0)]) (QRi z) 0 0 NoF := by
  refine met_R rfl (Nat.le_of_ble_eq_true rfl) (fun p e s m below meth c E hP ls hl => ?_)
  obtain ⟨hx, hb, hr, hml, hown, hlk, hT, hN, hK⟩ := id E
  have hl : lv_has ls 1 [(0, .ref (ad 0))] := hl
  unfold mX10_supposed at hm
  refine lv_aload_n hx hb dX10_supposed_0 rfl (lv_at hl 0 rfl) ?_
  refine gf_X10_30 (v := .ref (ad 10)) hx hb hT hown hK hP 0 rfl rfl dX10_supposed_1 ?_
  refine lv_aload_n hx hb dX10_supposed_4 rfl (lv_at hl 0 rfl) ?_
  refine gf_X10_30 (v := .ref (ad 10)) hx hb hT hown hK hP 0 rfl rfl dX10_supposed_5 ?_
  refine gf_X10_122 (v := .int ((S.1 0).2 8)) hx hb hT hown hK hP 8 rfl rfl dX10_supposed_8 ?_
  refine xV_i (As := [.int ((S.1 0).2 8)]) (rest := []) hx hb hml hown hT hN hK (hP.sub (ws' := WT cs ad 10 (S.1 0)) [8, 9, 10, 11, 12, 13, 14, 15, 16, 17, 18, 19, 1, 2, 3, 4, 5, 6, 7] rfl) cw_X10_199 hm (fun z h => tcX3_factsWith l D cs ad 10 (S.1 0) ((S.1 0).2 8) z h) ⟨rfl, rfl⟩ ⟨by decide, by decide⟩ (b := (ad 10)) 0 rfl rfl rfl hl.1 rfl rfl (Nat.le_of_ble_eq_true rfl) dX10_supposed_11 ⟨Nat.zero_le _, Nat.zero_le _⟩ (fun r1 hm => ?_)
  exact x_iretR hx hb hr hlk hm dX10_supposed_14
noncomputable def mX10_now (S : CT) (a1 : Int32) : Option (Int32 × CT) := (if a1 = (nI 0) then (mX10_supposed S).bind fun r1 => some (r1, S) else if a1 = (nI 1) then some (((S.1 0).2 8), S) else if a1 = (nI 2) then some (((S.1 0).2 9), S) else if a1 = (nI 3) then some (((S.1 0).2 10), S) else if a1 = (nI 4) then some (((S.1 0).2 7), S) else (mX10_refuseBad S).bind fun ⟨r3, S2⟩ => some (r3, S2))
set_option maxHeartbeats 4000000 in
set_option maxRecDepth 100000 in
theorem tcX10_now (l : Launch) (D : va_G) (cs : CS) (ad : Nat → Nat) (sz : Nat) (S : CT) (a1 : Int32) (z : Int32 × CT) (hm : mX10_now S a1 = some z) : Met l yX10_now (Cond.code yX10_now cX10_now 2 (some .int) :: gw_tbl) ({ frames := 3, cells := 0, slots := 0, locals := 66 }) (PcW D cs sz (WC cs ad S) [.ref (ad 0), .int a1]) (QWi D cs (va_A (WC cs ad S) sz) (fun u => WC cs ad u) z) 0 0 (va_A (WC cs ad S) sz) := by
  refine met_W rfl (Nat.le_of_ble_eq_true rfl) (fun p e s m below meth c E hP hD hS hA ls hl => ?_)
  generalize va_A (WC cs ad S) sz = A at hD hS hA ⊢
  obtain ⟨hx, hb, hr, hml, hown, hlk, hT, hN, hK⟩ := id E
  obtain ⟨H, hH⟩ : ∃ H, H = s.heap := ⟨_, rfl⟩
  obtain ⟨locs, hlo⟩ : ∃ L : List Loc, L = [] := ⟨_, rfl⟩
  have hP : va_P D classes (WC cs ad S) H := by rw [hH]; exact hP
  have hS : va_S A s.heap H locs := by rw [hH, hlo]; exact hS
  rw [show W p l e _ s m _ below meth c s.heap [] 0 0 = W p l e _ s m _ below meth c H locs 0 0 by rw [hH, hlo]]
  have hl : lv_has ls 2 [(0, .ref (ad 0)), (1, .int a1)] := hl
  unfold mX10_now at hm
  refine lv_iload_n hx hb dX10_now_0 rfl (lv_at hl 1 rfl) ?_
  rcases sw_c hm with ⟨e1_0, hm⟩ | ⟨e1_0, hm⟩
  · refine lv_tableIn (tgt := 36) (off := 35) hx hb dX10_now_1 (by rw [e1_0]; decide) (by rw [e1_0]; decide) (by rw [e1_0]; rfl) (by decide) ?_
    refine lv_aload_n hx hb dX10_now_36 rfl (lv_at hl 0 rfl) ?_
    refine xV_i (As := []) (rest := []) hx hb hml hown hT hN hK hP cw_X10_169 hm (fun z h => tcX10_supposed l D cs ad S z h) ⟨rfl, rfl⟩ ⟨by decide, by decide⟩ (b := (ad 0)) 0 rfl rfl rfl hl.1 rfl rfl (Nat.le_of_ble_eq_true rfl) dX10_now_37 ⟨Nat.zero_le _, Nat.zero_le _⟩ (fun r1 hm => ?_)
    exact x_iretW (wf := (fun u => WC cs ad u)) hx hb hr hlk hK hP hD hS hm dX10_now_40
  rcases sw_c hm with ⟨e1_1, hm⟩ | ⟨e1_1, hm⟩
  · refine lv_tableIn (tgt := 41) (off := 40) hx hb dX10_now_1 (by rw [e1_1]; decide) (by rw [e1_1]; decide) (by rw [e1_1]; rfl) (by decide) ?_
    refine lv_aload_n hx hb dX10_now_41 rfl (lv_at hl 0 rfl) ?_
    refine gf_X10_30 (v := .ref (ad 10)) hx hb hT hown hK hP 0 rfl rfl dX10_now_42 ?_
    refine gf_X10_122 (v := .int ((S.1 0).2 8)) hx hb hT hown hK hP 8 rfl rfl dX10_now_45 ?_
    exact x_iretW (wf := (fun u => WC cs ad u)) hx hb hr hlk hK hP hD hS hm dX10_now_48
  rcases sw_c hm with ⟨e1_2, hm⟩ | ⟨e1_2, hm⟩
  · refine lv_tableIn (tgt := 49) (off := 48) hx hb dX10_now_1 (by rw [e1_2]; decide) (by rw [e1_2]; decide) (by rw [e1_2]; rfl) (by decide) ?_
    refine lv_aload_n hx hb dX10_now_49 rfl (lv_at hl 0 rfl) ?_
    refine gf_X10_30 (v := .ref (ad 10)) hx hb hT hown hK hP 0 rfl rfl dX10_now_50 ?_
    refine gf_X10_144 (v := .int ((S.1 0).2 9)) hx hb hT hown hK hP 8 rfl rfl dX10_now_53 ?_
    exact x_iretW (wf := (fun u => WC cs ad u)) hx hb hr hlk hK hP hD hS hm dX10_now_56
  rcases sw_c hm with ⟨e1_3, hm⟩ | ⟨e1_3, hm⟩
  · refine lv_tableIn (tgt := 57) (off := 56) hx hb dX10_now_1 (by rw [e1_3]; decide) (by rw [e1_3]; decide) (by rw [e1_3]; rfl) (by decide) ?_
    refine lv_aload_n hx hb dX10_now_57 rfl (lv_at hl 0 rfl) ?_
    refine gf_X10_30 (v := .ref (ad 10)) hx hb hT hown hK hP 0 rfl rfl dX10_now_58 ?_
    refine gf_X10_154 (v := .int ((S.1 0).2 10)) hx hb hT hown hK hP 8 rfl rfl dX10_now_61 ?_
    exact x_iretW (wf := (fun u => WC cs ad u)) hx hb hr hlk hK hP hD hS hm dX10_now_64
  rcases sw_c hm with ⟨e1_4, hm⟩ | ⟨e1_4, hm⟩
  · refine lv_tableIn (tgt := 65) (off := 64) hx hb dX10_now_1 (by rw [e1_4]; decide) (by rw [e1_4]; decide) (by rw [e1_4]; rfl) (by decide) ?_
    refine lv_aload_n hx hb dX10_now_65 rfl (lv_at hl 0 rfl) ?_
    refine gf_X10_30 (v := .ref (ad 10)) hx hb hT hown hK hP 0 rfl rfl dX10_now_66 ?_
    refine gf_X10_172 (v := .int ((S.1 0).2 7)) hx hb hT hown hK hP 8 rfl rfl dX10_now_69 ?_
    exact x_iretW (wf := (fun u => WC cs ad u)) hx hb hr hlk hK hP hD hS hm dX10_now_72
  refine lv_tableOut (tgt := 73) hx hb dX10_now_1 (sw_out_0_5 e1_0 e1_1 e1_2 e1_3 e1_4) (by decide) ?_
  refine lv_aload_n hx hb dX10_now_73 rfl (lv_at hl 0 rfl) ?_
  refine xVW_i (As := []) (rest := []) (wr := []) (wg := (fun u => WC cs ad u)) hx hb hml hown hT hN hK hP hD hS hA cw_X10_70 hm (fun z h => tcX10_refuseBad l D cs ad H.size S z h) ⟨rfl, rfl⟩ ⟨by decide, by decide⟩ [0, 1, 2, 3, 4, 5, 6, 7, 8, 9, 10, 11, 12, 13, 14, 15, 16, 17, 18, 19, 20, 21, 22, 23, 24, 25, 26, 27, 28, 29, 30, 31, 32, 33, 34, 35, 36, 37, 38, 39, 40, 41, 42, 43, 44, 45, 46, 47, 48, 49, 50, 51, 52, 53, 54, 55, 56, 57, 58, 59, 60] [] [0, 1, 2, 3, 4, 5, 6, 7, 8, 9, 10, 11, 12, 13, 14, 15, 16, 17, 18, 19, 20, 21, 22, 23, 24, 25, 26, 27, 28, 29, 30, 31, 32, 33, 34, 35, 36, 37, 38, 39, 40, 41, 42, 43, 44, 45, 46, 47, 48, 49, 50, 51, 52, 53, 54, 55, 56, 57, 58, 59, 60] rfl (by decide) rfl (by decide) (by decide) (fun _ => rfl) (by decide) (b := (ad 0)) 0 rfl rfl rfl hl.1 rfl rfl (Nat.le_of_ble_eq_true rfl) dX10_now_74 ⟨Nat.zero_le _, Nat.zero_le _⟩ (fun r3 S2 H locs hm hP hD hS => ?_)
  exact x_iretW (wf := (fun u => WC cs ad u)) hx hb hr hlk hK hP hD hS hm dX10_now_77
noncomputable def mX10_hear (S : CT) : Option Int32 := (mX10_supposed S).bind fun r1 => (mX3_hearing (S.1 0) r1).bind fun r2 => some r2
set_option maxHeartbeats 4000000 in
set_option maxRecDepth 100000 in
theorem tcX10_hear (l : Launch) (D : va_G) (cs : CS) (ad : Nat → Nat) (S : CT) (z : Int32) (hm : mX10_hear S = some z) : Met l yX10_hear (Cond.code yX10_hear cX10_hear 1 (some .int) :: gw_tbl) ({ frames := 3, cells := 0, slots := 0, locals := 68 }) (PcR D cs (WC cs ad S) [.ref (ad 0)]) (QRi z) 0 0 NoF := by
  refine met_R rfl (Nat.le_of_ble_eq_true rfl) (fun p e s m below meth c E hP ls hl => ?_)
  obtain ⟨hx, hb, hr, hml, hown, hlk, hT, hN, hK⟩ := id E
  have hl : lv_has ls 1 [(0, .ref (ad 0))] := hl
  unfold mX10_hear at hm
  refine lv_aload_n hx hb dX10_hear_0 rfl (lv_at hl 0 rfl) ?_
  refine gf_X10_30 (v := .ref (ad 10)) hx hb hT hown hK hP 0 rfl rfl dX10_hear_1 ?_
  refine lv_aload_n hx hb dX10_hear_4 rfl (lv_at hl 0 rfl) ?_
  refine xV_i (As := []) (rest := [.ref (ad 10)]) hx hb hml hown hT hN hK hP cw_X10_169 hm (fun z h => tcX10_supposed l D cs ad S z h) ⟨rfl, rfl⟩ ⟨by decide, by decide⟩ (b := (ad 0)) 0 rfl rfl rfl hl.1 rfl rfl (Nat.le_of_ble_eq_true rfl) dX10_hear_5 ⟨Nat.zero_le _, Nat.zero_le _⟩ (fun r1 hm => ?_)
  refine xV_i (As := [.int r1]) (rest := []) hx hb hml hown hT hN hK (hP.sub (ws' := WT cs ad 10 (S.1 0)) [8, 9, 10, 11, 12, 13, 14, 15, 16, 17, 18, 19, 1, 2, 3, 4, 5, 6, 7] rfl) cw_X10_175 hm (fun z h => tcX3_hearing l D cs ad 10 (S.1 0) r1 z h) ⟨rfl, rfl⟩ ⟨by decide, by decide⟩ (b := (ad 10)) 0 rfl rfl rfl hl.1 rfl rfl (Nat.le_of_ble_eq_true rfl) dX10_hear_8 ⟨Nat.zero_le _, Nat.zero_le _⟩ (fun r2 hm => ?_)
  exact x_iretR hx hb hr hlk hm dX10_hear_11
noncomputable def mX10_contradict (S : CT) : Option Int32 := (mX10_supposed S).bind fun r1 => (mX10_pairsIn r1).bind fun r2 => some r2
set_option maxHeartbeats 4000000 in
set_option maxRecDepth 100000 in
theorem tcX10_contradict (l : Launch) (D : va_G) (cs : CS) (ad : Nat → Nat) (S : CT) (z : Int32) (hm : mX10_contradict S = some z) : Met l yX10_contradict (Cond.code yX10_contradict cX10_contradict 1 (some .int) :: gw_tbl) ({ frames := 3, cells := 0, slots := 0, locals := 66 }) (PcR D cs (WC cs ad S) [.ref (ad 0)]) (QRi z) 0 0 NoF := by
  refine met_R rfl (Nat.le_of_ble_eq_true rfl) (fun p e s m below meth c E hP ls hl => ?_)
  obtain ⟨hx, hb, hr, hml, hown, hlk, hT, hN, hK⟩ := id E
  have hl : lv_has ls 1 [(0, .ref (ad 0))] := hl
  unfold mX10_contradict at hm
  refine lv_aload_n hx hb dX10_contradict_0 rfl (lv_at hl 0 rfl) ?_
  refine xV_i (As := []) (rest := []) hx hb hml hown hT hN hK hP cw_X10_169 hm (fun z h => tcX10_supposed l D cs ad S z h) ⟨rfl, rfl⟩ ⟨by decide, by decide⟩ (b := (ad 0)) 0 rfl rfl rfl hl.1 rfl rfl (Nat.le_of_ble_eq_true rfl) dX10_contradict_1 ⟨Nat.zero_le _, Nat.zero_le _⟩ (fun r1 hm => ?_)
  refine xS_i (As := [.int r1]) (rest := []) hx hb hml hown hT hN hK (hP.sub (ws' := []) [] rfl) cw_X10_192 hm (fun z h => tcX10_pairsIn l D cs r1 z h) ⟨rfl, rfl⟩ ⟨by decide, by decide⟩ hl.1 rfl rfl (Nat.le_of_ble_eq_true rfl) dX10_contradict_4 ⟨Nat.zero_le _, Nat.zero_le _⟩ (fun r2 hm => ?_)
  exact x_iretR hx hb hr hlk hm dX10_contradict_7
noncomputable def mX10_rule (S : CT) (a1 : Int32) : Option (Int32 × CT) := (mX10_isCourt S a1).bind fun r1 => (if r1 = 0 then (mX10_refuseBad S).bind fun ⟨r5, S4⟩ => some (r5, S4) else (mX7_cell (nI 4) (nI 2) 8 ((S.1 0).1 1) a1 (nI 0)).bind fun r2 => (mX10_supposed S).bind fun r3 => some ((r2 &&& (r3 ^^^ (-1 : Int32))), S))
set_option maxHeartbeats 4000000 in
set_option maxRecDepth 100000 in
theorem tcX10_rule (l : Launch) (D : va_G) (cs : CS) (ad : Nat → Nat) (sz : Nat) (S : CT) (a1 : Int32) (z : Int32 × CT) (hm : mX10_rule S a1 = some z) : Met l yX10_rule (Cond.code yX10_rule cX10_rule 2 (some .int) :: gw_tbl) ({ frames := 3, cells := 0, slots := 0, locals := 66 }) (PcW D cs sz (WC cs ad S) [.ref (ad 0), .int a1]) (QWi D cs (va_A (WC cs ad S) sz) (fun u => WC cs ad u) z) 0 0 (va_A (WC cs ad S) sz) := by
  refine met_W rfl (Nat.le_of_ble_eq_true rfl) (fun p e s m below meth c E hP hD hS hA ls hl => ?_)
  generalize va_A (WC cs ad S) sz = A at hD hS hA ⊢
  obtain ⟨hx, hb, hr, hml, hown, hlk, hT, hN, hK⟩ := id E
  obtain ⟨H, hH⟩ : ∃ H, H = s.heap := ⟨_, rfl⟩
  obtain ⟨locs, hlo⟩ : ∃ L : List Loc, L = [] := ⟨_, rfl⟩
  have hP : va_P D classes (WC cs ad S) H := by rw [hH]; exact hP
  have hS : va_S A s.heap H locs := by rw [hH, hlo]; exact hS
  rw [show W p l e _ s m _ below meth c s.heap [] 0 0 = W p l e _ s m _ below meth c H locs 0 0 by rw [hH, hlo]]
  have hl : lv_has ls 2 [(0, .ref (ad 0)), (1, .int a1)] := hl
  unfold mX10_rule at hm
  refine lv_aload_n hx hb dX10_rule_0 rfl (lv_at hl 0 rfl) ?_
  refine lv_iload_n hx hb dX10_rule_1 rfl (lv_at hl 1 rfl) ?_
  refine xV_i (As := [.int a1]) (rest := []) hx hb hml hown hT hN hK hP cw_X10_178 hm (fun z h => tcX10_isCourt l D cs ad S a1 z h) ⟨rfl, rfl⟩ ⟨by decide, by decide⟩ (b := (ad 0)) 0 rfl rfl rfl hl.1 rfl rfl (Nat.le_of_ble_eq_true rfl) dX10_rule_2 ⟨Nat.zero_le _, Nat.zero_le _⟩ (fun r1 hm => ?_)
  refine x_if_ne (tgt := 13) hx hb dX10_rule_5 (by decide) hm (fun hm => ?_) (fun hm => ?_)
  · refine lv_aload_n hx hb dX10_rule_13 rfl (lv_at hl 0 rfl) ?_
    refine gf_X10_30 (v := .ref (ad 10)) hx hb hT hown hK hP 0 rfl rfl dX10_rule_14 ?_
    refine gf_X10_105 (v := .ref (ad 14)) hx hb hT hown hK hP 8 rfl rfl dX10_rule_17 ?_
    refine lv_iload_n hx hb dX10_rule_20 rfl (lv_at hl 1 rfl) ?_
    refine lv_iconst (v := (nI 0)) hx hb dX10_rule_21 (by decide) ?_
    refine xV_i (As := [.int a1, .int (nI 0)]) (rest := []) hx hb hml hown hT hN hK (hP.sub (ws' := WR cs ad 14 (nI 4) (nI 2) 8 ((S.1 0).1 1)) [12, 13] rfl) cw_X10_166 hm (fun z h => tcX7_cell l D cs ad 14 (nI 4) (nI 2) 8 ((S.1 0).1 1) a1 (nI 0) z h) ⟨rfl, rfl⟩ ⟨by decide, by decide⟩ (b := (ad 14)) 0 rfl rfl rfl hl.1 rfl rfl (Nat.le_of_ble_eq_true rfl) dX10_rule_22 ⟨Nat.zero_le _, Nat.zero_le _⟩ (fun r2 hm => ?_)
    refine lv_aload_n hx hb dX10_rule_25 rfl (lv_at hl 0 rfl) ?_
    refine xV_i (As := []) (rest := [.int r2]) hx hb hml hown hT hN hK hP cw_X10_169 hm (fun z h => tcX10_supposed l D cs ad S z h) ⟨rfl, rfl⟩ ⟨by decide, by decide⟩ (b := (ad 0)) 0 rfl rfl rfl hl.1 rfl rfl (Nat.le_of_ble_eq_true rfl) dX10_rule_26 ⟨Nat.zero_le _, Nat.zero_le _⟩ (fun r3 hm => ?_)
    refine lv_iconst (v := (-1 : Int32)) hx hb dX10_rule_29 (by decide) ?_
    refine lv_ixor hx hb dX10_rule_30 ?_
    refine lv_iand hx hb dX10_rule_31 ?_
    exact x_iretW (wf := (fun u => WC cs ad u)) hx hb hr hlk hK hP hD hS hm dX10_rule_32
  · refine lv_aload_n hx hb dX10_rule_8 rfl (lv_at hl 0 rfl) ?_
    refine xVW_i (As := []) (rest := []) (wr := []) (wg := (fun u => WC cs ad u)) hx hb hml hown hT hN hK hP hD hS hA cw_X10_70 hm (fun z h => tcX10_refuseBad l D cs ad H.size S z h) ⟨rfl, rfl⟩ ⟨by decide, by decide⟩ [0, 1, 2, 3, 4, 5, 6, 7, 8, 9, 10, 11, 12, 13, 14, 15, 16, 17, 18, 19, 20, 21, 22, 23, 24, 25, 26, 27, 28, 29, 30, 31, 32, 33, 34, 35, 36, 37, 38, 39, 40, 41, 42, 43, 44, 45, 46, 47, 48, 49, 50, 51, 52, 53, 54, 55, 56, 57, 58, 59, 60] [] [0, 1, 2, 3, 4, 5, 6, 7, 8, 9, 10, 11, 12, 13, 14, 15, 16, 17, 18, 19, 20, 21, 22, 23, 24, 25, 26, 27, 28, 29, 30, 31, 32, 33, 34, 35, 36, 37, 38, 39, 40, 41, 42, 43, 44, 45, 46, 47, 48, 49, 50, 51, 52, 53, 54, 55, 56, 57, 58, 59, 60] rfl (by decide) rfl (by decide) (by decide) (fun _ => rfl) (by decide) (b := (ad 0)) 0 rfl rfl rfl hl.1 rfl rfl (Nat.le_of_ble_eq_true rfl) dX10_rule_9 ⟨Nat.zero_le _, Nat.zero_le _⟩ (fun r5 S4 H locs hm hP hD hS => ?_)
    exact x_iretW (wf := (fun u => WC cs ad u)) hx hb hr hlk hK hP hD hS hm dX10_rule_12
noncomputable def mX10_count (S : CT) (a1 : Int32) : Option (Int32 × CT) := (if a1 = (nI 0) then some ((((S.1 0).1 0).1), S) else if a1 = (nI 1) then some ((((S.1 0).1 1).1), S) else if a1 = (nI 2) then (mX10_supposed S).bind fun r1 => (mJ6_bitCount_0f7a4 r1).bind fun r2 => some (r2, S) else if a1 = (nI 3) then (mJ6_bitCount_0f7a4 ((S.1 0).2 8)).bind fun r3 => some (r3, S) else if a1 = (nI 4) then some ((((S.1 0).1 2).1), S) else if a1 = (nI 5) then some ((((S.1 0).1 3).1), S) else if a1 = (nI 6) then some ((((S.1 0).1 4).1), S) else if a1 = (nI 7) then some (((S.2.1).2 1), S) else (mX10_refuseBad S).bind fun ⟨r5, S4⟩ => some (r5, S4))
set_option maxHeartbeats 4000000 in
set_option maxRecDepth 100000 in
theorem tcX10_count (l : Launch) (D : va_G) (cs : CS) (ad : Nat → Nat) (sz : Nat) (S : CT) (a1 : Int32) (z : Int32 × CT) (hm : mX10_count S a1 = some z) : Met l yX10_count (Cond.code yX10_count cX10_count 2 (some .int) :: gw_tbl) ({ frames := 3, cells := 0, slots := 0, locals := 66 }) (PcW D cs sz (WC cs ad S) [.ref (ad 0), .int a1]) (QWi D cs (va_A (WC cs ad S) sz) (fun u => WC cs ad u) z) 0 0 (va_A (WC cs ad S) sz) := by
  refine met_W rfl (Nat.le_of_ble_eq_true rfl) (fun p e s m below meth c E hP hD hS hA ls hl => ?_)
  generalize va_A (WC cs ad S) sz = A at hD hS hA ⊢
  obtain ⟨hx, hb, hr, hml, hown, hlk, hT, hN, hK⟩ := id E
  obtain ⟨H, hH⟩ : ∃ H, H = s.heap := ⟨_, rfl⟩
  obtain ⟨locs, hlo⟩ : ∃ L : List Loc, L = [] := ⟨_, rfl⟩
  have hP : va_P D classes (WC cs ad S) H := by rw [hH]; exact hP
  have hS : va_S A s.heap H locs := by rw [hH, hlo]; exact hS
  rw [show W p l e _ s m _ below meth c s.heap [] 0 0 = W p l e _ s m _ below meth c H locs 0 0 by rw [hH, hlo]]
  have hl : lv_has ls 2 [(0, .ref (ad 0)), (1, .int a1)] := hl
  unfold mX10_count at hm
  refine lv_iload_n hx hb dX10_count_0 rfl (lv_at hl 1 rfl) ?_
  rcases sw_c hm with ⟨e1_0, hm⟩ | ⟨e1_0, hm⟩
  · refine lv_tableIn (tgt := 48) (off := 47) hx hb dX10_count_1 (by rw [e1_0]; decide) (by rw [e1_0]; decide) (by rw [e1_0]; rfl) (by decide) ?_
    refine lv_aload_n hx hb dX10_count_48 rfl (lv_at hl 0 rfl) ?_
    refine gf_X10_30 (v := .ref (ad 10)) hx hb hT hown hK hP 0 rfl rfl dX10_count_49 ?_
    refine gf_X10_74 (v := .ref (ad 12)) hx hb hT hown hK hP 8 rfl rfl dX10_count_52 ?_
    refine gf_X10_78 (v := .int (((S.1 0).1 0).1)) hx hb hT hown hK hP 10 rfl rfl dX10_count_55 ?_
    exact x_iretW (wf := (fun u => WC cs ad u)) hx hb hr hlk hK hP hD hS hm dX10_count_58
  rcases sw_c hm with ⟨e1_1, hm⟩ | ⟨e1_1, hm⟩
  · refine lv_tableIn (tgt := 59) (off := 58) hx hb dX10_count_1 (by rw [e1_1]; decide) (by rw [e1_1]; decide) (by rw [e1_1]; rfl) (by decide) ?_
    refine lv_aload_n hx hb dX10_count_59 rfl (lv_at hl 0 rfl) ?_
    refine gf_X10_30 (v := .ref (ad 10)) hx hb hT hown hK hP 0 rfl rfl dX10_count_60 ?_
    refine gf_X10_105 (v := .ref (ad 14)) hx hb hT hown hK hP 8 rfl rfl dX10_count_63 ?_
    refine gf_X10_78 (v := .int (((S.1 0).1 1).1)) hx hb hT hown hK hP 12 rfl rfl dX10_count_66 ?_
    exact x_iretW (wf := (fun u => WC cs ad u)) hx hb hr hlk hK hP hD hS hm dX10_count_69
  rcases sw_c hm with ⟨e1_2, hm⟩ | ⟨e1_2, hm⟩
  · refine lv_tableIn (tgt := 70) (off := 69) hx hb dX10_count_1 (by rw [e1_2]; decide) (by rw [e1_2]; decide) (by rw [e1_2]; rfl) (by decide) ?_
    refine lv_aload_n hx hb dX10_count_70 rfl (lv_at hl 0 rfl) ?_
    refine xV_i (As := []) (rest := []) hx hb hml hown hT hN hK hP cw_X10_169 hm (fun z h => tcX10_supposed l D cs ad S z h) ⟨rfl, rfl⟩ ⟨by decide, by decide⟩ (b := (ad 0)) 0 rfl rfl rfl hl.1 rfl rfl (Nat.le_of_ble_eq_true rfl) dX10_count_71 ⟨Nat.zero_le _, Nat.zero_le _⟩ (fun r1 hm => ?_)
    refine xS_i (As := [.int r1]) (rest := []) hx hb hml hown hT hN hK (hP.sub (ws' := []) [] rfl) cw_X10_125 hm (fun z h => tcJ6_bitCount_0f7a4 l D cs r1 z h) ⟨rfl, rfl⟩ ⟨by decide, by decide⟩ hl.1 rfl rfl (Nat.le_of_ble_eq_true rfl) dX10_count_74 ⟨Nat.zero_le _, Nat.zero_le _⟩ (fun r2 hm => ?_)
    exact x_iretW (wf := (fun u => WC cs ad u)) hx hb hr hlk hK hP hD hS hm dX10_count_77
  rcases sw_c hm with ⟨e1_3, hm⟩ | ⟨e1_3, hm⟩
  · refine lv_tableIn (tgt := 78) (off := 77) hx hb dX10_count_1 (by rw [e1_3]; decide) (by rw [e1_3]; decide) (by rw [e1_3]; rfl) (by decide) ?_
    refine lv_aload_n hx hb dX10_count_78 rfl (lv_at hl 0 rfl) ?_
    refine gf_X10_30 (v := .ref (ad 10)) hx hb hT hown hK hP 0 rfl rfl dX10_count_79 ?_
    refine gf_X10_122 (v := .int ((S.1 0).2 8)) hx hb hT hown hK hP 8 rfl rfl dX10_count_82 ?_
    refine xS_i (As := [.int ((S.1 0).2 8)]) (rest := []) hx hb hml hown hT hN hK (hP.sub (ws' := []) [] rfl) cw_X10_125 hm (fun z h => tcJ6_bitCount_0f7a4 l D cs ((S.1 0).2 8) z h) ⟨rfl, rfl⟩ ⟨by decide, by decide⟩ hl.1 rfl rfl (Nat.le_of_ble_eq_true rfl) dX10_count_85 ⟨Nat.zero_le _, Nat.zero_le _⟩ (fun r3 hm => ?_)
    exact x_iretW (wf := (fun u => WC cs ad u)) hx hb hr hlk hK hP hD hS hm dX10_count_88
  rcases sw_c hm with ⟨e1_4, hm⟩ | ⟨e1_4, hm⟩
  · refine lv_tableIn (tgt := 89) (off := 88) hx hb dX10_count_1 (by rw [e1_4]; decide) (by rw [e1_4]; decide) (by rw [e1_4]; rfl) (by decide) ?_
    refine lv_aload_n hx hb dX10_count_89 rfl (lv_at hl 0 rfl) ?_
    refine gf_X10_30 (v := .ref (ad 10)) hx hb hT hown hK hP 0 rfl rfl dX10_count_90 ?_
    refine gf_X10_212 (v := .ref (ad 16)) hx hb hT hown hK hP 8 rfl rfl dX10_count_93 ?_
    refine gf_X10_78 (v := .int (((S.1 0).1 2).1)) hx hb hT hown hK hP 14 rfl rfl dX10_count_96 ?_
    exact x_iretW (wf := (fun u => WC cs ad u)) hx hb hr hlk hK hP hD hS hm dX10_count_99
  rcases sw_c hm with ⟨e1_5, hm⟩ | ⟨e1_5, hm⟩
  · refine lv_tableIn (tgt := 100) (off := 99) hx hb dX10_count_1 (by rw [e1_5]; decide) (by rw [e1_5]; decide) (by rw [e1_5]; rfl) (by decide) ?_
    refine lv_aload_n hx hb dX10_count_100 rfl (lv_at hl 0 rfl) ?_
    refine gf_X10_30 (v := .ref (ad 10)) hx hb hT hown hK hP 0 rfl rfl dX10_count_101 ?_
    refine gf_X10_215 (v := .ref (ad 18)) hx hb hT hown hK hP 8 rfl rfl dX10_count_104 ?_
    refine gf_X10_78 (v := .int (((S.1 0).1 3).1)) hx hb hT hown hK hP 16 rfl rfl dX10_count_107 ?_
    exact x_iretW (wf := (fun u => WC cs ad u)) hx hb hr hlk hK hP hD hS hm dX10_count_110
  rcases sw_c hm with ⟨e1_6, hm⟩ | ⟨e1_6, hm⟩
  · refine lv_tableIn (tgt := 111) (off := 110) hx hb dX10_count_1 (by rw [e1_6]; decide) (by rw [e1_6]; decide) (by rw [e1_6]; rfl) (by decide) ?_
    refine lv_aload_n hx hb dX10_count_111 rfl (lv_at hl 0 rfl) ?_
    refine gf_X10_30 (v := .ref (ad 10)) hx hb hT hown hK hP 0 rfl rfl dX10_count_112 ?_
    refine gf_X10_99 (v := .ref (ad 20)) hx hb hT hown hK hP 8 rfl rfl dX10_count_115 ?_
    refine gf_X10_78 (v := .int (((S.1 0).1 4).1)) hx hb hT hown hK hP 18 rfl rfl dX10_count_118 ?_
    exact x_iretW (wf := (fun u => WC cs ad u)) hx hb hr hlk hK hP hD hS hm dX10_count_121
  rcases sw_c hm with ⟨e1_7, hm⟩ | ⟨e1_7, hm⟩
  · refine lv_tableIn (tgt := 122) (off := 121) hx hb dX10_count_1 (by rw [e1_7]; decide) (by rw [e1_7]; decide) (by rw [e1_7]; rfl) (by decide) ?_
    refine lv_aload_n hx hb dX10_count_122 rfl (lv_at hl 0 rfl) ?_
    refine gf_X10_48 (v := .ref (ad 90)) hx hb hT hown hK hP 0 rfl rfl dX10_count_123 ?_
    refine gf_X10_111 (v := .int ((S.2.1).2 1)) hx hb hT hown hK hP 56 rfl rfl dX10_count_126 ?_
    exact x_iretW (wf := (fun u => WC cs ad u)) hx hb hr hlk hK hP hD hS hm dX10_count_129
  refine lv_tableOut (tgt := 130) hx hb dX10_count_1 (sw_out_0_8 e1_0 e1_1 e1_2 e1_3 e1_4 e1_5 e1_6 e1_7) (by decide) ?_
  refine lv_aload_n hx hb dX10_count_130 rfl (lv_at hl 0 rfl) ?_
  refine xVW_i (As := []) (rest := []) (wr := []) (wg := (fun u => WC cs ad u)) hx hb hml hown hT hN hK hP hD hS hA cw_X10_70 hm (fun z h => tcX10_refuseBad l D cs ad H.size S z h) ⟨rfl, rfl⟩ ⟨by decide, by decide⟩ [0, 1, 2, 3, 4, 5, 6, 7, 8, 9, 10, 11, 12, 13, 14, 15, 16, 17, 18, 19, 20, 21, 22, 23, 24, 25, 26, 27, 28, 29, 30, 31, 32, 33, 34, 35, 36, 37, 38, 39, 40, 41, 42, 43, 44, 45, 46, 47, 48, 49, 50, 51, 52, 53, 54, 55, 56, 57, 58, 59, 60] [] [0, 1, 2, 3, 4, 5, 6, 7, 8, 9, 10, 11, 12, 13, 14, 15, 16, 17, 18, 19, 20, 21, 22, 23, 24, 25, 26, 27, 28, 29, 30, 31, 32, 33, 34, 35, 36, 37, 38, 39, 40, 41, 42, 43, 44, 45, 46, 47, 48, 49, 50, 51, 52, 53, 54, 55, 56, 57, 58, 59, 60] rfl (by decide) rfl (by decide) (by decide) (fun _ => rfl) (by decide) (b := (ad 0)) 0 rfl rfl rfl hl.1 rfl rfl (Nat.le_of_ble_eq_true rfl) dX10_count_131 ⟨Nat.zero_le _, Nat.zero_le _⟩ (fun r5 S4 H locs hm hP hD hS => ?_)
  exact x_iretW (wf := (fun u => WC cs ad u)) hx hb hr hlk hK hP hD hS hm dX10_count_134
noncomputable def mX10_digest_L33  : Nat → Int64 → Int32 → CT → Option (Int64 × CT) := fun n => Nat.rec (motive := fun _ => Int64 → Int32 → CT → Option (Int64 × CT)) (fun _ _ _ => none) (fun _ rc => fun y1 y3 S => (if (nI 4) < y3 then (mX7_digestFrom (nI 6) (nI 4) 24 ((S.1 0).1 0) y1).bind fun r1 => (mX7_digestFrom (nI 4) (nI 2) 8 ((S.1 0).1 1) r1).bind fun r2 => (mX7_digestFrom (nI 6) (nI 3) 18 ((S.1 0).1 2) r2).bind fun r3 => (mX7_digestFrom (nI 6) (nI 2) 12 ((S.1 0).1 3) r3).bind fun r4 => nm (((lN 31) * r4) + (S.2.2.2.2 8)) fun x5 => some ((((lN 31) * x5) + (S.2.2.2.2 9)), S) else (mX10_now S y3).bind fun ⟨r7, S6⟩ => nm (((lN 31) * y1) + r7.toInt64) fun x8 => nm (y3 + (nI 1)) fun x9 => rc x8 x9 S6)) n
theorem mX10_digest_L33_s  (n : Nat) (y1 : Int64) (y3 : Int32) (S : CT) : mX10_digest_L33  (n + 1) y1 y3 S = (if (nI 4) < y3 then (mX7_digestFrom (nI 6) (nI 4) 24 ((S.1 0).1 0) y1).bind fun r1 => (mX7_digestFrom (nI 4) (nI 2) 8 ((S.1 0).1 1) r1).bind fun r2 => (mX7_digestFrom (nI 6) (nI 3) 18 ((S.1 0).1 2) r2).bind fun r3 => (mX7_digestFrom (nI 6) (nI 2) 12 ((S.1 0).1 3) r3).bind fun r4 => nm (((lN 31) * r4) + (S.2.2.2.2 8)) fun x5 => some ((((lN 31) * x5) + (S.2.2.2.2 9)), S) else (mX10_now S y3).bind fun ⟨r7, S6⟩ => nm (((lN 31) * y1) + r7.toInt64) fun x8 => nm (y3 + (nI 1)) fun x9 => (mX10_digest_L33  n) x8 x9 S6) := rfl
noncomputable def mX10_digest_L6  : Nat → Int64 → Int32 → CT → Option (Int64 × CT) := fun n => Nat.rec (motive := fun _ => Int64 → Int32 → CT → Option (Int64 × CT)) (fun _ _ _ => none) (fun _ rc => fun y1 y3 S => (if (nI 7) < y3 then mX10_digest_L33 FU y1 (nI 0) S else (mX10_count S y3).bind fun ⟨r11, S10⟩ => nm (((lN 31) * y1) + r11.toInt64) fun x12 => nm (y3 + (nI 1)) fun x13 => rc x12 x13 S10)) n
theorem mX10_digest_L6_s  (n : Nat) (y1 : Int64) (y3 : Int32) (S : CT) : mX10_digest_L6  (n + 1) y1 y3 S = (if (nI 7) < y3 then mX10_digest_L33 FU y1 (nI 0) S else (mX10_count S y3).bind fun ⟨r11, S10⟩ => nm (((lN 31) * y1) + r11.toInt64) fun x12 => nm (y3 + (nI 1)) fun x13 => (mX10_digest_L6  n) x12 x13 S10) := rfl
noncomputable def mX10_digest (S : CT) : Option (Int64 × CT) := mX10_digest_L6 FU (lN 1283) (nI 0) S
set_option maxHeartbeats 4000000 in
set_option maxRecDepth 100000 in
theorem kX10_digest_L33 {p : Program} {l : Launch} {e : Env} {s : State} {m : MethodId} {below : List Frame} {meth : Method} {c : Code} {D : va_G} {cs : CS} {A : Nat → Prop}  {ad : Nat → Nat}  (E : EV p s m [.ref (ad 0)].toArray meth c cX10_digest 4 RX10 (some .long) D cs) (hA : ∀ q : Nat, s.heap.size ≤ q → A q) (z : Int64 × CT) : ∀ (n : Nat) (y1 : Int64) (y3 : Int32) (S : CT), mX10_digest_L33  n y1 y3 S = some z → ∀ (H : Heap) (locs : List Loc), va_P D classes (WC cs ad S) H → va_D A (WC cs ad S) → va_S A s.heap H locs → ∀ ls : Array Slot, lv_has ls 4 [(0, .ref (ad 0)), (1, .long y1), (3, .int y3)] → W p l e ({ frames := 4, cells := 0, slots := 0, locals := 87 }) s m [.ref (ad 0)].toArray below meth c H locs 0 0 (MQ below (QWl D cs A (fun u => WC cs ad u) z) [.ref (ad 0)].toArray s 0 0 A) (F0 m 33 ls []) := by
  obtain ⟨hx, hb, hr, hml, hown, hlk, hT, hN, hK⟩ := id E
  intro n
  induction n with
  | zero =>
    intro y1 y3 S hm
    exact nomatch (show (none : Option (Int64 × CT)) = some z from hm)
  | succ n ih =>
    intro y1 y3 S hm H locs hP hD hS ls hl
    rw [mX10_digest_L33_s] at hm
    refine lv_iload_n hx hb dX10_digest_33 rfl (lv_at hl 2 rfl) ?_
    refine lv_iconst (v := (nI 4)) hx hb dX10_digest_34 (by decide) ?_
    refine x_icmp_gt (tgt := 57) hx hb dX10_digest_35 (by decide) hm (fun hm => ?_) (fun hm => ?_)
    · refine lv_aload_n hx hb dX10_digest_57 rfl (lv_at hl 0 rfl) ?_
      refine gf_X10_30 (v := .ref (ad 10)) hx hb hT hown hK hP 0 rfl rfl dX10_digest_58 ?_
      refine gf_X10_74 (v := .ref (ad 12)) hx hb hT hown hK hP 8 rfl rfl dX10_digest_61 ?_
      refine lv_lload_n hx hb dX10_digest_64 rfl (lv_at hl 1 rfl) ?_
      refine xV_l (As := [.long y1]) (rest := []) hx hb hml hown hT hN hK (hP.sub (ws' := WR cs ad 12 (nI 6) (nI 4) 24 ((S.1 0).1 0)) [10, 11] rfl) cw_X10_282 hm (fun z h => tcX7_digestFrom l D cs ad 12 (nI 6) (nI 4) 24 ((S.1 0).1 0) y1 z h) ⟨rfl, rfl⟩ ⟨by decide, by decide⟩ (b := (ad 12)) 0 rfl rfl rfl hl.1 rfl rfl (Nat.le_of_ble_eq_true rfl) dX10_digest_65 ⟨Nat.zero_le _, Nat.zero_le _⟩ (fun r1 hm => ?_)
      refine lv_lstore_n (lv' := [(1, .long r1), (0, .ref (ad 0)), (3, .int y3)]) hx hb dX10_digest_68 rfl hl (by decide) rfl (fun ls hl => ?_)
      refine lv_aload_n hx hb dX10_digest_69 rfl (lv_at hl 1 rfl) ?_
      refine gf_X10_30 (v := .ref (ad 10)) hx hb hT hown hK hP 0 rfl rfl dX10_digest_70 ?_
      refine gf_X10_105 (v := .ref (ad 14)) hx hb hT hown hK hP 8 rfl rfl dX10_digest_73 ?_
      refine lv_lload_n hx hb dX10_digest_76 rfl (lv_at hl 0 rfl) ?_
      refine xV_l (As := [.long r1]) (rest := []) hx hb hml hown hT hN hK (hP.sub (ws' := WR cs ad 14 (nI 4) (nI 2) 8 ((S.1 0).1 1)) [12, 13] rfl) cw_X10_282 hm (fun z h => tcX7_digestFrom l D cs ad 14 (nI 4) (nI 2) 8 ((S.1 0).1 1) r1 z h) ⟨rfl, rfl⟩ ⟨by decide, by decide⟩ (b := (ad 14)) 0 rfl rfl rfl hl.1 rfl rfl (Nat.le_of_ble_eq_true rfl) dX10_digest_77 ⟨Nat.zero_le _, Nat.zero_le _⟩ (fun r2 hm => ?_)
      refine lv_lstore_n (lv' := [(1, .long r2), (0, .ref (ad 0)), (3, .int y3)]) hx hb dX10_digest_80 rfl hl (by decide) rfl (fun ls hl => ?_)
      refine lv_aload_n hx hb dX10_digest_81 rfl (lv_at hl 1 rfl) ?_
      refine gf_X10_30 (v := .ref (ad 10)) hx hb hT hown hK hP 0 rfl rfl dX10_digest_82 ?_
      refine gf_X10_212 (v := .ref (ad 16)) hx hb hT hown hK hP 8 rfl rfl dX10_digest_85 ?_
      refine lv_lload_n hx hb dX10_digest_88 rfl (lv_at hl 0 rfl) ?_
      refine xV_l (As := [.long r2]) (rest := []) hx hb hml hown hT hN hK (hP.sub (ws' := WR cs ad 16 (nI 6) (nI 3) 18 ((S.1 0).1 2)) [14, 15] rfl) cw_X10_282 hm (fun z h => tcX7_digestFrom l D cs ad 16 (nI 6) (nI 3) 18 ((S.1 0).1 2) r2 z h) ⟨rfl, rfl⟩ ⟨by decide, by decide⟩ (b := (ad 16)) 0 rfl rfl rfl hl.1 rfl rfl (Nat.le_of_ble_eq_true rfl) dX10_digest_89 ⟨Nat.zero_le _, Nat.zero_le _⟩ (fun r3 hm => ?_)
      refine lv_lstore_n (lv' := [(1, .long r3), (0, .ref (ad 0)), (3, .int y3)]) hx hb dX10_digest_92 rfl hl (by decide) rfl (fun ls hl => ?_)
      refine lv_aload_n hx hb dX10_digest_93 rfl (lv_at hl 1 rfl) ?_
      refine gf_X10_30 (v := .ref (ad 10)) hx hb hT hown hK hP 0 rfl rfl dX10_digest_94 ?_
      refine gf_X10_215 (v := .ref (ad 18)) hx hb hT hown hK hP 8 rfl rfl dX10_digest_97 ?_
      refine lv_lload_n hx hb dX10_digest_100 rfl (lv_at hl 0 rfl) ?_
      refine xV_l (As := [.long r3]) (rest := []) hx hb hml hown hT hN hK (hP.sub (ws' := WR cs ad 18 (nI 6) (nI 2) 12 ((S.1 0).1 3)) [16, 17] rfl) cw_X10_282 hm (fun z h => tcX7_digestFrom l D cs ad 18 (nI 6) (nI 2) 12 ((S.1 0).1 3) r3 z h) ⟨rfl, rfl⟩ ⟨by decide, by decide⟩ (b := (ad 18)) 0 rfl rfl rfl hl.1 rfl rfl (Nat.le_of_ble_eq_true rfl) dX10_digest_101 ⟨Nat.zero_le _, Nat.zero_le _⟩ (fun r4 hm => ?_)
      refine lv_lstore_n (lv' := [(1, .long r4), (0, .ref (ad 0)), (3, .int y3)]) hx hb dX10_digest_104 rfl hl (by decide) rfl (fun ls hl => ?_)
      refine lv_ldc2 hx hb hown (hT _ tw_804) dX10_digest_105 ?_
      refine lv_lload_n hx hb dX10_digest_108 rfl (lv_at hl 0 rfl) ?_
      refine lv_lmul hx hb dX10_digest_109 ?_
      refine lv_aload_n hx hb dX10_digest_110 rfl (lv_at hl 1 rfl) ?_
      refine gf_X10_59 (v := .long (S.2.2.2.2 8)) hx hb hT hown hK hP 0 rfl rfl dX10_digest_111 ?_
      refine lv_ladd hx hb dX10_digest_114 ?_
      refine xl_nm hm (fun x5 hm => ?_)
      refine lv_lstore_n (lv' := [(1, .long x5), (0, .ref (ad 0)), (3, .int y3)]) hx hb dX10_digest_115 rfl hl (by decide) rfl (fun ls hl => ?_)
      refine lv_ldc2 hx hb hown (hT _ tw_804) dX10_digest_116 ?_
      refine lv_lload_n hx hb dX10_digest_119 rfl (lv_at hl 0 rfl) ?_
      refine lv_lmul hx hb dX10_digest_120 ?_
      refine lv_aload_n hx hb dX10_digest_121 rfl (lv_at hl 1 rfl) ?_
      refine gf_X10_63 (v := .long (S.2.2.2.2 9)) hx hb hT hown hK hP 0 rfl rfl dX10_digest_122 ?_
      refine lv_ladd hx hb dX10_digest_125 ?_
      exact x_lretW (wf := (fun u => WC cs ad u)) hx hb hr hlk hK hP hD hS hm dX10_digest_126
    · refine lv_ldc2 hx hb hown (hT _ tw_804) dX10_digest_38 ?_
      refine lv_lload_n hx hb dX10_digest_41 rfl (lv_at hl 1 rfl) ?_
      refine lv_lmul hx hb dX10_digest_42 ?_
      refine lv_aload_n hx hb dX10_digest_43 rfl (lv_at hl 0 rfl) ?_
      refine lv_iload_n hx hb dX10_digest_44 rfl (lv_at hl 2 rfl) ?_
      refine xVW_i (As := [.int y3]) (rest := [.long ((lN 31) * y1)]) (wr := []) (wg := (fun u => WC cs ad u)) hx hb hml hown hT hN hK hP hD hS hA cw_X10_279 hm (fun z h => tcX10_now l D cs ad H.size S y3 z h) ⟨rfl, rfl⟩ ⟨by decide, by decide⟩ [0, 1, 2, 3, 4, 5, 6, 7, 8, 9, 10, 11, 12, 13, 14, 15, 16, 17, 18, 19, 20, 21, 22, 23, 24, 25, 26, 27, 28, 29, 30, 31, 32, 33, 34, 35, 36, 37, 38, 39, 40, 41, 42, 43, 44, 45, 46, 47, 48, 49, 50, 51, 52, 53, 54, 55, 56, 57, 58, 59, 60] [] [0, 1, 2, 3, 4, 5, 6, 7, 8, 9, 10, 11, 12, 13, 14, 15, 16, 17, 18, 19, 20, 21, 22, 23, 24, 25, 26, 27, 28, 29, 30, 31, 32, 33, 34, 35, 36, 37, 38, 39, 40, 41, 42, 43, 44, 45, 46, 47, 48, 49, 50, 51, 52, 53, 54, 55, 56, 57, 58, 59, 60] rfl (by decide) rfl (by decide) (by decide) (fun _ => rfl) (by decide) (b := (ad 0)) 0 rfl rfl rfl hl.1 rfl rfl (Nat.le_of_ble_eq_true rfl) dX10_digest_45 ⟨Nat.zero_le _, Nat.zero_le _⟩ (fun r7 S6 H locs hm hP hD hS => ?_)
      refine lv_i2l hx hb dX10_digest_48 rfl ?_
      refine lv_ladd hx hb dX10_digest_49 ?_
      refine xl_nm hm (fun x8 hm => ?_)
      refine lv_lstore_n (lv' := [(1, .long x8), (0, .ref (ad 0)), (3, .int y3)]) hx hb dX10_digest_50 rfl hl (by decide) rfl (fun ls hl => ?_)
      refine x_iinc (lv' := fun x9 => [(3, .int x9), (1, .long x8), (0, .ref (ad 0))]) hx hb dX10_digest_51 hl (k := 2) rfl (by decide) (v0 := (nI 1)) (by decide) (fun _ => rfl) hm (fun x9 ls hm hl => ?_)
      refine lv_goto (tgt := 33) hx hb dX10_digest_54 (by decide) ?_
      exact ih x8 x9 S6 hm H locs hP hD hS ls (lv_sub hl [2, 1, 0] rfl)
set_option maxHeartbeats 4000000 in
set_option maxRecDepth 100000 in
theorem kX10_digest_L6 {p : Program} {l : Launch} {e : Env} {s : State} {m : MethodId} {below : List Frame} {meth : Method} {c : Code} {D : va_G} {cs : CS} {A : Nat → Prop}  {ad : Nat → Nat}  (E : EV p s m [.ref (ad 0)].toArray meth c cX10_digest 4 RX10 (some .long) D cs) (hA : ∀ q : Nat, s.heap.size ≤ q → A q) (z : Int64 × CT) : ∀ (n : Nat) (y1 : Int64) (y3 : Int32) (S : CT), mX10_digest_L6  n y1 y3 S = some z → ∀ (H : Heap) (locs : List Loc), va_P D classes (WC cs ad S) H → va_D A (WC cs ad S) → va_S A s.heap H locs → ∀ ls : Array Slot, lv_has ls 4 [(0, .ref (ad 0)), (1, .long y1), (3, .int y3)] → W p l e ({ frames := 4, cells := 0, slots := 0, locals := 87 }) s m [.ref (ad 0)].toArray below meth c H locs 0 0 (MQ below (QWl D cs A (fun u => WC cs ad u) z) [.ref (ad 0)].toArray s 0 0 A) (F0 m 6 ls []) := by
  obtain ⟨hx, hb, hr, hml, hown, hlk, hT, hN, hK⟩ := id E
  intro n
  induction n with
  | zero =>
    intro y1 y3 S hm
    exact nomatch (show (none : Option (Int64 × CT)) = some z from hm)
  | succ n ih =>
    intro y1 y3 S hm H locs hP hD hS ls hl
    rw [mX10_digest_L6_s] at hm
    refine lv_iload_n hx hb dX10_digest_6 rfl (lv_at hl 2 rfl) ?_
    refine lv_bipush (v := (nI 7)) hx hb dX10_digest_7 (by decide) ?_
    refine x_icmp_gt (tgt := 31) hx hb dX10_digest_9 (by decide) hm (fun hm => ?_) (fun hm => ?_)
    · refine lv_iconst (v := (nI 0)) hx hb dX10_digest_31 (by decide) ?_
      refine lv_istore_n (lv' := [(3, .int (nI 0)), (0, .ref (ad 0)), (1, .long y1)]) hx hb dX10_digest_32 rfl hl (by decide) rfl (fun ls hl => ?_)
      exact kX10_digest_L33 E hA _ FU y1 (nI 0) S hm H locs hP hD hS ls (lv_sub hl [1, 2, 0] rfl)
    · refine lv_ldc2 hx hb hown (hT _ tw_804) dX10_digest_12 ?_
      refine lv_lload_n hx hb dX10_digest_15 rfl (lv_at hl 1 rfl) ?_
      refine lv_lmul hx hb dX10_digest_16 ?_
      refine lv_aload_n hx hb dX10_digest_17 rfl (lv_at hl 0 rfl) ?_
      refine lv_iload_n hx hb dX10_digest_18 rfl (lv_at hl 2 rfl) ?_
      refine xVW_i (As := [.int y3]) (rest := [.long ((lN 31) * y1)]) (wr := []) (wg := (fun u => WC cs ad u)) hx hb hml hown hT hN hK hP hD hS hA cw_X10_276 hm (fun z h => tcX10_count l D cs ad H.size S y3 z h) ⟨rfl, rfl⟩ ⟨by decide, by decide⟩ [0, 1, 2, 3, 4, 5, 6, 7, 8, 9, 10, 11, 12, 13, 14, 15, 16, 17, 18, 19, 20, 21, 22, 23, 24, 25, 26, 27, 28, 29, 30, 31, 32, 33, 34, 35, 36, 37, 38, 39, 40, 41, 42, 43, 44, 45, 46, 47, 48, 49, 50, 51, 52, 53, 54, 55, 56, 57, 58, 59, 60] [] [0, 1, 2, 3, 4, 5, 6, 7, 8, 9, 10, 11, 12, 13, 14, 15, 16, 17, 18, 19, 20, 21, 22, 23, 24, 25, 26, 27, 28, 29, 30, 31, 32, 33, 34, 35, 36, 37, 38, 39, 40, 41, 42, 43, 44, 45, 46, 47, 48, 49, 50, 51, 52, 53, 54, 55, 56, 57, 58, 59, 60] rfl (by decide) rfl (by decide) (by decide) (fun _ => rfl) (by decide) (b := (ad 0)) 0 rfl rfl rfl hl.1 rfl rfl (Nat.le_of_ble_eq_true rfl) dX10_digest_19 ⟨Nat.zero_le _, Nat.zero_le _⟩ (fun r11 S10 H locs hm hP hD hS => ?_)
      refine lv_i2l hx hb dX10_digest_22 rfl ?_
      refine lv_ladd hx hb dX10_digest_23 ?_
      refine xl_nm hm (fun x12 hm => ?_)
      refine lv_lstore_n (lv' := [(1, .long x12), (0, .ref (ad 0)), (3, .int y3)]) hx hb dX10_digest_24 rfl hl (by decide) rfl (fun ls hl => ?_)
      refine x_iinc (lv' := fun x13 => [(3, .int x13), (1, .long x12), (0, .ref (ad 0))]) hx hb dX10_digest_25 hl (k := 2) rfl (by decide) (v0 := (nI 1)) (by decide) (fun _ => rfl) hm (fun x13 ls hm hl => ?_)
      refine lv_goto (tgt := 6) hx hb dX10_digest_28 (by decide) ?_
      exact ih x12 x13 S10 hm H locs hP hD hS ls (lv_sub hl [2, 1, 0] rfl)
set_option maxHeartbeats 4000000 in
set_option maxRecDepth 100000 in
theorem tcX10_digest (l : Launch) (D : va_G) (cs : CS) (ad : Nat → Nat) (sz : Nat) (S : CT) (z : Int64 × CT) (hm : mX10_digest S = some z) : Met l yX10_digest (Cond.code yX10_digest cX10_digest 4 (some .long) :: gw_tbl) ({ frames := 4, cells := 0, slots := 0, locals := 87 }) (PcW D cs sz (WC cs ad S) [.ref (ad 0)]) (QWl D cs (va_A (WC cs ad S) sz) (fun u => WC cs ad u) z) 0 0 (va_A (WC cs ad S) sz) := by
  refine met_W rfl (Nat.le_of_ble_eq_true rfl) (fun p e s m below meth c E hP hD hS hA ls hl => ?_)
  generalize va_A (WC cs ad S) sz = A at hD hS hA ⊢
  obtain ⟨hx, hb, hr, hml, hown, hlk, hT, hN, hK⟩ := id E
  obtain ⟨H, hH⟩ : ∃ H, H = s.heap := ⟨_, rfl⟩
  obtain ⟨locs, hlo⟩ : ∃ L : List Loc, L = [] := ⟨_, rfl⟩
  have hP : va_P D classes (WC cs ad S) H := by rw [hH]; exact hP
  have hS : va_S A s.heap H locs := by rw [hH, hlo]; exact hS
  rw [show W p l e _ s m _ below meth c s.heap [] 0 0 = W p l e _ s m _ below meth c H locs 0 0 by rw [hH, hlo]]
  have hl : lv_has ls 4 [(0, .ref (ad 0))] := hl
  unfold mX10_digest at hm
  refine lv_ldc2 hx hb hown (hT _ tw_803) dX10_digest_0 ?_
  refine lv_lstore_n (lv' := [(1, .long (lN 1283)), (0, .ref (ad 0))]) hx hb dX10_digest_3 rfl hl (by decide) rfl (fun ls hl => ?_)
  refine lv_iconst (v := (nI 0)) hx hb dX10_digest_4 (by decide) ?_
  refine lv_istore_n (lv' := [(3, .int (nI 0)), (1, .long (lN 1283)), (0, .ref (ad 0))]) hx hb dX10_digest_5 rfl hl (by decide) rfl (fun ls hl => ?_)
  exact kX10_digest_L6 E hA _ FU (lN 1283) (nI 0) S hm H locs hP hD hS ls (lv_sub hl [2, 1, 0] rfl)
noncomputable def mX10_mayPlead (S : CT) (a1 : Int32) : Option Int32 := (mX10_isPleaded S a1).bind fun r1 => (if r1 = 0 then (mX10_supposed S).bind fun r2 => (mX3_allowed (S.1 0) a1 r2 ((S.1 0).2 9)).bind fun r3 => (if r3 = 0 then zo (nI 0) (some (nI 0)) else zo (nI 1) (some (nI 1))) else zo (nI 0) (some (nI 0)))
set_option maxHeartbeats 4000000 in
set_option maxRecDepth 100000 in
theorem tcX10_mayPlead (l : Launch) (D : va_G) (cs : CS) (ad : Nat → Nat) (S : CT) (a1 : Int32) (z : Int32) (hm : mX10_mayPlead S a1 = some z) : Met l yX10_mayPlead (Cond.code yX10_mayPlead cX10_mayPlead 2 (some .boolean) :: gw_tbl) ({ frames := 3, cells := 0, slots := 0, locals := 72 }) (PcR D cs (WC cs ad S) [.ref (ad 0), .int a1]) (QRi z) 0 0 NoF := by
  refine met_R rfl (Nat.le_of_ble_eq_true rfl) (fun p e s m below meth c E hP ls hl => ?_)
  obtain ⟨hx, hb, hr, hml, hown, hlk, hT, hN, hK⟩ := id E
  have hl : lv_has ls 2 [(0, .ref (ad 0)), (1, .int a1)] := hl
  unfold mX10_mayPlead at hm
  refine lv_aload_n hx hb dX10_mayPlead_0 rfl (lv_at hl 0 rfl) ?_
  refine lv_iload_n hx hb dX10_mayPlead_1 rfl (lv_at hl 1 rfl) ?_
  refine xV_i (As := [.int a1]) (rest := []) hx hb hml hown hT hN hK hP cw_X10_157 hm (fun z h => tcX10_isPleaded l D cs ad S a1 z h) ⟨rfl, rfl⟩ ⟨by decide, by decide⟩ (b := (ad 0)) 0 rfl rfl rfl hl.1 rfl rfl (Nat.le_of_ble_eq_true rfl) dX10_mayPlead_2 ⟨Nat.zero_le _, Nat.zero_le _⟩ (fun r1 hm => ?_)
  refine x_if_ne (tgt := 34) hx hb dX10_mayPlead_5 (by decide) hm (fun hm => ?_) (fun hm => ?_)
  · refine lv_iconst (v := (nI 0)) hx hb dX10_mayPlead_34 (by decide) ?_
    exact x_zretR hx hb hr hlk hm dX10_mayPlead_35
  · refine lv_aload_n hx hb dX10_mayPlead_8 rfl (lv_at hl 0 rfl) ?_
    refine gf_X10_30 (v := .ref (ad 10)) hx hb hT hown hK hP 0 rfl rfl dX10_mayPlead_9 ?_
    refine lv_iload_n hx hb dX10_mayPlead_12 rfl (lv_at hl 1 rfl) ?_
    refine lv_aload_n hx hb dX10_mayPlead_13 rfl (lv_at hl 0 rfl) ?_
    refine xV_i (As := []) (rest := [.int a1, .ref (ad 10)]) hx hb hml hown hT hN hK hP cw_X10_169 hm (fun z h => tcX10_supposed l D cs ad S z h) ⟨rfl, rfl⟩ ⟨by decide, by decide⟩ (b := (ad 0)) 0 rfl rfl rfl hl.1 rfl rfl (Nat.le_of_ble_eq_true rfl) dX10_mayPlead_14 ⟨Nat.zero_le _, Nat.zero_le _⟩ (fun r2 hm => ?_)
    refine lv_aload_n hx hb dX10_mayPlead_17 rfl (lv_at hl 0 rfl) ?_
    refine gf_X10_30 (v := .ref (ad 10)) hx hb hT hown hK hP 0 rfl rfl dX10_mayPlead_18 ?_
    refine gf_X10_144 (v := .int ((S.1 0).2 9)) hx hb hT hown hK hP 8 rfl rfl dX10_mayPlead_21 ?_
    refine xV_i (As := [.int a1, .int r2, .int ((S.1 0).2 9)]) (rest := []) hx hb hml hown hT hN hK (hP.sub (ws' := WT cs ad 10 (S.1 0)) [8, 9, 10, 11, 12, 13, 14, 15, 16, 17, 18, 19, 1, 2, 3, 4, 5, 6, 7] rfl) cw_X10_289 hm (fun z h => tcX3_allowed l D cs ad 10 (S.1 0) a1 r2 ((S.1 0).2 9) z h) ⟨rfl, rfl⟩ ⟨by decide, by decide⟩ (b := (ad 10)) 0 rfl rfl rfl hl.1 rfl rfl (Nat.le_of_ble_eq_true rfl) dX10_mayPlead_24 ⟨Nat.zero_le _, Nat.zero_le _⟩ (fun r3 hm => ?_)
    refine x_if_eq (tgt := 34) hx hb dX10_mayPlead_27 (by decide) hm (fun hm => ?_) (fun hm => ?_)
    · refine lv_iconst (v := (nI 0)) hx hb dX10_mayPlead_34 (by decide) ?_
      exact x_zretR hx hb hr hlk hm dX10_mayPlead_35
    · refine lv_iconst (v := (nI 1)) hx hb dX10_mayPlead_30 (by decide) ?_
      refine lv_goto (tgt := 35) hx hb dX10_mayPlead_31 (by decide) ?_
      exact x_zretR hx hb hr hlk hm dX10_mayPlead_35
noncomputable def mX10_plead (S : CT) (a1 : Int32) : Option (Int32 × CT) := (mX10_isFiction S a1).bind fun r1 => (if r1 = 0 then (mX10_refuseBad S).bind fun ⟨r12, S11⟩ => some (r12, S11) else (mX10_mayPlead S a1).bind fun r2 => (if r2 = 0 then (mX10_refuseNo S).bind fun ⟨r10, S9⟩ => some (r10, S9) else (mX3_ownCost (S.1 0) a1 ((S.1 0).2 9)).bind fun r3 => (mX3_keepForUndo (S.1 0)).bind fun u5 => nm (cM S 0 u5) fun S4 => nm (cM S4 0 (tI (S4.1 0) 8 (((S4.1 0).2 8) ||| ((nI 1) <<< (a1 &&& 31))))) fun S6 => nm (cM S6 0 (tI (S6.1 0) 10 (((S6.1 0).2 10) + r3))) fun S7 => nm (cM S7 0 (tI (S7.1 0) 9 (((S7.1 0).2 9) + (nI 1)))) fun S8 => some (r3, S8)))
set_option maxHeartbeats 4000000 in
set_option maxRecDepth 100000 in
theorem tcX10_plead (l : Launch) (D : va_G) (cs : CS) (ad : Nat → Nat) (sz : Nat) (S : CT) (a1 : Int32) (z : Int32 × CT) (hm : mX10_plead S a1 = some z) : Met l yX10_plead (Cond.code yX10_plead cX10_plead 3 (some .int) :: gw_tbl) ({ frames := 4, cells := 0, slots := 0, locals := 93 }) (PcW D cs sz (WC cs ad S) [.ref (ad 0), .int a1]) (QWi D cs (va_A (WC cs ad S) sz) (fun u => WC cs ad u) z) 0 0 (va_A (WC cs ad S) sz) := by
  refine met_W rfl (Nat.le_of_ble_eq_true rfl) (fun p e s m below meth c E hP hD hS hA ls hl => ?_)
  generalize va_A (WC cs ad S) sz = A at hD hS hA ⊢
  obtain ⟨hx, hb, hr, hml, hown, hlk, hT, hN, hK⟩ := id E
  obtain ⟨H, hH⟩ : ∃ H, H = s.heap := ⟨_, rfl⟩
  obtain ⟨locs, hlo⟩ : ∃ L : List Loc, L = [] := ⟨_, rfl⟩
  have hP : va_P D classes (WC cs ad S) H := by rw [hH]; exact hP
  have hS : va_S A s.heap H locs := by rw [hH, hlo]; exact hS
  rw [show W p l e _ s m _ below meth c s.heap [] 0 0 = W p l e _ s m _ below meth c H locs 0 0 by rw [hH, hlo]]
  have hl : lv_has ls 3 [(0, .ref (ad 0)), (1, .int a1)] := hl
  unfold mX10_plead at hm
  refine lv_aload_n hx hb dX10_plead_0 rfl (lv_at hl 0 rfl) ?_
  refine lv_iload_n hx hb dX10_plead_1 rfl (lv_at hl 1 rfl) ?_
  refine xV_i (As := [.int a1]) (rest := []) hx hb hml hown hT hN hK hP cw_X10_134 hm (fun z h => tcX10_isFiction l D cs ad S a1 z h) ⟨rfl, rfl⟩ ⟨by decide, by decide⟩ (b := (ad 0)) 0 rfl rfl rfl hl.1 rfl rfl (Nat.le_of_ble_eq_true rfl) dX10_plead_2 ⟨Nat.zero_le _, Nat.zero_le _⟩ (fun r1 hm => ?_)
  refine x_if_ne (tgt := 13) hx hb dX10_plead_5 (by decide) hm (fun hm => ?_) (fun hm => ?_)
  · refine lv_aload_n hx hb dX10_plead_13 rfl (lv_at hl 0 rfl) ?_
    refine lv_iload_n hx hb dX10_plead_14 rfl (lv_at hl 1 rfl) ?_
    refine xV_i (As := [.int a1]) (rest := []) hx hb hml hown hT hN hK hP cw_X10_138 hm (fun z h => tcX10_mayPlead l D cs ad S a1 z h) ⟨rfl, rfl⟩ ⟨by decide, by decide⟩ (b := (ad 0)) 0 rfl rfl rfl hl.1 rfl rfl (Nat.le_of_ble_eq_true rfl) dX10_plead_15 ⟨Nat.zero_le _, Nat.zero_le _⟩ (fun r2 hm => ?_)
    refine x_if_ne (tgt := 26) hx hb dX10_plead_18 (by decide) hm (fun hm => ?_) (fun hm => ?_)
    · refine lv_aload_n hx hb dX10_plead_26 rfl (lv_at hl 0 rfl) ?_
      refine gf_X10_30 (v := .ref (ad 10)) hx hb hT hown hK hP 0 rfl rfl dX10_plead_27 ?_
      refine lv_iload_n hx hb dX10_plead_30 rfl (lv_at hl 1 rfl) ?_
      refine lv_aload_n hx hb dX10_plead_31 rfl (lv_at hl 0 rfl) ?_
      refine gf_X10_30 (v := .ref (ad 10)) hx hb hT hown hK hP 0 rfl rfl dX10_plead_32 ?_
      refine gf_X10_144 (v := .int ((S.1 0).2 9)) hx hb hT hown hK hP 8 rfl rfl dX10_plead_35 ?_
      refine xV_i (As := [.int a1, .int ((S.1 0).2 9)]) (rest := []) hx hb hml hown hT hN hK (hP.sub (ws' := WT cs ad 10 (S.1 0)) [8, 9, 10, 11, 12, 13, 14, 15, 16, 17, 18, 19, 1, 2, 3, 4, 5, 6, 7] rfl) cw_X10_147 hm (fun z h => tcX3_ownCost l D cs ad 10 (S.1 0) a1 ((S.1 0).2 9) z h) ⟨rfl, rfl⟩ ⟨by decide, by decide⟩ (b := (ad 10)) 0 rfl rfl rfl hl.1 rfl rfl (Nat.le_of_ble_eq_true rfl) dX10_plead_38 ⟨Nat.zero_le _, Nat.zero_le _⟩ (fun r3 hm => ?_)
      refine lv_istore_n (lv' := [(2, .int r3), (0, .ref (ad 0)), (1, .int a1)]) hx hb dX10_plead_41 rfl hl (by decide) rfl (fun ls hl => ?_)
      refine lv_aload_n hx hb dX10_plead_42 rfl (lv_at hl 1 rfl) ?_
      refine gf_X10_30 (v := .ref (ad 10)) hx hb hT hown hK hP 0 rfl rfl dX10_plead_43 ?_
      refine xVW_v (As := []) (rest := []) (wr := [((ad 0), .inr (10, [.ref (ad 10), .ref (ad 30), .ref (ad 50), .ref (ad 70), .ref (ad 90), .ref (ad 95), .int (S.2.2.2.1 6), .int (S.2.2.2.1 7), .long (S.2.2.2.2 8), .long (S.2.2.2.2 9), .int (S.2.2.2.1 10), .int (S.2.2.2.1 11), .int (S.2.2.2.1 12)])), ((ad 30), .inr (3, [.ref (ad 1), .ref (ad 31), .ref (ad 32), .ref (ad 34), .ref (ad 36), .ref (ad 38), .ref (ad 40), .int ((S.1 1).2 7), .int ((S.1 1).2 8), .int ((S.1 1).2 9), .int ((S.1 1).2 10)])), ((ad 31), .inr (6, [])), ((ad 32), .inr (7, [.int (nI 6), .int (nI 4), .ref (ad 33), .int (((S.1 1).1 0).1)])), ((ad 33), .inl (cs 0, 24, .inl (((S.1 1).1 0).2))), ((ad 34), .inr (7, [.int (nI 4), .int (nI 2), .ref (ad 35), .int (((S.1 1).1 1).1)])), ((ad 35), .inl (cs 0, 8, .inl (((S.1 1).1 1).2))), ((ad 36), .inr (7, [.int (nI 6), .int (nI 3), .ref (ad 37), .int (((S.1 1).1 2).1)])), ((ad 37), .inl (cs 0, 18, .inl (((S.1 1).1 2).2))), ((ad 38), .inr (7, [.int (nI 6), .int (nI 2), .ref (ad 39), .int (((S.1 1).1 3).1)])), ((ad 39), .inl (cs 0, 12, .inl (((S.1 1).1 3).2))), ((ad 40), .inr (7, [.int (nI 8), .int (nI 3), .ref (ad 41), .int (((S.1 1).1 4).1)])), ((ad 41), .inl (cs 0, 24, .inl (((S.1 1).1 4).2))), ((ad 50), .inr (3, [.ref (ad 1), .ref (ad 51), .ref (ad 52), .ref (ad 54), .ref (ad 56), .ref (ad 58), .ref (ad 60), .int ((S.1 2).2 7), .int ((S.1 2).2 8), .int ((S.1 2).2 9), .int ((S.1 2).2 10)])), ((ad 51), .inr (6, [])), ((ad 52), .inr (7, [.int (nI 6), .int (nI 4), .ref (ad 53), .int (((S.1 2).1 0).1)])), ((ad 53), .inl (cs 0, 24, .inl (((S.1 2).1 0).2))), ((ad 54), .inr (7, [.int (nI 4), .int (nI 2), .ref (ad 55), .int (((S.1 2).1 1).1)])), ((ad 55), .inl (cs 0, 8, .inl (((S.1 2).1 1).2))), ((ad 56), .inr (7, [.int (nI 6), .int (nI 3), .ref (ad 57), .int (((S.1 2).1 2).1)])), ((ad 57), .inl (cs 0, 18, .inl (((S.1 2).1 2).2))), ((ad 58), .inr (7, [.int (nI 6), .int (nI 2), .ref (ad 59), .int (((S.1 2).1 3).1)])), ((ad 59), .inl (cs 0, 12, .inl (((S.1 2).1 3).2))), ((ad 60), .inr (7, [.int (nI 8), .int (nI 3), .ref (ad 61), .int (((S.1 2).1 4).1)])), ((ad 61), .inl (cs 0, 24, .inl (((S.1 2).1 4).2))), ((ad 70), .inr (3, [.ref (ad 1), .ref (ad 71), .ref (ad 72), .ref (ad 74), .ref (ad 76), .ref (ad 78), .ref (ad 80), .int ((S.1 3).2 7), .int ((S.1 3).2 8), .int ((S.1 3).2 9), .int ((S.1 3).2 10)])), ((ad 71), .inr (6, [])), ((ad 72), .inr (7, [.int (nI 6), .int (nI 4), .ref (ad 73), .int (((S.1 3).1 0).1)])), ((ad 73), .inl (cs 0, 24, .inl (((S.1 3).1 0).2))), ((ad 74), .inr (7, [.int (nI 4), .int (nI 2), .ref (ad 75), .int (((S.1 3).1 1).1)])), ((ad 75), .inl (cs 0, 8, .inl (((S.1 3).1 1).2))), ((ad 76), .inr (7, [.int (nI 6), .int (nI 3), .ref (ad 77), .int (((S.1 3).1 2).1)])), ((ad 77), .inl (cs 0, 18, .inl (((S.1 3).1 2).2))), ((ad 78), .inr (7, [.int (nI 6), .int (nI 2), .ref (ad 79), .int (((S.1 3).1 3).1)])), ((ad 79), .inl (cs 0, 12, .inl (((S.1 3).1 3).2))), ((ad 80), .inr (7, [.int (nI 8), .int (nI 3), .ref (ad 81), .int (((S.1 3).1 4).1)])), ((ad 81), .inl (cs 0, 24, .inl (((S.1 3).1 4).2))), ((ad 90), .inr (0, [.ref (ad 91), .int ((S.2.1).2 1), .int ((S.2.1).2 2), .int ((S.2.1).2 3), .int ((S.2.1).2 4), .int ((S.2.1).2 5), .int ((S.2.1).2 6), .int ((S.2.1).2 7), .int ((S.2.1).2 8), .int ((S.2.1).2 9), .int ((S.2.1).2 10), .int ((S.2.1).2 11)])), ((ad 91), .inl (cs 0, 150, .inl ((S.2.1).1))), ((ad 95), .inr (4, [.ref (ad 96), .ref (ad 97)])), ((ad 96), .inl (cs 0, 64, .inl ((S.2.2.1).1))), ((ad 97), .inl (cs 0, 64, .inl ((S.2.2.1).2)))]) (wg := fun u5 => WC cs ad (cM S 0 u5)) hx hb hml hown hT hN hK hP hD hS hA cw_X10_151 hm (fun z h => tcX3_keepForUndo l D cs ad 10 H.size (S.1 0) z h) ⟨rfl, rfl⟩ ⟨by decide, by decide⟩ [8, 9, 10, 11, 12, 13, 14, 15, 16, 17, 18, 19, 1, 2, 3, 4, 5, 6, 7] [0, 20, 21, 22, 23, 24, 25, 26, 27, 28, 29, 30, 31, 32, 33, 34, 35, 36, 37, 38, 39, 40, 41, 42, 43, 44, 45, 46, 47, 48, 49, 50, 51, 52, 53, 54, 55, 56, 57, 58, 59, 60] [0, 54, 55, 56, 57, 58, 59, 60, 42, 43, 44, 45, 46, 47, 48, 49, 50, 51, 52, 53, 1, 2, 3, 4, 5, 6, 7, 8, 9, 10, 11, 12, 13, 14, 15, 16, 17, 18, 19, 20, 21, 22, 23, 24, 25, 26, 27, 28, 29, 30, 31, 32, 33, 34, 35, 36, 37, 38, 39, 40, 41] rfl (by decide) rfl (by decide) (by decide) (fun _ => rfl) (by decide) (b := (ad 10)) 0 rfl rfl rfl hl.1 rfl rfl (Nat.le_of_ble_eq_true rfl) dX10_plead_46 ⟨Nat.zero_le _, Nat.zero_le _⟩ (fun u5 H locs hm hP hD hS => ?_)
      obtain ⟨S4, hm, eS4⟩ := nm_ex hm
      rw [← eS4] at hP hD
      refine lv_aload_n hx hb dX10_plead_49 rfl (lv_at hl 1 rfl) ?_
      refine gf_X10_30 (v := .ref (ad 10)) hx hb hT hown hK hP 0 rfl rfl dX10_plead_50 ?_
      refine lv_dup hx hb dX10_plead_53 rfl ?_
      refine gf_X10_122 (v := .int ((S4.1 0).2 8)) hx hb hT hown hK hP 8 rfl rfl dX10_plead_54 ?_
      refine lv_iconst (v := (nI 1)) hx hb dX10_plead_57 (by decide) ?_
      refine lv_iload_n hx hb dX10_plead_58 rfl (lv_at hl 2 rfl) ?_
      refine lv_ishl hx hb dX10_plead_59 ?_
      refine lv_ior hx hb dX10_plead_60 ?_
      refine pf_X10_122 (wf := (fun u => WC cs ad u)) (u0 := cM S4 0 (tI (S4.1 0) 8 (((S4.1 0).2 8) ||| ((nI 1) <<< (a1 &&& 31))))) hx hb hT hown hK hP hD hS 8 rfl (Nat.le_of_ble_eq_true rfl) rfl rfl rfl hm dX10_plead_61 (fun S6 H locs hm hP hD hS => ?_)
      refine lv_aload_n hx hb dX10_plead_64 rfl (lv_at hl 1 rfl) ?_
      refine gf_X10_30 (v := .ref (ad 10)) hx hb hT hown hK hP 0 rfl rfl dX10_plead_65 ?_
      refine lv_dup hx hb dX10_plead_68 rfl ?_
      refine gf_X10_154 (v := .int ((S6.1 0).2 10)) hx hb hT hown hK hP 8 rfl rfl dX10_plead_69 ?_
      refine lv_iload_n hx hb dX10_plead_72 rfl (lv_at hl 0 rfl) ?_
      refine lv_iadd hx hb dX10_plead_73 ?_
      refine pf_X10_154 (wf := (fun u => WC cs ad u)) (u0 := cM S6 0 (tI (S6.1 0) 10 (((S6.1 0).2 10) + r3))) hx hb hT hown hK hP hD hS 8 rfl (Nat.le_of_ble_eq_true rfl) rfl rfl rfl hm dX10_plead_74 (fun S7 H locs hm hP hD hS => ?_)
      refine lv_aload_n hx hb dX10_plead_77 rfl (lv_at hl 1 rfl) ?_
      refine gf_X10_30 (v := .ref (ad 10)) hx hb hT hown hK hP 0 rfl rfl dX10_plead_78 ?_
      refine lv_dup hx hb dX10_plead_81 rfl ?_
      refine gf_X10_144 (v := .int ((S7.1 0).2 9)) hx hb hT hown hK hP 8 rfl rfl dX10_plead_82 ?_
      refine lv_iconst (v := (nI 1)) hx hb dX10_plead_85 (by decide) ?_
      refine lv_iadd hx hb dX10_plead_86 ?_
      refine pf_X10_144 (wf := (fun u => WC cs ad u)) (u0 := cM S7 0 (tI (S7.1 0) 9 (((S7.1 0).2 9) + (nI 1)))) hx hb hT hown hK hP hD hS 8 rfl (Nat.le_of_ble_eq_true rfl) rfl rfl rfl hm dX10_plead_87 (fun S8 H locs hm hP hD hS => ?_)
      refine lv_iload_n hx hb dX10_plead_90 rfl (lv_at hl 0 rfl) ?_
      exact x_iretW (wf := (fun u => WC cs ad u)) hx hb hr hlk hK hP hD hS hm dX10_plead_91
    · refine lv_aload_n hx hb dX10_plead_21 rfl (lv_at hl 0 rfl) ?_
      refine xVW_i (As := []) (rest := []) (wr := []) (wg := (fun u => WC cs ad u)) hx hb hml hown hT hN hK hP hD hS hA cw_X10_141 hm (fun z h => tcX10_refuseNo l D cs ad H.size S z h) ⟨rfl, rfl⟩ ⟨by decide, by decide⟩ [0, 1, 2, 3, 4, 5, 6, 7, 8, 9, 10, 11, 12, 13, 14, 15, 16, 17, 18, 19, 20, 21, 22, 23, 24, 25, 26, 27, 28, 29, 30, 31, 32, 33, 34, 35, 36, 37, 38, 39, 40, 41, 42, 43, 44, 45, 46, 47, 48, 49, 50, 51, 52, 53, 54, 55, 56, 57, 58, 59, 60] [] [0, 1, 2, 3, 4, 5, 6, 7, 8, 9, 10, 11, 12, 13, 14, 15, 16, 17, 18, 19, 20, 21, 22, 23, 24, 25, 26, 27, 28, 29, 30, 31, 32, 33, 34, 35, 36, 37, 38, 39, 40, 41, 42, 43, 44, 45, 46, 47, 48, 49, 50, 51, 52, 53, 54, 55, 56, 57, 58, 59, 60] rfl (by decide) rfl (by decide) (by decide) (fun _ => rfl) (by decide) (b := (ad 0)) 0 rfl rfl rfl hl.1 rfl rfl (Nat.le_of_ble_eq_true rfl) dX10_plead_22 ⟨Nat.zero_le _, Nat.zero_le _⟩ (fun r10 S9 H locs hm hP hD hS => ?_)
      exact x_iretW (wf := (fun u => WC cs ad u)) hx hb hr hlk hK hP hD hS hm dX10_plead_25
  · refine lv_aload_n hx hb dX10_plead_8 rfl (lv_at hl 0 rfl) ?_
    refine xVW_i (As := []) (rest := []) (wr := []) (wg := (fun u => WC cs ad u)) hx hb hml hown hT hN hK hP hD hS hA cw_X10_70 hm (fun z h => tcX10_refuseBad l D cs ad H.size S z h) ⟨rfl, rfl⟩ ⟨by decide, by decide⟩ [0, 1, 2, 3, 4, 5, 6, 7, 8, 9, 10, 11, 12, 13, 14, 15, 16, 17, 18, 19, 20, 21, 22, 23, 24, 25, 26, 27, 28, 29, 30, 31, 32, 33, 34, 35, 36, 37, 38, 39, 40, 41, 42, 43, 44, 45, 46, 47, 48, 49, 50, 51, 52, 53, 54, 55, 56, 57, 58, 59, 60] [] [0, 1, 2, 3, 4, 5, 6, 7, 8, 9, 10, 11, 12, 13, 14, 15, 16, 17, 18, 19, 20, 21, 22, 23, 24, 25, 26, 27, 28, 29, 30, 31, 32, 33, 34, 35, 36, 37, 38, 39, 40, 41, 42, 43, 44, 45, 46, 47, 48, 49, 50, 51, 52, 53, 54, 55, 56, 57, 58, 59, 60] rfl (by decide) rfl (by decide) (by decide) (fun _ => rfl) (by decide) (b := (ad 0)) 0 rfl rfl rfl hl.1 rfl rfl (Nat.le_of_ble_eq_true rfl) dX10_plead_9 ⟨Nat.zero_le _, Nat.zero_le _⟩ (fun r12 S11 H locs hm hP hD hS => ?_)
    exact x_iretW (wf := (fun u => WC cs ad u)) hx hb hr hlk hK hP hD hS hm dX10_plead_12
noncomputable def mX10_of (S : CT) (a1 : Int32) (a2 : Int32) : Option (Int32 × CT) := (mX10_isFiction S a1).bind fun r1 => (if r1 = 0 then (mX10_refuseBad S).bind fun ⟨r3, S2⟩ => some (r3, S2) else (mX10_within a2 (nI 0) (nI 7)).bind fun r4 => (if r4 = 0 then (mX10_refuseBad S).bind fun ⟨r11, S10⟩ => some (r11, S10) else (if a2 = (nI 4) then (mX10_isPleaded S a1).bind fun r5 => (if r5 = 0 then some ((nI 0), S) else some ((nI 1), S)) else if a2 = (nI 5) then (mX10_mayPlead S a1).bind fun r6 => (if r6 = 0 then some ((nI 0), S) else some ((nI 1), S)) else if a2 = (nI 6) then (mX3_ownCost (S.1 0) a1 ((S.1 0).2 9)).bind fun r7 => some (r7, S) else if a2 = (nI 7) then (mX3_denialWins (S.1 0) a1).bind fun r8 => (if r8 = 0 then some ((nI 0), S) else some ((nI 1), S)) else (mX7_cell (nI 6) (nI 4) 24 ((S.1 0).1 0) a1 a2).bind fun r9 => some (r9, S))))
set_option maxHeartbeats 4000000 in
set_option maxRecDepth 100000 in
theorem tcX10_of (l : Launch) (D : va_G) (cs : CS) (ad : Nat → Nat) (sz : Nat) (S : CT) (a1 : Int32) (a2 : Int32) (z : Int32 × CT) (hm : mX10_of S a1 a2 = some z) : Met l yX10_of (Cond.code yX10_of cX10_of 3 (some .int) :: gw_tbl) ({ frames := 4, cells := 0, slots := 0, locals := 93 }) (PcW D cs sz (WC cs ad S) [.ref (ad 0), .int a1, .int a2]) (QWi D cs (va_A (WC cs ad S) sz) (fun u => WC cs ad u) z) 0 0 (va_A (WC cs ad S) sz) := by
  refine met_W rfl (Nat.le_of_ble_eq_true rfl) (fun p e s m below meth c E hP hD hS hA ls hl => ?_)
  generalize va_A (WC cs ad S) sz = A at hD hS hA ⊢
  obtain ⟨hx, hb, hr, hml, hown, hlk, hT, hN, hK⟩ := id E
  obtain ⟨H, hH⟩ : ∃ H, H = s.heap := ⟨_, rfl⟩
  obtain ⟨locs, hlo⟩ : ∃ L : List Loc, L = [] := ⟨_, rfl⟩
  have hP : va_P D classes (WC cs ad S) H := by rw [hH]; exact hP
  have hS : va_S A s.heap H locs := by rw [hH, hlo]; exact hS
  rw [show W p l e _ s m _ below meth c s.heap [] 0 0 = W p l e _ s m _ below meth c H locs 0 0 by rw [hH, hlo]]
  have hl : lv_has ls 3 [(0, .ref (ad 0)), (1, .int a1), (2, .int a2)] := hl
  unfold mX10_of at hm
  refine lv_aload_n hx hb dX10_of_0 rfl (lv_at hl 0 rfl) ?_
  refine lv_iload_n hx hb dX10_of_1 rfl (lv_at hl 1 rfl) ?_
  refine xV_i (As := [.int a1]) (rest := []) hx hb hml hown hT hN hK hP cw_X10_134 hm (fun z h => tcX10_isFiction l D cs ad S a1 z h) ⟨rfl, rfl⟩ ⟨by decide, by decide⟩ (b := (ad 0)) 0 rfl rfl rfl hl.1 rfl rfl (Nat.le_of_ble_eq_true rfl) dX10_of_2 ⟨Nat.zero_le _, Nat.zero_le _⟩ (fun r1 hm => ?_)
  refine x_if_eq (tgt := 18) hx hb dX10_of_5 (by decide) hm (fun hm => ?_) (fun hm => ?_)
  · refine lv_aload_n hx hb dX10_of_18 rfl (lv_at hl 0 rfl) ?_
    refine xVW_i (As := []) (rest := []) (wr := []) (wg := (fun u => WC cs ad u)) hx hb hml hown hT hN hK hP hD hS hA cw_X10_70 hm (fun z h => tcX10_refuseBad l D cs ad H.size S z h) ⟨rfl, rfl⟩ ⟨by decide, by decide⟩ [0, 1, 2, 3, 4, 5, 6, 7, 8, 9, 10, 11, 12, 13, 14, 15, 16, 17, 18, 19, 20, 21, 22, 23, 24, 25, 26, 27, 28, 29, 30, 31, 32, 33, 34, 35, 36, 37, 38, 39, 40, 41, 42, 43, 44, 45, 46, 47, 48, 49, 50, 51, 52, 53, 54, 55, 56, 57, 58, 59, 60] [] [0, 1, 2, 3, 4, 5, 6, 7, 8, 9, 10, 11, 12, 13, 14, 15, 16, 17, 18, 19, 20, 21, 22, 23, 24, 25, 26, 27, 28, 29, 30, 31, 32, 33, 34, 35, 36, 37, 38, 39, 40, 41, 42, 43, 44, 45, 46, 47, 48, 49, 50, 51, 52, 53, 54, 55, 56, 57, 58, 59, 60] rfl (by decide) rfl (by decide) (by decide) (fun _ => rfl) (by decide) (b := (ad 0)) 0 rfl rfl rfl hl.1 rfl rfl (Nat.le_of_ble_eq_true rfl) dX10_of_19 ⟨Nat.zero_le _, Nat.zero_le _⟩ (fun r3 S2 H locs hm hP hD hS => ?_)
    exact x_iretW (wf := (fun u => WC cs ad u)) hx hb hr hlk hK hP hD hS hm dX10_of_22
  · refine lv_iload_n hx hb dX10_of_8 rfl (lv_at hl 2 rfl) ?_
    refine lv_iconst (v := (nI 0)) hx hb dX10_of_9 (by decide) ?_
    refine lv_bipush (v := (nI 7)) hx hb dX10_of_10 (by decide) ?_
    refine xS_i (As := [.int a2, .int (nI 0), .int (nI 7)]) (rest := []) hx hb hml hown hT hN hK (hP.sub (ws' := []) [] rfl) cw_X10_66 hm (fun z h => tcX10_within l D cs a2 (nI 0) (nI 7) z h) ⟨rfl, rfl⟩ ⟨by decide, by decide⟩ hl.1 rfl rfl (Nat.le_of_ble_eq_true rfl) dX10_of_12 ⟨Nat.zero_le _, Nat.zero_le _⟩ (fun r4 hm => ?_)
    refine x_if_ne (tgt := 23) hx hb dX10_of_15 (by decide) hm (fun hm => ?_) (fun hm => ?_)
    · refine lv_iload_n hx hb dX10_of_23 rfl (lv_at hl 2 rfl) ?_
      rcases sw_c hm with ⟨e24_0, hm⟩ | ⟨e24_0, hm⟩
      · refine lv_tableIn (tgt := 56) (off := 32) hx hb dX10_of_24 (by rw [e24_0]; decide) (by rw [e24_0]; decide) (by rw [e24_0]; rfl) (by decide) ?_
        refine lv_aload_n hx hb dX10_of_56 rfl (lv_at hl 0 rfl) ?_
        refine lv_iload_n hx hb dX10_of_57 rfl (lv_at hl 1 rfl) ?_
        refine xV_i (As := [.int a1]) (rest := []) hx hb hml hown hT hN hK hP cw_X10_157 hm (fun z h => tcX10_isPleaded l D cs ad S a1 z h) ⟨rfl, rfl⟩ ⟨by decide, by decide⟩ (b := (ad 0)) 0 rfl rfl rfl hl.1 rfl rfl (Nat.le_of_ble_eq_true rfl) dX10_of_58 ⟨Nat.zero_le _, Nat.zero_le _⟩ (fun r5 hm => ?_)
        refine x_if_eq (tgt := 68) hx hb dX10_of_61 (by decide) hm (fun hm => ?_) (fun hm => ?_)
        · refine lv_iconst (v := (nI 0)) hx hb dX10_of_68 (by decide) ?_
          exact x_iretW (wf := (fun u => WC cs ad u)) hx hb hr hlk hK hP hD hS hm dX10_of_69
        · refine lv_iconst (v := (nI 1)) hx hb dX10_of_64 (by decide) ?_
          refine lv_goto (tgt := 69) hx hb dX10_of_65 (by decide) ?_
          exact x_iretW (wf := (fun u => WC cs ad u)) hx hb hr hlk hK hP hD hS hm dX10_of_69
      rcases sw_c hm with ⟨e24_1, hm⟩ | ⟨e24_1, hm⟩
      · refine lv_tableIn (tgt := 70) (off := 46) hx hb dX10_of_24 (by rw [e24_1]; decide) (by rw [e24_1]; decide) (by rw [e24_1]; rfl) (by decide) ?_
        refine lv_aload_n hx hb dX10_of_70 rfl (lv_at hl 0 rfl) ?_
        refine lv_iload_n hx hb dX10_of_71 rfl (lv_at hl 1 rfl) ?_
        refine xV_i (As := [.int a1]) (rest := []) hx hb hml hown hT hN hK hP cw_X10_138 hm (fun z h => tcX10_mayPlead l D cs ad S a1 z h) ⟨rfl, rfl⟩ ⟨by decide, by decide⟩ (b := (ad 0)) 0 rfl rfl rfl hl.1 rfl rfl (Nat.le_of_ble_eq_true rfl) dX10_of_72 ⟨Nat.zero_le _, Nat.zero_le _⟩ (fun r6 hm => ?_)
        refine x_if_eq (tgt := 82) hx hb dX10_of_75 (by decide) hm (fun hm => ?_) (fun hm => ?_)
        · refine lv_iconst (v := (nI 0)) hx hb dX10_of_82 (by decide) ?_
          exact x_iretW (wf := (fun u => WC cs ad u)) hx hb hr hlk hK hP hD hS hm dX10_of_83
        · refine lv_iconst (v := (nI 1)) hx hb dX10_of_78 (by decide) ?_
          refine lv_goto (tgt := 83) hx hb dX10_of_79 (by decide) ?_
          exact x_iretW (wf := (fun u => WC cs ad u)) hx hb hr hlk hK hP hD hS hm dX10_of_83
      rcases sw_c hm with ⟨e24_2, hm⟩ | ⟨e24_2, hm⟩
      · refine lv_tableIn (tgt := 84) (off := 60) hx hb dX10_of_24 (by rw [e24_2]; decide) (by rw [e24_2]; decide) (by rw [e24_2]; rfl) (by decide) ?_
        refine lv_aload_n hx hb dX10_of_84 rfl (lv_at hl 0 rfl) ?_
        refine gf_X10_30 (v := .ref (ad 10)) hx hb hT hown hK hP 0 rfl rfl dX10_of_85 ?_
        refine lv_iload_n hx hb dX10_of_88 rfl (lv_at hl 1 rfl) ?_
        refine lv_aload_n hx hb dX10_of_89 rfl (lv_at hl 0 rfl) ?_
        refine gf_X10_30 (v := .ref (ad 10)) hx hb hT hown hK hP 0 rfl rfl dX10_of_90 ?_
        refine gf_X10_144 (v := .int ((S.1 0).2 9)) hx hb hT hown hK hP 8 rfl rfl dX10_of_93 ?_
        refine xV_i (As := [.int a1, .int ((S.1 0).2 9)]) (rest := []) hx hb hml hown hT hN hK (hP.sub (ws' := WT cs ad 10 (S.1 0)) [8, 9, 10, 11, 12, 13, 14, 15, 16, 17, 18, 19, 1, 2, 3, 4, 5, 6, 7] rfl) cw_X10_147 hm (fun z h => tcX3_ownCost l D cs ad 10 (S.1 0) a1 ((S.1 0).2 9) z h) ⟨rfl, rfl⟩ ⟨by decide, by decide⟩ (b := (ad 10)) 0 rfl rfl rfl hl.1 rfl rfl (Nat.le_of_ble_eq_true rfl) dX10_of_96 ⟨Nat.zero_le _, Nat.zero_le _⟩ (fun r7 hm => ?_)
        exact x_iretW (wf := (fun u => WC cs ad u)) hx hb hr hlk hK hP hD hS hm dX10_of_99
      rcases sw_c hm with ⟨e24_3, hm⟩ | ⟨e24_3, hm⟩
      · refine lv_tableIn (tgt := 100) (off := 76) hx hb dX10_of_24 (by rw [e24_3]; decide) (by rw [e24_3]; decide) (by rw [e24_3]; rfl) (by decide) ?_
        refine lv_aload_n hx hb dX10_of_100 rfl (lv_at hl 0 rfl) ?_
        refine gf_X10_30 (v := .ref (ad 10)) hx hb hT hown hK hP 0 rfl rfl dX10_of_101 ?_
        refine lv_iload_n hx hb dX10_of_104 rfl (lv_at hl 1 rfl) ?_
        refine xV_i (As := [.int a1]) (rest := []) hx hb hml hown hT hN hK (hP.sub (ws' := WT cs ad 10 (S.1 0)) [8, 9, 10, 11, 12, 13, 14, 15, 16, 17, 18, 19, 1, 2, 3, 4, 5, 6, 7] rfl) cw_X10_160 hm (fun z h => tcX3_denialWins l D cs ad 10 (S.1 0) a1 z h) ⟨rfl, rfl⟩ ⟨by decide, by decide⟩ (b := (ad 10)) 0 rfl rfl rfl hl.1 rfl rfl (Nat.le_of_ble_eq_true rfl) dX10_of_105 ⟨Nat.zero_le _, Nat.zero_le _⟩ (fun r8 hm => ?_)
        refine x_if_eq (tgt := 115) hx hb dX10_of_108 (by decide) hm (fun hm => ?_) (fun hm => ?_)
        · refine lv_iconst (v := (nI 0)) hx hb dX10_of_115 (by decide) ?_
          exact x_iretW (wf := (fun u => WC cs ad u)) hx hb hr hlk hK hP hD hS hm dX10_of_116
        · refine lv_iconst (v := (nI 1)) hx hb dX10_of_111 (by decide) ?_
          refine lv_goto (tgt := 116) hx hb dX10_of_112 (by decide) ?_
          exact x_iretW (wf := (fun u => WC cs ad u)) hx hb hr hlk hK hP hD hS hm dX10_of_116
      refine lv_tableOut (tgt := 117) hx hb dX10_of_24 (sw_out_4_4 e24_0 e24_1 e24_2 e24_3) (by decide) ?_
      refine lv_aload_n hx hb dX10_of_117 rfl (lv_at hl 0 rfl) ?_
      refine gf_X10_30 (v := .ref (ad 10)) hx hb hT hown hK hP 0 rfl rfl dX10_of_118 ?_
      refine gf_X10_74 (v := .ref (ad 12)) hx hb hT hown hK hP 8 rfl rfl dX10_of_121 ?_
      refine lv_iload_n hx hb dX10_of_124 rfl (lv_at hl 1 rfl) ?_
      refine lv_iload_n hx hb dX10_of_125 rfl (lv_at hl 2 rfl) ?_
      refine xV_i (As := [.int a1, .int a2]) (rest := []) hx hb hml hown hT hN hK (hP.sub (ws' := WR cs ad 12 (nI 6) (nI 4) 24 ((S.1 0).1 0)) [10, 11] rfl) cw_X10_166 hm (fun z h => tcX7_cell l D cs ad 12 (nI 6) (nI 4) 24 ((S.1 0).1 0) a1 a2 z h) ⟨rfl, rfl⟩ ⟨by decide, by decide⟩ (b := (ad 12)) 0 rfl rfl rfl hl.1 rfl rfl (Nat.le_of_ble_eq_true rfl) dX10_of_126 ⟨Nat.zero_le _, Nat.zero_le _⟩ (fun r9 hm => ?_)
      exact x_iretW (wf := (fun u => WC cs ad u)) hx hb hr hlk hK hP hD hS hm dX10_of_129
    · refine lv_aload_n hx hb dX10_of_18 rfl (lv_at hl 0 rfl) ?_
      refine xVW_i (As := []) (rest := []) (wr := []) (wg := (fun u => WC cs ad u)) hx hb hml hown hT hN hK hP hD hS hA cw_X10_70 hm (fun z h => tcX10_refuseBad l D cs ad H.size S z h) ⟨rfl, rfl⟩ ⟨by decide, by decide⟩ [0, 1, 2, 3, 4, 5, 6, 7, 8, 9, 10, 11, 12, 13, 14, 15, 16, 17, 18, 19, 20, 21, 22, 23, 24, 25, 26, 27, 28, 29, 30, 31, 32, 33, 34, 35, 36, 37, 38, 39, 40, 41, 42, 43, 44, 45, 46, 47, 48, 49, 50, 51, 52, 53, 54, 55, 56, 57, 58, 59, 60] [] [0, 1, 2, 3, 4, 5, 6, 7, 8, 9, 10, 11, 12, 13, 14, 15, 16, 17, 18, 19, 20, 21, 22, 23, 24, 25, 26, 27, 28, 29, 30, 31, 32, 33, 34, 35, 36, 37, 38, 39, 40, 41, 42, 43, 44, 45, 46, 47, 48, 49, 50, 51, 52, 53, 54, 55, 56, 57, 58, 59, 60] rfl (by decide) rfl (by decide) (by decide) (fun _ => rfl) (by decide) (b := (ad 0)) 0 rfl rfl rfl hl.1 rfl rfl (Nat.le_of_ble_eq_true rfl) dX10_of_19 ⟨Nat.zero_le _, Nat.zero_le _⟩ (fun r11 S10 H locs hm hP hD hS => ?_)
      exact x_iretW (wf := (fun u => WC cs ad u)) hx hb hr hlk hK hP hD hS hm dX10_of_22
noncomputable def mX10_may_L4 (S : CT) : Nat → Int32 → Int32 → Option Int32 := fun n => Nat.rec (motive := fun _ => Int32 → Int32 → Option Int32) (fun _ _ => none) (fun _ rc => fun y1 y2 => (if (nI 6) ≤ y2 then some y1 else (mX10_isFiction S y2).bind fun r1 => (if r1 = 0 then nm (y2 + (nI 1)) fun x2 => rc y1 x2 else (mX10_mayPlead S y2).bind fun r3 => (if r3 = 0 then nm (y2 + (nI 1)) fun x4 => rc y1 x4 else nm (y1 ||| ((nI 1) <<< (y2 &&& 31))) fun x5 => nm (y2 + (nI 1)) fun x6 => rc x5 x6)))) n
theorem mX10_may_L4_s (S : CT) (n : Nat) (y1 : Int32) (y2 : Int32) : mX10_may_L4 S (n + 1) y1 y2 = (if (nI 6) ≤ y2 then some y1 else (mX10_isFiction S y2).bind fun r1 => (if r1 = 0 then nm (y2 + (nI 1)) fun x2 => (mX10_may_L4 S n) y1 x2 else (mX10_mayPlead S y2).bind fun r3 => (if r3 = 0 then nm (y2 + (nI 1)) fun x4 => (mX10_may_L4 S n) y1 x4 else nm (y1 ||| ((nI 1) <<< (y2 &&& 31))) fun x5 => nm (y2 + (nI 1)) fun x6 => (mX10_may_L4 S n) x5 x6))) := rfl
noncomputable def mX10_may (S : CT) : Option Int32 := mX10_may_L4 S FU (nI 0) (nI 0)
set_option maxHeartbeats 4000000 in
set_option maxRecDepth 100000 in
theorem kX10_may_L4 {p : Program} {l : Launch} {e : Env} {s : State} {m : MethodId} {below : List Frame} {meth : Method} {c : Code} {D : va_G} {cs : CS}  {ad : Nat → Nat} {S : CT}  (E : EV p s m [.ref (ad 0)].toArray meth c cX10_may 3 RX10 (some .int) D cs) (hP : va_P D classes (WC cs ad S) s.heap) (z : Int32) : ∀ (n : Nat) (y1 : Int32) (y2 : Int32), mX10_may_L4 S n y1 y2 = some z → ∀ ls : Array Slot, lv_has ls 3 [(0, .ref (ad 0)), (1, .int y1), (2, .int y2)] → W p l e ({ frames := 4, cells := 0, slots := 0, locals := 93 }) s m [.ref (ad 0)].toArray below meth c s.heap [] 0 0 (MQ below (QRi z) [.ref (ad 0)].toArray s 0 0 NoF) (F0 m 4 ls []) := by
  obtain ⟨hx, hb, hr, hml, hown, hlk, hT, hN, hK⟩ := id E
  intro n
  induction n with
  | zero =>
    intro y1 y2 hm
    exact nomatch (show (none : Option Int32) = some z from hm)
  | succ n ih =>
    intro y1 y2 hm ls hl
    rw [mX10_may_L4_s] at hm
    refine lv_iload_n hx hb dX10_may_4 rfl (lv_at hl 2 rfl) ?_
    refine lv_bipush (v := (nI 6)) hx hb dX10_may_5 (by decide) ?_
    refine x_icmp_ge (tgt := 38) hx hb dX10_may_7 (by decide) hm (fun hm => ?_) (fun hm => ?_)
    · refine lv_iload_n hx hb dX10_may_38 rfl (lv_at hl 1 rfl) ?_
      exact x_iretR hx hb hr hlk hm dX10_may_39
    · refine lv_aload_n hx hb dX10_may_10 rfl (lv_at hl 0 rfl) ?_
      refine lv_iload_n hx hb dX10_may_11 rfl (lv_at hl 2 rfl) ?_
      refine xV_i (As := [.int y2]) (rest := []) hx hb hml hown hT hN hK hP cw_X10_134 hm (fun z h => tcX10_isFiction l D cs ad S y2 z h) ⟨rfl, rfl⟩ ⟨by decide, by decide⟩ (b := (ad 0)) 0 rfl rfl rfl hl.1 rfl rfl (Nat.le_of_ble_eq_true rfl) dX10_may_12 ⟨Nat.zero_le _, Nat.zero_le _⟩ (fun r1 hm => ?_)
      refine x_if_eq (tgt := 32) hx hb dX10_may_15 (by decide) hm (fun hm => ?_) (fun hm => ?_)
      · refine x_iinc (lv' := fun x2 => [(2, .int x2), (0, .ref (ad 0)), (1, .int y1)]) hx hb dX10_may_32 hl (k := 2) rfl (by decide) (v0 := (nI 1)) (by decide) (fun _ => rfl) hm (fun x2 ls hm hl => ?_)
        refine lv_goto (tgt := 4) hx hb dX10_may_35 (by decide) ?_
        exact ih y1 x2 hm ls (lv_sub hl [1, 2, 0] rfl)
      · refine lv_aload_n hx hb dX10_may_18 rfl (lv_at hl 0 rfl) ?_
        refine lv_iload_n hx hb dX10_may_19 rfl (lv_at hl 2 rfl) ?_
        refine xV_i (As := [.int y2]) (rest := []) hx hb hml hown hT hN hK hP cw_X10_138 hm (fun z h => tcX10_mayPlead l D cs ad S y2 z h) ⟨rfl, rfl⟩ ⟨by decide, by decide⟩ (b := (ad 0)) 0 rfl rfl rfl hl.1 rfl rfl (Nat.le_of_ble_eq_true rfl) dX10_may_20 ⟨Nat.zero_le _, Nat.zero_le _⟩ (fun r3 hm => ?_)
        refine x_if_eq (tgt := 32) hx hb dX10_may_23 (by decide) hm (fun hm => ?_) (fun hm => ?_)
        · refine x_iinc (lv' := fun x4 => [(2, .int x4), (0, .ref (ad 0)), (1, .int y1)]) hx hb dX10_may_32 hl (k := 2) rfl (by decide) (v0 := (nI 1)) (by decide) (fun _ => rfl) hm (fun x4 ls hm hl => ?_)
          refine lv_goto (tgt := 4) hx hb dX10_may_35 (by decide) ?_
          exact ih y1 x4 hm ls (lv_sub hl [1, 2, 0] rfl)
        · refine lv_iload_n hx hb dX10_may_26 rfl (lv_at hl 1 rfl) ?_
          refine lv_iconst (v := (nI 1)) hx hb dX10_may_27 (by decide) ?_
          refine lv_iload_n hx hb dX10_may_28 rfl (lv_at hl 2 rfl) ?_
          refine lv_ishl hx hb dX10_may_29 ?_
          refine lv_ior hx hb dX10_may_30 ?_
          refine xi_nm hm (fun x5 hm => ?_)
          refine lv_istore_n (lv' := [(1, .int x5), (0, .ref (ad 0)), (2, .int y2)]) hx hb dX10_may_31 rfl hl (by decide) rfl (fun ls hl => ?_)
          refine x_iinc (lv' := fun x6 => [(2, .int x6), (1, .int x5), (0, .ref (ad 0))]) hx hb dX10_may_32 hl (k := 2) rfl (by decide) (v0 := (nI 1)) (by decide) (fun _ => rfl) hm (fun x6 ls hm hl => ?_)
          refine lv_goto (tgt := 4) hx hb dX10_may_35 (by decide) ?_
          exact ih x5 x6 hm ls (lv_sub hl [2, 1, 0] rfl)
set_option maxHeartbeats 4000000 in
set_option maxRecDepth 100000 in
theorem tcX10_may (l : Launch) (D : va_G) (cs : CS) (ad : Nat → Nat) (S : CT) (z : Int32) (hm : mX10_may S = some z) : Met l yX10_may (Cond.code yX10_may cX10_may 3 (some .int) :: gw_tbl) ({ frames := 4, cells := 0, slots := 0, locals := 93 }) (PcR D cs (WC cs ad S) [.ref (ad 0)]) (QRi z) 0 0 NoF := by
  refine met_R rfl (Nat.le_of_ble_eq_true rfl) (fun p e s m below meth c E hP ls hl => ?_)
  obtain ⟨hx, hb, hr, hml, hown, hlk, hT, hN, hK⟩ := id E
  have hl : lv_has ls 3 [(0, .ref (ad 0))] := hl
  unfold mX10_may at hm
  refine lv_iconst (v := (nI 0)) hx hb dX10_may_0 (by decide) ?_
  refine lv_istore_n (lv' := [(1, .int (nI 0)), (0, .ref (ad 0))]) hx hb dX10_may_1 rfl hl (by decide) rfl (fun ls hl => ?_)
  refine lv_iconst (v := (nI 0)) hx hb dX10_may_2 (by decide) ?_
  refine lv_istore_n (lv' := [(2, .int (nI 0)), (1, .int (nI 0)), (0, .ref (ad 0))]) hx hb dX10_may_3 rfl hl (by decide) rfl (fun ls hl => ?_)
  exact kX10_may_L4 E hP _ FU (nI 0) (nI 0) hm ls (lv_sub hl [2, 1, 0] rfl)
noncomputable def mX10_keepFraction (S : CT) (a1 : Int64) (a2 : Int64) : Option CT := (mX10_commonDivisor a1 a2).bind fun r1 => (if r1 ≤ (lN 0) then some S else nzl r1 <| nm (cL S 8 (a1 / r1)) fun S2 => nzl r1 <| nm (cL S2 9 (a2 / r1)) fun S3 => some S3)
set_option maxHeartbeats 4000000 in
set_option maxRecDepth 100000 in
theorem tcX10_keepFraction (l : Launch) (D : va_G) (cs : CS) (ad : Nat → Nat) (sz : Nat) (S : CT) (a1 : Int64) (a2 : Int64) (z : CT) (hm : mX10_keepFraction S a1 a2 = some z) : Met l yX10_keepFraction (Cond.code yX10_keepFraction cX10_keepFraction 7 none :: gw_tbl) ({ frames := 1, cells := 0, slots := 0, locals := 30 }) (PcW D cs sz (WC cs ad S) [.ref (ad 0), .long a1, .long a2]) (QWv D cs (va_A (WC cs ad S) sz) (fun u => WC cs ad u) z) 0 0 (va_A (WC cs ad S) sz) := by
  refine met_W rfl (Nat.le_of_ble_eq_true rfl) (fun p e s m below meth c E hP hD hS hA ls hl => ?_)
  generalize va_A (WC cs ad S) sz = A at hD hS hA ⊢
  obtain ⟨hx, hb, hr, hml, hown, hlk, hT, hN, hK⟩ := id E
  obtain ⟨H, hH⟩ : ∃ H, H = s.heap := ⟨_, rfl⟩
  obtain ⟨locs, hlo⟩ : ∃ L : List Loc, L = [] := ⟨_, rfl⟩
  have hP : va_P D classes (WC cs ad S) H := by rw [hH]; exact hP
  have hS : va_S A s.heap H locs := by rw [hH, hlo]; exact hS
  rw [show W p l e _ s m _ below meth c s.heap [] 0 0 = W p l e _ s m _ below meth c H locs 0 0 by rw [hH, hlo]]
  have hl : lv_has ls 7 [(0, .ref (ad 0)), (1, .long a1), (3, .long a2)] := hl
  unfold mX10_keepFraction at hm
  refine lv_lload_n hx hb dX10_keepFraction_0 rfl (lv_at hl 1 rfl) ?_
  refine lv_lload_n hx hb dX10_keepFraction_1 rfl (lv_at hl 2 rfl) ?_
  refine xS_l (As := [.long a1, .long a2]) (rest := []) hx hb hml hown hT hN hK (hP.sub (ws' := []) [] rfl) cw_X10_292 hm (fun z h => tcX10_commonDivisor l D cs a1 a2 z h) ⟨rfl, rfl⟩ ⟨by decide, by decide⟩ hl.1 rfl rfl (Nat.le_of_ble_eq_true rfl) dX10_keepFraction_2 ⟨Nat.zero_le _, Nat.zero_le _⟩ (fun r1 hm => ?_)
  refine lv_lstore (lv' := [(5, .long r1), (0, .ref (ad 0)), (1, .long a1), (3, .long a2)]) hx hb dX10_keepFraction_5 hl (by decide) rfl (fun ls hl => ?_)
  refine lv_lload hx hb dX10_keepFraction_7 (lv_at hl 0 rfl) ?_
  refine lv_lconst (v := (lN 0)) hx hb dX10_keepFraction_9 (by decide) ?_
  refine x_lcmp_le (tgt := 30) hx hb dX10_keepFraction_10 dX10_keepFraction_11 (by decide) hm (fun hm => ?_) (fun hm => ?_)
  · exact x_vretW (wf := (fun u => WC cs ad u)) hx hb hr hlk hK hP hD hS hm dX10_keepFraction_30
  · refine lv_aload_n hx hb dX10_keepFraction_14 rfl (lv_at hl 1 rfl) ?_
    refine lv_lload_n hx hb dX10_keepFraction_15 rfl (lv_at hl 2 rfl) ?_
    refine lv_lload hx hb dX10_keepFraction_16 (lv_at hl 0 rfl) ?_
    refine x_ldiv hx hb hm dX10_keepFraction_18 (fun hm => ?_)
    refine pf_X10_59 (wf := (fun u => WC cs ad u)) (u0 := cL S 8 (a1 / r1)) hx hb hT hown hK hP hD hS 0 rfl (Nat.le_of_ble_eq_true rfl) rfl rfl rfl hm dX10_keepFraction_19 (fun S2 H locs hm hP hD hS => ?_)
    refine lv_aload_n hx hb dX10_keepFraction_22 rfl (lv_at hl 1 rfl) ?_
    refine lv_lload_n hx hb dX10_keepFraction_23 rfl (lv_at hl 3 rfl) ?_
    refine lv_lload hx hb dX10_keepFraction_24 (lv_at hl 0 rfl) ?_
    refine x_ldiv hx hb hm dX10_keepFraction_26 (fun hm => ?_)
    refine pf_X10_63 (wf := (fun u => WC cs ad u)) (u0 := cL S2 9 (a2 / r1)) hx hb hT hown hK hP hD hS 0 rfl (Nat.le_of_ble_eq_true rfl) rfl rfl rfl hm dX10_keepFraction_27 (fun S3 H locs hm hP hD hS => ?_)
    exact x_vretW (wf := (fun u => WC cs ad u)) hx hb hr hlk hK hP hD hS hm dX10_keepFraction_30
noncomputable def mX10_odds_L43  : Nat → Int32 → Int32 → Int32 → Int32 → Int64 → Int32 → CT → Option (Int32 × CT) := fun n => Nat.rec (motive := fun _ => Int32 → Int32 → Int32 → Int32 → Int64 → Int32 → CT → Option (Int32 × CT)) (fun _ _ _ _ _ _ _ => none) (fun _ rc => fun y1 y2 y3 y4 y5 y7 S => (if (nI 64) ≤ y7 then (mX10_power (nI 10) y4).bind fun r7 => (mX10_keepFraction S y5 r7).bind fun S8 => some ((nI 1), S8) else (if (y7 &&& (y3 ^^^ (-1 : Int32))) = 0 then (mX3_factsWith (S.1 0) (((S.1 0).2 8) &&& (y7 ^^^ (-1 : Int32)))).bind fun r10 => (mX3_courtHears (S.1 0) y1 r10).bind fun r11 => (if r11 = 0 then nm (y7 + (nI 1)) fun x12 => rc y1 y2 y3 y4 y5 x12 S else (mJ6_bitCount_0f7a4 y7).bind fun r13 => (mX10_power y2 r13).bind fun r14 => (mX10_power ((nI 10) - y2) (y4 - r13)).bind fun r15 => nm (y5 + (r14 * r15)) fun x16 => nm (y7 + (nI 1)) fun x17 => rc y1 y2 y3 y4 x16 x17 S) else nm (y7 + (nI 1)) fun x9 => rc y1 y2 y3 y4 y5 x9 S))) n
theorem mX10_odds_L43_s  (n : Nat) (y1 : Int32) (y2 : Int32) (y3 : Int32) (y4 : Int32) (y5 : Int64) (y7 : Int32) (S : CT) : mX10_odds_L43  (n + 1) y1 y2 y3 y4 y5 y7 S = (if (nI 64) ≤ y7 then (mX10_power (nI 10) y4).bind fun r7 => (mX10_keepFraction S y5 r7).bind fun S8 => some ((nI 1), S8) else (if (y7 &&& (y3 ^^^ (-1 : Int32))) = 0 then (mX3_factsWith (S.1 0) (((S.1 0).2 8) &&& (y7 ^^^ (-1 : Int32)))).bind fun r10 => (mX3_courtHears (S.1 0) y1 r10).bind fun r11 => (if r11 = 0 then nm (y7 + (nI 1)) fun x12 => (mX10_odds_L43  n) y1 y2 y3 y4 y5 x12 S else (mJ6_bitCount_0f7a4 y7).bind fun r13 => (mX10_power y2 r13).bind fun r14 => (mX10_power ((nI 10) - y2) (y4 - r13)).bind fun r15 => nm (y5 + (r14 * r15)) fun x16 => nm (y7 + (nI 1)) fun x17 => (mX10_odds_L43  n) y1 y2 y3 y4 x16 x17 S) else nm (y7 + (nI 1)) fun x9 => (mX10_odds_L43  n) y1 y2 y3 y4 y5 x9 S)) := rfl
noncomputable def mX10_odds (S : CT) (a1 : Int32) (a2 : Int32) : Option (Int32 × CT) := (mX10_isCourt S a1).bind fun r1 => (if r1 = 0 then (mX10_refuseBad S).bind fun ⟨r3, S2⟩ => some (r3, S2) else (mX10_within a2 (nI 0) (nI 10)).bind fun r4 => (if r4 = 0 then (mX10_refuseBad S).bind fun ⟨r19, S18⟩ => some (r19, S18) else (mX3_pleadedThatLose (S.1 0)).bind fun r5 => (mJ6_bitCount_0f7a4 r5).bind fun r6 => mX10_odds_L43 FU a1 a2 r5 r6 (lN 0) (nI 0) S))
set_option maxHeartbeats 4000000 in
set_option maxRecDepth 100000 in
theorem kX10_odds_L43 {p : Program} {l : Launch} {e : Env} {s : State} {m : MethodId} {below : List Frame} {meth : Method} {c : Code} {D : va_G} {cs : CS} {A : Nat → Prop}  {ad : Nat → Nat} {a1 : Int32} {a2 : Int32} (E : EV p s m [.ref (ad 0), .int a1, .int a2].toArray meth c cX10_odds 9 RX10 (some .int) D cs) (hA : ∀ q : Nat, s.heap.size ≤ q → A q) (z : Int32 × CT) : ∀ (n : Nat) (y1 : Int32) (y2 : Int32) (y3 : Int32) (y4 : Int32) (y5 : Int64) (y7 : Int32) (S : CT), mX10_odds_L43  n y1 y2 y3 y4 y5 y7 S = some z → ∀ (H : Heap) (locs : List Loc), va_P D classes (WC cs ad S) H → va_D A (WC cs ad S) → va_S A s.heap H locs → ∀ ls : Array Slot, lv_has ls 9 [(0, .ref (ad 0)), (1, .int y1), (2, .int y2), (3, .int y3), (4, .int y4), (5, .long y5), (7, .int y7)] → W p l e ({ frames := 3, cells := 0, slots := 0, locals := 67 }) s m [.ref (ad 0), .int a1, .int a2].toArray below meth c H locs 0 0 (MQ below (QWi D cs A (fun u => WC cs ad u) z) [.ref (ad 0), .int a1, .int a2].toArray s 0 0 A) (F0 m 43 ls []) := by
  obtain ⟨hx, hb, hr, hml, hown, hlk, hT, hN, hK⟩ := id E
  intro n
  induction n with
  | zero =>
    intro y1 y2 y3 y4 y5 y7 S hm
    exact nomatch (show (none : Option (Int32 × CT)) = some z from hm)
  | succ n ih =>
    intro y1 y2 y3 y4 y5 y7 S hm H locs hP hD hS ls hl
    rw [mX10_odds_L43_s] at hm
    refine lv_iload hx hb dX10_odds_43 (lv_at hl 6 rfl) ?_
    refine lv_bipush (v := (nI 64)) hx hb dX10_odds_45 (by decide) ?_
    refine x_icmp_ge (tgt := 126) hx hb dX10_odds_47 (by decide) hm (fun hm => ?_) (fun hm => ?_)
    · refine lv_aload_n hx hb dX10_odds_126 rfl (lv_at hl 0 rfl) ?_
      refine lv_lload hx hb dX10_odds_127 (lv_at hl 5 rfl) ?_
      refine lv_bipush (v := (nI 10)) hx hb dX10_odds_129 (by decide) ?_
      refine lv_iload hx hb dX10_odds_131 (lv_at hl 4 rfl) ?_
      refine xS_l (As := [.int (nI 10), .int y4]) (rest := [.long y5, .ref (ad 0)]) hx hb hml hown hT hN hK (hP.sub (ws' := []) [] rfl) cw_X10_234 hm (fun z h => tcX10_power l D cs (nI 10) y4 z h) ⟨rfl, rfl⟩ ⟨by decide, by decide⟩ hl.1 rfl rfl (Nat.le_of_ble_eq_true rfl) dX10_odds_133 ⟨Nat.zero_le _, Nat.zero_le _⟩ (fun r7 hm => ?_)
      refine xVW_v (As := [.long y5, .long r7]) (rest := []) (wr := []) (wg := (fun u => WC cs ad u)) hx hb hml hown hT hN hK hP hD hS hA cw_X10_238 hm (fun z h => tcX10_keepFraction l D cs ad H.size S y5 r7 z h) ⟨rfl, rfl⟩ ⟨by decide, by decide⟩ [0, 1, 2, 3, 4, 5, 6, 7, 8, 9, 10, 11, 12, 13, 14, 15, 16, 17, 18, 19, 20, 21, 22, 23, 24, 25, 26, 27, 28, 29, 30, 31, 32, 33, 34, 35, 36, 37, 38, 39, 40, 41, 42, 43, 44, 45, 46, 47, 48, 49, 50, 51, 52, 53, 54, 55, 56, 57, 58, 59, 60] [] [0, 1, 2, 3, 4, 5, 6, 7, 8, 9, 10, 11, 12, 13, 14, 15, 16, 17, 18, 19, 20, 21, 22, 23, 24, 25, 26, 27, 28, 29, 30, 31, 32, 33, 34, 35, 36, 37, 38, 39, 40, 41, 42, 43, 44, 45, 46, 47, 48, 49, 50, 51, 52, 53, 54, 55, 56, 57, 58, 59, 60] rfl (by decide) rfl (by decide) (by decide) (fun _ => rfl) (by decide) (b := (ad 0)) 0 rfl rfl rfl hl.1 rfl rfl (Nat.le_of_ble_eq_true rfl) dX10_odds_136 ⟨Nat.zero_le _, Nat.zero_le _⟩ (fun S8 H locs hm hP hD hS => ?_)
      refine lv_iconst (v := (nI 1)) hx hb dX10_odds_139 (by decide) ?_
      exact x_iretW (wf := (fun u => WC cs ad u)) hx hb hr hlk hK hP hD hS hm dX10_odds_140
    · refine lv_iload hx hb dX10_odds_50 (lv_at hl 6 rfl) ?_
      refine lv_iload_n hx hb dX10_odds_52 rfl (lv_at hl 3 rfl) ?_
      refine lv_iconst (v := (-1 : Int32)) hx hb dX10_odds_53 (by decide) ?_
      refine lv_ixor hx hb dX10_odds_54 ?_
      refine lv_iand hx hb dX10_odds_55 ?_
      refine x_if_ne (tgt := 120) hx hb dX10_odds_56 (by decide) hm (fun hm => ?_) (fun hm => ?_)
      · refine x_iinc (lv' := fun x9 => [(7, .int x9), (0, .ref (ad 0)), (1, .int y1), (2, .int y2), (3, .int y3), (4, .int y4), (5, .long y5)]) hx hb dX10_odds_120 hl (k := 6) rfl (by decide) (v0 := (nI 1)) (by decide) (fun _ => rfl) hm (fun x9 ls hm hl => ?_)
        refine lv_goto (tgt := 43) hx hb dX10_odds_123 (by decide) ?_
        exact ih y1 y2 y3 y4 y5 x9 S hm H locs hP hD hS ls (lv_sub hl [1, 2, 3, 4, 5, 6, 0] rfl)
      · refine lv_aload_n hx hb dX10_odds_59 rfl (lv_at hl 0 rfl) ?_
        refine gf_X10_30 (v := .ref (ad 10)) hx hb hT hown hK hP 0 rfl rfl dX10_odds_60 ?_
        refine lv_iload_n hx hb dX10_odds_63 rfl (lv_at hl 1 rfl) ?_
        refine lv_aload_n hx hb dX10_odds_64 rfl (lv_at hl 0 rfl) ?_
        refine gf_X10_30 (v := .ref (ad 10)) hx hb hT hown hK hP 0 rfl rfl dX10_odds_65 ?_
        refine lv_aload_n hx hb dX10_odds_68 rfl (lv_at hl 0 rfl) ?_
        refine gf_X10_30 (v := .ref (ad 10)) hx hb hT hown hK hP 0 rfl rfl dX10_odds_69 ?_
        refine gf_X10_122 (v := .int ((S.1 0).2 8)) hx hb hT hown hK hP 8 rfl rfl dX10_odds_72 ?_
        refine lv_iload hx hb dX10_odds_75 (lv_at hl 6 rfl) ?_
        refine lv_iconst (v := (-1 : Int32)) hx hb dX10_odds_77 (by decide) ?_
        refine lv_ixor hx hb dX10_odds_78 ?_
        refine lv_iand hx hb dX10_odds_79 ?_
        refine xV_i (As := [.int (((S.1 0).2 8) &&& (y7 ^^^ (-1 : Int32)))]) (rest := [.int y1, .ref (ad 10)]) hx hb hml hown hT hN hK (hP.sub (ws' := WT cs ad 10 (S.1 0)) [8, 9, 10, 11, 12, 13, 14, 15, 16, 17, 18, 19, 1, 2, 3, 4, 5, 6, 7] rfl) cw_X10_199 hm (fun z h => tcX3_factsWith l D cs ad 10 (S.1 0) (((S.1 0).2 8) &&& (y7 ^^^ (-1 : Int32))) z h) ⟨rfl, rfl⟩ ⟨by decide, by decide⟩ (b := (ad 10)) 0 rfl rfl rfl hl.1 rfl rfl (Nat.le_of_ble_eq_true rfl) dX10_odds_80 ⟨Nat.zero_le _, Nat.zero_le _⟩ (fun r10 hm => ?_)
        refine xV_i (As := [.int y1, .int r10]) (rest := []) hx hb hml hown hT hN hK (hP.sub (ws' := WT cs ad 10 (S.1 0)) [8, 9, 10, 11, 12, 13, 14, 15, 16, 17, 18, 19, 1, 2, 3, 4, 5, 6, 7] rfl) cw_X10_231 hm (fun z h => tcX3_courtHears l D cs ad 10 (S.1 0) y1 r10 z h) ⟨rfl, rfl⟩ ⟨by decide, by decide⟩ (b := (ad 10)) 0 rfl rfl rfl hl.1 rfl rfl (Nat.le_of_ble_eq_true rfl) dX10_odds_83 ⟨Nat.zero_le _, Nat.zero_le _⟩ (fun r11 hm => ?_)
        refine x_if_eq (tgt := 120) hx hb dX10_odds_86 (by decide) hm (fun hm => ?_) (fun hm => ?_)
        · refine x_iinc (lv' := fun x12 => [(7, .int x12), (0, .ref (ad 0)), (1, .int y1), (2, .int y2), (3, .int y3), (4, .int y4), (5, .long y5)]) hx hb dX10_odds_120 hl (k := 6) rfl (by decide) (v0 := (nI 1)) (by decide) (fun _ => rfl) hm (fun x12 ls hm hl => ?_)
          refine lv_goto (tgt := 43) hx hb dX10_odds_123 (by decide) ?_
          exact ih y1 y2 y3 y4 y5 x12 S hm H locs hP hD hS ls (lv_sub hl [1, 2, 3, 4, 5, 6, 0] rfl)
        · refine lv_iload hx hb dX10_odds_89 (lv_at hl 6 rfl) ?_
          refine xS_i (As := [.int y7]) (rest := []) hx hb hml hown hT hN hK (hP.sub (ws' := []) [] rfl) cw_X10_125 hm (fun z h => tcJ6_bitCount_0f7a4 l D cs y7 z h) ⟨rfl, rfl⟩ ⟨by decide, by decide⟩ hl.1 rfl rfl (Nat.le_of_ble_eq_true rfl) dX10_odds_91 ⟨Nat.zero_le _, Nat.zero_le _⟩ (fun r13 hm => ?_)
          refine lv_istore (lv' := [(8, .int r13), (0, .ref (ad 0)), (1, .int y1), (2, .int y2), (3, .int y3), (4, .int y4), (5, .long y5), (7, .int y7)]) hx hb dX10_odds_94 hl (by decide) rfl (fun ls hl => ?_)
          refine lv_lload hx hb dX10_odds_96 (lv_at hl 6 rfl) ?_
          refine lv_iload_n hx hb dX10_odds_98 rfl (lv_at hl 3 rfl) ?_
          refine lv_iload hx hb dX10_odds_99 (lv_at hl 0 rfl) ?_
          refine xS_l (As := [.int y2, .int r13]) (rest := [.long y5]) hx hb hml hown hT hN hK (hP.sub (ws' := []) [] rfl) cw_X10_234 hm (fun z h => tcX10_power l D cs y2 r13 z h) ⟨rfl, rfl⟩ ⟨by decide, by decide⟩ hl.1 rfl rfl (Nat.le_of_ble_eq_true rfl) dX10_odds_101 ⟨Nat.zero_le _, Nat.zero_le _⟩ (fun r14 hm => ?_)
          refine lv_bipush (v := (nI 10)) hx hb dX10_odds_104 (by decide) ?_
          refine lv_iload_n hx hb dX10_odds_106 rfl (lv_at hl 3 rfl) ?_
          refine lv_isub hx hb dX10_odds_107 ?_
          refine lv_iload hx hb dX10_odds_108 (lv_at hl 5 rfl) ?_
          refine lv_iload hx hb dX10_odds_110 (lv_at hl 0 rfl) ?_
          refine lv_isub hx hb dX10_odds_112 ?_
          refine xS_l (As := [.int ((nI 10) - y2), .int (y4 - r13)]) (rest := [.long r14, .long y5]) hx hb hml hown hT hN hK (hP.sub (ws' := []) [] rfl) cw_X10_234 hm (fun z h => tcX10_power l D cs ((nI 10) - y2) (y4 - r13) z h) ⟨rfl, rfl⟩ ⟨by decide, by decide⟩ hl.1 rfl rfl (Nat.le_of_ble_eq_true rfl) dX10_odds_113 ⟨Nat.zero_le _, Nat.zero_le _⟩ (fun r15 hm => ?_)
          refine lv_lmul hx hb dX10_odds_116 ?_
          refine lv_ladd hx hb dX10_odds_117 ?_
          refine xl_nm hm (fun x16 hm => ?_)
          refine lv_lstore (lv' := [(5, .long x16), (8, .int r13), (0, .ref (ad 0)), (1, .int y1), (2, .int y2), (3, .int y3), (4, .int y4), (7, .int y7)]) hx hb dX10_odds_118 hl (by decide) rfl (fun ls hl => ?_)
          refine x_iinc (lv' := fun x17 => [(7, .int x17), (5, .long x16), (8, .int r13), (0, .ref (ad 0)), (1, .int y1), (2, .int y2), (3, .int y3), (4, .int y4)]) hx hb dX10_odds_120 hl (k := 7) rfl (by decide) (v0 := (nI 1)) (by decide) (fun _ => rfl) hm (fun x17 ls hm hl => ?_)
          refine lv_goto (tgt := 43) hx hb dX10_odds_123 (by decide) ?_
          exact ih y1 y2 y3 y4 x16 x17 S hm H locs hP hD hS ls (lv_sub hl [3, 4, 5, 6, 7, 1, 0] rfl)
set_option maxHeartbeats 4000000 in
set_option maxRecDepth 100000 in
theorem tcX10_odds (l : Launch) (D : va_G) (cs : CS) (ad : Nat → Nat) (sz : Nat) (S : CT) (a1 : Int32) (a2 : Int32) (z : Int32 × CT) (hm : mX10_odds S a1 a2 = some z) : Met l yX10_odds (Cond.code yX10_odds cX10_odds 9 (some .int) :: gw_tbl) ({ frames := 3, cells := 0, slots := 0, locals := 67 }) (PcW D cs sz (WC cs ad S) [.ref (ad 0), .int a1, .int a2]) (QWi D cs (va_A (WC cs ad S) sz) (fun u => WC cs ad u) z) 0 0 (va_A (WC cs ad S) sz) := by
  refine met_W rfl (Nat.le_of_ble_eq_true rfl) (fun p e s m below meth c E hP hD hS hA ls hl => ?_)
  generalize va_A (WC cs ad S) sz = A at hD hS hA ⊢
  obtain ⟨hx, hb, hr, hml, hown, hlk, hT, hN, hK⟩ := id E
  obtain ⟨H, hH⟩ : ∃ H, H = s.heap := ⟨_, rfl⟩
  obtain ⟨locs, hlo⟩ : ∃ L : List Loc, L = [] := ⟨_, rfl⟩
  have hP : va_P D classes (WC cs ad S) H := by rw [hH]; exact hP
  have hS : va_S A s.heap H locs := by rw [hH, hlo]; exact hS
  rw [show W p l e _ s m _ below meth c s.heap [] 0 0 = W p l e _ s m _ below meth c H locs 0 0 by rw [hH, hlo]]
  have hl : lv_has ls 9 [(0, .ref (ad 0)), (1, .int a1), (2, .int a2)] := hl
  unfold mX10_odds at hm
  refine lv_aload_n hx hb dX10_odds_0 rfl (lv_at hl 0 rfl) ?_
  refine lv_iload_n hx hb dX10_odds_1 rfl (lv_at hl 1 rfl) ?_
  refine xV_i (As := [.int a1]) (rest := []) hx hb hml hown hT hN hK hP cw_X10_178 hm (fun z h => tcX10_isCourt l D cs ad S a1 z h) ⟨rfl, rfl⟩ ⟨by decide, by decide⟩ (b := (ad 0)) 0 rfl rfl rfl hl.1 rfl rfl (Nat.le_of_ble_eq_true rfl) dX10_odds_2 ⟨Nat.zero_le _, Nat.zero_le _⟩ (fun r1 hm => ?_)
  refine x_if_eq (tgt := 18) hx hb dX10_odds_5 (by decide) hm (fun hm => ?_) (fun hm => ?_)
  · refine lv_aload_n hx hb dX10_odds_18 rfl (lv_at hl 0 rfl) ?_
    refine xVW_i (As := []) (rest := []) (wr := []) (wg := (fun u => WC cs ad u)) hx hb hml hown hT hN hK hP hD hS hA cw_X10_70 hm (fun z h => tcX10_refuseBad l D cs ad H.size S z h) ⟨rfl, rfl⟩ ⟨by decide, by decide⟩ [0, 1, 2, 3, 4, 5, 6, 7, 8, 9, 10, 11, 12, 13, 14, 15, 16, 17, 18, 19, 20, 21, 22, 23, 24, 25, 26, 27, 28, 29, 30, 31, 32, 33, 34, 35, 36, 37, 38, 39, 40, 41, 42, 43, 44, 45, 46, 47, 48, 49, 50, 51, 52, 53, 54, 55, 56, 57, 58, 59, 60] [] [0, 1, 2, 3, 4, 5, 6, 7, 8, 9, 10, 11, 12, 13, 14, 15, 16, 17, 18, 19, 20, 21, 22, 23, 24, 25, 26, 27, 28, 29, 30, 31, 32, 33, 34, 35, 36, 37, 38, 39, 40, 41, 42, 43, 44, 45, 46, 47, 48, 49, 50, 51, 52, 53, 54, 55, 56, 57, 58, 59, 60] rfl (by decide) rfl (by decide) (by decide) (fun _ => rfl) (by decide) (b := (ad 0)) 0 rfl rfl rfl hl.1 rfl rfl (Nat.le_of_ble_eq_true rfl) dX10_odds_19 ⟨Nat.zero_le _, Nat.zero_le _⟩ (fun r3 S2 H locs hm hP hD hS => ?_)
    exact x_iretW (wf := (fun u => WC cs ad u)) hx hb hr hlk hK hP hD hS hm dX10_odds_22
  · refine lv_iload_n hx hb dX10_odds_8 rfl (lv_at hl 2 rfl) ?_
    refine lv_iconst (v := (nI 0)) hx hb dX10_odds_9 (by decide) ?_
    refine lv_bipush (v := (nI 10)) hx hb dX10_odds_10 (by decide) ?_
    refine xS_i (As := [.int a2, .int (nI 0), .int (nI 10)]) (rest := []) hx hb hml hown hT hN hK (hP.sub (ws' := []) [] rfl) cw_X10_66 hm (fun z h => tcX10_within l D cs a2 (nI 0) (nI 10) z h) ⟨rfl, rfl⟩ ⟨by decide, by decide⟩ hl.1 rfl rfl (Nat.le_of_ble_eq_true rfl) dX10_odds_12 ⟨Nat.zero_le _, Nat.zero_le _⟩ (fun r4 hm => ?_)
    refine x_if_ne (tgt := 23) hx hb dX10_odds_15 (by decide) hm (fun hm => ?_) (fun hm => ?_)
    · refine lv_aload_n hx hb dX10_odds_23 rfl (lv_at hl 0 rfl) ?_
      refine gf_X10_30 (v := .ref (ad 10)) hx hb hT hown hK hP 0 rfl rfl dX10_odds_24 ?_
      refine xV_i (As := []) (rest := []) hx hb hml hown hT hN hK (hP.sub (ws' := WT cs ad 10 (S.1 0)) [8, 9, 10, 11, 12, 13, 14, 15, 16, 17, 18, 19, 1, 2, 3, 4, 5, 6, 7] rfl) cw_X10_228 hm (fun z h => tcX3_pleadedThatLose l D cs ad 10 (S.1 0) z h) ⟨rfl, rfl⟩ ⟨by decide, by decide⟩ (b := (ad 10)) 0 rfl rfl rfl hl.1 rfl rfl (Nat.le_of_ble_eq_true rfl) dX10_odds_27 ⟨Nat.zero_le _, Nat.zero_le _⟩ (fun r5 hm => ?_)
      refine lv_istore_n (lv' := [(3, .int r5), (0, .ref (ad 0)), (1, .int a1), (2, .int a2)]) hx hb dX10_odds_30 rfl hl (by decide) rfl (fun ls hl => ?_)
      refine lv_iload_n hx hb dX10_odds_31 rfl (lv_at hl 0 rfl) ?_
      refine xS_i (As := [.int r5]) (rest := []) hx hb hml hown hT hN hK (hP.sub (ws' := []) [] rfl) cw_X10_125 hm (fun z h => tcJ6_bitCount_0f7a4 l D cs r5 z h) ⟨rfl, rfl⟩ ⟨by decide, by decide⟩ hl.1 rfl rfl (Nat.le_of_ble_eq_true rfl) dX10_odds_32 ⟨Nat.zero_le _, Nat.zero_le _⟩ (fun r6 hm => ?_)
      refine lv_istore (lv' := [(4, .int r6), (3, .int r5), (0, .ref (ad 0)), (1, .int a1), (2, .int a2)]) hx hb dX10_odds_35 hl (by decide) rfl (fun ls hl => ?_)
      refine lv_lconst (v := (lN 0)) hx hb dX10_odds_37 (by decide) ?_
      refine lv_lstore (lv' := [(5, .long (lN 0)), (4, .int r6), (3, .int r5), (0, .ref (ad 0)), (1, .int a1), (2, .int a2)]) hx hb dX10_odds_38 hl (by decide) rfl (fun ls hl => ?_)
      refine lv_iconst (v := (nI 0)) hx hb dX10_odds_40 (by decide) ?_
      refine lv_istore (lv' := [(7, .int (nI 0)), (5, .long (lN 0)), (4, .int r6), (3, .int r5), (0, .ref (ad 0)), (1, .int a1), (2, .int a2)]) hx hb dX10_odds_41 hl (by decide) rfl (fun ls hl => ?_)
      exact kX10_odds_L43 E hA _ FU a1 a2 r5 r6 (lN 0) (nI 0) S hm H locs hP hD hS ls (lv_sub hl [4, 5, 6, 3, 2, 1, 0] rfl)
    · refine lv_aload_n hx hb dX10_odds_18 rfl (lv_at hl 0 rfl) ?_
      refine xVW_i (As := []) (rest := []) (wr := []) (wg := (fun u => WC cs ad u)) hx hb hml hown hT hN hK hP hD hS hA cw_X10_70 hm (fun z h => tcX10_refuseBad l D cs ad H.size S z h) ⟨rfl, rfl⟩ ⟨by decide, by decide⟩ [0, 1, 2, 3, 4, 5, 6, 7, 8, 9, 10, 11, 12, 13, 14, 15, 16, 17, 18, 19, 20, 21, 22, 23, 24, 25, 26, 27, 28, 29, 30, 31, 32, 33, 34, 35, 36, 37, 38, 39, 40, 41, 42, 43, 44, 45, 46, 47, 48, 49, 50, 51, 52, 53, 54, 55, 56, 57, 58, 59, 60] [] [0, 1, 2, 3, 4, 5, 6, 7, 8, 9, 10, 11, 12, 13, 14, 15, 16, 17, 18, 19, 20, 21, 22, 23, 24, 25, 26, 27, 28, 29, 30, 31, 32, 33, 34, 35, 36, 37, 38, 39, 40, 41, 42, 43, 44, 45, 46, 47, 48, 49, 50, 51, 52, 53, 54, 55, 56, 57, 58, 59, 60] rfl (by decide) rfl (by decide) (by decide) (fun _ => rfl) (by decide) (b := (ad 0)) 0 rfl rfl rfl hl.1 rfl rfl (Nat.le_of_ble_eq_true rfl) dX10_odds_19 ⟨Nat.zero_le _, Nat.zero_le _⟩ (fun r19 S18 H locs hm hP hD hS => ?_)
      exact x_iretW (wf := (fun u => WC cs ad u)) hx hb hr hlk hK hP hD hS hm dX10_odds_22
