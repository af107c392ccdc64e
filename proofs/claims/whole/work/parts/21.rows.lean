noncomputable def mJ6_bitCount_0f7a4 (a1 : Int32) : Option Int32 := nm (a1 - ((a1.toUInt32 >>> ((nI 1).toUInt32 &&& Int32.toUInt32 31)).toInt32 &&& (nI 1431655765))) fun x1 => nm ((x1 &&& (nI 858993459)) + ((x1.toUInt32 >>> ((nI 2).toUInt32 &&& Int32.toUInt32 31)).toInt32 &&& (nI 858993459))) fun x2 => nm ((x2 + (x2.toUInt32 >>> ((nI 4).toUInt32 &&& Int32.toUInt32 31)).toInt32) &&& (nI 252645135)) fun x3 => nm (x3 + (x3.toUInt32 >>> ((nI 8).toUInt32 &&& Int32.toUInt32 31)).toInt32) fun x4 => nm (x4 + (x4.toUInt32 >>> ((nI 16).toUInt32 &&& Int32.toUInt32 31)).toInt32) fun x5 => some (x5 &&& (nI 63))
set_option maxHeartbeats 4000000 in
set_option maxRecDepth 100000 in
theorem tcJ6_bitCount_0f7a4 (l : Launch) (D : va_G) (cs : CS) (a1 : Int32) (z : Int32) (hm : mJ6_bitCount_0f7a4 a1 = some z) : Met l yJ6_bitCount_0f7a4 (Cond.code yJ6_bitCount_0f7a4 cJ6_bitCount_0f7a4 1 (some .int) :: gw_tbl) ({ frames := 0, cells := 0, slots := 0, locals := 0 }) (PcR D cs ([]) [.int a1]) (QRi z) 0 0 NoF := by
  refine met_R rfl (Nat.le_of_ble_eq_true rfl) (fun p e s m below meth c E hP ls hl => ?_)
  obtain ⟨hx, hb, hr, hml, hown, hlk, hT, hN, hK⟩ := id E
  have hl : lv_has ls 1 [(0, .int a1)] := hl
  unfold mJ6_bitCount_0f7a4 at hm
  refine lv_iload_n hx hb dJ6_bitCount_0f7a4_0 rfl (lv_at hl 0 rfl) ?_
  refine lv_iload_n hx hb dJ6_bitCount_0f7a4_1 rfl (lv_at hl 0 rfl) ?_
  refine lv_iconst (v := (nI 1)) hx hb dJ6_bitCount_0f7a4_2 (by decide) ?_
  refine lv_iushr hx hb dJ6_bitCount_0f7a4_3 rfl ?_
  refine lv_ldcw hx hb hown (hT _ tw_443) dJ6_bitCount_0f7a4_4 ?_
  refine lv_iand hx hb dJ6_bitCount_0f7a4_7 ?_
  refine lv_isub hx hb dJ6_bitCount_0f7a4_8 ?_
  refine xi_nm hm (fun x1 hm => ?_)
  refine lv_istore_n (lv' := [(0, .int x1)]) hx hb dJ6_bitCount_0f7a4_9 rfl hl (by decide) rfl (fun ls hl => ?_)
  refine lv_iload_n hx hb dJ6_bitCount_0f7a4_10 rfl (lv_at hl 0 rfl) ?_
  refine lv_ldcw hx hb hown (hT _ tw_444) dJ6_bitCount_0f7a4_11 ?_
  refine lv_iand hx hb dJ6_bitCount_0f7a4_14 ?_
  refine lv_iload_n hx hb dJ6_bitCount_0f7a4_15 rfl (lv_at hl 0 rfl) ?_
  refine lv_iconst (v := (nI 2)) hx hb dJ6_bitCount_0f7a4_16 (by decide) ?_
  refine lv_iushr hx hb dJ6_bitCount_0f7a4_17 rfl ?_
  refine lv_ldcw hx hb hown (hT _ tw_444) dJ6_bitCount_0f7a4_18 ?_
  refine lv_iand hx hb dJ6_bitCount_0f7a4_21 ?_
  refine lv_iadd hx hb dJ6_bitCount_0f7a4_22 ?_
  refine xi_nm hm (fun x2 hm => ?_)
  refine lv_istore_n (lv' := [(0, .int x2)]) hx hb dJ6_bitCount_0f7a4_23 rfl hl (by decide) rfl (fun ls hl => ?_)
  refine lv_iload_n hx hb dJ6_bitCount_0f7a4_24 rfl (lv_at hl 0 rfl) ?_
  refine lv_iload_n hx hb dJ6_bitCount_0f7a4_25 rfl (lv_at hl 0 rfl) ?_
  refine lv_iconst (v := (nI 4)) hx hb dJ6_bitCount_0f7a4_26 (by decide) ?_
  refine lv_iushr hx hb dJ6_bitCount_0f7a4_27 rfl ?_
  refine lv_iadd hx hb dJ6_bitCount_0f7a4_28 ?_
  refine lv_ldcw hx hb hown (hT _ tw_445) dJ6_bitCount_0f7a4_29 ?_
  refine lv_iand hx hb dJ6_bitCount_0f7a4_32 ?_
  refine xi_nm hm (fun x3 hm => ?_)
  refine lv_istore_n (lv' := [(0, .int x3)]) hx hb dJ6_bitCount_0f7a4_33 rfl hl (by decide) rfl (fun ls hl => ?_)
  refine lv_iload_n hx hb dJ6_bitCount_0f7a4_34 rfl (lv_at hl 0 rfl) ?_
  refine lv_iload_n hx hb dJ6_bitCount_0f7a4_35 rfl (lv_at hl 0 rfl) ?_
  refine lv_bipush (v := (nI 8)) hx hb dJ6_bitCount_0f7a4_36 (by decide) ?_
  refine lv_iushr hx hb dJ6_bitCount_0f7a4_38 rfl ?_
  refine lv_iadd hx hb dJ6_bitCount_0f7a4_39 ?_
  refine xi_nm hm (fun x4 hm => ?_)
  refine lv_istore_n (lv' := [(0, .int x4)]) hx hb dJ6_bitCount_0f7a4_40 rfl hl (by decide) rfl (fun ls hl => ?_)
  refine lv_iload_n hx hb dJ6_bitCount_0f7a4_41 rfl (lv_at hl 0 rfl) ?_
  refine lv_iload_n hx hb dJ6_bitCount_0f7a4_42 rfl (lv_at hl 0 rfl) ?_
  refine lv_bipush (v := (nI 16)) hx hb dJ6_bitCount_0f7a4_43 (by decide) ?_
  refine lv_iushr hx hb dJ6_bitCount_0f7a4_45 rfl ?_
  refine lv_iadd hx hb dJ6_bitCount_0f7a4_46 ?_
  refine xi_nm hm (fun x5 hm => ?_)
  refine lv_istore_n (lv' := [(0, .int x5)]) hx hb dJ6_bitCount_0f7a4_47 rfl hl (by decide) rfl (fun ls hl => ?_)
  refine lv_iload_n hx hb dJ6_bitCount_0f7a4_48 rfl (lv_at hl 0 rfl) ?_
  refine lv_bipush (v := (nI 63)) hx hb dJ6_bitCount_0f7a4_49 (by decide) ?_
  refine lv_iand hx hb dJ6_bitCount_0f7a4_51 ?_
  exact x_iretR hx hb hr hlk hm dJ6_bitCount_0f7a4_52
noncomputable def mX10_within (a1 : Int32) (a2 : Int32) (a3 : Int32) : Option Int32 := (if a1 < a2 then zo (nI 0) (some (nI 0)) else (if a3 < a1 then zo (nI 0) (some (nI 0)) else zo (nI 1) (some (nI 1))))
set_option maxHeartbeats 4000000 in
set_option maxRecDepth 100000 in
theorem tcX10_within (l : Launch) (D : va_G) (cs : CS) (a1 : Int32) (a2 : Int32) (a3 : Int32) (z : Int32) (hm : mX10_within a1 a2 a3 = some z) : Met l yX10_within (Cond.code yX10_within cX10_within 3 (some .boolean) :: gw_tbl) ({ frames := 0, cells := 0, slots := 0, locals := 0 }) (PcR D cs ([]) [.int a1, .int a2, .int a3]) (QRi z) 0 0 NoF := by
  refine met_R rfl (Nat.le_of_ble_eq_true rfl) (fun p e s m below meth c E hP ls hl => ?_)
  obtain ⟨hx, hb, hr, hml, hown, hlk, hT, hN, hK⟩ := id E
  have hl : lv_has ls 3 [(0, .int a1), (1, .int a2), (2, .int a3)] := hl
  unfold mX10_within at hm
  refine lv_iload_n hx hb dX10_within_0 rfl (lv_at hl 0 rfl) ?_
  refine lv_iload_n hx hb dX10_within_1 rfl (lv_at hl 1 rfl) ?_
  refine x_icmp_lt (tgt := 14) hx hb dX10_within_2 (by decide) hm (fun hm => ?_) (fun hm => ?_)
  · refine lv_iconst (v := (nI 0)) hx hb dX10_within_14 (by decide) ?_
    exact x_zretR hx hb hr hlk hm dX10_within_15
  · refine lv_iload_n hx hb dX10_within_5 rfl (lv_at hl 0 rfl) ?_
    refine lv_iload_n hx hb dX10_within_6 rfl (lv_at hl 2 rfl) ?_
    refine x_icmp_gt (tgt := 14) hx hb dX10_within_7 (by decide) hm (fun hm => ?_) (fun hm => ?_)
    · refine lv_iconst (v := (nI 0)) hx hb dX10_within_14 (by decide) ?_
      exact x_zretR hx hb hr hlk hm dX10_within_15
    · refine lv_iconst (v := (nI 1)) hx hb dX10_within_10 (by decide) ?_
      refine lv_goto (tgt := 15) hx hb dX10_within_11 (by decide) ?_
      exact x_zretR hx hb hr hlk hm dX10_within_15
noncomputable def mX10_holds (a1 : Int32) (a2 : Int32) : Option Int32 := (if ((a1 >>> (a2 &&& 31)) &&& (nI 1)) = (nI 1) then zo (nI 1) (some (nI 1)) else zo (nI 0) (some (nI 0)))
set_option maxHeartbeats 4000000 in
set_option maxRecDepth 100000 in
theorem tcX10_holds (l : Launch) (D : va_G) (cs : CS) (a1 : Int32) (a2 : Int32) (z : Int32) (hm : mX10_holds a1 a2 = some z) : Met l yX10_holds (Cond.code yX10_holds cX10_holds 2 (some .boolean) :: gw_tbl) ({ frames := 0, cells := 0, slots := 0, locals := 0 }) (PcR D cs ([]) [.int a1, .int a2]) (QRi z) 0 0 NoF := by
  refine met_R rfl (Nat.le_of_ble_eq_true rfl) (fun p e s m below meth c E hP ls hl => ?_)
  obtain ⟨hx, hb, hr, hml, hown, hlk, hT, hN, hK⟩ := id E
  have hl : lv_has ls 2 [(0, .int a1), (1, .int a2)] := hl
  unfold mX10_holds at hm
  refine lv_iload_n hx hb dX10_holds_0 rfl (lv_at hl 0 rfl) ?_
  refine lv_iload_n hx hb dX10_holds_1 rfl (lv_at hl 1 rfl) ?_
  refine lv_ishr hx hb dX10_holds_2 ?_
  refine lv_iconst (v := (nI 1)) hx hb dX10_holds_3 (by decide) ?_
  refine lv_iand hx hb dX10_holds_4 ?_
  refine lv_iconst (v := (nI 1)) hx hb dX10_holds_5 (by decide) ?_
  refine x_icmp_ne (tgt := 13) hx hb dX10_holds_6 (by decide) hm (fun hm => ?_) (fun hm => ?_)
  · refine lv_iconst (v := (nI 0)) hx hb dX10_holds_13 (by decide) ?_
    exact x_zretR hx hb hr hlk hm dX10_holds_14
  · refine lv_iconst (v := (nI 1)) hx hb dX10_holds_9 (by decide) ?_
    refine lv_goto (tgt := 14) hx hb dX10_holds_10 (by decide) ?_
    exact x_zretR hx hb hr hlk hm dX10_holds_14
noncomputable def mX10_fewer (a1 : Int32) (a2 : Int32) : Option Int32 := (if a2 = (-1 : Int32) then zo (nI 1) (some (nI 1)) else (mJ6_bitCount_0f7a4 a1).bind fun r1 => (mJ6_bitCount_0f7a4 a2).bind fun r2 => (if r2 ≤ r1 then zo (nI 0) (some (nI 0)) else zo (nI 1) (some (nI 1))))
set_option maxHeartbeats 4000000 in
set_option maxRecDepth 100000 in
theorem tcX10_fewer (l : Launch) (D : va_G) (cs : CS) (a1 : Int32) (a2 : Int32) (z : Int32) (hm : mX10_fewer a1 a2 = some z) : Met l yX10_fewer (Cond.code yX10_fewer cX10_fewer 2 (some .boolean) :: gw_tbl) ({ frames := 1, cells := 0, slots := 0, locals := 20 }) (PcR D cs ([]) [.int a1, .int a2]) (QRi z) 0 0 NoF := by
  refine met_R rfl (Nat.le_of_ble_eq_true rfl) (fun p e s m below meth c E hP ls hl => ?_)
  obtain ⟨hx, hb, hr, hml, hown, hlk, hT, hN, hK⟩ := id E
  have hl : lv_has ls 2 [(0, .int a1), (1, .int a2)] := hl
  unfold mX10_fewer at hm
  refine lv_iload_n hx hb dX10_fewer_0 rfl (lv_at hl 1 rfl) ?_
  refine lv_iconst (v := (-1 : Int32)) hx hb dX10_fewer_1 (by decide) ?_
  refine x_icmp_eq (tgt := 16) hx hb dX10_fewer_2 (by decide) hm (fun hm => ?_) (fun hm => ?_)
  · refine lv_iconst (v := (nI 1)) hx hb dX10_fewer_16 (by decide) ?_
    refine lv_goto (tgt := 21) hx hb dX10_fewer_17 (by decide) ?_
    exact x_zretR hx hb hr hlk hm dX10_fewer_21
  · refine lv_iload_n hx hb dX10_fewer_5 rfl (lv_at hl 0 rfl) ?_
    refine xS_i (As := [.int a1]) (rest := []) hx hb hml hown hT hN hK hP cw_X10_125 hm (fun z h => tcJ6_bitCount_0f7a4 l D cs a1 z h) ⟨rfl, rfl⟩ ⟨by decide, by decide⟩ hl.1 rfl rfl (Nat.le_of_ble_eq_true rfl) dX10_fewer_6 ⟨Nat.zero_le _, Nat.zero_le _⟩ (fun r1 hm => ?_)
    refine lv_iload_n hx hb dX10_fewer_9 rfl (lv_at hl 1 rfl) ?_
    refine xS_i (As := [.int a2]) (rest := [.int r1]) hx hb hml hown hT hN hK hP cw_X10_125 hm (fun z h => tcJ6_bitCount_0f7a4 l D cs a2 z h) ⟨rfl, rfl⟩ ⟨by decide, by decide⟩ hl.1 rfl rfl (Nat.le_of_ble_eq_true rfl) dX10_fewer_10 ⟨Nat.zero_le _, Nat.zero_le _⟩ (fun r2 hm => ?_)
    refine x_icmp_ge (tgt := 20) hx hb dX10_fewer_13 (by decide) hm (fun hm => ?_) (fun hm => ?_)
    · refine lv_iconst (v := (nI 0)) hx hb dX10_fewer_20 (by decide) ?_
      exact x_zretR hx hb hr hlk hm dX10_fewer_21
    · refine lv_iconst (v := (nI 1)) hx hb dX10_fewer_16 (by decide) ?_
      refine lv_goto (tgt := 21) hx hb dX10_fewer_17 (by decide) ?_
      exact x_zretR hx hb hr hlk hm dX10_fewer_21
noncomputable def mX10_contradictIn (a1 : Int32) : Option Int32 := (if ((a1 &&& (a1 >>> ((nI 1) &&& 31))) &&& (nI 85)) = 0 then zo (nI 0) (some (nI 0)) else zo (nI 1) (some (nI 1)))
set_option maxHeartbeats 4000000 in
set_option maxRecDepth 100000 in
theorem tcX10_contradictIn (l : Launch) (D : va_G) (cs : CS) (a1 : Int32) (z : Int32) (hm : mX10_contradictIn a1 = some z) : Met l yX10_contradictIn (Cond.code yX10_contradictIn cX10_contradictIn 1 (some .boolean) :: gw_tbl) ({ frames := 0, cells := 0, slots := 0, locals := 0 }) (PcR D cs ([]) [.int a1]) (QRi z) 0 0 NoF := by
  refine met_R rfl (Nat.le_of_ble_eq_true rfl) (fun p e s m below meth c E hP ls hl => ?_)
  obtain ⟨hx, hb, hr, hml, hown, hlk, hT, hN, hK⟩ := id E
  have hl : lv_has ls 1 [(0, .int a1)] := hl
  unfold mX10_contradictIn at hm
  refine lv_iload_n hx hb dX10_contradictIn_0 rfl (lv_at hl 0 rfl) ?_
  refine lv_iload_n hx hb dX10_contradictIn_1 rfl (lv_at hl 0 rfl) ?_
  refine lv_iconst (v := (nI 1)) hx hb dX10_contradictIn_2 (by decide) ?_
  refine lv_ishr hx hb dX10_contradictIn_3 ?_
  refine lv_iand hx hb dX10_contradictIn_4 ?_
  refine lv_bipush (v := (nI 85)) hx hb dX10_contradictIn_5 (by decide) ?_
  refine lv_iand hx hb dX10_contradictIn_7 ?_
  refine x_if_eq (tgt := 15) hx hb dX10_contradictIn_8 (by decide) hm (fun hm => ?_) (fun hm => ?_)
  · refine lv_iconst (v := (nI 0)) hx hb dX10_contradictIn_15 (by decide) ?_
    exact x_zretR hx hb hr hlk hm dX10_contradictIn_16
  · refine lv_iconst (v := (nI 1)) hx hb dX10_contradictIn_11 (by decide) ?_
    refine lv_goto (tgt := 16) hx hb dX10_contradictIn_12 (by decide) ?_
    exact x_zretR hx hb hr hlk hm dX10_contradictIn_16
noncomputable def mX10_pairsIn_L4  : Nat → Int32 → Int32 → Int32 → Option Int32 := fun n => Nat.rec (motive := fun _ => Int32 → Int32 → Int32 → Option Int32) (fun _ _ _ => none) (fun _ rc => fun y0 y1 y2 => (if (nI 4) ≤ y2 then some y1 else (if ((y0 >>> (((nI 2) * y2) &&& 31)) &&& (nI 3)) = (nI 3) then nm (y1 ||| ((nI 1) <<< (y2 &&& 31))) fun x2 => nm (y2 + (nI 1)) fun x3 => rc y0 x2 x3 else nm (y2 + (nI 1)) fun x1 => rc y0 y1 x1))) n
theorem mX10_pairsIn_L4_s  (n : Nat) (y0 : Int32) (y1 : Int32) (y2 : Int32) : mX10_pairsIn_L4  (n + 1) y0 y1 y2 = (if (nI 4) ≤ y2 then some y1 else (if ((y0 >>> (((nI 2) * y2) &&& 31)) &&& (nI 3)) = (nI 3) then nm (y1 ||| ((nI 1) <<< (y2 &&& 31))) fun x2 => nm (y2 + (nI 1)) fun x3 => (mX10_pairsIn_L4  n) y0 x2 x3 else nm (y2 + (nI 1)) fun x1 => (mX10_pairsIn_L4  n) y0 y1 x1)) := rfl
noncomputable def mX10_pairsIn (a1 : Int32) : Option Int32 := mX10_pairsIn_L4 FU a1 (nI 0) (nI 0)
set_option maxHeartbeats 4000000 in
set_option maxRecDepth 100000 in
theorem kX10_pairsIn_L4 {p : Program} {l : Launch} {e : Env} {s : State} {m : MethodId} {below : List Frame} {meth : Method} {c : Code} {D : va_G} {cs : CS}   {a1 : Int32} (E : EV p s m [.int a1].toArray meth c cX10_pairsIn 3 RX10 (some .int) D cs) (hP : va_P D classes ([]) s.heap) (z : Int32) : ∀ (n : Nat) (y0 : Int32) (y1 : Int32) (y2 : Int32), mX10_pairsIn_L4  n y0 y1 y2 = some z → ∀ ls : Array Slot, lv_has ls 3 [(0, .int y0), (1, .int y1), (2, .int y2)] → W p l e ({ frames := 0, cells := 0, slots := 0, locals := 0 }) s m [.int a1].toArray below meth c s.heap [] 0 0 (MQ below (QRi z) [.int a1].toArray s 0 0 NoF) (F0 m 4 ls []) := by
  obtain ⟨hx, hb, hr, hml, hown, hlk, hT, hN, hK⟩ := id E
  intro n
  induction n with
  | zero =>
    intro y0 y1 y2 hm
    exact nomatch (show (none : Option Int32) = some z from hm)
  | succ n ih =>
    intro y0 y1 y2 hm ls hl
    rw [mX10_pairsIn_L4_s] at hm
    refine lv_iload_n hx hb dX10_pairsIn_4 rfl (lv_at hl 2 rfl) ?_
    refine lv_iconst (v := (nI 4)) hx hb dX10_pairsIn_5 (by decide) ?_
    refine x_icmp_ge (tgt := 32) hx hb dX10_pairsIn_6 (by decide) hm (fun hm => ?_) (fun hm => ?_)
    · refine lv_iload_n hx hb dX10_pairsIn_32 rfl (lv_at hl 1 rfl) ?_
      exact x_iretR hx hb hr hlk hm dX10_pairsIn_33
    · refine lv_iload_n hx hb dX10_pairsIn_9 rfl (lv_at hl 0 rfl) ?_
      refine lv_iconst (v := (nI 2)) hx hb dX10_pairsIn_10 (by decide) ?_
      refine lv_iload_n hx hb dX10_pairsIn_11 rfl (lv_at hl 2 rfl) ?_
      refine lv_imul hx hb dX10_pairsIn_12 ?_
      refine lv_ishr hx hb dX10_pairsIn_13 ?_
      refine lv_iconst (v := (nI 3)) hx hb dX10_pairsIn_14 (by decide) ?_
      refine lv_iand hx hb dX10_pairsIn_15 ?_
      refine lv_iconst (v := (nI 3)) hx hb dX10_pairsIn_16 (by decide) ?_
      refine x_icmp_ne (tgt := 26) hx hb dX10_pairsIn_17 (by decide) hm (fun hm => ?_) (fun hm => ?_)
      · refine x_iinc (lv' := fun x1 => [(2, .int x1), (0, .int y0), (1, .int y1)]) hx hb dX10_pairsIn_26 hl (k := 2) rfl (by decide) (v0 := (nI 1)) (by decide) (fun _ => rfl) hm (fun x1 ls hm hl => ?_)
        refine lv_goto (tgt := 4) hx hb dX10_pairsIn_29 (by decide) ?_
        exact ih y0 y1 x1 hm ls (lv_sub hl [1, 2, 0] rfl)
      · refine lv_iload_n hx hb dX10_pairsIn_20 rfl (lv_at hl 1 rfl) ?_
        refine lv_iconst (v := (nI 1)) hx hb dX10_pairsIn_21 (by decide) ?_
        refine lv_iload_n hx hb dX10_pairsIn_22 rfl (lv_at hl 2 rfl) ?_
        refine lv_ishl hx hb dX10_pairsIn_23 ?_
        refine lv_ior hx hb dX10_pairsIn_24 ?_
        refine xi_nm hm (fun x2 hm => ?_)
        refine lv_istore_n (lv' := [(1, .int x2), (0, .int y0), (2, .int y2)]) hx hb dX10_pairsIn_25 rfl hl (by decide) rfl (fun ls hl => ?_)
        refine x_iinc (lv' := fun x3 => [(2, .int x3), (1, .int x2), (0, .int y0)]) hx hb dX10_pairsIn_26 hl (k := 2) rfl (by decide) (v0 := (nI 1)) (by decide) (fun _ => rfl) hm (fun x3 ls hm hl => ?_)
        refine lv_goto (tgt := 4) hx hb dX10_pairsIn_29 (by decide) ?_
        exact ih y0 x2 x3 hm ls (lv_sub hl [2, 1, 0] rfl)
set_option maxHeartbeats 4000000 in
set_option maxRecDepth 100000 in
theorem tcX10_pairsIn (l : Launch) (D : va_G) (cs : CS) (a1 : Int32) (z : Int32) (hm : mX10_pairsIn a1 = some z) : Met l yX10_pairsIn (Cond.code yX10_pairsIn cX10_pairsIn 3 (some .int) :: gw_tbl) ({ frames := 0, cells := 0, slots := 0, locals := 0 }) (PcR D cs ([]) [.int a1]) (QRi z) 0 0 NoF := by
  refine met_R rfl (Nat.le_of_ble_eq_true rfl) (fun p e s m below meth c E hP ls hl => ?_)
  obtain ⟨hx, hb, hr, hml, hown, hlk, hT, hN, hK⟩ := id E
  have hl : lv_has ls 3 [(0, .int a1)] := hl
  unfold mX10_pairsIn at hm
  refine lv_iconst (v := (nI 0)) hx hb dX10_pairsIn_0 (by decide) ?_
  refine lv_istore_n (lv' := [(1, .int (nI 0)), (0, .int a1)]) hx hb dX10_pairsIn_1 rfl hl (by decide) rfl (fun ls hl => ?_)
  refine lv_iconst (v := (nI 0)) hx hb dX10_pairsIn_2 (by decide) ?_
  refine lv_istore_n (lv' := [(2, .int (nI 0)), (1, .int (nI 0)), (0, .int a1)]) hx hb dX10_pairsIn_3 rfl hl (by decide) rfl (fun ls hl => ?_)
  exact kX10_pairsIn_L4 E hP _ FU a1 (nI 0) (nI 0) hm ls (lv_sub hl [2, 1, 0] rfl)
noncomputable def mX10_gainOfOne (a1 : Int32) (a2 : Int32) (a3 : Int32) : Option Int32 := (if a1 = (nI 1) then some (nI 0) else (if a2 = 0 then (if a3 = 0 then some (nI 2) else some (-3 : Int32)) else some (nI 2)))
set_option maxHeartbeats 4000000 in
set_option maxRecDepth 100000 in
theorem tcX10_gainOfOne (l : Launch) (D : va_G) (cs : CS) (a1 : Int32) (a2 : Int32) (a3 : Int32) (z : Int32) (hm : mX10_gainOfOne a1 a2 a3 = some z) : Met l yX10_gainOfOne (Cond.code yX10_gainOfOne cX10_gainOfOne 3 (some .int) :: gw_tbl) ({ frames := 0, cells := 0, slots := 0, locals := 0 }) (PcR D cs ([]) [.int a1, .int a2, .int a3]) (QRi z) 0 0 NoF := by
  refine met_R rfl (Nat.le_of_ble_eq_true rfl) (fun p e s m below meth c E hP ls hl => ?_)
  obtain ⟨hx, hb, hr, hml, hown, hlk, hT, hN, hK⟩ := id E
  have hl : lv_has ls 3 [(0, .int a1), (1, .int a2), (2, .int a3)] := hl
  unfold mX10_gainOfOne at hm
  refine lv_iload_n hx hb dX10_gainOfOne_0 rfl (lv_at hl 0 rfl) ?_
  refine lv_iconst (v := (nI 1)) hx hb dX10_gainOfOne_1 (by decide) ?_
  refine x_icmp_ne (tgt := 7) hx hb dX10_gainOfOne_2 (by decide) hm (fun hm => ?_) (fun hm => ?_)
  · refine lv_iload_n hx hb dX10_gainOfOne_7 rfl (lv_at hl 1 rfl) ?_
    refine x_if_ne (tgt := 20) hx hb dX10_gainOfOne_8 (by decide) hm (fun hm => ?_) (fun hm => ?_)
    · refine lv_iconst (v := (nI 2)) hx hb dX10_gainOfOne_20 (by decide) ?_
      exact x_iretR hx hb hr hlk hm dX10_gainOfOne_21
    · refine lv_iload_n hx hb dX10_gainOfOne_11 rfl (lv_at hl 2 rfl) ?_
      refine x_if_eq (tgt := 20) hx hb dX10_gainOfOne_12 (by decide) hm (fun hm => ?_) (fun hm => ?_)
      · refine lv_iconst (v := (nI 2)) hx hb dX10_gainOfOne_20 (by decide) ?_
        exact x_iretR hx hb hr hlk hm dX10_gainOfOne_21
      · refine lv_bipush (v := (-3 : Int32)) hx hb dX10_gainOfOne_15 (by decide) ?_
        refine lv_goto (tgt := 21) hx hb dX10_gainOfOne_17 (by decide) ?_
        exact x_iretR hx hb hr hlk hm dX10_gainOfOne_21
  · refine lv_iconst (v := (nI 0)) hx hb dX10_gainOfOne_5 (by decide) ?_
    exact x_iretR hx hb hr hlk hm dX10_gainOfOne_6
noncomputable def mX10_gainOfOther (a1 : Int32) (a2 : Int32) (a3 : Int32) : Option Int32 := (if a2 = (nI 1) then some (nI 0) else (if a1 = 0 then (if a3 = 0 then some (-1 : Int32) else some (nI 3)) else some (-1 : Int32)))
set_option maxHeartbeats 4000000 in
set_option maxRecDepth 100000 in
theorem tcX10_gainOfOther (l : Launch) (D : va_G) (cs : CS) (a1 : Int32) (a2 : Int32) (a3 : Int32) (z : Int32) (hm : mX10_gainOfOther a1 a2 a3 = some z) : Met l yX10_gainOfOther (Cond.code yX10_gainOfOther cX10_gainOfOther 3 (some .int) :: gw_tbl) ({ frames := 0, cells := 0, slots := 0, locals := 0 }) (PcR D cs ([]) [.int a1, .int a2, .int a3]) (QRi z) 0 0 NoF := by
  refine met_R rfl (Nat.le_of_ble_eq_true rfl) (fun p e s m below meth c E hP ls hl => ?_)
  obtain ⟨hx, hb, hr, hml, hown, hlk, hT, hN, hK⟩ := id E
  have hl : lv_has ls 3 [(0, .int a1), (1, .int a2), (2, .int a3)] := hl
  unfold mX10_gainOfOther at hm
  refine lv_iload_n hx hb dX10_gainOfOther_0 rfl (lv_at hl 1 rfl) ?_
  refine lv_iconst (v := (nI 1)) hx hb dX10_gainOfOther_1 (by decide) ?_
  refine x_icmp_ne (tgt := 7) hx hb dX10_gainOfOther_2 (by decide) hm (fun hm => ?_) (fun hm => ?_)
  · refine lv_iload_n hx hb dX10_gainOfOther_7 rfl (lv_at hl 0 rfl) ?_
    refine x_if_ne (tgt := 19) hx hb dX10_gainOfOther_8 (by decide) hm (fun hm => ?_) (fun hm => ?_)
    · refine lv_iconst (v := (-1 : Int32)) hx hb dX10_gainOfOther_19 (by decide) ?_
      exact x_iretR hx hb hr hlk hm dX10_gainOfOther_20
    · refine lv_iload_n hx hb dX10_gainOfOther_11 rfl (lv_at hl 2 rfl) ?_
      refine x_if_eq (tgt := 19) hx hb dX10_gainOfOther_12 (by decide) hm (fun hm => ?_) (fun hm => ?_)
      · refine lv_iconst (v := (-1 : Int32)) hx hb dX10_gainOfOther_19 (by decide) ?_
        exact x_iretR hx hb hr hlk hm dX10_gainOfOther_20
      · refine lv_iconst (v := (nI 3)) hx hb dX10_gainOfOther_15 (by decide) ?_
        refine lv_goto (tgt := 20) hx hb dX10_gainOfOther_16 (by decide) ?_
        exact x_iretR hx hb hr hlk hm dX10_gainOfOther_20
  · refine lv_iconst (v := (nI 0)) hx hb dX10_gainOfOther_5 (by decide) ?_
    exact x_iretR hx hb hr hlk hm dX10_gainOfOther_6
noncomputable def mX10_power_L5  : Nat → Int32 → Int32 → Int64 → Int32 → Option Int64 := fun n => Nat.rec (motive := fun _ => Int32 → Int32 → Int64 → Int32 → Option Int64) (fun _ _ _ _ => none) (fun _ rc => fun y0 y1 y2 y4 => (if y1 ≤ y4 then some y2 else nm (y2 * y0.toInt64) fun x1 => nm (y4 + (nI 1)) fun x2 => rc y0 y1 x1 x2)) n
theorem mX10_power_L5_s  (n : Nat) (y0 : Int32) (y1 : Int32) (y2 : Int64) (y4 : Int32) : mX10_power_L5  (n + 1) y0 y1 y2 y4 = (if y1 ≤ y4 then some y2 else nm (y2 * y0.toInt64) fun x1 => nm (y4 + (nI 1)) fun x2 => (mX10_power_L5  n) y0 y1 x1 x2) := rfl
noncomputable def mX10_power (a1 : Int32) (a2 : Int32) : Option Int64 := mX10_power_L5 FU a1 a2 (lN 1) (nI 0)
set_option maxHeartbeats 4000000 in
set_option maxRecDepth 100000 in
theorem kX10_power_L5 {p : Program} {l : Launch} {e : Env} {s : State} {m : MethodId} {below : List Frame} {meth : Method} {c : Code} {D : va_G} {cs : CS}   {a1 : Int32} {a2 : Int32} (E : EV p s m [.int a1, .int a2].toArray meth c cX10_power 5 RX10 (some .long) D cs) (hP : va_P D classes ([]) s.heap) (z : Int64) : ∀ (n : Nat) (y0 : Int32) (y1 : Int32) (y2 : Int64) (y4 : Int32), mX10_power_L5  n y0 y1 y2 y4 = some z → ∀ ls : Array Slot, lv_has ls 5 [(0, .int y0), (1, .int y1), (2, .long y2), (4, .int y4)] → W p l e ({ frames := 0, cells := 0, slots := 0, locals := 0 }) s m [.int a1, .int a2].toArray below meth c s.heap [] 0 0 (MQ below (QRl z) [.int a1, .int a2].toArray s 0 0 NoF) (F0 m 5 ls []) := by
  obtain ⟨hx, hb, hr, hml, hown, hlk, hT, hN, hK⟩ := id E
  intro n
  induction n with
  | zero =>
    intro y0 y1 y2 y4 hm
    exact nomatch (show (none : Option Int64) = some z from hm)
  | succ n ih =>
    intro y0 y1 y2 y4 hm ls hl
    rw [mX10_power_L5_s] at hm
    refine lv_iload hx hb dX10_power_5 (lv_at hl 3 rfl) ?_
    refine lv_iload_n hx hb dX10_power_7 rfl (lv_at hl 1 rfl) ?_
    refine x_icmp_ge (tgt := 22) hx hb dX10_power_8 (by decide) hm (fun hm => ?_) (fun hm => ?_)
    · refine lv_lload_n hx hb dX10_power_22 rfl (lv_at hl 2 rfl) ?_
      exact x_lretR hx hb hr hlk hm dX10_power_23
    · refine lv_lload_n hx hb dX10_power_11 rfl (lv_at hl 2 rfl) ?_
      refine lv_iload_n hx hb dX10_power_12 rfl (lv_at hl 0 rfl) ?_
      refine lv_i2l hx hb dX10_power_13 rfl ?_
      refine lv_lmul hx hb dX10_power_14 ?_
      refine xl_nm hm (fun x1 hm => ?_)
      refine lv_lstore_n (lv' := [(2, .long x1), (0, .int y0), (1, .int y1), (4, .int y4)]) hx hb dX10_power_15 rfl hl (by decide) rfl (fun ls hl => ?_)
      refine x_iinc (lv' := fun x2 => [(4, .int x2), (2, .long x1), (0, .int y0), (1, .int y1)]) hx hb dX10_power_16 hl (k := 3) rfl (by decide) (v0 := (nI 1)) (by decide) (fun _ => rfl) hm (fun x2 ls hm hl => ?_)
      refine lv_goto (tgt := 5) hx hb dX10_power_19 (by decide) ?_
      exact ih y0 y1 x1 x2 hm ls (lv_sub hl [2, 3, 1, 0] rfl)
set_option maxHeartbeats 4000000 in
set_option maxRecDepth 100000 in
theorem tcX10_power (l : Launch) (D : va_G) (cs : CS) (a1 : Int32) (a2 : Int32) (z : Int64) (hm : mX10_power a1 a2 = some z) : Met l yX10_power (Cond.code yX10_power cX10_power 5 (some .long) :: gw_tbl) ({ frames := 0, cells := 0, slots := 0, locals := 0 }) (PcR D cs ([]) [.int a1, .int a2]) (QRl z) 0 0 NoF := by
  refine met_R rfl (Nat.le_of_ble_eq_true rfl) (fun p e s m below meth c E hP ls hl => ?_)
  obtain ⟨hx, hb, hr, hml, hown, hlk, hT, hN, hK⟩ := id E
  have hl : lv_has ls 5 [(0, .int a1), (1, .int a2)] := hl
  unfold mX10_power at hm
  refine lv_lconst (v := (lN 1)) hx hb dX10_power_0 (by decide) ?_
  refine lv_lstore_n (lv' := [(2, .long (lN 1)), (0, .int a1), (1, .int a2)]) hx hb dX10_power_1 rfl hl (by decide) rfl (fun ls hl => ?_)
  refine lv_iconst (v := (nI 0)) hx hb dX10_power_2 (by decide) ?_
  refine lv_istore (lv' := [(4, .int (nI 0)), (2, .long (lN 1)), (0, .int a1), (1, .int a2)]) hx hb dX10_power_3 hl (by decide) rfl (fun ls hl => ?_)
  exact kX10_power_L5 E hP _ FU a1 a2 (lN 1) (nI 0) hm ls (lv_sub hl [2, 3, 1, 0] rfl)
noncomputable def mX10_commonDivisor_L9  : Nat → Int64 → Int64 → Int32 → Option Int64 := fun n => Nat.rec (motive := fun _ => Int64 → Int64 → Int32 → Option Int64) (fun _ _ _ => none) (fun _ rc => fun y4 y6 y8 => (if (nI 200) ≤ y8 then some y4 else (if y6 = (lN 0) then some y4 else nzl y6 <| nm (y4 - y4 / y6 * y6) fun x1 => nm (y8 + (nI 1)) fun x2 => rc y6 x1 x2))) n
theorem mX10_commonDivisor_L9_s  (n : Nat) (y4 : Int64) (y6 : Int64) (y8 : Int32) : mX10_commonDivisor_L9  (n + 1) y4 y6 y8 = (if (nI 200) ≤ y8 then some y4 else (if y6 = (lN 0) then some y4 else nzl y6 <| nm (y4 - y4 / y6 * y6) fun x1 => nm (y8 + (nI 1)) fun x2 => (mX10_commonDivisor_L9  n) y6 x1 x2)) := rfl
noncomputable def mX10_commonDivisor (a1 : Int64) (a2 : Int64) : Option Int64 := mX10_commonDivisor_L9 FU a1 a2 (nI 0)
set_option maxHeartbeats 4000000 in
set_option maxRecDepth 100000 in
theorem kX10_commonDivisor_L9 {p : Program} {l : Launch} {e : Env} {s : State} {m : MethodId} {below : List Frame} {meth : Method} {c : Code} {D : va_G} {cs : CS}   {a1 : Int64} {a2 : Int64} (E : EV p s m [.long a1, .long a2].toArray meth c cX10_commonDivisor 11 RX10 (some .long) D cs) (hP : va_P D classes ([]) s.heap) (z : Int64) : ∀ (n : Nat) (y4 : Int64) (y6 : Int64) (y8 : Int32), mX10_commonDivisor_L9  n y4 y6 y8 = some z → ∀ ls : Array Slot, lv_has ls 11 [(4, .long y4), (6, .long y6), (8, .int y8)] → W p l e ({ frames := 0, cells := 0, slots := 0, locals := 0 }) s m [.long a1, .long a2].toArray below meth c s.heap [] 0 0 (MQ below (QRl z) [.long a1, .long a2].toArray s 0 0 NoF) (F0 m 9 ls []) := by
  obtain ⟨hx, hb, hr, hml, hown, hlk, hT, hN, hK⟩ := id E
  intro n
  induction n with
  | zero =>
    intro y4 y6 y8 hm
    exact nomatch (show (none : Option Int64) = some z from hm)
  | succ n ih =>
    intro y4 y6 y8 hm ls hl
    rw [mX10_commonDivisor_L9_s] at hm
    refine lv_iload hx hb dX10_commonDivisor_9 (lv_at hl 2 rfl) ?_
    refine lv_sipush (v := (nI 200)) hx hb dX10_commonDivisor_11 (by decide) ?_
    refine x_icmp_ge (tgt := 45) hx hb dX10_commonDivisor_14 (by decide) hm (fun hm => ?_) (fun hm => ?_)
    · refine lv_lload hx hb dX10_commonDivisor_45 (lv_at hl 0 rfl) ?_
      exact x_lretR hx hb hr hlk hm dX10_commonDivisor_47
    · refine lv_lload hx hb dX10_commonDivisor_17 (lv_at hl 1 rfl) ?_
      refine lv_lconst (v := (lN 0)) hx hb dX10_commonDivisor_19 (by decide) ?_
      refine x_lcmp_eq (tgt := 45) hx hb dX10_commonDivisor_20 dX10_commonDivisor_21 (by decide) hm (fun hm => ?_) (fun hm => ?_)
      · refine lv_lload hx hb dX10_commonDivisor_45 (lv_at hl 0 rfl) ?_
        exact x_lretR hx hb hr hlk hm dX10_commonDivisor_47
      · refine lv_lload hx hb dX10_commonDivisor_24 (lv_at hl 0 rfl) ?_
        refine lv_lload hx hb dX10_commonDivisor_26 (lv_at hl 1 rfl) ?_
        refine x_lrem hx hb hm dX10_commonDivisor_28 (fun hm => ?_)
        refine xl_nm hm (fun x1 hm => ?_)
        refine lv_lstore (lv' := [(9, .long x1), (4, .long y4), (6, .long y6), (8, .int y8)]) hx hb dX10_commonDivisor_29 hl (by decide) rfl (fun ls hl => ?_)
        refine lv_lload hx hb dX10_commonDivisor_31 (lv_at hl 2 rfl) ?_
        refine lv_lstore (lv' := [(4, .long y6), (9, .long x1), (6, .long y6), (8, .int y8)]) hx hb dX10_commonDivisor_33 hl (by decide) rfl (fun ls hl => ?_)
        refine lv_lload hx hb dX10_commonDivisor_35 (lv_at hl 1 rfl) ?_
        refine lv_lstore (lv' := [(6, .long x1), (4, .long y6), (9, .long x1), (8, .int y8)]) hx hb dX10_commonDivisor_37 hl (by decide) rfl (fun ls hl => ?_)
        refine x_iinc (lv' := fun x2 => [(8, .int x2), (6, .long x1), (4, .long y6), (9, .long x1)]) hx hb dX10_commonDivisor_39 hl (k := 3) rfl (by decide) (v0 := (nI 1)) (by decide) (fun _ => rfl) hm (fun x2 ls hm hl => ?_)
        refine lv_goto (tgt := 9) hx hb dX10_commonDivisor_42 (by decide) ?_
        exact ih y6 x1 x2 hm ls (lv_sub hl [2, 1, 0] rfl)
set_option maxHeartbeats 4000000 in
set_option maxRecDepth 100000 in
theorem tcX10_commonDivisor (l : Launch) (D : va_G) (cs : CS) (a1 : Int64) (a2 : Int64) (z : Int64) (hm : mX10_commonDivisor a1 a2 = some z) : Met l yX10_commonDivisor (Cond.code yX10_commonDivisor cX10_commonDivisor 11 (some .long) :: gw_tbl) ({ frames := 0, cells := 0, slots := 0, locals := 0 }) (PcR D cs ([]) [.long a1, .long a2]) (QRl z) 0 0 NoF := by
  refine met_R rfl (Nat.le_of_ble_eq_true rfl) (fun p e s m below meth c E hP ls hl => ?_)
  obtain ⟨hx, hb, hr, hml, hown, hlk, hT, hN, hK⟩ := id E
  have hl : lv_has ls 11 [(0, .long a1), (2, .long a2)] := hl
  unfold mX10_commonDivisor at hm
  refine lv_lload_n hx hb dX10_commonDivisor_0 rfl (lv_at hl 0 rfl) ?_
  refine lv_lstore (lv' := [(4, .long a1), (0, .long a1), (2, .long a2)]) hx hb dX10_commonDivisor_1 hl (by decide) rfl (fun ls hl => ?_)
  refine lv_lload_n hx hb dX10_commonDivisor_3 rfl (lv_at hl 2 rfl) ?_
  refine lv_lstore (lv' := [(6, .long a2), (4, .long a1), (0, .long a1), (2, .long a2)]) hx hb dX10_commonDivisor_4 hl (by decide) rfl (fun ls hl => ?_)
  refine lv_iconst (v := (nI 0)) hx hb dX10_commonDivisor_6 (by decide) ?_
  refine lv_istore (lv' := [(8, .int (nI 0)), (6, .long a2), (4, .long a1), (0, .long a1), (2, .long a2)]) hx hb dX10_commonDivisor_7 hl (by decide) rfl (fun ls hl => ?_)
  exact kX10_commonDivisor_L9 E hP _ FU a1 a2 (nI 0) hm ls (lv_sub hl [2, 1, 0] rfl)
noncomputable def mX7_isFull (mo wi : Int32) (nn : Nat) (S : RS) : Option Int32 := (if (S.1) < mo then zo (nI 0) (some (nI 0)) else zo (nI 1) (some (nI 1)))
set_option maxHeartbeats 4000000 in
set_option maxRecDepth 100000 in
theorem tcX7_isFull (l : Launch) (D : va_G) (cs : CS) (ad : Nat → Nat) (b : Nat) (mo wi : Int32) (nn : Nat) (S : RS) (z : Int32) (hm : mX7_isFull mo wi nn S = some z) : Met l yX7_isFull (Cond.code yX7_isFull cX7_isFull 1 (some .boolean) :: gw_tbl) ({ frames := 0, cells := 0, slots := 0, locals := 0 }) (PcR D cs (WR cs ad b mo wi nn S) [.ref (ad b)]) (QRi z) 0 0 NoF := by
  refine met_R rfl (Nat.le_of_ble_eq_true rfl) (fun p e s m below meth c E hP ls hl => ?_)
  obtain ⟨hx, hb, hr, hml, hown, hlk, hT, hN, hK⟩ := id E
  have hl : lv_has ls 1 [(0, .ref (ad b))] := hl
  unfold mX7_isFull at hm
  refine lv_aload_n hx hb dX7_isFull_0 rfl (lv_at hl 0 rfl) ?_
  refine gf_X7_26 (v := .int (S.1)) hx hb hT hown hK hP 0 rfl rfl dX7_isFull_1 ?_
  refine lv_aload_n hx hb dX7_isFull_4 rfl (lv_at hl 0 rfl) ?_
  refine gf_X7_7 (v := .int mo) hx hb hT hown hK hP 0 rfl rfl dX7_isFull_5 ?_
  refine x_icmp_lt (tgt := 15) hx hb dX7_isFull_8 (by decide) hm (fun hm => ?_) (fun hm => ?_)
  · refine lv_iconst (v := (nI 0)) hx hb dX7_isFull_15 (by decide) ?_
    exact x_zretR hx hb hr hlk hm dX7_isFull_16
  · refine lv_iconst (v := (nI 1)) hx hb dX7_isFull_11 (by decide) ?_
    refine lv_goto (tgt := 16) hx hb dX7_isFull_12 (by decide) ?_
    exact x_zretR hx hb hr hlk hm dX7_isFull_16
noncomputable def mX7_empty (mo wi : Int32) (nn : Nat) (S : RS) : Option RS := nm ((nI 0), S.2) fun S1 => some S1
set_option maxHeartbeats 4000000 in
set_option maxRecDepth 100000 in
theorem tcX7_empty (l : Launch) (D : va_G) (cs : CS) (ad : Nat → Nat) (b : Nat) (mo wi : Int32) (nn : Nat) (sz : Nat) (S : RS) (z : RS) (hm : mX7_empty mo wi nn S = some z) : Met l yX7_empty (Cond.code yX7_empty cX7_empty 1 none :: gw_tbl) ({ frames := 0, cells := 0, slots := 0, locals := 0 }) (PcW D cs sz (WR cs ad b mo wi nn S) [.ref (ad b)]) (QWv D cs (va_A (WR cs ad b mo wi nn S) sz) (fun u => WR cs ad b mo wi nn u) z) 0 0 (va_A (WR cs ad b mo wi nn S) sz) := by
  refine met_W rfl (Nat.le_of_ble_eq_true rfl) (fun p e s m below meth c E hP hD hS hA ls hl => ?_)
  generalize va_A (WR cs ad b mo wi nn S) sz = A at hD hS hA ⊢
  obtain ⟨hx, hb, hr, hml, hown, hlk, hT, hN, hK⟩ := id E
  obtain ⟨H, hH⟩ : ∃ H, H = s.heap := ⟨_, rfl⟩
  obtain ⟨locs, hlo⟩ : ∃ L : List Loc, L = [] := ⟨_, rfl⟩
  have hP : va_P D classes (WR cs ad b mo wi nn S) H := by rw [hH]; exact hP
  have hS : va_S A s.heap H locs := by rw [hH, hlo]; exact hS
  rw [show W p l e _ s m _ below meth c s.heap [] 0 0 = W p l e _ s m _ below meth c H locs 0 0 by rw [hH, hlo]]
  have hl : lv_has ls 1 [(0, .ref (ad b))] := hl
  unfold mX7_empty at hm
  refine lv_aload_n hx hb dX7_empty_0 rfl (lv_at hl 0 rfl) ?_
  refine lv_iconst (v := (nI 0)) hx hb dX7_empty_1 (by decide) ?_
  refine pf_X7_26 (wf := (fun u => WR cs ad b mo wi nn u)) (u0 := ((nI 0), S.2)) hx hb hT hown hK hP hD hS 0 rfl (Nat.le_of_ble_eq_true rfl) rfl rfl rfl hm dX7_empty_2 (fun S1 H locs hm hP hD hS => ?_)
  exact x_vretW (wf := (fun u => WR cs ad b mo wi nn u)) hx hb hr hlk hK hP hD hS hm dX7_empty_5
noncomputable def mX7_cell (mo wi : Int32) (nn : Nat) (S : RS) (a1 : Int32) (a2 : Int32) : Option Int32 := nm ((a1 * wi) + a2) fun x1 => (if x1 < 0 then some (nI 0) else (if (Int32.ofNat nn) ≤ x1 then some (nI 0) else ald S.2 nn x1 fun v2 => some v2))
set_option maxHeartbeats 4000000 in
set_option maxRecDepth 100000 in
theorem tcX7_cell (l : Launch) (D : va_G) (cs : CS) (ad : Nat → Nat) (b : Nat) (mo wi : Int32) (nn : Nat) (S : RS) (a1 : Int32) (a2 : Int32) (z : Int32) (hm : mX7_cell mo wi nn S a1 a2 = some z) : Met l yX7_cell (Cond.code yX7_cell cX7_cell 4 (some .int) :: gw_tbl) ({ frames := 0, cells := 0, slots := 0, locals := 0 }) (PcR D cs (WR cs ad b mo wi nn S) [.ref (ad b), .int a1, .int a2]) (QRi z) 0 0 NoF := by
  refine met_R rfl (Nat.le_of_ble_eq_true rfl) (fun p e s m below meth c E hP ls hl => ?_)
  obtain ⟨hx, hb, hr, hml, hown, hlk, hT, hN, hK⟩ := id E
  have hl : lv_has ls 4 [(0, .ref (ad b)), (1, .int a1), (2, .int a2)] := hl
  unfold mX7_cell at hm
  refine lv_iload_n hx hb dX7_cell_0 rfl (lv_at hl 1 rfl) ?_
  refine lv_aload_n hx hb dX7_cell_1 rfl (lv_at hl 0 rfl) ?_
  refine gf_X7_13 (v := .int wi) hx hb hT hown hK hP 0 rfl rfl dX7_cell_2 ?_
  refine lv_imul hx hb dX7_cell_5 ?_
  refine lv_iload_n hx hb dX7_cell_6 rfl (lv_at hl 2 rfl) ?_
  refine lv_iadd hx hb dX7_cell_7 ?_
  refine xi_nm hm (fun x1 hm => ?_)
  refine lv_istore_n (lv' := [(3, .int x1), (0, .ref (ad b)), (1, .int a1), (2, .int a2)]) hx hb dX7_cell_8 rfl hl (by decide) rfl (fun ls hl => ?_)
  refine lv_iload_n hx hb dX7_cell_9 rfl (lv_at hl 0 rfl) ?_
  refine x_if_lt (tgt := 31) hx hb dX7_cell_10 (by decide) hm (fun hm => ?_) (fun hm => ?_)
  · refine lv_iconst (v := (nI 0)) hx hb dX7_cell_31 (by decide) ?_
    exact x_iretR hx hb hr hlk hm dX7_cell_32
  · refine lv_iload_n hx hb dX7_cell_13 rfl (lv_at hl 0 rfl) ?_
    refine lv_aload_n hx hb dX7_cell_14 rfl (lv_at hl 1 rfl) ?_
    refine gf_X7_22 (v := .ref (ad (b + 1))) hx hb hT hown hK hP 0 rfl rfl dX7_cell_15 ?_
    refine va_alen (v := (Int32.ofNat nn)) hx hb hK hP 1 0 rfl rfl rfl dX7_cell_18 ?_
    refine x_icmp_ge (tgt := 31) hx hb dX7_cell_19 (by decide) hm (fun hm => ?_) (fun hm => ?_)
    · refine lv_iconst (v := (nI 0)) hx hb dX7_cell_31 (by decide) ?_
      exact x_iretR hx hb hr hlk hm dX7_cell_32
    · refine lv_aload_n hx hb dX7_cell_22 rfl (lv_at hl 1 rfl) ?_
      refine gf_X7_22 (v := .ref (ad (b + 1))) hx hb hT hown hK hP 0 rfl rfl dX7_cell_23 ?_
      refine lv_iload_n hx hb dX7_cell_26 rfl (lv_at hl 0 rfl) ?_
      refine x_iald hx hb hK hP 1 rfl hm dX7_cell_27 (fun v2 hm => ?_)
      refine lv_goto (tgt := 32) hx hb dX7_cell_28 (by decide) ?_
      exact x_iretR hx hb hr hlk hm dX7_cell_32
noncomputable def mX7_put (mo wi : Int32) (nn : Nat) (S : RS) (a1 : Int32) (a2 : Int32) (a3 : Int32) : Option RS := nm ((a1 * wi) + a2) fun x1 => (if wi ≤ a2 then some S else (if x1 < 0 then some S else (if (Int32.ofNat nn) ≤ x1 then some S else ast nn x1 <| nm (S.1, upd S.2 x1.toNatClampNeg a3) fun S2 => some S2)))
set_option maxHeartbeats 4000000 in
set_option maxRecDepth 100000 in
theorem tcX7_put (l : Launch) (D : va_G) (cs : CS) (ad : Nat → Nat) (b : Nat) (mo wi : Int32) (nn : Nat) (sz : Nat) (S : RS) (a1 : Int32) (a2 : Int32) (a3 : Int32) (z : RS) (hm : mX7_put mo wi nn S a1 a2 a3 = some z) : Met l yX7_put (Cond.code yX7_put cX7_put 5 none :: gw_tbl) ({ frames := 0, cells := 0, slots := 0, locals := 0 }) (PcW D cs sz (WR cs ad b mo wi nn S) [.ref (ad b), .int a1, .int a2, .int a3]) (QWv D cs (va_A (WR cs ad b mo wi nn S) sz) (fun u => WR cs ad b mo wi nn u) z) 0 0 (va_A (WR cs ad b mo wi nn S) sz) := by
  refine met_W rfl (Nat.le_of_ble_eq_true rfl) (fun p e s m below meth c E hP hD hS hA ls hl => ?_)
  generalize va_A (WR cs ad b mo wi nn S) sz = A at hD hS hA ⊢
  obtain ⟨hx, hb, hr, hml, hown, hlk, hT, hN, hK⟩ := id E
  obtain ⟨H, hH⟩ : ∃ H, H = s.heap := ⟨_, rfl⟩
  obtain ⟨locs, hlo⟩ : ∃ L : List Loc, L = [] := ⟨_, rfl⟩
  have hP : va_P D classes (WR cs ad b mo wi nn S) H := by rw [hH]; exact hP
  have hS : va_S A s.heap H locs := by rw [hH, hlo]; exact hS
  rw [show W p l e _ s m _ below meth c s.heap [] 0 0 = W p l e _ s m _ below meth c H locs 0 0 by rw [hH, hlo]]
  have hl : lv_has ls 5 [(0, .ref (ad b)), (1, .int a1), (2, .int a2), (3, .int a3)] := hl
  unfold mX7_put at hm
  refine lv_iload_n hx hb dX7_put_0 rfl (lv_at hl 1 rfl) ?_
  refine lv_aload_n hx hb dX7_put_1 rfl (lv_at hl 0 rfl) ?_
  refine gf_X7_13 (v := .int wi) hx hb hT hown hK hP 0 rfl rfl dX7_put_2 ?_
  refine lv_imul hx hb dX7_put_5 ?_
  refine lv_iload_n hx hb dX7_put_6 rfl (lv_at hl 2 rfl) ?_
  refine lv_iadd hx hb dX7_put_7 ?_
  refine xi_nm hm (fun x1 hm => ?_)
  refine lv_istore (lv' := [(4, .int x1), (0, .ref (ad b)), (1, .int a1), (2, .int a2), (3, .int a3)]) hx hb dX7_put_8 hl (by decide) rfl (fun ls hl => ?_)
  refine lv_iload_n hx hb dX7_put_10 rfl (lv_at hl 3 rfl) ?_
  refine lv_aload_n hx hb dX7_put_11 rfl (lv_at hl 1 rfl) ?_
  refine gf_X7_13 (v := .int wi) hx hb hT hown hK hP 0 rfl rfl dX7_put_12 ?_
  refine x_icmp_ge (tgt := 41) hx hb dX7_put_15 (by decide) hm (fun hm => ?_) (fun hm => ?_)
  · exact x_vretW (wf := (fun u => WR cs ad b mo wi nn u)) hx hb hr hlk hK hP hD hS hm dX7_put_41
  · refine lv_iload hx hb dX7_put_18 (lv_at hl 0 rfl) ?_
    refine x_if_lt (tgt := 41) hx hb dX7_put_20 (by decide) hm (fun hm => ?_) (fun hm => ?_)
    · exact x_vretW (wf := (fun u => WR cs ad b mo wi nn u)) hx hb hr hlk hK hP hD hS hm dX7_put_41
    · refine lv_iload hx hb dX7_put_23 (lv_at hl 0 rfl) ?_
      refine lv_aload_n hx hb dX7_put_25 rfl (lv_at hl 1 rfl) ?_
      refine gf_X7_22 (v := .ref (ad (b + 1))) hx hb hT hown hK hP 0 rfl rfl dX7_put_26 ?_
      refine va_alen (v := (Int32.ofNat nn)) hx hb hK hP 1 0 rfl rfl rfl dX7_put_29 ?_
      refine x_icmp_ge (tgt := 41) hx hb dX7_put_30 (by decide) hm (fun hm => ?_) (fun hm => ?_)
      · exact x_vretW (wf := (fun u => WR cs ad b mo wi nn u)) hx hb hr hlk hK hP hD hS hm dX7_put_41
      · refine lv_aload_n hx hb dX7_put_33 rfl (lv_at hl 1 rfl) ?_
        refine gf_X7_22 (v := .ref (ad (b + 1))) hx hb hT hown hK hP 0 rfl rfl dX7_put_34 ?_
        refine lv_iload hx hb dX7_put_37 (lv_at hl 0 rfl) ?_
        refine lv_iload_n hx hb dX7_put_39 rfl (lv_at hl 4 rfl) ?_
        refine x_iast hx hb hK hP hD hS 1 rfl (fun j => (S.1, upd S.2 j a3)) (fun u => WR cs ad b mo wi nn u) (fun _ => rfl) hm dX7_put_40 (fun S2 H locs hm hP hD hS => ?_)
        exact x_vretW (wf := (fun u => WR cs ad b mo wi nn u)) hx hb hr hlk hK hP hD hS hm dX7_put_41
noncomputable def mX7_dropLast (mo wi : Int32) (nn : Nat) (S : RS) : Option RS := (if (S.1) ≤ 0 then some S else nm (((S.1) - (nI 1)), S.2) fun S1 => some S1)
set_option maxHeartbeats 4000000 in
set_option maxRecDepth 100000 in
theorem tcX7_dropLast (l : Launch) (D : va_G) (cs : CS) (ad : Nat → Nat) (b : Nat) (mo wi : Int32) (nn : Nat) (sz : Nat) (S : RS) (z : RS) (hm : mX7_dropLast mo wi nn S = some z) : Met l yX7_dropLast (Cond.code yX7_dropLast cX7_dropLast 1 none :: gw_tbl) ({ frames := 0, cells := 0, slots := 0, locals := 0 }) (PcW D cs sz (WR cs ad b mo wi nn S) [.ref (ad b)]) (QWv D cs (va_A (WR cs ad b mo wi nn S) sz) (fun u => WR cs ad b mo wi nn u) z) 0 0 (va_A (WR cs ad b mo wi nn S) sz) := by
  refine met_W rfl (Nat.le_of_ble_eq_true rfl) (fun p e s m below meth c E hP hD hS hA ls hl => ?_)
  generalize va_A (WR cs ad b mo wi nn S) sz = A at hD hS hA ⊢
  obtain ⟨hx, hb, hr, hml, hown, hlk, hT, hN, hK⟩ := id E
  obtain ⟨H, hH⟩ : ∃ H, H = s.heap := ⟨_, rfl⟩
  obtain ⟨locs, hlo⟩ : ∃ L : List Loc, L = [] := ⟨_, rfl⟩
  have hP : va_P D classes (WR cs ad b mo wi nn S) H := by rw [hH]; exact hP
  have hS : va_S A s.heap H locs := by rw [hH, hlo]; exact hS
  rw [show W p l e _ s m _ below meth c s.heap [] 0 0 = W p l e _ s m _ below meth c H locs 0 0 by rw [hH, hlo]]
  have hl : lv_has ls 1 [(0, .ref (ad b))] := hl
  unfold mX7_dropLast at hm
  refine lv_aload_n hx hb dX7_dropLast_0 rfl (lv_at hl 0 rfl) ?_
  refine gf_X7_26 (v := .int (S.1)) hx hb hT hown hK hP 0 rfl rfl dX7_dropLast_1 ?_
  refine x_if_le (tgt := 17) hx hb dX7_dropLast_4 (by decide) hm (fun hm => ?_) (fun hm => ?_)
  · exact x_vretW (wf := (fun u => WR cs ad b mo wi nn u)) hx hb hr hlk hK hP hD hS hm dX7_dropLast_17
  · refine lv_aload_n hx hb dX7_dropLast_7 rfl (lv_at hl 0 rfl) ?_
    refine lv_dup hx hb dX7_dropLast_8 rfl ?_
    refine gf_X7_26 (v := .int (S.1)) hx hb hT hown hK hP 0 rfl rfl dX7_dropLast_9 ?_
    refine lv_iconst (v := (nI 1)) hx hb dX7_dropLast_12 (by decide) ?_
    refine lv_isub hx hb dX7_dropLast_13 ?_
    refine pf_X7_26 (wf := (fun u => WR cs ad b mo wi nn u)) (u0 := (((S.1) - (nI 1)), S.2)) hx hb hT hown hK hP hD hS 0 rfl (Nat.le_of_ble_eq_true rfl) rfl rfl rfl hm dX7_dropLast_14 (fun S1 H locs hm hP hD hS => ?_)
    exact x_vretW (wf := (fun u => WR cs ad b mo wi nn u)) hx hb hr hlk hK hP hD hS hm dX7_dropLast_17
noncomputable def mX7_digestFrom_L17 (mo wi : Int32) (nn : Nat) (S : RS) : Nat → Int64 → Int32 → Int32 → Option Int64 := fun n => Nat.rec (motive := fun _ => Int64 → Int32 → Int32 → Option Int64) (fun _ _ _ => none) (fun _ rc => fun y3 y5 y6 => (if wi ≤ y6 then some y3 else (mX7_cell mo wi nn S y5 y6).bind fun r1 => nm (((lN 31) * y3) + r1.toInt64) fun x2 => nm (y6 + (nI 1)) fun x3 => rc x2 y5 x3)) n
theorem mX7_digestFrom_L17_s (mo wi : Int32) (nn : Nat) (S : RS) (n : Nat) (y3 : Int64) (y5 : Int32) (y6 : Int32) : mX7_digestFrom_L17 mo wi nn S (n + 1) y3 y5 y6 = (if wi ≤ y6 then some y3 else (mX7_cell mo wi nn S y5 y6).bind fun r1 => nm (((lN 31) * y3) + r1.toInt64) fun x2 => nm (y6 + (nI 1)) fun x3 => (mX7_digestFrom_L17 mo wi nn S n) x2 y5 x3) := rfl
noncomputable def mX7_digestFrom_L5 (mo wi : Int32) (nn : Nat) (S : RS) : Nat → Int64 → Int32 → Option Int64 := fun n => Nat.rec (motive := fun _ => Int64 → Int32 → Option Int64) (fun _ _ => none) (fun _ rc => fun y3 y5 => (if (S.1) ≤ y5 then some y3 else (mX7_digestFrom_L17 mo wi nn S FU y3 y5 (nI 0)).bind fun x4 => nm (y5 + (nI 1)) fun x5 => rc x4 x5)) n
theorem mX7_digestFrom_L5_s (mo wi : Int32) (nn : Nat) (S : RS) (n : Nat) (y3 : Int64) (y5 : Int32) : mX7_digestFrom_L5 mo wi nn S (n + 1) y3 y5 = (if (S.1) ≤ y5 then some y3 else (mX7_digestFrom_L17 mo wi nn S FU y3 y5 (nI 0)).bind fun x4 => nm (y5 + (nI 1)) fun x5 => (mX7_digestFrom_L5 mo wi nn S n) x4 x5) := rfl
noncomputable def mX7_digestFrom (mo wi : Int32) (nn : Nat) (S : RS) (a1 : Int64) : Option Int64 := mX7_digestFrom_L5 mo wi nn S FU a1 (nI 0)
set_option maxHeartbeats 4000000 in
set_option maxRecDepth 100000 in
theorem kX7_digestFrom_L17 {p : Program} {l : Launch} {e : Env} {s : State} {m : MethodId} {below : List Frame} {meth : Method} {c : Code} {D : va_G} {cs : CS}  {ad : Nat → Nat} {b : Nat} {mo wi : Int32} {nn : Nat} {S : RS} {a1 : Int64} (E : EV p s m [.ref (ad b), .long a1].toArray meth c cX7_digestFrom 7 RX7 (some .long) D cs) (hP : va_P D classes (WR cs ad b mo wi nn S) s.heap) {Q : State → Prop} (z : Int64) : ∀ (n : Nat) (y3 : Int64) (y5 : Int32) (y6 : Int32), mX7_digestFrom_L17 mo wi nn S n y3 y5 y6 = some z → ∀ ls : Array Slot, lv_has ls 7 [(0, .ref (ad b)), (3, .long y3), (5, .int y5), (6, .int y6)] → (∀ ls : Array Slot, lv_has ls 7 [(0, .ref (ad b)), (3, .long z), (5, .int y5)] → W p l e ({ frames := 1, cells := 0, slots := 0, locals := 23 }) s m [.ref (ad b), .long a1].toArray below meth c s.heap [] 0 0 Q (F0 m 48 ls [])) → W p l e ({ frames := 1, cells := 0, slots := 0, locals := 23 }) s m [.ref (ad b), .long a1].toArray below meth c s.heap [] 0 0 Q (F0 m 17 ls []) := by
  obtain ⟨hx, hb, hr, hml, hown, hlk, hT, hN, hK⟩ := id E
  intro n
  induction n with
  | zero =>
    intro y3 y5 y6 hm
    exact nomatch (show (none : Option Int64) = some z from hm)
  | succ n ih =>
    intro y3 y5 y6 hm ls hl kk
    rw [mX7_digestFrom_L17_s] at hm
    refine lv_iload hx hb dX7_digestFrom_17 (lv_at hl 3 rfl) ?_
    refine lv_aload_n hx hb dX7_digestFrom_19 rfl (lv_at hl 0 rfl) ?_
    refine gf_X7_13 (v := .int wi) hx hb hT hown hK hP 0 rfl rfl dX7_digestFrom_20 ?_
    refine x_icmp_ge (tgt := 48) hx hb dX7_digestFrom_23 (by decide) hm (fun hm => ?_) (fun hm => ?_)
    · cases hm
      exact kk ls (lv_sub hl [0, 1, 2] rfl)
    · refine lv_ldc2 hx hb hown (hT _ tw_811) dX7_digestFrom_26 ?_
      refine lv_lload_n hx hb dX7_digestFrom_29 rfl (lv_at hl 1 rfl) ?_
      refine lv_lmul hx hb dX7_digestFrom_30 ?_
      refine lv_aload_n hx hb dX7_digestFrom_31 rfl (lv_at hl 0 rfl) ?_
      refine lv_iload hx hb dX7_digestFrom_32 (lv_at hl 2 rfl) ?_
      refine lv_iload hx hb dX7_digestFrom_34 (lv_at hl 3 rfl) ?_
      refine xV_i (As := [.int y5, .int y6]) (rest := [.long ((lN 31) * y3)]) hx hb hml hown hT hN hK hP cw_X7_42 hm (fun z h => tcX7_cell l D cs ad b mo wi nn S y5 y6 z h) ⟨rfl, rfl⟩ ⟨by decide, by decide⟩ (b := (ad b)) 0 rfl rfl rfl hl.1 rfl rfl (Nat.le_of_ble_eq_true rfl) dX7_digestFrom_36 ⟨Nat.zero_le _, Nat.zero_le _⟩ (fun r1 hm => ?_)
      refine lv_i2l hx hb dX7_digestFrom_39 rfl ?_
      refine lv_ladd hx hb dX7_digestFrom_40 ?_
      refine xl_nm hm (fun x2 hm => ?_)
      refine lv_lstore_n (lv' := [(3, .long x2), (0, .ref (ad b)), (5, .int y5), (6, .int y6)]) hx hb dX7_digestFrom_41 rfl hl (by decide) rfl (fun ls hl => ?_)
      refine x_iinc (lv' := fun x3 => [(6, .int x3), (3, .long x2), (0, .ref (ad b)), (5, .int y5)]) hx hb dX7_digestFrom_42 hl (k := 3) rfl (by decide) (v0 := (nI 1)) (by decide) (fun _ => rfl) hm (fun x3 ls hm hl => ?_)
      refine lv_goto (tgt := 17) hx hb dX7_digestFrom_45 (by decide) ?_
      exact ih x2 y5 x3 hm ls (lv_sub hl [2, 1, 3, 0] rfl) kk
set_option maxHeartbeats 4000000 in
set_option maxRecDepth 100000 in
theorem kX7_digestFrom_L5 {p : Program} {l : Launch} {e : Env} {s : State} {m : MethodId} {below : List Frame} {meth : Method} {c : Code} {D : va_G} {cs : CS}  {ad : Nat → Nat} {b : Nat} {mo wi : Int32} {nn : Nat} {S : RS} {a1 : Int64} (E : EV p s m [.ref (ad b), .long a1].toArray meth c cX7_digestFrom 7 RX7 (some .long) D cs) (hP : va_P D classes (WR cs ad b mo wi nn S) s.heap) (z : Int64) : ∀ (n : Nat) (y3 : Int64) (y5 : Int32), mX7_digestFrom_L5 mo wi nn S n y3 y5 = some z → ∀ ls : Array Slot, lv_has ls 7 [(0, .ref (ad b)), (3, .long y3), (5, .int y5)] → W p l e ({ frames := 1, cells := 0, slots := 0, locals := 23 }) s m [.ref (ad b), .long a1].toArray below meth c s.heap [] 0 0 (MQ below (QRl z) [.ref (ad b), .long a1].toArray s 0 0 NoF) (F0 m 5 ls []) := by
  obtain ⟨hx, hb, hr, hml, hown, hlk, hT, hN, hK⟩ := id E
  intro n
  induction n with
  | zero =>
    intro y3 y5 hm
    exact nomatch (show (none : Option Int64) = some z from hm)
  | succ n ih =>
    intro y3 y5 hm ls hl
    rw [mX7_digestFrom_L5_s] at hm
    refine lv_iload hx hb dX7_digestFrom_5 (lv_at hl 2 rfl) ?_
    refine lv_aload_n hx hb dX7_digestFrom_7 rfl (lv_at hl 0 rfl) ?_
    refine gf_X7_26 (v := .int (S.1)) hx hb hT hown hK hP 0 rfl rfl dX7_digestFrom_8 ?_
    refine x_icmp_ge (tgt := 54) hx hb dX7_digestFrom_11 (by decide) hm (fun hm => ?_) (fun hm => ?_)
    · refine lv_lload_n hx hb dX7_digestFrom_54 rfl (lv_at hl 1 rfl) ?_
      exact x_lretR hx hb hr hlk hm dX7_digestFrom_55
    · refine lv_iconst (v := (nI 0)) hx hb dX7_digestFrom_14 (by decide) ?_
      refine lv_istore (lv' := [(6, .int (nI 0)), (0, .ref (ad b)), (3, .long y3), (5, .int y5)]) hx hb dX7_digestFrom_15 hl (by decide) rfl (fun ls hl => ?_)
      obtain ⟨x4, he, hm⟩ := ob_some hm
      refine kX7_digestFrom_L17 E hP _ FU y3 y5 (nI 0) he ls (lv_sub hl [1, 2, 3, 0] rfl) (fun ls hl => ?_)
      refine x_iinc (lv' := fun x5 => [(5, .int x5), (0, .ref (ad b)), (3, .long x4)]) hx hb dX7_digestFrom_48 hl (k := 2) rfl (by decide) (v0 := (nI 1)) (by decide) (fun _ => rfl) hm (fun x5 ls hm hl => ?_)
      refine lv_goto (tgt := 5) hx hb dX7_digestFrom_51 (by decide) ?_
      exact ih x4 x5 hm ls (lv_sub hl [1, 2, 0] rfl)
set_option maxHeartbeats 4000000 in
set_option maxRecDepth 100000 in
theorem tcX7_digestFrom (l : Launch) (D : va_G) (cs : CS) (ad : Nat → Nat) (b : Nat) (mo wi : Int32) (nn : Nat) (S : RS) (a1 : Int64) (z : Int64) (hm : mX7_digestFrom mo wi nn S a1 = some z) : Met l yX7_digestFrom (Cond.code yX7_digestFrom cX7_digestFrom 7 (some .long) :: gw_tbl) ({ frames := 1, cells := 0, slots := 0, locals := 23 }) (PcR D cs (WR cs ad b mo wi nn S) [.ref (ad b), .long a1]) (QRl z) 0 0 NoF := by
  refine met_R rfl (Nat.le_of_ble_eq_true rfl) (fun p e s m below meth c E hP ls hl => ?_)
  obtain ⟨hx, hb, hr, hml, hown, hlk, hT, hN, hK⟩ := id E
  have hl : lv_has ls 7 [(0, .ref (ad b)), (1, .long a1)] := hl
  unfold mX7_digestFrom at hm
  refine lv_lload_n hx hb dX7_digestFrom_0 rfl (lv_at hl 1 rfl) ?_
  refine lv_lstore_n (lv' := [(3, .long a1), (0, .ref (ad b)), (1, .long a1)]) hx hb dX7_digestFrom_1 rfl hl (by decide) rfl (fun ls hl => ?_)
  refine lv_iconst (v := (nI 0)) hx hb dX7_digestFrom_2 (by decide) ?_
  refine lv_istore (lv' := [(5, .int (nI 0)), (3, .long a1), (0, .ref (ad b)), (1, .long a1)]) hx hb dX7_digestFrom_3 hl (by decide) rfl (fun ls hl => ?_)
  exact kX7_digestFrom_L5 E hP _ FU a1 (nI 0) hm ls (lv_sub hl [2, 1, 0] rfl)
noncomputable def mX7_add (mo wi : Int32) (nn : Nat) (S : RS) (a1 : Int32) (a2 : Int32) (a3 : Int32) (a4 : Int32) : Option RS := (mX7_isFull mo wi nn S).bind fun r1 => (if r1 = 0 then (mX7_put mo wi nn S (S.1) (nI 0) a1).bind fun S2 => (mX7_put mo wi nn S2 (S2.1) (nI 1) a2).bind fun S3 => (mX7_put mo wi nn S3 (S3.1) (nI 2) a3).bind fun S4 => (mX7_put mo wi nn S4 (S4.1) (nI 3) a4).bind fun S5 => nm (((S5.1) + (nI 1)), S5.2) fun S6 => some S6 else some S)
set_option maxHeartbeats 4000000 in
set_option maxRecDepth 100000 in
theorem tcX7_add (l : Launch) (D : va_G) (cs : CS) (ad : Nat → Nat) (b : Nat) (mo wi : Int32) (nn : Nat) (sz : Nat) (S : RS) (a1 : Int32) (a2 : Int32) (a3 : Int32) (a4 : Int32) (z : RS) (hm : mX7_add mo wi nn S a1 a2 a3 a4 = some z) : Met l yX7_add (Cond.code yX7_add cX7_add 5 none :: gw_tbl) ({ frames := 1, cells := 0, slots := 0, locals := 24 }) (PcW D cs sz (WR cs ad b mo wi nn S) [.ref (ad b), .int a1, .int a2, .int a3, .int a4]) (QWv D cs (va_A (WR cs ad b mo wi nn S) sz) (fun u => WR cs ad b mo wi nn u) z) 0 0 (va_A (WR cs ad b mo wi nn S) sz) := by
  refine met_W rfl (Nat.le_of_ble_eq_true rfl) (fun p e s m below meth c E hP hD hS hA ls hl => ?_)
  generalize va_A (WR cs ad b mo wi nn S) sz = A at hD hS hA ⊢
  obtain ⟨hx, hb, hr, hml, hown, hlk, hT, hN, hK⟩ := id E
  obtain ⟨H, hH⟩ : ∃ H, H = s.heap := ⟨_, rfl⟩
  obtain ⟨locs, hlo⟩ : ∃ L : List Loc, L = [] := ⟨_, rfl⟩
  have hP : va_P D classes (WR cs ad b mo wi nn S) H := by rw [hH]; exact hP
  have hS : va_S A s.heap H locs := by rw [hH, hlo]; exact hS
  rw [show W p l e _ s m _ below meth c s.heap [] 0 0 = W p l e _ s m _ below meth c H locs 0 0 by rw [hH, hlo]]
  have hl : lv_has ls 5 [(0, .ref (ad b)), (1, .int a1), (2, .int a2), (3, .int a3), (4, .int a4)] := hl
  unfold mX7_add at hm
  refine lv_aload_n hx hb dX7_add_0 rfl (lv_at hl 0 rfl) ?_
  refine xV_i (As := []) (rest := []) hx hb hml hown hT hN hK hP cw_X7_29 hm (fun z h => tcX7_isFull l D cs ad b mo wi nn S z h) ⟨rfl, rfl⟩ ⟨by decide, by decide⟩ (b := (ad b)) 0 rfl rfl rfl hl.1 rfl rfl (Nat.le_of_ble_eq_true rfl) dX7_add_1 ⟨Nat.zero_le _, Nat.zero_le _⟩ (fun r1 hm => ?_)
  refine x_if_eq (tgt := 8) hx hb dX7_add_4 (by decide) hm (fun hm => ?_) (fun hm => ?_)
  · refine lv_aload_n hx hb dX7_add_8 rfl (lv_at hl 0 rfl) ?_
    refine lv_aload_n hx hb dX7_add_9 rfl (lv_at hl 0 rfl) ?_
    refine gf_X7_26 (v := .int (S.1)) hx hb hT hown hK hP 0 rfl rfl dX7_add_10 ?_
    refine lv_iconst (v := (nI 0)) hx hb dX7_add_13 (by decide) ?_
    refine lv_iload_n hx hb dX7_add_14 rfl (lv_at hl 1 rfl) ?_
    refine xVW_v (As := [.int (S.1), .int (nI 0), .int a1]) (rest := []) (wr := []) (wg := (fun u => WR cs ad b mo wi nn u)) hx hb hml hown hT hN hK hP hD hS hA cw_X7_33 hm (fun z h => tcX7_put l D cs ad b mo wi nn H.size S (S.1) (nI 0) a1 z h) ⟨rfl, rfl⟩ ⟨by decide, by decide⟩ [0, 1] [] [0, 1] rfl (by decide) rfl (by decide) (by decide) (fun _ => rfl) (by decide) (b := (ad b)) 0 rfl rfl rfl hl.1 rfl rfl (Nat.le_of_ble_eq_true rfl) dX7_add_15 ⟨Nat.zero_le _, Nat.zero_le _⟩ (fun S2 H locs hm hP hD hS => ?_)
    refine lv_aload_n hx hb dX7_add_18 rfl (lv_at hl 0 rfl) ?_
    refine lv_aload_n hx hb dX7_add_19 rfl (lv_at hl 0 rfl) ?_
    refine gf_X7_26 (v := .int (S2.1)) hx hb hT hown hK hP 0 rfl rfl dX7_add_20 ?_
    refine lv_iconst (v := (nI 1)) hx hb dX7_add_23 (by decide) ?_
    refine lv_iload_n hx hb dX7_add_24 rfl (lv_at hl 2 rfl) ?_
    refine xVW_v (As := [.int (S2.1), .int (nI 1), .int a2]) (rest := []) (wr := []) (wg := (fun u => WR cs ad b mo wi nn u)) hx hb hml hown hT hN hK hP hD hS hA cw_X7_33 hm (fun z h => tcX7_put l D cs ad b mo wi nn H.size S2 (S2.1) (nI 1) a2 z h) ⟨rfl, rfl⟩ ⟨by decide, by decide⟩ [0, 1] [] [0, 1] rfl (by decide) rfl (by decide) (by decide) (fun _ => rfl) (by decide) (b := (ad b)) 0 rfl rfl rfl hl.1 rfl rfl (Nat.le_of_ble_eq_true rfl) dX7_add_25 ⟨Nat.zero_le _, Nat.zero_le _⟩ (fun S3 H locs hm hP hD hS => ?_)
    refine lv_aload_n hx hb dX7_add_28 rfl (lv_at hl 0 rfl) ?_
    refine lv_aload_n hx hb dX7_add_29 rfl (lv_at hl 0 rfl) ?_
    refine gf_X7_26 (v := .int (S3.1)) hx hb hT hown hK hP 0 rfl rfl dX7_add_30 ?_
    refine lv_iconst (v := (nI 2)) hx hb dX7_add_33 (by decide) ?_
    refine lv_iload_n hx hb dX7_add_34 rfl (lv_at hl 3 rfl) ?_
    refine xVW_v (As := [.int (S3.1), .int (nI 2), .int a3]) (rest := []) (wr := []) (wg := (fun u => WR cs ad b mo wi nn u)) hx hb hml hown hT hN hK hP hD hS hA cw_X7_33 hm (fun z h => tcX7_put l D cs ad b mo wi nn H.size S3 (S3.1) (nI 2) a3 z h) ⟨rfl, rfl⟩ ⟨by decide, by decide⟩ [0, 1] [] [0, 1] rfl (by decide) rfl (by decide) (by decide) (fun _ => rfl) (by decide) (b := (ad b)) 0 rfl rfl rfl hl.1 rfl rfl (Nat.le_of_ble_eq_true rfl) dX7_add_35 ⟨Nat.zero_le _, Nat.zero_le _⟩ (fun S4 H locs hm hP hD hS => ?_)
    refine lv_aload_n hx hb dX7_add_38 rfl (lv_at hl 0 rfl) ?_
    refine lv_aload_n hx hb dX7_add_39 rfl (lv_at hl 0 rfl) ?_
    refine gf_X7_26 (v := .int (S4.1)) hx hb hT hown hK hP 0 rfl rfl dX7_add_40 ?_
    refine lv_iconst (v := (nI 3)) hx hb dX7_add_43 (by decide) ?_
    refine lv_iload hx hb dX7_add_44 (lv_at hl 4 rfl) ?_
    refine xVW_v (As := [.int (S4.1), .int (nI 3), .int a4]) (rest := []) (wr := []) (wg := (fun u => WR cs ad b mo wi nn u)) hx hb hml hown hT hN hK hP hD hS hA cw_X7_33 hm (fun z h => tcX7_put l D cs ad b mo wi nn H.size S4 (S4.1) (nI 3) a4 z h) ⟨rfl, rfl⟩ ⟨by decide, by decide⟩ [0, 1] [] [0, 1] rfl (by decide) rfl (by decide) (by decide) (fun _ => rfl) (by decide) (b := (ad b)) 0 rfl rfl rfl hl.1 rfl rfl (Nat.le_of_ble_eq_true rfl) dX7_add_46 ⟨Nat.zero_le _, Nat.zero_le _⟩ (fun S5 H locs hm hP hD hS => ?_)
    refine lv_aload_n hx hb dX7_add_49 rfl (lv_at hl 0 rfl) ?_
    refine lv_dup hx hb dX7_add_50 rfl ?_
    refine gf_X7_26 (v := .int (S5.1)) hx hb hT hown hK hP 0 rfl rfl dX7_add_51 ?_
    refine lv_iconst (v := (nI 1)) hx hb dX7_add_54 (by decide) ?_
    refine lv_iadd hx hb dX7_add_55 ?_
    refine pf_X7_26 (wf := (fun u => WR cs ad b mo wi nn u)) (u0 := (((S5.1) + (nI 1)), S5.2)) hx hb hT hown hK hP hD hS 0 rfl (Nat.le_of_ble_eq_true rfl) rfl rfl rfl hm dX7_add_56 (fun S6 H locs hm hP hD hS => ?_)
    exact x_vretW (wf := (fun u => WR cs ad b mo wi nn u)) hx hb hr hlk hK hP hD hS hm dX7_add_59
  · exact x_vretW (wf := (fun u => WR cs ad b mo wi nn u)) hx hb hr hlk hK hP hD hS hm dX7_add_7
noncomputable def mX7_dropFirst_L5 (mo wi : Int32) (nn : Nat) : Nat → Int32 → RS → Option RS := fun n => Nat.rec (motive := fun _ => Int32 → RS → Option RS) (fun _ _ => none) (fun _ rc => fun y1 S => (if (Int32.ofNat nn) ≤ y1 then (mX7_dropLast mo wi nn S).bind fun S1 => some S1 else nm (y1 - wi) fun x2 => (if x2 < 0 then nm (y1 + (nI 1)) fun x3 => rc x3 S else ald S.2 nn y1 fun v4 => ast nn x2 <| nm (S.1, upd S.2 x2.toNatClampNeg v4) fun S5 => nm (y1 + (nI 1)) fun x6 => rc x6 S5))) n
theorem mX7_dropFirst_L5_s (mo wi : Int32) (nn : Nat) (n : Nat) (y1 : Int32) (S : RS) : mX7_dropFirst_L5 mo wi nn (n + 1) y1 S = (if (Int32.ofNat nn) ≤ y1 then (mX7_dropLast mo wi nn S).bind fun S1 => some S1 else nm (y1 - wi) fun x2 => (if x2 < 0 then nm (y1 + (nI 1)) fun x3 => (mX7_dropFirst_L5 mo wi nn n) x3 S else ald S.2 nn y1 fun v4 => ast nn x2 <| nm (S.1, upd S.2 x2.toNatClampNeg v4) fun S5 => nm (y1 + (nI 1)) fun x6 => (mX7_dropFirst_L5 mo wi nn n) x6 S5)) := rfl
noncomputable def mX7_dropFirst (mo wi : Int32) (nn : Nat) (S : RS) : Option RS := mX7_dropFirst_L5 mo wi nn FU wi S
set_option maxHeartbeats 4000000 in
set_option maxRecDepth 100000 in
theorem kX7_dropFirst_L5 {p : Program} {l : Launch} {e : Env} {s : State} {m : MethodId} {below : List Frame} {meth : Method} {c : Code} {D : va_G} {cs : CS} {A : Nat → Prop}  {ad : Nat → Nat} {b : Nat} {mo wi : Int32} {nn : Nat}  (E : EV p s m [.ref (ad b)].toArray meth c cX7_dropFirst 3 RX7 none D cs) (hA : ∀ q : Nat, s.heap.size ≤ q → A q) (z : RS) : ∀ (n : Nat) (y1 : Int32) (S : RS), mX7_dropFirst_L5 mo wi nn n y1 S = some z → ∀ (H : Heap) (locs : List Loc), va_P D classes (WR cs ad b mo wi nn S) H → va_D A (WR cs ad b mo wi nn S) → va_S A s.heap H locs → ∀ ls : Array Slot, lv_has ls 3 [(0, .ref (ad b)), (1, .int y1)] → W p l e ({ frames := 1, cells := 0, slots := 0, locals := 20 }) s m [.ref (ad b)].toArray below meth c H locs 0 0 (MQ below (QWv D cs A (fun u => WR cs ad b mo wi nn u) z) [.ref (ad b)].toArray s 0 0 A) (F0 m 5 ls []) := by
  obtain ⟨hx, hb, hr, hml, hown, hlk, hT, hN, hK⟩ := id E
  intro n
  induction n with
  | zero =>
    intro y1 S hm
    exact nomatch (show (none : Option RS) = some z from hm)
  | succ n ih =>
    intro y1 S hm H locs hP hD hS ls hl
    rw [mX7_dropFirst_L5_s] at hm
    refine lv_iload_n hx hb dX7_dropFirst_5 rfl (lv_at hl 1 rfl) ?_
    refine lv_aload_n hx hb dX7_dropFirst_6 rfl (lv_at hl 0 rfl) ?_
    refine gf_X7_22 (v := .ref (ad (b + 1))) hx hb hT hown hK hP 0 rfl rfl dX7_dropFirst_7 ?_
    refine va_alen (v := (Int32.ofNat nn)) hx hb hK hP 1 0 rfl rfl rfl dX7_dropFirst_10 ?_
    refine x_icmp_ge (tgt := 43) hx hb dX7_dropFirst_11 (by decide) hm (fun hm => ?_) (fun hm => ?_)
    · refine lv_aload_n hx hb dX7_dropFirst_43 rfl (lv_at hl 0 rfl) ?_
      refine xVW_v (As := []) (rest := []) (wr := []) (wg := (fun u => WR cs ad b mo wi nn u)) hx hb hml hown hT hN hK hP hD hS hA cw_X7_37 hm (fun z h => tcX7_dropLast l D cs ad b mo wi nn H.size S z h) ⟨rfl, rfl⟩ ⟨by decide, by decide⟩ [0, 1] [] [0, 1] rfl (by decide) rfl (by decide) (by decide) (fun _ => rfl) (by decide) (b := (ad b)) 0 rfl rfl rfl hl.1 rfl rfl (Nat.le_of_ble_eq_true rfl) dX7_dropFirst_44 ⟨Nat.zero_le _, Nat.zero_le _⟩ (fun S1 H locs hm hP hD hS => ?_)
      exact x_vretW (wf := (fun u => WR cs ad b mo wi nn u)) hx hb hr hlk hK hP hD hS hm dX7_dropFirst_47
    · refine lv_iload_n hx hb dX7_dropFirst_14 rfl (lv_at hl 1 rfl) ?_
      refine lv_aload_n hx hb dX7_dropFirst_15 rfl (lv_at hl 0 rfl) ?_
      refine gf_X7_13 (v := .int wi) hx hb hT hown hK hP 0 rfl rfl dX7_dropFirst_16 ?_
      refine lv_isub hx hb dX7_dropFirst_19 ?_
      refine xi_nm hm (fun x2 hm => ?_)
      refine lv_istore_n (lv' := [(2, .int x2), (0, .ref (ad b)), (1, .int y1)]) hx hb dX7_dropFirst_20 rfl hl (by decide) rfl (fun ls hl => ?_)
      refine lv_iload_n hx hb dX7_dropFirst_21 rfl (lv_at hl 0 rfl) ?_
      refine x_if_lt (tgt := 37) hx hb dX7_dropFirst_22 (by decide) hm (fun hm => ?_) (fun hm => ?_)
      · refine x_iinc (lv' := fun x3 => [(1, .int x3), (2, .int x2), (0, .ref (ad b))]) hx hb dX7_dropFirst_37 hl (k := 2) rfl (by decide) (v0 := (nI 1)) (by decide) (fun _ => rfl) hm (fun x3 ls hm hl => ?_)
        refine lv_goto (tgt := 5) hx hb dX7_dropFirst_40 (by decide) ?_
        exact ih x3 S hm H locs hP hD hS ls (lv_sub hl [2, 0] rfl)
      · refine lv_aload_n hx hb dX7_dropFirst_25 rfl (lv_at hl 1 rfl) ?_
        refine gf_X7_22 (v := .ref (ad (b + 1))) hx hb hT hown hK hP 0 rfl rfl dX7_dropFirst_26 ?_
        refine lv_iload_n hx hb dX7_dropFirst_29 rfl (lv_at hl 0 rfl) ?_
        refine lv_aload_n hx hb dX7_dropFirst_30 rfl (lv_at hl 1 rfl) ?_
        refine gf_X7_22 (v := .ref (ad (b + 1))) hx hb hT hown hK hP 0 rfl rfl dX7_dropFirst_31 ?_
        refine lv_iload_n hx hb dX7_dropFirst_34 rfl (lv_at hl 2 rfl) ?_
        refine x_iald hx hb hK hP 1 rfl hm dX7_dropFirst_35 (fun v4 hm => ?_)
        refine x_iast hx hb hK hP hD hS 1 rfl (fun j => (S.1, upd S.2 j v4)) (fun u => WR cs ad b mo wi nn u) (fun _ => rfl) hm dX7_dropFirst_36 (fun S5 H locs hm hP hD hS => ?_)
        refine x_iinc (lv' := fun x6 => [(1, .int x6), (2, .int x2), (0, .ref (ad b))]) hx hb dX7_dropFirst_37 hl (k := 2) rfl (by decide) (v0 := (nI 1)) (by decide) (fun _ => rfl) hm (fun x6 ls hm hl => ?_)
        refine lv_goto (tgt := 5) hx hb dX7_dropFirst_40 (by decide) ?_
        exact ih x6 S5 hm H locs hP hD hS ls (lv_sub hl [2, 0] rfl)
set_option maxHeartbeats 4000000 in
set_option maxRecDepth 100000 in
theorem tcX7_dropFirst (l : Launch) (D : va_G) (cs : CS) (ad : Nat → Nat) (b : Nat) (mo wi : Int32) (nn : Nat) (sz : Nat) (S : RS) (z : RS) (hm : mX7_dropFirst mo wi nn S = some z) : Met l yX7_dropFirst (Cond.code yX7_dropFirst cX7_dropFirst 3 none :: gw_tbl) ({ frames := 1, cells := 0, slots := 0, locals := 20 }) (PcW D cs sz (WR cs ad b mo wi nn S) [.ref (ad b)]) (QWv D cs (va_A (WR cs ad b mo wi nn S) sz) (fun u => WR cs ad b mo wi nn u) z) 0 0 (va_A (WR cs ad b mo wi nn S) sz) := by
  refine met_W rfl (Nat.le_of_ble_eq_true rfl) (fun p e s m below meth c E hP hD hS hA ls hl => ?_)
  generalize va_A (WR cs ad b mo wi nn S) sz = A at hD hS hA ⊢
  obtain ⟨hx, hb, hr, hml, hown, hlk, hT, hN, hK⟩ := id E
  obtain ⟨H, hH⟩ : ∃ H, H = s.heap := ⟨_, rfl⟩
  obtain ⟨locs, hlo⟩ : ∃ L : List Loc, L = [] := ⟨_, rfl⟩
  have hP : va_P D classes (WR cs ad b mo wi nn S) H := by rw [hH]; exact hP
  have hS : va_S A s.heap H locs := by rw [hH, hlo]; exact hS
  rw [show W p l e _ s m _ below meth c s.heap [] 0 0 = W p l e _ s m _ below meth c H locs 0 0 by rw [hH, hlo]]
  have hl : lv_has ls 3 [(0, .ref (ad b))] := hl
  unfold mX7_dropFirst at hm
  refine lv_aload_n hx hb dX7_dropFirst_0 rfl (lv_at hl 0 rfl) ?_
  refine gf_X7_13 (v := .int wi) hx hb hT hown hK hP 0 rfl rfl dX7_dropFirst_1 ?_
  refine lv_istore_n (lv' := [(1, .int wi), (0, .ref (ad b))]) hx hb dX7_dropFirst_4 rfl hl (by decide) rfl (fun ls hl => ?_)
  exact kX7_dropFirst_L5 E hA _ FU wi S hm H locs hP hD hS ls (lv_sub hl [1, 0] rfl)
noncomputable def mX7_become_L2 (nn : Nat) (O : RS) : Nat → Int32 → RS → Option RS := fun n => Nat.rec (motive := fun _ => Int32 → RS → Option RS) (fun _ _ => none) (fun _ rc => fun y2 S => (if (Int32.ofNat nn) ≤ y2 then nm ((O.1), S.2) fun S1 => some S1 else (if (Int32.ofNat nn) ≤ y2 then nm ((O.1), S.2) fun S2 => some S2 else ald O.2 nn y2 fun v3 => ast nn y2 <| nm (S.1, upd S.2 y2.toNatClampNeg v3) fun S4 => nm (y2 + (nI 1)) fun x5 => rc x5 S4))) n
theorem mX7_become_L2_s (nn : Nat) (O : RS) (n : Nat) (y2 : Int32) (S : RS) : mX7_become_L2 nn O (n + 1) y2 S = (if (Int32.ofNat nn) ≤ y2 then nm ((O.1), S.2) fun S1 => some S1 else (if (Int32.ofNat nn) ≤ y2 then nm ((O.1), S.2) fun S2 => some S2 else ald O.2 nn y2 fun v3 => ast nn y2 <| nm (S.1, upd S.2 y2.toNatClampNeg v3) fun S4 => nm (y2 + (nI 1)) fun x5 => (mX7_become_L2 nn O n) x5 S4)) := rfl
noncomputable def mX7_become (nn : Nat) (O : RS) (S : RS) : Option RS := mX7_become_L2 nn O FU (nI 0) S
set_option maxHeartbeats 4000000 in
set_option maxRecDepth 100000 in
theorem kX7_become_L2 {p : Program} {l : Launch} {e : Env} {s : State} {m : MethodId} {below : List Frame} {meth : Method} {c : Code} {D : va_G} {cs : CS} {A : Nat → Prop}  {ad : Nat → Nat} {b b2 : Nat} {mo wi : Int32} {nn : Nat} {O : RS}  (E : EV p s m [.ref (ad b), .ref (ad b2)].toArray meth c cX7_become 3 RX7 none D cs) (hA : ∀ q : Nat, s.heap.size ≤ q → A q) (z : RS) : ∀ (n : Nat) (y2 : Int32) (S : RS), mX7_become_L2 nn O n y2 S = some z → ∀ (H : Heap) (locs : List Loc), va_P D classes (WR2 cs ad b b2 mo wi nn O S) H → va_D A (WR2 cs ad b b2 mo wi nn O S) → va_S A s.heap H locs → ∀ ls : Array Slot, lv_has ls 3 [(0, .ref (ad b)), (1, .ref (ad b2)), (2, .int y2)] → W p l e ({ frames := 0, cells := 0, slots := 0, locals := 0 }) s m [.ref (ad b), .ref (ad b2)].toArray below meth c H locs 0 0 (MQ below (QWv D cs A (fun u => WR2 cs ad b b2 mo wi nn O u) z) [.ref (ad b), .ref (ad b2)].toArray s 0 0 A) (F0 m 2 ls []) := by
  obtain ⟨hx, hb, hr, hml, hown, hlk, hT, hN, hK⟩ := id E
  intro n
  induction n with
  | zero =>
    intro y2 S hm
    exact nomatch (show (none : Option RS) = some z from hm)
  | succ n ih =>
    intro y2 S hm H locs hP hD hS ls hl
    rw [mX7_become_L2_s] at hm
    refine lv_iload_n hx hb dX7_become_2 rfl (lv_at hl 2 rfl) ?_
    refine lv_aload_n hx hb dX7_become_3 rfl (lv_at hl 0 rfl) ?_
    refine gf_X7_22 (v := .ref (ad (b + 1))) hx hb hT hown hK hP 0 rfl rfl dX7_become_4 ?_
    refine va_alen (v := (Int32.ofNat nn)) hx hb hK hP 1 0 rfl rfl rfl dX7_become_7 ?_
    refine x_icmp_ge (tgt := 38) hx hb dX7_become_8 (by decide) hm (fun hm => ?_) (fun hm => ?_)
    · refine lv_aload_n hx hb dX7_become_38 rfl (lv_at hl 0 rfl) ?_
      refine lv_aload_n hx hb dX7_become_39 rfl (lv_at hl 1 rfl) ?_
      refine gf_X7_26 (v := .int (O.1)) hx hb hT hown hK hP 2 rfl rfl dX7_become_40 ?_
      refine pf_X7_26 (wf := (fun u => WR2 cs ad b b2 mo wi nn O u)) (u0 := ((O.1), S.2)) hx hb hT hown hK hP hD hS 0 rfl (Nat.le_of_ble_eq_true rfl) rfl rfl rfl hm dX7_become_43 (fun S1 H locs hm hP hD hS => ?_)
      exact x_vretW (wf := (fun u => WR2 cs ad b b2 mo wi nn O u)) hx hb hr hlk hK hP hD hS hm dX7_become_46
    · refine lv_iload_n hx hb dX7_become_11 rfl (lv_at hl 2 rfl) ?_
      refine lv_aload_n hx hb dX7_become_12 rfl (lv_at hl 1 rfl) ?_
      refine gf_X7_22 (v := .ref (ad (b2 + 1))) hx hb hT hown hK hP 2 rfl rfl dX7_become_13 ?_
      refine va_alen (v := (Int32.ofNat nn)) hx hb hK hP 3 0 rfl rfl rfl dX7_become_16 ?_
      refine x_icmp_ge (tgt := 38) hx hb dX7_become_17 (by decide) hm (fun hm => ?_) (fun hm => ?_)
      · refine lv_aload_n hx hb dX7_become_38 rfl (lv_at hl 0 rfl) ?_
        refine lv_aload_n hx hb dX7_become_39 rfl (lv_at hl 1 rfl) ?_
        refine gf_X7_26 (v := .int (O.1)) hx hb hT hown hK hP 2 rfl rfl dX7_become_40 ?_
        refine pf_X7_26 (wf := (fun u => WR2 cs ad b b2 mo wi nn O u)) (u0 := ((O.1), S.2)) hx hb hT hown hK hP hD hS 0 rfl (Nat.le_of_ble_eq_true rfl) rfl rfl rfl hm dX7_become_43 (fun S2 H locs hm hP hD hS => ?_)
        exact x_vretW (wf := (fun u => WR2 cs ad b b2 mo wi nn O u)) hx hb hr hlk hK hP hD hS hm dX7_become_46
      · refine lv_aload_n hx hb dX7_become_20 rfl (lv_at hl 0 rfl) ?_
        refine gf_X7_22 (v := .ref (ad (b + 1))) hx hb hT hown hK hP 0 rfl rfl dX7_become_21 ?_
        refine lv_iload_n hx hb dX7_become_24 rfl (lv_at hl 2 rfl) ?_
        refine lv_aload_n hx hb dX7_become_25 rfl (lv_at hl 1 rfl) ?_
        refine gf_X7_22 (v := .ref (ad (b2 + 1))) hx hb hT hown hK hP 2 rfl rfl dX7_become_26 ?_
        refine lv_iload_n hx hb dX7_become_29 rfl (lv_at hl 2 rfl) ?_
        refine x_iald hx hb hK hP 3 rfl hm dX7_become_30 (fun v3 hm => ?_)
        refine x_iast hx hb hK hP hD hS 1 rfl (fun j => (S.1, upd S.2 j v3)) (fun u => WR2 cs ad b b2 mo wi nn O u) (fun _ => rfl) hm dX7_become_31 (fun S4 H locs hm hP hD hS => ?_)
        refine x_iinc (lv' := fun x5 => [(2, .int x5), (0, .ref (ad b)), (1, .ref (ad b2))]) hx hb dX7_become_32 hl (k := 2) rfl (by decide) (v0 := (nI 1)) (by decide) (fun _ => rfl) hm (fun x5 ls hm hl => ?_)
        refine lv_goto (tgt := 2) hx hb dX7_become_35 (by decide) ?_
        exact ih x5 S4 hm H locs hP hD hS ls (lv_sub hl [1, 2, 0] rfl)
set_option maxHeartbeats 4000000 in
set_option maxRecDepth 100000 in
theorem tcX7_become (l : Launch) (D : va_G) (cs : CS) (ad : Nat → Nat) (b b2 : Nat) (mo wi : Int32) (nn : Nat) (O : RS) (sz : Nat) (S : RS) (z : RS) (hm : mX7_become nn O S = some z) : Met l yX7_become (Cond.code yX7_become cX7_become 3 none :: gw_tbl) ({ frames := 0, cells := 0, slots := 0, locals := 0 }) (PcW D cs sz (WR2 cs ad b b2 mo wi nn O S) [.ref (ad b), .ref (ad b2)]) (QWv D cs (va_A (WR2 cs ad b b2 mo wi nn O S) sz) (fun u => WR2 cs ad b b2 mo wi nn O u) z) 0 0 (va_A (WR2 cs ad b b2 mo wi nn O S) sz) := by
  refine met_W rfl (Nat.le_of_ble_eq_true rfl) (fun p e s m below meth c E hP hD hS hA ls hl => ?_)
  generalize va_A (WR2 cs ad b b2 mo wi nn O S) sz = A at hD hS hA ⊢
  obtain ⟨hx, hb, hr, hml, hown, hlk, hT, hN, hK⟩ := id E
  obtain ⟨H, hH⟩ : ∃ H, H = s.heap := ⟨_, rfl⟩
  obtain ⟨locs, hlo⟩ : ∃ L : List Loc, L = [] := ⟨_, rfl⟩
  have hP : va_P D classes (WR2 cs ad b b2 mo wi nn O S) H := by rw [hH]; exact hP
  have hS : va_S A s.heap H locs := by rw [hH, hlo]; exact hS
  rw [show W p l e _ s m _ below meth c s.heap [] 0 0 = W p l e _ s m _ below meth c H locs 0 0 by rw [hH, hlo]]
  have hl : lv_has ls 3 [(0, .ref (ad b)), (1, .ref (ad b2))] := hl
  unfold mX7_become at hm
  refine lv_iconst (v := (nI 0)) hx hb dX7_become_0 (by decide) ?_
  refine lv_istore_n (lv' := [(2, .int (nI 0)), (0, .ref (ad b)), (1, .ref (ad b2))]) hx hb dX7_become_1 rfl hl (by decide) rfl (fun ls hl => ?_)
  exact kX7_become_L2 E hA _ FU (nI 0) S hm H locs hP hD hS ls (lv_sub hl [1, 2, 0] rfl)
