noncomputable def mX3_kindNumbered (S : MT) (a1 : Int32) : Option Nat := (if a1 < 0 then none else (if a1 < (nI 6) then adq 6 a1 fun j1 => some j1 else none))
set_option maxHeartbeats 4000000 in
set_option maxRecDepth 100000 in
theorem tcX3_kindNumbered (l : Launch) (D : va_G) (cs : CS) (ad : Nat → Nat) (b : Nat) (S : MT) (a1 : Int32) (z : Nat) (hm : mX3_kindNumbered S a1 = some z) : Met l yX3_kindNumbered (Cond.code yX3_kindNumbered cX3_kindNumbered 3 (some (.object "DoeRoe$Plain")) :: gw_tbl) ({ frames := 0, cells := 0, slots := 0, locals := 0 }) (PcR D cs (WT cs ad b S) [.ref (ad b), .int a1]) (QRa ad z) 0 0 NoF := by
  refine met_R rfl (Nat.le_of_ble_eq_true rfl) (fun p e s m below meth c E hP ls hl => ?_)
  obtain ⟨hx, hb, hr, hml, hown, hlk, hT, hN, hK⟩ := id E
  have hl : lv_has ls 3 [(0, .ref (ad b)), (1, .int a1)] := hl
  unfold mX3_kindNumbered at hm
  refine lv_iload_n hx hb dX3_kindNumbered_0 rfl (lv_at hl 1 rfl) ?_
  refine x_if_lt (tgt := 13) hx hb dX3_kindNumbered_1 (by decide) hm (fun hm => ?_) (fun hm => ?_)
  · refine lv_aload_n hx hb dX3_kindNumbered_13 rfl (lv_at hl 0 rfl) ?_
    refine gf_X3_18 (v := .ref (ad (b + 1))) hx hb hT hown hK hP 0 rfl rfl dX3_kindNumbered_14 ?_
    cases hm
  · refine lv_iload_n hx hb dX3_kindNumbered_4 rfl (lv_at hl 1 rfl) ?_
    refine lv_aload_n hx hb dX3_kindNumbered_5 rfl (lv_at hl 0 rfl) ?_
    refine gf_X3_9 (v := .ref (ad 1)) hx hb hT hown hK hP 0 rfl rfl dX3_kindNumbered_6 ?_
    refine va_alen (v := (nI 6)) hx hb hK hP 12 2 rfl rfl rfl dX3_kindNumbered_9 ?_
    refine x_icmp_lt (tgt := 18) hx hb dX3_kindNumbered_10 (by decide) hm (fun hm => ?_) (fun hm => ?_)
    · refine lv_aload_n hx hb dX3_kindNumbered_18 rfl (lv_at hl 0 rfl) ?_
      refine gf_X3_9 (v := .ref (ad 1)) hx hb hT hown hK hP 0 rfl rfl dX3_kindNumbered_19 ?_
      refine lv_iload_n hx hb dX3_kindNumbered_22 rfl (lv_at hl 1 rfl) ?_
      refine x_aald hx hb hK hP 12 rfl hm dX3_kindNumbered_23 (fun j1 hj1 hm => ?_)
      refine lv_astore_n (lv' := [(2, .ref (ad (2 + j1))), (0, .ref (ad b)), (1, .int a1)]) hx hb dX3_kindNumbered_24 rfl hl (by decide) rfl (fun ls hl => ?_)
      refine lv_aload_n hx hb dX3_kindNumbered_25 rfl (lv_at hl 0 rfl) ?_
      refine lv_ifnonnull (tgt := 36) hx hb dX3_kindNumbered_26 (by decide) ?_
      refine lv_aload_n hx hb dX3_kindNumbered_36 rfl (lv_at hl 0 rfl) ?_
      exact x_aretR hx hb hr hlk hj1 hm dX3_kindNumbered_37
    · refine lv_aload_n hx hb dX3_kindNumbered_13 rfl (lv_at hl 0 rfl) ?_
      refine gf_X3_18 (v := .ref (ad (b + 1))) hx hb hT hown hK hP 0 rfl rfl dX3_kindNumbered_14 ?_
      cases hm
noncomputable def mX3_allowed (S : MT) (a1 : Int32) (a2 : Int32) (a3 : Int32) : Option Int32 := (mX7_cell (nI 6) (nI 4) 24 (S.1 0) a1 (nI 1)).bind fun r1 => (mJ6_bitCount_0f7a4 r1).bind fun r2 => (mJ6_bitCount_0f7a4 (r1 &&& a2)).bind fun r3 => (mX7_cell (nI 6) (nI 4) 24 (S.1 0) a1 (nI 0)).bind fun r4 => (mX3_kindNumbered S r4).bind fun r5 => (v_allows r5 r2 r3 a3).bind fun r6 => zo r6 (some r6)
set_option maxHeartbeats 4000000 in
set_option maxRecDepth 100000 in
theorem tcX3_allowed (l : Launch) (D : va_G) (cs : CS) (ad : Nat → Nat) (b : Nat) (S : MT) (a1 : Int32) (a2 : Int32) (a3 : Int32) (z : Int32) (hm : mX3_allowed S a1 a2 a3 = some z) : Met l yX3_allowed (Cond.code yX3_allowed cX3_allowed 7 (some .boolean) :: gw_tbl) ({ frames := 2, cells := 0, slots := 0, locals := 46 }) (PcR D cs (WT cs ad b S) [.ref (ad b), .int a1, .int a2, .int a3]) (QRi z) 0 0 NoF := by
  refine met_R rfl (Nat.le_of_ble_eq_true rfl) (fun p e s m below meth c E hP ls hl => ?_)
  obtain ⟨hx, hb, hr, hml, hown, hlk, hT, hN, hK⟩ := id E
  have hl : lv_has ls 7 [(0, .ref (ad b)), (1, .int a1), (2, .int a2), (3, .int a3)] := hl
  unfold mX3_allowed at hm
  refine lv_aload_n hx hb dX3_allowed_0 rfl (lv_at hl 0 rfl) ?_
  refine gf_X3_27 (v := .ref (ad (b + 2))) hx hb hT hown hK hP 0 rfl rfl dX3_allowed_1 ?_
  refine lv_iload_n hx hb dX3_allowed_4 rfl (lv_at hl 1 rfl) ?_
  refine lv_iconst (v := (nI 1)) hx hb dX3_allowed_5 (by decide) ?_
  refine xV_i (As := [.int a1, .int (nI 1)]) (rest := []) hx hb hml hown hT hN hK (hP.sub (ws' := WR cs ad (b + 2) (nI 6) (nI 4) 24 (S.1 0)) [2, 3] rfl) cw_X3_80 hm (fun z h => tcX7_cell l D cs ad (b + 2) (nI 6) (nI 4) 24 (S.1 0) a1 (nI 1) z h) ⟨rfl, rfl⟩ ⟨by decide, by decide⟩ (b := (ad (b + 2))) 0 rfl rfl rfl hl.1 rfl rfl (Nat.le_of_ble_eq_true rfl) dX3_allowed_6 ⟨Nat.zero_le _, Nat.zero_le _⟩ (fun r1 hm => ?_)
  refine lv_istore (lv' := [(4, .int r1), (0, .ref (ad b)), (1, .int a1), (2, .int a2), (3, .int a3)]) hx hb dX3_allowed_9 hl (by decide) rfl (fun ls hl => ?_)
  refine lv_iload hx hb dX3_allowed_11 (lv_at hl 0 rfl) ?_
  refine xS_i (As := [.int r1]) (rest := []) hx hb hml hown hT hN hK (hP.sub (ws' := []) [] rfl) cw_X3_87 hm (fun z h => tcJ6_bitCount_0f7a4 l D cs r1 z h) ⟨rfl, rfl⟩ ⟨by decide, by decide⟩ hl.1 rfl rfl (Nat.le_of_ble_eq_true rfl) dX3_allowed_13 ⟨Nat.zero_le _, Nat.zero_le _⟩ (fun r2 hm => ?_)
  refine lv_istore (lv' := [(5, .int r2), (4, .int r1), (0, .ref (ad b)), (1, .int a1), (2, .int a2), (3, .int a3)]) hx hb dX3_allowed_16 hl (by decide) rfl (fun ls hl => ?_)
  refine lv_iload hx hb dX3_allowed_18 (lv_at hl 1 rfl) ?_
  refine lv_iload_n hx hb dX3_allowed_20 rfl (lv_at hl 4 rfl) ?_
  refine lv_iand hx hb dX3_allowed_21 ?_
  refine xS_i (As := [.int (r1 &&& a2)]) (rest := []) hx hb hml hown hT hN hK (hP.sub (ws' := []) [] rfl) cw_X3_87 hm (fun z h => tcJ6_bitCount_0f7a4 l D cs (r1 &&& a2) z h) ⟨rfl, rfl⟩ ⟨by decide, by decide⟩ hl.1 rfl rfl (Nat.le_of_ble_eq_true rfl) dX3_allowed_22 ⟨Nat.zero_le _, Nat.zero_le _⟩ (fun r3 hm => ?_)
  refine lv_istore (lv' := [(6, .int r3), (5, .int r2), (4, .int r1), (0, .ref (ad b)), (1, .int a1), (2, .int a2), (3, .int a3)]) hx hb dX3_allowed_25 hl (by decide) rfl (fun ls hl => ?_)
  refine lv_aload_n hx hb dX3_allowed_27 rfl (lv_at hl 3 rfl) ?_
  refine lv_aload_n hx hb dX3_allowed_28 rfl (lv_at hl 3 rfl) ?_
  refine gf_X3_27 (v := .ref (ad (b + 2))) hx hb hT hown hK hP 0 rfl rfl dX3_allowed_29 ?_
  refine lv_iload_n hx hb dX3_allowed_32 rfl (lv_at hl 4 rfl) ?_
  refine lv_iconst (v := (nI 0)) hx hb dX3_allowed_33 (by decide) ?_
  refine xV_i (As := [.int a1, .int (nI 0)]) (rest := [.ref (ad b)]) hx hb hml hown hT hN hK (hP.sub (ws' := WR cs ad (b + 2) (nI 6) (nI 4) 24 (S.1 0)) [2, 3] rfl) cw_X3_80 hm (fun z h => tcX7_cell l D cs ad (b + 2) (nI 6) (nI 4) 24 (S.1 0) a1 (nI 0) z h) ⟨rfl, rfl⟩ ⟨by decide, by decide⟩ (b := (ad (b + 2))) 0 rfl rfl rfl hl.1 rfl rfl (Nat.le_of_ble_eq_true rfl) dX3_allowed_34 ⟨Nat.zero_le _, Nat.zero_le _⟩ (fun r4 hm => ?_)
  refine xV_a (As := [.int r4]) (rest := []) hx hb hml hown hT hN hK hP cw_X3_93 hm (fun z h => tcX3_kindNumbered l D cs ad b S r4 z h) ⟨rfl, rfl⟩ ⟨by decide, by decide⟩ (b := (ad b)) 0 rfl rfl rfl hl.1 rfl rfl (Nat.le_of_ble_eq_true rfl) dX3_allowed_37 ⟨Nat.zero_le _, Nat.zero_le _⟩ (fun r5 hr5 hm => ?_)
  refine lv_iload hx hb dX3_allowed_40 (lv_at hl 1 rfl) ?_
  refine lv_iload hx hb dX3_allowed_42 (lv_at hl 0 rfl) ?_
  refine lv_iload_n hx hb dX3_allowed_44 rfl (lv_at hl 6 rfl) ?_
  refine xK_97 (rest := []) hx hb hml hown hT hN hK hP hr5 hm ⟨by decide, by decide⟩ hl.1 (Nat.le_of_ble_eq_true rfl) dX3_allowed_45 ⟨Nat.zero_le _, Nat.zero_le _⟩ (fun r6 hm => ?_)
  exact x_zretR hx hb hr hlk hm dX3_allowed_48
noncomputable def mX3_ownCost (S : MT) (a1 : Int32) (a2 : Int32) : Option Int32 := (mX7_cell (nI 6) (nI 4) 24 (S.1 0) a1 (nI 0)).bind fun r1 => (mX3_kindNumbered S r1).bind fun r2 => (mX7_cell (nI 6) (nI 4) 24 (S.1 0) a1 (nI 3)).bind fun r3 => (v_cost r2 r3 a2).bind fun r4 => some r4
set_option maxHeartbeats 4000000 in
set_option maxRecDepth 100000 in
theorem tcX3_ownCost (l : Launch) (D : va_G) (cs : CS) (ad : Nat → Nat) (b : Nat) (S : MT) (a1 : Int32) (a2 : Int32) (z : Int32) (hm : mX3_ownCost S a1 a2 = some z) : Met l yX3_ownCost (Cond.code yX3_ownCost cX3_ownCost 3 (some .int) :: gw_tbl) ({ frames := 3, cells := 0, slots := 0, locals := 66 }) (PcR D cs (WT cs ad b S) [.ref (ad b), .int a1, .int a2]) (QRi z) 0 0 NoF := by
  refine met_R rfl (Nat.le_of_ble_eq_true rfl) (fun p e s m below meth c E hP ls hl => ?_)
  obtain ⟨hx, hb, hr, hml, hown, hlk, hT, hN, hK⟩ := id E
  have hl : lv_has ls 3 [(0, .ref (ad b)), (1, .int a1), (2, .int a2)] := hl
  unfold mX3_ownCost at hm
  refine lv_aload_n hx hb dX3_ownCost_0 rfl (lv_at hl 0 rfl) ?_
  refine lv_aload_n hx hb dX3_ownCost_1 rfl (lv_at hl 0 rfl) ?_
  refine gf_X3_27 (v := .ref (ad (b + 2))) hx hb hT hown hK hP 0 rfl rfl dX3_ownCost_2 ?_
  refine lv_iload_n hx hb dX3_ownCost_5 rfl (lv_at hl 1 rfl) ?_
  refine lv_iconst (v := (nI 0)) hx hb dX3_ownCost_6 (by decide) ?_
  refine xV_i (As := [.int a1, .int (nI 0)]) (rest := [.ref (ad b)]) hx hb hml hown hT hN hK (hP.sub (ws' := WR cs ad (b + 2) (nI 6) (nI 4) 24 (S.1 0)) [2, 3] rfl) cw_X3_80 hm (fun z h => tcX7_cell l D cs ad (b + 2) (nI 6) (nI 4) 24 (S.1 0) a1 (nI 0) z h) ⟨rfl, rfl⟩ ⟨by decide, by decide⟩ (b := (ad (b + 2))) 0 rfl rfl rfl hl.1 rfl rfl (Nat.le_of_ble_eq_true rfl) dX3_ownCost_7 ⟨Nat.zero_le _, Nat.zero_le _⟩ (fun r1 hm => ?_)
  refine xV_a (As := [.int r1]) (rest := []) hx hb hml hown hT hN hK hP cw_X3_93 hm (fun z h => tcX3_kindNumbered l D cs ad b S r1 z h) ⟨rfl, rfl⟩ ⟨by decide, by decide⟩ (b := (ad b)) 0 rfl rfl rfl hl.1 rfl rfl (Nat.le_of_ble_eq_true rfl) dX3_ownCost_10 ⟨Nat.zero_le _, Nat.zero_le _⟩ (fun r2 hr2 hm => ?_)
  refine lv_aload_n hx hb dX3_ownCost_13 rfl (lv_at hl 0 rfl) ?_
  refine gf_X3_27 (v := .ref (ad (b + 2))) hx hb hT hown hK hP 0 rfl rfl dX3_ownCost_14 ?_
  refine lv_iload_n hx hb dX3_ownCost_17 rfl (lv_at hl 1 rfl) ?_
  refine lv_iconst (v := (nI 3)) hx hb dX3_ownCost_18 (by decide) ?_
  refine xV_i (As := [.int a1, .int (nI 3)]) (rest := [.ref (ad (2 + r2))]) hx hb hml hown hT hN hK (hP.sub (ws' := WR cs ad (b + 2) (nI 6) (nI 4) 24 (S.1 0)) [2, 3] rfl) cw_X3_80 hm (fun z h => tcX7_cell l D cs ad (b + 2) (nI 6) (nI 4) 24 (S.1 0) a1 (nI 3) z h) ⟨rfl, rfl⟩ ⟨by decide, by decide⟩ (b := (ad (b + 2))) 0 rfl rfl rfl hl.1 rfl rfl (Nat.le_of_ble_eq_true rfl) dX3_ownCost_19 ⟨Nat.zero_le _, Nat.zero_le _⟩ (fun r3 hm => ?_)
  refine lv_iload_n hx hb dX3_ownCost_22 rfl (lv_at hl 2 rfl) ?_
  refine xK_101 (rest := []) hx hb hml hown hT hN hK hP hr2 hm ⟨by decide, by decide⟩ hl.1 (Nat.le_of_ble_eq_true rfl) dX3_ownCost_23 ⟨Nat.zero_le _, Nat.zero_le _⟩ (fun r4 hm => ?_)
  exact x_iretR hx hb hr hlk hm dX3_ownCost_26
noncomputable def mX3_denialWins (S : MT) (a1 : Int32) : Option Int32 := (mX7_cell (nI 6) (nI 4) 24 (S.1 0) a1 (nI 1)).bind fun r1 => (mJ6_bitCount_0f7a4 (r1 &&& ((S.2 7) ^^^ (-1 : Int32)))).bind fun r2 => (mX7_cell (nI 6) (nI 4) 24 (S.1 0) a1 (nI 0)).bind fun r3 => (mX3_kindNumbered S r3).bind fun r4 => (v_losesWith r4 r2).bind fun r5 => zo r5 (some r5)
set_option maxHeartbeats 4000000 in
set_option maxRecDepth 100000 in
theorem tcX3_denialWins (l : Launch) (D : va_G) (cs : CS) (ad : Nat → Nat) (b : Nat) (S : MT) (a1 : Int32) (z : Int32) (hm : mX3_denialWins S a1 = some z) : Met l yX3_denialWins (Cond.code yX3_denialWins cX3_denialWins 3 (some .boolean) :: gw_tbl) ({ frames := 1, cells := 0, slots := 0, locals := 23 }) (PcR D cs (WT cs ad b S) [.ref (ad b), .int a1]) (QRi z) 0 0 NoF := by
  refine met_R rfl (Nat.le_of_ble_eq_true rfl) (fun p e s m below meth c E hP ls hl => ?_)
  obtain ⟨hx, hb, hr, hml, hown, hlk, hT, hN, hK⟩ := id E
  have hl : lv_has ls 3 [(0, .ref (ad b)), (1, .int a1)] := hl
  unfold mX3_denialWins at hm
  refine lv_aload_n hx hb dX3_denialWins_0 rfl (lv_at hl 0 rfl) ?_
  refine gf_X3_27 (v := .ref (ad (b + 2))) hx hb hT hown hK hP 0 rfl rfl dX3_denialWins_1 ?_
  refine lv_iload_n hx hb dX3_denialWins_4 rfl (lv_at hl 1 rfl) ?_
  refine lv_iconst (v := (nI 1)) hx hb dX3_denialWins_5 (by decide) ?_
  refine xV_i (As := [.int a1, .int (nI 1)]) (rest := []) hx hb hml hown hT hN hK (hP.sub (ws' := WR cs ad (b + 2) (nI 6) (nI 4) 24 (S.1 0)) [2, 3] rfl) cw_X3_80 hm (fun z h => tcX7_cell l D cs ad (b + 2) (nI 6) (nI 4) 24 (S.1 0) a1 (nI 1) z h) ⟨rfl, rfl⟩ ⟨by decide, by decide⟩ (b := (ad (b + 2))) 0 rfl rfl rfl hl.1 rfl rfl (Nat.le_of_ble_eq_true rfl) dX3_denialWins_6 ⟨Nat.zero_le _, Nat.zero_le _⟩ (fun r1 hm => ?_)
  refine lv_aload_n hx hb dX3_denialWins_9 rfl (lv_at hl 0 rfl) ?_
  refine gf_X3_43 (v := .int (S.2 7)) hx hb hT hown hK hP 0 rfl rfl dX3_denialWins_10 ?_
  refine lv_iconst (v := (-1 : Int32)) hx hb dX3_denialWins_13 (by decide) ?_
  refine lv_ixor hx hb dX3_denialWins_14 ?_
  refine lv_iand hx hb dX3_denialWins_15 ?_
  refine xS_i (As := [.int (r1 &&& ((S.2 7) ^^^ (-1 : Int32)))]) (rest := []) hx hb hml hown hT hN hK (hP.sub (ws' := []) [] rfl) cw_X3_87 hm (fun z h => tcJ6_bitCount_0f7a4 l D cs (r1 &&& ((S.2 7) ^^^ (-1 : Int32))) z h) ⟨rfl, rfl⟩ ⟨by decide, by decide⟩ hl.1 rfl rfl (Nat.le_of_ble_eq_true rfl) dX3_denialWins_16 ⟨Nat.zero_le _, Nat.zero_le _⟩ (fun r2 hm => ?_)
  refine lv_istore_n (lv' := [(2, .int r2), (0, .ref (ad b)), (1, .int a1)]) hx hb dX3_denialWins_19 rfl hl (by decide) rfl (fun ls hl => ?_)
  refine lv_aload_n hx hb dX3_denialWins_20 rfl (lv_at hl 1 rfl) ?_
  refine lv_aload_n hx hb dX3_denialWins_21 rfl (lv_at hl 1 rfl) ?_
  refine gf_X3_27 (v := .ref (ad (b + 2))) hx hb hT hown hK hP 0 rfl rfl dX3_denialWins_22 ?_
  refine lv_iload_n hx hb dX3_denialWins_25 rfl (lv_at hl 2 rfl) ?_
  refine lv_iconst (v := (nI 0)) hx hb dX3_denialWins_26 (by decide) ?_
  refine xV_i (As := [.int a1, .int (nI 0)]) (rest := [.ref (ad b)]) hx hb hml hown hT hN hK (hP.sub (ws' := WR cs ad (b + 2) (nI 6) (nI 4) 24 (S.1 0)) [2, 3] rfl) cw_X3_80 hm (fun z h => tcX7_cell l D cs ad (b + 2) (nI 6) (nI 4) 24 (S.1 0) a1 (nI 0) z h) ⟨rfl, rfl⟩ ⟨by decide, by decide⟩ (b := (ad (b + 2))) 0 rfl rfl rfl hl.1 rfl rfl (Nat.le_of_ble_eq_true rfl) dX3_denialWins_27 ⟨Nat.zero_le _, Nat.zero_le _⟩ (fun r3 hm => ?_)
  refine xV_a (As := [.int r3]) (rest := []) hx hb hml hown hT hN hK hP cw_X3_93 hm (fun z h => tcX3_kindNumbered l D cs ad b S r3 z h) ⟨rfl, rfl⟩ ⟨by decide, by decide⟩ (b := (ad b)) 0 rfl rfl rfl hl.1 rfl rfl (Nat.le_of_ble_eq_true rfl) dX3_denialWins_30 ⟨Nat.zero_le _, Nat.zero_le _⟩ (fun r4 hr4 hm => ?_)
  refine lv_iload_n hx hb dX3_denialWins_33 rfl (lv_at hl 0 rfl) ?_
  refine xK_104 (rest := []) hx hb hml hown hT hN hK hP hr4 hm ⟨by decide, by decide⟩ hl.1 (Nat.le_of_ble_eq_true rfl) dX3_denialWins_34 ⟨Nat.zero_le _, Nat.zero_le _⟩ (fun r5 hm => ?_)
  exact x_zretR hx hb hr hlk hm dX3_denialWins_37
noncomputable def mX3_pleadedThatLose_L4 (S : MT) : Nat → Int32 → Int32 → Option Int32 := fun n => Nat.rec (motive := fun _ => Int32 → Int32 → Option Int32) (fun _ _ => none) (fun _ rc => fun y1 y2 => (if ((S.1 0).1) ≤ y2 then some y1 else (mX10_holds (S.2 8) y2).bind fun r1 => (if r1 = 0 then nm (y2 + (nI 1)) fun x2 => rc y1 x2 else (mX3_denialWins S y2).bind fun r3 => (if r3 = 0 then nm (y2 + (nI 1)) fun x4 => rc y1 x4 else nm (y1 ||| ((nI 1) <<< (y2 &&& 31))) fun x5 => nm (y2 + (nI 1)) fun x6 => rc x5 x6)))) n
theorem mX3_pleadedThatLose_L4_s (S : MT) (n : Nat) (y1 : Int32) (y2 : Int32) : mX3_pleadedThatLose_L4 S (n + 1) y1 y2 = (if ((S.1 0).1) ≤ y2 then some y1 else (mX10_holds (S.2 8) y2).bind fun r1 => (if r1 = 0 then nm (y2 + (nI 1)) fun x2 => (mX3_pleadedThatLose_L4 S n) y1 x2 else (mX3_denialWins S y2).bind fun r3 => (if r3 = 0 then nm (y2 + (nI 1)) fun x4 => (mX3_pleadedThatLose_L4 S n) y1 x4 else nm (y1 ||| ((nI 1) <<< (y2 &&& 31))) fun x5 => nm (y2 + (nI 1)) fun x6 => (mX3_pleadedThatLose_L4 S n) x5 x6))) := rfl
noncomputable def mX3_pleadedThatLose (S : MT) : Option Int32 := mX3_pleadedThatLose_L4 S FU (nI 0) (nI 0)
set_option maxHeartbeats 4000000 in
set_option maxRecDepth 100000 in
theorem kX3_pleadedThatLose_L4 {p : Program} {l : Launch} {e : Env} {s : State} {m : MethodId} {below : List Frame} {meth : Method} {c : Code} {D : va_G} {cs : CS}  {ad : Nat → Nat} {b : Nat} {S : MT}  (E : EV p s m [.ref (ad b)].toArray meth c cX3_pleadedThatLose 3 RX3 (some .int) D cs) (hP : va_P D classes (WT cs ad b S) s.heap) (z : Int32) : ∀ (n : Nat) (y1 : Int32) (y2 : Int32), mX3_pleadedThatLose_L4 S n y1 y2 = some z → ∀ ls : Array Slot, lv_has ls 3 [(0, .ref (ad b)), (1, .int y1), (2, .int y2)] → W p l e ({ frames := 2, cells := 0, slots := 0, locals := 45 }) s m [.ref (ad b)].toArray below meth c s.heap [] 0 0 (MQ below (QRi z) [.ref (ad b)].toArray s 0 0 NoF) (F0 m 4 ls []) := by
  obtain ⟨hx, hb, hr, hml, hown, hlk, hT, hN, hK⟩ := id E
  intro n
  induction n with
  | zero =>
    intro y1 y2 hm
    exact nomatch (show (none : Option Int32) = some z from hm)
  | succ n ih =>
    intro y1 y2 hm ls hl
    rw [mX3_pleadedThatLose_L4_s] at hm
    refine lv_iload_n hx hb dX3_pleadedThatLose_4 rfl (lv_at hl 2 rfl) ?_
    refine lv_aload_n hx hb dX3_pleadedThatLose_5 rfl (lv_at hl 0 rfl) ?_
    refine gf_X3_27 (v := .ref (ad (b + 2))) hx hb hT hown hK hP 0 rfl rfl dX3_pleadedThatLose_6 ?_
    refine gf_X3_77 (v := .int ((S.1 0).1)) hx hb hT hown hK hP 2 rfl rfl dX3_pleadedThatLose_9 ?_
    refine x_icmp_ge (tgt := 46) hx hb dX3_pleadedThatLose_12 (by decide) hm (fun hm => ?_) (fun hm => ?_)
    · refine lv_iload_n hx hb dX3_pleadedThatLose_46 rfl (lv_at hl 1 rfl) ?_
      exact x_iretR hx hb hr hlk hm dX3_pleadedThatLose_47
    · refine lv_aload_n hx hb dX3_pleadedThatLose_15 rfl (lv_at hl 0 rfl) ?_
      refine gf_X3_53 (v := .int (S.2 8)) hx hb hT hown hK hP 0 rfl rfl dX3_pleadedThatLose_16 ?_
      refine lv_iload_n hx hb dX3_pleadedThatLose_19 rfl (lv_at hl 2 rfl) ?_
      refine xN_i (As := [.int (S.2 8), .int y2]) (rest := []) hx hb hml hown hT hN hK (hP.sub (ws' := []) [] rfl) cw_X3_108 hm (fun z h => tcX10_holds l D cs (S.2 8) y2 z h) ⟨rfl, rfl⟩ ⟨by decide, by decide⟩ hl.1 rfl rfl (Nat.le_of_ble_eq_true rfl) dX3_pleadedThatLose_20 ⟨Nat.zero_le _, Nat.zero_le _⟩ (fun r1 hm => ?_)
      refine x_if_eq (tgt := 40) hx hb dX3_pleadedThatLose_23 (by decide) hm (fun hm => ?_) (fun hm => ?_)
      · refine x_iinc (lv' := fun x2 => [(2, .int x2), (0, .ref (ad b)), (1, .int y1)]) hx hb dX3_pleadedThatLose_40 hl (k := 2) rfl (by decide) (v0 := (nI 1)) (by decide) (fun _ => rfl) hm (fun x2 ls hm hl => ?_)
        refine lv_goto (tgt := 4) hx hb dX3_pleadedThatLose_43 (by decide) ?_
        exact ih y1 x2 hm ls (lv_sub hl [1, 2, 0] rfl)
      · refine lv_aload_n hx hb dX3_pleadedThatLose_26 rfl (lv_at hl 0 rfl) ?_
        refine lv_iload_n hx hb dX3_pleadedThatLose_27 rfl (lv_at hl 2 rfl) ?_
        refine xV_i (As := [.int y2]) (rest := []) hx hb hml hown hT hN hK hP cw_X3_112 hm (fun z h => tcX3_denialWins l D cs ad b S y2 z h) ⟨rfl, rfl⟩ ⟨by decide, by decide⟩ (b := (ad b)) 0 rfl rfl rfl hl.1 rfl rfl (Nat.le_of_ble_eq_true rfl) dX3_pleadedThatLose_28 ⟨Nat.zero_le _, Nat.zero_le _⟩ (fun r3 hm => ?_)
        refine x_if_eq (tgt := 40) hx hb dX3_pleadedThatLose_31 (by decide) hm (fun hm => ?_) (fun hm => ?_)
        · refine x_iinc (lv' := fun x4 => [(2, .int x4), (0, .ref (ad b)), (1, .int y1)]) hx hb dX3_pleadedThatLose_40 hl (k := 2) rfl (by decide) (v0 := (nI 1)) (by decide) (fun _ => rfl) hm (fun x4 ls hm hl => ?_)
          refine lv_goto (tgt := 4) hx hb dX3_pleadedThatLose_43 (by decide) ?_
          exact ih y1 x4 hm ls (lv_sub hl [1, 2, 0] rfl)
        · refine lv_iload_n hx hb dX3_pleadedThatLose_34 rfl (lv_at hl 1 rfl) ?_
          refine lv_iconst (v := (nI 1)) hx hb dX3_pleadedThatLose_35 (by decide) ?_
          refine lv_iload_n hx hb dX3_pleadedThatLose_36 rfl (lv_at hl 2 rfl) ?_
          refine lv_ishl hx hb dX3_pleadedThatLose_37 ?_
          refine lv_ior hx hb dX3_pleadedThatLose_38 ?_
          refine xi_nm hm (fun x5 hm => ?_)
          refine lv_istore_n (lv' := [(1, .int x5), (0, .ref (ad b)), (2, .int y2)]) hx hb dX3_pleadedThatLose_39 rfl hl (by decide) rfl (fun ls hl => ?_)
          refine x_iinc (lv' := fun x6 => [(2, .int x6), (1, .int x5), (0, .ref (ad b))]) hx hb dX3_pleadedThatLose_40 hl (k := 2) rfl (by decide) (v0 := (nI 1)) (by decide) (fun _ => rfl) hm (fun x6 ls hm hl => ?_)
          refine lv_goto (tgt := 4) hx hb dX3_pleadedThatLose_43 (by decide) ?_
          exact ih x5 x6 hm ls (lv_sub hl [2, 1, 0] rfl)
set_option maxHeartbeats 4000000 in
set_option maxRecDepth 100000 in
theorem tcX3_pleadedThatLose (l : Launch) (D : va_G) (cs : CS) (ad : Nat → Nat) (b : Nat) (S : MT) (z : Int32) (hm : mX3_pleadedThatLose S = some z) : Met l yX3_pleadedThatLose (Cond.code yX3_pleadedThatLose cX3_pleadedThatLose 3 (some .int) :: gw_tbl) ({ frames := 2, cells := 0, slots := 0, locals := 45 }) (PcR D cs (WT cs ad b S) [.ref (ad b)]) (QRi z) 0 0 NoF := by
  refine met_R rfl (Nat.le_of_ble_eq_true rfl) (fun p e s m below meth c E hP ls hl => ?_)
  obtain ⟨hx, hb, hr, hml, hown, hlk, hT, hN, hK⟩ := id E
  have hl : lv_has ls 3 [(0, .ref (ad b))] := hl
  unfold mX3_pleadedThatLose at hm
  refine lv_iconst (v := (nI 0)) hx hb dX3_pleadedThatLose_0 (by decide) ?_
  refine lv_istore_n (lv' := [(1, .int (nI 0)), (0, .ref (ad b))]) hx hb dX3_pleadedThatLose_1 rfl hl (by decide) rfl (fun ls hl => ?_)
  refine lv_iconst (v := (nI 0)) hx hb dX3_pleadedThatLose_2 (by decide) ?_
  refine lv_istore_n (lv' := [(2, .int (nI 0)), (1, .int (nI 0)), (0, .ref (ad b))]) hx hb dX3_pleadedThatLose_3 rfl hl (by decide) rfl (fun ls hl => ?_)
  exact kX3_pleadedThatLose_L4 E hP _ FU (nI 0) (nI 0) hm ls (lv_sub hl [2, 1, 0] rfl)
noncomputable def mX3_factsWith_L7 (S : MT) : Nat → Int32 → Int32 → Int32 → Option Int32 := fun n => Nat.rec (motive := fun _ => Int32 → Int32 → Int32 → Option Int32) (fun _ _ _ => none) (fun _ rc => fun y1 y2 y3 => (if ((S.1 0).1) ≤ y3 then some y2 else (mX10_holds y1 y3).bind fun r1 => (if r1 = 0 then nm (y3 + (nI 1)) fun x2 => rc y1 y2 x2 else (mX7_cell (nI 6) (nI 4) 24 (S.1 0) y3 (nI 2)).bind fun r3 => nm (y2 ||| ((nI 1) <<< (r3 &&& 31))) fun x4 => nm (y3 + (nI 1)) fun x5 => rc y1 x4 x5))) n
theorem mX3_factsWith_L7_s (S : MT) (n : Nat) (y1 : Int32) (y2 : Int32) (y3 : Int32) : mX3_factsWith_L7 S (n + 1) y1 y2 y3 = (if ((S.1 0).1) ≤ y3 then some y2 else (mX10_holds y1 y3).bind fun r1 => (if r1 = 0 then nm (y3 + (nI 1)) fun x2 => (mX3_factsWith_L7 S n) y1 y2 x2 else (mX7_cell (nI 6) (nI 4) 24 (S.1 0) y3 (nI 2)).bind fun r3 => nm (y2 ||| ((nI 1) <<< (r3 &&& 31))) fun x4 => nm (y3 + (nI 1)) fun x5 => (mX3_factsWith_L7 S n) y1 x4 x5)) := rfl
noncomputable def mX3_factsWith (S : MT) (a1 : Int32) : Option Int32 := mX3_factsWith_L7 S FU a1 (S.2 7) (nI 0)
set_option maxHeartbeats 4000000 in
set_option maxRecDepth 100000 in
theorem kX3_factsWith_L7 {p : Program} {l : Launch} {e : Env} {s : State} {m : MethodId} {below : List Frame} {meth : Method} {c : Code} {D : va_G} {cs : CS}  {ad : Nat → Nat} {b : Nat} {S : MT} {a1 : Int32} (E : EV p s m [.ref (ad b), .int a1].toArray meth c cX3_factsWith 4 RX3 (some .int) D cs) (hP : va_P D classes (WT cs ad b S) s.heap) (z : Int32) : ∀ (n : Nat) (y1 : Int32) (y2 : Int32) (y3 : Int32), mX3_factsWith_L7 S n y1 y2 y3 = some z → ∀ ls : Array Slot, lv_has ls 4 [(0, .ref (ad b)), (1, .int y1), (2, .int y2), (3, .int y3)] → W p l e ({ frames := 1, cells := 0, slots := 0, locals := 23 }) s m [.ref (ad b), .int a1].toArray below meth c s.heap [] 0 0 (MQ below (QRi z) [.ref (ad b), .int a1].toArray s 0 0 NoF) (F0 m 7 ls []) := by
  obtain ⟨hx, hb, hr, hml, hown, hlk, hT, hN, hK⟩ := id E
  intro n
  induction n with
  | zero =>
    intro y1 y2 y3 hm
    exact nomatch (show (none : Option Int32) = some z from hm)
  | succ n ih =>
    intro y1 y2 y3 hm ls hl
    rw [mX3_factsWith_L7_s] at hm
    refine lv_iload_n hx hb dX3_factsWith_7 rfl (lv_at hl 3 rfl) ?_
    refine lv_aload_n hx hb dX3_factsWith_8 rfl (lv_at hl 0 rfl) ?_
    refine gf_X3_27 (v := .ref (ad (b + 2))) hx hb hT hown hK hP 0 rfl rfl dX3_factsWith_9 ?_
    refine gf_X3_77 (v := .int ((S.1 0).1)) hx hb hT hown hK hP 2 rfl rfl dX3_factsWith_12 ?_
    refine x_icmp_ge (tgt := 46) hx hb dX3_factsWith_15 (by decide) hm (fun hm => ?_) (fun hm => ?_)
    · refine lv_iload_n hx hb dX3_factsWith_46 rfl (lv_at hl 2 rfl) ?_
      exact x_iretR hx hb hr hlk hm dX3_factsWith_47
    · refine lv_iload_n hx hb dX3_factsWith_18 rfl (lv_at hl 1 rfl) ?_
      refine lv_iload_n hx hb dX3_factsWith_19 rfl (lv_at hl 3 rfl) ?_
      refine xN_i (As := [.int y1, .int y3]) (rest := []) hx hb hml hown hT hN hK (hP.sub (ws' := []) [] rfl) cw_X3_108 hm (fun z h => tcX10_holds l D cs y1 y3 z h) ⟨rfl, rfl⟩ ⟨by decide, by decide⟩ hl.1 rfl rfl (Nat.le_of_ble_eq_true rfl) dX3_factsWith_20 ⟨Nat.zero_le _, Nat.zero_le _⟩ (fun r1 hm => ?_)
      refine x_if_eq (tgt := 40) hx hb dX3_factsWith_23 (by decide) hm (fun hm => ?_) (fun hm => ?_)
      · refine x_iinc (lv' := fun x2 => [(3, .int x2), (0, .ref (ad b)), (1, .int y1), (2, .int y2)]) hx hb dX3_factsWith_40 hl (k := 3) rfl (by decide) (v0 := (nI 1)) (by decide) (fun _ => rfl) hm (fun x2 ls hm hl => ?_)
        refine lv_goto (tgt := 7) hx hb dX3_factsWith_43 (by decide) ?_
        exact ih y1 y2 x2 hm ls (lv_sub hl [1, 2, 3, 0] rfl)
      · refine lv_iload_n hx hb dX3_factsWith_26 rfl (lv_at hl 2 rfl) ?_
        refine lv_iconst (v := (nI 1)) hx hb dX3_factsWith_27 (by decide) ?_
        refine lv_aload_n hx hb dX3_factsWith_28 rfl (lv_at hl 0 rfl) ?_
        refine gf_X3_27 (v := .ref (ad (b + 2))) hx hb hT hown hK hP 0 rfl rfl dX3_factsWith_29 ?_
        refine lv_iload_n hx hb dX3_factsWith_32 rfl (lv_at hl 3 rfl) ?_
        refine lv_iconst (v := (nI 2)) hx hb dX3_factsWith_33 (by decide) ?_
        refine xV_i (As := [.int y3, .int (nI 2)]) (rest := [.int (nI 1), .int y2]) hx hb hml hown hT hN hK (hP.sub (ws' := WR cs ad (b + 2) (nI 6) (nI 4) 24 (S.1 0)) [2, 3] rfl) cw_X3_80 hm (fun z h => tcX7_cell l D cs ad (b + 2) (nI 6) (nI 4) 24 (S.1 0) y3 (nI 2) z h) ⟨rfl, rfl⟩ ⟨by decide, by decide⟩ (b := (ad (b + 2))) 0 rfl rfl rfl hl.1 rfl rfl (Nat.le_of_ble_eq_true rfl) dX3_factsWith_34 ⟨Nat.zero_le _, Nat.zero_le _⟩ (fun r3 hm => ?_)
        refine lv_ishl hx hb dX3_factsWith_37 ?_
        refine lv_ior hx hb dX3_factsWith_38 ?_
        refine xi_nm hm (fun x4 hm => ?_)
        refine lv_istore_n (lv' := [(2, .int x4), (0, .ref (ad b)), (1, .int y1), (3, .int y3)]) hx hb dX3_factsWith_39 rfl hl (by decide) rfl (fun ls hl => ?_)
        refine x_iinc (lv' := fun x5 => [(3, .int x5), (2, .int x4), (0, .ref (ad b)), (1, .int y1)]) hx hb dX3_factsWith_40 hl (k := 3) rfl (by decide) (v0 := (nI 1)) (by decide) (fun _ => rfl) hm (fun x5 ls hm hl => ?_)
        refine lv_goto (tgt := 7) hx hb dX3_factsWith_43 (by decide) ?_
        exact ih y1 x4 x5 hm ls (lv_sub hl [2, 3, 1, 0] rfl)
set_option maxHeartbeats 4000000 in
set_option maxRecDepth 100000 in
theorem tcX3_factsWith (l : Launch) (D : va_G) (cs : CS) (ad : Nat → Nat) (b : Nat) (S : MT) (a1 : Int32) (z : Int32) (hm : mX3_factsWith S a1 = some z) : Met l yX3_factsWith (Cond.code yX3_factsWith cX3_factsWith 4 (some .int) :: gw_tbl) ({ frames := 1, cells := 0, slots := 0, locals := 23 }) (PcR D cs (WT cs ad b S) [.ref (ad b), .int a1]) (QRi z) 0 0 NoF := by
  refine met_R rfl (Nat.le_of_ble_eq_true rfl) (fun p e s m below meth c E hP ls hl => ?_)
  obtain ⟨hx, hb, hr, hml, hown, hlk, hT, hN, hK⟩ := id E
  have hl : lv_has ls 4 [(0, .ref (ad b)), (1, .int a1)] := hl
  unfold mX3_factsWith at hm
  refine lv_aload_n hx hb dX3_factsWith_0 rfl (lv_at hl 0 rfl) ?_
  refine gf_X3_43 (v := .int (S.2 7)) hx hb hT hown hK hP 0 rfl rfl dX3_factsWith_1 ?_
  refine lv_istore_n (lv' := [(2, .int (S.2 7)), (0, .ref (ad b)), (1, .int a1)]) hx hb dX3_factsWith_4 rfl hl (by decide) rfl (fun ls hl => ?_)
  refine lv_iconst (v := (nI 0)) hx hb dX3_factsWith_5 (by decide) ?_
  refine lv_istore_n (lv' := [(3, .int (nI 0)), (2, .int (S.2 7)), (0, .ref (ad b)), (1, .int a1)]) hx hb dX3_factsWith_6 rfl hl (by decide) rfl (fun ls hl => ?_)
  exact kX3_factsWith_L7 E hP _ FU a1 (S.2 7) (nI 0) hm ls (lv_sub hl [2, 3, 1, 0] rfl)
noncomputable def mX3_courtHears (S : MT) (a1 : Int32) (a2 : Int32) : Option Int32 := (mX7_cell (nI 4) (nI 2) 8 (S.1 1) a1 (nI 0)).bind fun r1 => (if (r1 &&& (a2 ^^^ (-1 : Int32))) = 0 then zo (nI 1) (some (nI 1)) else zo (nI 0) (some (nI 0)))
set_option maxHeartbeats 4000000 in
set_option maxRecDepth 100000 in
theorem tcX3_courtHears (l : Launch) (D : va_G) (cs : CS) (ad : Nat → Nat) (b : Nat) (S : MT) (a1 : Int32) (a2 : Int32) (z : Int32) (hm : mX3_courtHears S a1 a2 = some z) : Met l yX3_courtHears (Cond.code yX3_courtHears cX3_courtHears 3 (some .boolean) :: gw_tbl) ({ frames := 1, cells := 0, slots := 0, locals := 23 }) (PcR D cs (WT cs ad b S) [.ref (ad b), .int a1, .int a2]) (QRi z) 0 0 NoF := by
  refine met_R rfl (Nat.le_of_ble_eq_true rfl) (fun p e s m below meth c E hP ls hl => ?_)
  obtain ⟨hx, hb, hr, hml, hown, hlk, hT, hN, hK⟩ := id E
  have hl : lv_has ls 3 [(0, .ref (ad b)), (1, .int a1), (2, .int a2)] := hl
  unfold mX3_courtHears at hm
  refine lv_aload_n hx hb dX3_courtHears_0 rfl (lv_at hl 0 rfl) ?_
  refine gf_X3_31 (v := .ref (ad (b + 4))) hx hb hT hown hK hP 0 rfl rfl dX3_courtHears_1 ?_
  refine lv_iload_n hx hb dX3_courtHears_4 rfl (lv_at hl 1 rfl) ?_
  refine lv_iconst (v := (nI 0)) hx hb dX3_courtHears_5 (by decide) ?_
  refine xV_i (As := [.int a1, .int (nI 0)]) (rest := []) hx hb hml hown hT hN hK (hP.sub (ws' := WR cs ad (b + 4) (nI 4) (nI 2) 8 (S.1 1)) [4, 5] rfl) cw_X3_80 hm (fun z h => tcX7_cell l D cs ad (b + 4) (nI 4) (nI 2) 8 (S.1 1) a1 (nI 0) z h) ⟨rfl, rfl⟩ ⟨by decide, by decide⟩ (b := (ad (b + 4))) 0 rfl rfl rfl hl.1 rfl rfl (Nat.le_of_ble_eq_true rfl) dX3_courtHears_6 ⟨Nat.zero_le _, Nat.zero_le _⟩ (fun r1 hm => ?_)
  refine lv_iload_n hx hb dX3_courtHears_9 rfl (lv_at hl 2 rfl) ?_
  refine lv_iconst (v := (-1 : Int32)) hx hb dX3_courtHears_10 (by decide) ?_
  refine lv_ixor hx hb dX3_courtHears_11 ?_
  refine lv_iand hx hb dX3_courtHears_12 ?_
  refine x_if_ne (tgt := 20) hx hb dX3_courtHears_13 (by decide) hm (fun hm => ?_) (fun hm => ?_)
  · refine lv_iconst (v := (nI 0)) hx hb dX3_courtHears_20 (by decide) ?_
    exact x_zretR hx hb hr hlk hm dX3_courtHears_21
  · refine lv_iconst (v := (nI 1)) hx hb dX3_courtHears_16 (by decide) ?_
    refine lv_goto (tgt := 21) hx hb dX3_courtHears_17 (by decide) ?_
    exact x_zretR hx hb hr hlk hm dX3_courtHears_21
noncomputable def mX3_hearing_L4 (S : MT) : Nat → Int32 → Int32 → Int32 → Option Int32 := fun n => Nat.rec (motive := fun _ => Int32 → Int32 → Int32 → Option Int32) (fun _ _ _ => none) (fun _ rc => fun y1 y2 y3 => (if ((S.1 1).1) ≤ y3 then some y2 else (mX3_courtHears S y3 y1).bind fun r1 => (if r1 = 0 then nm (y3 + (nI 1)) fun x2 => rc y1 y2 x2 else nm (y2 ||| ((nI 1) <<< (y3 &&& 31))) fun x3 => nm (y3 + (nI 1)) fun x4 => rc y1 x3 x4))) n
theorem mX3_hearing_L4_s (S : MT) (n : Nat) (y1 : Int32) (y2 : Int32) (y3 : Int32) : mX3_hearing_L4 S (n + 1) y1 y2 y3 = (if ((S.1 1).1) ≤ y3 then some y2 else (mX3_courtHears S y3 y1).bind fun r1 => (if r1 = 0 then nm (y3 + (nI 1)) fun x2 => (mX3_hearing_L4 S n) y1 y2 x2 else nm (y2 ||| ((nI 1) <<< (y3 &&& 31))) fun x3 => nm (y3 + (nI 1)) fun x4 => (mX3_hearing_L4 S n) y1 x3 x4)) := rfl
noncomputable def mX3_hearing (S : MT) (a1 : Int32) : Option Int32 := mX3_hearing_L4 S FU a1 (nI 0) (nI 0)
set_option maxHeartbeats 4000000 in
set_option maxRecDepth 100000 in
theorem kX3_hearing_L4 {p : Program} {l : Launch} {e : Env} {s : State} {m : MethodId} {below : List Frame} {meth : Method} {c : Code} {D : va_G} {cs : CS}  {ad : Nat → Nat} {b : Nat} {S : MT} {a1 : Int32} (E : EV p s m [.ref (ad b), .int a1].toArray meth c cX3_hearing 4 RX3 (some .int) D cs) (hP : va_P D classes (WT cs ad b S) s.heap) (z : Int32) : ∀ (n : Nat) (y1 : Int32) (y2 : Int32) (y3 : Int32), mX3_hearing_L4 S n y1 y2 y3 = some z → ∀ ls : Array Slot, lv_has ls 4 [(0, .ref (ad b)), (1, .int y1), (2, .int y2), (3, .int y3)] → W p l e ({ frames := 2, cells := 0, slots := 0, locals := 45 }) s m [.ref (ad b), .int a1].toArray below meth c s.heap [] 0 0 (MQ below (QRi z) [.ref (ad b), .int a1].toArray s 0 0 NoF) (F0 m 4 ls []) := by
  obtain ⟨hx, hb, hr, hml, hown, hlk, hT, hN, hK⟩ := id E
  intro n
  induction n with
  | zero =>
    intro y1 y2 y3 hm
    exact nomatch (show (none : Option Int32) = some z from hm)
  | succ n ih =>
    intro y1 y2 y3 hm ls hl
    rw [mX3_hearing_L4_s] at hm
    refine lv_iload_n hx hb dX3_hearing_4 rfl (lv_at hl 3 rfl) ?_
    refine lv_aload_n hx hb dX3_hearing_5 rfl (lv_at hl 0 rfl) ?_
    refine gf_X3_31 (v := .ref (ad (b + 4))) hx hb hT hown hK hP 0 rfl rfl dX3_hearing_6 ?_
    refine gf_X3_77 (v := .int ((S.1 1).1)) hx hb hT hown hK hP 4 rfl rfl dX3_hearing_9 ?_
    refine x_icmp_ge (tgt := 36) hx hb dX3_hearing_12 (by decide) hm (fun hm => ?_) (fun hm => ?_)
    · refine lv_iload_n hx hb dX3_hearing_36 rfl (lv_at hl 2 rfl) ?_
      exact x_iretR hx hb hr hlk hm dX3_hearing_37
    · refine lv_aload_n hx hb dX3_hearing_15 rfl (lv_at hl 0 rfl) ?_
      refine lv_iload_n hx hb dX3_hearing_16 rfl (lv_at hl 3 rfl) ?_
      refine lv_iload_n hx hb dX3_hearing_17 rfl (lv_at hl 1 rfl) ?_
      refine xV_i (As := [.int y3, .int y1]) (rest := []) hx hb hml hown hT hN hK hP cw_X3_115 hm (fun z h => tcX3_courtHears l D cs ad b S y3 y1 z h) ⟨rfl, rfl⟩ ⟨by decide, by decide⟩ (b := (ad b)) 0 rfl rfl rfl hl.1 rfl rfl (Nat.le_of_ble_eq_true rfl) dX3_hearing_18 ⟨Nat.zero_le _, Nat.zero_le _⟩ (fun r1 hm => ?_)
      refine x_if_eq (tgt := 30) hx hb dX3_hearing_21 (by decide) hm (fun hm => ?_) (fun hm => ?_)
      · refine x_iinc (lv' := fun x2 => [(3, .int x2), (0, .ref (ad b)), (1, .int y1), (2, .int y2)]) hx hb dX3_hearing_30 hl (k := 3) rfl (by decide) (v0 := (nI 1)) (by decide) (fun _ => rfl) hm (fun x2 ls hm hl => ?_)
        refine lv_goto (tgt := 4) hx hb dX3_hearing_33 (by decide) ?_
        exact ih y1 y2 x2 hm ls (lv_sub hl [1, 2, 3, 0] rfl)
      · refine lv_iload_n hx hb dX3_hearing_24 rfl (lv_at hl 2 rfl) ?_
        refine lv_iconst (v := (nI 1)) hx hb dX3_hearing_25 (by decide) ?_
        refine lv_iload_n hx hb dX3_hearing_26 rfl (lv_at hl 3 rfl) ?_
        refine lv_ishl hx hb dX3_hearing_27 ?_
        refine lv_ior hx hb dX3_hearing_28 ?_
        refine xi_nm hm (fun x3 hm => ?_)
        refine lv_istore_n (lv' := [(2, .int x3), (0, .ref (ad b)), (1, .int y1), (3, .int y3)]) hx hb dX3_hearing_29 rfl hl (by decide) rfl (fun ls hl => ?_)
        refine x_iinc (lv' := fun x4 => [(3, .int x4), (2, .int x3), (0, .ref (ad b)), (1, .int y1)]) hx hb dX3_hearing_30 hl (k := 3) rfl (by decide) (v0 := (nI 1)) (by decide) (fun _ => rfl) hm (fun x4 ls hm hl => ?_)
        refine lv_goto (tgt := 4) hx hb dX3_hearing_33 (by decide) ?_
        exact ih y1 x3 x4 hm ls (lv_sub hl [2, 3, 1, 0] rfl)
set_option maxHeartbeats 4000000 in
set_option maxRecDepth 100000 in
theorem tcX3_hearing (l : Launch) (D : va_G) (cs : CS) (ad : Nat → Nat) (b : Nat) (S : MT) (a1 : Int32) (z : Int32) (hm : mX3_hearing S a1 = some z) : Met l yX3_hearing (Cond.code yX3_hearing cX3_hearing 4 (some .int) :: gw_tbl) ({ frames := 2, cells := 0, slots := 0, locals := 45 }) (PcR D cs (WT cs ad b S) [.ref (ad b), .int a1]) (QRi z) 0 0 NoF := by
  refine met_R rfl (Nat.le_of_ble_eq_true rfl) (fun p e s m below meth c E hP ls hl => ?_)
  obtain ⟨hx, hb, hr, hml, hown, hlk, hT, hN, hK⟩ := id E
  have hl : lv_has ls 4 [(0, .ref (ad b)), (1, .int a1)] := hl
  unfold mX3_hearing at hm
  refine lv_iconst (v := (nI 0)) hx hb dX3_hearing_0 (by decide) ?_
  refine lv_istore_n (lv' := [(2, .int (nI 0)), (0, .ref (ad b)), (1, .int a1)]) hx hb dX3_hearing_1 rfl hl (by decide) rfl (fun ls hl => ?_)
  refine lv_iconst (v := (nI 0)) hx hb dX3_hearing_2 (by decide) ?_
  refine lv_istore_n (lv' := [(3, .int (nI 0)), (2, .int (nI 0)), (0, .ref (ad b)), (1, .int a1)]) hx hb dX3_hearing_3 rfl hl (by decide) rfl (fun ls hl => ?_)
  exact kX3_hearing_L4 E hP _ FU a1 (nI 0) (nI 0) hm ls (lv_sub hl [2, 3, 1, 0] rfl)
noncomputable def mX3_afterTerm (S : MT) (a1 : Int32) (a2 : Int32) (a3 : Int32) : Option Int32 := (if a1 < 0 then some a2 else (if a1 < ((S.1 0).1) then (mX10_holds a2 a1).bind fun r1 => (if r1 = 0 then (mX3_factsWith S a2).bind fun r2 => (mX3_allowed S a1 r2 a3).bind fun r3 => (if r3 = 0 then some a2 else some (a2 ||| ((nI 1) <<< (a1 &&& 31)))) else (mX3_denialWins S a1).bind fun r4 => (if r4 = 0 then some a2 else some (a2 &&& (((nI 1) <<< (a1 &&& 31)) ^^^ (-1 : Int32))))) else some a2))
set_option maxHeartbeats 4000000 in
set_option maxRecDepth 100000 in
theorem tcX3_afterTerm (l : Launch) (D : va_G) (cs : CS) (ad : Nat → Nat) (b : Nat) (S : MT) (a1 : Int32) (a2 : Int32) (a3 : Int32) (z : Int32) (hm : mX3_afterTerm S a1 a2 a3 = some z) : Met l yX3_afterTerm (Cond.code yX3_afterTerm cX3_afterTerm 4 (some .int) :: gw_tbl) ({ frames := 3, cells := 0, slots := 0, locals := 72 }) (PcR D cs (WT cs ad b S) [.ref (ad b), .int a1, .int a2, .int a3]) (QRi z) 0 0 NoF := by
  refine met_R rfl (Nat.le_of_ble_eq_true rfl) (fun p e s m below meth c E hP ls hl => ?_)
  obtain ⟨hx, hb, hr, hml, hown, hlk, hT, hN, hK⟩ := id E
  have hl : lv_has ls 4 [(0, .ref (ad b)), (1, .int a1), (2, .int a2), (3, .int a3)] := hl
  unfold mX3_afterTerm at hm
  refine lv_iload_n hx hb dX3_afterTerm_0 rfl (lv_at hl 1 rfl) ?_
  refine x_if_lt (tgt := 15) hx hb dX3_afterTerm_1 (by decide) hm (fun hm => ?_) (fun hm => ?_)
  · refine lv_iload_n hx hb dX3_afterTerm_15 rfl (lv_at hl 2 rfl) ?_
    exact x_iretR hx hb hr hlk hm dX3_afterTerm_16
  · refine lv_iload_n hx hb dX3_afterTerm_4 rfl (lv_at hl 1 rfl) ?_
    refine lv_aload_n hx hb dX3_afterTerm_5 rfl (lv_at hl 0 rfl) ?_
    refine gf_X3_27 (v := .ref (ad (b + 2))) hx hb hT hown hK hP 0 rfl rfl dX3_afterTerm_6 ?_
    refine gf_X3_77 (v := .int ((S.1 0).1)) hx hb hT hown hK hP 2 rfl rfl dX3_afterTerm_9 ?_
    refine x_icmp_lt (tgt := 17) hx hb dX3_afterTerm_12 (by decide) hm (fun hm => ?_) (fun hm => ?_)
    · refine lv_iload_n hx hb dX3_afterTerm_17 rfl (lv_at hl 2 rfl) ?_
      refine lv_iload_n hx hb dX3_afterTerm_18 rfl (lv_at hl 1 rfl) ?_
      refine xN_i (As := [.int a2, .int a1]) (rest := []) hx hb hml hown hT hN hK (hP.sub (ws' := []) [] rfl) cw_X3_108 hm (fun z h => tcX10_holds l D cs a2 a1 z h) ⟨rfl, rfl⟩ ⟨by decide, by decide⟩ hl.1 rfl rfl (Nat.le_of_ble_eq_true rfl) dX3_afterTerm_19 ⟨Nat.zero_le _, Nat.zero_le _⟩ (fun r1 hm => ?_)
      refine x_if_eq (tgt := 45) hx hb dX3_afterTerm_22 (by decide) hm (fun hm => ?_) (fun hm => ?_)
      · refine lv_aload_n hx hb dX3_afterTerm_45 rfl (lv_at hl 0 rfl) ?_
        refine lv_iload_n hx hb dX3_afterTerm_46 rfl (lv_at hl 1 rfl) ?_
        refine lv_aload_n hx hb dX3_afterTerm_47 rfl (lv_at hl 0 rfl) ?_
        refine lv_iload_n hx hb dX3_afterTerm_48 rfl (lv_at hl 2 rfl) ?_
        refine xV_i (As := [.int a2]) (rest := [.int a1, .ref (ad b)]) hx hb hml hown hT hN hK hP cw_X3_118 hm (fun z h => tcX3_factsWith l D cs ad b S a2 z h) ⟨rfl, rfl⟩ ⟨by decide, by decide⟩ (b := (ad b)) 0 rfl rfl rfl hl.1 rfl rfl (Nat.le_of_ble_eq_true rfl) dX3_afterTerm_49 ⟨Nat.zero_le _, Nat.zero_le _⟩ (fun r2 hm => ?_)
        refine lv_iload_n hx hb dX3_afterTerm_52 rfl (lv_at hl 3 rfl) ?_
        refine xV_i (As := [.int a1, .int r2, .int a3]) (rest := []) hx hb hml hown hT hN hK hP cw_X3_121 hm (fun z h => tcX3_allowed l D cs ad b S a1 r2 a3 z h) ⟨rfl, rfl⟩ ⟨by decide, by decide⟩ (b := (ad b)) 0 rfl rfl rfl hl.1 rfl rfl (Nat.le_of_ble_eq_true rfl) dX3_afterTerm_53 ⟨Nat.zero_le _, Nat.zero_le _⟩ (fun r3 hm => ?_)
        refine x_if_eq (tgt := 67) hx hb dX3_afterTerm_56 (by decide) hm (fun hm => ?_) (fun hm => ?_)
        · refine lv_iload_n hx hb dX3_afterTerm_67 rfl (lv_at hl 2 rfl) ?_
          exact x_iretR hx hb hr hlk hm dX3_afterTerm_68
        · refine lv_iload_n hx hb dX3_afterTerm_59 rfl (lv_at hl 2 rfl) ?_
          refine lv_iconst (v := (nI 1)) hx hb dX3_afterTerm_60 (by decide) ?_
          refine lv_iload_n hx hb dX3_afterTerm_61 rfl (lv_at hl 1 rfl) ?_
          refine lv_ishl hx hb dX3_afterTerm_62 ?_
          refine lv_ior hx hb dX3_afterTerm_63 ?_
          refine lv_goto (tgt := 68) hx hb dX3_afterTerm_64 (by decide) ?_
          exact x_iretR hx hb hr hlk hm dX3_afterTerm_68
      · refine lv_aload_n hx hb dX3_afterTerm_25 rfl (lv_at hl 0 rfl) ?_
        refine lv_iload_n hx hb dX3_afterTerm_26 rfl (lv_at hl 1 rfl) ?_
        refine xV_i (As := [.int a1]) (rest := []) hx hb hml hown hT hN hK hP cw_X3_112 hm (fun z h => tcX3_denialWins l D cs ad b S a1 z h) ⟨rfl, rfl⟩ ⟨by decide, by decide⟩ (b := (ad b)) 0 rfl rfl rfl hl.1 rfl rfl (Nat.le_of_ble_eq_true rfl) dX3_afterTerm_27 ⟨Nat.zero_le _, Nat.zero_le _⟩ (fun r4 hm => ?_)
        refine x_if_eq (tgt := 43) hx hb dX3_afterTerm_30 (by decide) hm (fun hm => ?_) (fun hm => ?_)
        · refine lv_iload_n hx hb dX3_afterTerm_43 rfl (lv_at hl 2 rfl) ?_
          exact x_iretR hx hb hr hlk hm dX3_afterTerm_44
        · refine lv_iload_n hx hb dX3_afterTerm_33 rfl (lv_at hl 2 rfl) ?_
          refine lv_iconst (v := (nI 1)) hx hb dX3_afterTerm_34 (by decide) ?_
          refine lv_iload_n hx hb dX3_afterTerm_35 rfl (lv_at hl 1 rfl) ?_
          refine lv_ishl hx hb dX3_afterTerm_36 ?_
          refine lv_iconst (v := (-1 : Int32)) hx hb dX3_afterTerm_37 (by decide) ?_
          refine lv_ixor hx hb dX3_afterTerm_38 ?_
          refine lv_iand hx hb dX3_afterTerm_39 ?_
          refine lv_goto (tgt := 44) hx hb dX3_afterTerm_40 (by decide) ?_
          exact x_iretR hx hb hr hlk hm dX3_afterTerm_44
    · refine lv_iload_n hx hb dX3_afterTerm_15 rfl (lv_at hl 2 rfl) ?_
      exact x_iretR hx hb hr hlk hm dX3_afterTerm_16
noncomputable def mX3_costAs (S : MT) (a1 : Int32) (a2 : Int32) (a3 : Int32) : Option Int32 := (mX3_kindNumbered S a2).bind fun r1 => (mX7_cell (nI 6) (nI 4) 24 (S.1 0) a1 (nI 3)).bind fun r2 => (v_cost r1 r2 a3).bind fun r3 => some r3
set_option maxHeartbeats 4000000 in
set_option maxRecDepth 100000 in
theorem tcX3_costAs (l : Launch) (D : va_G) (cs : CS) (ad : Nat → Nat) (b : Nat) (S : MT) (a1 : Int32) (a2 : Int32) (a3 : Int32) (z : Int32) (hm : mX3_costAs S a1 a2 a3 = some z) : Met l yX3_costAs (Cond.code yX3_costAs cX3_costAs 4 (some .int) :: gw_tbl) ({ frames := 3, cells := 0, slots := 0, locals := 66 }) (PcR D cs (WT cs ad b S) [.ref (ad b), .int a1, .int a2, .int a3]) (QRi z) 0 0 NoF := by
  refine met_R rfl (Nat.le_of_ble_eq_true rfl) (fun p e s m below meth c E hP ls hl => ?_)
  obtain ⟨hx, hb, hr, hml, hown, hlk, hT, hN, hK⟩ := id E
  have hl : lv_has ls 4 [(0, .ref (ad b)), (1, .int a1), (2, .int a2), (3, .int a3)] := hl
  unfold mX3_costAs at hm
  refine lv_aload_n hx hb dX3_costAs_0 rfl (lv_at hl 0 rfl) ?_
  refine lv_iload_n hx hb dX3_costAs_1 rfl (lv_at hl 2 rfl) ?_
  refine xV_a (As := [.int a2]) (rest := []) hx hb hml hown hT hN hK hP cw_X3_93 hm (fun z h => tcX3_kindNumbered l D cs ad b S a2 z h) ⟨rfl, rfl⟩ ⟨by decide, by decide⟩ (b := (ad b)) 0 rfl rfl rfl hl.1 rfl rfl (Nat.le_of_ble_eq_true rfl) dX3_costAs_2 ⟨Nat.zero_le _, Nat.zero_le _⟩ (fun r1 hr1 hm => ?_)
  refine lv_aload_n hx hb dX3_costAs_5 rfl (lv_at hl 0 rfl) ?_
  refine gf_X3_27 (v := .ref (ad (b + 2))) hx hb hT hown hK hP 0 rfl rfl dX3_costAs_6 ?_
  refine lv_iload_n hx hb dX3_costAs_9 rfl (lv_at hl 1 rfl) ?_
  refine lv_iconst (v := (nI 3)) hx hb dX3_costAs_10 (by decide) ?_
  refine xV_i (As := [.int a1, .int (nI 3)]) (rest := [.ref (ad (2 + r1))]) hx hb hml hown hT hN hK (hP.sub (ws' := WR cs ad (b + 2) (nI 6) (nI 4) 24 (S.1 0)) [2, 3] rfl) cw_X3_80 hm (fun z h => tcX7_cell l D cs ad (b + 2) (nI 6) (nI 4) 24 (S.1 0) a1 (nI 3) z h) ⟨rfl, rfl⟩ ⟨by decide, by decide⟩ (b := (ad (b + 2))) 0 rfl rfl rfl hl.1 rfl rfl (Nat.le_of_ble_eq_true rfl) dX3_costAs_11 ⟨Nat.zero_le _, Nat.zero_le _⟩ (fun r2 hm => ?_)
  refine lv_iload_n hx hb dX3_costAs_14 rfl (lv_at hl 3 rfl) ?_
  refine xK_101 (rest := []) hx hb hml hown hT hN hK hP hr1 hm ⟨by decide, by decide⟩ hl.1 (Nat.le_of_ble_eq_true rfl) dX3_costAs_15 ⟨Nat.zero_le _, Nat.zero_le _⟩ (fun r3 hm => ?_)
  exact x_iretR hx hb hr hlk hm dX3_costAs_18
noncomputable def mX3_fitsNotes_L2 (S : MT) : Nat → Int32 → Int32 → Int32 → Option Int32 := fun n => Nat.rec (motive := fun _ => Int32 → Int32 → Int32 → Option Int32) (fun _ _ _ => none) (fun _ rc => fun y1 y2 y3 => (if ((S.1 2).1) ≤ y3 then zo (nI 1) (some (nI 1)) else (mX7_cell (nI 6) (nI 3) 18 (S.1 2) y3 (nI 0)).bind fun r1 => (if r1 = y1 then (mX7_cell (nI 6) (nI 3) 18 (S.1 2) y3 (nI 1)).bind fun r3 => (mX3_costAs S y1 y2 r3).bind fun r4 => (mX7_cell (nI 6) (nI 3) 18 (S.1 2) y3 (nI 2)).bind fun r5 => (if r4 = r5 then nm (y3 + (nI 1)) fun x6 => rc y1 y2 x6 else zo (nI 0) (some (nI 0))) else nm (y3 + (nI 1)) fun x2 => rc y1 y2 x2))) n
theorem mX3_fitsNotes_L2_s (S : MT) (n : Nat) (y1 : Int32) (y2 : Int32) (y3 : Int32) : mX3_fitsNotes_L2 S (n + 1) y1 y2 y3 = (if ((S.1 2).1) ≤ y3 then zo (nI 1) (some (nI 1)) else (mX7_cell (nI 6) (nI 3) 18 (S.1 2) y3 (nI 0)).bind fun r1 => (if r1 = y1 then (mX7_cell (nI 6) (nI 3) 18 (S.1 2) y3 (nI 1)).bind fun r3 => (mX3_costAs S y1 y2 r3).bind fun r4 => (mX7_cell (nI 6) (nI 3) 18 (S.1 2) y3 (nI 2)).bind fun r5 => (if r4 = r5 then nm (y3 + (nI 1)) fun x6 => (mX3_fitsNotes_L2 S n) y1 y2 x6 else zo (nI 0) (some (nI 0))) else nm (y3 + (nI 1)) fun x2 => (mX3_fitsNotes_L2 S n) y1 y2 x2)) := rfl
noncomputable def mX3_fitsNotes (S : MT) (a1 : Int32) (a2 : Int32) : Option Int32 := mX3_fitsNotes_L2 S FU a1 a2 (nI 0)
set_option maxHeartbeats 4000000 in
set_option maxRecDepth 100000 in
theorem kX3_fitsNotes_L2 {p : Program} {l : Launch} {e : Env} {s : State} {m : MethodId} {below : List Frame} {meth : Method} {c : Code} {D : va_G} {cs : CS}  {ad : Nat → Nat} {b : Nat} {S : MT} {a1 : Int32} {a2 : Int32} (E : EV p s m [.ref (ad b), .int a1, .int a2].toArray meth c cX3_fitsNotes 4 RX3 (some .boolean) D cs) (hP : va_P D classes (WT cs ad b S) s.heap) (z : Int32) : ∀ (n : Nat) (y1 : Int32) (y2 : Int32) (y3 : Int32), mX3_fitsNotes_L2 S n y1 y2 y3 = some z → ∀ ls : Array Slot, lv_has ls 4 [(0, .ref (ad b)), (1, .int y1), (2, .int y2), (3, .int y3)] → W p l e ({ frames := 4, cells := 0, slots := 0, locals := 89 }) s m [.ref (ad b), .int a1, .int a2].toArray below meth c s.heap [] 0 0 (MQ below (QRi z) [.ref (ad b), .int a1, .int a2].toArray s 0 0 NoF) (F0 m 2 ls []) := by
  obtain ⟨hx, hb, hr, hml, hown, hlk, hT, hN, hK⟩ := id E
  intro n
  induction n with
  | zero =>
    intro y1 y2 y3 hm
    exact nomatch (show (none : Option Int32) = some z from hm)
  | succ n ih =>
    intro y1 y2 y3 hm ls hl
    rw [mX3_fitsNotes_L2_s] at hm
    refine lv_iload_n hx hb dX3_fitsNotes_2 rfl (lv_at hl 3 rfl) ?_
    refine lv_aload_n hx hb dX3_fitsNotes_3 rfl (lv_at hl 0 rfl) ?_
    refine gf_X3_34 (v := .ref (ad (b + 6))) hx hb hT hown hK hP 0 rfl rfl dX3_fitsNotes_4 ?_
    refine gf_X3_77 (v := .int ((S.1 2).1)) hx hb hT hown hK hP 6 rfl rfl dX3_fitsNotes_7 ?_
    refine x_icmp_ge (tgt := 61) hx hb dX3_fitsNotes_10 (by decide) hm (fun hm => ?_) (fun hm => ?_)
    · refine lv_iconst (v := (nI 1)) hx hb dX3_fitsNotes_61 (by decide) ?_
      exact x_zretR hx hb hr hlk hm dX3_fitsNotes_62
    · refine lv_aload_n hx hb dX3_fitsNotes_13 rfl (lv_at hl 0 rfl) ?_
      refine gf_X3_34 (v := .ref (ad (b + 6))) hx hb hT hown hK hP 0 rfl rfl dX3_fitsNotes_14 ?_
      refine lv_iload_n hx hb dX3_fitsNotes_17 rfl (lv_at hl 3 rfl) ?_
      refine lv_iconst (v := (nI 0)) hx hb dX3_fitsNotes_18 (by decide) ?_
      refine xV_i (As := [.int y3, .int (nI 0)]) (rest := []) hx hb hml hown hT hN hK (hP.sub (ws' := WR cs ad (b + 6) (nI 6) (nI 3) 18 (S.1 2)) [6, 7] rfl) cw_X3_80 hm (fun z h => tcX7_cell l D cs ad (b + 6) (nI 6) (nI 3) 18 (S.1 2) y3 (nI 0) z h) ⟨rfl, rfl⟩ ⟨by decide, by decide⟩ (b := (ad (b + 6))) 0 rfl rfl rfl hl.1 rfl rfl (Nat.le_of_ble_eq_true rfl) dX3_fitsNotes_19 ⟨Nat.zero_le _, Nat.zero_le _⟩ (fun r1 hm => ?_)
      refine lv_iload_n hx hb dX3_fitsNotes_22 rfl (lv_at hl 1 rfl) ?_
      refine x_icmp_ne (tgt := 55) hx hb dX3_fitsNotes_23 (by decide) hm (fun hm => ?_) (fun hm => ?_)
      · refine x_iinc (lv' := fun x2 => [(3, .int x2), (0, .ref (ad b)), (1, .int y1), (2, .int y2)]) hx hb dX3_fitsNotes_55 hl (k := 3) rfl (by decide) (v0 := (nI 1)) (by decide) (fun _ => rfl) hm (fun x2 ls hm hl => ?_)
        refine lv_goto (tgt := 2) hx hb dX3_fitsNotes_58 (by decide) ?_
        exact ih y1 y2 x2 hm ls (lv_sub hl [1, 2, 3, 0] rfl)
      · refine lv_aload_n hx hb dX3_fitsNotes_26 rfl (lv_at hl 0 rfl) ?_
        refine lv_iload_n hx hb dX3_fitsNotes_27 rfl (lv_at hl 1 rfl) ?_
        refine lv_iload_n hx hb dX3_fitsNotes_28 rfl (lv_at hl 2 rfl) ?_
        refine lv_aload_n hx hb dX3_fitsNotes_29 rfl (lv_at hl 0 rfl) ?_
        refine gf_X3_34 (v := .ref (ad (b + 6))) hx hb hT hown hK hP 0 rfl rfl dX3_fitsNotes_30 ?_
        refine lv_iload_n hx hb dX3_fitsNotes_33 rfl (lv_at hl 3 rfl) ?_
        refine lv_iconst (v := (nI 1)) hx hb dX3_fitsNotes_34 (by decide) ?_
        refine xV_i (As := [.int y3, .int (nI 1)]) (rest := [.int y2, .int y1, .ref (ad b)]) hx hb hml hown hT hN hK (hP.sub (ws' := WR cs ad (b + 6) (nI 6) (nI 3) 18 (S.1 2)) [6, 7] rfl) cw_X3_80 hm (fun z h => tcX7_cell l D cs ad (b + 6) (nI 6) (nI 3) 18 (S.1 2) y3 (nI 1) z h) ⟨rfl, rfl⟩ ⟨by decide, by decide⟩ (b := (ad (b + 6))) 0 rfl rfl rfl hl.1 rfl rfl (Nat.le_of_ble_eq_true rfl) dX3_fitsNotes_35 ⟨Nat.zero_le _, Nat.zero_le _⟩ (fun r3 hm => ?_)
        refine xV_i (As := [.int y1, .int y2, .int r3]) (rest := []) hx hb hml hown hT hN hK hP cw_X3_136 hm (fun z h => tcX3_costAs l D cs ad b S y1 y2 r3 z h) ⟨rfl, rfl⟩ ⟨by decide, by decide⟩ (b := (ad b)) 0 rfl rfl rfl hl.1 rfl rfl (Nat.le_of_ble_eq_true rfl) dX3_fitsNotes_38 ⟨Nat.zero_le _, Nat.zero_le _⟩ (fun r4 hm => ?_)
        refine lv_aload_n hx hb dX3_fitsNotes_41 rfl (lv_at hl 0 rfl) ?_
        refine gf_X3_34 (v := .ref (ad (b + 6))) hx hb hT hown hK hP 0 rfl rfl dX3_fitsNotes_42 ?_
        refine lv_iload_n hx hb dX3_fitsNotes_45 rfl (lv_at hl 3 rfl) ?_
        refine lv_iconst (v := (nI 2)) hx hb dX3_fitsNotes_46 (by decide) ?_
        refine xV_i (As := [.int y3, .int (nI 2)]) (rest := [.int r4]) hx hb hml hown hT hN hK (hP.sub (ws' := WR cs ad (b + 6) (nI 6) (nI 3) 18 (S.1 2)) [6, 7] rfl) cw_X3_80 hm (fun z h => tcX7_cell l D cs ad (b + 6) (nI 6) (nI 3) 18 (S.1 2) y3 (nI 2) z h) ⟨rfl, rfl⟩ ⟨by decide, by decide⟩ (b := (ad (b + 6))) 0 rfl rfl rfl hl.1 rfl rfl (Nat.le_of_ble_eq_true rfl) dX3_fitsNotes_47 ⟨Nat.zero_le _, Nat.zero_le _⟩ (fun r5 hm => ?_)
        refine x_icmp_eq (tgt := 55) hx hb dX3_fitsNotes_50 (by decide) hm (fun hm => ?_) (fun hm => ?_)
        · refine x_iinc (lv' := fun x6 => [(3, .int x6), (0, .ref (ad b)), (1, .int y1), (2, .int y2)]) hx hb dX3_fitsNotes_55 hl (k := 3) rfl (by decide) (v0 := (nI 1)) (by decide) (fun _ => rfl) hm (fun x6 ls hm hl => ?_)
          refine lv_goto (tgt := 2) hx hb dX3_fitsNotes_58 (by decide) ?_
          exact ih y1 y2 x6 hm ls (lv_sub hl [1, 2, 3, 0] rfl)
        · refine lv_iconst (v := (nI 0)) hx hb dX3_fitsNotes_53 (by decide) ?_
          exact x_zretR hx hb hr hlk hm dX3_fitsNotes_54
set_option maxHeartbeats 4000000 in
set_option maxRecDepth 100000 in
theorem tcX3_fitsNotes (l : Launch) (D : va_G) (cs : CS) (ad : Nat → Nat) (b : Nat) (S : MT) (a1 : Int32) (a2 : Int32) (z : Int32) (hm : mX3_fitsNotes S a1 a2 = some z) : Met l yX3_fitsNotes (Cond.code yX3_fitsNotes cX3_fitsNotes 4 (some .boolean) :: gw_tbl) ({ frames := 4, cells := 0, slots := 0, locals := 89 }) (PcR D cs (WT cs ad b S) [.ref (ad b), .int a1, .int a2]) (QRi z) 0 0 NoF := by
  refine met_R rfl (Nat.le_of_ble_eq_true rfl) (fun p e s m below meth c E hP ls hl => ?_)
  obtain ⟨hx, hb, hr, hml, hown, hlk, hT, hN, hK⟩ := id E
  have hl : lv_has ls 4 [(0, .ref (ad b)), (1, .int a1), (2, .int a2)] := hl
  unfold mX3_fitsNotes at hm
  refine lv_iconst (v := (nI 0)) hx hb dX3_fitsNotes_0 (by decide) ?_
  refine lv_istore_n (lv' := [(3, .int (nI 0)), (0, .ref (ad b)), (1, .int a1), (2, .int a2)]) hx hb dX3_fitsNotes_1 rfl hl (by decide) rfl (fun ls hl => ?_)
  exact kX3_fitsNotes_L2 E hP _ FU a1 a2 (nI 0) hm ls (lv_sub hl [1, 2, 3, 0] rfl)
noncomputable def mX3_kindsByNotes_L4 (S : MT) : Nat → Int32 → Int32 → Int32 → Option Int32 := fun n => Nat.rec (motive := fun _ => Int32 → Int32 → Int32 → Option Int32) (fun _ _ _ => none) (fun _ rc => fun y1 y2 y3 => (if (nI 6) ≤ y3 then some y2 else (mX3_fitsNotes S y1 y3).bind fun r1 => (if r1 = 0 then nm (y3 + (nI 1)) fun x2 => rc y1 y2 x2 else nm (y2 ||| ((nI 1) <<< (y3 &&& 31))) fun x3 => nm (y3 + (nI 1)) fun x4 => rc y1 x3 x4))) n
theorem mX3_kindsByNotes_L4_s (S : MT) (n : Nat) (y1 : Int32) (y2 : Int32) (y3 : Int32) : mX3_kindsByNotes_L4 S (n + 1) y1 y2 y3 = (if (nI 6) ≤ y3 then some y2 else (mX3_fitsNotes S y1 y3).bind fun r1 => (if r1 = 0 then nm (y3 + (nI 1)) fun x2 => (mX3_kindsByNotes_L4 S n) y1 y2 x2 else nm (y2 ||| ((nI 1) <<< (y3 &&& 31))) fun x3 => nm (y3 + (nI 1)) fun x4 => (mX3_kindsByNotes_L4 S n) y1 x3 x4)) := rfl
noncomputable def mX3_kindsByNotes (S : MT) (a1 : Int32) : Option Int32 := mX3_kindsByNotes_L4 S FU a1 (nI 0) (nI 0)
set_option maxHeartbeats 4000000 in
set_option maxRecDepth 100000 in
theorem kX3_kindsByNotes_L4 {p : Program} {l : Launch} {e : Env} {s : State} {m : MethodId} {below : List Frame} {meth : Method} {c : Code} {D : va_G} {cs : CS}  {ad : Nat → Nat} {b : Nat} {S : MT} {a1 : Int32} (E : EV p s m [.ref (ad b), .int a1].toArray meth c cX3_kindsByNotes 4 RX3 (some .int) D cs) (hP : va_P D classes (WT cs ad b S) s.heap) (z : Int32) : ∀ (n : Nat) (y1 : Int32) (y2 : Int32) (y3 : Int32), mX3_kindsByNotes_L4 S n y1 y2 y3 = some z → ∀ ls : Array Slot, lv_has ls 4 [(0, .ref (ad b)), (1, .int y1), (2, .int y2), (3, .int y3)] → W p l e ({ frames := 5, cells := 0, slots := 0, locals := 112 }) s m [.ref (ad b), .int a1].toArray below meth c s.heap [] 0 0 (MQ below (QRi z) [.ref (ad b), .int a1].toArray s 0 0 NoF) (F0 m 4 ls []) := by
  obtain ⟨hx, hb, hr, hml, hown, hlk, hT, hN, hK⟩ := id E
  intro n
  induction n with
  | zero =>
    intro y1 y2 y3 hm
    exact nomatch (show (none : Option Int32) = some z from hm)
  | succ n ih =>
    intro y1 y2 y3 hm ls hl
    rw [mX3_kindsByNotes_L4_s] at hm
    refine lv_iload_n hx hb dX3_kindsByNotes_4 rfl (lv_at hl 3 rfl) ?_
    refine lv_bipush (v := (nI 6)) hx hb dX3_kindsByNotes_5 (by decide) ?_
    refine x_icmp_ge (tgt := 31) hx hb dX3_kindsByNotes_7 (by decide) hm (fun hm => ?_) (fun hm => ?_)
    · refine lv_iload_n hx hb dX3_kindsByNotes_31 rfl (lv_at hl 2 rfl) ?_
      exact x_iretR hx hb hr hlk hm dX3_kindsByNotes_32
    · refine lv_aload_n hx hb dX3_kindsByNotes_10 rfl (lv_at hl 0 rfl) ?_
      refine lv_iload_n hx hb dX3_kindsByNotes_11 rfl (lv_at hl 1 rfl) ?_
      refine lv_iload_n hx hb dX3_kindsByNotes_12 rfl (lv_at hl 3 rfl) ?_
      refine xV_i (As := [.int y1, .int y3]) (rest := []) hx hb hml hown hT hN hK hP cw_X3_124 hm (fun z h => tcX3_fitsNotes l D cs ad b S y1 y3 z h) ⟨rfl, rfl⟩ ⟨by decide, by decide⟩ (b := (ad b)) 0 rfl rfl rfl hl.1 rfl rfl (Nat.le_of_ble_eq_true rfl) dX3_kindsByNotes_13 ⟨Nat.zero_le _, Nat.zero_le _⟩ (fun r1 hm => ?_)
      refine x_if_eq (tgt := 25) hx hb dX3_kindsByNotes_16 (by decide) hm (fun hm => ?_) (fun hm => ?_)
      · refine x_iinc (lv' := fun x2 => [(3, .int x2), (0, .ref (ad b)), (1, .int y1), (2, .int y2)]) hx hb dX3_kindsByNotes_25 hl (k := 3) rfl (by decide) (v0 := (nI 1)) (by decide) (fun _ => rfl) hm (fun x2 ls hm hl => ?_)
        refine lv_goto (tgt := 4) hx hb dX3_kindsByNotes_28 (by decide) ?_
        exact ih y1 y2 x2 hm ls (lv_sub hl [1, 2, 3, 0] rfl)
      · refine lv_iload_n hx hb dX3_kindsByNotes_19 rfl (lv_at hl 2 rfl) ?_
        refine lv_iconst (v := (nI 1)) hx hb dX3_kindsByNotes_20 (by decide) ?_
        refine lv_iload_n hx hb dX3_kindsByNotes_21 rfl (lv_at hl 3 rfl) ?_
        refine lv_ishl hx hb dX3_kindsByNotes_22 ?_
        refine lv_ior hx hb dX3_kindsByNotes_23 ?_
        refine xi_nm hm (fun x3 hm => ?_)
        refine lv_istore_n (lv' := [(2, .int x3), (0, .ref (ad b)), (1, .int y1), (3, .int y3)]) hx hb dX3_kindsByNotes_24 rfl hl (by decide) rfl (fun ls hl => ?_)
        refine x_iinc (lv' := fun x4 => [(3, .int x4), (2, .int x3), (0, .ref (ad b)), (1, .int y1)]) hx hb dX3_kindsByNotes_25 hl (k := 3) rfl (by decide) (v0 := (nI 1)) (by decide) (fun _ => rfl) hm (fun x4 ls hm hl => ?_)
        refine lv_goto (tgt := 4) hx hb dX3_kindsByNotes_28 (by decide) ?_
        exact ih y1 x3 x4 hm ls (lv_sub hl [2, 3, 1, 0] rfl)
set_option maxHeartbeats 4000000 in
set_option maxRecDepth 100000 in
theorem tcX3_kindsByNotes (l : Launch) (D : va_G) (cs : CS) (ad : Nat → Nat) (b : Nat) (S : MT) (a1 : Int32) (z : Int32) (hm : mX3_kindsByNotes S a1 = some z) : Met l yX3_kindsByNotes (Cond.code yX3_kindsByNotes cX3_kindsByNotes 4 (some .int) :: gw_tbl) ({ frames := 5, cells := 0, slots := 0, locals := 112 }) (PcR D cs (WT cs ad b S) [.ref (ad b), .int a1]) (QRi z) 0 0 NoF := by
  refine met_R rfl (Nat.le_of_ble_eq_true rfl) (fun p e s m below meth c E hP ls hl => ?_)
  obtain ⟨hx, hb, hr, hml, hown, hlk, hT, hN, hK⟩ := id E
  have hl : lv_has ls 4 [(0, .ref (ad b)), (1, .int a1)] := hl
  unfold mX3_kindsByNotes at hm
  refine lv_iconst (v := (nI 0)) hx hb dX3_kindsByNotes_0 (by decide) ?_
  refine lv_istore_n (lv' := [(2, .int (nI 0)), (0, .ref (ad b)), (1, .int a1)]) hx hb dX3_kindsByNotes_1 rfl hl (by decide) rfl (fun ls hl => ?_)
  refine lv_iconst (v := (nI 0)) hx hb dX3_kindsByNotes_2 (by decide) ?_
  refine lv_istore_n (lv' := [(3, .int (nI 0)), (2, .int (nI 0)), (0, .ref (ad b)), (1, .int a1)]) hx hb dX3_kindsByNotes_3 rfl hl (by decide) rfl (fun ls hl => ?_)
  exact kX3_kindsByNotes_L4 E hP _ FU a1 (nI 0) (nI 0) hm ls (lv_sub hl [2, 3, 1, 0] rfl)
noncomputable def mX3_alikeWith_L16 (S : MT) : Nat → Int32 → Int32 → Int32 → Int32 → Int32 → Int32 → Option Int32 := fun n => Nat.rec (motive := fun _ => Int32 → Int32 → Int32 → Int32 → Int32 → Int32 → Option Int32) (fun _ _ _ _ _ _ => none) (fun _ rc => fun y1 y3 y4 y5 y6 y7 => (if (nI 6) ≤ y7 then some y6 else (mX10_holds y3 y7).bind fun r2 => (if r2 = 0 then nm (y7 + (nI 1)) fun x3 => rc y1 y3 y4 y5 y6 x3 else (mX3_costAs S y1 y7 y4).bind fun r4 => (if r4 = y5 then nm (y6 + (nI 1)) fun x6 => nm (y7 + (nI 1)) fun x7 => rc y1 y3 y4 y5 x6 x7 else nm (y7 + (nI 1)) fun x5 => rc y1 y3 y4 y5 y6 x5)))) n
theorem mX3_alikeWith_L16_s (S : MT) (n : Nat) (y1 : Int32) (y3 : Int32) (y4 : Int32) (y5 : Int32) (y6 : Int32) (y7 : Int32) : mX3_alikeWith_L16 S (n + 1) y1 y3 y4 y5 y6 y7 = (if (nI 6) ≤ y7 then some y6 else (mX10_holds y3 y7).bind fun r2 => (if r2 = 0 then nm (y7 + (nI 1)) fun x3 => (mX3_alikeWith_L16 S n) y1 y3 y4 y5 y6 x3 else (mX3_costAs S y1 y7 y4).bind fun r4 => (if r4 = y5 then nm (y6 + (nI 1)) fun x6 => nm (y7 + (nI 1)) fun x7 => (mX3_alikeWith_L16 S n) y1 y3 y4 y5 x6 x7 else nm (y7 + (nI 1)) fun x5 => (mX3_alikeWith_L16 S n) y1 y3 y4 y5 y6 x5))) := rfl
noncomputable def mX3_alikeWith (S : MT) (a1 : Int32) (a2 : Int32) (a3 : Int32) (a4 : Int32) : Option Int32 := (mX3_costAs S a1 a2 a4).bind fun r1 => mX3_alikeWith_L16 S FU a1 a3 a4 r1 (nI 0) (nI 0)
set_option maxHeartbeats 4000000 in
set_option maxRecDepth 100000 in
theorem kX3_alikeWith_L16 {p : Program} {l : Launch} {e : Env} {s : State} {m : MethodId} {below : List Frame} {meth : Method} {c : Code} {D : va_G} {cs : CS}  {ad : Nat → Nat} {b : Nat} {S : MT} {a1 : Int32} {a2 : Int32} {a3 : Int32} {a4 : Int32} (E : EV p s m [.ref (ad b), .int a1, .int a2, .int a3, .int a4].toArray meth c cX3_alikeWith 8 RX3 (some .int) D cs) (hP : va_P D classes (WT cs ad b S) s.heap) (z : Int32) : ∀ (n : Nat) (y1 : Int32) (y3 : Int32) (y4 : Int32) (y5 : Int32) (y6 : Int32) (y7 : Int32), mX3_alikeWith_L16 S n y1 y3 y4 y5 y6 y7 = some z → ∀ ls : Array Slot, lv_has ls 8 [(0, .ref (ad b)), (1, .int y1), (3, .int y3), (4, .int y4), (5, .int y5), (6, .int y6), (7, .int y7)] → W p l e ({ frames := 4, cells := 0, slots := 0, locals := 89 }) s m [.ref (ad b), .int a1, .int a2, .int a3, .int a4].toArray below meth c s.heap [] 0 0 (MQ below (QRi z) [.ref (ad b), .int a1, .int a2, .int a3, .int a4].toArray s 0 0 NoF) (F0 m 16 ls []) := by
  obtain ⟨hx, hb, hr, hml, hown, hlk, hT, hN, hK⟩ := id E
  intro n
  induction n with
  | zero =>
    intro y1 y3 y4 y5 y6 y7 hm
    exact nomatch (show (none : Option Int32) = some z from hm)
  | succ n ih =>
    intro y1 y3 y4 y5 y6 y7 hm ls hl
    rw [mX3_alikeWith_L16_s] at hm
    refine lv_iload hx hb dX3_alikeWith_16 (lv_at hl 6 rfl) ?_
    refine lv_bipush (v := (nI 6)) hx hb dX3_alikeWith_18 (by decide) ?_
    refine x_icmp_ge (tgt := 55) hx hb dX3_alikeWith_20 (by decide) hm (fun hm => ?_) (fun hm => ?_)
    · refine lv_iload hx hb dX3_alikeWith_55 (lv_at hl 5 rfl) ?_
      exact x_iretR hx hb hr hlk hm dX3_alikeWith_57
    · refine lv_iload_n hx hb dX3_alikeWith_23 rfl (lv_at hl 2 rfl) ?_
      refine lv_iload hx hb dX3_alikeWith_24 (lv_at hl 6 rfl) ?_
      refine xN_i (As := [.int y3, .int y7]) (rest := []) hx hb hml hown hT hN hK (hP.sub (ws' := []) [] rfl) cw_X3_108 hm (fun z h => tcX10_holds l D cs y3 y7 z h) ⟨rfl, rfl⟩ ⟨by decide, by decide⟩ hl.1 rfl rfl (Nat.le_of_ble_eq_true rfl) dX3_alikeWith_26 ⟨Nat.zero_le _, Nat.zero_le _⟩ (fun r2 hm => ?_)
      refine x_if_eq (tgt := 49) hx hb dX3_alikeWith_29 (by decide) hm (fun hm => ?_) (fun hm => ?_)
      · refine x_iinc (lv' := fun x3 => [(7, .int x3), (0, .ref (ad b)), (1, .int y1), (3, .int y3), (4, .int y4), (5, .int y5), (6, .int y6)]) hx hb dX3_alikeWith_49 hl (k := 6) rfl (by decide) (v0 := (nI 1)) (by decide) (fun _ => rfl) hm (fun x3 ls hm hl => ?_)
        refine lv_goto (tgt := 16) hx hb dX3_alikeWith_52 (by decide) ?_
        exact ih y1 y3 y4 y5 y6 x3 hm ls (lv_sub hl [1, 2, 3, 4, 5, 6, 0] rfl)
      · refine lv_aload_n hx hb dX3_alikeWith_32 rfl (lv_at hl 0 rfl) ?_
        refine lv_iload_n hx hb dX3_alikeWith_33 rfl (lv_at hl 1 rfl) ?_
        refine lv_iload hx hb dX3_alikeWith_34 (lv_at hl 6 rfl) ?_
        refine lv_iload hx hb dX3_alikeWith_36 (lv_at hl 3 rfl) ?_
        refine xV_i (As := [.int y1, .int y7, .int y4]) (rest := []) hx hb hml hown hT hN hK hP cw_X3_136 hm (fun z h => tcX3_costAs l D cs ad b S y1 y7 y4 z h) ⟨rfl, rfl⟩ ⟨by decide, by decide⟩ (b := (ad b)) 0 rfl rfl rfl hl.1 rfl rfl (Nat.le_of_ble_eq_true rfl) dX3_alikeWith_38 ⟨Nat.zero_le _, Nat.zero_le _⟩ (fun r4 hm => ?_)
        refine lv_iload hx hb dX3_alikeWith_41 (lv_at hl 4 rfl) ?_
        refine x_icmp_ne (tgt := 49) hx hb dX3_alikeWith_43 (by decide) hm (fun hm => ?_) (fun hm => ?_)
        · refine x_iinc (lv' := fun x5 => [(7, .int x5), (0, .ref (ad b)), (1, .int y1), (3, .int y3), (4, .int y4), (5, .int y5), (6, .int y6)]) hx hb dX3_alikeWith_49 hl (k := 6) rfl (by decide) (v0 := (nI 1)) (by decide) (fun _ => rfl) hm (fun x5 ls hm hl => ?_)
          refine lv_goto (tgt := 16) hx hb dX3_alikeWith_52 (by decide) ?_
          exact ih y1 y3 y4 y5 y6 x5 hm ls (lv_sub hl [1, 2, 3, 4, 5, 6, 0] rfl)
        · refine x_iinc (lv' := fun x6 => [(6, .int x6), (0, .ref (ad b)), (1, .int y1), (3, .int y3), (4, .int y4), (5, .int y5), (7, .int y7)]) hx hb dX3_alikeWith_46 hl (k := 5) rfl (by decide) (v0 := (nI 1)) (by decide) (fun _ => rfl) hm (fun x6 ls hm hl => ?_)
          refine x_iinc (lv' := fun x7 => [(7, .int x7), (6, .int x6), (0, .ref (ad b)), (1, .int y1), (3, .int y3), (4, .int y4), (5, .int y5)]) hx hb dX3_alikeWith_49 hl (k := 6) rfl (by decide) (v0 := (nI 1)) (by decide) (fun _ => rfl) hm (fun x7 ls hm hl => ?_)
          refine lv_goto (tgt := 16) hx hb dX3_alikeWith_52 (by decide) ?_
          exact ih y1 y3 y4 y5 x6 x7 hm ls (lv_sub hl [2, 3, 4, 5, 6, 1, 0] rfl)
set_option maxHeartbeats 4000000 in
set_option maxRecDepth 100000 in
theorem tcX3_alikeWith (l : Launch) (D : va_G) (cs : CS) (ad : Nat → Nat) (b : Nat) (S : MT) (a1 : Int32) (a2 : Int32) (a3 : Int32) (a4 : Int32) (z : Int32) (hm : mX3_alikeWith S a1 a2 a3 a4 = some z) : Met l yX3_alikeWith (Cond.code yX3_alikeWith cX3_alikeWith 8 (some .int) :: gw_tbl) ({ frames := 4, cells := 0, slots := 0, locals := 89 }) (PcR D cs (WT cs ad b S) [.ref (ad b), .int a1, .int a2, .int a3, .int a4]) (QRi z) 0 0 NoF := by
  refine met_R rfl (Nat.le_of_ble_eq_true rfl) (fun p e s m below meth c E hP ls hl => ?_)
  obtain ⟨hx, hb, hr, hml, hown, hlk, hT, hN, hK⟩ := id E
  have hl : lv_has ls 8 [(0, .ref (ad b)), (1, .int a1), (2, .int a2), (3, .int a3), (4, .int a4)] := hl
  unfold mX3_alikeWith at hm
  refine lv_aload_n hx hb dX3_alikeWith_0 rfl (lv_at hl 0 rfl) ?_
  refine lv_iload_n hx hb dX3_alikeWith_1 rfl (lv_at hl 1 rfl) ?_
  refine lv_iload_n hx hb dX3_alikeWith_2 rfl (lv_at hl 2 rfl) ?_
  refine lv_iload hx hb dX3_alikeWith_3 (lv_at hl 4 rfl) ?_
  refine xV_i (As := [.int a1, .int a2, .int a4]) (rest := []) hx hb hml hown hT hN hK hP cw_X3_136 hm (fun z h => tcX3_costAs l D cs ad b S a1 a2 a4 z h) ⟨rfl, rfl⟩ ⟨by decide, by decide⟩ (b := (ad b)) 0 rfl rfl rfl hl.1 rfl rfl (Nat.le_of_ble_eq_true rfl) dX3_alikeWith_5 ⟨Nat.zero_le _, Nat.zero_le _⟩ (fun r1 hm => ?_)
  refine lv_istore (lv' := [(5, .int r1), (0, .ref (ad b)), (1, .int a1), (2, .int a2), (3, .int a3), (4, .int a4)]) hx hb dX3_alikeWith_8 hl (by decide) rfl (fun ls hl => ?_)
  refine lv_iconst (v := (nI 0)) hx hb dX3_alikeWith_10 (by decide) ?_
  refine lv_istore (lv' := [(6, .int (nI 0)), (5, .int r1), (0, .ref (ad b)), (1, .int a1), (2, .int a2), (3, .int a3), (4, .int a4)]) hx hb dX3_alikeWith_11 hl (by decide) rfl (fun ls hl => ?_)
  refine lv_iconst (v := (nI 0)) hx hb dX3_alikeWith_13 (by decide) ?_
  refine lv_istore (lv' := [(7, .int (nI 0)), (6, .int (nI 0)), (5, .int r1), (0, .ref (ad b)), (1, .int a1), (2, .int a2), (3, .int a3), (4, .int a4)]) hx hb dX3_alikeWith_14 hl (by decide) rfl (fun ls hl => ?_)
  exact kX3_alikeWith_L16 E hP _ FU a1 a3 a4 r1 (nI 0) (nI 0) hm ls (lv_sub hl [3, 4, 6, 7, 2, 1, 0] rfl)
noncomputable def mX3_mostAlike_L6 (S : MT) : Nat → Int32 → Int32 → Int32 → Int32 → Int32 → Option Int32 := fun n => Nat.rec (motive := fun _ => Int32 → Int32 → Int32 → Int32 → Int32 → Option Int32) (fun _ _ _ _ _ => none) (fun _ rc => fun y1 y2 y3 y4 y5 => (if (nI 6) ≤ y5 then some y4 else (mX10_holds y2 y5).bind fun r1 => (if r1 = 0 then nm (y5 + (nI 1)) fun x2 => rc y1 y2 y3 y4 x2 else (mX3_alikeWith S y1 y5 y2 y3).bind fun r3 => nm (if y4 < r3 then r3 else y4) fun x4 => nm (y5 + (nI 1)) fun x5 => rc y1 y2 y3 x4 x5))) n
theorem mX3_mostAlike_L6_s (S : MT) (n : Nat) (y1 : Int32) (y2 : Int32) (y3 : Int32) (y4 : Int32) (y5 : Int32) : mX3_mostAlike_L6 S (n + 1) y1 y2 y3 y4 y5 = (if (nI 6) ≤ y5 then some y4 else (mX10_holds y2 y5).bind fun r1 => (if r1 = 0 then nm (y5 + (nI 1)) fun x2 => (mX3_mostAlike_L6 S n) y1 y2 y3 y4 x2 else (mX3_alikeWith S y1 y5 y2 y3).bind fun r3 => nm (if y4 < r3 then r3 else y4) fun x4 => nm (y5 + (nI 1)) fun x5 => (mX3_mostAlike_L6 S n) y1 y2 y3 x4 x5)) := rfl
noncomputable def mX3_mostAlike (S : MT) (a1 : Int32) (a2 : Int32) (a3 : Int32) : Option Int32 := mX3_mostAlike_L6 S FU a1 a2 a3 (nI 0) (nI 0)
set_option maxHeartbeats 4000000 in
set_option maxRecDepth 100000 in
theorem kX3_mostAlike_L6 {p : Program} {l : Launch} {e : Env} {s : State} {m : MethodId} {below : List Frame} {meth : Method} {c : Code} {D : va_G} {cs : CS}  {ad : Nat → Nat} {b : Nat} {S : MT} {a1 : Int32} {a2 : Int32} {a3 : Int32} (E : EV p s m [.ref (ad b), .int a1, .int a2, .int a3].toArray meth c cX3_mostAlike 6 RX3 (some .int) D cs) (hP : va_P D classes (WT cs ad b S) s.heap) (z : Int32) : ∀ (n : Nat) (y1 : Int32) (y2 : Int32) (y3 : Int32) (y4 : Int32) (y5 : Int32), mX3_mostAlike_L6 S n y1 y2 y3 y4 y5 = some z → ∀ ls : Array Slot, lv_has ls 6 [(0, .ref (ad b)), (1, .int y1), (2, .int y2), (3, .int y3), (4, .int y4), (5, .int y5)] → W p l e ({ frames := 5, cells := 0, slots := 0, locals := 116 }) s m [.ref (ad b), .int a1, .int a2, .int a3].toArray below meth c s.heap [] 0 0 (MQ below (QRi z) [.ref (ad b), .int a1, .int a2, .int a3].toArray s 0 0 NoF) (F0 m 6 ls []) := by
  obtain ⟨hx, hb, hr, hml, hown, hlk, hT, hN, hK⟩ := id E
  intro n
  induction n with
  | zero =>
    intro y1 y2 y3 y4 y5 hm
    exact nomatch (show (none : Option Int32) = some z from hm)
  | succ n ih =>
    intro y1 y2 y3 y4 y5 hm ls hl
    rw [mX3_mostAlike_L6_s] at hm
    refine lv_iload hx hb dX3_mostAlike_6 (lv_at hl 5 rfl) ?_
    refine lv_bipush (v := (nI 6)) hx hb dX3_mostAlike_8 (by decide) ?_
    refine x_icmp_ge (tgt := 44) hx hb dX3_mostAlike_10 (by decide) hm (fun hm => ?_) (fun hm => ?_)
    · refine lv_iload hx hb dX3_mostAlike_44 (lv_at hl 4 rfl) ?_
      exact x_iretR hx hb hr hlk hm dX3_mostAlike_46
    · refine lv_iload_n hx hb dX3_mostAlike_13 rfl (lv_at hl 2 rfl) ?_
      refine lv_iload hx hb dX3_mostAlike_14 (lv_at hl 5 rfl) ?_
      refine xN_i (As := [.int y2, .int y5]) (rest := []) hx hb hml hown hT hN hK (hP.sub (ws' := []) [] rfl) cw_X3_108 hm (fun z h => tcX10_holds l D cs y2 y5 z h) ⟨rfl, rfl⟩ ⟨by decide, by decide⟩ hl.1 rfl rfl (Nat.le_of_ble_eq_true rfl) dX3_mostAlike_16 ⟨Nat.zero_le _, Nat.zero_le _⟩ (fun r1 hm => ?_)
      refine x_if_eq (tgt := 38) hx hb dX3_mostAlike_19 (by decide) hm (fun hm => ?_) (fun hm => ?_)
      · refine x_iinc (lv' := fun x2 => [(5, .int x2), (0, .ref (ad b)), (1, .int y1), (2, .int y2), (3, .int y3), (4, .int y4)]) hx hb dX3_mostAlike_38 hl (k := 5) rfl (by decide) (v0 := (nI 1)) (by decide) (fun _ => rfl) hm (fun x2 ls hm hl => ?_)
        refine lv_goto (tgt := 6) hx hb dX3_mostAlike_41 (by decide) ?_
        exact ih y1 y2 y3 y4 x2 hm ls (lv_sub hl [1, 2, 3, 4, 5, 0] rfl)
      · refine lv_iload hx hb dX3_mostAlike_22 (lv_at hl 4 rfl) ?_
        refine lv_aload_n hx hb dX3_mostAlike_24 rfl (lv_at hl 0 rfl) ?_
        refine lv_iload_n hx hb dX3_mostAlike_25 rfl (lv_at hl 1 rfl) ?_
        refine lv_iload hx hb dX3_mostAlike_26 (lv_at hl 5 rfl) ?_
        refine lv_iload_n hx hb dX3_mostAlike_28 rfl (lv_at hl 2 rfl) ?_
        refine lv_iload_n hx hb dX3_mostAlike_29 rfl (lv_at hl 3 rfl) ?_
        refine xV_i (As := [.int y1, .int y5, .int y2, .int y3]) (rest := [.int y4]) hx hb hml hown hT hN hK hP cw_X3_127 hm (fun z h => tcX3_alikeWith l D cs ad b S y1 y5 y2 y3 z h) ⟨rfl, rfl⟩ ⟨by decide, by decide⟩ (b := (ad b)) 0 rfl rfl rfl hl.1 rfl rfl (Nat.le_of_ble_eq_true rfl) dX3_mostAlike_30 ⟨Nat.zero_le _, Nat.zero_le _⟩ (fun r3 hm => ?_)
        refine va_mmax hx hb (by rw [hml]; exact hl.1.symm) hown (hT _ tw_734) (hT _ tw_85) (hT _ tw_10) (hT _ tw_86) (by decide) (by decide) (Nat.zero_le _) (Nat.zero_le _) dX3_mostAlike_33 ?_
        refine xi_nm hm (fun x4 hm => ?_)
        refine lv_istore (lv' := [(4, .int x4), (0, .ref (ad b)), (1, .int y1), (2, .int y2), (3, .int y3), (5, .int y5)]) hx hb dX3_mostAlike_36 hl (by decide) rfl (fun ls hl => ?_)
        refine x_iinc (lv' := fun x5 => [(5, .int x5), (4, .int x4), (0, .ref (ad b)), (1, .int y1), (2, .int y2), (3, .int y3)]) hx hb dX3_mostAlike_38 hl (k := 5) rfl (by decide) (v0 := (nI 1)) (by decide) (fun _ => rfl) hm (fun x5 ls hm hl => ?_)
        refine lv_goto (tgt := 6) hx hb dX3_mostAlike_41 (by decide) ?_
        exact ih y1 y2 y3 x4 x5 hm ls (lv_sub hl [2, 3, 4, 5, 1, 0] rfl)
set_option maxHeartbeats 4000000 in
set_option maxRecDepth 100000 in
theorem tcX3_mostAlike (l : Launch) (D : va_G) (cs : CS) (ad : Nat → Nat) (b : Nat) (S : MT) (a1 : Int32) (a2 : Int32) (a3 : Int32) (z : Int32) (hm : mX3_mostAlike S a1 a2 a3 = some z) : Met l yX3_mostAlike (Cond.code yX3_mostAlike cX3_mostAlike 6 (some .int) :: gw_tbl) ({ frames := 5, cells := 0, slots := 0, locals := 116 }) (PcR D cs (WT cs ad b S) [.ref (ad b), .int a1, .int a2, .int a3]) (QRi z) 0 0 NoF := by
  refine met_R rfl (Nat.le_of_ble_eq_true rfl) (fun p e s m below meth c E hP ls hl => ?_)
  obtain ⟨hx, hb, hr, hml, hown, hlk, hT, hN, hK⟩ := id E
  have hl : lv_has ls 6 [(0, .ref (ad b)), (1, .int a1), (2, .int a2), (3, .int a3)] := hl
  unfold mX3_mostAlike at hm
  refine lv_iconst (v := (nI 0)) hx hb dX3_mostAlike_0 (by decide) ?_
  refine lv_istore (lv' := [(4, .int (nI 0)), (0, .ref (ad b)), (1, .int a1), (2, .int a2), (3, .int a3)]) hx hb dX3_mostAlike_1 hl (by decide) rfl (fun ls hl => ?_)
  refine lv_iconst (v := (nI 0)) hx hb dX3_mostAlike_3 (by decide) ?_
  refine lv_istore (lv' := [(5, .int (nI 0)), (4, .int (nI 0)), (0, .ref (ad b)), (1, .int a1), (2, .int a2), (3, .int a3)]) hx hb dX3_mostAlike_4 hl (by decide) rfl (fun ls hl => ?_)
  exact kX3_mostAlike_L6 E hP _ FU a1 a2 a3 (nI 0) (nI 0) hm ls (lv_sub hl [2, 3, 4, 5, 1, 0] rfl)
noncomputable def mX3_fitsHearings_L2 (S : MT) : Nat → Int32 → Int32 → Option Int32 := fun n => Nat.rec (motive := fun _ => Int32 → Int32 → Option Int32) (fun _ _ => none) (fun _ rc => fun y1 y2 => (if ((S.1 3).1) ≤ y2 then zo (nI 1) (some (nI 1)) else (mX7_cell (nI 6) (nI 2) 12 (S.1 3) y2 (nI 0)).bind fun r1 => (mX3_courtHears S r1 y1).bind fun r2 => (mX7_cell (nI 6) (nI 2) 12 (S.1 3) y2 (nI 1)).bind fun r3 => (if r3 = (nI 1) then (if r2 = (nI 1) then nm (y2 + (nI 1)) fun x5 => rc y1 x5 else zo (nI 0) (some (nI 0))) else (if r2 = (nI 0) then nm (y2 + (nI 1)) fun x4 => rc y1 x4 else zo (nI 0) (some (nI 0)))))) n
theorem mX3_fitsHearings_L2_s (S : MT) (n : Nat) (y1 : Int32) (y2 : Int32) : mX3_fitsHearings_L2 S (n + 1) y1 y2 = (if ((S.1 3).1) ≤ y2 then zo (nI 1) (some (nI 1)) else (mX7_cell (nI 6) (nI 2) 12 (S.1 3) y2 (nI 0)).bind fun r1 => (mX3_courtHears S r1 y1).bind fun r2 => (mX7_cell (nI 6) (nI 2) 12 (S.1 3) y2 (nI 1)).bind fun r3 => (if r3 = (nI 1) then (if r2 = (nI 1) then nm (y2 + (nI 1)) fun x5 => (mX3_fitsHearings_L2 S n) y1 x5 else zo (nI 0) (some (nI 0))) else (if r2 = (nI 0) then nm (y2 + (nI 1)) fun x4 => (mX3_fitsHearings_L2 S n) y1 x4 else zo (nI 0) (some (nI 0))))) := rfl
noncomputable def mX3_fitsHearings (S : MT) (a1 : Int32) : Option Int32 := mX3_fitsHearings_L2 S FU a1 (nI 0)
set_option maxHeartbeats 4000000 in
set_option maxRecDepth 100000 in
theorem kX3_fitsHearings_L2 {p : Program} {l : Launch} {e : Env} {s : State} {m : MethodId} {below : List Frame} {meth : Method} {c : Code} {D : va_G} {cs : CS}  {ad : Nat → Nat} {b : Nat} {S : MT} {a1 : Int32} (E : EV p s m [.ref (ad b), .int a1].toArray meth c cX3_fitsHearings 4 RX3 (some .boolean) D cs) (hP : va_P D classes (WT cs ad b S) s.heap) (z : Int32) : ∀ (n : Nat) (y1 : Int32) (y2 : Int32), mX3_fitsHearings_L2 S n y1 y2 = some z → ∀ ls : Array Slot, lv_has ls 4 [(0, .ref (ad b)), (1, .int y1), (2, .int y2)] → W p l e ({ frames := 2, cells := 0, slots := 0, locals := 45 }) s m [.ref (ad b), .int a1].toArray below meth c s.heap [] 0 0 (MQ below (QRi z) [.ref (ad b), .int a1].toArray s 0 0 NoF) (F0 m 2 ls []) := by
  obtain ⟨hx, hb, hr, hml, hown, hlk, hT, hN, hK⟩ := id E
  intro n
  induction n with
  | zero =>
    intro y1 y2 hm
    exact nomatch (show (none : Option Int32) = some z from hm)
  | succ n ih =>
    intro y1 y2 hm ls hl
    rw [mX3_fitsHearings_L2_s] at hm
    refine lv_iload_n hx hb dX3_fitsHearings_2 rfl (lv_at hl 2 rfl) ?_
    refine lv_aload_n hx hb dX3_fitsHearings_3 rfl (lv_at hl 0 rfl) ?_
    refine gf_X3_37 (v := .ref (ad (b + 8))) hx hb hT hown hK hP 0 rfl rfl dX3_fitsHearings_4 ?_
    refine gf_X3_77 (v := .int ((S.1 3).1)) hx hb hT hown hK hP 8 rfl rfl dX3_fitsHearings_7 ?_
    refine x_icmp_ge (tgt := 58) hx hb dX3_fitsHearings_10 (by decide) hm (fun hm => ?_) (fun hm => ?_)
    · refine lv_iconst (v := (nI 1)) hx hb dX3_fitsHearings_58 (by decide) ?_
      exact x_zretR hx hb hr hlk hm dX3_fitsHearings_59
    · refine lv_aload_n hx hb dX3_fitsHearings_13 rfl (lv_at hl 0 rfl) ?_
      refine lv_aload_n hx hb dX3_fitsHearings_14 rfl (lv_at hl 0 rfl) ?_
      refine gf_X3_37 (v := .ref (ad (b + 8))) hx hb hT hown hK hP 0 rfl rfl dX3_fitsHearings_15 ?_
      refine lv_iload_n hx hb dX3_fitsHearings_18 rfl (lv_at hl 2 rfl) ?_
      refine lv_iconst (v := (nI 0)) hx hb dX3_fitsHearings_19 (by decide) ?_
      refine xV_i (As := [.int y2, .int (nI 0)]) (rest := [.ref (ad b)]) hx hb hml hown hT hN hK (hP.sub (ws' := WR cs ad (b + 8) (nI 6) (nI 2) 12 (S.1 3)) [8, 9] rfl) cw_X3_80 hm (fun z h => tcX7_cell l D cs ad (b + 8) (nI 6) (nI 2) 12 (S.1 3) y2 (nI 0) z h) ⟨rfl, rfl⟩ ⟨by decide, by decide⟩ (b := (ad (b + 8))) 0 rfl rfl rfl hl.1 rfl rfl (Nat.le_of_ble_eq_true rfl) dX3_fitsHearings_20 ⟨Nat.zero_le _, Nat.zero_le _⟩ (fun r1 hm => ?_)
      refine lv_iload_n hx hb dX3_fitsHearings_23 rfl (lv_at hl 1 rfl) ?_
      refine xV_i (As := [.int r1, .int y1]) (rest := []) hx hb hml hown hT hN hK hP cw_X3_115 hm (fun z h => tcX3_courtHears l D cs ad b S r1 y1 z h) ⟨rfl, rfl⟩ ⟨by decide, by decide⟩ (b := (ad b)) 0 rfl rfl rfl hl.1 rfl rfl (Nat.le_of_ble_eq_true rfl) dX3_fitsHearings_24 ⟨Nat.zero_le _, Nat.zero_le _⟩ (fun r2 hm => ?_)
      refine lv_istore_n (lv' := [(3, .int r2), (0, .ref (ad b)), (1, .int y1), (2, .int y2)]) hx hb dX3_fitsHearings_27 rfl hl (by decide) rfl (fun ls hl => ?_)
      refine lv_iload_n hx hb dX3_fitsHearings_28 rfl (lv_at hl 0 rfl) ?_
      refine lv_aload_n hx hb dX3_fitsHearings_29 rfl (lv_at hl 1 rfl) ?_
      refine gf_X3_37 (v := .ref (ad (b + 8))) hx hb hT hown hK hP 0 rfl rfl dX3_fitsHearings_30 ?_
      refine lv_iload_n hx hb dX3_fitsHearings_33 rfl (lv_at hl 3 rfl) ?_
      refine lv_iconst (v := (nI 1)) hx hb dX3_fitsHearings_34 (by decide) ?_
      refine xV_i (As := [.int y2, .int (nI 1)]) (rest := [.int r2]) hx hb hml hown hT hN hK (hP.sub (ws' := WR cs ad (b + 8) (nI 6) (nI 2) 12 (S.1 3)) [8, 9] rfl) cw_X3_80 hm (fun z h => tcX7_cell l D cs ad (b + 8) (nI 6) (nI 2) 12 (S.1 3) y2 (nI 1) z h) ⟨rfl, rfl⟩ ⟨by decide, by decide⟩ (b := (ad (b + 8))) 0 rfl rfl rfl hl.1 rfl rfl (Nat.le_of_ble_eq_true rfl) dX3_fitsHearings_35 ⟨Nat.zero_le _, Nat.zero_le _⟩ (fun r3 hm => ?_)
      refine lv_iconst (v := (nI 1)) hx hb dX3_fitsHearings_38 (by decide) ?_
      refine x_icmp_ne (tgt := 46) hx hb dX3_fitsHearings_39 (by decide) hm (fun hm => ?_) (fun hm => ?_)
      · refine lv_iconst (v := (nI 0)) hx hb dX3_fitsHearings_46 (by decide) ?_
        refine x_icmp_eq (tgt := 52) hx hb dX3_fitsHearings_47 (by decide) hm (fun hm => ?_) (fun hm => ?_)
        · refine x_iinc (lv' := fun x4 => [(2, .int x4), (3, .int r2), (0, .ref (ad b)), (1, .int y1)]) hx hb dX3_fitsHearings_52 hl (k := 3) rfl (by decide) (v0 := (nI 1)) (by decide) (fun _ => rfl) hm (fun x4 ls hm hl => ?_)
          refine lv_goto (tgt := 2) hx hb dX3_fitsHearings_55 (by decide) ?_
          exact ih y1 x4 hm ls (lv_sub hl [2, 3, 0] rfl)
        · refine lv_iconst (v := (nI 0)) hx hb dX3_fitsHearings_50 (by decide) ?_
          exact x_zretR hx hb hr hlk hm dX3_fitsHearings_51
      · refine lv_iconst (v := (nI 1)) hx hb dX3_fitsHearings_42 (by decide) ?_
        refine lv_goto (tgt := 47) hx hb dX3_fitsHearings_43 (by decide) ?_
        refine x_icmp_eq (tgt := 52) hx hb dX3_fitsHearings_47 (by decide) hm (fun hm => ?_) (fun hm => ?_)
        · refine x_iinc (lv' := fun x5 => [(2, .int x5), (3, .int r2), (0, .ref (ad b)), (1, .int y1)]) hx hb dX3_fitsHearings_52 hl (k := 3) rfl (by decide) (v0 := (nI 1)) (by decide) (fun _ => rfl) hm (fun x5 ls hm hl => ?_)
          refine lv_goto (tgt := 2) hx hb dX3_fitsHearings_55 (by decide) ?_
          exact ih y1 x5 hm ls (lv_sub hl [2, 3, 0] rfl)
        · refine lv_iconst (v := (nI 0)) hx hb dX3_fitsHearings_50 (by decide) ?_
          exact x_zretR hx hb hr hlk hm dX3_fitsHearings_51
set_option maxHeartbeats 4000000 in
set_option maxRecDepth 100000 in
theorem tcX3_fitsHearings (l : Launch) (D : va_G) (cs : CS) (ad : Nat → Nat) (b : Nat) (S : MT) (a1 : Int32) (z : Int32) (hm : mX3_fitsHearings S a1 = some z) : Met l yX3_fitsHearings (Cond.code yX3_fitsHearings cX3_fitsHearings 4 (some .boolean) :: gw_tbl) ({ frames := 2, cells := 0, slots := 0, locals := 45 }) (PcR D cs (WT cs ad b S) [.ref (ad b), .int a1]) (QRi z) 0 0 NoF := by
  refine met_R rfl (Nat.le_of_ble_eq_true rfl) (fun p e s m below meth c E hP ls hl => ?_)
  obtain ⟨hx, hb, hr, hml, hown, hlk, hT, hN, hK⟩ := id E
  have hl : lv_has ls 4 [(0, .ref (ad b)), (1, .int a1)] := hl
  unfold mX3_fitsHearings at hm
  refine lv_iconst (v := (nI 0)) hx hb dX3_fitsHearings_0 (by decide) ?_
  refine lv_istore_n (lv' := [(2, .int (nI 0)), (0, .ref (ad b)), (1, .int a1)]) hx hb dX3_fitsHearings_1 rfl hl (by decide) rfl (fun ls hl => ?_)
  exact kX3_fitsHearings_L2 E hP _ FU a1 (nI 0) hm ls (lv_sub hl [1, 2, 0] rfl)
noncomputable def mX3_beginSuit (S : MT) : Option MT := nm (tI S 8 (nI 0)) fun S1 => nm (tI S1 9 (nI 0)) fun S2 => nm (tI S2 10 (nI 0)) fun S3 => (mX7_empty (nI 8) (nI 3) 24 (S3.1 4)).bind fun u5 => nm (tR S3 4 u5) fun S4 => some S4
set_option maxHeartbeats 4000000 in
set_option maxRecDepth 100000 in
theorem tcX3_beginSuit (l : Launch) (D : va_G) (cs : CS) (ad : Nat → Nat) (b : Nat) (sz : Nat) (S : MT) (z : MT) (hm : mX3_beginSuit S = some z) : Met l yX3_beginSuit (Cond.code yX3_beginSuit cX3_beginSuit 1 none :: gw_tbl) ({ frames := 1, cells := 0, slots := 0, locals := 20 }) (PcW D cs sz (WT cs ad b S) [.ref (ad b)]) (QWv D cs (va_A (WT cs ad b S) sz) (fun u => WT cs ad b u) z) 0 0 (va_A (WT cs ad b S) sz) := by
  refine met_W rfl (Nat.le_of_ble_eq_true rfl) (fun p e s m below meth c E hP hD hS hA ls hl => ?_)
  generalize va_A (WT cs ad b S) sz = A at hD hS hA ⊢
  obtain ⟨hx, hb, hr, hml, hown, hlk, hT, hN, hK⟩ := id E
  obtain ⟨H, hH⟩ : ∃ H, H = s.heap := ⟨_, rfl⟩
  obtain ⟨locs, hlo⟩ : ∃ L : List Loc, L = [] := ⟨_, rfl⟩
  have hP : va_P D classes (WT cs ad b S) H := by rw [hH]; exact hP
  have hS : va_S A s.heap H locs := by rw [hH, hlo]; exact hS
  rw [show W p l e _ s m _ below meth c s.heap [] 0 0 = W p l e _ s m _ below meth c H locs 0 0 by rw [hH, hlo]]
  have hl : lv_has ls 1 [(0, .ref (ad b))] := hl
  unfold mX3_beginSuit at hm
  refine lv_aload_n hx hb dX3_beginSuit_0 rfl (lv_at hl 0 rfl) ?_
  refine lv_iconst (v := (nI 0)) hx hb dX3_beginSuit_1 (by decide) ?_
  refine pf_X3_53 (wf := (fun u => WT cs ad b u)) (u0 := tI S 8 (nI 0)) hx hb hT hown hK hP hD hS 0 rfl (Nat.le_of_ble_eq_true rfl) rfl rfl rfl hm dX3_beginSuit_2 (fun S1 H locs hm hP hD hS => ?_)
  refine lv_aload_n hx hb dX3_beginSuit_5 rfl (lv_at hl 0 rfl) ?_
  refine lv_iconst (v := (nI 0)) hx hb dX3_beginSuit_6 (by decide) ?_
  refine pf_X3_56 (wf := (fun u => WT cs ad b u)) (u0 := tI S1 9 (nI 0)) hx hb hT hown hK hP hD hS 0 rfl (Nat.le_of_ble_eq_true rfl) rfl rfl rfl hm dX3_beginSuit_7 (fun S2 H locs hm hP hD hS => ?_)
  refine lv_aload_n hx hb dX3_beginSuit_10 rfl (lv_at hl 0 rfl) ?_
  refine lv_iconst (v := (nI 0)) hx hb dX3_beginSuit_11 (by decide) ?_
  refine pf_X3_59 (wf := (fun u => WT cs ad b u)) (u0 := tI S2 10 (nI 0)) hx hb hT hown hK hP hD hS 0 rfl (Nat.le_of_ble_eq_true rfl) rfl rfl rfl hm dX3_beginSuit_12 (fun S3 H locs hm hP hD hS => ?_)
  refine lv_aload_n hx hb dX3_beginSuit_15 rfl (lv_at hl 0 rfl) ?_
  refine gf_X3_40 (v := .ref (ad (b + 10))) hx hb hT hown hK hP 0 rfl rfl dX3_beginSuit_16 ?_
  refine xVW_v (As := []) (rest := []) (wr := [((ad b), .inr (3, [.ref (ad 1), .ref (ad (b + 1)), .ref (ad (b + 2)), .ref (ad (b + 4)), .ref (ad (b + 6)), .ref (ad (b + 8)), .ref (ad (b + 10)), .int (S3.2 7), .int (S3.2 8), .int (S3.2 9), .int (S3.2 10)])), ((ad (b + 1)), .inr (6, [])), ((ad (b + 2)), .inr (7, [.int (nI 6), .int (nI 4), .ref (ad (b + 3)), .int ((S3.1 0).1)])), ((ad (b + 3)), .inl (cs 0, 24, .inl ((S3.1 0).2))), ((ad (b + 4)), .inr (7, [.int (nI 4), .int (nI 2), .ref (ad (b + 5)), .int ((S3.1 1).1)])), ((ad (b + 5)), .inl (cs 0, 8, .inl ((S3.1 1).2))), ((ad (b + 6)), .inr (7, [.int (nI 6), .int (nI 3), .ref (ad (b + 7)), .int ((S3.1 2).1)])), ((ad (b + 7)), .inl (cs 0, 18, .inl ((S3.1 2).2))), ((ad (b + 8)), .inr (7, [.int (nI 6), .int (nI 2), .ref (ad (b + 9)), .int ((S3.1 3).1)])), ((ad (b + 9)), .inl (cs 0, 12, .inl ((S3.1 3).2))), ((ad 1), .inl (cs 2, 6, .inr (.inr (.inr (.inr (fun k => some (ad (2 + k)))))))), ((ad 2), .inr (6, [])), ((ad 3), .inr (5, [])), ((ad 4), .inr (1, [])), ((ad 5), .inr (9, [])), ((ad 6), .inr (2, [])), ((ad 7), .inr (8, []))]) (wg := fun u5 => WT cs ad b (tR S3 4 u5)) hx hb hml hown hT hN hK hP hD hS hA cw_X3_47 hm (fun z h => tcX7_empty l D cs ad (b + 10) (nI 8) (nI 3) 24 H.size (S3.1 4) z h) ⟨rfl, rfl⟩ ⟨by decide, by decide⟩ [10, 11] [0, 1, 2, 3, 4, 5, 6, 7, 8, 9, 12, 13, 14, 15, 16, 17, 18] [0, 1, 2, 3, 4, 5, 6, 7, 8, 9, 17, 18, 10, 11, 12, 13, 14, 15, 16] rfl (by decide) rfl (by decide) (by decide) (fun _ => rfl) (by decide) (b := (ad (b + 10))) 0 rfl rfl rfl hl.1 rfl rfl (Nat.le_of_ble_eq_true rfl) dX3_beginSuit_19 ⟨Nat.zero_le _, Nat.zero_le _⟩ (fun u5 H locs hm hP hD hS => ?_)
  obtain ⟨S4, hm, eS4⟩ := nm_ex hm
  rw [← eS4] at hP hD
  exact x_vretW (wf := (fun u => WT cs ad b u)) hx hb hr hlk hK hP hD hS hm dX3_beginSuit_22
noncomputable def mX3_begin (S : MT) (a1 : Int32) : Option MT := nm (tI S 7 a1) fun S1 => (mX7_empty (nI 6) (nI 4) 24 (S1.1 0)).bind fun u3 => nm (tR S1 0 u3) fun S2 => (mX7_empty (nI 4) (nI 2) 8 (S2.1 1)).bind fun u5 => nm (tR S2 1 u5) fun S4 => (mX7_empty (nI 6) (nI 3) 18 (S4.1 2)).bind fun u7 => nm (tR S4 2 u7) fun S6 => (mX7_empty (nI 6) (nI 2) 12 (S6.1 3)).bind fun u9 => nm (tR S6 3 u9) fun S8 => (mX3_beginSuit S8).bind fun S10 => some S10
set_option maxHeartbeats 4000000 in
set_option maxRecDepth 100000 in
theorem tcX3_begin (l : Launch) (D : va_G) (cs : CS) (ad : Nat → Nat) (b : Nat) (sz : Nat) (S : MT) (a1 : Int32) (z : MT) (hm : mX3_begin S a1 = some z) : Met l yX3_begin (Cond.code yX3_begin cX3_begin 2 none :: gw_tbl) ({ frames := 2, cells := 0, slots := 0, locals := 40 }) (PcW D cs sz (WT cs ad b S) [.ref (ad b), .int a1]) (QWv D cs (va_A (WT cs ad b S) sz) (fun u => WT cs ad b u) z) 0 0 (va_A (WT cs ad b S) sz) := by
  refine met_W rfl (Nat.le_of_ble_eq_true rfl) (fun p e s m below meth c E hP hD hS hA ls hl => ?_)
  generalize va_A (WT cs ad b S) sz = A at hD hS hA ⊢
  obtain ⟨hx, hb, hr, hml, hown, hlk, hT, hN, hK⟩ := id E
  obtain ⟨H, hH⟩ : ∃ H, H = s.heap := ⟨_, rfl⟩
  obtain ⟨locs, hlo⟩ : ∃ L : List Loc, L = [] := ⟨_, rfl⟩
  have hP : va_P D classes (WT cs ad b S) H := by rw [hH]; exact hP
  have hS : va_S A s.heap H locs := by rw [hH, hlo]; exact hS
  rw [show W p l e _ s m _ below meth c s.heap [] 0 0 = W p l e _ s m _ below meth c H locs 0 0 by rw [hH, hlo]]
  have hl : lv_has ls 2 [(0, .ref (ad b)), (1, .int a1)] := hl
  unfold mX3_begin at hm
  refine lv_aload_n hx hb dX3_begin_0 rfl (lv_at hl 0 rfl) ?_
  refine lv_iload_n hx hb dX3_begin_1 rfl (lv_at hl 1 rfl) ?_
  refine pf_X3_43 (wf := (fun u => WT cs ad b u)) (u0 := tI S 7 a1) hx hb hT hown hK hP hD hS 0 rfl (Nat.le_of_ble_eq_true rfl) rfl rfl rfl hm dX3_begin_2 (fun S1 H locs hm hP hD hS => ?_)
  refine lv_aload_n hx hb dX3_begin_5 rfl (lv_at hl 0 rfl) ?_
  refine gf_X3_27 (v := .ref (ad (b + 2))) hx hb hT hown hK hP 0 rfl rfl dX3_begin_6 ?_
  refine xVW_v (As := []) (rest := []) (wr := [((ad b), .inr (3, [.ref (ad 1), .ref (ad (b + 1)), .ref (ad (b + 2)), .ref (ad (b + 4)), .ref (ad (b + 6)), .ref (ad (b + 8)), .ref (ad (b + 10)), .int (S1.2 7), .int (S1.2 8), .int (S1.2 9), .int (S1.2 10)])), ((ad (b + 1)), .inr (6, [])), ((ad (b + 4)), .inr (7, [.int (nI 4), .int (nI 2), .ref (ad (b + 5)), .int ((S1.1 1).1)])), ((ad (b + 5)), .inl (cs 0, 8, .inl ((S1.1 1).2))), ((ad (b + 6)), .inr (7, [.int (nI 6), .int (nI 3), .ref (ad (b + 7)), .int ((S1.1 2).1)])), ((ad (b + 7)), .inl (cs 0, 18, .inl ((S1.1 2).2))), ((ad (b + 8)), .inr (7, [.int (nI 6), .int (nI 2), .ref (ad (b + 9)), .int ((S1.1 3).1)])), ((ad (b + 9)), .inl (cs 0, 12, .inl ((S1.1 3).2))), ((ad (b + 10)), .inr (7, [.int (nI 8), .int (nI 3), .ref (ad (b + 11)), .int ((S1.1 4).1)])), ((ad (b + 11)), .inl (cs 0, 24, .inl ((S1.1 4).2))), ((ad 1), .inl (cs 2, 6, .inr (.inr (.inr (.inr (fun k => some (ad (2 + k)))))))), ((ad 2), .inr (6, [])), ((ad 3), .inr (5, [])), ((ad 4), .inr (1, [])), ((ad 5), .inr (9, [])), ((ad 6), .inr (2, [])), ((ad 7), .inr (8, []))]) (wg := fun u3 => WT cs ad b (tR S1 0 u3)) hx hb hml hown hT hN hK hP hD hS hA cw_X3_47 hm (fun z h => tcX7_empty l D cs ad (b + 2) (nI 6) (nI 4) 24 H.size (S1.1 0) z h) ⟨rfl, rfl⟩ ⟨by decide, by decide⟩ [2, 3] [0, 1, 4, 5, 6, 7, 8, 9, 10, 11, 12, 13, 14, 15, 16, 17, 18] [0, 1, 17, 18, 2, 3, 4, 5, 6, 7, 8, 9, 10, 11, 12, 13, 14, 15, 16] rfl (by decide) rfl (by decide) (by decide) (fun _ => rfl) (by decide) (b := (ad (b + 2))) 0 rfl rfl rfl hl.1 rfl rfl (Nat.le_of_ble_eq_true rfl) dX3_begin_9 ⟨Nat.zero_le _, Nat.zero_le _⟩ (fun u3 H locs hm hP hD hS => ?_)
  obtain ⟨S2, hm, eS2⟩ := nm_ex hm
  rw [← eS2] at hP hD
  refine lv_aload_n hx hb dX3_begin_12 rfl (lv_at hl 0 rfl) ?_
  refine gf_X3_31 (v := .ref (ad (b + 4))) hx hb hT hown hK hP 0 rfl rfl dX3_begin_13 ?_
  refine xVW_v (As := []) (rest := []) (wr := [((ad b), .inr (3, [.ref (ad 1), .ref (ad (b + 1)), .ref (ad (b + 2)), .ref (ad (b + 4)), .ref (ad (b + 6)), .ref (ad (b + 8)), .ref (ad (b + 10)), .int (S2.2 7), .int (S2.2 8), .int (S2.2 9), .int (S2.2 10)])), ((ad (b + 1)), .inr (6, [])), ((ad (b + 2)), .inr (7, [.int (nI 6), .int (nI 4), .ref (ad (b + 3)), .int ((S2.1 0).1)])), ((ad (b + 3)), .inl (cs 0, 24, .inl ((S2.1 0).2))), ((ad (b + 6)), .inr (7, [.int (nI 6), .int (nI 3), .ref (ad (b + 7)), .int ((S2.1 2).1)])), ((ad (b + 7)), .inl (cs 0, 18, .inl ((S2.1 2).2))), ((ad (b + 8)), .inr (7, [.int (nI 6), .int (nI 2), .ref (ad (b + 9)), .int ((S2.1 3).1)])), ((ad (b + 9)), .inl (cs 0, 12, .inl ((S2.1 3).2))), ((ad (b + 10)), .inr (7, [.int (nI 8), .int (nI 3), .ref (ad (b + 11)), .int ((S2.1 4).1)])), ((ad (b + 11)), .inl (cs 0, 24, .inl ((S2.1 4).2))), ((ad 1), .inl (cs 2, 6, .inr (.inr (.inr (.inr (fun k => some (ad (2 + k)))))))), ((ad 2), .inr (6, [])), ((ad 3), .inr (5, [])), ((ad 4), .inr (1, [])), ((ad 5), .inr (9, [])), ((ad 6), .inr (2, [])), ((ad 7), .inr (8, []))]) (wg := fun u5 => WT cs ad b (tR S2 1 u5)) hx hb hml hown hT hN hK hP hD hS hA cw_X3_47 hm (fun z h => tcX7_empty l D cs ad (b + 4) (nI 4) (nI 2) 8 H.size (S2.1 1) z h) ⟨rfl, rfl⟩ ⟨by decide, by decide⟩ [4, 5] [0, 1, 2, 3, 6, 7, 8, 9, 10, 11, 12, 13, 14, 15, 16, 17, 18] [0, 1, 2, 3, 17, 18, 4, 5, 6, 7, 8, 9, 10, 11, 12, 13, 14, 15, 16] rfl (by decide) rfl (by decide) (by decide) (fun _ => rfl) (by decide) (b := (ad (b + 4))) 0 rfl rfl rfl hl.1 rfl rfl (Nat.le_of_ble_eq_true rfl) dX3_begin_16 ⟨Nat.zero_le _, Nat.zero_le _⟩ (fun u5 H locs hm hP hD hS => ?_)
  obtain ⟨S4, hm, eS4⟩ := nm_ex hm
  rw [← eS4] at hP hD
  refine lv_aload_n hx hb dX3_begin_19 rfl (lv_at hl 0 rfl) ?_
  refine gf_X3_34 (v := .ref (ad (b + 6))) hx hb hT hown hK hP 0 rfl rfl dX3_begin_20 ?_
  refine xVW_v (As := []) (rest := []) (wr := [((ad b), .inr (3, [.ref (ad 1), .ref (ad (b + 1)), .ref (ad (b + 2)), .ref (ad (b + 4)), .ref (ad (b + 6)), .ref (ad (b + 8)), .ref (ad (b + 10)), .int (S4.2 7), .int (S4.2 8), .int (S4.2 9), .int (S4.2 10)])), ((ad (b + 1)), .inr (6, [])), ((ad (b + 2)), .inr (7, [.int (nI 6), .int (nI 4), .ref (ad (b + 3)), .int ((S4.1 0).1)])), ((ad (b + 3)), .inl (cs 0, 24, .inl ((S4.1 0).2))), ((ad (b + 4)), .inr (7, [.int (nI 4), .int (nI 2), .ref (ad (b + 5)), .int ((S4.1 1).1)])), ((ad (b + 5)), .inl (cs 0, 8, .inl ((S4.1 1).2))), ((ad (b + 8)), .inr (7, [.int (nI 6), .int (nI 2), .ref (ad (b + 9)), .int ((S4.1 3).1)])), ((ad (b + 9)), .inl (cs 0, 12, .inl ((S4.1 3).2))), ((ad (b + 10)), .inr (7, [.int (nI 8), .int (nI 3), .ref (ad (b + 11)), .int ((S4.1 4).1)])), ((ad (b + 11)), .inl (cs 0, 24, .inl ((S4.1 4).2))), ((ad 1), .inl (cs 2, 6, .inr (.inr (.inr (.inr (fun k => some (ad (2 + k)))))))), ((ad 2), .inr (6, [])), ((ad 3), .inr (5, [])), ((ad 4), .inr (1, [])), ((ad 5), .inr (9, [])), ((ad 6), .inr (2, [])), ((ad 7), .inr (8, []))]) (wg := fun u7 => WT cs ad b (tR S4 2 u7)) hx hb hml hown hT hN hK hP hD hS hA cw_X3_47 hm (fun z h => tcX7_empty l D cs ad (b + 6) (nI 6) (nI 3) 18 H.size (S4.1 2) z h) ⟨rfl, rfl⟩ ⟨by decide, by decide⟩ [6, 7] [0, 1, 2, 3, 4, 5, 8, 9, 10, 11, 12, 13, 14, 15, 16, 17, 18] [0, 1, 2, 3, 4, 5, 17, 18, 6, 7, 8, 9, 10, 11, 12, 13, 14, 15, 16] rfl (by decide) rfl (by decide) (by decide) (fun _ => rfl) (by decide) (b := (ad (b + 6))) 0 rfl rfl rfl hl.1 rfl rfl (Nat.le_of_ble_eq_true rfl) dX3_begin_23 ⟨Nat.zero_le _, Nat.zero_le _⟩ (fun u7 H locs hm hP hD hS => ?_)
  obtain ⟨S6, hm, eS6⟩ := nm_ex hm
  rw [← eS6] at hP hD
  refine lv_aload_n hx hb dX3_begin_26 rfl (lv_at hl 0 rfl) ?_
  refine gf_X3_37 (v := .ref (ad (b + 8))) hx hb hT hown hK hP 0 rfl rfl dX3_begin_27 ?_
  refine xVW_v (As := []) (rest := []) (wr := [((ad b), .inr (3, [.ref (ad 1), .ref (ad (b + 1)), .ref (ad (b + 2)), .ref (ad (b + 4)), .ref (ad (b + 6)), .ref (ad (b + 8)), .ref (ad (b + 10)), .int (S6.2 7), .int (S6.2 8), .int (S6.2 9), .int (S6.2 10)])), ((ad (b + 1)), .inr (6, [])), ((ad (b + 2)), .inr (7, [.int (nI 6), .int (nI 4), .ref (ad (b + 3)), .int ((S6.1 0).1)])), ((ad (b + 3)), .inl (cs 0, 24, .inl ((S6.1 0).2))), ((ad (b + 4)), .inr (7, [.int (nI 4), .int (nI 2), .ref (ad (b + 5)), .int ((S6.1 1).1)])), ((ad (b + 5)), .inl (cs 0, 8, .inl ((S6.1 1).2))), ((ad (b + 6)), .inr (7, [.int (nI 6), .int (nI 3), .ref (ad (b + 7)), .int ((S6.1 2).1)])), ((ad (b + 7)), .inl (cs 0, 18, .inl ((S6.1 2).2))), ((ad (b + 10)), .inr (7, [.int (nI 8), .int (nI 3), .ref (ad (b + 11)), .int ((S6.1 4).1)])), ((ad (b + 11)), .inl (cs 0, 24, .inl ((S6.1 4).2))), ((ad 1), .inl (cs 2, 6, .inr (.inr (.inr (.inr (fun k => some (ad (2 + k)))))))), ((ad 2), .inr (6, [])), ((ad 3), .inr (5, [])), ((ad 4), .inr (1, [])), ((ad 5), .inr (9, [])), ((ad 6), .inr (2, [])), ((ad 7), .inr (8, []))]) (wg := fun u9 => WT cs ad b (tR S6 3 u9)) hx hb hml hown hT hN hK hP hD hS hA cw_X3_47 hm (fun z h => tcX7_empty l D cs ad (b + 8) (nI 6) (nI 2) 12 H.size (S6.1 3) z h) ⟨rfl, rfl⟩ ⟨by decide, by decide⟩ [8, 9] [0, 1, 2, 3, 4, 5, 6, 7, 10, 11, 12, 13, 14, 15, 16, 17, 18] [0, 1, 2, 3, 4, 5, 6, 7, 17, 18, 8, 9, 10, 11, 12, 13, 14, 15, 16] rfl (by decide) rfl (by decide) (by decide) (fun _ => rfl) (by decide) (b := (ad (b + 8))) 0 rfl rfl rfl hl.1 rfl rfl (Nat.le_of_ble_eq_true rfl) dX3_begin_30 ⟨Nat.zero_le _, Nat.zero_le _⟩ (fun u9 H locs hm hP hD hS => ?_)
  obtain ⟨S8, hm, eS8⟩ := nm_ex hm
  rw [← eS8] at hP hD
  refine lv_aload_n hx hb dX3_begin_33 rfl (lv_at hl 0 rfl) ?_
  refine xVW_v (As := []) (rest := []) (wr := []) (wg := (fun u => WT cs ad b u)) hx hb hml hown hT hN hK hP hD hS hA cw_X3_50 hm (fun z h => tcX3_beginSuit l D cs ad b H.size S8 z h) ⟨rfl, rfl⟩ ⟨by decide, by decide⟩ [0, 1, 2, 3, 4, 5, 6, 7, 8, 9, 10, 11, 12, 13, 14, 15, 16, 17, 18] [] [0, 1, 2, 3, 4, 5, 6, 7, 8, 9, 10, 11, 12, 13, 14, 15, 16, 17, 18] rfl (by decide) rfl (by decide) (by decide) (fun _ => rfl) (by decide) (b := (ad b)) 0 rfl rfl rfl hl.1 rfl rfl (Nat.le_of_ble_eq_true rfl) dX3_begin_34 ⟨Nat.zero_le _, Nat.zero_le _⟩ (fun S10 H locs hm hP hD hS => ?_)
  exact x_vretW (wf := (fun u => WT cs ad b u)) hx hb hr hlk hK hP hD hS hm dX3_begin_37
noncomputable def mX3_keepForUndo (S : MT) : Option MT := (mX7_isFull (nI 8) (nI 3) 24 (S.1 4)).bind fun r1 => (if r1 = 0 then (mX7_add (nI 8) (nI 3) 24 (S.1 4) (S.2 8) (S.2 9) (S.2 10) (nI 0)).bind fun u3 => nm (tR S 4 u3) fun S2 => some S2 else (mX7_dropFirst (nI 8) (nI 3) 24 (S.1 4)).bind fun u5 => nm (tR S 4 u5) fun S4 => (mX7_add (nI 8) (nI 3) 24 (S4.1 4) (S4.2 8) (S4.2 9) (S4.2 10) (nI 0)).bind fun u7 => nm (tR S4 4 u7) fun S6 => some S6)
set_option maxHeartbeats 4000000 in
set_option maxRecDepth 100000 in
theorem tcX3_keepForUndo (l : Launch) (D : va_G) (cs : CS) (ad : Nat → Nat) (b : Nat) (sz : Nat) (S : MT) (z : MT) (hm : mX3_keepForUndo S = some z) : Met l yX3_keepForUndo (Cond.code yX3_keepForUndo cX3_keepForUndo 1 none :: gw_tbl) ({ frames := 2, cells := 0, slots := 0, locals := 48 }) (PcW D cs sz (WT cs ad b S) [.ref (ad b)]) (QWv D cs (va_A (WT cs ad b S) sz) (fun u => WT cs ad b u) z) 0 0 (va_A (WT cs ad b S) sz) := by
  refine met_W rfl (Nat.le_of_ble_eq_true rfl) (fun p e s m below meth c E hP hD hS hA ls hl => ?_)
  generalize va_A (WT cs ad b S) sz = A at hD hS hA ⊢
  obtain ⟨hx, hb, hr, hml, hown, hlk, hT, hN, hK⟩ := id E
  obtain ⟨H, hH⟩ : ∃ H, H = s.heap := ⟨_, rfl⟩
  obtain ⟨locs, hlo⟩ : ∃ L : List Loc, L = [] := ⟨_, rfl⟩
  have hP : va_P D classes (WT cs ad b S) H := by rw [hH]; exact hP
  have hS : va_S A s.heap H locs := by rw [hH, hlo]; exact hS
  rw [show W p l e _ s m _ below meth c s.heap [] 0 0 = W p l e _ s m _ below meth c H locs 0 0 by rw [hH, hlo]]
  have hl : lv_has ls 1 [(0, .ref (ad b))] := hl
  unfold mX3_keepForUndo at hm
  refine lv_aload_n hx hb dX3_keepForUndo_0 rfl (lv_at hl 0 rfl) ?_
  refine gf_X3_40 (v := .ref (ad (b + 10))) hx hb hT hown hK hP 0 rfl rfl dX3_keepForUndo_1 ?_
  refine xV_i (As := []) (rest := []) hx hb hml hown hT hN hK (hP.sub (ws' := WR cs ad (b + 10) (nI 8) (nI 3) 24 (S.1 4)) [10, 11] rfl) cw_X3_66 hm (fun z h => tcX7_isFull l D cs ad (b + 10) (nI 8) (nI 3) 24 (S.1 4) z h) ⟨rfl, rfl⟩ ⟨by decide, by decide⟩ (b := (ad (b + 10))) 0 rfl rfl rfl hl.1 rfl rfl (Nat.le_of_ble_eq_true rfl) dX3_keepForUndo_4 ⟨Nat.zero_le _, Nat.zero_le _⟩ (fun r1 hm => ?_)
  refine x_if_eq (tgt := 17) hx hb dX3_keepForUndo_7 (by decide) hm (fun hm => ?_) (fun hm => ?_)
  · refine lv_aload_n hx hb dX3_keepForUndo_17 rfl (lv_at hl 0 rfl) ?_
    refine gf_X3_40 (v := .ref (ad (b + 10))) hx hb hT hown hK hP 0 rfl rfl dX3_keepForUndo_18 ?_
    refine lv_aload_n hx hb dX3_keepForUndo_21 rfl (lv_at hl 0 rfl) ?_
    refine gf_X3_53 (v := .int (S.2 8)) hx hb hT hown hK hP 0 rfl rfl dX3_keepForUndo_22 ?_
    refine lv_aload_n hx hb dX3_keepForUndo_25 rfl (lv_at hl 0 rfl) ?_
    refine gf_X3_56 (v := .int (S.2 9)) hx hb hT hown hK hP 0 rfl rfl dX3_keepForUndo_26 ?_
    refine lv_aload_n hx hb dX3_keepForUndo_29 rfl (lv_at hl 0 rfl) ?_
    refine gf_X3_59 (v := .int (S.2 10)) hx hb hT hown hK hP 0 rfl rfl dX3_keepForUndo_30 ?_
    refine lv_iconst (v := (nI 0)) hx hb dX3_keepForUndo_33 (by decide) ?_
    refine xVW_v (As := [.int (S.2 8), .int (S.2 9), .int (S.2 10), .int (nI 0)]) (rest := []) (wr := [((ad b), .inr (3, [.ref (ad 1), .ref (ad (b + 1)), .ref (ad (b + 2)), .ref (ad (b + 4)), .ref (ad (b + 6)), .ref (ad (b + 8)), .ref (ad (b + 10)), .int (S.2 7), .int (S.2 8), .int (S.2 9), .int (S.2 10)])), ((ad (b + 1)), .inr (6, [])), ((ad (b + 2)), .inr (7, [.int (nI 6), .int (nI 4), .ref (ad (b + 3)), .int ((S.1 0).1)])), ((ad (b + 3)), .inl (cs 0, 24, .inl ((S.1 0).2))), ((ad (b + 4)), .inr (7, [.int (nI 4), .int (nI 2), .ref (ad (b + 5)), .int ((S.1 1).1)])), ((ad (b + 5)), .inl (cs 0, 8, .inl ((S.1 1).2))), ((ad (b + 6)), .inr (7, [.int (nI 6), .int (nI 3), .ref (ad (b + 7)), .int ((S.1 2).1)])), ((ad (b + 7)), .inl (cs 0, 18, .inl ((S.1 2).2))), ((ad (b + 8)), .inr (7, [.int (nI 6), .int (nI 2), .ref (ad (b + 9)), .int ((S.1 3).1)])), ((ad (b + 9)), .inl (cs 0, 12, .inl ((S.1 3).2))), ((ad 1), .inl (cs 2, 6, .inr (.inr (.inr (.inr (fun k => some (ad (2 + k)))))))), ((ad 2), .inr (6, [])), ((ad 3), .inr (5, [])), ((ad 4), .inr (1, [])), ((ad 5), .inr (9, [])), ((ad 6), .inr (2, [])), ((ad 7), .inr (8, []))]) (wg := fun u3 => WT cs ad b (tR S 4 u3)) hx hb hml hown hT hN hK hP hD hS hA cw_X3_73 hm (fun z h => tcX7_add l D cs ad (b + 10) (nI 8) (nI 3) 24 H.size (S.1 4) (S.2 8) (S.2 9) (S.2 10) (nI 0) z h) ⟨rfl, rfl⟩ ⟨by decide, by decide⟩ [10, 11] [0, 1, 2, 3, 4, 5, 6, 7, 8, 9, 12, 13, 14, 15, 16, 17, 18] [0, 1, 2, 3, 4, 5, 6, 7, 8, 9, 17, 18, 10, 11, 12, 13, 14, 15, 16] rfl (by decide) rfl (by decide) (by decide) (fun _ => rfl) (by decide) (b := (ad (b + 10))) 0 rfl rfl rfl hl.1 rfl rfl (Nat.le_of_ble_eq_true rfl) dX3_keepForUndo_34 ⟨Nat.zero_le _, Nat.zero_le _⟩ (fun u3 H locs hm hP hD hS => ?_)
    obtain ⟨S2, hm, eS2⟩ := nm_ex hm
    rw [← eS2] at hP hD
    exact x_vretW (wf := (fun u => WT cs ad b u)) hx hb hr hlk hK hP hD hS hm dX3_keepForUndo_37
  · refine lv_aload_n hx hb dX3_keepForUndo_10 rfl (lv_at hl 0 rfl) ?_
    refine gf_X3_40 (v := .ref (ad (b + 10))) hx hb hT hown hK hP 0 rfl rfl dX3_keepForUndo_11 ?_
    refine xVW_v (As := []) (rest := []) (wr := [((ad b), .inr (3, [.ref (ad 1), .ref (ad (b + 1)), .ref (ad (b + 2)), .ref (ad (b + 4)), .ref (ad (b + 6)), .ref (ad (b + 8)), .ref (ad (b + 10)), .int (S.2 7), .int (S.2 8), .int (S.2 9), .int (S.2 10)])), ((ad (b + 1)), .inr (6, [])), ((ad (b + 2)), .inr (7, [.int (nI 6), .int (nI 4), .ref (ad (b + 3)), .int ((S.1 0).1)])), ((ad (b + 3)), .inl (cs 0, 24, .inl ((S.1 0).2))), ((ad (b + 4)), .inr (7, [.int (nI 4), .int (nI 2), .ref (ad (b + 5)), .int ((S.1 1).1)])), ((ad (b + 5)), .inl (cs 0, 8, .inl ((S.1 1).2))), ((ad (b + 6)), .inr (7, [.int (nI 6), .int (nI 3), .ref (ad (b + 7)), .int ((S.1 2).1)])), ((ad (b + 7)), .inl (cs 0, 18, .inl ((S.1 2).2))), ((ad (b + 8)), .inr (7, [.int (nI 6), .int (nI 2), .ref (ad (b + 9)), .int ((S.1 3).1)])), ((ad (b + 9)), .inl (cs 0, 12, .inl ((S.1 3).2))), ((ad 1), .inl (cs 2, 6, .inr (.inr (.inr (.inr (fun k => some (ad (2 + k)))))))), ((ad 2), .inr (6, [])), ((ad 3), .inr (5, [])), ((ad 4), .inr (1, [])), ((ad 5), .inr (9, [])), ((ad 6), .inr (2, [])), ((ad 7), .inr (8, []))]) (wg := fun u5 => WT cs ad b (tR S 4 u5)) hx hb hml hown hT hN hK hP hD hS hA cw_X3_70 hm (fun z h => tcX7_dropFirst l D cs ad (b + 10) (nI 8) (nI 3) 24 H.size (S.1 4) z h) ⟨rfl, rfl⟩ ⟨by decide, by decide⟩ [10, 11] [0, 1, 2, 3, 4, 5, 6, 7, 8, 9, 12, 13, 14, 15, 16, 17, 18] [0, 1, 2, 3, 4, 5, 6, 7, 8, 9, 17, 18, 10, 11, 12, 13, 14, 15, 16] rfl (by decide) rfl (by decide) (by decide) (fun _ => rfl) (by decide) (b := (ad (b + 10))) 0 rfl rfl rfl hl.1 rfl rfl (Nat.le_of_ble_eq_true rfl) dX3_keepForUndo_14 ⟨Nat.zero_le _, Nat.zero_le _⟩ (fun u5 H locs hm hP hD hS => ?_)
    obtain ⟨S4, hm, eS4⟩ := nm_ex hm
    rw [← eS4] at hP hD
    refine lv_aload_n hx hb dX3_keepForUndo_17 rfl (lv_at hl 0 rfl) ?_
    refine gf_X3_40 (v := .ref (ad (b + 10))) hx hb hT hown hK hP 0 rfl rfl dX3_keepForUndo_18 ?_
    refine lv_aload_n hx hb dX3_keepForUndo_21 rfl (lv_at hl 0 rfl) ?_
    refine gf_X3_53 (v := .int (S4.2 8)) hx hb hT hown hK hP 0 rfl rfl dX3_keepForUndo_22 ?_
    refine lv_aload_n hx hb dX3_keepForUndo_25 rfl (lv_at hl 0 rfl) ?_
    refine gf_X3_56 (v := .int (S4.2 9)) hx hb hT hown hK hP 0 rfl rfl dX3_keepForUndo_26 ?_
    refine lv_aload_n hx hb dX3_keepForUndo_29 rfl (lv_at hl 0 rfl) ?_
    refine gf_X3_59 (v := .int (S4.2 10)) hx hb hT hown hK hP 0 rfl rfl dX3_keepForUndo_30 ?_
    refine lv_iconst (v := (nI 0)) hx hb dX3_keepForUndo_33 (by decide) ?_
    refine xVW_v (As := [.int (S4.2 8), .int (S4.2 9), .int (S4.2 10), .int (nI 0)]) (rest := []) (wr := [((ad b), .inr (3, [.ref (ad 1), .ref (ad (b + 1)), .ref (ad (b + 2)), .ref (ad (b + 4)), .ref (ad (b + 6)), .ref (ad (b + 8)), .ref (ad (b + 10)), .int (S4.2 7), .int (S4.2 8), .int (S4.2 9), .int (S4.2 10)])), ((ad (b + 1)), .inr (6, [])), ((ad (b + 2)), .inr (7, [.int (nI 6), .int (nI 4), .ref (ad (b + 3)), .int ((S4.1 0).1)])), ((ad (b + 3)), .inl (cs 0, 24, .inl ((S4.1 0).2))), ((ad (b + 4)), .inr (7, [.int (nI 4), .int (nI 2), .ref (ad (b + 5)), .int ((S4.1 1).1)])), ((ad (b + 5)), .inl (cs 0, 8, .inl ((S4.1 1).2))), ((ad (b + 6)), .inr (7, [.int (nI 6), .int (nI 3), .ref (ad (b + 7)), .int ((S4.1 2).1)])), ((ad (b + 7)), .inl (cs 0, 18, .inl ((S4.1 2).2))), ((ad (b + 8)), .inr (7, [.int (nI 6), .int (nI 2), .ref (ad (b + 9)), .int ((S4.1 3).1)])), ((ad (b + 9)), .inl (cs 0, 12, .inl ((S4.1 3).2))), ((ad 1), .inl (cs 2, 6, .inr (.inr (.inr (.inr (fun k => some (ad (2 + k)))))))), ((ad 2), .inr (6, [])), ((ad 3), .inr (5, [])), ((ad 4), .inr (1, [])), ((ad 5), .inr (9, [])), ((ad 6), .inr (2, [])), ((ad 7), .inr (8, []))]) (wg := fun u7 => WT cs ad b (tR S4 4 u7)) hx hb hml hown hT hN hK hP hD hS hA cw_X3_73 hm (fun z h => tcX7_add l D cs ad (b + 10) (nI 8) (nI 3) 24 H.size (S4.1 4) (S4.2 8) (S4.2 9) (S4.2 10) (nI 0) z h) ⟨rfl, rfl⟩ ⟨by decide, by decide⟩ [10, 11] [0, 1, 2, 3, 4, 5, 6, 7, 8, 9, 12, 13, 14, 15, 16, 17, 18] [0, 1, 2, 3, 4, 5, 6, 7, 8, 9, 17, 18, 10, 11, 12, 13, 14, 15, 16] rfl (by decide) rfl (by decide) (by decide) (fun _ => rfl) (by decide) (b := (ad (b + 10))) 0 rfl rfl rfl hl.1 rfl rfl (Nat.le_of_ble_eq_true rfl) dX3_keepForUndo_34 ⟨Nat.zero_le _, Nat.zero_le _⟩ (fun u7 H locs hm hP hD hS => ?_)
    obtain ⟨S6, hm, eS6⟩ := nm_ex hm
    rw [← eS6] at hP hD
    exact x_vretW (wf := (fun u => WT cs ad b u)) hx hb hr hlk hK hP hD hS hm dX3_keepForUndo_37
noncomputable def mX3_takeBack (S : MT) : Option MT := nm (((S.1 4).1) - (nI 1)) fun x1 => (mX7_cell (nI 8) (nI 3) 24 (S.1 4) x1 (nI 0)).bind fun r2 => nm (tI S 8 r2) fun S3 => (mX7_cell (nI 8) (nI 3) 24 (S3.1 4) x1 (nI 1)).bind fun r4 => nm (tI S3 9 r4) fun S5 => (mX7_cell (nI 8) (nI 3) 24 (S5.1 4) x1 (nI 2)).bind fun r6 => nm (tI S5 10 r6) fun S7 => (mX7_dropLast (nI 8) (nI 3) 24 (S7.1 4)).bind fun u9 => nm (tR S7 4 u9) fun S8 => some S8
set_option maxHeartbeats 4000000 in
set_option maxRecDepth 100000 in
theorem tcX3_takeBack (l : Launch) (D : va_G) (cs : CS) (ad : Nat → Nat) (b : Nat) (sz : Nat) (S : MT) (z : MT) (hm : mX3_takeBack S = some z) : Met l yX3_takeBack (Cond.code yX3_takeBack cX3_takeBack 2 none :: gw_tbl) ({ frames := 1, cells := 0, slots := 0, locals := 23 }) (PcW D cs sz (WT cs ad b S) [.ref (ad b)]) (QWv D cs (va_A (WT cs ad b S) sz) (fun u => WT cs ad b u) z) 0 0 (va_A (WT cs ad b S) sz) := by
  refine met_W rfl (Nat.le_of_ble_eq_true rfl) (fun p e s m below meth c E hP hD hS hA ls hl => ?_)
  generalize va_A (WT cs ad b S) sz = A at hD hS hA ⊢
  obtain ⟨hx, hb, hr, hml, hown, hlk, hT, hN, hK⟩ := id E
  obtain ⟨H, hH⟩ : ∃ H, H = s.heap := ⟨_, rfl⟩
  obtain ⟨locs, hlo⟩ : ∃ L : List Loc, L = [] := ⟨_, rfl⟩
  have hP : va_P D classes (WT cs ad b S) H := by rw [hH]; exact hP
  have hS : va_S A s.heap H locs := by rw [hH, hlo]; exact hS
  rw [show W p l e _ s m _ below meth c s.heap [] 0 0 = W p l e _ s m _ below meth c H locs 0 0 by rw [hH, hlo]]
  have hl : lv_has ls 2 [(0, .ref (ad b))] := hl
  unfold mX3_takeBack at hm
  refine lv_aload_n hx hb dX3_takeBack_0 rfl (lv_at hl 0 rfl) ?_
  refine gf_X3_40 (v := .ref (ad (b + 10))) hx hb hT hown hK hP 0 rfl rfl dX3_takeBack_1 ?_
  refine gf_X3_77 (v := .int ((S.1 4).1)) hx hb hT hown hK hP 10 rfl rfl dX3_takeBack_4 ?_
  refine lv_iconst (v := (nI 1)) hx hb dX3_takeBack_7 (by decide) ?_
  refine lv_isub hx hb dX3_takeBack_8 ?_
  refine xi_nm hm (fun x1 hm => ?_)
  refine lv_istore_n (lv' := [(1, .int x1), (0, .ref (ad b))]) hx hb dX3_takeBack_9 rfl hl (by decide) rfl (fun ls hl => ?_)
  refine lv_aload_n hx hb dX3_takeBack_10 rfl (lv_at hl 1 rfl) ?_
  refine lv_aload_n hx hb dX3_takeBack_11 rfl (lv_at hl 1 rfl) ?_
  refine gf_X3_40 (v := .ref (ad (b + 10))) hx hb hT hown hK hP 0 rfl rfl dX3_takeBack_12 ?_
  refine lv_iload_n hx hb dX3_takeBack_15 rfl (lv_at hl 0 rfl) ?_
  refine lv_iconst (v := (nI 0)) hx hb dX3_takeBack_16 (by decide) ?_
  refine xV_i (As := [.int x1, .int (nI 0)]) (rest := [.ref (ad b)]) hx hb hml hown hT hN hK (hP.sub (ws' := WR cs ad (b + 10) (nI 8) (nI 3) 24 (S.1 4)) [10, 11] rfl) cw_X3_80 hm (fun z h => tcX7_cell l D cs ad (b + 10) (nI 8) (nI 3) 24 (S.1 4) x1 (nI 0) z h) ⟨rfl, rfl⟩ ⟨by decide, by decide⟩ (b := (ad (b + 10))) 0 rfl rfl rfl hl.1 rfl rfl (Nat.le_of_ble_eq_true rfl) dX3_takeBack_17 ⟨Nat.zero_le _, Nat.zero_le _⟩ (fun r2 hm => ?_)
  refine pf_X3_53 (wf := (fun u => WT cs ad b u)) (u0 := tI S 8 r2) hx hb hT hown hK hP hD hS 0 rfl (Nat.le_of_ble_eq_true rfl) rfl rfl rfl hm dX3_takeBack_20 (fun S3 H locs hm hP hD hS => ?_)
  refine lv_aload_n hx hb dX3_takeBack_23 rfl (lv_at hl 1 rfl) ?_
  refine lv_aload_n hx hb dX3_takeBack_24 rfl (lv_at hl 1 rfl) ?_
  refine gf_X3_40 (v := .ref (ad (b + 10))) hx hb hT hown hK hP 0 rfl rfl dX3_takeBack_25 ?_
  refine lv_iload_n hx hb dX3_takeBack_28 rfl (lv_at hl 0 rfl) ?_
  refine lv_iconst (v := (nI 1)) hx hb dX3_takeBack_29 (by decide) ?_
  refine xV_i (As := [.int x1, .int (nI 1)]) (rest := [.ref (ad b)]) hx hb hml hown hT hN hK (hP.sub (ws' := WR cs ad (b + 10) (nI 8) (nI 3) 24 (S3.1 4)) [10, 11] rfl) cw_X3_80 hm (fun z h => tcX7_cell l D cs ad (b + 10) (nI 8) (nI 3) 24 (S3.1 4) x1 (nI 1) z h) ⟨rfl, rfl⟩ ⟨by decide, by decide⟩ (b := (ad (b + 10))) 0 rfl rfl rfl hl.1 rfl rfl (Nat.le_of_ble_eq_true rfl) dX3_takeBack_30 ⟨Nat.zero_le _, Nat.zero_le _⟩ (fun r4 hm => ?_)
  refine pf_X3_56 (wf := (fun u => WT cs ad b u)) (u0 := tI S3 9 r4) hx hb hT hown hK hP hD hS 0 rfl (Nat.le_of_ble_eq_true rfl) rfl rfl rfl hm dX3_takeBack_33 (fun S5 H locs hm hP hD hS => ?_)
  refine lv_aload_n hx hb dX3_takeBack_36 rfl (lv_at hl 1 rfl) ?_
  refine lv_aload_n hx hb dX3_takeBack_37 rfl (lv_at hl 1 rfl) ?_
  refine gf_X3_40 (v := .ref (ad (b + 10))) hx hb hT hown hK hP 0 rfl rfl dX3_takeBack_38 ?_
  refine lv_iload_n hx hb dX3_takeBack_41 rfl (lv_at hl 0 rfl) ?_
  refine lv_iconst (v := (nI 2)) hx hb dX3_takeBack_42 (by decide) ?_
  refine xV_i (As := [.int x1, .int (nI 2)]) (rest := [.ref (ad b)]) hx hb hml hown hT hN hK (hP.sub (ws' := WR cs ad (b + 10) (nI 8) (nI 3) 24 (S5.1 4)) [10, 11] rfl) cw_X3_80 hm (fun z h => tcX7_cell l D cs ad (b + 10) (nI 8) (nI 3) 24 (S5.1 4) x1 (nI 2) z h) ⟨rfl, rfl⟩ ⟨by decide, by decide⟩ (b := (ad (b + 10))) 0 rfl rfl rfl hl.1 rfl rfl (Nat.le_of_ble_eq_true rfl) dX3_takeBack_43 ⟨Nat.zero_le _, Nat.zero_le _⟩ (fun r6 hm => ?_)
  refine pf_X3_59 (wf := (fun u => WT cs ad b u)) (u0 := tI S5 10 r6) hx hb hT hown hK hP hD hS 0 rfl (Nat.le_of_ble_eq_true rfl) rfl rfl rfl hm dX3_takeBack_46 (fun S7 H locs hm hP hD hS => ?_)
  refine lv_aload_n hx hb dX3_takeBack_49 rfl (lv_at hl 1 rfl) ?_
  refine gf_X3_40 (v := .ref (ad (b + 10))) hx hb hT hown hK hP 0 rfl rfl dX3_takeBack_50 ?_
  refine xVW_v (As := []) (rest := []) (wr := [((ad b), .inr (3, [.ref (ad 1), .ref (ad (b + 1)), .ref (ad (b + 2)), .ref (ad (b + 4)), .ref (ad (b + 6)), .ref (ad (b + 8)), .ref (ad (b + 10)), .int (S7.2 7), .int (S7.2 8), .int (S7.2 9), .int (S7.2 10)])), ((ad (b + 1)), .inr (6, [])), ((ad (b + 2)), .inr (7, [.int (nI 6), .int (nI 4), .ref (ad (b + 3)), .int ((S7.1 0).1)])), ((ad (b + 3)), .inl (cs 0, 24, .inl ((S7.1 0).2))), ((ad (b + 4)), .inr (7, [.int (nI 4), .int (nI 2), .ref (ad (b + 5)), .int ((S7.1 1).1)])), ((ad (b + 5)), .inl (cs 0, 8, .inl ((S7.1 1).2))), ((ad (b + 6)), .inr (7, [.int (nI 6), .int (nI 3), .ref (ad (b + 7)), .int ((S7.1 2).1)])), ((ad (b + 7)), .inl (cs 0, 18, .inl ((S7.1 2).2))), ((ad (b + 8)), .inr (7, [.int (nI 6), .int (nI 2), .ref (ad (b + 9)), .int ((S7.1 3).1)])), ((ad (b + 9)), .inl (cs 0, 12, .inl ((S7.1 3).2))), ((ad 1), .inl (cs 2, 6, .inr (.inr (.inr (.inr (fun k => some (ad (2 + k)))))))), ((ad 2), .inr (6, [])), ((ad 3), .inr (5, [])), ((ad 4), .inr (1, [])), ((ad 5), .inr (9, [])), ((ad 6), .inr (2, [])), ((ad 7), .inr (8, []))]) (wg := fun u9 => WT cs ad b (tR S7 4 u9)) hx hb hml hown hT hN hK hP hD hS hA cw_X3_84 hm (fun z h => tcX7_dropLast l D cs ad (b + 10) (nI 8) (nI 3) 24 H.size (S7.1 4) z h) ⟨rfl, rfl⟩ ⟨by decide, by decide⟩ [10, 11] [0, 1, 2, 3, 4, 5, 6, 7, 8, 9, 12, 13, 14, 15, 16, 17, 18] [0, 1, 2, 3, 4, 5, 6, 7, 8, 9, 17, 18, 10, 11, 12, 13, 14, 15, 16] rfl (by decide) rfl (by decide) (by decide) (fun _ => rfl) (by decide) (b := (ad (b + 10))) 0 rfl rfl rfl hl.1 rfl rfl (Nat.le_of_ble_eq_true rfl) dX3_takeBack_53 ⟨Nat.zero_le _, Nat.zero_le _⟩ (fun u9 H locs hm hP hD hS => ?_)
  obtain ⟨S8, hm, eS8⟩ := nm_ex hm
  rw [← eS8] at hP hD
  exact x_vretW (wf := (fun u => WT cs ad b u)) hx hb hr hlk hK hP hD hS hm dX3_takeBack_56
noncomputable def mX3_become (O : MT) (S : MT) : Option MT := nm (tI S 7 (O.2 7)) fun S1 => nm (tI S1 8 (O.2 8)) fun S2 => nm (tI S2 9 (O.2 9)) fun S3 => nm (tI S3 10 (O.2 10)) fun S4 => (mX7_become 24 (O.1 0) (S4.1 0)).bind fun u6 => nm (tR S4 0 u6) fun S5 => (mX7_become 8 (O.1 1) (S5.1 1)).bind fun u8 => nm (tR S5 1 u8) fun S7 => (mX7_become 18 (O.1 2) (S7.1 2)).bind fun u10 => nm (tR S7 2 u10) fun S9 => (mX7_become 12 (O.1 3) (S9.1 3)).bind fun u12 => nm (tR S9 3 u12) fun S11 => (mX7_become 24 (O.1 4) (S11.1 4)).bind fun u14 => nm (tR S11 4 u14) fun S13 => some S13
set_option maxHeartbeats 4000000 in
set_option maxRecDepth 100000 in
theorem tcX3_become (l : Launch) (D : va_G) (cs : CS) (ad : Nat → Nat) (b b2 : Nat) (O : MT) (sz : Nat) (S : MT) (z : MT) (hm : mX3_become O S = some z) : Met l yX3_become (Cond.code yX3_become cX3_become 2 none :: gw_tbl) ({ frames := 1, cells := 0, slots := 0, locals := 22 }) (PcW D cs sz (WT2 cs ad b b2 O S) [.ref (ad b), .ref (ad b2)]) (QWv D cs (va_A (WT2 cs ad b b2 O S) sz) (fun u => WT2 cs ad b b2 O u) z) 0 0 (va_A (WT2 cs ad b b2 O S) sz) := by
  refine met_W rfl (Nat.le_of_ble_eq_true rfl) (fun p e s m below meth c E hP hD hS hA ls hl => ?_)
  generalize va_A (WT2 cs ad b b2 O S) sz = A at hD hS hA ⊢
  obtain ⟨hx, hb, hr, hml, hown, hlk, hT, hN, hK⟩ := id E
  obtain ⟨H, hH⟩ : ∃ H, H = s.heap := ⟨_, rfl⟩
  obtain ⟨locs, hlo⟩ : ∃ L : List Loc, L = [] := ⟨_, rfl⟩
  have hP : va_P D classes (WT2 cs ad b b2 O S) H := by rw [hH]; exact hP
  have hS : va_S A s.heap H locs := by rw [hH, hlo]; exact hS
  rw [show W p l e _ s m _ below meth c s.heap [] 0 0 = W p l e _ s m _ below meth c H locs 0 0 by rw [hH, hlo]]
  have hl : lv_has ls 2 [(0, .ref (ad b)), (1, .ref (ad b2))] := hl
  unfold mX3_become at hm
  refine lv_aload_n hx hb dX3_become_0 rfl (lv_at hl 0 rfl) ?_
  refine lv_aload_n hx hb dX3_become_1 rfl (lv_at hl 1 rfl) ?_
  refine gf_X3_43 (v := .int (O.2 7)) hx hb hT hown hK hP 12 rfl rfl dX3_become_2 ?_
  refine pf_X3_43 (wf := (fun u => WT2 cs ad b b2 O u)) (u0 := tI S 7 (O.2 7)) hx hb hT hown hK hP hD hS 0 rfl (Nat.le_of_ble_eq_true rfl) rfl rfl rfl hm dX3_become_5 (fun S1 H locs hm hP hD hS => ?_)
  refine lv_aload_n hx hb dX3_become_8 rfl (lv_at hl 0 rfl) ?_
  refine lv_aload_n hx hb dX3_become_9 rfl (lv_at hl 1 rfl) ?_
  refine gf_X3_53 (v := .int (O.2 8)) hx hb hT hown hK hP 12 rfl rfl dX3_become_10 ?_
  refine pf_X3_53 (wf := (fun u => WT2 cs ad b b2 O u)) (u0 := tI S1 8 (O.2 8)) hx hb hT hown hK hP hD hS 0 rfl (Nat.le_of_ble_eq_true rfl) rfl rfl rfl hm dX3_become_13 (fun S2 H locs hm hP hD hS => ?_)
  refine lv_aload_n hx hb dX3_become_16 rfl (lv_at hl 0 rfl) ?_
  refine lv_aload_n hx hb dX3_become_17 rfl (lv_at hl 1 rfl) ?_
  refine gf_X3_56 (v := .int (O.2 9)) hx hb hT hown hK hP 12 rfl rfl dX3_become_18 ?_
  refine pf_X3_56 (wf := (fun u => WT2 cs ad b b2 O u)) (u0 := tI S2 9 (O.2 9)) hx hb hT hown hK hP hD hS 0 rfl (Nat.le_of_ble_eq_true rfl) rfl rfl rfl hm dX3_become_21 (fun S3 H locs hm hP hD hS => ?_)
  refine lv_aload_n hx hb dX3_become_24 rfl (lv_at hl 0 rfl) ?_
  refine lv_aload_n hx hb dX3_become_25 rfl (lv_at hl 1 rfl) ?_
  refine gf_X3_59 (v := .int (O.2 10)) hx hb hT hown hK hP 12 rfl rfl dX3_become_26 ?_
  refine pf_X3_59 (wf := (fun u => WT2 cs ad b b2 O u)) (u0 := tI S3 10 (O.2 10)) hx hb hT hown hK hP hD hS 0 rfl (Nat.le_of_ble_eq_true rfl) rfl rfl rfl hm dX3_become_29 (fun S4 H locs hm hP hD hS => ?_)
  refine lv_aload_n hx hb dX3_become_32 rfl (lv_at hl 0 rfl) ?_
  refine gf_X3_27 (v := .ref (ad (b + 2))) hx hb hT hown hK hP 0 rfl rfl dX3_become_33 ?_
  refine lv_aload_n hx hb dX3_become_36 rfl (lv_at hl 1 rfl) ?_
  refine gf_X3_27 (v := .ref (ad (b2 + 2))) hx hb hT hown hK hP 12 rfl rfl dX3_become_37 ?_
  refine xVW_v (As := [.ref (ad (b2 + 2))]) (rest := []) (wr := [((ad b), .inr (3, [.ref (ad 1), .ref (ad (b + 1)), .ref (ad (b + 2)), .ref (ad (b + 4)), .ref (ad (b + 6)), .ref (ad (b + 8)), .ref (ad (b + 10)), .int (S4.2 7), .int (S4.2 8), .int (S4.2 9), .int (S4.2 10)])), ((ad (b + 1)), .inr (6, [])), ((ad (b + 4)), .inr (7, [.int (nI 4), .int (nI 2), .ref (ad (b + 5)), .int ((S4.1 1).1)])), ((ad (b + 5)), .inl (cs 0, 8, .inl ((S4.1 1).2))), ((ad (b + 6)), .inr (7, [.int (nI 6), .int (nI 3), .ref (ad (b + 7)), .int ((S4.1 2).1)])), ((ad (b + 7)), .inl (cs 0, 18, .inl ((S4.1 2).2))), ((ad (b + 8)), .inr (7, [.int (nI 6), .int (nI 2), .ref (ad (b + 9)), .int ((S4.1 3).1)])), ((ad (b + 9)), .inl (cs 0, 12, .inl ((S4.1 3).2))), ((ad (b + 10)), .inr (7, [.int (nI 8), .int (nI 3), .ref (ad (b + 11)), .int ((S4.1 4).1)])), ((ad (b + 11)), .inl (cs 0, 24, .inl ((S4.1 4).2))), ((ad b2), .inr (3, [.ref (ad 1), .ref (ad (b2 + 1)), .ref (ad (b2 + 2)), .ref (ad (b2 + 4)), .ref (ad (b2 + 6)), .ref (ad (b2 + 8)), .ref (ad (b2 + 10)), .int (O.2 7), .int (O.2 8), .int (O.2 9), .int (O.2 10)])), ((ad (b2 + 1)), .inr (6, [])), ((ad (b2 + 4)), .inr (7, [.int (nI 4), .int (nI 2), .ref (ad (b2 + 5)), .int ((O.1 1).1)])), ((ad (b2 + 5)), .inl (cs 0, 8, .inl ((O.1 1).2))), ((ad (b2 + 6)), .inr (7, [.int (nI 6), .int (nI 3), .ref (ad (b2 + 7)), .int ((O.1 2).1)])), ((ad (b2 + 7)), .inl (cs 0, 18, .inl ((O.1 2).2))), ((ad (b2 + 8)), .inr (7, [.int (nI 6), .int (nI 2), .ref (ad (b2 + 9)), .int ((O.1 3).1)])), ((ad (b2 + 9)), .inl (cs 0, 12, .inl ((O.1 3).2))), ((ad (b2 + 10)), .inr (7, [.int (nI 8), .int (nI 3), .ref (ad (b2 + 11)), .int ((O.1 4).1)])), ((ad (b2 + 11)), .inl (cs 0, 24, .inl ((O.1 4).2)))]) (wg := fun u6 => WT2 cs ad b b2 O (tR S4 0 u6)) hx hb hml hown hT hN hK hP hD hS hA cw_X3_62 hm (fun z h => tcX7_become l D cs ad (b + 2) (b2 + 2) (nI 6) (nI 4) 24 (O.1 0) H.size (S4.1 0) z h) ⟨rfl, rfl⟩ ⟨by decide, by decide⟩ [2, 3, 14, 15] [0, 1, 4, 5, 6, 7, 8, 9, 10, 11, 12, 13, 16, 17, 18, 19, 20, 21, 22, 23] [0, 1, 20, 21, 2, 3, 4, 5, 6, 7, 8, 9, 10, 11, 22, 23, 12, 13, 14, 15, 16, 17, 18, 19] rfl (by decide) rfl (by decide) (by decide) (fun _ => rfl) (by decide) (b := (ad (b + 2))) 0 rfl rfl rfl hl.1 rfl rfl (Nat.le_of_ble_eq_true rfl) dX3_become_40 ⟨Nat.zero_le _, Nat.zero_le _⟩ (fun u6 H locs hm hP hD hS => ?_)
  obtain ⟨S5, hm, eS5⟩ := nm_ex hm
  rw [← eS5] at hP hD
  refine lv_aload_n hx hb dX3_become_43 rfl (lv_at hl 0 rfl) ?_
  refine gf_X3_31 (v := .ref (ad (b + 4))) hx hb hT hown hK hP 0 rfl rfl dX3_become_44 ?_
  refine lv_aload_n hx hb dX3_become_47 rfl (lv_at hl 1 rfl) ?_
  refine gf_X3_31 (v := .ref (ad (b2 + 4))) hx hb hT hown hK hP 12 rfl rfl dX3_become_48 ?_
  refine xVW_v (As := [.ref (ad (b2 + 4))]) (rest := []) (wr := [((ad b), .inr (3, [.ref (ad 1), .ref (ad (b + 1)), .ref (ad (b + 2)), .ref (ad (b + 4)), .ref (ad (b + 6)), .ref (ad (b + 8)), .ref (ad (b + 10)), .int (S5.2 7), .int (S5.2 8), .int (S5.2 9), .int (S5.2 10)])), ((ad (b + 1)), .inr (6, [])), ((ad (b + 2)), .inr (7, [.int (nI 6), .int (nI 4), .ref (ad (b + 3)), .int ((S5.1 0).1)])), ((ad (b + 3)), .inl (cs 0, 24, .inl ((S5.1 0).2))), ((ad (b + 6)), .inr (7, [.int (nI 6), .int (nI 3), .ref (ad (b + 7)), .int ((S5.1 2).1)])), ((ad (b + 7)), .inl (cs 0, 18, .inl ((S5.1 2).2))), ((ad (b + 8)), .inr (7, [.int (nI 6), .int (nI 2), .ref (ad (b + 9)), .int ((S5.1 3).1)])), ((ad (b + 9)), .inl (cs 0, 12, .inl ((S5.1 3).2))), ((ad (b + 10)), .inr (7, [.int (nI 8), .int (nI 3), .ref (ad (b + 11)), .int ((S5.1 4).1)])), ((ad (b + 11)), .inl (cs 0, 24, .inl ((S5.1 4).2))), ((ad b2), .inr (3, [.ref (ad 1), .ref (ad (b2 + 1)), .ref (ad (b2 + 2)), .ref (ad (b2 + 4)), .ref (ad (b2 + 6)), .ref (ad (b2 + 8)), .ref (ad (b2 + 10)), .int (O.2 7), .int (O.2 8), .int (O.2 9), .int (O.2 10)])), ((ad (b2 + 1)), .inr (6, [])), ((ad (b2 + 2)), .inr (7, [.int (nI 6), .int (nI 4), .ref (ad (b2 + 3)), .int ((O.1 0).1)])), ((ad (b2 + 3)), .inl (cs 0, 24, .inl ((O.1 0).2))), ((ad (b2 + 6)), .inr (7, [.int (nI 6), .int (nI 3), .ref (ad (b2 + 7)), .int ((O.1 2).1)])), ((ad (b2 + 7)), .inl (cs 0, 18, .inl ((O.1 2).2))), ((ad (b2 + 8)), .inr (7, [.int (nI 6), .int (nI 2), .ref (ad (b2 + 9)), .int ((O.1 3).1)])), ((ad (b2 + 9)), .inl (cs 0, 12, .inl ((O.1 3).2))), ((ad (b2 + 10)), .inr (7, [.int (nI 8), .int (nI 3), .ref (ad (b2 + 11)), .int ((O.1 4).1)])), ((ad (b2 + 11)), .inl (cs 0, 24, .inl ((O.1 4).2)))]) (wg := fun u8 => WT2 cs ad b b2 O (tR S5 1 u8)) hx hb hml hown hT hN hK hP hD hS hA cw_X3_62 hm (fun z h => tcX7_become l D cs ad (b + 4) (b2 + 4) (nI 4) (nI 2) 8 (O.1 1) H.size (S5.1 1) z h) ⟨rfl, rfl⟩ ⟨by decide, by decide⟩ [4, 5, 16, 17] [0, 1, 2, 3, 6, 7, 8, 9, 10, 11, 12, 13, 14, 15, 18, 19, 20, 21, 22, 23] [0, 1, 2, 3, 20, 21, 4, 5, 6, 7, 8, 9, 10, 11, 12, 13, 22, 23, 14, 15, 16, 17, 18, 19] rfl (by decide) rfl (by decide) (by decide) (fun _ => rfl) (by decide) (b := (ad (b + 4))) 0 rfl rfl rfl hl.1 rfl rfl (Nat.le_of_ble_eq_true rfl) dX3_become_51 ⟨Nat.zero_le _, Nat.zero_le _⟩ (fun u8 H locs hm hP hD hS => ?_)
  obtain ⟨S7, hm, eS7⟩ := nm_ex hm
  rw [← eS7] at hP hD
  refine lv_aload_n hx hb dX3_become_54 rfl (lv_at hl 0 rfl) ?_
  refine gf_X3_34 (v := .ref (ad (b + 6))) hx hb hT hown hK hP 0 rfl rfl dX3_become_55 ?_
  refine lv_aload_n hx hb dX3_become_58 rfl (lv_at hl 1 rfl) ?_
  refine gf_X3_34 (v := .ref (ad (b2 + 6))) hx hb hT hown hK hP 12 rfl rfl dX3_become_59 ?_
  refine xVW_v (As := [.ref (ad (b2 + 6))]) (rest := []) (wr := [((ad b), .inr (3, [.ref (ad 1), .ref (ad (b + 1)), .ref (ad (b + 2)), .ref (ad (b + 4)), .ref (ad (b + 6)), .ref (ad (b + 8)), .ref (ad (b + 10)), .int (S7.2 7), .int (S7.2 8), .int (S7.2 9), .int (S7.2 10)])), ((ad (b + 1)), .inr (6, [])), ((ad (b + 2)), .inr (7, [.int (nI 6), .int (nI 4), .ref (ad (b + 3)), .int ((S7.1 0).1)])), ((ad (b + 3)), .inl (cs 0, 24, .inl ((S7.1 0).2))), ((ad (b + 4)), .inr (7, [.int (nI 4), .int (nI 2), .ref (ad (b + 5)), .int ((S7.1 1).1)])), ((ad (b + 5)), .inl (cs 0, 8, .inl ((S7.1 1).2))), ((ad (b + 8)), .inr (7, [.int (nI 6), .int (nI 2), .ref (ad (b + 9)), .int ((S7.1 3).1)])), ((ad (b + 9)), .inl (cs 0, 12, .inl ((S7.1 3).2))), ((ad (b + 10)), .inr (7, [.int (nI 8), .int (nI 3), .ref (ad (b + 11)), .int ((S7.1 4).1)])), ((ad (b + 11)), .inl (cs 0, 24, .inl ((S7.1 4).2))), ((ad b2), .inr (3, [.ref (ad 1), .ref (ad (b2 + 1)), .ref (ad (b2 + 2)), .ref (ad (b2 + 4)), .ref (ad (b2 + 6)), .ref (ad (b2 + 8)), .ref (ad (b2 + 10)), .int (O.2 7), .int (O.2 8), .int (O.2 9), .int (O.2 10)])), ((ad (b2 + 1)), .inr (6, [])), ((ad (b2 + 2)), .inr (7, [.int (nI 6), .int (nI 4), .ref (ad (b2 + 3)), .int ((O.1 0).1)])), ((ad (b2 + 3)), .inl (cs 0, 24, .inl ((O.1 0).2))), ((ad (b2 + 4)), .inr (7, [.int (nI 4), .int (nI 2), .ref (ad (b2 + 5)), .int ((O.1 1).1)])), ((ad (b2 + 5)), .inl (cs 0, 8, .inl ((O.1 1).2))), ((ad (b2 + 8)), .inr (7, [.int (nI 6), .int (nI 2), .ref (ad (b2 + 9)), .int ((O.1 3).1)])), ((ad (b2 + 9)), .inl (cs 0, 12, .inl ((O.1 3).2))), ((ad (b2 + 10)), .inr (7, [.int (nI 8), .int (nI 3), .ref (ad (b2 + 11)), .int ((O.1 4).1)])), ((ad (b2 + 11)), .inl (cs 0, 24, .inl ((O.1 4).2)))]) (wg := fun u10 => WT2 cs ad b b2 O (tR S7 2 u10)) hx hb hml hown hT hN hK hP hD hS hA cw_X3_62 hm (fun z h => tcX7_become l D cs ad (b + 6) (b2 + 6) (nI 6) (nI 3) 18 (O.1 2) H.size (S7.1 2) z h) ⟨rfl, rfl⟩ ⟨by decide, by decide⟩ [6, 7, 18, 19] [0, 1, 2, 3, 4, 5, 8, 9, 10, 11, 12, 13, 14, 15, 16, 17, 20, 21, 22, 23] [0, 1, 2, 3, 4, 5, 20, 21, 6, 7, 8, 9, 10, 11, 12, 13, 14, 15, 22, 23, 16, 17, 18, 19] rfl (by decide) rfl (by decide) (by decide) (fun _ => rfl) (by decide) (b := (ad (b + 6))) 0 rfl rfl rfl hl.1 rfl rfl (Nat.le_of_ble_eq_true rfl) dX3_become_62 ⟨Nat.zero_le _, Nat.zero_le _⟩ (fun u10 H locs hm hP hD hS => ?_)
  obtain ⟨S9, hm, eS9⟩ := nm_ex hm
  rw [← eS9] at hP hD
  refine lv_aload_n hx hb dX3_become_65 rfl (lv_at hl 0 rfl) ?_
  refine gf_X3_37 (v := .ref (ad (b + 8))) hx hb hT hown hK hP 0 rfl rfl dX3_become_66 ?_
  refine lv_aload_n hx hb dX3_become_69 rfl (lv_at hl 1 rfl) ?_
  refine gf_X3_37 (v := .ref (ad (b2 + 8))) hx hb hT hown hK hP 12 rfl rfl dX3_become_70 ?_
  refine xVW_v (As := [.ref (ad (b2 + 8))]) (rest := []) (wr := [((ad b), .inr (3, [.ref (ad 1), .ref (ad (b + 1)), .ref (ad (b + 2)), .ref (ad (b + 4)), .ref (ad (b + 6)), .ref (ad (b + 8)), .ref (ad (b + 10)), .int (S9.2 7), .int (S9.2 8), .int (S9.2 9), .int (S9.2 10)])), ((ad (b + 1)), .inr (6, [])), ((ad (b + 2)), .inr (7, [.int (nI 6), .int (nI 4), .ref (ad (b + 3)), .int ((S9.1 0).1)])), ((ad (b + 3)), .inl (cs 0, 24, .inl ((S9.1 0).2))), ((ad (b + 4)), .inr (7, [.int (nI 4), .int (nI 2), .ref (ad (b + 5)), .int ((S9.1 1).1)])), ((ad (b + 5)), .inl (cs 0, 8, .inl ((S9.1 1).2))), ((ad (b + 6)), .inr (7, [.int (nI 6), .int (nI 3), .ref (ad (b + 7)), .int ((S9.1 2).1)])), ((ad (b + 7)), .inl (cs 0, 18, .inl ((S9.1 2).2))), ((ad (b + 10)), .inr (7, [.int (nI 8), .int (nI 3), .ref (ad (b + 11)), .int ((S9.1 4).1)])), ((ad (b + 11)), .inl (cs 0, 24, .inl ((S9.1 4).2))), ((ad b2), .inr (3, [.ref (ad 1), .ref (ad (b2 + 1)), .ref (ad (b2 + 2)), .ref (ad (b2 + 4)), .ref (ad (b2 + 6)), .ref (ad (b2 + 8)), .ref (ad (b2 + 10)), .int (O.2 7), .int (O.2 8), .int (O.2 9), .int (O.2 10)])), ((ad (b2 + 1)), .inr (6, [])), ((ad (b2 + 2)), .inr (7, [.int (nI 6), .int (nI 4), .ref (ad (b2 + 3)), .int ((O.1 0).1)])), ((ad (b2 + 3)), .inl (cs 0, 24, .inl ((O.1 0).2))), ((ad (b2 + 4)), .inr (7, [.int (nI 4), .int (nI 2), .ref (ad (b2 + 5)), .int ((O.1 1).1)])), ((ad (b2 + 5)), .inl (cs 0, 8, .inl ((O.1 1).2))), ((ad (b2 + 6)), .inr (7, [.int (nI 6), .int (nI 3), .ref (ad (b2 + 7)), .int ((O.1 2).1)])), ((ad (b2 + 7)), .inl (cs 0, 18, .inl ((O.1 2).2))), ((ad (b2 + 10)), .inr (7, [.int (nI 8), .int (nI 3), .ref (ad (b2 + 11)), .int ((O.1 4).1)])), ((ad (b2 + 11)), .inl (cs 0, 24, .inl ((O.1 4).2)))]) (wg := fun u12 => WT2 cs ad b b2 O (tR S9 3 u12)) hx hb hml hown hT hN hK hP hD hS hA cw_X3_62 hm (fun z h => tcX7_become l D cs ad (b + 8) (b2 + 8) (nI 6) (nI 2) 12 (O.1 3) H.size (S9.1 3) z h) ⟨rfl, rfl⟩ ⟨by decide, by decide⟩ [8, 9, 20, 21] [0, 1, 2, 3, 4, 5, 6, 7, 10, 11, 12, 13, 14, 15, 16, 17, 18, 19, 22, 23] [0, 1, 2, 3, 4, 5, 6, 7, 20, 21, 8, 9, 10, 11, 12, 13, 14, 15, 16, 17, 22, 23, 18, 19] rfl (by decide) rfl (by decide) (by decide) (fun _ => rfl) (by decide) (b := (ad (b + 8))) 0 rfl rfl rfl hl.1 rfl rfl (Nat.le_of_ble_eq_true rfl) dX3_become_73 ⟨Nat.zero_le _, Nat.zero_le _⟩ (fun u12 H locs hm hP hD hS => ?_)
  obtain ⟨S11, hm, eS11⟩ := nm_ex hm
  rw [← eS11] at hP hD
  refine lv_aload_n hx hb dX3_become_76 rfl (lv_at hl 0 rfl) ?_
  refine gf_X3_40 (v := .ref (ad (b + 10))) hx hb hT hown hK hP 0 rfl rfl dX3_become_77 ?_
  refine lv_aload_n hx hb dX3_become_80 rfl (lv_at hl 1 rfl) ?_
  refine gf_X3_40 (v := .ref (ad (b2 + 10))) hx hb hT hown hK hP 12 rfl rfl dX3_become_81 ?_
  refine xVW_v (As := [.ref (ad (b2 + 10))]) (rest := []) (wr := [((ad b), .inr (3, [.ref (ad 1), .ref (ad (b + 1)), .ref (ad (b + 2)), .ref (ad (b + 4)), .ref (ad (b + 6)), .ref (ad (b + 8)), .ref (ad (b + 10)), .int (S11.2 7), .int (S11.2 8), .int (S11.2 9), .int (S11.2 10)])), ((ad (b + 1)), .inr (6, [])), ((ad (b + 2)), .inr (7, [.int (nI 6), .int (nI 4), .ref (ad (b + 3)), .int ((S11.1 0).1)])), ((ad (b + 3)), .inl (cs 0, 24, .inl ((S11.1 0).2))), ((ad (b + 4)), .inr (7, [.int (nI 4), .int (nI 2), .ref (ad (b + 5)), .int ((S11.1 1).1)])), ((ad (b + 5)), .inl (cs 0, 8, .inl ((S11.1 1).2))), ((ad (b + 6)), .inr (7, [.int (nI 6), .int (nI 3), .ref (ad (b + 7)), .int ((S11.1 2).1)])), ((ad (b + 7)), .inl (cs 0, 18, .inl ((S11.1 2).2))), ((ad (b + 8)), .inr (7, [.int (nI 6), .int (nI 2), .ref (ad (b + 9)), .int ((S11.1 3).1)])), ((ad (b + 9)), .inl (cs 0, 12, .inl ((S11.1 3).2))), ((ad b2), .inr (3, [.ref (ad 1), .ref (ad (b2 + 1)), .ref (ad (b2 + 2)), .ref (ad (b2 + 4)), .ref (ad (b2 + 6)), .ref (ad (b2 + 8)), .ref (ad (b2 + 10)), .int (O.2 7), .int (O.2 8), .int (O.2 9), .int (O.2 10)])), ((ad (b2 + 1)), .inr (6, [])), ((ad (b2 + 2)), .inr (7, [.int (nI 6), .int (nI 4), .ref (ad (b2 + 3)), .int ((O.1 0).1)])), ((ad (b2 + 3)), .inl (cs 0, 24, .inl ((O.1 0).2))), ((ad (b2 + 4)), .inr (7, [.int (nI 4), .int (nI 2), .ref (ad (b2 + 5)), .int ((O.1 1).1)])), ((ad (b2 + 5)), .inl (cs 0, 8, .inl ((O.1 1).2))), ((ad (b2 + 6)), .inr (7, [.int (nI 6), .int (nI 3), .ref (ad (b2 + 7)), .int ((O.1 2).1)])), ((ad (b2 + 7)), .inl (cs 0, 18, .inl ((O.1 2).2))), ((ad (b2 + 8)), .inr (7, [.int (nI 6), .int (nI 2), .ref (ad (b2 + 9)), .int ((O.1 3).1)])), ((ad (b2 + 9)), .inl (cs 0, 12, .inl ((O.1 3).2)))]) (wg := fun u14 => WT2 cs ad b b2 O (tR S11 4 u14)) hx hb hml hown hT hN hK hP hD hS hA cw_X3_62 hm (fun z h => tcX7_become l D cs ad (b + 10) (b2 + 10) (nI 8) (nI 3) 24 (O.1 4) H.size (S11.1 4) z h) ⟨rfl, rfl⟩ ⟨by decide, by decide⟩ [10, 11, 22, 23] [0, 1, 2, 3, 4, 5, 6, 7, 8, 9, 12, 13, 14, 15, 16, 17, 18, 19, 20, 21] [0, 1, 2, 3, 4, 5, 6, 7, 8, 9, 20, 21, 10, 11, 12, 13, 14, 15, 16, 17, 18, 19, 22, 23] rfl (by decide) rfl (by decide) (by decide) (fun _ => rfl) (by decide) (b := (ad (b + 10))) 0 rfl rfl rfl hl.1 rfl rfl (Nat.le_of_ble_eq_true rfl) dX3_become_84 ⟨Nat.zero_le _, Nat.zero_le _⟩ (fun u14 H locs hm hP hD hS => ?_)
  obtain ⟨S13, hm, eS13⟩ := nm_ex hm
  rw [← eS13] at hP hD
  exact x_vretW (wf := (fun u => WT2 cs ad b b2 O u)) hx hb hr hlk hK hP hD hS hm dX3_become_87
