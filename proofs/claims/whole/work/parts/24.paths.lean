noncomputable def mX4_at (nn : Nat) (fa : Nat → Int32) (a2 : Int32) : Option Int32 := (if a2 < 0 then some (-1 : Int32) else (if (Int32.ofNat nn) ≤ a2 then some (-1 : Int32) else ald fa nn a2 fun v1 => some v1))
set_option maxHeartbeats 4000000 in
set_option maxRecDepth 100000 in
theorem tcX4_at (l : Launch) (D : va_G) (cs : CS) (aq : Nat) (nn : Nat) (fa : Nat → Int32) (a2 : Int32) (z : Int32) (hm : mX4_at nn fa a2 = some z) : Met l yX4_at (Cond.code yX4_at cX4_at 2 (some .int) :: gw_tbl) ({ frames := 0, cells := 0, slots := 0, locals := 0 }) (PcR D cs ([(aq, .inl (cs 0, nn, .inl fa))]) [.ref aq, .int a2]) (QRi z) 0 0 NoF := by
  refine met_R rfl (Nat.le_of_ble_eq_true rfl) (fun p e s m below meth c E hP ls hl => ?_)
  obtain ⟨hx, hb, hr, hml, hown, hlk, hT, hN, hK⟩ := id E
  have hl : lv_has ls 2 [(0, .ref aq), (1, .int a2)] := hl
  unfold mX4_at at hm
  refine lv_iload_n hx hb dX4_at_0 rfl (lv_at hl 1 rfl) ?_
  refine x_if_lt (tgt := 16) hx hb dX4_at_1 (by decide) hm (fun hm => ?_) (fun hm => ?_)
  · refine lv_iconst (v := (-1 : Int32)) hx hb dX4_at_16 (by decide) ?_
    exact x_iretR hx hb hr hlk hm dX4_at_17
  · refine lv_iload_n hx hb dX4_at_4 rfl (lv_at hl 1 rfl) ?_
    refine lv_aload_n hx hb dX4_at_5 rfl (lv_at hl 0 rfl) ?_
    refine va_alen (v := (Int32.ofNat nn)) hx hb hK hP 0 0 rfl rfl rfl dX4_at_6 ?_
    refine x_icmp_ge (tgt := 16) hx hb dX4_at_7 (by decide) hm (fun hm => ?_) (fun hm => ?_)
    · refine lv_iconst (v := (-1 : Int32)) hx hb dX4_at_16 (by decide) ?_
      exact x_iretR hx hb hr hlk hm dX4_at_17
    · refine lv_aload_n hx hb dX4_at_10 rfl (lv_at hl 0 rfl) ?_
      refine lv_iload_n hx hb dX4_at_11 rfl (lv_at hl 1 rfl) ?_
      refine x_iald hx hb hK hP 0 rfl hm dX4_at_12 (fun v1 hm => ?_)
      refine lv_goto (tgt := 17) hx hb dX4_at_13 (by decide) ?_
      exact x_iretR hx hb hr hlk hm dX4_at_17
noncomputable def mX4_stepAt (M : MT) (a2 : Int32) : Option Int32 := (mJ6_bitCount_0f7a4 a2).bind fun r1 => (mJ6_bitCount_0f7a4 (M.2 8)).bind fun r2 => some (((M.2 9) + r1) - r2)
set_option maxHeartbeats 4000000 in
set_option maxRecDepth 100000 in
theorem tcX4_stepAt (l : Launch) (D : va_G) (cs : CS) (ad : Nat → Nat) (b : Nat) (M : MT) (a2 : Int32) (z : Int32) (hm : mX4_stepAt M a2 = some z) : Met l yX4_stepAt (Cond.code yX4_stepAt cX4_stepAt 2 (some .int) :: gw_tbl) ({ frames := 1, cells := 0, slots := 0, locals := 20 }) (PcR D cs (WT cs ad b M) [.ref (ad b), .int a2]) (QRi z) 0 0 NoF := by
  refine met_R rfl (Nat.le_of_ble_eq_true rfl) (fun p e s m below meth c E hP ls hl => ?_)
  obtain ⟨hx, hb, hr, hml, hown, hlk, hT, hN, hK⟩ := id E
  have hl : lv_has ls 2 [(0, .ref (ad b)), (1, .int a2)] := hl
  unfold mX4_stepAt at hm
  refine lv_aload_n hx hb dX4_stepAt_0 rfl (lv_at hl 0 rfl) ?_
  refine gf_X4_76 (v := .int (M.2 9)) hx hb hT hown hK hP 0 rfl rfl dX4_stepAt_1 ?_
  refine lv_iload_n hx hb dX4_stepAt_4 rfl (lv_at hl 1 rfl) ?_
  refine xS_i (As := [.int a2]) (rest := [.int (M.2 9)]) hx hb hml hown hT hN hK (hP.sub (ws' := []) [] rfl) cw_X4_79 hm (fun z h => tcJ6_bitCount_0f7a4 l D cs a2 z h) ⟨rfl, rfl⟩ ⟨by decide, by decide⟩ hl.1 rfl rfl (Nat.le_of_ble_eq_true rfl) dX4_stepAt_5 ⟨Nat.zero_le _, Nat.zero_le _⟩ (fun r1 hm => ?_)
  refine lv_iadd hx hb dX4_stepAt_8 ?_
  refine lv_aload_n hx hb dX4_stepAt_9 rfl (lv_at hl 0 rfl) ?_
  refine gf_X4_18 (v := .int (M.2 8)) hx hb hT hown hK hP 0 rfl rfl dX4_stepAt_10 ?_
  refine xS_i (As := [.int (M.2 8)]) (rest := [.int ((M.2 9) + r1)]) hx hb hml hown hT hN hK (hP.sub (ws' := []) [] rfl) cw_X4_79 hm (fun z h => tcJ6_bitCount_0f7a4 l D cs (M.2 8) z h) ⟨rfl, rfl⟩ ⟨by decide, by decide⟩ hl.1 rfl rfl (Nat.le_of_ble_eq_true rfl) dX4_stepAt_13 ⟨Nat.zero_le _, Nat.zero_le _⟩ (fun r2 hm => ?_)
  refine lv_isub hx hb dX4_stepAt_16 ?_
  exact x_iretR hx hb hr hlk hm dX4_stepAt_17
noncomputable def mX4_allFictions (M : MT) : Option Int32 := some (((nI 1) <<< (((M.1 0).1) &&& 31)) - (nI 1))
set_option maxHeartbeats 4000000 in
set_option maxRecDepth 100000 in
theorem tcX4_allFictions (l : Launch) (D : va_G) (cs : CS) (ad : Nat → Nat) (b : Nat) (M : MT) (z : Int32) (hm : mX4_allFictions M = some z) : Met l yX4_allFictions (Cond.code yX4_allFictions cX4_allFictions 1 (some .int) :: gw_tbl) ({ frames := 0, cells := 0, slots := 0, locals := 0 }) (PcR D cs (WT cs ad b M) [.ref (ad b)]) (QRi z) 0 0 NoF := by
  refine met_R rfl (Nat.le_of_ble_eq_true rfl) (fun p e s m below meth c E hP ls hl => ?_)
  obtain ⟨hx, hb, hr, hml, hown, hlk, hT, hN, hK⟩ := id E
  have hl : lv_has ls 1 [(0, .ref (ad b))] := hl
  unfold mX4_allFictions at hm
  refine lv_iconst (v := (nI 1)) hx hb dX4_allFictions_0 (by decide) ?_
  refine lv_aload_n hx hb dX4_allFictions_1 rfl (lv_at hl 0 rfl) ?_
  refine gf_X4_48 (v := .ref (ad (b + 2))) hx hb hT hown hK hP 0 rfl rfl dX4_allFictions_2 ?_
  refine gf_X4_52 (v := .int ((M.1 0).1)) hx hb hT hown hK hP 2 rfl rfl dX4_allFictions_5 ?_
  refine lv_ishl hx hb dX4_allFictions_8 ?_
  refine lv_iconst (v := (nI 1)) hx hb dX4_allFictions_9 (by decide) ?_
  refine lv_isub hx hb dX4_allFictions_10 ?_
  exact x_iretR hx hb hr hlk hm dX4_allFictions_11
noncomputable def mX4_setsBehind_L13 (M : MT) (S : PA) : Nat → Int32 → Int32 → Int32 → Int64 → Int32 → Option Int64 := fun n => Nat.rec (motive := fun _ => Int32 → Int32 → Int32 → Int64 → Int32 → Option Int64) (fun _ _ _ _ _ => none) (fun _ rc => fun y2 y3 y4 y5 y7 => (if ((M.1 0).1) ≤ y7 then some y5 else (mX10_holds y2 y7).bind fun r2 => (if r2 = 0 then (mX3_allowed M y7 y3 y4).bind fun r4 => (if r4 = 0 then nm (y7 + (nI 1)) fun x5 => rc y2 y3 y4 y5 x5 else nm (y5 ||| ((lN 1) <<< ((y2 ||| ((nI 1) <<< (y7 &&& 31))).toInt64 &&& 63))) fun x6 => nm (y7 + (nI 1)) fun x7 => rc y2 y3 y4 x6 x7) else nm (y7 + (nI 1)) fun x3 => rc y2 y3 y4 y5 x3))) n
theorem mX4_setsBehind_L13_s (M : MT) (S : PA) (n : Nat) (y2 : Int32) (y3 : Int32) (y4 : Int32) (y5 : Int64) (y7 : Int32) : mX4_setsBehind_L13 M S (n + 1) y2 y3 y4 y5 y7 = (if ((M.1 0).1) ≤ y7 then some y5 else (mX10_holds y2 y7).bind fun r2 => (if r2 = 0 then (mX3_allowed M y7 y3 y4).bind fun r4 => (if r4 = 0 then nm (y7 + (nI 1)) fun x5 => (mX4_setsBehind_L13 M S n) y2 y3 y4 y5 x5 else nm (y5 ||| ((lN 1) <<< ((y2 ||| ((nI 1) <<< (y7 &&& 31))).toInt64 &&& 63))) fun x6 => nm (y7 + (nI 1)) fun x7 => (mX4_setsBehind_L13 M S n) y2 y3 y4 x6 x7) else nm (y7 + (nI 1)) fun x3 => (mX4_setsBehind_L13 M S n) y2 y3 y4 y5 x3)) := rfl
noncomputable def mX4_setsBehind (M : MT) (S : PA) (a2 : Int32) (a3 : Int32) : Option Int64 := (mX4_stepAt M a2).bind fun r1 => mX4_setsBehind_L13 M S FU a2 a3 r1 (lN 0) (nI 0)
set_option maxHeartbeats 4000000 in
set_option maxRecDepth 100000 in
theorem kX4_setsBehind_L13 {p : Program} {l : Launch} {e : Env} {s : State} {m : MethodId} {below : List Frame} {meth : Method} {c : Code} {D : va_G} {cs : CS}  {ad : Nat → Nat} {b : Nat} {M : MT} {S : PA} {a2 : Int32} {a3 : Int32} (E : EV p s m [.ref (ad 95), .ref (ad b), .int a2, .int a3].toArray meth c cX4_setsBehind 8 RX4 (some .long) D cs) (hP : va_P D classes (WP cs ad b M S) s.heap) (z : Int64) : ∀ (n : Nat) (y2 : Int32) (y3 : Int32) (y4 : Int32) (y5 : Int64) (y7 : Int32), mX4_setsBehind_L13 M S n y2 y3 y4 y5 y7 = some z → ∀ ls : Array Slot, lv_has ls 8 [(1, .ref (ad b)), (2, .int y2), (3, .int y3), (4, .int y4), (5, .long y5), (7, .int y7)] → W p l e ({ frames := 3, cells := 0, slots := 0, locals := 72 }) s m [.ref (ad 95), .ref (ad b), .int a2, .int a3].toArray below meth c s.heap [] 0 0 (MQ below (QRl z) [.ref (ad 95), .ref (ad b), .int a2, .int a3].toArray s 0 0 NoF) (F0 m 13 ls []) := by
  obtain ⟨hx, hb, hr, hml, hown, hlk, hT, hN, hK⟩ := id E
  intro n
  induction n with
  | zero =>
    intro y2 y3 y4 y5 y7 hm
    exact nomatch (show (none : Option Int64) = some z from hm)
  | succ n ih =>
    intro y2 y3 y4 y5 y7 hm ls hl
    rw [mX4_setsBehind_L13_s] at hm
    refine lv_iload hx hb dX4_setsBehind_13 (lv_at hl 5 rfl) ?_
    refine lv_aload_n hx hb dX4_setsBehind_15 rfl (lv_at hl 0 rfl) ?_
    refine gf_X4_48 (v := .ref (ad (b + 2))) hx hb hT hown hK hP 3 rfl rfl dX4_setsBehind_16 ?_
    refine gf_X4_52 (v := .int ((M.1 0).1)) hx hb hT hown hK hP 5 rfl rfl dX4_setsBehind_19 ?_
    refine x_icmp_ge (tgt := 65) hx hb dX4_setsBehind_22 (by decide) hm (fun hm => ?_) (fun hm => ?_)
    · refine lv_lload hx hb dX4_setsBehind_65 (lv_at hl 4 rfl) ?_
      exact x_lretR hx hb hr hlk hm dX4_setsBehind_67
    · refine lv_iload_n hx hb dX4_setsBehind_25 rfl (lv_at hl 1 rfl) ?_
      refine lv_iload hx hb dX4_setsBehind_26 (lv_at hl 5 rfl) ?_
      refine xN_i (As := [.int y2, .int y7]) (rest := []) hx hb hml hown hT hN hK (hP.sub (ws' := []) [] rfl) cw_X4_57 hm (fun z h => tcX10_holds l D cs y2 y7 z h) ⟨rfl, rfl⟩ ⟨by decide, by decide⟩ hl.1 rfl rfl (Nat.le_of_ble_eq_true rfl) dX4_setsBehind_28 ⟨Nat.zero_le _, Nat.zero_le _⟩ (fun r2 hm => ?_)
      refine x_if_ne (tgt := 59) hx hb dX4_setsBehind_31 (by decide) hm (fun hm => ?_) (fun hm => ?_)
      · refine x_iinc (lv' := fun x3 => [(7, .int x3), (1, .ref (ad b)), (2, .int y2), (3, .int y3), (4, .int y4), (5, .long y5)]) hx hb dX4_setsBehind_59 hl (k := 5) rfl (by decide) (v0 := (nI 1)) (by decide) (fun _ => rfl) hm (fun x3 ls hm hl => ?_)
        refine lv_goto (tgt := 13) hx hb dX4_setsBehind_62 (by decide) ?_
        exact ih y2 y3 y4 y5 x3 hm ls (lv_sub hl [1, 2, 3, 4, 5, 0] rfl)
      · refine lv_aload_n hx hb dX4_setsBehind_34 rfl (lv_at hl 0 rfl) ?_
        refine lv_iload hx hb dX4_setsBehind_35 (lv_at hl 5 rfl) ?_
        refine lv_iload_n hx hb dX4_setsBehind_37 rfl (lv_at hl 2 rfl) ?_
        refine lv_iload hx hb dX4_setsBehind_38 (lv_at hl 3 rfl) ?_
        refine xV_i (As := [.int y7, .int y3, .int y4]) (rest := []) hx hb hml hown hT hN hK (hP.sub (ws' := WT cs ad b M) [3, 4, 5, 6, 7, 8, 9, 10, 11, 12, 13, 14, 15, 16, 17, 18, 19, 20, 21] rfl) cw_X4_61 hm (fun z h => tcX3_allowed l D cs ad b M y7 y3 y4 z h) ⟨rfl, rfl⟩ ⟨by decide, by decide⟩ (b := (ad b)) 0 rfl rfl rfl hl.1 rfl rfl (Nat.le_of_ble_eq_true rfl) dX4_setsBehind_40 ⟨Nat.zero_le _, Nat.zero_le _⟩ (fun r4 hm => ?_)
        refine x_if_eq (tgt := 59) hx hb dX4_setsBehind_43 (by decide) hm (fun hm => ?_) (fun hm => ?_)
        · refine x_iinc (lv' := fun x5 => [(7, .int x5), (1, .ref (ad b)), (2, .int y2), (3, .int y3), (4, .int y4), (5, .long y5)]) hx hb dX4_setsBehind_59 hl (k := 5) rfl (by decide) (v0 := (nI 1)) (by decide) (fun _ => rfl) hm (fun x5 ls hm hl => ?_)
          refine lv_goto (tgt := 13) hx hb dX4_setsBehind_62 (by decide) ?_
          exact ih y2 y3 y4 y5 x5 hm ls (lv_sub hl [1, 2, 3, 4, 5, 0] rfl)
        · refine lv_lload hx hb dX4_setsBehind_46 (lv_at hl 4 rfl) ?_
          refine lv_lconst (v := (lN 1)) hx hb dX4_setsBehind_48 (by decide) ?_
          refine lv_iload_n hx hb dX4_setsBehind_49 rfl (lv_at hl 1 rfl) ?_
          refine lv_iconst (v := (nI 1)) hx hb dX4_setsBehind_50 (by decide) ?_
          refine lv_iload hx hb dX4_setsBehind_51 (lv_at hl 5 rfl) ?_
          refine lv_ishl hx hb dX4_setsBehind_53 ?_
          refine lv_ior hx hb dX4_setsBehind_54 ?_
          refine lv_lshl hx hb dX4_setsBehind_55 rfl ?_
          refine lv_lor hx hb dX4_setsBehind_56 ?_
          refine xl_nm hm (fun x6 hm => ?_)
          refine lv_lstore (lv' := [(5, .long x6), (1, .ref (ad b)), (2, .int y2), (3, .int y3), (4, .int y4), (7, .int y7)]) hx hb dX4_setsBehind_57 hl (by decide) rfl (fun ls hl => ?_)
          refine x_iinc (lv' := fun x7 => [(7, .int x7), (5, .long x6), (1, .ref (ad b)), (2, .int y2), (3, .int y3), (4, .int y4)]) hx hb dX4_setsBehind_59 hl (k := 5) rfl (by decide) (v0 := (nI 1)) (by decide) (fun _ => rfl) hm (fun x7 ls hm hl => ?_)
          refine lv_goto (tgt := 13) hx hb dX4_setsBehind_62 (by decide) ?_
          exact ih y2 y3 y4 x6 x7 hm ls (lv_sub hl [2, 3, 4, 5, 1, 0] rfl)
set_option maxHeartbeats 4000000 in
set_option maxRecDepth 100000 in
theorem tcX4_setsBehind (l : Launch) (D : va_G) (cs : CS) (ad : Nat → Nat) (b : Nat) (M : MT) (S : PA) (a2 : Int32) (a3 : Int32) (z : Int64) (hm : mX4_setsBehind M S a2 a3 = some z) : Met l yX4_setsBehind (Cond.code yX4_setsBehind cX4_setsBehind 8 (some .long) :: gw_tbl) ({ frames := 3, cells := 0, slots := 0, locals := 72 }) (PcR D cs (WP cs ad b M S) [.ref (ad 95), .ref (ad b), .int a2, .int a3]) (QRl z) 0 0 NoF := by
  refine met_R rfl (Nat.le_of_ble_eq_true rfl) (fun p e s m below meth c E hP ls hl => ?_)
  obtain ⟨hx, hb, hr, hml, hown, hlk, hT, hN, hK⟩ := id E
  have hl : lv_has ls 8 [(0, .ref (ad 95)), (1, .ref (ad b)), (2, .int a2), (3, .int a3)] := hl
  unfold mX4_setsBehind at hm
  refine lv_aload_n hx hb dX4_setsBehind_0 rfl (lv_at hl 1 rfl) ?_
  refine lv_iload_n hx hb dX4_setsBehind_1 rfl (lv_at hl 2 rfl) ?_
  refine xS_i (As := [.ref (ad b), .int a2]) (rest := []) hx hb hml hown hT hN hK (hP.sub (ws' := WT cs ad b M) [3, 4, 5, 6, 7, 8, 9, 10, 11, 12, 13, 14, 15, 16, 17, 18, 19, 20, 21] rfl) cw_X4_44 hm (fun z h => tcX4_stepAt l D cs ad b M a2 z h) ⟨rfl, rfl⟩ ⟨by decide, by decide⟩ hl.1 rfl rfl (Nat.le_of_ble_eq_true rfl) dX4_setsBehind_2 ⟨Nat.zero_le _, Nat.zero_le _⟩ (fun r1 hm => ?_)
  refine lv_istore (lv' := [(4, .int r1), (0, .ref (ad 95)), (1, .ref (ad b)), (2, .int a2), (3, .int a3)]) hx hb dX4_setsBehind_5 hl (by decide) rfl (fun ls hl => ?_)
  refine lv_lconst (v := (lN 0)) hx hb dX4_setsBehind_7 (by decide) ?_
  refine lv_lstore (lv' := [(5, .long (lN 0)), (4, .int r1), (0, .ref (ad 95)), (1, .ref (ad b)), (2, .int a2), (3, .int a3)]) hx hb dX4_setsBehind_8 hl (by decide) rfl (fun ls hl => ?_)
  refine lv_iconst (v := (nI 0)) hx hb dX4_setsBehind_10 (by decide) ?_
  refine lv_istore (lv' := [(7, .int (nI 0)), (5, .long (lN 0)), (4, .int r1), (0, .ref (ad 95)), (1, .ref (ad b)), (2, .int a2), (3, .int a3)]) hx hb dX4_setsBehind_11 hl (by decide) rfl (fun ls hl => ?_)
  exact kX4_setsBehind_L13 E hP _ FU a2 a3 r1 (lN 0) (nI 0) hm ls (lv_sub hl [4, 5, 6, 2, 1, 0] rfl)
noncomputable def mX4_keep (M : MT) (S : PA) (a1 : Int32) (a2 : Int32) (a3 : Int32) : Option PA := (if a1 < 0 then some S else (if (nI 64) ≤ a1 then some S else (if (nI 64) ≤ a1 then some S else ast 64 a1 <| nm (upd S.1 a1.toNatClampNeg a2, S.2) fun S1 => ast 64 a1 <| nm (S1.1, upd S1.2 a1.toNatClampNeg a3) fun S2 => some S2)))
set_option maxHeartbeats 4000000 in
set_option maxRecDepth 100000 in
theorem tcX4_keep (l : Launch) (D : va_G) (cs : CS) (ad : Nat → Nat) (b : Nat) (M : MT) (sz : Nat) (S : PA) (a1 : Int32) (a2 : Int32) (a3 : Int32) (z : PA) (hm : mX4_keep M S a1 a2 a3 = some z) : Met l yX4_keep (Cond.code yX4_keep cX4_keep 4 none :: gw_tbl) ({ frames := 0, cells := 0, slots := 0, locals := 0 }) (PcW D cs sz (WP cs ad b M S) [.ref (ad 95), .int a1, .int a2, .int a3]) (QWv D cs (va_A (WP cs ad b M S) sz) (fun u => WP cs ad b M u) z) 0 0 (va_A (WP cs ad b M S) sz) := by
  refine met_W rfl (Nat.le_of_ble_eq_true rfl) (fun p e s m below meth c E hP hD hS hA ls hl => ?_)
  generalize va_A (WP cs ad b M S) sz = A at hD hS hA ⊢
  obtain ⟨hx, hb, hr, hml, hown, hlk, hT, hN, hK⟩ := id E
  obtain ⟨H, hH⟩ : ∃ H, H = s.heap := ⟨_, rfl⟩
  obtain ⟨locs, hlo⟩ : ∃ L : List Loc, L = [] := ⟨_, rfl⟩
  have hP : va_P D classes (WP cs ad b M S) H := by rw [hH]; exact hP
  have hS : va_S A s.heap H locs := by rw [hH, hlo]; exact hS
  rw [show W p l e _ s m _ below meth c s.heap [] 0 0 = W p l e _ s m _ below meth c H locs 0 0 by rw [hH, hlo]]
  have hl : lv_has ls 4 [(0, .ref (ad 95)), (1, .int a1), (2, .int a2), (3, .int a3)] := hl
  unfold mX4_keep at hm
  refine lv_iload_n hx hb dX4_keep_0 rfl (lv_at hl 1 rfl) ?_
  refine x_if_lt (tgt := 36) hx hb dX4_keep_1 (by decide) hm (fun hm => ?_) (fun hm => ?_)
  · exact x_vretW (wf := (fun u => WP cs ad b M u)) hx hb hr hlk hK hP hD hS hm dX4_keep_36
  · refine lv_iload_n hx hb dX4_keep_4 rfl (lv_at hl 1 rfl) ?_
    refine lv_aload_n hx hb dX4_keep_5 rfl (lv_at hl 0 rfl) ?_
    refine gf_X4_9 (v := .ref (ad 96)) hx hb hT hown hK hP 0 rfl rfl dX4_keep_6 ?_
    refine va_alen (v := (nI 64)) hx hb hK hP 1 0 rfl rfl rfl dX4_keep_9 ?_
    refine x_icmp_ge (tgt := 36) hx hb dX4_keep_10 (by decide) hm (fun hm => ?_) (fun hm => ?_)
    · exact x_vretW (wf := (fun u => WP cs ad b M u)) hx hb hr hlk hK hP hD hS hm dX4_keep_36
    · refine lv_iload_n hx hb dX4_keep_13 rfl (lv_at hl 1 rfl) ?_
      refine lv_aload_n hx hb dX4_keep_14 rfl (lv_at hl 0 rfl) ?_
      refine gf_X4_15 (v := .ref (ad 97)) hx hb hT hown hK hP 0 rfl rfl dX4_keep_15 ?_
      refine va_alen (v := (nI 64)) hx hb hK hP 2 0 rfl rfl rfl dX4_keep_18 ?_
      refine x_icmp_ge (tgt := 36) hx hb dX4_keep_19 (by decide) hm (fun hm => ?_) (fun hm => ?_)
      · exact x_vretW (wf := (fun u => WP cs ad b M u)) hx hb hr hlk hK hP hD hS hm dX4_keep_36
      · refine lv_aload_n hx hb dX4_keep_22 rfl (lv_at hl 0 rfl) ?_
        refine gf_X4_9 (v := .ref (ad 96)) hx hb hT hown hK hP 0 rfl rfl dX4_keep_23 ?_
        refine lv_iload_n hx hb dX4_keep_26 rfl (lv_at hl 1 rfl) ?_
        refine lv_iload_n hx hb dX4_keep_27 rfl (lv_at hl 2 rfl) ?_
        refine x_iast hx hb hK hP hD hS 1 rfl (fun j => (upd S.1 j a2, S.2)) (fun u => WP cs ad b M u) (fun _ => rfl) hm dX4_keep_28 (fun S1 H locs hm hP hD hS => ?_)
        refine lv_aload_n hx hb dX4_keep_29 rfl (lv_at hl 0 rfl) ?_
        refine gf_X4_15 (v := .ref (ad 97)) hx hb hT hown hK hP 0 rfl rfl dX4_keep_30 ?_
        refine lv_iload_n hx hb dX4_keep_33 rfl (lv_at hl 1 rfl) ?_
        refine lv_iload_n hx hb dX4_keep_34 rfl (lv_at hl 3 rfl) ?_
        refine x_iast hx hb hK hP hD hS 2 rfl (fun j => (S1.1, upd S1.2 j a3)) (fun u => WP cs ad b M u) (fun _ => rfl) hm dX4_keep_35 (fun S2 H locs hm hP hD hS => ?_)
        exact x_vretW (wf := (fun u => WP cs ad b M u)) hx hb hr hlk hK hP hD hS hm dX4_keep_36
noncomputable def mX4_settle_L44 (M : MT) : Nat → Int32 → Int32 → Int32 → Int32 → Int32 → Int32 → Int32 → PA → Option PA := fun n => Nat.rec (motive := fun _ => Int32 → Int32 → Int32 → Int32 → Int32 → Int32 → Int32 → PA → Option PA) (fun _ _ _ _ _ _ _ _ => none) (fun _ rc => fun y3 y4 y5 y6 y7 y8 y9 S => (if ((M.1 0).1) ≤ y9 then (mX4_keep M S y4 y7 y8).bind fun S4 => some S4 else (mX4_at 64 S.1 (y4 ||| ((nI 1) <<< (y9 &&& 31)))).bind fun r5 => (mX10_holds y4 y9).bind fun r6 => (if r6 = 0 then (if r5 = (-1 : Int32) then nm (y9 + (nI 1)) fun x8 => rc y3 y4 y5 y6 y7 y8 x8 S else (mX3_allowed M y9 y5 y6).bind fun r9 => (if r9 = 0 then nm (y9 + (nI 1)) fun x10 => rc y3 y4 y5 y6 y7 y8 x10 S else (if y3 = (nI 1) then (mX3_ownCost M y9 y6).bind fun r15 => nm (r5 + r15) fun x16 => (if y7 = (-1 : Int32) then nm (y9 + (nI 1)) fun x17 => rc y3 y4 y5 y6 x16 y9 x17 S else (if y7 ≤ x16 then nm (y9 + (nI 1)) fun x18 => rc y3 y4 y5 y6 y7 y8 x18 S else nm (y9 + (nI 1)) fun x19 => rc y3 y4 y5 y6 x16 y9 x19 S)) else nm (r5 + (nI 1)) fun x11 => (if y7 = (-1 : Int32) then nm (y9 + (nI 1)) fun x12 => rc y3 y4 y5 y6 x11 y9 x12 S else (if y7 ≤ x11 then nm (y9 + (nI 1)) fun x13 => rc y3 y4 y5 y6 y7 y8 x13 S else nm (y9 + (nI 1)) fun x14 => rc y3 y4 y5 y6 x11 y9 x14 S))))) else nm (y9 + (nI 1)) fun x7 => rc y3 y4 y5 y6 y7 y8 x7 S))) n
theorem mX4_settle_L44_s (M : MT) (n : Nat) (y3 : Int32) (y4 : Int32) (y5 : Int32) (y6 : Int32) (y7 : Int32) (y8 : Int32) (y9 : Int32) (S : PA) : mX4_settle_L44 M (n + 1) y3 y4 y5 y6 y7 y8 y9 S = (if ((M.1 0).1) ≤ y9 then (mX4_keep M S y4 y7 y8).bind fun S4 => some S4 else (mX4_at 64 S.1 (y4 ||| ((nI 1) <<< (y9 &&& 31)))).bind fun r5 => (mX10_holds y4 y9).bind fun r6 => (if r6 = 0 then (if r5 = (-1 : Int32) then nm (y9 + (nI 1)) fun x8 => (mX4_settle_L44 M n) y3 y4 y5 y6 y7 y8 x8 S else (mX3_allowed M y9 y5 y6).bind fun r9 => (if r9 = 0 then nm (y9 + (nI 1)) fun x10 => (mX4_settle_L44 M n) y3 y4 y5 y6 y7 y8 x10 S else (if y3 = (nI 1) then (mX3_ownCost M y9 y6).bind fun r15 => nm (r5 + r15) fun x16 => (if y7 = (-1 : Int32) then nm (y9 + (nI 1)) fun x17 => (mX4_settle_L44 M n) y3 y4 y5 y6 x16 y9 x17 S else (if y7 ≤ x16 then nm (y9 + (nI 1)) fun x18 => (mX4_settle_L44 M n) y3 y4 y5 y6 y7 y8 x18 S else nm (y9 + (nI 1)) fun x19 => (mX4_settle_L44 M n) y3 y4 y5 y6 x16 y9 x19 S)) else nm (r5 + (nI 1)) fun x11 => (if y7 = (-1 : Int32) then nm (y9 + (nI 1)) fun x12 => (mX4_settle_L44 M n) y3 y4 y5 y6 x11 y9 x12 S else (if y7 ≤ x11 then nm (y9 + (nI 1)) fun x13 => (mX4_settle_L44 M n) y3 y4 y5 y6 y7 y8 x13 S else nm (y9 + (nI 1)) fun x14 => (mX4_settle_L44 M n) y3 y4 y5 y6 x11 y9 x14 S))))) else nm (y9 + (nI 1)) fun x7 => (mX4_settle_L44 M n) y3 y4 y5 y6 y7 y8 x7 S)) := rfl
noncomputable def mX4_settle (M : MT) (S : PA) (a2 : Int32) (a3 : Int32) (a4 : Int32) : Option PA := (mX3_factsWith M a4).bind fun r1 => (mX3_courtHears M a2 r1).bind fun r2 => (if r2 = 0 then (mX4_stepAt M a4).bind fun r3 => mX4_settle_L44 M FU a3 a4 r1 r3 (-1 : Int32) (-1 : Int32) (nI 0) S else (mX4_keep M S a4 (nI 0) (-1 : Int32)).bind fun S20 => some S20)
set_option maxHeartbeats 4000000 in
set_option maxRecDepth 100000 in
theorem kX4_settle_L44 {p : Program} {l : Launch} {e : Env} {s : State} {m : MethodId} {below : List Frame} {meth : Method} {c : Code} {D : va_G} {cs : CS} {A : Nat → Prop}  {ad : Nat → Nat} {b : Nat} {M : MT} {a2 : Int32} {a3 : Int32} {a4 : Int32} (E : EV p s m [.ref (ad 95), .ref (ad b), .int a2, .int a3, .int a4].toArray meth c cX4_settle 12 RX4 none D cs) (hA : ∀ q : Nat, s.heap.size ≤ q → A q) (z : PA) : ∀ (n : Nat) (y3 : Int32) (y4 : Int32) (y5 : Int32) (y6 : Int32) (y7 : Int32) (y8 : Int32) (y9 : Int32) (S : PA), mX4_settle_L44 M n y3 y4 y5 y6 y7 y8 y9 S = some z → ∀ (H : Heap) (locs : List Loc), va_P D classes (WP cs ad b M S) H → va_D A (WP cs ad b M S) → va_S A s.heap H locs → ∀ ls : Array Slot, lv_has ls 12 [(0, .ref (ad 95)), (1, .ref (ad b)), (3, .int y3), (4, .int y4), (5, .int y5), (6, .int y6), (7, .int y7), (8, .int y8), (9, .int y9)] → W p l e ({ frames := 4, cells := 0, slots := 0, locals := 88 }) s m [.ref (ad 95), .ref (ad b), .int a2, .int a3, .int a4].toArray below meth c H locs 0 0 (MQ below (QWv D cs A (fun u => WP cs ad b M u) z) [.ref (ad 95), .ref (ad b), .int a2, .int a3, .int a4].toArray s 0 0 A) (F0 m 44 ls []) := by
  obtain ⟨hx, hb, hr, hml, hown, hlk, hT, hN, hK⟩ := id E
  intro n
  induction n with
  | zero =>
    intro y3 y4 y5 y6 y7 y8 y9 S hm
    exact nomatch (show (none : Option PA) = some z from hm)
  | succ n ih =>
    intro y3 y4 y5 y6 y7 y8 y9 S hm H locs hP hD hS ls hl
    rw [mX4_settle_L44_s] at hm
    refine lv_iload hx hb dX4_settle_44 (lv_at hl 8 rfl) ?_
    refine lv_aload_n hx hb dX4_settle_46 rfl (lv_at hl 1 rfl) ?_
    refine gf_X4_48 (v := .ref (ad (b + 2))) hx hb hT hown hK hP 3 rfl rfl dX4_settle_47 ?_
    refine gf_X4_52 (v := .int ((M.1 0).1)) hx hb hT hown hK hP 5 rfl rfl dX4_settle_50 ?_
    refine x_icmp_ge (tgt := 150) hx hb dX4_settle_53 (by decide) hm (fun hm => ?_) (fun hm => ?_)
    · refine lv_aload_n hx hb dX4_settle_150 rfl (lv_at hl 0 rfl) ?_
      refine lv_iload hx hb dX4_settle_151 (lv_at hl 3 rfl) ?_
      refine lv_iload hx hb dX4_settle_153 (lv_at hl 6 rfl) ?_
      refine lv_iload hx hb dX4_settle_155 (lv_at hl 7 rfl) ?_
      refine xVW_v (As := [.int y4, .int y7, .int y8]) (rest := []) (wr := []) (wg := (fun u => WP cs ad b M u)) hx hb hml hown hT hN hK hP hD hS hA cw_X4_68 hm (fun z h => tcX4_keep l D cs ad b M H.size S y4 y7 y8 z h) ⟨rfl, rfl⟩ ⟨by decide, by decide⟩ [0, 1, 2, 3, 4, 5, 6, 7, 8, 9, 10, 11, 12, 13, 14, 15, 16, 17, 18, 19, 20, 21] [] [0, 1, 2, 3, 4, 5, 6, 7, 8, 9, 10, 11, 12, 13, 14, 15, 16, 17, 18, 19, 20, 21] rfl (by decide) rfl (by decide) (by decide) (fun _ => rfl) (by decide) (b := (ad 95)) 0 rfl rfl rfl hl.1 rfl rfl (Nat.le_of_ble_eq_true rfl) dX4_settle_157 ⟨Nat.zero_le _, Nat.zero_le _⟩ (fun S4 H locs hm hP hD hS => ?_)
      exact x_vretW (wf := (fun u => WP cs ad b M u)) hx hb hr hlk hK hP hD hS hm dX4_settle_160
    · refine lv_aload_n hx hb dX4_settle_56 rfl (lv_at hl 0 rfl) ?_
      refine gf_X4_9 (v := .ref (ad 96)) hx hb hT hown hK hP 0 rfl rfl dX4_settle_57 ?_
      refine lv_iload hx hb dX4_settle_60 (lv_at hl 3 rfl) ?_
      refine lv_iconst (v := (nI 1)) hx hb dX4_settle_62 (by decide) ?_
      refine lv_iload hx hb dX4_settle_63 (lv_at hl 8 rfl) ?_
      refine lv_ishl hx hb dX4_settle_65 ?_
      refine lv_ior hx hb dX4_settle_66 ?_
      refine xS_i (As := [.ref (ad 96), .int (y4 ||| ((nI 1) <<< (y9 &&& 31)))]) (rest := []) hx hb hml hown hT hN hK (hP.sub (ws' := [((ad 96), .inl (cs 0, 64, .inl (S.1)))]) [1] rfl) cw_X4_32 hm (fun z h => tcX4_at l D cs (ad 96) 64 S.1 (y4 ||| ((nI 1) <<< (y9 &&& 31))) z h) ⟨rfl, rfl⟩ ⟨by decide, by decide⟩ hl.1 rfl rfl (Nat.le_of_ble_eq_true rfl) dX4_settle_67 ⟨Nat.zero_le _, Nat.zero_le _⟩ (fun r5 hm => ?_)
      refine lv_istore (lv' := [(10, .int r5), (0, .ref (ad 95)), (1, .ref (ad b)), (3, .int y3), (4, .int y4), (5, .int y5), (6, .int y6), (7, .int y7), (8, .int y8), (9, .int y9)]) hx hb dX4_settle_70 hl (by decide) rfl (fun ls hl => ?_)
      refine lv_iload hx hb dX4_settle_72 (lv_at hl 4 rfl) ?_
      refine lv_iload hx hb dX4_settle_74 (lv_at hl 9 rfl) ?_
      refine xN_i (As := [.int y4, .int y9]) (rest := []) hx hb hml hown hT hN hK (hP.sub (ws' := []) [] rfl) cw_X4_57 hm (fun z h => tcX10_holds l D cs y4 y9 z h) ⟨rfl, rfl⟩ ⟨by decide, by decide⟩ hl.1 rfl rfl (Nat.le_of_ble_eq_true rfl) dX4_settle_76 ⟨Nat.zero_le _, Nat.zero_le _⟩ (fun r6 hm => ?_)
      refine x_if_ne (tgt := 144) hx hb dX4_settle_79 (by decide) hm (fun hm => ?_) (fun hm => ?_)
      · refine x_iinc (lv' := fun x7 => [(9, .int x7), (10, .int r5), (0, .ref (ad 95)), (1, .ref (ad b)), (3, .int y3), (4, .int y4), (5, .int y5), (6, .int y6), (7, .int y7), (8, .int y8)]) hx hb dX4_settle_144 hl (k := 9) rfl (by decide) (v0 := (nI 1)) (by decide) (fun _ => rfl) hm (fun x7 ls hm hl => ?_)
        refine lv_goto (tgt := 44) hx hb dX4_settle_147 (by decide) ?_
        exact ih y3 y4 y5 y6 y7 y8 x7 S hm H locs hP hD hS ls (lv_sub hl [2, 3, 4, 5, 6, 7, 8, 9, 0] rfl)
      · refine lv_iload hx hb dX4_settle_82 (lv_at hl 0 rfl) ?_
        refine lv_iconst (v := (-1 : Int32)) hx hb dX4_settle_84 (by decide) ?_
        refine x_icmp_eq (tgt := 144) hx hb dX4_settle_85 (by decide) hm (fun hm => ?_) (fun hm => ?_)
        · refine x_iinc (lv' := fun x8 => [(9, .int x8), (10, .int r5), (0, .ref (ad 95)), (1, .ref (ad b)), (3, .int y3), (4, .int y4), (5, .int y5), (6, .int y6), (7, .int y7), (8, .int y8)]) hx hb dX4_settle_144 hl (k := 9) rfl (by decide) (v0 := (nI 1)) (by decide) (fun _ => rfl) hm (fun x8 ls hm hl => ?_)
          refine lv_goto (tgt := 44) hx hb dX4_settle_147 (by decide) ?_
          exact ih y3 y4 y5 y6 y7 y8 x8 S hm H locs hP hD hS ls (lv_sub hl [2, 3, 4, 5, 6, 7, 8, 9, 0] rfl)
        · refine lv_aload_n hx hb dX4_settle_88 rfl (lv_at hl 2 rfl) ?_
          refine lv_iload hx hb dX4_settle_89 (lv_at hl 9 rfl) ?_
          refine lv_iload hx hb dX4_settle_91 (lv_at hl 5 rfl) ?_
          refine lv_iload hx hb dX4_settle_93 (lv_at hl 6 rfl) ?_
          refine xV_i (As := [.int y9, .int y5, .int y6]) (rest := []) hx hb hml hown hT hN hK (hP.sub (ws' := WT cs ad b M) [3, 4, 5, 6, 7, 8, 9, 10, 11, 12, 13, 14, 15, 16, 17, 18, 19, 20, 21] rfl) cw_X4_61 hm (fun z h => tcX3_allowed l D cs ad b M y9 y5 y6 z h) ⟨rfl, rfl⟩ ⟨by decide, by decide⟩ (b := (ad b)) 0 rfl rfl rfl hl.1 rfl rfl (Nat.le_of_ble_eq_true rfl) dX4_settle_95 ⟨Nat.zero_le _, Nat.zero_le _⟩ (fun r9 hm => ?_)
          refine x_if_eq (tgt := 144) hx hb dX4_settle_98 (by decide) hm (fun hm => ?_) (fun hm => ?_)
          · refine x_iinc (lv' := fun x10 => [(9, .int x10), (10, .int r5), (0, .ref (ad 95)), (1, .ref (ad b)), (3, .int y3), (4, .int y4), (5, .int y5), (6, .int y6), (7, .int y7), (8, .int y8)]) hx hb dX4_settle_144 hl (k := 9) rfl (by decide) (v0 := (nI 1)) (by decide) (fun _ => rfl) hm (fun x10 ls hm hl => ?_)
            refine lv_goto (tgt := 44) hx hb dX4_settle_147 (by decide) ?_
            exact ih y3 y4 y5 y6 y7 y8 x10 S hm H locs hP hD hS ls (lv_sub hl [2, 3, 4, 5, 6, 7, 8, 9, 0] rfl)
          · refine lv_iload hx hb dX4_settle_101 (lv_at hl 0 rfl) ?_
            refine lv_iload_n hx hb dX4_settle_103 rfl (lv_at hl 3 rfl) ?_
            refine lv_iconst (v := (nI 1)) hx hb dX4_settle_104 (by decide) ?_
            refine x_icmp_ne (tgt := 119) hx hb dX4_settle_105 (by decide) hm (fun hm => ?_) (fun hm => ?_)
            · refine lv_iconst (v := (nI 1)) hx hb dX4_settle_119 (by decide) ?_
              refine lv_iadd hx hb dX4_settle_120 ?_
              refine xi_nm hm (fun x11 hm => ?_)
              refine lv_istore (lv' := [(11, .int x11), (10, .int r5), (0, .ref (ad 95)), (1, .ref (ad b)), (3, .int y3), (4, .int y4), (5, .int y5), (6, .int y6), (7, .int y7), (8, .int y8), (9, .int y9)]) hx hb dX4_settle_121 hl (by decide) rfl (fun ls hl => ?_)
              refine lv_iload hx hb dX4_settle_123 (lv_at hl 8 rfl) ?_
              refine lv_iconst (v := (-1 : Int32)) hx hb dX4_settle_125 (by decide) ?_
              refine x_icmp_eq (tgt := 136) hx hb dX4_settle_126 (by decide) hm (fun hm => ?_) (fun hm => ?_)
              · refine lv_iload hx hb dX4_settle_136 (lv_at hl 0 rfl) ?_
                refine lv_istore (lv' := [(7, .int x11), (11, .int x11), (10, .int r5), (0, .ref (ad 95)), (1, .ref (ad b)), (3, .int y3), (4, .int y4), (5, .int y5), (6, .int y6), (8, .int y8), (9, .int y9)]) hx hb dX4_settle_138 hl (by decide) rfl (fun ls hl => ?_)
                refine lv_iload hx hb dX4_settle_140 (lv_at hl 10 rfl) ?_
                refine lv_istore (lv' := [(8, .int y9), (7, .int x11), (11, .int x11), (10, .int r5), (0, .ref (ad 95)), (1, .ref (ad b)), (3, .int y3), (4, .int y4), (5, .int y5), (6, .int y6), (9, .int y9)]) hx hb dX4_settle_142 hl (by decide) rfl (fun ls hl => ?_)
                refine x_iinc (lv' := fun x12 => [(9, .int x12), (8, .int y9), (7, .int x11), (11, .int x11), (10, .int r5), (0, .ref (ad 95)), (1, .ref (ad b)), (3, .int y3), (4, .int y4), (5, .int y5), (6, .int y6)]) hx hb dX4_settle_144 hl (k := 10) rfl (by decide) (v0 := (nI 1)) (by decide) (fun _ => rfl) hm (fun x12 ls hm hl => ?_)
                refine lv_goto (tgt := 44) hx hb dX4_settle_147 (by decide) ?_
                exact ih y3 y4 y5 y6 x11 y9 x12 S hm H locs hP hD hS ls (lv_sub hl [5, 6, 7, 8, 9, 10, 2, 1, 0] rfl)
              · refine lv_iload hx hb dX4_settle_129 (lv_at hl 0 rfl) ?_
                refine lv_iload hx hb dX4_settle_131 (lv_at hl 8 rfl) ?_
                refine x_icmp_ge (tgt := 144) hx hb dX4_settle_133 (by decide) hm (fun hm => ?_) (fun hm => ?_)
                · refine x_iinc (lv' := fun x13 => [(9, .int x13), (11, .int x11), (10, .int r5), (0, .ref (ad 95)), (1, .ref (ad b)), (3, .int y3), (4, .int y4), (5, .int y5), (6, .int y6), (7, .int y7), (8, .int y8)]) hx hb dX4_settle_144 hl (k := 10) rfl (by decide) (v0 := (nI 1)) (by decide) (fun _ => rfl) hm (fun x13 ls hm hl => ?_)
                  refine lv_goto (tgt := 44) hx hb dX4_settle_147 (by decide) ?_
                  exact ih y3 y4 y5 y6 y7 y8 x13 S hm H locs hP hD hS ls (lv_sub hl [3, 4, 5, 6, 7, 8, 9, 10, 0] rfl)
                · refine lv_iload hx hb dX4_settle_136 (lv_at hl 0 rfl) ?_
                  refine lv_istore (lv' := [(7, .int x11), (11, .int x11), (10, .int r5), (0, .ref (ad 95)), (1, .ref (ad b)), (3, .int y3), (4, .int y4), (5, .int y5), (6, .int y6), (8, .int y8), (9, .int y9)]) hx hb dX4_settle_138 hl (by decide) rfl (fun ls hl => ?_)
                  refine lv_iload hx hb dX4_settle_140 (lv_at hl 10 rfl) ?_
                  refine lv_istore (lv' := [(8, .int y9), (7, .int x11), (11, .int x11), (10, .int r5), (0, .ref (ad 95)), (1, .ref (ad b)), (3, .int y3), (4, .int y4), (5, .int y5), (6, .int y6), (9, .int y9)]) hx hb dX4_settle_142 hl (by decide) rfl (fun ls hl => ?_)
                  refine x_iinc (lv' := fun x14 => [(9, .int x14), (8, .int y9), (7, .int x11), (11, .int x11), (10, .int r5), (0, .ref (ad 95)), (1, .ref (ad b)), (3, .int y3), (4, .int y4), (5, .int y5), (6, .int y6)]) hx hb dX4_settle_144 hl (k := 10) rfl (by decide) (v0 := (nI 1)) (by decide) (fun _ => rfl) hm (fun x14 ls hm hl => ?_)
                  refine lv_goto (tgt := 44) hx hb dX4_settle_147 (by decide) ?_
                  exact ih y3 y4 y5 y6 x11 y9 x14 S hm H locs hP hD hS ls (lv_sub hl [5, 6, 7, 8, 9, 10, 2, 1, 0] rfl)
            · refine lv_aload_n hx hb dX4_settle_108 rfl (lv_at hl 2 rfl) ?_
              refine lv_iload hx hb dX4_settle_109 (lv_at hl 9 rfl) ?_
              refine lv_iload hx hb dX4_settle_111 (lv_at hl 6 rfl) ?_
              refine xV_i (As := [.int y9, .int y6]) (rest := [.int r5]) hx hb hml hown hT hN hK (hP.sub (ws' := WT cs ad b M) [3, 4, 5, 6, 7, 8, 9, 10, 11, 12, 13, 14, 15, 16, 17, 18, 19, 20, 21] rfl) cw_X4_72 hm (fun z h => tcX3_ownCost l D cs ad b M y9 y6 z h) ⟨rfl, rfl⟩ ⟨by decide, by decide⟩ (b := (ad b)) 0 rfl rfl rfl hl.1 rfl rfl (Nat.le_of_ble_eq_true rfl) dX4_settle_113 ⟨Nat.zero_le _, Nat.zero_le _⟩ (fun r15 hm => ?_)
              refine lv_goto (tgt := 120) hx hb dX4_settle_116 (by decide) ?_
              refine lv_iadd hx hb dX4_settle_120 ?_
              refine xi_nm hm (fun x16 hm => ?_)
              refine lv_istore (lv' := [(11, .int x16), (10, .int r5), (0, .ref (ad 95)), (1, .ref (ad b)), (3, .int y3), (4, .int y4), (5, .int y5), (6, .int y6), (7, .int y7), (8, .int y8), (9, .int y9)]) hx hb dX4_settle_121 hl (by decide) rfl (fun ls hl => ?_)
              refine lv_iload hx hb dX4_settle_123 (lv_at hl 8 rfl) ?_
              refine lv_iconst (v := (-1 : Int32)) hx hb dX4_settle_125 (by decide) ?_
              refine x_icmp_eq (tgt := 136) hx hb dX4_settle_126 (by decide) hm (fun hm => ?_) (fun hm => ?_)
              · refine lv_iload hx hb dX4_settle_136 (lv_at hl 0 rfl) ?_
                refine lv_istore (lv' := [(7, .int x16), (11, .int x16), (10, .int r5), (0, .ref (ad 95)), (1, .ref (ad b)), (3, .int y3), (4, .int y4), (5, .int y5), (6, .int y6), (8, .int y8), (9, .int y9)]) hx hb dX4_settle_138 hl (by decide) rfl (fun ls hl => ?_)
                refine lv_iload hx hb dX4_settle_140 (lv_at hl 10 rfl) ?_
                refine lv_istore (lv' := [(8, .int y9), (7, .int x16), (11, .int x16), (10, .int r5), (0, .ref (ad 95)), (1, .ref (ad b)), (3, .int y3), (4, .int y4), (5, .int y5), (6, .int y6), (9, .int y9)]) hx hb dX4_settle_142 hl (by decide) rfl (fun ls hl => ?_)
                refine x_iinc (lv' := fun x17 => [(9, .int x17), (8, .int y9), (7, .int x16), (11, .int x16), (10, .int r5), (0, .ref (ad 95)), (1, .ref (ad b)), (3, .int y3), (4, .int y4), (5, .int y5), (6, .int y6)]) hx hb dX4_settle_144 hl (k := 10) rfl (by decide) (v0 := (nI 1)) (by decide) (fun _ => rfl) hm (fun x17 ls hm hl => ?_)
                refine lv_goto (tgt := 44) hx hb dX4_settle_147 (by decide) ?_
                exact ih y3 y4 y5 y6 x16 y9 x17 S hm H locs hP hD hS ls (lv_sub hl [5, 6, 7, 8, 9, 10, 2, 1, 0] rfl)
              · refine lv_iload hx hb dX4_settle_129 (lv_at hl 0 rfl) ?_
                refine lv_iload hx hb dX4_settle_131 (lv_at hl 8 rfl) ?_
                refine x_icmp_ge (tgt := 144) hx hb dX4_settle_133 (by decide) hm (fun hm => ?_) (fun hm => ?_)
                · refine x_iinc (lv' := fun x18 => [(9, .int x18), (11, .int x16), (10, .int r5), (0, .ref (ad 95)), (1, .ref (ad b)), (3, .int y3), (4, .int y4), (5, .int y5), (6, .int y6), (7, .int y7), (8, .int y8)]) hx hb dX4_settle_144 hl (k := 10) rfl (by decide) (v0 := (nI 1)) (by decide) (fun _ => rfl) hm (fun x18 ls hm hl => ?_)
                  refine lv_goto (tgt := 44) hx hb dX4_settle_147 (by decide) ?_
                  exact ih y3 y4 y5 y6 y7 y8 x18 S hm H locs hP hD hS ls (lv_sub hl [3, 4, 5, 6, 7, 8, 9, 10, 0] rfl)
                · refine lv_iload hx hb dX4_settle_136 (lv_at hl 0 rfl) ?_
                  refine lv_istore (lv' := [(7, .int x16), (11, .int x16), (10, .int r5), (0, .ref (ad 95)), (1, .ref (ad b)), (3, .int y3), (4, .int y4), (5, .int y5), (6, .int y6), (8, .int y8), (9, .int y9)]) hx hb dX4_settle_138 hl (by decide) rfl (fun ls hl => ?_)
                  refine lv_iload hx hb dX4_settle_140 (lv_at hl 10 rfl) ?_
                  refine lv_istore (lv' := [(8, .int y9), (7, .int x16), (11, .int x16), (10, .int r5), (0, .ref (ad 95)), (1, .ref (ad b)), (3, .int y3), (4, .int y4), (5, .int y5), (6, .int y6), (9, .int y9)]) hx hb dX4_settle_142 hl (by decide) rfl (fun ls hl => ?_)
                  refine x_iinc (lv' := fun x19 => [(9, .int x19), (8, .int y9), (7, .int x16), (11, .int x16), (10, .int r5), (0, .ref (ad 95)), (1, .ref (ad b)), (3, .int y3), (4, .int y4), (5, .int y5), (6, .int y6)]) hx hb dX4_settle_144 hl (k := 10) rfl (by decide) (v0 := (nI 1)) (by decide) (fun _ => rfl) hm (fun x19 ls hm hl => ?_)
                  refine lv_goto (tgt := 44) hx hb dX4_settle_147 (by decide) ?_
                  exact ih y3 y4 y5 y6 x16 y9 x19 S hm H locs hP hD hS ls (lv_sub hl [5, 6, 7, 8, 9, 10, 2, 1, 0] rfl)
set_option maxHeartbeats 4000000 in
set_option maxRecDepth 100000 in
theorem tcX4_settle (l : Launch) (D : va_G) (cs : CS) (ad : Nat → Nat) (b : Nat) (M : MT) (sz : Nat) (S : PA) (a2 : Int32) (a3 : Int32) (a4 : Int32) (z : PA) (hm : mX4_settle M S a2 a3 a4 = some z) : Met l yX4_settle (Cond.code yX4_settle cX4_settle 12 none :: gw_tbl) ({ frames := 4, cells := 0, slots := 0, locals := 88 }) (PcW D cs sz (WP cs ad b M S) [.ref (ad 95), .ref (ad b), .int a2, .int a3, .int a4]) (QWv D cs (va_A (WP cs ad b M S) sz) (fun u => WP cs ad b M u) z) 0 0 (va_A (WP cs ad b M S) sz) := by
  refine met_W rfl (Nat.le_of_ble_eq_true rfl) (fun p e s m below meth c E hP hD hS hA ls hl => ?_)
  generalize va_A (WP cs ad b M S) sz = A at hD hS hA ⊢
  obtain ⟨hx, hb, hr, hml, hown, hlk, hT, hN, hK⟩ := id E
  obtain ⟨H, hH⟩ : ∃ H, H = s.heap := ⟨_, rfl⟩
  obtain ⟨locs, hlo⟩ : ∃ L : List Loc, L = [] := ⟨_, rfl⟩
  have hP : va_P D classes (WP cs ad b M S) H := by rw [hH]; exact hP
  have hS : va_S A s.heap H locs := by rw [hH, hlo]; exact hS
  rw [show W p l e _ s m _ below meth c s.heap [] 0 0 = W p l e _ s m _ below meth c H locs 0 0 by rw [hH, hlo]]
  have hl : lv_has ls 12 [(0, .ref (ad 95)), (1, .ref (ad b)), (2, .int a2), (3, .int a3), (4, .int a4)] := hl
  unfold mX4_settle at hm
  refine lv_aload_n hx hb dX4_settle_0 rfl (lv_at hl 1 rfl) ?_
  refine lv_iload hx hb dX4_settle_1 (lv_at hl 4 rfl) ?_
  refine xV_i (As := [.int a4]) (rest := []) hx hb hml hown hT hN hK (hP.sub (ws' := WT cs ad b M) [3, 4, 5, 6, 7, 8, 9, 10, 11, 12, 13, 14, 15, 16, 17, 18, 19, 20, 21] rfl) cw_X4_36 hm (fun z h => tcX3_factsWith l D cs ad b M a4 z h) ⟨rfl, rfl⟩ ⟨by decide, by decide⟩ (b := (ad b)) 0 rfl rfl rfl hl.1 rfl rfl (Nat.le_of_ble_eq_true rfl) dX4_settle_3 ⟨Nat.zero_le _, Nat.zero_le _⟩ (fun r1 hm => ?_)
  refine lv_istore (lv' := [(5, .int r1), (0, .ref (ad 95)), (1, .ref (ad b)), (2, .int a2), (3, .int a3), (4, .int a4)]) hx hb dX4_settle_6 hl (by decide) rfl (fun ls hl => ?_)
  refine lv_aload_n hx hb dX4_settle_8 rfl (lv_at hl 2 rfl) ?_
  refine lv_iload_n hx hb dX4_settle_9 rfl (lv_at hl 3 rfl) ?_
  refine lv_iload hx hb dX4_settle_10 (lv_at hl 0 rfl) ?_
  refine xV_i (As := [.int a2, .int r1]) (rest := []) hx hb hml hown hT hN hK (hP.sub (ws' := WT cs ad b M) [3, 4, 5, 6, 7, 8, 9, 10, 11, 12, 13, 14, 15, 16, 17, 18, 19, 20, 21] rfl) cw_X4_65 hm (fun z h => tcX3_courtHears l D cs ad b M a2 r1 z h) ⟨rfl, rfl⟩ ⟨by decide, by decide⟩ (b := (ad b)) 0 rfl rfl rfl hl.1 rfl rfl (Nat.le_of_ble_eq_true rfl) dX4_settle_12 ⟨Nat.zero_le _, Nat.zero_le _⟩ (fun r2 hm => ?_)
  refine x_if_eq (tgt := 27) hx hb dX4_settle_15 (by decide) hm (fun hm => ?_) (fun hm => ?_)
  · refine lv_aload_n hx hb dX4_settle_27 rfl (lv_at hl 2 rfl) ?_
    refine lv_iload hx hb dX4_settle_28 (lv_at hl 5 rfl) ?_
    refine xS_i (As := [.ref (ad b), .int a4]) (rest := []) hx hb hml hown hT hN hK (hP.sub (ws' := WT cs ad b M) [3, 4, 5, 6, 7, 8, 9, 10, 11, 12, 13, 14, 15, 16, 17, 18, 19, 20, 21] rfl) cw_X4_44 hm (fun z h => tcX4_stepAt l D cs ad b M a4 z h) ⟨rfl, rfl⟩ ⟨by decide, by decide⟩ hl.1 rfl rfl (Nat.le_of_ble_eq_true rfl) dX4_settle_30 ⟨Nat.zero_le _, Nat.zero_le _⟩ (fun r3 hm => ?_)
    refine lv_istore (lv' := [(6, .int r3), (5, .int r1), (0, .ref (ad 95)), (1, .ref (ad b)), (2, .int a2), (3, .int a3), (4, .int a4)]) hx hb dX4_settle_33 hl (by decide) rfl (fun ls hl => ?_)
    refine lv_iconst (v := (-1 : Int32)) hx hb dX4_settle_35 (by decide) ?_
    refine lv_istore (lv' := [(7, .int (-1 : Int32)), (6, .int r3), (5, .int r1), (0, .ref (ad 95)), (1, .ref (ad b)), (2, .int a2), (3, .int a3), (4, .int a4)]) hx hb dX4_settle_36 hl (by decide) rfl (fun ls hl => ?_)
    refine lv_iconst (v := (-1 : Int32)) hx hb dX4_settle_38 (by decide) ?_
    refine lv_istore (lv' := [(8, .int (-1 : Int32)), (7, .int (-1 : Int32)), (6, .int r3), (5, .int r1), (0, .ref (ad 95)), (1, .ref (ad b)), (2, .int a2), (3, .int a3), (4, .int a4)]) hx hb dX4_settle_39 hl (by decide) rfl (fun ls hl => ?_)
    refine lv_iconst (v := (nI 0)) hx hb dX4_settle_41 (by decide) ?_
    refine lv_istore (lv' := [(9, .int (nI 0)), (8, .int (-1 : Int32)), (7, .int (-1 : Int32)), (6, .int r3), (5, .int r1), (0, .ref (ad 95)), (1, .ref (ad b)), (2, .int a2), (3, .int a3), (4, .int a4)]) hx hb dX4_settle_42 hl (by decide) rfl (fun ls hl => ?_)
    exact kX4_settle_L44 E hA _ FU a3 a4 r1 r3 (-1 : Int32) (-1 : Int32) (nI 0) S hm H locs hP hD hS ls (lv_sub hl [5, 6, 8, 9, 4, 3, 2, 1, 0] rfl)
  · refine lv_aload_n hx hb dX4_settle_18 rfl (lv_at hl 1 rfl) ?_
    refine lv_iload hx hb dX4_settle_19 (lv_at hl 5 rfl) ?_
    refine lv_iconst (v := (nI 0)) hx hb dX4_settle_21 (by decide) ?_
    refine lv_iconst (v := (-1 : Int32)) hx hb dX4_settle_22 (by decide) ?_
    refine xVW_v (As := [.int a4, .int (nI 0), .int (-1 : Int32)]) (rest := []) (wr := []) (wg := (fun u => WP cs ad b M u)) hx hb hml hown hT hN hK hP hD hS hA cw_X4_68 hm (fun z h => tcX4_keep l D cs ad b M H.size S a4 (nI 0) (-1 : Int32) z h) ⟨rfl, rfl⟩ ⟨by decide, by decide⟩ [0, 1, 2, 3, 4, 5, 6, 7, 8, 9, 10, 11, 12, 13, 14, 15, 16, 17, 18, 19, 20, 21] [] [0, 1, 2, 3, 4, 5, 6, 7, 8, 9, 10, 11, 12, 13, 14, 15, 16, 17, 18, 19, 20, 21] rfl (by decide) rfl (by decide) (by decide) (fun _ => rfl) (by decide) (b := (ad 95)) 0 rfl rfl rfl hl.1 rfl rfl (Nat.le_of_ble_eq_true rfl) dX4_settle_23 ⟨Nat.zero_le _, Nat.zero_le _⟩ (fun S20 H locs hm hP hD hS => ?_)
    exact x_vretW (wf := (fun u => WP cs ad b M u)) hx hb hr hlk hK hP hD hS hm dX4_settle_26
noncomputable def mX4_measure_L12 (M : MT) : Nat → Int32 → Int32 → Int32 → Int32 → PA → Option (Int32 × PA) := fun n => Nat.rec (motive := fun _ => Int32 → Int32 → Int32 → Int32 → PA → Option (Int32 × PA)) (fun _ _ _ _ _ => none) (fun _ rc => fun y2 y3 y4 y5 S => (if y5 < y4 then (mX4_at 64 S.1 y4).bind fun r2 => some (r2, S) else (if (y5 &&& y4) = y4 then (mX4_settle M S y2 y3 y5).bind fun S4 => nm (y5 + (-1 : Int32)) fun x5 => rc y2 y3 y4 x5 S4 else nm (y5 + (-1 : Int32)) fun x3 => rc y2 y3 y4 x3 S))) n
theorem mX4_measure_L12_s (M : MT) (n : Nat) (y2 : Int32) (y3 : Int32) (y4 : Int32) (y5 : Int32) (S : PA) : mX4_measure_L12 M (n + 1) y2 y3 y4 y5 S = (if y5 < y4 then (mX4_at 64 S.1 y4).bind fun r2 => some (r2, S) else (if (y5 &&& y4) = y4 then (mX4_settle M S y2 y3 y5).bind fun S4 => nm (y5 + (-1 : Int32)) fun x5 => (mX4_measure_L12 M n) y2 y3 y4 x5 S4 else nm (y5 + (-1 : Int32)) fun x3 => (mX4_measure_L12 M n) y2 y3 y4 x3 S)) := rfl
noncomputable def mX4_measure (M : MT) (S : PA) (a2 : Int32) (a3 : Int32) : Option (Int32 × PA) := (mX4_allFictions M).bind fun r1 => mX4_measure_L12 M FU a2 a3 (M.2 8) r1 S
set_option maxHeartbeats 4000000 in
set_option maxRecDepth 100000 in
theorem kX4_measure_L12 {p : Program} {l : Launch} {e : Env} {s : State} {m : MethodId} {below : List Frame} {meth : Method} {c : Code} {D : va_G} {cs : CS} {A : Nat → Prop}  {ad : Nat → Nat} {b : Nat} {M : MT} {a2 : Int32} {a3 : Int32} (E : EV p s m [.ref (ad 95), .ref (ad b), .int a2, .int a3].toArray meth c cX4_measure 6 RX4 (some .int) D cs) (hA : ∀ q : Nat, s.heap.size ≤ q → A q) (z : Int32 × PA) : ∀ (n : Nat) (y2 : Int32) (y3 : Int32) (y4 : Int32) (y5 : Int32) (S : PA), mX4_measure_L12 M n y2 y3 y4 y5 S = some z → ∀ (H : Heap) (locs : List Loc), va_P D classes (WP cs ad b M S) H → va_D A (WP cs ad b M S) → va_S A s.heap H locs → ∀ ls : Array Slot, lv_has ls 6 [(0, .ref (ad 95)), (1, .ref (ad b)), (2, .int y2), (3, .int y3), (4, .int y4), (5, .int y5)] → W p l e ({ frames := 5, cells := 0, slots := 0, locals := 119 }) s m [.ref (ad 95), .ref (ad b), .int a2, .int a3].toArray below meth c H locs 0 0 (MQ below (QWi D cs A (fun u => WP cs ad b M u) z) [.ref (ad 95), .ref (ad b), .int a2, .int a3].toArray s 0 0 A) (F0 m 12 ls []) := by
  obtain ⟨hx, hb, hr, hml, hown, hlk, hT, hN, hK⟩ := id E
  intro n
  induction n with
  | zero =>
    intro y2 y3 y4 y5 S hm
    exact nomatch (show (none : Option (Int32 × PA)) = some z from hm)
  | succ n ih =>
    intro y2 y3 y4 y5 S hm H locs hP hD hS ls hl
    rw [mX4_measure_L12_s] at hm
    refine lv_iload hx hb dX4_measure_12 (lv_at hl 5 rfl) ?_
    refine lv_iload hx hb dX4_measure_14 (lv_at hl 4 rfl) ?_
    refine x_icmp_lt (tgt := 44) hx hb dX4_measure_16 (by decide) hm (fun hm => ?_) (fun hm => ?_)
    · refine lv_aload_n hx hb dX4_measure_44 rfl (lv_at hl 0 rfl) ?_
      refine gf_X4_9 (v := .ref (ad 96)) hx hb hT hown hK hP 0 rfl rfl dX4_measure_45 ?_
      refine lv_iload hx hb dX4_measure_48 (lv_at hl 4 rfl) ?_
      refine xS_i (As := [.ref (ad 96), .int y4]) (rest := []) hx hb hml hown hT hN hK (hP.sub (ws' := [((ad 96), .inl (cs 0, 64, .inl (S.1)))]) [1] rfl) cw_X4_32 hm (fun z h => tcX4_at l D cs (ad 96) 64 S.1 y4 z h) ⟨rfl, rfl⟩ ⟨by decide, by decide⟩ hl.1 rfl rfl (Nat.le_of_ble_eq_true rfl) dX4_measure_50 ⟨Nat.zero_le _, Nat.zero_le _⟩ (fun r2 hm => ?_)
      exact x_iretW (wf := (fun u => WP cs ad b M u)) hx hb hr hlk hK hP hD hS hm dX4_measure_53
    · refine lv_iload hx hb dX4_measure_19 (lv_at hl 5 rfl) ?_
      refine lv_iload hx hb dX4_measure_21 (lv_at hl 4 rfl) ?_
      refine lv_iand hx hb dX4_measure_23 ?_
      refine lv_iload hx hb dX4_measure_24 (lv_at hl 4 rfl) ?_
      refine x_icmp_ne (tgt := 38) hx hb dX4_measure_26 (by decide) hm (fun hm => ?_) (fun hm => ?_)
      · refine x_iinc (lv' := fun x3 => [(5, .int x3), (0, .ref (ad 95)), (1, .ref (ad b)), (2, .int y2), (3, .int y3), (4, .int y4)]) hx hb dX4_measure_38 hl (k := 5) rfl (by decide) (v0 := (-1 : Int32)) (by decide) (fun _ => rfl) hm (fun x3 ls hm hl => ?_)
        refine lv_goto (tgt := 12) hx hb dX4_measure_41 (by decide) ?_
        exact ih y2 y3 y4 x3 S hm H locs hP hD hS ls (lv_sub hl [1, 2, 3, 4, 5, 0] rfl)
      · refine lv_aload_n hx hb dX4_measure_29 rfl (lv_at hl 0 rfl) ?_
        refine lv_aload_n hx hb dX4_measure_30 rfl (lv_at hl 1 rfl) ?_
        refine lv_iload_n hx hb dX4_measure_31 rfl (lv_at hl 2 rfl) ?_
        refine lv_iload_n hx hb dX4_measure_32 rfl (lv_at hl 3 rfl) ?_
        refine lv_iload hx hb dX4_measure_33 (lv_at hl 5 rfl) ?_
        refine xVW_v (As := [.ref (ad b), .int y2, .int y3, .int y5]) (rest := []) (wr := []) (wg := (fun u => WP cs ad b M u)) hx hb hml hown hT hN hK hP hD hS hA cw_X4_28 hm (fun z h => tcX4_settle l D cs ad b M H.size S y2 y3 y5 z h) ⟨rfl, rfl⟩ ⟨by decide, by decide⟩ [0, 1, 2, 3, 4, 5, 6, 7, 8, 9, 10, 11, 12, 13, 14, 15, 16, 17, 18, 19, 20, 21] [] [0, 1, 2, 3, 4, 5, 6, 7, 8, 9, 10, 11, 12, 13, 14, 15, 16, 17, 18, 19, 20, 21] rfl (by decide) rfl (by decide) (by decide) (fun _ => rfl) (by decide) (b := (ad 95)) 0 rfl rfl rfl hl.1 rfl rfl (Nat.le_of_ble_eq_true rfl) dX4_measure_35 ⟨Nat.zero_le _, Nat.zero_le _⟩ (fun S4 H locs hm hP hD hS => ?_)
        refine x_iinc (lv' := fun x5 => [(5, .int x5), (0, .ref (ad 95)), (1, .ref (ad b)), (2, .int y2), (3, .int y3), (4, .int y4)]) hx hb dX4_measure_38 hl (k := 5) rfl (by decide) (v0 := (-1 : Int32)) (by decide) (fun _ => rfl) hm (fun x5 ls hm hl => ?_)
        refine lv_goto (tgt := 12) hx hb dX4_measure_41 (by decide) ?_
        exact ih y2 y3 y4 x5 S4 hm H locs hP hD hS ls (lv_sub hl [1, 2, 3, 4, 5, 0] rfl)
set_option maxHeartbeats 4000000 in
set_option maxRecDepth 100000 in
theorem tcX4_measure (l : Launch) (D : va_G) (cs : CS) (ad : Nat → Nat) (b : Nat) (M : MT) (sz : Nat) (S : PA) (a2 : Int32) (a3 : Int32) (z : Int32 × PA) (hm : mX4_measure M S a2 a3 = some z) : Met l yX4_measure (Cond.code yX4_measure cX4_measure 6 (some .int) :: gw_tbl) ({ frames := 5, cells := 0, slots := 0, locals := 119 }) (PcW D cs sz (WP cs ad b M S) [.ref (ad 95), .ref (ad b), .int a2, .int a3]) (QWi D cs (va_A (WP cs ad b M S) sz) (fun u => WP cs ad b M u) z) 0 0 (va_A (WP cs ad b M S) sz) := by
  refine met_W rfl (Nat.le_of_ble_eq_true rfl) (fun p e s m below meth c E hP hD hS hA ls hl => ?_)
  generalize va_A (WP cs ad b M S) sz = A at hD hS hA ⊢
  obtain ⟨hx, hb, hr, hml, hown, hlk, hT, hN, hK⟩ := id E
  obtain ⟨H, hH⟩ : ∃ H, H = s.heap := ⟨_, rfl⟩
  obtain ⟨locs, hlo⟩ : ∃ L : List Loc, L = [] := ⟨_, rfl⟩
  have hP : va_P D classes (WP cs ad b M S) H := by rw [hH]; exact hP
  have hS : va_S A s.heap H locs := by rw [hH, hlo]; exact hS
  rw [show W p l e _ s m _ below meth c s.heap [] 0 0 = W p l e _ s m _ below meth c H locs 0 0 by rw [hH, hlo]]
  have hl : lv_has ls 6 [(0, .ref (ad 95)), (1, .ref (ad b)), (2, .int a2), (3, .int a3)] := hl
  unfold mX4_measure at hm
  refine lv_aload_n hx hb dX4_measure_0 rfl (lv_at hl 1 rfl) ?_
  refine gf_X4_18 (v := .int (M.2 8)) hx hb hT hown hK hP 3 rfl rfl dX4_measure_1 ?_
  refine lv_istore (lv' := [(4, .int (M.2 8)), (0, .ref (ad 95)), (1, .ref (ad b)), (2, .int a2), (3, .int a3)]) hx hb dX4_measure_4 hl (by decide) rfl (fun ls hl => ?_)
  refine lv_aload_n hx hb dX4_measure_6 rfl (lv_at hl 2 rfl) ?_
  refine xS_i (As := [.ref (ad b)]) (rest := []) hx hb hml hown hT hN hK (hP.sub (ws' := WT cs ad b M) [3, 4, 5, 6, 7, 8, 9, 10, 11, 12, 13, 14, 15, 16, 17, 18, 19, 20, 21] rfl) cw_X4_24 hm (fun z h => tcX4_allFictions l D cs ad b M z h) ⟨rfl, rfl⟩ ⟨by decide, by decide⟩ hl.1 rfl rfl (Nat.le_of_ble_eq_true rfl) dX4_measure_7 ⟨Nat.zero_le _, Nat.zero_le _⟩ (fun r1 hm => ?_)
  refine lv_istore (lv' := [(5, .int r1), (4, .int (M.2 8)), (0, .ref (ad 95)), (1, .ref (ad b)), (2, .int a2), (3, .int a3)]) hx hb dX4_measure_10 hl (by decide) rfl (fun ls hl => ?_)
  exact kX4_measure_L12 E hA _ FU a2 a3 (M.2 8) r1 S hm H locs hP hD hS ls (lv_sub hl [2, 3, 4, 5, 1, 0] rfl)
noncomputable def mX4_fictionAt_L8 (M : MT) (S : PA) : Nat → Int32 → Int32 → Int32 → Option Int32 := fun n => Nat.rec (motive := fun _ => Int32 → Int32 → Int32 → Option Int32) (fun _ _ _ => none) (fun _ rc => fun y2 y3 y4 => (if (nI 6) ≤ y4 then some (-5 : Int32) else (mX4_at 64 S.2 y3).bind fun r1 => (if r1 = (-1 : Int32) then some (-5 : Int32) else (if y4 = y2 then some r1 else nm (y3 ||| ((nI 1) <<< (r1 &&& 31))) fun x2 => nm (y4 + (nI 1)) fun x3 => rc y2 x2 x3)))) n
theorem mX4_fictionAt_L8_s (M : MT) (S : PA) (n : Nat) (y2 : Int32) (y3 : Int32) (y4 : Int32) : mX4_fictionAt_L8 M S (n + 1) y2 y3 y4 = (if (nI 6) ≤ y4 then some (-5 : Int32) else (mX4_at 64 S.2 y3).bind fun r1 => (if r1 = (-1 : Int32) then some (-5 : Int32) else (if y4 = y2 then some r1 else nm (y3 ||| ((nI 1) <<< (r1 &&& 31))) fun x2 => nm (y4 + (nI 1)) fun x3 => (mX4_fictionAt_L8 M S n) y2 x2 x3))) := rfl
noncomputable def mX4_fictionAt (M : MT) (S : PA) (a2 : Int32) : Option Int32 := mX4_fictionAt_L8 M S FU a2 (M.2 8) (nI 0)
set_option maxHeartbeats 4000000 in
set_option maxRecDepth 100000 in
theorem kX4_fictionAt_L8 {p : Program} {l : Launch} {e : Env} {s : State} {m : MethodId} {below : List Frame} {meth : Method} {c : Code} {D : va_G} {cs : CS}  {ad : Nat → Nat} {b : Nat} {M : MT} {S : PA} {a2 : Int32} (E : EV p s m [.ref (ad 95), .ref (ad b), .int a2].toArray meth c cX4_fictionAt 6 RX4 (some .int) D cs) (hP : va_P D classes (WP cs ad b M S) s.heap) (z : Int32) : ∀ (n : Nat) (y2 : Int32) (y3 : Int32) (y4 : Int32), mX4_fictionAt_L8 M S n y2 y3 y4 = some z → ∀ ls : Array Slot, lv_has ls 6 [(0, .ref (ad 95)), (2, .int y2), (3, .int y3), (4, .int y4)] → W p l e ({ frames := 1, cells := 0, slots := 0, locals := 21 }) s m [.ref (ad 95), .ref (ad b), .int a2].toArray below meth c s.heap [] 0 0 (MQ below (QRi z) [.ref (ad 95), .ref (ad b), .int a2].toArray s 0 0 NoF) (F0 m 8 ls []) := by
  obtain ⟨hx, hb, hr, hml, hown, hlk, hT, hN, hK⟩ := id E
  intro n
  induction n with
  | zero =>
    intro y2 y3 y4 hm
    exact nomatch (show (none : Option Int32) = some z from hm)
  | succ n ih =>
    intro y2 y3 y4 hm ls hl
    rw [mX4_fictionAt_L8_s] at hm
    refine lv_iload hx hb dX4_fictionAt_8 (lv_at hl 3 rfl) ?_
    refine lv_bipush (v := (nI 6)) hx hb dX4_fictionAt_10 (by decide) ?_
    refine x_icmp_ge (tgt := 56) hx hb dX4_fictionAt_12 (by decide) hm (fun hm => ?_) (fun hm => ?_)
    · refine lv_bipush (v := (-5 : Int32)) hx hb dX4_fictionAt_56 (by decide) ?_
      exact x_iretR hx hb hr hlk hm dX4_fictionAt_58
    · refine lv_aload_n hx hb dX4_fictionAt_15 rfl (lv_at hl 0 rfl) ?_
      refine gf_X4_15 (v := .ref (ad 97)) hx hb hT hown hK hP 0 rfl rfl dX4_fictionAt_16 ?_
      refine lv_iload_n hx hb dX4_fictionAt_19 rfl (lv_at hl 2 rfl) ?_
      refine xS_i (As := [.ref (ad 97), .int y3]) (rest := []) hx hb hml hown hT hN hK (hP.sub (ws' := [((ad 97), .inl (cs 0, 64, .inl (S.2)))]) [2] rfl) cw_X4_32 hm (fun z h => tcX4_at l D cs (ad 97) 64 S.2 y3 z h) ⟨rfl, rfl⟩ ⟨by decide, by decide⟩ hl.1 rfl rfl (Nat.le_of_ble_eq_true rfl) dX4_fictionAt_20 ⟨Nat.zero_le _, Nat.zero_le _⟩ (fun r1 hm => ?_)
      refine lv_istore (lv' := [(5, .int r1), (0, .ref (ad 95)), (2, .int y2), (3, .int y3), (4, .int y4)]) hx hb dX4_fictionAt_23 hl (by decide) rfl (fun ls hl => ?_)
      refine lv_iload hx hb dX4_fictionAt_25 (lv_at hl 0 rfl) ?_
      refine lv_iconst (v := (-1 : Int32)) hx hb dX4_fictionAt_27 (by decide) ?_
      refine x_icmp_ne (tgt := 34) hx hb dX4_fictionAt_28 (by decide) hm (fun hm => ?_) (fun hm => ?_)
      · refine lv_iload hx hb dX4_fictionAt_34 (lv_at hl 4 rfl) ?_
        refine lv_iload_n hx hb dX4_fictionAt_36 rfl (lv_at hl 2 rfl) ?_
        refine x_icmp_ne (tgt := 43) hx hb dX4_fictionAt_37 (by decide) hm (fun hm => ?_) (fun hm => ?_)
        · refine lv_iload_n hx hb dX4_fictionAt_43 rfl (lv_at hl 3 rfl) ?_
          refine lv_iconst (v := (nI 1)) hx hb dX4_fictionAt_44 (by decide) ?_
          refine lv_iload hx hb dX4_fictionAt_45 (lv_at hl 0 rfl) ?_
          refine lv_ishl hx hb dX4_fictionAt_47 ?_
          refine lv_ior hx hb dX4_fictionAt_48 ?_
          refine xi_nm hm (fun x2 hm => ?_)
          refine lv_istore_n (lv' := [(3, .int x2), (5, .int r1), (0, .ref (ad 95)), (2, .int y2), (4, .int y4)]) hx hb dX4_fictionAt_49 rfl hl (by decide) rfl (fun ls hl => ?_)
          refine x_iinc (lv' := fun x3 => [(4, .int x3), (3, .int x2), (5, .int r1), (0, .ref (ad 95)), (2, .int y2)]) hx hb dX4_fictionAt_50 hl (k := 4) rfl (by decide) (v0 := (nI 1)) (by decide) (fun _ => rfl) hm (fun x3 ls hm hl => ?_)
          refine lv_goto (tgt := 8) hx hb dX4_fictionAt_53 (by decide) ?_
          exact ih y2 x2 x3 hm ls (lv_sub hl [3, 4, 1, 0] rfl)
        · refine lv_iload hx hb dX4_fictionAt_40 (lv_at hl 0 rfl) ?_
          exact x_iretR hx hb hr hlk hm dX4_fictionAt_42
      · refine lv_bipush (v := (-5 : Int32)) hx hb dX4_fictionAt_31 (by decide) ?_
        exact x_iretR hx hb hr hlk hm dX4_fictionAt_33
set_option maxHeartbeats 4000000 in
set_option maxRecDepth 100000 in
theorem tcX4_fictionAt (l : Launch) (D : va_G) (cs : CS) (ad : Nat → Nat) (b : Nat) (M : MT) (S : PA) (a2 : Int32) (z : Int32) (hm : mX4_fictionAt M S a2 = some z) : Met l yX4_fictionAt (Cond.code yX4_fictionAt cX4_fictionAt 6 (some .int) :: gw_tbl) ({ frames := 1, cells := 0, slots := 0, locals := 21 }) (PcR D cs (WP cs ad b M S) [.ref (ad 95), .ref (ad b), .int a2]) (QRi z) 0 0 NoF := by
  refine met_R rfl (Nat.le_of_ble_eq_true rfl) (fun p e s m below meth c E hP ls hl => ?_)
  obtain ⟨hx, hb, hr, hml, hown, hlk, hT, hN, hK⟩ := id E
  have hl : lv_has ls 6 [(0, .ref (ad 95)), (1, .ref (ad b)), (2, .int a2)] := hl
  unfold mX4_fictionAt at hm
  refine lv_aload_n hx hb dX4_fictionAt_0 rfl (lv_at hl 1 rfl) ?_
  refine gf_X4_18 (v := .int (M.2 8)) hx hb hT hown hK hP 3 rfl rfl dX4_fictionAt_1 ?_
  refine lv_istore_n (lv' := [(3, .int (M.2 8)), (0, .ref (ad 95)), (1, .ref (ad b)), (2, .int a2)]) hx hb dX4_fictionAt_4 rfl hl (by decide) rfl (fun ls hl => ?_)
  refine lv_iconst (v := (nI 0)) hx hb dX4_fictionAt_5 (by decide) ?_
  refine lv_istore (lv' := [(4, .int (nI 0)), (3, .int (M.2 8)), (0, .ref (ad 95)), (1, .ref (ad b)), (2, .int a2)]) hx hb dX4_fictionAt_6 hl (by decide) rfl (fun ls hl => ?_)
  exact kX4_fictionAt_L8 E hP _ FU a2 (M.2 8) (nI 0) hm ls (lv_sub hl [2, 4, 1, 0] rfl)
noncomputable def mX4_reachable_L15 (M : MT) (S : PA) : Nat → Int64 → Int32 → Int32 → Option Int32 := fun n => Nat.rec (motive := fun _ => Int64 → Int32 → Int32 → Option Int32) (fun _ _ _ => none) (fun _ rc => fun y3 y5 y6 => (mX4_allFictions M).bind fun r2 => (if r2 < y6 then some y5 else (if ((y3 >>> (y6.toInt64 &&& 63)) &&& (lN 1)) = (lN 1) then (mX3_factsWith M y6).bind fun r4 => nm (y5 ||| r4) fun x5 => (mX4_setsBehind M S y6 r4).bind fun r6 => nm (y3 ||| r6) fun x7 => nm (y6 + (nI 1)) fun x8 => rc x7 x5 x8 else nm (y6 + (nI 1)) fun x3 => rc y3 y5 x3))) n
theorem mX4_reachable_L15_s (M : MT) (S : PA) (n : Nat) (y3 : Int64) (y5 : Int32) (y6 : Int32) : mX4_reachable_L15 M S (n + 1) y3 y5 y6 = (mX4_allFictions M).bind fun r2 => (if r2 < y6 then some y5 else (if ((y3 >>> (y6.toInt64 &&& 63)) &&& (lN 1)) = (lN 1) then (mX3_factsWith M y6).bind fun r4 => nm (y5 ||| r4) fun x5 => (mX4_setsBehind M S y6 r4).bind fun r6 => nm (y3 ||| r6) fun x7 => nm (y6 + (nI 1)) fun x8 => (mX4_reachable_L15 M S n) x7 x5 x8 else nm (y6 + (nI 1)) fun x3 => (mX4_reachable_L15 M S n) y3 y5 x3)) := rfl
noncomputable def mX4_reachable (M : MT) (S : PA) : Option Int32 := nm ((lN 1) <<< ((M.2 8).toInt64 &&& 63)) fun x1 => mX4_reachable_L15 M S FU x1 (nI 0) (M.2 8)
set_option maxHeartbeats 4000000 in
set_option maxRecDepth 100000 in
theorem kX4_reachable_L15 {p : Program} {l : Launch} {e : Env} {s : State} {m : MethodId} {below : List Frame} {meth : Method} {c : Code} {D : va_G} {cs : CS}  {ad : Nat → Nat} {b : Nat} {M : MT} {S : PA}  (E : EV p s m [.ref (ad 95), .ref (ad b)].toArray meth c cX4_reachable 8 RX4 (some .int) D cs) (hP : va_P D classes (WP cs ad b M S) s.heap) (z : Int32) : ∀ (n : Nat) (y3 : Int64) (y5 : Int32) (y6 : Int32), mX4_reachable_L15 M S n y3 y5 y6 = some z → ∀ ls : Array Slot, lv_has ls 8 [(0, .ref (ad 95)), (1, .ref (ad b)), (3, .long y3), (5, .int y5), (6, .int y6)] → W p l e ({ frames := 4, cells := 0, slots := 0, locals := 99 }) s m [.ref (ad 95), .ref (ad b)].toArray below meth c s.heap [] 0 0 (MQ below (QRi z) [.ref (ad 95), .ref (ad b)].toArray s 0 0 NoF) (F0 m 15 ls []) := by
  obtain ⟨hx, hb, hr, hml, hown, hlk, hT, hN, hK⟩ := id E
  intro n
  induction n with
  | zero =>
    intro y3 y5 y6 hm
    exact nomatch (show (none : Option Int32) = some z from hm)
  | succ n ih =>
    intro y3 y5 y6 hm ls hl
    rw [mX4_reachable_L15_s] at hm
    refine lv_iload hx hb dX4_reachable_15 (lv_at hl 4 rfl) ?_
    refine lv_aload_n hx hb dX4_reachable_17 rfl (lv_at hl 1 rfl) ?_
    refine xS_i (As := [.ref (ad b)]) (rest := [.int y6]) hx hb hml hown hT hN hK (hP.sub (ws' := WT cs ad b M) [3, 4, 5, 6, 7, 8, 9, 10, 11, 12, 13, 14, 15, 16, 17, 18, 19, 20, 21] rfl) cw_X4_24 hm (fun z h => tcX4_allFictions l D cs ad b M z h) ⟨rfl, rfl⟩ ⟨by decide, by decide⟩ hl.1 rfl rfl (Nat.le_of_ble_eq_true rfl) dX4_reachable_18 ⟨Nat.zero_le _, Nat.zero_le _⟩ (fun r2 hm => ?_)
    refine x_icmp_gt (tgt := 68) hx hb dX4_reachable_21 (by decide) hm (fun hm => ?_) (fun hm => ?_)
    · refine lv_iload hx hb dX4_reachable_68 (lv_at hl 3 rfl) ?_
      exact x_iretR hx hb hr hlk hm dX4_reachable_70
    · refine lv_lload_n hx hb dX4_reachable_24 rfl (lv_at hl 2 rfl) ?_
      refine lv_iload hx hb dX4_reachable_25 (lv_at hl 4 rfl) ?_
      refine lv_lshr hx hb dX4_reachable_27 rfl ?_
      refine lv_lconst (v := (lN 1)) hx hb dX4_reachable_28 (by decide) ?_
      refine lv_land hx hb dX4_reachable_29 ?_
      refine lv_lconst (v := (lN 1)) hx hb dX4_reachable_30 (by decide) ?_
      refine x_lcmp_ne (tgt := 62) hx hb dX4_reachable_31 dX4_reachable_32 (by decide) hm (fun hm => ?_) (fun hm => ?_)
      · refine x_iinc (lv' := fun x3 => [(6, .int x3), (0, .ref (ad 95)), (1, .ref (ad b)), (3, .long y3), (5, .int y5)]) hx hb dX4_reachable_62 hl (k := 4) rfl (by decide) (v0 := (nI 1)) (by decide) (fun _ => rfl) hm (fun x3 ls hm hl => ?_)
        refine lv_goto (tgt := 15) hx hb dX4_reachable_65 (by decide) ?_
        exact ih y3 y5 x3 hm ls (lv_sub hl [1, 2, 3, 4, 0] rfl)
      · refine lv_aload_n hx hb dX4_reachable_35 rfl (lv_at hl 1 rfl) ?_
        refine lv_iload hx hb dX4_reachable_36 (lv_at hl 4 rfl) ?_
        refine xV_i (As := [.int y6]) (rest := []) hx hb hml hown hT hN hK (hP.sub (ws' := WT cs ad b M) [3, 4, 5, 6, 7, 8, 9, 10, 11, 12, 13, 14, 15, 16, 17, 18, 19, 20, 21] rfl) cw_X4_36 hm (fun z h => tcX3_factsWith l D cs ad b M y6 z h) ⟨rfl, rfl⟩ ⟨by decide, by decide⟩ (b := (ad b)) 0 rfl rfl rfl hl.1 rfl rfl (Nat.le_of_ble_eq_true rfl) dX4_reachable_38 ⟨Nat.zero_le _, Nat.zero_le _⟩ (fun r4 hm => ?_)
        refine lv_istore (lv' := [(7, .int r4), (0, .ref (ad 95)), (1, .ref (ad b)), (3, .long y3), (5, .int y5), (6, .int y6)]) hx hb dX4_reachable_41 hl (by decide) rfl (fun ls hl => ?_)
        refine lv_iload hx hb dX4_reachable_43 (lv_at hl 4 rfl) ?_
        refine lv_iload hx hb dX4_reachable_45 (lv_at hl 0 rfl) ?_
        refine lv_ior hx hb dX4_reachable_47 ?_
        refine xi_nm hm (fun x5 hm => ?_)
        refine lv_istore (lv' := [(5, .int x5), (7, .int r4), (0, .ref (ad 95)), (1, .ref (ad b)), (3, .long y3), (6, .int y6)]) hx hb dX4_reachable_48 hl (by decide) rfl (fun ls hl => ?_)
        refine lv_lload_n hx hb dX4_reachable_50 rfl (lv_at hl 4 rfl) ?_
        refine lv_aload_n hx hb dX4_reachable_51 rfl (lv_at hl 2 rfl) ?_
        refine lv_aload_n hx hb dX4_reachable_52 rfl (lv_at hl 3 rfl) ?_
        refine lv_iload hx hb dX4_reachable_53 (lv_at hl 5 rfl) ?_
        refine lv_iload hx hb dX4_reachable_55 (lv_at hl 1 rfl) ?_
        refine xV_l (As := [.ref (ad b), .int y6, .int r4]) (rest := [.long y3]) hx hb hml hown hT hN hK hP cw_X4_40 hm (fun z h => tcX4_setsBehind l D cs ad b M S y6 r4 z h) ⟨rfl, rfl⟩ ⟨by decide, by decide⟩ (b := (ad 95)) 0 rfl rfl rfl hl.1 rfl rfl (Nat.le_of_ble_eq_true rfl) dX4_reachable_57 ⟨Nat.zero_le _, Nat.zero_le _⟩ (fun r6 hm => ?_)
        refine lv_lor hx hb dX4_reachable_60 ?_
        refine xl_nm hm (fun x7 hm => ?_)
        refine lv_lstore_n (lv' := [(3, .long x7), (5, .int x5), (7, .int r4), (0, .ref (ad 95)), (1, .ref (ad b)), (6, .int y6)]) hx hb dX4_reachable_61 rfl hl (by decide) rfl (fun ls hl => ?_)
        refine x_iinc (lv' := fun x8 => [(6, .int x8), (3, .long x7), (5, .int x5), (7, .int r4), (0, .ref (ad 95)), (1, .ref (ad b))]) hx hb dX4_reachable_62 hl (k := 5) rfl (by decide) (v0 := (nI 1)) (by decide) (fun _ => rfl) hm (fun x8 ls hm hl => ?_)
        refine lv_goto (tgt := 15) hx hb dX4_reachable_65 (by decide) ?_
        exact ih x7 x5 x8 hm ls (lv_sub hl [4, 5, 1, 2, 0] rfl)
set_option maxHeartbeats 4000000 in
set_option maxRecDepth 100000 in
theorem tcX4_reachable (l : Launch) (D : va_G) (cs : CS) (ad : Nat → Nat) (b : Nat) (M : MT) (S : PA) (z : Int32) (hm : mX4_reachable M S = some z) : Met l yX4_reachable (Cond.code yX4_reachable cX4_reachable 8 (some .int) :: gw_tbl) ({ frames := 4, cells := 0, slots := 0, locals := 99 }) (PcR D cs (WP cs ad b M S) [.ref (ad 95), .ref (ad b)]) (QRi z) 0 0 NoF := by
  refine met_R rfl (Nat.le_of_ble_eq_true rfl) (fun p e s m below meth c E hP ls hl => ?_)
  obtain ⟨hx, hb, hr, hml, hown, hlk, hT, hN, hK⟩ := id E
  have hl : lv_has ls 8 [(0, .ref (ad 95)), (1, .ref (ad b))] := hl
  unfold mX4_reachable at hm
  refine lv_aload_n hx hb dX4_reachable_0 rfl (lv_at hl 1 rfl) ?_
  refine gf_X4_18 (v := .int (M.2 8)) hx hb hT hown hK hP 3 rfl rfl dX4_reachable_1 ?_
  refine lv_istore_n (lv' := [(2, .int (M.2 8)), (0, .ref (ad 95)), (1, .ref (ad b))]) hx hb dX4_reachable_4 rfl hl (by decide) rfl (fun ls hl => ?_)
  refine lv_lconst (v := (lN 1)) hx hb dX4_reachable_5 (by decide) ?_
  refine lv_iload_n hx hb dX4_reachable_6 rfl (lv_at hl 0 rfl) ?_
  refine lv_lshl hx hb dX4_reachable_7 rfl ?_
  refine xl_nm hm (fun x1 hm => ?_)
  refine lv_lstore_n (lv' := [(3, .long x1), (2, .int (M.2 8)), (0, .ref (ad 95)), (1, .ref (ad b))]) hx hb dX4_reachable_8 rfl hl (by decide) rfl (fun ls hl => ?_)
  refine lv_iconst (v := (nI 0)) hx hb dX4_reachable_9 (by decide) ?_
  refine lv_istore (lv' := [(5, .int (nI 0)), (3, .long x1), (2, .int (M.2 8)), (0, .ref (ad 95)), (1, .ref (ad b))]) hx hb dX4_reachable_10 hl (by decide) rfl (fun ls hl => ?_)
  refine lv_iload_n hx hb dX4_reachable_12 rfl (lv_at hl 2 rfl) ?_
  refine lv_istore (lv' := [(6, .int (M.2 8)), (5, .int (nI 0)), (3, .long x1), (2, .int (M.2 8)), (0, .ref (ad 95)), (1, .ref (ad b))]) hx hb dX4_reachable_13 hl (by decide) rfl (fun ls hl => ?_)
  exact kX4_reachable_L15 E hP _ FU x1 (nI 0) (M.2 8) hm ls (lv_sub hl [4, 5, 2, 1, 0] rfl)
