noncomputable def mX11_in (a1 : Int32) (a2 : Int32) (a3 : Int32) : Option Int32 := (if a1 < a2 then zo (nI 0) (some (nI 0)) else (if a3 < a1 then zo (nI 0) (some (nI 0)) else zo (nI 1) (some (nI 1))))
set_option maxHeartbeats 4000000 in
set_option maxRecDepth 100000 in
theorem tcX11_in (l : Launch) (D : va_G) (cs : CS) (a1 : Int32) (a2 : Int32) (a3 : Int32) (z : Int32) (hm : mX11_in a1 a2 a3 = some z) : Met l yX11_in (Cond.code yX11_in cX11_in 3 (some .boolean) :: gw_tbl) ({ frames := 0, cells := 0, slots := 0, locals := 0 }) (PcR D cs ([]) [.int a1, .int a2, .int a3]) (QRi z) 0 0 NoF := by
  refine met_R rfl (Nat.le_of_ble_eq_true rfl) (fun p e s m below meth c E hP ls hl => ?_)
  obtain ⟨hx, hb, hr, hml, hown, hlk, hT, hN, hK⟩ := id E
  have hl : lv_has ls 3 [(0, .int a1), (1, .int a2), (2, .int a3)] := hl
  unfold mX11_in at hm
  refine lv_iload_n hx hb dX11_in_0 rfl (lv_at hl 0 rfl) ?_
  refine lv_iload_n hx hb dX11_in_1 rfl (lv_at hl 1 rfl) ?_
  refine x_icmp_lt (tgt := 14) hx hb dX11_in_2 (by decide) hm (fun hm => ?_) (fun hm => ?_)
  · refine lv_iconst (v := (nI 0)) hx hb dX11_in_14 (by decide) ?_
    exact x_zretR hx hb hr hlk hm dX11_in_15
  · refine lv_iload_n hx hb dX11_in_5 rfl (lv_at hl 0 rfl) ?_
    refine lv_iload_n hx hb dX11_in_6 rfl (lv_at hl 2 rfl) ?_
    refine x_icmp_gt (tgt := 14) hx hb dX11_in_7 (by decide) hm (fun hm => ?_) (fun hm => ?_)
    · refine lv_iconst (v := (nI 0)) hx hb dX11_in_14 (by decide) ?_
      exact x_zretR hx hb hr hlk hm dX11_in_15
    · refine lv_iconst (v := (nI 1)) hx hb dX11_in_10 (by decide) ?_
      refine lv_goto (tgt := 15) hx hb dX11_in_11 (by decide) ?_
      exact x_zretR hx hb hr hlk hm dX11_in_15
noncomputable def mX11_has (a1 : Int32) (a2 : Int32) : Option Int32 := (if ((a1 >>> (a2 &&& 31)) &&& (nI 1)) = (nI 1) then zo (nI 1) (some (nI 1)) else zo (nI 0) (some (nI 0)))
set_option maxHeartbeats 4000000 in
set_option maxRecDepth 100000 in
theorem tcX11_has (l : Launch) (D : va_G) (cs : CS) (a1 : Int32) (a2 : Int32) (z : Int32) (hm : mX11_has a1 a2 = some z) : Met l yX11_has (Cond.code yX11_has cX11_has 2 (some .boolean) :: gw_tbl) ({ frames := 0, cells := 0, slots := 0, locals := 0 }) (PcR D cs ([]) [.int a1, .int a2]) (QRi z) 0 0 NoF := by
  refine met_R rfl (Nat.le_of_ble_eq_true rfl) (fun p e s m below meth c E hP ls hl => ?_)
  obtain ⟨hx, hb, hr, hml, hown, hlk, hT, hN, hK⟩ := id E
  have hl : lv_has ls 2 [(0, .int a1), (1, .int a2)] := hl
  unfold mX11_has at hm
  refine lv_iload_n hx hb dX11_has_0 rfl (lv_at hl 0 rfl) ?_
  refine lv_iload_n hx hb dX11_has_1 rfl (lv_at hl 1 rfl) ?_
  refine lv_ishr hx hb dX11_has_2 ?_
  refine lv_iconst (v := (nI 1)) hx hb dX11_has_3 (by decide) ?_
  refine lv_iand hx hb dX11_has_4 ?_
  refine lv_iconst (v := (nI 1)) hx hb dX11_has_5 (by decide) ?_
  refine x_icmp_ne (tgt := 13) hx hb dX11_has_6 (by decide) hm (fun hm => ?_) (fun hm => ?_)
  · refine lv_iconst (v := (nI 0)) hx hb dX11_has_13 (by decide) ?_
    exact x_zretR hx hb hr hlk hm dX11_has_14
  · refine lv_iconst (v := (nI 1)) hx hb dX11_has_9 (by decide) ?_
    refine lv_goto (tgt := 14) hx hb dX11_has_10 (by decide) ?_
    exact x_zretR hx hb hr hlk hm dX11_has_14
noncomputable def mX11_bits_L4  : Nat → Int32 → Int32 → Int32 → Option Int32 := fun n => Nat.rec (motive := fun _ => Int32 → Int32 → Int32 → Option Int32) (fun _ _ _ => none) (fun _ rc => fun y0 y1 y2 => (if (nI 8) ≤ y2 then some y1 else nm (y1 + ((y0 >>> (y2 &&& 31)) &&& (nI 1))) fun x1 => nm (y2 + (nI 1)) fun x2 => rc y0 x1 x2)) n
theorem mX11_bits_L4_s  (n : Nat) (y0 : Int32) (y1 : Int32) (y2 : Int32) : mX11_bits_L4  (n + 1) y0 y1 y2 = (if (nI 8) ≤ y2 then some y1 else nm (y1 + ((y0 >>> (y2 &&& 31)) &&& (nI 1))) fun x1 => nm (y2 + (nI 1)) fun x2 => (mX11_bits_L4  n) y0 x1 x2) := rfl
noncomputable def mX11_bits (a1 : Int32) : Option Int32 := mX11_bits_L4 FU a1 (nI 0) (nI 0)
set_option maxHeartbeats 4000000 in
set_option maxRecDepth 100000 in
theorem kX11_bits_L4 {p : Program} {l : Launch} {e : Env} {s : State} {m : MethodId} {below : List Frame} {meth : Method} {c : Code} {D : va_G} {cs : CS}   {a1 : Int32} (E : EV p s m [.int a1].toArray meth c cX11_bits 3 RX11 (some .int) D cs) (hP : va_P D classes ([]) s.heap) (z : Int32) : ∀ (n : Nat) (y0 : Int32) (y1 : Int32) (y2 : Int32), mX11_bits_L4  n y0 y1 y2 = some z → ∀ ls : Array Slot, lv_has ls 3 [(0, .int y0), (1, .int y1), (2, .int y2)] → W p l e ({ frames := 0, cells := 0, slots := 0, locals := 0 }) s m [.int a1].toArray below meth c s.heap [] 0 0 (MQ below (QRi z) [.int a1].toArray s 0 0 NoF) (F0 m 4 ls []) := by
  obtain ⟨hx, hb, hr, hml, hown, hlk, hT, hN, hK⟩ := id E
  intro n
  induction n with
  | zero =>
    intro y0 y1 y2 hm
    exact nomatch (show (none : Option Int32) = some z from hm)
  | succ n ih =>
    intro y0 y1 y2 hm ls hl
    rw [mX11_bits_L4_s] at hm
    refine lv_iload_n hx hb dX11_bits_4 rfl (lv_at hl 2 rfl) ?_
    refine lv_bipush (v := (nI 8)) hx hb dX11_bits_5 (by decide) ?_
    refine x_icmp_ge (tgt := 24) hx hb dX11_bits_7 (by decide) hm (fun hm => ?_) (fun hm => ?_)
    · refine lv_iload_n hx hb dX11_bits_24 rfl (lv_at hl 1 rfl) ?_
      exact x_iretR hx hb hr hlk hm dX11_bits_25
    · refine lv_iload_n hx hb dX11_bits_10 rfl (lv_at hl 1 rfl) ?_
      refine lv_iload_n hx hb dX11_bits_11 rfl (lv_at hl 0 rfl) ?_
      refine lv_iload_n hx hb dX11_bits_12 rfl (lv_at hl 2 rfl) ?_
      refine lv_ishr hx hb dX11_bits_13 ?_
      refine lv_iconst (v := (nI 1)) hx hb dX11_bits_14 (by decide) ?_
      refine lv_iand hx hb dX11_bits_15 ?_
      refine lv_iadd hx hb dX11_bits_16 ?_
      refine xi_nm hm (fun x1 hm => ?_)
      refine lv_istore_n (lv' := [(1, .int x1), (0, .int y0), (2, .int y2)]) hx hb dX11_bits_17 rfl hl (by decide) rfl (fun ls hl => ?_)
      refine x_iinc (lv' := fun x2 => [(2, .int x2), (1, .int x1), (0, .int y0)]) hx hb dX11_bits_18 hl (k := 2) rfl (by decide) (v0 := (nI 1)) (by decide) (fun _ => rfl) hm (fun x2 ls hm hl => ?_)
      refine lv_goto (tgt := 4) hx hb dX11_bits_21 (by decide) ?_
      exact ih y0 x1 x2 hm ls (lv_sub hl [2, 1, 0] rfl)
set_option maxHeartbeats 4000000 in
set_option maxRecDepth 100000 in
theorem tcX11_bits (l : Launch) (D : va_G) (cs : CS) (a1 : Int32) (z : Int32) (hm : mX11_bits a1 = some z) : Met l yX11_bits (Cond.code yX11_bits cX11_bits 3 (some .int) :: gw_tbl) ({ frames := 0, cells := 0, slots := 0, locals := 0 }) (PcR D cs ([]) [.int a1]) (QRi z) 0 0 NoF := by
  refine met_R rfl (Nat.le_of_ble_eq_true rfl) (fun p e s m below meth c E hP ls hl => ?_)
  obtain ⟨hx, hb, hr, hml, hown, hlk, hT, hN, hK⟩ := id E
  have hl : lv_has ls 3 [(0, .int a1)] := hl
  unfold mX11_bits at hm
  refine lv_iconst (v := (nI 0)) hx hb dX11_bits_0 (by decide) ?_
  refine lv_istore_n (lv' := [(1, .int (nI 0)), (0, .int a1)]) hx hb dX11_bits_1 rfl hl (by decide) rfl (fun ls hl => ?_)
  refine lv_iconst (v := (nI 0)) hx hb dX11_bits_2 (by decide) ?_
  refine lv_istore_n (lv' := [(2, .int (nI 0)), (1, .int (nI 0)), (0, .int a1)]) hx hb dX11_bits_3 rfl hl (by decide) rfl (fun ls hl => ?_)
  exact kX11_bits_L4 E hP _ FU a1 (nI 0) (nI 0) hm ls (lv_sub hl [2, 1, 0] rfl)
noncomputable def mX11_costBy (a1 : Int32) (a2 : Int32) (a3 : Int32) : Option Int32 := (if a1 = (nI 1) then (if a3 ≤ (nI 1) then some a2 else some ((a2 + (nI 1)) / (nI 2))) else if a1 = (nI 2) then some (a2 + (nI 2)) else if a1 = (nI 3) then (if a3 ≤ (nI 1) then some a2 else some ((a2 + (nI 1)) / (nI 2))) else if a1 = (nI 4) then some a2 else if a1 = (nI 5) then some ((a2 + (nI 2)) + a3) else some a2)
set_option maxHeartbeats 4000000 in
set_option maxRecDepth 100000 in
theorem tcX11_costBy (l : Launch) (D : va_G) (cs : CS) (a1 : Int32) (a2 : Int32) (a3 : Int32) (z : Int32) (hm : mX11_costBy a1 a2 a3 = some z) : Met l yX11_costBy (Cond.code yX11_costBy cX11_costBy 3 (some .int) :: gw_tbl) ({ frames := 0, cells := 0, slots := 0, locals := 0 }) (PcR D cs ([]) [.int a1, .int a2, .int a3]) (QRi z) 0 0 NoF := by
  refine met_R rfl (Nat.le_of_ble_eq_true rfl) (fun p e s m below meth c E hP ls hl => ?_)
  obtain ⟨hx, hb, hr, hml, hown, hlk, hT, hN, hK⟩ := id E
  have hl : lv_has ls 3 [(0, .int a1), (1, .int a2), (2, .int a3)] := hl
  unfold mX11_costBy at hm
  refine lv_iload_n hx hb dX11_costBy_0 rfl (lv_at hl 0 rfl) ?_
  rcases sw_c hm with ⟨e1_0, hm⟩ | ⟨e1_0, hm⟩
  · refine lv_tableIn (tgt := 36) (off := 35) hx hb dX11_costBy_1 (by rw [e1_0]; decide) (by rw [e1_0]; decide) (by rw [e1_0]; rfl) (by decide) ?_
    refine lv_iload_n hx hb dX11_costBy_36 rfl (lv_at hl 2 rfl) ?_
    refine lv_iconst (v := (nI 1)) hx hb dX11_costBy_37 (by decide) ?_
    refine x_icmp_le (tgt := 49) hx hb dX11_costBy_38 (by decide) hm (fun hm => ?_) (fun hm => ?_)
    · refine lv_iload_n hx hb dX11_costBy_49 rfl (lv_at hl 1 rfl) ?_
      exact x_iretR hx hb hr hlk hm dX11_costBy_50
    · refine lv_iload_n hx hb dX11_costBy_41 rfl (lv_at hl 1 rfl) ?_
      refine lv_iconst (v := (nI 1)) hx hb dX11_costBy_42 (by decide) ?_
      refine lv_iadd hx hb dX11_costBy_43 ?_
      refine lv_iconst (v := (nI 2)) hx hb dX11_costBy_44 (by decide) ?_
      refine lv_idiv hx hb dX11_costBy_45 (by decide) ?_
      refine lv_goto (tgt := 50) hx hb dX11_costBy_46 (by decide) ?_
      exact x_iretR hx hb hr hlk hm dX11_costBy_50
  rcases sw_c hm with ⟨e1_1, hm⟩ | ⟨e1_1, hm⟩
  · refine lv_tableIn (tgt := 51) (off := 50) hx hb dX11_costBy_1 (by rw [e1_1]; decide) (by rw [e1_1]; decide) (by rw [e1_1]; rfl) (by decide) ?_
    refine lv_iload_n hx hb dX11_costBy_51 rfl (lv_at hl 1 rfl) ?_
    refine lv_iconst (v := (nI 2)) hx hb dX11_costBy_52 (by decide) ?_
    refine lv_iadd hx hb dX11_costBy_53 ?_
    exact x_iretR hx hb hr hlk hm dX11_costBy_54
  rcases sw_c hm with ⟨e1_2, hm⟩ | ⟨e1_2, hm⟩
  · refine lv_tableIn (tgt := 36) (off := 35) hx hb dX11_costBy_1 (by rw [e1_2]; decide) (by rw [e1_2]; decide) (by rw [e1_2]; rfl) (by decide) ?_
    refine lv_iload_n hx hb dX11_costBy_36 rfl (lv_at hl 2 rfl) ?_
    refine lv_iconst (v := (nI 1)) hx hb dX11_costBy_37 (by decide) ?_
    refine x_icmp_le (tgt := 49) hx hb dX11_costBy_38 (by decide) hm (fun hm => ?_) (fun hm => ?_)
    · refine lv_iload_n hx hb dX11_costBy_49 rfl (lv_at hl 1 rfl) ?_
      exact x_iretR hx hb hr hlk hm dX11_costBy_50
    · refine lv_iload_n hx hb dX11_costBy_41 rfl (lv_at hl 1 rfl) ?_
      refine lv_iconst (v := (nI 1)) hx hb dX11_costBy_42 (by decide) ?_
      refine lv_iadd hx hb dX11_costBy_43 ?_
      refine lv_iconst (v := (nI 2)) hx hb dX11_costBy_44 (by decide) ?_
      refine lv_idiv hx hb dX11_costBy_45 (by decide) ?_
      refine lv_goto (tgt := 50) hx hb dX11_costBy_46 (by decide) ?_
      exact x_iretR hx hb hr hlk hm dX11_costBy_50
  rcases sw_c hm with ⟨e1_3, hm⟩ | ⟨e1_3, hm⟩
  · refine lv_tableIn (tgt := 61) (off := 60) hx hb dX11_costBy_1 (by rw [e1_3]; decide) (by rw [e1_3]; decide) (by rw [e1_3]; rfl) (by decide) ?_
    refine lv_iload_n hx hb dX11_costBy_61 rfl (lv_at hl 1 rfl) ?_
    exact x_iretR hx hb hr hlk hm dX11_costBy_62
  rcases sw_c hm with ⟨e1_4, hm⟩ | ⟨e1_4, hm⟩
  · refine lv_tableIn (tgt := 55) (off := 54) hx hb dX11_costBy_1 (by rw [e1_4]; decide) (by rw [e1_4]; decide) (by rw [e1_4]; rfl) (by decide) ?_
    refine lv_iload_n hx hb dX11_costBy_55 rfl (lv_at hl 1 rfl) ?_
    refine lv_iconst (v := (nI 2)) hx hb dX11_costBy_56 (by decide) ?_
    refine lv_iadd hx hb dX11_costBy_57 ?_
    refine lv_iload_n hx hb dX11_costBy_58 rfl (lv_at hl 2 rfl) ?_
    refine lv_iadd hx hb dX11_costBy_59 ?_
    exact x_iretR hx hb hr hlk hm dX11_costBy_60
  refine lv_tableOut (tgt := 61) hx hb dX11_costBy_1 (sw_out_1_5 e1_0 e1_1 e1_2 e1_3 e1_4) (by decide) ?_
  refine lv_iload_n hx hb dX11_costBy_61 rfl (lv_at hl 1 rfl) ?_
  exact x_iretR hx hb hr hlk hm dX11_costBy_62
noncomputable def mX11_pairsOf_L4  : Nat → Int32 → Int32 → Int32 → Option Int32 := fun n => Nat.rec (motive := fun _ => Int32 → Int32 → Int32 → Option Int32) (fun _ _ _ => none) (fun _ rc => fun y0 y1 y2 => (if (nI 4) ≤ y2 then some y1 else (if ((y0 >>> (((nI 2) * y2) &&& 31)) &&& (nI 3)) = (nI 3) then nm (y1 ||| ((nI 1) <<< (y2 &&& 31))) fun x3 => nm (y2 + (nI 1)) fun x4 => rc y0 x3 x4 else nm (y1 ||| (nI 0)) fun x1 => nm (y2 + (nI 1)) fun x2 => rc y0 x1 x2))) n
theorem mX11_pairsOf_L4_s  (n : Nat) (y0 : Int32) (y1 : Int32) (y2 : Int32) : mX11_pairsOf_L4  (n + 1) y0 y1 y2 = (if (nI 4) ≤ y2 then some y1 else (if ((y0 >>> (((nI 2) * y2) &&& 31)) &&& (nI 3)) = (nI 3) then nm (y1 ||| ((nI 1) <<< (y2 &&& 31))) fun x3 => nm (y2 + (nI 1)) fun x4 => (mX11_pairsOf_L4  n) y0 x3 x4 else nm (y1 ||| (nI 0)) fun x1 => nm (y2 + (nI 1)) fun x2 => (mX11_pairsOf_L4  n) y0 x1 x2)) := rfl
noncomputable def mX11_pairsOf (a1 : Int32) : Option Int32 := mX11_pairsOf_L4 FU a1 (nI 0) (nI 0)
set_option maxHeartbeats 4000000 in
set_option maxRecDepth 100000 in
theorem kX11_pairsOf_L4 {p : Program} {l : Launch} {e : Env} {s : State} {m : MethodId} {below : List Frame} {meth : Method} {c : Code} {D : va_G} {cs : CS}   {a1 : Int32} (E : EV p s m [.int a1].toArray meth c cX11_pairsOf 3 RX11 (some .int) D cs) (hP : va_P D classes ([]) s.heap) (z : Int32) : ∀ (n : Nat) (y0 : Int32) (y1 : Int32) (y2 : Int32), mX11_pairsOf_L4  n y0 y1 y2 = some z → ∀ ls : Array Slot, lv_has ls 3 [(0, .int y0), (1, .int y1), (2, .int y2)] → W p l e ({ frames := 0, cells := 0, slots := 0, locals := 0 }) s m [.int a1].toArray below meth c s.heap [] 0 0 (MQ below (QRi z) [.int a1].toArray s 0 0 NoF) (F0 m 4 ls []) := by
  obtain ⟨hx, hb, hr, hml, hown, hlk, hT, hN, hK⟩ := id E
  intro n
  induction n with
  | zero =>
    intro y0 y1 y2 hm
    exact nomatch (show (none : Option Int32) = some z from hm)
  | succ n ih =>
    intro y0 y1 y2 hm ls hl
    rw [mX11_pairsOf_L4_s] at hm
    refine lv_iload_n hx hb dX11_pairsOf_4 rfl (lv_at hl 2 rfl) ?_
    refine lv_iconst (v := (nI 4)) hx hb dX11_pairsOf_5 (by decide) ?_
    refine x_icmp_ge (tgt := 36) hx hb dX11_pairsOf_6 (by decide) hm (fun hm => ?_) (fun hm => ?_)
    · refine lv_iload_n hx hb dX11_pairsOf_36 rfl (lv_at hl 1 rfl) ?_
      exact x_iretR hx hb hr hlk hm dX11_pairsOf_37
    · refine lv_iload_n hx hb dX11_pairsOf_9 rfl (lv_at hl 1 rfl) ?_
      refine lv_iload_n hx hb dX11_pairsOf_10 rfl (lv_at hl 0 rfl) ?_
      refine lv_iconst (v := (nI 2)) hx hb dX11_pairsOf_11 (by decide) ?_
      refine lv_iload_n hx hb dX11_pairsOf_12 rfl (lv_at hl 2 rfl) ?_
      refine lv_imul hx hb dX11_pairsOf_13 ?_
      refine lv_ishr hx hb dX11_pairsOf_14 ?_
      refine lv_iconst (v := (nI 3)) hx hb dX11_pairsOf_15 (by decide) ?_
      refine lv_iand hx hb dX11_pairsOf_16 ?_
      refine lv_iconst (v := (nI 3)) hx hb dX11_pairsOf_17 (by decide) ?_
      refine x_icmp_ne (tgt := 27) hx hb dX11_pairsOf_18 (by decide) hm (fun hm => ?_) (fun hm => ?_)
      · refine lv_iconst (v := (nI 0)) hx hb dX11_pairsOf_27 (by decide) ?_
        refine lv_ior hx hb dX11_pairsOf_28 ?_
        refine xi_nm hm (fun x1 hm => ?_)
        refine lv_istore_n (lv' := [(1, .int x1), (0, .int y0), (2, .int y2)]) hx hb dX11_pairsOf_29 rfl hl (by decide) rfl (fun ls hl => ?_)
        refine x_iinc (lv' := fun x2 => [(2, .int x2), (1, .int x1), (0, .int y0)]) hx hb dX11_pairsOf_30 hl (k := 2) rfl (by decide) (v0 := (nI 1)) (by decide) (fun _ => rfl) hm (fun x2 ls hm hl => ?_)
        refine lv_goto (tgt := 4) hx hb dX11_pairsOf_33 (by decide) ?_
        exact ih y0 x1 x2 hm ls (lv_sub hl [2, 1, 0] rfl)
      · refine lv_iconst (v := (nI 1)) hx hb dX11_pairsOf_21 (by decide) ?_
        refine lv_iload_n hx hb dX11_pairsOf_22 rfl (lv_at hl 2 rfl) ?_
        refine lv_ishl hx hb dX11_pairsOf_23 ?_
        refine lv_goto (tgt := 28) hx hb dX11_pairsOf_24 (by decide) ?_
        refine lv_ior hx hb dX11_pairsOf_28 ?_
        refine xi_nm hm (fun x3 hm => ?_)
        refine lv_istore_n (lv' := [(1, .int x3), (0, .int y0), (2, .int y2)]) hx hb dX11_pairsOf_29 rfl hl (by decide) rfl (fun ls hl => ?_)
        refine x_iinc (lv' := fun x4 => [(2, .int x4), (1, .int x3), (0, .int y0)]) hx hb dX11_pairsOf_30 hl (k := 2) rfl (by decide) (v0 := (nI 1)) (by decide) (fun _ => rfl) hm (fun x4 ls hm hl => ?_)
        refine lv_goto (tgt := 4) hx hb dX11_pairsOf_33 (by decide) ?_
        exact ih y0 x3 x4 hm ls (lv_sub hl [2, 1, 0] rfl)
set_option maxHeartbeats 4000000 in
set_option maxRecDepth 100000 in
theorem tcX11_pairsOf (l : Launch) (D : va_G) (cs : CS) (a1 : Int32) (z : Int32) (hm : mX11_pairsOf a1 = some z) : Met l yX11_pairsOf (Cond.code yX11_pairsOf cX11_pairsOf 3 (some .int) :: gw_tbl) ({ frames := 0, cells := 0, slots := 0, locals := 0 }) (PcR D cs ([]) [.int a1]) (QRi z) 0 0 NoF := by
  refine met_R rfl (Nat.le_of_ble_eq_true rfl) (fun p e s m below meth c E hP ls hl => ?_)
  obtain ⟨hx, hb, hr, hml, hown, hlk, hT, hN, hK⟩ := id E
  have hl : lv_has ls 3 [(0, .int a1)] := hl
  unfold mX11_pairsOf at hm
  refine lv_iconst (v := (nI 0)) hx hb dX11_pairsOf_0 (by decide) ?_
  refine lv_istore_n (lv' := [(1, .int (nI 0)), (0, .int a1)]) hx hb dX11_pairsOf_1 rfl hl (by decide) rfl (fun ls hl => ?_)
  refine lv_iconst (v := (nI 0)) hx hb dX11_pairsOf_2 (by decide) ?_
  refine lv_istore_n (lv' := [(2, .int (nI 0)), (1, .int (nI 0)), (0, .int a1)]) hx hb dX11_pairsOf_3 rfl hl (by decide) rfl (fun ls hl => ?_)
  exact kX11_pairsOf_L4 E hP _ FU a1 (nI 0) (nI 0) hm ls (lv_sub hl [2, 1, 0] rfl)
noncomputable def mX11_oneGets (a1 : Int32) (a2 : Int32) (a3 : Int32) : Option Int32 := (if a2 = (nI 1) then some (nI 0) else (if a3 = 0 then (if a1 = 0 then some (nI 2) else some (-3 : Int32)) else some (nI 2)))
set_option maxHeartbeats 4000000 in
set_option maxRecDepth 100000 in
theorem tcX11_oneGets (l : Launch) (D : va_G) (cs : CS) (a1 : Int32) (a2 : Int32) (a3 : Int32) (z : Int32) (hm : mX11_oneGets a1 a2 a3 = some z) : Met l yX11_oneGets (Cond.code yX11_oneGets cX11_oneGets 3 (some .int) :: gw_tbl) ({ frames := 0, cells := 0, slots := 0, locals := 0 }) (PcR D cs ([]) [.int a1, .int a2, .int a3]) (QRi z) 0 0 NoF := by
  refine met_R rfl (Nat.le_of_ble_eq_true rfl) (fun p e s m below meth c E hP ls hl => ?_)
  obtain ⟨hx, hb, hr, hml, hown, hlk, hT, hN, hK⟩ := id E
  have hl : lv_has ls 3 [(0, .int a1), (1, .int a2), (2, .int a3)] := hl
  unfold mX11_oneGets at hm
  refine lv_iload_n hx hb dX11_oneGets_0 rfl (lv_at hl 1 rfl) ?_
  refine lv_iconst (v := (nI 1)) hx hb dX11_oneGets_1 (by decide) ?_
  refine x_icmp_ne (tgt := 9) hx hb dX11_oneGets_2 (by decide) hm (fun hm => ?_) (fun hm => ?_)
  · refine lv_iload_n hx hb dX11_oneGets_9 rfl (lv_at hl 2 rfl) ?_
    refine x_if_ne (tgt := 22) hx hb dX11_oneGets_10 (by decide) hm (fun hm => ?_) (fun hm => ?_)
    · refine lv_iconst (v := (nI 2)) hx hb dX11_oneGets_22 (by decide) ?_
      exact x_iretR hx hb hr hlk hm dX11_oneGets_23
    · refine lv_iload_n hx hb dX11_oneGets_13 rfl (lv_at hl 0 rfl) ?_
      refine x_if_eq (tgt := 22) hx hb dX11_oneGets_14 (by decide) hm (fun hm => ?_) (fun hm => ?_)
      · refine lv_iconst (v := (nI 2)) hx hb dX11_oneGets_22 (by decide) ?_
        exact x_iretR hx hb hr hlk hm dX11_oneGets_23
      · refine lv_bipush (v := (-3 : Int32)) hx hb dX11_oneGets_17 (by decide) ?_
        refine lv_goto (tgt := 23) hx hb dX11_oneGets_19 (by decide) ?_
        exact x_iretR hx hb hr hlk hm dX11_oneGets_23
  · refine lv_iconst (v := (nI 0)) hx hb dX11_oneGets_5 (by decide) ?_
    refine lv_goto (tgt := 23) hx hb dX11_oneGets_6 (by decide) ?_
    exact x_iretR hx hb hr hlk hm dX11_oneGets_23
noncomputable def mX11_otherGets (a1 : Int32) (a2 : Int32) (a3 : Int32) : Option Int32 := (if a3 = (nI 1) then some (nI 0) else (if a2 = 0 then (if a1 = 0 then some (-1 : Int32) else some (nI 3)) else some (-1 : Int32)))
set_option maxHeartbeats 4000000 in
set_option maxRecDepth 100000 in
theorem tcX11_otherGets (l : Launch) (D : va_G) (cs : CS) (a1 : Int32) (a2 : Int32) (a3 : Int32) (z : Int32) (hm : mX11_otherGets a1 a2 a3 = some z) : Met l yX11_otherGets (Cond.code yX11_otherGets cX11_otherGets 3 (some .int) :: gw_tbl) ({ frames := 0, cells := 0, slots := 0, locals := 0 }) (PcR D cs ([]) [.int a1, .int a2, .int a3]) (QRi z) 0 0 NoF := by
  refine met_R rfl (Nat.le_of_ble_eq_true rfl) (fun p e s m below meth c E hP ls hl => ?_)
  obtain ⟨hx, hb, hr, hml, hown, hlk, hT, hN, hK⟩ := id E
  have hl : lv_has ls 3 [(0, .int a1), (1, .int a2), (2, .int a3)] := hl
  unfold mX11_otherGets at hm
  refine lv_iload_n hx hb dX11_otherGets_0 rfl (lv_at hl 2 rfl) ?_
  refine lv_iconst (v := (nI 1)) hx hb dX11_otherGets_1 (by decide) ?_
  refine x_icmp_ne (tgt := 9) hx hb dX11_otherGets_2 (by decide) hm (fun hm => ?_) (fun hm => ?_)
  · refine lv_iload_n hx hb dX11_otherGets_9 rfl (lv_at hl 1 rfl) ?_
    refine x_if_ne (tgt := 21) hx hb dX11_otherGets_10 (by decide) hm (fun hm => ?_) (fun hm => ?_)
    · refine lv_iconst (v := (-1 : Int32)) hx hb dX11_otherGets_21 (by decide) ?_
      exact x_iretR hx hb hr hlk hm dX11_otherGets_22
    · refine lv_iload_n hx hb dX11_otherGets_13 rfl (lv_at hl 0 rfl) ?_
      refine x_if_eq (tgt := 21) hx hb dX11_otherGets_14 (by decide) hm (fun hm => ?_) (fun hm => ?_)
      · refine lv_iconst (v := (-1 : Int32)) hx hb dX11_otherGets_21 (by decide) ?_
        exact x_iretR hx hb hr hlk hm dX11_otherGets_22
      · refine lv_iconst (v := (nI 3)) hx hb dX11_otherGets_17 (by decide) ?_
        refine lv_goto (tgt := 22) hx hb dX11_otherGets_18 (by decide) ?_
        exact x_iretR hx hb hr hlk hm dX11_otherGets_22
  · refine lv_iconst (v := (nI 0)) hx hb dX11_otherGets_5 (by decide) ?_
    refine lv_goto (tgt := 22) hx hb dX11_otherGets_6 (by decide) ?_
    exact x_iretR hx hb hr hlk hm dX11_otherGets_22
noncomputable def mX11_isLetter (S : MS) (a1 : Int32) : Option Int32 := (if (S.2.1 6) ≤ a1 then zo (nI 0) (some (nI 0)) else ald (S.1 5) 150 a1 fun v1 => (mX11_in v1 (nI 97) (nI 122)).bind fun r2 => (if r2 = 0 then zo (nI 0) (some (nI 0)) else zo (nI 1) (some (nI 1))))
set_option maxHeartbeats 4000000 in
set_option maxRecDepth 100000 in
theorem tcX11_isLetter (l : Launch) (D : va_G) (cs : CS) (ad : Nat → Nat) (S : MS) (a1 : Int32) (z : Int32) (hm : mX11_isLetter S a1 = some z) : Met l yX11_isLetter (Cond.code yX11_isLetter cX11_isLetter 2 (some .boolean) :: gw_tbl) ({ frames := 1, cells := 0, slots := 0, locals := 22 }) (PcR D cs (WM cs ad S) [.ref (ad 22), .int a1]) (QRi z) 0 0 NoF := by
  refine met_R rfl (Nat.le_of_ble_eq_true rfl) (fun p e s m below meth c E hP ls hl => ?_)
  obtain ⟨hx, hb, hr, hml, hown, hlk, hT, hN, hK⟩ := id E
  have hl : lv_has ls 2 [(0, .ref (ad 22)), (1, .int a1)] := hl
  unfold mX11_isLetter at hm
  refine lv_iload_n hx hb dX11_isLetter_0 rfl (lv_at hl 1 rfl) ?_
  refine lv_aload_n hx hb dX11_isLetter_1 rfl (lv_at hl 0 rfl) ?_
  refine gf_X11_68 (v := .int (S.2.1 6)) hx hb hT hown hK hP 0 rfl rfl dX11_isLetter_2 ?_
  refine x_icmp_ge (tgt := 28) hx hb dX11_isLetter_5 (by decide) hm (fun hm => ?_) (fun hm => ?_)
  · refine lv_iconst (v := (nI 0)) hx hb dX11_isLetter_28 (by decide) ?_
    exact x_zretR hx hb hr hlk hm dX11_isLetter_29
  · refine lv_aload_n hx hb dX11_isLetter_8 rfl (lv_at hl 0 rfl) ?_
    refine gf_X11_24 (v := .ref (ad 5)) hx hb hT hown hK hP 0 rfl rfl dX11_isLetter_9 ?_
    refine lv_iload_n hx hb dX11_isLetter_12 rfl (lv_at hl 1 rfl) ?_
    refine x_iald hx hb hK hP 4 rfl hm dX11_isLetter_13 (fun v1 hm => ?_)
    refine lv_bipush (v := (nI 97)) hx hb dX11_isLetter_14 (by decide) ?_
    refine lv_bipush (v := (nI 122)) hx hb dX11_isLetter_16 (by decide) ?_
    refine xS_i (As := [.int v1, .int (nI 97), .int (nI 122)]) (rest := []) hx hb hml hown hT hN hK (hP.sub (ws' := []) [] rfl) cw_X11_52 hm (fun z h => tcX11_in l D cs v1 (nI 97) (nI 122) z h) ⟨rfl, rfl⟩ ⟨by decide, by decide⟩ hl.1 rfl rfl (Nat.le_of_ble_eq_true rfl) dX11_isLetter_18 ⟨Nat.zero_le _, Nat.zero_le _⟩ (fun r2 hm => ?_)
    refine x_if_eq (tgt := 28) hx hb dX11_isLetter_21 (by decide) hm (fun hm => ?_) (fun hm => ?_)
    · refine lv_iconst (v := (nI 0)) hx hb dX11_isLetter_28 (by decide) ?_
      exact x_zretR hx hb hr hlk hm dX11_isLetter_29
    · refine lv_iconst (v := (nI 1)) hx hb dX11_isLetter_24 (by decide) ?_
      refine lv_goto (tgt := 29) hx hb dX11_isLetter_25 (by decide) ?_
      exact x_zretR hx hb hr hlk hm dX11_isLetter_29
noncomputable def mX11_isFigure (S : MS) (a1 : Int32) : Option Int32 := (if (S.2.1 6) ≤ a1 then zo (nI 0) (some (nI 0)) else ald (S.1 5) 150 a1 fun v1 => (mX11_in v1 (nI 48) (nI 57)).bind fun r2 => (if r2 = 0 then zo (nI 0) (some (nI 0)) else zo (nI 1) (some (nI 1))))
set_option maxHeartbeats 4000000 in
set_option maxRecDepth 100000 in
theorem tcX11_isFigure (l : Launch) (D : va_G) (cs : CS) (ad : Nat → Nat) (S : MS) (a1 : Int32) (z : Int32) (hm : mX11_isFigure S a1 = some z) : Met l yX11_isFigure (Cond.code yX11_isFigure cX11_isFigure 2 (some .boolean) :: gw_tbl) ({ frames := 1, cells := 0, slots := 0, locals := 22 }) (PcR D cs (WM cs ad S) [.ref (ad 22), .int a1]) (QRi z) 0 0 NoF := by
  refine met_R rfl (Nat.le_of_ble_eq_true rfl) (fun p e s m below meth c E hP ls hl => ?_)
  obtain ⟨hx, hb, hr, hml, hown, hlk, hT, hN, hK⟩ := id E
  have hl : lv_has ls 2 [(0, .ref (ad 22)), (1, .int a1)] := hl
  unfold mX11_isFigure at hm
  refine lv_iload_n hx hb dX11_isFigure_0 rfl (lv_at hl 1 rfl) ?_
  refine lv_aload_n hx hb dX11_isFigure_1 rfl (lv_at hl 0 rfl) ?_
  refine gf_X11_68 (v := .int (S.2.1 6)) hx hb hT hown hK hP 0 rfl rfl dX11_isFigure_2 ?_
  refine x_icmp_ge (tgt := 28) hx hb dX11_isFigure_5 (by decide) hm (fun hm => ?_) (fun hm => ?_)
  · refine lv_iconst (v := (nI 0)) hx hb dX11_isFigure_28 (by decide) ?_
    exact x_zretR hx hb hr hlk hm dX11_isFigure_29
  · refine lv_aload_n hx hb dX11_isFigure_8 rfl (lv_at hl 0 rfl) ?_
    refine gf_X11_24 (v := .ref (ad 5)) hx hb hT hown hK hP 0 rfl rfl dX11_isFigure_9 ?_
    refine lv_iload_n hx hb dX11_isFigure_12 rfl (lv_at hl 1 rfl) ?_
    refine x_iald hx hb hK hP 4 rfl hm dX11_isFigure_13 (fun v1 hm => ?_)
    refine lv_bipush (v := (nI 48)) hx hb dX11_isFigure_14 (by decide) ?_
    refine lv_bipush (v := (nI 57)) hx hb dX11_isFigure_16 (by decide) ?_
    refine xS_i (As := [.int v1, .int (nI 48), .int (nI 57)]) (rest := []) hx hb hml hown hT hN hK (hP.sub (ws' := []) [] rfl) cw_X11_52 hm (fun z h => tcX11_in l D cs v1 (nI 48) (nI 57) z h) ⟨rfl, rfl⟩ ⟨by decide, by decide⟩ hl.1 rfl rfl (Nat.le_of_ble_eq_true rfl) dX11_isFigure_18 ⟨Nat.zero_le _, Nat.zero_le _⟩ (fun r2 hm => ?_)
    refine x_if_eq (tgt := 28) hx hb dX11_isFigure_21 (by decide) hm (fun hm => ?_) (fun hm => ?_)
    · refine lv_iconst (v := (nI 0)) hx hb dX11_isFigure_28 (by decide) ?_
      exact x_zretR hx hb hr hlk hm dX11_isFigure_29
    · refine lv_iconst (v := (nI 1)) hx hb dX11_isFigure_24 (by decide) ?_
      refine lv_goto (tgt := 29) hx hb dX11_isFigure_25 (by decide) ?_
      exact x_zretR hx hb hr hlk hm dX11_isFigure_29
noncomputable def mX11_isWord_L22 (S : MS) : Nat → Int32 → Int32 → Int32 → Option Int32 := fun n => Nat.rec (motive := fun _ => Int32 → Int32 → Int32 → Option Int32) (fun _ _ _ => none) (fun _ rc => fun y1 y2 y3 => (if (nI 7) ≤ y3 then zo y2 (some y2) else (if y2 = 0 then zo y2 (some y2) else (if (S.2.1 9) ≤ ((S.2.1 8) + y3) then ald (S.1 7) 21 (((nI 7) * y1) + y3) fun v1 => (if (nI 0) = v1 then nm (y3 + (nI 1)) fun x3 => rc y1 (nI 1) x3 else nm (y3 + (nI 1)) fun x2 => rc y1 (nI 0) x2) else ald (S.1 5) 150 ((S.2.1 8) + y3) fun v4 => ald (S.1 7) 21 (((nI 7) * y1) + y3) fun v5 => (if v4 = v5 then nm (y3 + (nI 1)) fun x7 => rc y1 (nI 1) x7 else nm (y3 + (nI 1)) fun x6 => rc y1 (nI 0) x6))))) n
theorem mX11_isWord_L22_s (S : MS) (n : Nat) (y1 : Int32) (y2 : Int32) (y3 : Int32) : mX11_isWord_L22 S (n + 1) y1 y2 y3 = (if (nI 7) ≤ y3 then zo y2 (some y2) else (if y2 = 0 then zo y2 (some y2) else (if (S.2.1 9) ≤ ((S.2.1 8) + y3) then ald (S.1 7) 21 (((nI 7) * y1) + y3) fun v1 => (if (nI 0) = v1 then nm (y3 + (nI 1)) fun x3 => (mX11_isWord_L22 S n) y1 (nI 1) x3 else nm (y3 + (nI 1)) fun x2 => (mX11_isWord_L22 S n) y1 (nI 0) x2) else ald (S.1 5) 150 ((S.2.1 8) + y3) fun v4 => ald (S.1 7) 21 (((nI 7) * y1) + y3) fun v5 => (if v4 = v5 then nm (y3 + (nI 1)) fun x7 => (mX11_isWord_L22 S n) y1 (nI 1) x7 else nm (y3 + (nI 1)) fun x6 => (mX11_isWord_L22 S n) y1 (nI 0) x6)))) := rfl
noncomputable def mX11_isWord (S : MS) (a1 : Int32) : Option Int32 := (if (nI 7) < ((S.2.1 9) - (S.2.1 8)) then mX11_isWord_L22 S FU a1 (nI 0) (nI 0) else mX11_isWord_L22 S FU a1 (nI 1) (nI 0))
set_option maxHeartbeats 4000000 in
set_option maxRecDepth 100000 in
theorem kX11_isWord_L22 {p : Program} {l : Launch} {e : Env} {s : State} {m : MethodId} {below : List Frame} {meth : Method} {c : Code} {D : va_G} {cs : CS}  {ad : Nat → Nat} {S : MS} {a1 : Int32} (E : EV p s m [.ref (ad 22), .int a1].toArray meth c cX11_isWord 5 RX11 (some .boolean) D cs) (hP : va_P D classes (WM cs ad S) s.heap) (z : Int32) : ∀ (n : Nat) (y1 : Int32) (y2 : Int32) (y3 : Int32), mX11_isWord_L22 S n y1 y2 y3 = some z → ∀ ls : Array Slot, lv_has ls 5 [(0, .ref (ad 22)), (1, .int y1), (2, .int y2), (3, .int y3)] → W p l e ({ frames := 0, cells := 0, slots := 0, locals := 0 }) s m [.ref (ad 22), .int a1].toArray below meth c s.heap [] 0 0 (MQ below (QRi z) [.ref (ad 22), .int a1].toArray s 0 0 NoF) (F0 m 22 ls []) := by
  obtain ⟨hx, hb, hr, hml, hown, hlk, hT, hN, hK⟩ := id E
  intro n
  induction n with
  | zero =>
    intro y1 y2 y3 hm
    exact nomatch (show (none : Option Int32) = some z from hm)
  | succ n ih =>
    intro y1 y2 y3 hm ls hl
    rw [mX11_isWord_L22_s] at hm
    refine lv_iload_n hx hb dX11_isWord_22 rfl (lv_at hl 3 rfl) ?_
    refine lv_bipush (v := (nI 7)) hx hb dX11_isWord_23 (by decide) ?_
    refine x_icmp_ge (tgt := 90) hx hb dX11_isWord_25 (by decide) hm (fun hm => ?_) (fun hm => ?_)
    · refine lv_iload_n hx hb dX11_isWord_90 rfl (lv_at hl 2 rfl) ?_
      exact x_zretR hx hb hr hlk hm dX11_isWord_91
    · refine lv_iload_n hx hb dX11_isWord_28 rfl (lv_at hl 2 rfl) ?_
      refine x_if_eq (tgt := 90) hx hb dX11_isWord_29 (by decide) hm (fun hm => ?_) (fun hm => ?_)
      · refine lv_iload_n hx hb dX11_isWord_90 rfl (lv_at hl 2 rfl) ?_
        exact x_zretR hx hb hr hlk hm dX11_isWord_91
      · refine lv_aload_n hx hb dX11_isWord_32 rfl (lv_at hl 0 rfl) ?_
        refine gf_X11_75 (v := .int (S.2.1 8)) hx hb hT hown hK hP 0 rfl rfl dX11_isWord_33 ?_
        refine lv_iload_n hx hb dX11_isWord_36 rfl (lv_at hl 3 rfl) ?_
        refine lv_iadd hx hb dX11_isWord_37 ?_
        refine lv_aload_n hx hb dX11_isWord_38 rfl (lv_at hl 0 rfl) ?_
        refine gf_X11_72 (v := .int (S.2.1 9)) hx hb hT hown hK hP 0 rfl rfl dX11_isWord_39 ?_
        refine x_icmp_ge (tgt := 59) hx hb dX11_isWord_42 (by decide) hm (fun hm => ?_) (fun hm => ?_)
        · refine lv_iconst (v := (nI 0)) hx hb dX11_isWord_59 (by decide) ?_
          refine lv_istore (lv' := [(4, .int (nI 0)), (0, .ref (ad 22)), (1, .int y1), (2, .int y2), (3, .int y3)]) hx hb dX11_isWord_60 hl (by decide) rfl (fun ls hl => ?_)
          refine lv_iload hx hb dX11_isWord_62 (lv_at hl 0 rfl) ?_
          refine lv_aload_n hx hb dX11_isWord_64 rfl (lv_at hl 1 rfl) ?_
          refine gf_X11_27 (v := .ref (ad 7)) hx hb hT hown hK hP 0 rfl rfl dX11_isWord_65 ?_
          refine lv_bipush (v := (nI 7)) hx hb dX11_isWord_68 (by decide) ?_
          refine lv_iload_n hx hb dX11_isWord_70 rfl (lv_at hl 2 rfl) ?_
          refine lv_imul hx hb dX11_isWord_71 ?_
          refine lv_iload_n hx hb dX11_isWord_72 rfl (lv_at hl 4 rfl) ?_
          refine lv_iadd hx hb dX11_isWord_73 ?_
          refine x_iald hx hb hK hP 5 rfl hm dX11_isWord_74 (fun v1 hm => ?_)
          refine x_icmp_ne (tgt := 82) hx hb dX11_isWord_75 (by decide) hm (fun hm => ?_) (fun hm => ?_)
          · refine lv_iconst (v := (nI 0)) hx hb dX11_isWord_82 (by decide) ?_
            refine lv_istore_n (lv' := [(2, .int (nI 0)), (4, .int (nI 0)), (0, .ref (ad 22)), (1, .int y1), (3, .int y3)]) hx hb dX11_isWord_83 rfl hl (by decide) rfl (fun ls hl => ?_)
            refine x_iinc (lv' := fun x2 => [(3, .int x2), (2, .int (nI 0)), (4, .int (nI 0)), (0, .ref (ad 22)), (1, .int y1)]) hx hb dX11_isWord_84 hl (k := 4) rfl (by decide) (v0 := (nI 1)) (by decide) (fun _ => rfl) hm (fun x2 ls hm hl => ?_)
            refine lv_goto (tgt := 22) hx hb dX11_isWord_87 (by decide) ?_
            exact ih y1 (nI 0) x2 hm ls (lv_sub hl [3, 4, 1, 0] rfl)
          · refine lv_iconst (v := (nI 1)) hx hb dX11_isWord_78 (by decide) ?_
            refine lv_goto (tgt := 83) hx hb dX11_isWord_79 (by decide) ?_
            refine lv_istore_n (lv' := [(2, .int (nI 1)), (4, .int (nI 0)), (0, .ref (ad 22)), (1, .int y1), (3, .int y3)]) hx hb dX11_isWord_83 rfl hl (by decide) rfl (fun ls hl => ?_)
            refine x_iinc (lv' := fun x3 => [(3, .int x3), (2, .int (nI 1)), (4, .int (nI 0)), (0, .ref (ad 22)), (1, .int y1)]) hx hb dX11_isWord_84 hl (k := 4) rfl (by decide) (v0 := (nI 1)) (by decide) (fun _ => rfl) hm (fun x3 ls hm hl => ?_)
            refine lv_goto (tgt := 22) hx hb dX11_isWord_87 (by decide) ?_
            exact ih y1 (nI 1) x3 hm ls (lv_sub hl [3, 4, 1, 0] rfl)
        · refine lv_aload_n hx hb dX11_isWord_45 rfl (lv_at hl 0 rfl) ?_
          refine gf_X11_24 (v := .ref (ad 5)) hx hb hT hown hK hP 0 rfl rfl dX11_isWord_46 ?_
          refine lv_aload_n hx hb dX11_isWord_49 rfl (lv_at hl 0 rfl) ?_
          refine gf_X11_75 (v := .int (S.2.1 8)) hx hb hT hown hK hP 0 rfl rfl dX11_isWord_50 ?_
          refine lv_iload_n hx hb dX11_isWord_53 rfl (lv_at hl 3 rfl) ?_
          refine lv_iadd hx hb dX11_isWord_54 ?_
          refine x_iald hx hb hK hP 4 rfl hm dX11_isWord_55 (fun v4 hm => ?_)
          refine lv_goto (tgt := 60) hx hb dX11_isWord_56 (by decide) ?_
          refine lv_istore (lv' := [(4, .int v4), (0, .ref (ad 22)), (1, .int y1), (2, .int y2), (3, .int y3)]) hx hb dX11_isWord_60 hl (by decide) rfl (fun ls hl => ?_)
          refine lv_iload hx hb dX11_isWord_62 (lv_at hl 0 rfl) ?_
          refine lv_aload_n hx hb dX11_isWord_64 rfl (lv_at hl 1 rfl) ?_
          refine gf_X11_27 (v := .ref (ad 7)) hx hb hT hown hK hP 0 rfl rfl dX11_isWord_65 ?_
          refine lv_bipush (v := (nI 7)) hx hb dX11_isWord_68 (by decide) ?_
          refine lv_iload_n hx hb dX11_isWord_70 rfl (lv_at hl 2 rfl) ?_
          refine lv_imul hx hb dX11_isWord_71 ?_
          refine lv_iload_n hx hb dX11_isWord_72 rfl (lv_at hl 4 rfl) ?_
          refine lv_iadd hx hb dX11_isWord_73 ?_
          refine x_iald hx hb hK hP 5 rfl hm dX11_isWord_74 (fun v5 hm => ?_)
          refine x_icmp_ne (tgt := 82) hx hb dX11_isWord_75 (by decide) hm (fun hm => ?_) (fun hm => ?_)
          · refine lv_iconst (v := (nI 0)) hx hb dX11_isWord_82 (by decide) ?_
            refine lv_istore_n (lv' := [(2, .int (nI 0)), (4, .int v4), (0, .ref (ad 22)), (1, .int y1), (3, .int y3)]) hx hb dX11_isWord_83 rfl hl (by decide) rfl (fun ls hl => ?_)
            refine x_iinc (lv' := fun x6 => [(3, .int x6), (2, .int (nI 0)), (4, .int v4), (0, .ref (ad 22)), (1, .int y1)]) hx hb dX11_isWord_84 hl (k := 4) rfl (by decide) (v0 := (nI 1)) (by decide) (fun _ => rfl) hm (fun x6 ls hm hl => ?_)
            refine lv_goto (tgt := 22) hx hb dX11_isWord_87 (by decide) ?_
            exact ih y1 (nI 0) x6 hm ls (lv_sub hl [3, 4, 1, 0] rfl)
          · refine lv_iconst (v := (nI 1)) hx hb dX11_isWord_78 (by decide) ?_
            refine lv_goto (tgt := 83) hx hb dX11_isWord_79 (by decide) ?_
            refine lv_istore_n (lv' := [(2, .int (nI 1)), (4, .int v4), (0, .ref (ad 22)), (1, .int y1), (3, .int y3)]) hx hb dX11_isWord_83 rfl hl (by decide) rfl (fun ls hl => ?_)
            refine x_iinc (lv' := fun x7 => [(3, .int x7), (2, .int (nI 1)), (4, .int v4), (0, .ref (ad 22)), (1, .int y1)]) hx hb dX11_isWord_84 hl (k := 4) rfl (by decide) (v0 := (nI 1)) (by decide) (fun _ => rfl) hm (fun x7 ls hm hl => ?_)
            refine lv_goto (tgt := 22) hx hb dX11_isWord_87 (by decide) ?_
            exact ih y1 (nI 1) x7 hm ls (lv_sub hl [3, 4, 1, 0] rfl)
set_option maxHeartbeats 4000000 in
set_option maxRecDepth 100000 in
theorem tcX11_isWord (l : Launch) (D : va_G) (cs : CS) (ad : Nat → Nat) (S : MS) (a1 : Int32) (z : Int32) (hm : mX11_isWord S a1 = some z) : Met l yX11_isWord (Cond.code yX11_isWord cX11_isWord 5 (some .boolean) :: gw_tbl) ({ frames := 0, cells := 0, slots := 0, locals := 0 }) (PcR D cs (WM cs ad S) [.ref (ad 22), .int a1]) (QRi z) 0 0 NoF := by
  refine met_R rfl (Nat.le_of_ble_eq_true rfl) (fun p e s m below meth c E hP ls hl => ?_)
  obtain ⟨hx, hb, hr, hml, hown, hlk, hT, hN, hK⟩ := id E
  have hl : lv_has ls 5 [(0, .ref (ad 22)), (1, .int a1)] := hl
  unfold mX11_isWord at hm
  refine lv_aload_n hx hb dX11_isWord_0 rfl (lv_at hl 0 rfl) ?_
  refine gf_X11_72 (v := .int (S.2.1 9)) hx hb hT hown hK hP 0 rfl rfl dX11_isWord_1 ?_
  refine lv_aload_n hx hb dX11_isWord_4 rfl (lv_at hl 0 rfl) ?_
  refine gf_X11_75 (v := .int (S.2.1 8)) hx hb hT hown hK hP 0 rfl rfl dX11_isWord_5 ?_
  refine lv_isub hx hb dX11_isWord_8 ?_
  refine lv_bipush (v := (nI 7)) hx hb dX11_isWord_9 (by decide) ?_
  refine x_icmp_gt (tgt := 18) hx hb dX11_isWord_11 (by decide) hm (fun hm => ?_) (fun hm => ?_)
  · refine lv_iconst (v := (nI 0)) hx hb dX11_isWord_18 (by decide) ?_
    refine lv_istore_n (lv' := [(2, .int (nI 0)), (0, .ref (ad 22)), (1, .int a1)]) hx hb dX11_isWord_19 rfl hl (by decide) rfl (fun ls hl => ?_)
    refine lv_iconst (v := (nI 0)) hx hb dX11_isWord_20 (by decide) ?_
    refine lv_istore_n (lv' := [(3, .int (nI 0)), (2, .int (nI 0)), (0, .ref (ad 22)), (1, .int a1)]) hx hb dX11_isWord_21 rfl hl (by decide) rfl (fun ls hl => ?_)
    exact kX11_isWord_L22 E hP _ FU a1 (nI 0) (nI 0) hm ls (lv_sub hl [2, 3, 1, 0] rfl)
  · refine lv_iconst (v := (nI 1)) hx hb dX11_isWord_14 (by decide) ?_
    refine lv_goto (tgt := 19) hx hb dX11_isWord_15 (by decide) ?_
    refine lv_istore_n (lv' := [(2, .int (nI 1)), (0, .ref (ad 22)), (1, .int a1)]) hx hb dX11_isWord_19 rfl hl (by decide) rfl (fun ls hl => ?_)
    refine lv_iconst (v := (nI 0)) hx hb dX11_isWord_20 (by decide) ?_
    refine lv_istore_n (lv' := [(3, .int (nI 0)), (2, .int (nI 1)), (0, .ref (ad 22)), (1, .int a1)]) hx hb dX11_isWord_21 rfl hl (by decide) rfl (fun ls hl => ?_)
    exact kX11_isWord_L22 E hP _ FU a1 (nI 1) (nI 0) hm ls (lv_sub hl [2, 3, 1, 0] rfl)
noncomputable def mX11_wordHere_L2 (S : MS) : Nat → Int32 → Option Int32 := fun n => Nat.rec (motive := fun _ => Int32 → Option Int32) (fun _ => none) (fun _ rc => fun y1 => (if (nI 3) ≤ y1 then some (-1 : Int32) else (mX11_isLetter S (S.2.1 8)).bind fun r1 => (if r1 = 0 then nm (y1 + (nI 1)) fun x2 => rc x2 else (mX11_isWord S y1).bind fun r3 => (if r3 = 0 then nm (y1 + (nI 1)) fun x4 => rc x4 else some y1)))) n
theorem mX11_wordHere_L2_s (S : MS) (n : Nat) (y1 : Int32) : mX11_wordHere_L2 S (n + 1) y1 = (if (nI 3) ≤ y1 then some (-1 : Int32) else (mX11_isLetter S (S.2.1 8)).bind fun r1 => (if r1 = 0 then nm (y1 + (nI 1)) fun x2 => (mX11_wordHere_L2 S n) x2 else (mX11_isWord S y1).bind fun r3 => (if r3 = 0 then nm (y1 + (nI 1)) fun x4 => (mX11_wordHere_L2 S n) x4 else some y1))) := rfl
noncomputable def mX11_wordHere (S : MS) : Option Int32 := mX11_wordHere_L2 S FU (nI 0)
set_option maxHeartbeats 4000000 in
set_option maxRecDepth 100000 in
theorem kX11_wordHere_L2 {p : Program} {l : Launch} {e : Env} {s : State} {m : MethodId} {below : List Frame} {meth : Method} {c : Code} {D : va_G} {cs : CS}  {ad : Nat → Nat} {S : MS}  (E : EV p s m [.ref (ad 22)].toArray meth c cX11_wordHere 2 RX11 (some .int) D cs) (hP : va_P D classes (WM cs ad S) s.heap) (z : Int32) : ∀ (n : Nat) (y1 : Int32), mX11_wordHere_L2 S n y1 = some z → ∀ ls : Array Slot, lv_has ls 2 [(0, .ref (ad 22)), (1, .int y1)] → W p l e ({ frames := 2, cells := 0, slots := 0, locals := 43 }) s m [.ref (ad 22)].toArray below meth c s.heap [] 0 0 (MQ below (QRi z) [.ref (ad 22)].toArray s 0 0 NoF) (F0 m 2 ls []) := by
  obtain ⟨hx, hb, hr, hml, hown, hlk, hT, hN, hK⟩ := id E
  intro n
  induction n with
  | zero =>
    intro y1 hm
    exact nomatch (show (none : Option Int32) = some z from hm)
  | succ n ih =>
    intro y1 hm ls hl
    rw [mX11_wordHere_L2_s] at hm
    refine lv_iload_n hx hb dX11_wordHere_2 rfl (lv_at hl 1 rfl) ?_
    refine lv_iconst (v := (nI 3)) hx hb dX11_wordHere_3 (by decide) ?_
    refine x_icmp_ge (tgt := 34) hx hb dX11_wordHere_4 (by decide) hm (fun hm => ?_) (fun hm => ?_)
    · refine lv_iconst (v := (-1 : Int32)) hx hb dX11_wordHere_34 (by decide) ?_
      exact x_iretR hx hb hr hlk hm dX11_wordHere_35
    · refine lv_aload_n hx hb dX11_wordHere_7 rfl (lv_at hl 0 rfl) ?_
      refine lv_aload_n hx hb dX11_wordHere_8 rfl (lv_at hl 0 rfl) ?_
      refine gf_X11_75 (v := .int (S.2.1 8)) hx hb hT hown hK hP 0 rfl rfl dX11_wordHere_9 ?_
      refine xV_i (As := [.int (S.2.1 8)]) (rest := []) hx hb hml hown hT hN hK hP cw_X11_78 hm (fun z h => tcX11_isLetter l D cs ad S (S.2.1 8) z h) ⟨rfl, rfl⟩ ⟨by decide, by decide⟩ (b := (ad 22)) 0 rfl rfl rfl hl.1 rfl rfl (Nat.le_of_ble_eq_true rfl) dX11_wordHere_12 ⟨Nat.zero_le _, Nat.zero_le _⟩ (fun r1 hm => ?_)
      refine x_if_eq (tgt := 28) hx hb dX11_wordHere_15 (by decide) hm (fun hm => ?_) (fun hm => ?_)
      · refine x_iinc (lv' := fun x2 => [(1, .int x2), (0, .ref (ad 22))]) hx hb dX11_wordHere_28 hl (k := 1) rfl (by decide) (v0 := (nI 1)) (by decide) (fun _ => rfl) hm (fun x2 ls hm hl => ?_)
        refine lv_goto (tgt := 2) hx hb dX11_wordHere_31 (by decide) ?_
        exact ih x2 hm ls (lv_sub hl [1, 0] rfl)
      · refine lv_aload_n hx hb dX11_wordHere_18 rfl (lv_at hl 0 rfl) ?_
        refine lv_iload_n hx hb dX11_wordHere_19 rfl (lv_at hl 1 rfl) ?_
        refine xV_i (As := [.int y1]) (rest := []) hx hb hml hown hT hN hK hP cw_X11_85 hm (fun z h => tcX11_isWord l D cs ad S y1 z h) ⟨rfl, rfl⟩ ⟨by decide, by decide⟩ (b := (ad 22)) 0 rfl rfl rfl hl.1 rfl rfl (Nat.le_of_ble_eq_true rfl) dX11_wordHere_20 ⟨Nat.zero_le _, Nat.zero_le _⟩ (fun r3 hm => ?_)
        refine x_if_eq (tgt := 28) hx hb dX11_wordHere_23 (by decide) hm (fun hm => ?_) (fun hm => ?_)
        · refine x_iinc (lv' := fun x4 => [(1, .int x4), (0, .ref (ad 22))]) hx hb dX11_wordHere_28 hl (k := 1) rfl (by decide) (v0 := (nI 1)) (by decide) (fun _ => rfl) hm (fun x4 ls hm hl => ?_)
          refine lv_goto (tgt := 2) hx hb dX11_wordHere_31 (by decide) ?_
          exact ih x4 hm ls (lv_sub hl [1, 0] rfl)
        · refine lv_iload_n hx hb dX11_wordHere_26 rfl (lv_at hl 1 rfl) ?_
          exact x_iretR hx hb hr hlk hm dX11_wordHere_27
set_option maxHeartbeats 4000000 in
set_option maxRecDepth 100000 in
theorem tcX11_wordHere (l : Launch) (D : va_G) (cs : CS) (ad : Nat → Nat) (S : MS) (z : Int32) (hm : mX11_wordHere S = some z) : Met l yX11_wordHere (Cond.code yX11_wordHere cX11_wordHere 2 (some .int) :: gw_tbl) ({ frames := 2, cells := 0, slots := 0, locals := 43 }) (PcR D cs (WM cs ad S) [.ref (ad 22)]) (QRi z) 0 0 NoF := by
  refine met_R rfl (Nat.le_of_ble_eq_true rfl) (fun p e s m below meth c E hP ls hl => ?_)
  obtain ⟨hx, hb, hr, hml, hown, hlk, hT, hN, hK⟩ := id E
  have hl : lv_has ls 2 [(0, .ref (ad 22))] := hl
  unfold mX11_wordHere at hm
  refine lv_iconst (v := (nI 0)) hx hb dX11_wordHere_0 (by decide) ?_
  refine lv_istore_n (lv' := [(1, .int (nI 0)), (0, .ref (ad 22))]) hx hb dX11_wordHere_1 rfl hl (by decide) rfl (fun ls hl => ?_)
  exact kX11_wordHere_L2 E hP _ FU (nI 0) hm ls (lv_sub hl [1, 0] rfl)
noncomputable def mX11_numberHere (S : MS) (a1 : Int32) (a2 : Int32) : Option Int32 := (mX11_isFigure S (S.2.1 8)).bind fun r1 => (if r1 = 0 then some (-1 : Int32) else (if ((S.2.1 9) - (S.2.1 8)) ≤ (nI 2) then ald (S.1 5) 150 (S.2.1 8) fun v2 => nm (v2 - (nI 48)) fun x3 => (if ((S.2.1 9) - (S.2.1 8)) = (nI 2) then ald (S.1 5) 150 ((S.2.1 8) + (nI 1)) fun v5 => nm ((((nI 10) * x3) + v5) - (nI 48)) fun x6 => (mX11_in x6 a1 a2).bind fun r7 => (if r7 = 0 then some (-1 : Int32) else some x6) else (mX11_in x3 a1 a2).bind fun r4 => (if r4 = 0 then some (-1 : Int32) else some x3)) else some (-1 : Int32)))
set_option maxHeartbeats 4000000 in
set_option maxRecDepth 100000 in
theorem tcX11_numberHere (l : Launch) (D : va_G) (cs : CS) (ad : Nat → Nat) (S : MS) (a1 : Int32) (a2 : Int32) (z : Int32) (hm : mX11_numberHere S a1 a2 = some z) : Met l yX11_numberHere (Cond.code yX11_numberHere cX11_numberHere 4 (some .int) :: gw_tbl) ({ frames := 2, cells := 0, slots := 0, locals := 43 }) (PcR D cs (WM cs ad S) [.ref (ad 22), .int a1, .int a2]) (QRi z) 0 0 NoF := by
  refine met_R rfl (Nat.le_of_ble_eq_true rfl) (fun p e s m below meth c E hP ls hl => ?_)
  obtain ⟨hx, hb, hr, hml, hown, hlk, hT, hN, hK⟩ := id E
  have hl : lv_has ls 4 [(0, .ref (ad 22)), (1, .int a1), (2, .int a2)] := hl
  unfold mX11_numberHere at hm
  refine lv_aload_n hx hb dX11_numberHere_0 rfl (lv_at hl 0 rfl) ?_
  refine lv_aload_n hx hb dX11_numberHere_1 rfl (lv_at hl 0 rfl) ?_
  refine gf_X11_75 (v := .int (S.2.1 8)) hx hb hT hown hK hP 0 rfl rfl dX11_numberHere_2 ?_
  refine xV_i (As := [.int (S.2.1 8)]) (rest := []) hx hb hml hown hT hN hK hP cw_X11_82 hm (fun z h => tcX11_isFigure l D cs ad S (S.2.1 8) z h) ⟨rfl, rfl⟩ ⟨by decide, by decide⟩ (b := (ad 22)) 0 rfl rfl rfl hl.1 rfl rfl (Nat.le_of_ble_eq_true rfl) dX11_numberHere_5 ⟨Nat.zero_le _, Nat.zero_le _⟩ (fun r1 hm => ?_)
  refine x_if_eq (tgt := 24) hx hb dX11_numberHere_8 (by decide) hm (fun hm => ?_) (fun hm => ?_)
  · refine lv_iconst (v := (-1 : Int32)) hx hb dX11_numberHere_24 (by decide) ?_
    exact x_iretR hx hb hr hlk hm dX11_numberHere_25
  · refine lv_aload_n hx hb dX11_numberHere_11 rfl (lv_at hl 0 rfl) ?_
    refine gf_X11_72 (v := .int (S.2.1 9)) hx hb hT hown hK hP 0 rfl rfl dX11_numberHere_12 ?_
    refine lv_aload_n hx hb dX11_numberHere_15 rfl (lv_at hl 0 rfl) ?_
    refine gf_X11_75 (v := .int (S.2.1 8)) hx hb hT hown hK hP 0 rfl rfl dX11_numberHere_16 ?_
    refine lv_isub hx hb dX11_numberHere_19 ?_
    refine lv_iconst (v := (nI 2)) hx hb dX11_numberHere_20 (by decide) ?_
    refine x_icmp_le (tgt := 26) hx hb dX11_numberHere_21 (by decide) hm (fun hm => ?_) (fun hm => ?_)
    · refine lv_aload_n hx hb dX11_numberHere_26 rfl (lv_at hl 0 rfl) ?_
      refine gf_X11_24 (v := .ref (ad 5)) hx hb hT hown hK hP 0 rfl rfl dX11_numberHere_27 ?_
      refine lv_aload_n hx hb dX11_numberHere_30 rfl (lv_at hl 0 rfl) ?_
      refine gf_X11_75 (v := .int (S.2.1 8)) hx hb hT hown hK hP 0 rfl rfl dX11_numberHere_31 ?_
      refine x_iald hx hb hK hP 4 rfl hm dX11_numberHere_34 (fun v2 hm => ?_)
      refine lv_bipush (v := (nI 48)) hx hb dX11_numberHere_35 (by decide) ?_
      refine lv_isub hx hb dX11_numberHere_37 ?_
      refine xi_nm hm (fun x3 hm => ?_)
      refine lv_istore_n (lv' := [(3, .int x3), (0, .ref (ad 22)), (1, .int a1), (2, .int a2)]) hx hb dX11_numberHere_38 rfl hl (by decide) rfl (fun ls hl => ?_)
      refine lv_aload_n hx hb dX11_numberHere_39 rfl (lv_at hl 1 rfl) ?_
      refine gf_X11_72 (v := .int (S.2.1 9)) hx hb hT hown hK hP 0 rfl rfl dX11_numberHere_40 ?_
      refine lv_aload_n hx hb dX11_numberHere_43 rfl (lv_at hl 1 rfl) ?_
      refine gf_X11_75 (v := .int (S.2.1 8)) hx hb hT hown hK hP 0 rfl rfl dX11_numberHere_44 ?_
      refine lv_isub hx hb dX11_numberHere_47 ?_
      refine lv_iconst (v := (nI 2)) hx hb dX11_numberHere_48 (by decide) ?_
      refine x_icmp_ne (tgt := 74) hx hb dX11_numberHere_49 (by decide) hm (fun hm => ?_) (fun hm => ?_)
      · refine lv_iload_n hx hb dX11_numberHere_74 rfl (lv_at hl 0 rfl) ?_
        refine lv_istore_n (lv' := [(3, .int x3), (0, .ref (ad 22)), (1, .int a1), (2, .int a2)]) hx hb dX11_numberHere_75 rfl hl (by decide) rfl (fun ls hl => ?_)
        refine lv_iload_n hx hb dX11_numberHere_76 rfl (lv_at hl 0 rfl) ?_
        refine lv_iload_n hx hb dX11_numberHere_77 rfl (lv_at hl 2 rfl) ?_
        refine lv_iload_n hx hb dX11_numberHere_78 rfl (lv_at hl 3 rfl) ?_
        refine xS_i (As := [.int x3, .int a1, .int a2]) (rest := []) hx hb hml hown hT hN hK (hP.sub (ws' := []) [] rfl) cw_X11_52 hm (fun z h => tcX11_in l D cs x3 a1 a2 z h) ⟨rfl, rfl⟩ ⟨by decide, by decide⟩ hl.1 rfl rfl (Nat.le_of_ble_eq_true rfl) dX11_numberHere_79 ⟨Nat.zero_le _, Nat.zero_le _⟩ (fun r4 hm => ?_)
        refine x_if_eq (tgt := 89) hx hb dX11_numberHere_82 (by decide) hm (fun hm => ?_) (fun hm => ?_)
        · refine lv_iconst (v := (-1 : Int32)) hx hb dX11_numberHere_89 (by decide) ?_
          exact x_iretR hx hb hr hlk hm dX11_numberHere_90
        · refine lv_iload_n hx hb dX11_numberHere_85 rfl (lv_at hl 0 rfl) ?_
          refine lv_goto (tgt := 90) hx hb dX11_numberHere_86 (by decide) ?_
          exact x_iretR hx hb hr hlk hm dX11_numberHere_90
      · refine lv_bipush (v := (nI 10)) hx hb dX11_numberHere_52 (by decide) ?_
        refine lv_iload_n hx hb dX11_numberHere_54 rfl (lv_at hl 0 rfl) ?_
        refine lv_imul hx hb dX11_numberHere_55 ?_
        refine lv_aload_n hx hb dX11_numberHere_56 rfl (lv_at hl 1 rfl) ?_
        refine gf_X11_24 (v := .ref (ad 5)) hx hb hT hown hK hP 0 rfl rfl dX11_numberHere_57 ?_
        refine lv_aload_n hx hb dX11_numberHere_60 rfl (lv_at hl 1 rfl) ?_
        refine gf_X11_75 (v := .int (S.2.1 8)) hx hb hT hown hK hP 0 rfl rfl dX11_numberHere_61 ?_
        refine lv_iconst (v := (nI 1)) hx hb dX11_numberHere_64 (by decide) ?_
        refine lv_iadd hx hb dX11_numberHere_65 ?_
        refine x_iald hx hb hK hP 4 rfl hm dX11_numberHere_66 (fun v5 hm => ?_)
        refine lv_iadd hx hb dX11_numberHere_67 ?_
        refine lv_bipush (v := (nI 48)) hx hb dX11_numberHere_68 (by decide) ?_
        refine lv_isub hx hb dX11_numberHere_70 ?_
        refine lv_goto (tgt := 75) hx hb dX11_numberHere_71 (by decide) ?_
        refine xi_nm hm (fun x6 hm => ?_)
        refine lv_istore_n (lv' := [(3, .int x6), (0, .ref (ad 22)), (1, .int a1), (2, .int a2)]) hx hb dX11_numberHere_75 rfl hl (by decide) rfl (fun ls hl => ?_)
        refine lv_iload_n hx hb dX11_numberHere_76 rfl (lv_at hl 0 rfl) ?_
        refine lv_iload_n hx hb dX11_numberHere_77 rfl (lv_at hl 2 rfl) ?_
        refine lv_iload_n hx hb dX11_numberHere_78 rfl (lv_at hl 3 rfl) ?_
        refine xS_i (As := [.int x6, .int a1, .int a2]) (rest := []) hx hb hml hown hT hN hK (hP.sub (ws' := []) [] rfl) cw_X11_52 hm (fun z h => tcX11_in l D cs x6 a1 a2 z h) ⟨rfl, rfl⟩ ⟨by decide, by decide⟩ hl.1 rfl rfl (Nat.le_of_ble_eq_true rfl) dX11_numberHere_79 ⟨Nat.zero_le _, Nat.zero_le _⟩ (fun r7 hm => ?_)
        refine x_if_eq (tgt := 89) hx hb dX11_numberHere_82 (by decide) hm (fun hm => ?_) (fun hm => ?_)
        · refine lv_iconst (v := (-1 : Int32)) hx hb dX11_numberHere_89 (by decide) ?_
          exact x_iretR hx hb hr hlk hm dX11_numberHere_90
        · refine lv_iload_n hx hb dX11_numberHere_85 rfl (lv_at hl 0 rfl) ?_
          refine lv_goto (tgt := 90) hx hb dX11_numberHere_86 (by decide) ?_
          exact x_iretR hx hb hr hlk hm dX11_numberHere_90
    · refine lv_iconst (v := (-1 : Int32)) hx hb dX11_numberHere_24 (by decide) ?_
      exact x_iretR hx hb hr hlk hm dX11_numberHere_25
noncomputable def mX11_isFiction (S : MS) (a1 : Int32) : Option Int32 := ald (S.1 0) 288 (nI 4) fun v1 => (mX11_in a1 (nI 0) (v1 - (nI 1))).bind fun r2 => zo r2 (some r2)
set_option maxHeartbeats 4000000 in
set_option maxRecDepth 100000 in
theorem tcX11_isFiction (l : Launch) (D : va_G) (cs : CS) (ad : Nat → Nat) (S : MS) (a1 : Int32) (z : Int32) (hm : mX11_isFiction S a1 = some z) : Met l yX11_isFiction (Cond.code yX11_isFiction cX11_isFiction 2 (some .boolean) :: gw_tbl) ({ frames := 1, cells := 0, slots := 0, locals := 22 }) (PcR D cs (WM cs ad S) [.ref (ad 22), .int a1]) (QRi z) 0 0 NoF := by
  refine met_R rfl (Nat.le_of_ble_eq_true rfl) (fun p e s m below meth c E hP ls hl => ?_)
  obtain ⟨hx, hb, hr, hml, hown, hlk, hT, hN, hK⟩ := id E
  have hl : lv_has ls 2 [(0, .ref (ad 22)), (1, .int a1)] := hl
  unfold mX11_isFiction at hm
  refine lv_iload_n hx hb dX11_isFiction_0 rfl (lv_at hl 1 rfl) ?_
  refine lv_iconst (v := (nI 0)) hx hb dX11_isFiction_1 (by decide) ?_
  refine lv_aload_n hx hb dX11_isFiction_2 rfl (lv_at hl 0 rfl) ?_
  refine gf_X11_7 (v := .ref (ad 0)) hx hb hT hown hK hP 0 rfl rfl dX11_isFiction_3 ?_
  refine lv_iconst (v := (nI 4)) hx hb dX11_isFiction_6 (by decide) ?_
  refine x_iald hx hb hK hP 1 rfl hm dX11_isFiction_7 (fun v1 hm => ?_)
  refine lv_iconst (v := (nI 1)) hx hb dX11_isFiction_8 (by decide) ?_
  refine lv_isub hx hb dX11_isFiction_9 ?_
  refine xS_i (As := [.int a1, .int (nI 0), .int (v1 - (nI 1))]) (rest := []) hx hb hml hown hT hN hK (hP.sub (ws' := []) [] rfl) cw_X11_52 hm (fun z h => tcX11_in l D cs a1 (nI 0) (v1 - (nI 1)) z h) ⟨rfl, rfl⟩ ⟨by decide, by decide⟩ hl.1 rfl rfl (Nat.le_of_ble_eq_true rfl) dX11_isFiction_10 ⟨Nat.zero_le _, Nat.zero_le _⟩ (fun r2 hm => ?_)
  exact x_zretR hx hb hr hlk hm dX11_isFiction_13
noncomputable def mX11_isCourt (S : MS) (a1 : Int32) : Option Int32 := ald (S.1 0) 288 (nI 29) fun v1 => (mX11_in a1 (nI 0) (v1 - (nI 1))).bind fun r2 => zo r2 (some r2)
set_option maxHeartbeats 4000000 in
set_option maxRecDepth 100000 in
theorem tcX11_isCourt (l : Launch) (D : va_G) (cs : CS) (ad : Nat → Nat) (S : MS) (a1 : Int32) (z : Int32) (hm : mX11_isCourt S a1 = some z) : Met l yX11_isCourt (Cond.code yX11_isCourt cX11_isCourt 2 (some .boolean) :: gw_tbl) ({ frames := 1, cells := 0, slots := 0, locals := 22 }) (PcR D cs (WM cs ad S) [.ref (ad 22), .int a1]) (QRi z) 0 0 NoF := by
  refine met_R rfl (Nat.le_of_ble_eq_true rfl) (fun p e s m below meth c E hP ls hl => ?_)
  obtain ⟨hx, hb, hr, hml, hown, hlk, hT, hN, hK⟩ := id E
  have hl : lv_has ls 2 [(0, .ref (ad 22)), (1, .int a1)] := hl
  unfold mX11_isCourt at hm
  refine lv_iload_n hx hb dX11_isCourt_0 rfl (lv_at hl 1 rfl) ?_
  refine lv_iconst (v := (nI 0)) hx hb dX11_isCourt_1 (by decide) ?_
  refine lv_aload_n hx hb dX11_isCourt_2 rfl (lv_at hl 0 rfl) ?_
  refine gf_X11_7 (v := .ref (ad 0)) hx hb hT hown hK hP 0 rfl rfl dX11_isCourt_3 ?_
  refine lv_bipush (v := (nI 29)) hx hb dX11_isCourt_6 (by decide) ?_
  refine x_iald hx hb hK hP 1 rfl hm dX11_isCourt_8 (fun v1 hm => ?_)
  refine lv_iconst (v := (nI 1)) hx hb dX11_isCourt_9 (by decide) ?_
  refine lv_isub hx hb dX11_isCourt_10 ?_
  refine xS_i (As := [.int a1, .int (nI 0), .int (v1 - (nI 1))]) (rest := []) hx hb hml hown hT hN hK (hP.sub (ws' := []) [] rfl) cw_X11_52 hm (fun z h => tcX11_in l D cs a1 (nI 0) (v1 - (nI 1)) z h) ⟨rfl, rfl⟩ ⟨by decide, by decide⟩ hl.1 rfl rfl (Nat.le_of_ble_eq_true rfl) dX11_isCourt_11 ⟨Nat.zero_le _, Nat.zero_le _⟩ (fun r2 hm => ?_)
  exact x_zretR hx hb hr hlk hm dX11_isCourt_14
noncomputable def mX11_supposedBy_L9 (S : MS) : Nat → Int32 → Int32 → Int32 → Option Int32 := fun n => Nat.rec (motive := fun _ => Int32 → Int32 → Int32 → Option Int32) (fun _ _ _ => none) (fun _ rc => fun y1 y2 y3 => ald (S.1 0) 288 (nI 4) fun v2 => (if v2 ≤ y3 then some y2 else (mX11_has y1 y3).bind fun r3 => (if r3 = 0 then nm (y2 ||| (nI 0)) fun x4 => nm (y3 + (nI 1)) fun x5 => rc y1 x4 x5 else ald (S.1 0) 288 ((nI 17) + y3) fun v6 => nm (y2 ||| ((nI 1) <<< (v6 &&& 31))) fun x7 => nm (y3 + (nI 1)) fun x8 => rc y1 x7 x8))) n
theorem mX11_supposedBy_L9_s (S : MS) (n : Nat) (y1 : Int32) (y2 : Int32) (y3 : Int32) : mX11_supposedBy_L9 S (n + 1) y1 y2 y3 = ald (S.1 0) 288 (nI 4) fun v2 => (if v2 ≤ y3 then some y2 else (mX11_has y1 y3).bind fun r3 => (if r3 = 0 then nm (y2 ||| (nI 0)) fun x4 => nm (y3 + (nI 1)) fun x5 => (mX11_supposedBy_L9 S n) y1 x4 x5 else ald (S.1 0) 288 ((nI 17) + y3) fun v6 => nm (y2 ||| ((nI 1) <<< (v6 &&& 31))) fun x7 => nm (y3 + (nI 1)) fun x8 => (mX11_supposedBy_L9 S n) y1 x7 x8)) := rfl
noncomputable def mX11_supposedBy (S : MS) (a1 : Int32) : Option Int32 := ald (S.1 0) 288 (nI 3) fun v1 => mX11_supposedBy_L9 S FU a1 v1 (nI 0)
set_option maxHeartbeats 4000000 in
set_option maxRecDepth 100000 in
theorem kX11_supposedBy_L9 {p : Program} {l : Launch} {e : Env} {s : State} {m : MethodId} {below : List Frame} {meth : Method} {c : Code} {D : va_G} {cs : CS}  {ad : Nat → Nat} {S : MS} {a1 : Int32} (E : EV p s m [.ref (ad 22), .int a1].toArray meth c cX11_supposedBy 4 RX11 (some .int) D cs) (hP : va_P D classes (WM cs ad S) s.heap) (z : Int32) : ∀ (n : Nat) (y1 : Int32) (y2 : Int32) (y3 : Int32), mX11_supposedBy_L9 S n y1 y2 y3 = some z → ∀ ls : Array Slot, lv_has ls 4 [(0, .ref (ad 22)), (1, .int y1), (2, .int y2), (3, .int y3)] → W p l e ({ frames := 1, cells := 0, slots := 0, locals := 21 }) s m [.ref (ad 22), .int a1].toArray below meth c s.heap [] 0 0 (MQ below (QRi z) [.ref (ad 22), .int a1].toArray s 0 0 NoF) (F0 m 9 ls []) := by
  obtain ⟨hx, hb, hr, hml, hown, hlk, hT, hN, hK⟩ := id E
  intro n
  induction n with
  | zero =>
    intro y1 y2 y3 hm
    exact nomatch (show (none : Option Int32) = some z from hm)
  | succ n ih =>
    intro y1 y2 y3 hm ls hl
    rw [mX11_supposedBy_L9_s] at hm
    refine lv_iload_n hx hb dX11_supposedBy_9 rfl (lv_at hl 3 rfl) ?_
    refine lv_aload_n hx hb dX11_supposedBy_10 rfl (lv_at hl 0 rfl) ?_
    refine gf_X11_7 (v := .ref (ad 0)) hx hb hT hown hK hP 0 rfl rfl dX11_supposedBy_11 ?_
    refine lv_iconst (v := (nI 4)) hx hb dX11_supposedBy_14 (by decide) ?_
    refine x_iald hx hb hK hP 1 rfl hm dX11_supposedBy_15 (fun v2 hm => ?_)
    refine x_icmp_ge (tgt := 51) hx hb dX11_supposedBy_16 (by decide) hm (fun hm => ?_) (fun hm => ?_)
    · refine lv_iload_n hx hb dX11_supposedBy_51 rfl (lv_at hl 2 rfl) ?_
      exact x_iretR hx hb hr hlk hm dX11_supposedBy_52
    · refine lv_iload_n hx hb dX11_supposedBy_19 rfl (lv_at hl 2 rfl) ?_
      refine lv_iload_n hx hb dX11_supposedBy_20 rfl (lv_at hl 1 rfl) ?_
      refine lv_iload_n hx hb dX11_supposedBy_21 rfl (lv_at hl 3 rfl) ?_
      refine xS_i (As := [.int y1, .int y3]) (rest := [.int y2]) hx hb hml hown hT hN hK (hP.sub (ws' := []) [] rfl) cw_X11_124 hm (fun z h => tcX11_has l D cs y1 y3 z h) ⟨rfl, rfl⟩ ⟨by decide, by decide⟩ hl.1 rfl rfl (Nat.le_of_ble_eq_true rfl) dX11_supposedBy_22 ⟨Nat.zero_le _, Nat.zero_le _⟩ (fun r3 hm => ?_)
      refine x_if_eq (tgt := 42) hx hb dX11_supposedBy_25 (by decide) hm (fun hm => ?_) (fun hm => ?_)
      · refine lv_iconst (v := (nI 0)) hx hb dX11_supposedBy_42 (by decide) ?_
        refine lv_ior hx hb dX11_supposedBy_43 ?_
        refine xi_nm hm (fun x4 hm => ?_)
        refine lv_istore_n (lv' := [(2, .int x4), (0, .ref (ad 22)), (1, .int y1), (3, .int y3)]) hx hb dX11_supposedBy_44 rfl hl (by decide) rfl (fun ls hl => ?_)
        refine x_iinc (lv' := fun x5 => [(3, .int x5), (2, .int x4), (0, .ref (ad 22)), (1, .int y1)]) hx hb dX11_supposedBy_45 hl (k := 3) rfl (by decide) (v0 := (nI 1)) (by decide) (fun _ => rfl) hm (fun x5 ls hm hl => ?_)
        refine lv_goto (tgt := 9) hx hb dX11_supposedBy_48 (by decide) ?_
        exact ih y1 x4 x5 hm ls (lv_sub hl [2, 3, 1, 0] rfl)
      · refine lv_iconst (v := (nI 1)) hx hb dX11_supposedBy_28 (by decide) ?_
        refine lv_aload_n hx hb dX11_supposedBy_29 rfl (lv_at hl 0 rfl) ?_
        refine gf_X11_7 (v := .ref (ad 0)) hx hb hT hown hK hP 0 rfl rfl dX11_supposedBy_30 ?_
        refine lv_bipush (v := (nI 17)) hx hb dX11_supposedBy_33 (by decide) ?_
        refine lv_iload_n hx hb dX11_supposedBy_35 rfl (lv_at hl 3 rfl) ?_
        refine lv_iadd hx hb dX11_supposedBy_36 ?_
        refine x_iald hx hb hK hP 1 rfl hm dX11_supposedBy_37 (fun v6 hm => ?_)
        refine lv_ishl hx hb dX11_supposedBy_38 ?_
        refine lv_goto (tgt := 43) hx hb dX11_supposedBy_39 (by decide) ?_
        refine lv_ior hx hb dX11_supposedBy_43 ?_
        refine xi_nm hm (fun x7 hm => ?_)
        refine lv_istore_n (lv' := [(2, .int x7), (0, .ref (ad 22)), (1, .int y1), (3, .int y3)]) hx hb dX11_supposedBy_44 rfl hl (by decide) rfl (fun ls hl => ?_)
        refine x_iinc (lv' := fun x8 => [(3, .int x8), (2, .int x7), (0, .ref (ad 22)), (1, .int y1)]) hx hb dX11_supposedBy_45 hl (k := 3) rfl (by decide) (v0 := (nI 1)) (by decide) (fun _ => rfl) hm (fun x8 ls hm hl => ?_)
        refine lv_goto (tgt := 9) hx hb dX11_supposedBy_48 (by decide) ?_
        exact ih y1 x7 x8 hm ls (lv_sub hl [2, 3, 1, 0] rfl)
set_option maxHeartbeats 4000000 in
set_option maxRecDepth 100000 in
theorem tcX11_supposedBy (l : Launch) (D : va_G) (cs : CS) (ad : Nat → Nat) (S : MS) (a1 : Int32) (z : Int32) (hm : mX11_supposedBy S a1 = some z) : Met l yX11_supposedBy (Cond.code yX11_supposedBy cX11_supposedBy 4 (some .int) :: gw_tbl) ({ frames := 1, cells := 0, slots := 0, locals := 21 }) (PcR D cs (WM cs ad S) [.ref (ad 22), .int a1]) (QRi z) 0 0 NoF := by
  refine met_R rfl (Nat.le_of_ble_eq_true rfl) (fun p e s m below meth c E hP ls hl => ?_)
  obtain ⟨hx, hb, hr, hml, hown, hlk, hT, hN, hK⟩ := id E
  have hl : lv_has ls 4 [(0, .ref (ad 22)), (1, .int a1)] := hl
  unfold mX11_supposedBy at hm
  refine lv_aload_n hx hb dX11_supposedBy_0 rfl (lv_at hl 0 rfl) ?_
  refine gf_X11_7 (v := .ref (ad 0)) hx hb hT hown hK hP 0 rfl rfl dX11_supposedBy_1 ?_
  refine lv_iconst (v := (nI 3)) hx hb dX11_supposedBy_4 (by decide) ?_
  refine x_iald hx hb hK hP 1 rfl hm dX11_supposedBy_5 (fun v1 hm => ?_)
  refine lv_istore_n (lv' := [(2, .int v1), (0, .ref (ad 22)), (1, .int a1)]) hx hb dX11_supposedBy_6 rfl hl (by decide) rfl (fun ls hl => ?_)
  refine lv_iconst (v := (nI 0)) hx hb dX11_supposedBy_7 (by decide) ?_
  refine lv_istore_n (lv' := [(3, .int (nI 0)), (2, .int v1), (0, .ref (ad 22)), (1, .int a1)]) hx hb dX11_supposedBy_8 rfl hl (by decide) rfl (fun ls hl => ?_)
  exact kX11_supposedBy_L9 E hP _ FU a1 v1 (nI 0) hm ls (lv_sub hl [2, 3, 1, 0] rfl)
noncomputable def mX11_cost (S : MS) (a1 : Int32) (a2 : Int32) : Option Int32 := ald (S.1 0) 288 ((nI 5) + a1) fun v1 => ald (S.1 0) 288 ((nI 23) + a1) fun v2 => (mX11_costBy v1 v2 a2).bind fun r3 => some r3
set_option maxHeartbeats 4000000 in
set_option maxRecDepth 100000 in
theorem tcX11_cost (l : Launch) (D : va_G) (cs : CS) (ad : Nat → Nat) (S : MS) (a1 : Int32) (a2 : Int32) (z : Int32) (hm : mX11_cost S a1 a2 = some z) : Met l yX11_cost (Cond.code yX11_cost cX11_cost 3 (some .int) :: gw_tbl) ({ frames := 1, cells := 0, slots := 0, locals := 22 }) (PcR D cs (WM cs ad S) [.ref (ad 22), .int a1, .int a2]) (QRi z) 0 0 NoF := by
  refine met_R rfl (Nat.le_of_ble_eq_true rfl) (fun p e s m below meth c E hP ls hl => ?_)
  obtain ⟨hx, hb, hr, hml, hown, hlk, hT, hN, hK⟩ := id E
  have hl : lv_has ls 3 [(0, .ref (ad 22)), (1, .int a1), (2, .int a2)] := hl
  unfold mX11_cost at hm
  refine lv_aload_n hx hb dX11_cost_0 rfl (lv_at hl 0 rfl) ?_
  refine gf_X11_7 (v := .ref (ad 0)) hx hb hT hown hK hP 0 rfl rfl dX11_cost_1 ?_
  refine lv_iconst (v := (nI 5)) hx hb dX11_cost_4 (by decide) ?_
  refine lv_iload_n hx hb dX11_cost_5 rfl (lv_at hl 1 rfl) ?_
  refine lv_iadd hx hb dX11_cost_6 ?_
  refine x_iald hx hb hK hP 1 rfl hm dX11_cost_7 (fun v1 hm => ?_)
  refine lv_aload_n hx hb dX11_cost_8 rfl (lv_at hl 0 rfl) ?_
  refine gf_X11_7 (v := .ref (ad 0)) hx hb hT hown hK hP 0 rfl rfl dX11_cost_9 ?_
  refine lv_bipush (v := (nI 23)) hx hb dX11_cost_12 (by decide) ?_
  refine lv_iload_n hx hb dX11_cost_14 rfl (lv_at hl 1 rfl) ?_
  refine lv_iadd hx hb dX11_cost_15 ?_
  refine x_iald hx hb hK hP 1 rfl hm dX11_cost_16 (fun v2 hm => ?_)
  refine lv_iload_n hx hb dX11_cost_17 rfl (lv_at hl 2 rfl) ?_
  refine xS_i (As := [.int v1, .int v2, .int a2]) (rest := []) hx hb hml hown hT hN hK (hP.sub (ws' := []) [] rfl) cw_X11_128 hm (fun z h => tcX11_costBy l D cs v1 v2 a2 z h) ⟨rfl, rfl⟩ ⟨by decide, by decide⟩ hl.1 rfl rfl (Nat.le_of_ble_eq_true rfl) dX11_cost_18 ⟨Nat.zero_le _, Nat.zero_le _⟩ (fun r3 hm => ?_)
  exact x_iretR hx hb hr hlk hm dX11_cost_21
noncomputable def mX11_wins (S : MS) (a1 : Int32) : Option Int32 := ald (S.1 0) 288 ((nI 11) + a1) fun v1 => ald (S.1 0) 288 (nI 3) fun v2 => (mX11_bits (v1 &&& (v2 ^^^ (-1 : Int32)))).bind fun r3 => ald (S.1 0) 288 ((nI 5) + a1) fun v4 => (if v4 = (nI 1) then (if r3 ≤ (nI 1) then zo (nI 0) (some (nI 0)) else zo (nI 1) (some (nI 1))) else if v4 = (nI 2) then zo (nI 0) (some (nI 0)) else if v4 = (nI 3) then (if r3 ≤ 0 then zo (nI 0) (some (nI 0)) else zo (nI 1) (some (nI 1))) else if v4 = (nI 4) then zo (nI 0) (some (nI 0)) else if v4 = (nI 5) then (if r3 ≤ (nI 2) then zo (nI 0) (some (nI 0)) else zo (nI 1) (some (nI 1))) else zo (nI 0) (some (nI 0)))
set_option maxHeartbeats 4000000 in
set_option maxRecDepth 100000 in
theorem tcX11_wins (l : Launch) (D : va_G) (cs : CS) (ad : Nat → Nat) (S : MS) (a1 : Int32) (z : Int32) (hm : mX11_wins S a1 = some z) : Met l yX11_wins (Cond.code yX11_wins cX11_wins 3 (some .boolean) :: gw_tbl) ({ frames := 1, cells := 0, slots := 0, locals := 22 }) (PcR D cs (WM cs ad S) [.ref (ad 22), .int a1]) (QRi z) 0 0 NoF := by
  refine met_R rfl (Nat.le_of_ble_eq_true rfl) (fun p e s m below meth c E hP ls hl => ?_)
  obtain ⟨hx, hb, hr, hml, hown, hlk, hT, hN, hK⟩ := id E
  have hl : lv_has ls 3 [(0, .ref (ad 22)), (1, .int a1)] := hl
  unfold mX11_wins at hm
  refine lv_aload_n hx hb dX11_wins_0 rfl (lv_at hl 0 rfl) ?_
  refine gf_X11_7 (v := .ref (ad 0)) hx hb hT hown hK hP 0 rfl rfl dX11_wins_1 ?_
  refine lv_bipush (v := (nI 11)) hx hb dX11_wins_4 (by decide) ?_
  refine lv_iload_n hx hb dX11_wins_6 rfl (lv_at hl 1 rfl) ?_
  refine lv_iadd hx hb dX11_wins_7 ?_
  refine x_iald hx hb hK hP 1 rfl hm dX11_wins_8 (fun v1 hm => ?_)
  refine lv_aload_n hx hb dX11_wins_9 rfl (lv_at hl 0 rfl) ?_
  refine gf_X11_7 (v := .ref (ad 0)) hx hb hT hown hK hP 0 rfl rfl dX11_wins_10 ?_
  refine lv_iconst (v := (nI 3)) hx hb dX11_wins_13 (by decide) ?_
  refine x_iald hx hb hK hP 1 rfl hm dX11_wins_14 (fun v2 hm => ?_)
  refine lv_iconst (v := (-1 : Int32)) hx hb dX11_wins_15 (by decide) ?_
  refine lv_ixor hx hb dX11_wins_16 ?_
  refine lv_iand hx hb dX11_wins_17 ?_
  refine xS_i (As := [.int (v1 &&& (v2 ^^^ (-1 : Int32)))]) (rest := []) hx hb hml hown hT hN hK (hP.sub (ws' := []) [] rfl) cw_X11_132 hm (fun z h => tcX11_bits l D cs (v1 &&& (v2 ^^^ (-1 : Int32))) z h) ⟨rfl, rfl⟩ ⟨by decide, by decide⟩ hl.1 rfl rfl (Nat.le_of_ble_eq_true rfl) dX11_wins_18 ⟨Nat.zero_le _, Nat.zero_le _⟩ (fun r3 hm => ?_)
  refine lv_istore_n (lv' := [(2, .int r3), (0, .ref (ad 22)), (1, .int a1)]) hx hb dX11_wins_21 rfl hl (by decide) rfl (fun ls hl => ?_)
  refine lv_aload_n hx hb dX11_wins_22 rfl (lv_at hl 1 rfl) ?_
  refine gf_X11_7 (v := .ref (ad 0)) hx hb hT hown hK hP 0 rfl rfl dX11_wins_23 ?_
  refine lv_iconst (v := (nI 5)) hx hb dX11_wins_26 (by decide) ?_
  refine lv_iload_n hx hb dX11_wins_27 rfl (lv_at hl 2 rfl) ?_
  refine lv_iadd hx hb dX11_wins_28 ?_
  refine x_iald hx hb hK hP 1 rfl hm dX11_wins_29 (fun v4 hm => ?_)
  rcases sw_c hm with ⟨e30_0, hm⟩ | ⟨e30_0, hm⟩
  · refine lv_tableIn (tgt := 64) (off := 34) hx hb dX11_wins_30 (by rw [e30_0]; decide) (by rw [e30_0]; decide) (by rw [e30_0]; rfl) (by decide) ?_
    refine lv_iload_n hx hb dX11_wins_64 rfl (lv_at hl 0 rfl) ?_
    refine lv_iconst (v := (nI 1)) hx hb dX11_wins_65 (by decide) ?_
    refine x_icmp_le (tgt := 73) hx hb dX11_wins_66 (by decide) hm (fun hm => ?_) (fun hm => ?_)
    · refine lv_iconst (v := (nI 0)) hx hb dX11_wins_73 (by decide) ?_
      exact x_zretR hx hb hr hlk hm dX11_wins_74
    · refine lv_iconst (v := (nI 1)) hx hb dX11_wins_69 (by decide) ?_
      refine lv_goto (tgt := 74) hx hb dX11_wins_70 (by decide) ?_
      exact x_zretR hx hb hr hlk hm dX11_wins_74
  rcases sw_c hm with ⟨e30_1, hm⟩ | ⟨e30_1, hm⟩
  · refine lv_tableIn (tgt := 96) (off := 66) hx hb dX11_wins_30 (by rw [e30_1]; decide) (by rw [e30_1]; decide) (by rw [e30_1]; rfl) (by decide) ?_
    refine lv_iconst (v := (nI 0)) hx hb dX11_wins_96 (by decide) ?_
    exact x_zretR hx hb hr hlk hm dX11_wins_97
  rcases sw_c hm with ⟨e30_2, hm⟩ | ⟨e30_2, hm⟩
  · refine lv_tableIn (tgt := 75) (off := 45) hx hb dX11_wins_30 (by rw [e30_2]; decide) (by rw [e30_2]; decide) (by rw [e30_2]; rfl) (by decide) ?_
    refine lv_iload_n hx hb dX11_wins_75 rfl (lv_at hl 0 rfl) ?_
    refine x_if_le (tgt := 83) hx hb dX11_wins_76 (by decide) hm (fun hm => ?_) (fun hm => ?_)
    · refine lv_iconst (v := (nI 0)) hx hb dX11_wins_83 (by decide) ?_
      exact x_zretR hx hb hr hlk hm dX11_wins_84
    · refine lv_iconst (v := (nI 1)) hx hb dX11_wins_79 (by decide) ?_
      refine lv_goto (tgt := 84) hx hb dX11_wins_80 (by decide) ?_
      exact x_zretR hx hb hr hlk hm dX11_wins_84
  rcases sw_c hm with ⟨e30_3, hm⟩ | ⟨e30_3, hm⟩
  · refine lv_tableIn (tgt := 96) (off := 66) hx hb dX11_wins_30 (by rw [e30_3]; decide) (by rw [e30_3]; decide) (by rw [e30_3]; rfl) (by decide) ?_
    refine lv_iconst (v := (nI 0)) hx hb dX11_wins_96 (by decide) ?_
    exact x_zretR hx hb hr hlk hm dX11_wins_97
  rcases sw_c hm with ⟨e30_4, hm⟩ | ⟨e30_4, hm⟩
  · refine lv_tableIn (tgt := 85) (off := 55) hx hb dX11_wins_30 (by rw [e30_4]; decide) (by rw [e30_4]; decide) (by rw [e30_4]; rfl) (by decide) ?_
    refine lv_iload_n hx hb dX11_wins_85 rfl (lv_at hl 0 rfl) ?_
    refine lv_iconst (v := (nI 2)) hx hb dX11_wins_86 (by decide) ?_
    refine x_icmp_le (tgt := 94) hx hb dX11_wins_87 (by decide) hm (fun hm => ?_) (fun hm => ?_)
    · refine lv_iconst (v := (nI 0)) hx hb dX11_wins_94 (by decide) ?_
      exact x_zretR hx hb hr hlk hm dX11_wins_95
    · refine lv_iconst (v := (nI 1)) hx hb dX11_wins_90 (by decide) ?_
      refine lv_goto (tgt := 95) hx hb dX11_wins_91 (by decide) ?_
      exact x_zretR hx hb hr hlk hm dX11_wins_95
  refine lv_tableOut (tgt := 96) hx hb dX11_wins_30 (sw_out_1_5 e30_0 e30_1 e30_2 e30_3 e30_4) (by decide) ?_
  refine lv_iconst (v := (nI 0)) hx hb dX11_wins_96 (by decide) ?_
  exact x_zretR hx hb hr hlk hm dX11_wins_97
noncomputable def mX11_mayPlead (S : MS) (a1 : Int32) (a2 : Int32) (a3 : Int32) : Option Int32 := ald (S.1 0) 288 ((nI 11) + a1) fun v1 => (mX11_supposedBy S a2).bind fun r2 => nm (v1 &&& r2) fun x3 => (if x3 = v1 then (mX11_has a2 a1).bind fun r6 => (if r6 = 0 then ald (S.1 0) 288 ((nI 5) + a1) fun v7 => (if v7 = (nI 2) then zo (nI 1) (some (nI 1)) else if v7 = (nI 3) then (if (a3 - a3 / (nI 2) * (nI 2)) = (nI 1) then zo (nI 1) (some (nI 1)) else zo (nI 0) (some (nI 0))) else if v7 = (nI 4) then zo (nI 1) (some (nI 1)) else if v7 = (nI 5) then zo (nI 1) (some (nI 1)) else zo (nI 1) (some (nI 1))) else zo (nI 0) (some (nI 0))) else (mX11_has a2 a1).bind fun r4 => (if r4 = 0 then ald (S.1 0) 288 ((nI 5) + a1) fun v5 => (if v5 = (nI 2) then (if a3 = 0 then zo (nI 1) (some (nI 1)) else zo (nI 0) (some (nI 0))) else if v5 = (nI 3) then zo (nI 0) (some (nI 0)) else if v5 = (nI 4) then (if x3 = 0 then zo (nI 0) (some (nI 0)) else zo (nI 1) (some (nI 1))) else if v5 = (nI 5) then (if a3 = 0 then zo (nI 1) (some (nI 1)) else zo (nI 0) (some (nI 0))) else zo (nI 0) (some (nI 0))) else zo (nI 0) (some (nI 0))))
set_option maxHeartbeats 4000000 in
set_option maxRecDepth 100000 in
theorem tcX11_mayPlead (l : Launch) (D : va_G) (cs : CS) (ad : Nat → Nat) (S : MS) (a1 : Int32) (a2 : Int32) (a3 : Int32) (z : Int32) (hm : mX11_mayPlead S a1 a2 a3 = some z) : Met l yX11_mayPlead (Cond.code yX11_mayPlead cX11_mayPlead 7 (some .boolean) :: gw_tbl) ({ frames := 2, cells := 0, slots := 0, locals := 44 }) (PcR D cs (WM cs ad S) [.ref (ad 22), .int a1, .int a2, .int a3]) (QRi z) 0 0 NoF := by
  refine met_R rfl (Nat.le_of_ble_eq_true rfl) (fun p e s m below meth c E hP ls hl => ?_)
  obtain ⟨hx, hb, hr, hml, hown, hlk, hT, hN, hK⟩ := id E
  have hl : lv_has ls 7 [(0, .ref (ad 22)), (1, .int a1), (2, .int a2), (3, .int a3)] := hl
  unfold mX11_mayPlead at hm
  refine lv_aload_n hx hb dX11_mayPlead_0 rfl (lv_at hl 0 rfl) ?_
  refine gf_X11_7 (v := .ref (ad 0)) hx hb hT hown hK hP 0 rfl rfl dX11_mayPlead_1 ?_
  refine lv_bipush (v := (nI 11)) hx hb dX11_mayPlead_4 (by decide) ?_
  refine lv_iload_n hx hb dX11_mayPlead_6 rfl (lv_at hl 1 rfl) ?_
  refine lv_iadd hx hb dX11_mayPlead_7 ?_
  refine x_iald hx hb hK hP 1 rfl hm dX11_mayPlead_8 (fun v1 hm => ?_)
  refine lv_istore (lv' := [(4, .int v1), (0, .ref (ad 22)), (1, .int a1), (2, .int a2), (3, .int a3)]) hx hb dX11_mayPlead_9 hl (by decide) rfl (fun ls hl => ?_)
  refine lv_iload hx hb dX11_mayPlead_11 (lv_at hl 0 rfl) ?_
  refine lv_aload_n hx hb dX11_mayPlead_13 rfl (lv_at hl 1 rfl) ?_
  refine lv_iload_n hx hb dX11_mayPlead_14 rfl (lv_at hl 3 rfl) ?_
  refine xV_i (As := [.int a2]) (rest := [.int v1]) hx hb hml hown hT hN hK hP cw_X11_135 hm (fun z h => tcX11_supposedBy l D cs ad S a2 z h) ⟨rfl, rfl⟩ ⟨by decide, by decide⟩ (b := (ad 22)) 0 rfl rfl rfl hl.1 rfl rfl (Nat.le_of_ble_eq_true rfl) dX11_mayPlead_15 ⟨Nat.zero_le _, Nat.zero_le _⟩ (fun r2 hm => ?_)
  refine lv_iand hx hb dX11_mayPlead_18 ?_
  refine xi_nm hm (fun x3 hm => ?_)
  refine lv_istore (lv' := [(5, .int x3), (4, .int v1), (0, .ref (ad 22)), (1, .int a1), (2, .int a2), (3, .int a3)]) hx hb dX11_mayPlead_19 hl (by decide) rfl (fun ls hl => ?_)
  refine lv_iload hx hb dX11_mayPlead_21 (lv_at hl 0 rfl) ?_
  refine lv_iload hx hb dX11_mayPlead_23 (lv_at hl 1 rfl) ?_
  refine x_icmp_ne (tgt := 32) hx hb dX11_mayPlead_25 (by decide) hm (fun hm => ?_) (fun hm => ?_)
  · refine lv_iconst (v := (nI 0)) hx hb dX11_mayPlead_32 (by decide) ?_
    refine lv_istore (lv' := [(6, .int (nI 0)), (5, .int x3), (4, .int v1), (0, .ref (ad 22)), (1, .int a1), (2, .int a2), (3, .int a3)]) hx hb dX11_mayPlead_33 hl (by decide) rfl (fun ls hl => ?_)
    refine lv_iload_n hx hb dX11_mayPlead_35 rfl (lv_at hl 5 rfl) ?_
    refine lv_iload_n hx hb dX11_mayPlead_36 rfl (lv_at hl 4 rfl) ?_
    refine xS_i (As := [.int a2, .int a1]) (rest := []) hx hb hml hown hT hN hK (hP.sub (ws' := []) [] rfl) cw_X11_124 hm (fun z h => tcX11_has l D cs a2 a1 z h) ⟨rfl, rfl⟩ ⟨by decide, by decide⟩ hl.1 rfl rfl (Nat.le_of_ble_eq_true rfl) dX11_mayPlead_37 ⟨Nat.zero_le _, Nat.zero_le _⟩ (fun r4 hm => ?_)
    refine x_if_eq (tgt := 45) hx hb dX11_mayPlead_40 (by decide) hm (fun hm => ?_) (fun hm => ?_)
    · refine lv_aload_n hx hb dX11_mayPlead_45 rfl (lv_at hl 3 rfl) ?_
      refine gf_X11_7 (v := .ref (ad 0)) hx hb hT hown hK hP 0 rfl rfl dX11_mayPlead_46 ?_
      refine lv_iconst (v := (nI 5)) hx hb dX11_mayPlead_49 (by decide) ?_
      refine lv_iload_n hx hb dX11_mayPlead_50 rfl (lv_at hl 4 rfl) ?_
      refine lv_iadd hx hb dX11_mayPlead_51 ?_
      refine x_iald hx hb hK hP 1 rfl hm dX11_mayPlead_52 (fun v5 hm => ?_)
      rcases sw_c hm with ⟨e53_0, hm⟩ | ⟨e53_0, hm⟩
      · refine lv_tableIn (tgt := 84) (off := 31) hx hb dX11_mayPlead_53 (by rw [e53_0]; decide) (by rw [e53_0]; decide) (by rw [e53_0]; rfl) (by decide) ?_
        refine lv_iload hx hb dX11_mayPlead_84 (lv_at hl 0 rfl) ?_
        refine lv_if_ne (tgt := 93) hx hb dX11_mayPlead_86 (by decide) (fun h => absurd h (by decide)) (fun _ => ?_)
        refine lv_iload_n hx hb dX11_mayPlead_89 rfl (lv_at hl 6 rfl) ?_
        refine x_if_ne (tgt := 97) hx hb dX11_mayPlead_90 (by decide) hm (fun hm => ?_) (fun hm => ?_)
        · refine lv_iconst (v := (nI 0)) hx hb dX11_mayPlead_97 (by decide) ?_
          exact x_zretR hx hb hr hlk hm dX11_mayPlead_98
        · refine lv_iconst (v := (nI 1)) hx hb dX11_mayPlead_93 (by decide) ?_
          refine lv_goto (tgt := 98) hx hb dX11_mayPlead_94 (by decide) ?_
          exact x_zretR hx hb hr hlk hm dX11_mayPlead_98
      rcases sw_c hm with ⟨e53_1, hm⟩ | ⟨e53_1, hm⟩
      · refine lv_tableIn (tgt := 99) (off := 46) hx hb dX11_mayPlead_53 (by rw [e53_1]; decide) (by rw [e53_1]; decide) (by rw [e53_1]; rfl) (by decide) ?_
        refine lv_iload hx hb dX11_mayPlead_99 (lv_at hl 0 rfl) ?_
        refine lv_if_eq (tgt := 115) hx hb dX11_mayPlead_101 (by decide) (fun _ => ?_) (fun h => absurd h (by decide))
        refine lv_iconst (v := (nI 0)) hx hb dX11_mayPlead_115 (by decide) ?_
        exact x_zretR hx hb hr hlk hm dX11_mayPlead_116
      rcases sw_c hm with ⟨e53_2, hm⟩ | ⟨e53_2, hm⟩
      · refine lv_tableIn (tgt := 117) (off := 64) hx hb dX11_mayPlead_53 (by rw [e53_2]; decide) (by rw [e53_2]; decide) (by rw [e53_2]; rfl) (by decide) ?_
        refine lv_iload hx hb dX11_mayPlead_117 (lv_at hl 0 rfl) ?_
        refine lv_if_ne (tgt := 127) hx hb dX11_mayPlead_119 (by decide) (fun h => absurd h (by decide)) (fun _ => ?_)
        refine lv_iload hx hb dX11_mayPlead_122 (lv_at hl 1 rfl) ?_
        refine x_if_eq (tgt := 131) hx hb dX11_mayPlead_124 (by decide) hm (fun hm => ?_) (fun hm => ?_)
        · refine lv_iconst (v := (nI 0)) hx hb dX11_mayPlead_131 (by decide) ?_
          exact x_zretR hx hb hr hlk hm dX11_mayPlead_132
        · refine lv_iconst (v := (nI 1)) hx hb dX11_mayPlead_127 (by decide) ?_
          refine lv_goto (tgt := 132) hx hb dX11_mayPlead_128 (by decide) ?_
          exact x_zretR hx hb hr hlk hm dX11_mayPlead_132
      rcases sw_c hm with ⟨e53_3, hm⟩ | ⟨e53_3, hm⟩
      · refine lv_tableIn (tgt := 84) (off := 31) hx hb dX11_mayPlead_53 (by rw [e53_3]; decide) (by rw [e53_3]; decide) (by rw [e53_3]; rfl) (by decide) ?_
        refine lv_iload hx hb dX11_mayPlead_84 (lv_at hl 0 rfl) ?_
        refine lv_if_ne (tgt := 93) hx hb dX11_mayPlead_86 (by decide) (fun h => absurd h (by decide)) (fun _ => ?_)
        refine lv_iload_n hx hb dX11_mayPlead_89 rfl (lv_at hl 6 rfl) ?_
        refine x_if_ne (tgt := 97) hx hb dX11_mayPlead_90 (by decide) hm (fun hm => ?_) (fun hm => ?_)
        · refine lv_iconst (v := (nI 0)) hx hb dX11_mayPlead_97 (by decide) ?_
          exact x_zretR hx hb hr hlk hm dX11_mayPlead_98
        · refine lv_iconst (v := (nI 1)) hx hb dX11_mayPlead_93 (by decide) ?_
          refine lv_goto (tgt := 98) hx hb dX11_mayPlead_94 (by decide) ?_
          exact x_zretR hx hb hr hlk hm dX11_mayPlead_98
      refine lv_tableOut (tgt := 133) hx hb dX11_mayPlead_53 (sw_out_2_4 e53_0 e53_1 e53_2 e53_3) (by decide) ?_
      refine lv_iload hx hb dX11_mayPlead_133 (lv_at hl 0 rfl) ?_
      exact x_zretR hx hb hr hlk hm dX11_mayPlead_135
    · refine lv_iconst (v := (nI 0)) hx hb dX11_mayPlead_43 (by decide) ?_
      exact x_zretR hx hb hr hlk hm dX11_mayPlead_44
  · refine lv_iconst (v := (nI 1)) hx hb dX11_mayPlead_28 (by decide) ?_
    refine lv_goto (tgt := 33) hx hb dX11_mayPlead_29 (by decide) ?_
    refine lv_istore (lv' := [(6, .int (nI 1)), (5, .int x3), (4, .int v1), (0, .ref (ad 22)), (1, .int a1), (2, .int a2), (3, .int a3)]) hx hb dX11_mayPlead_33 hl (by decide) rfl (fun ls hl => ?_)
    refine lv_iload_n hx hb dX11_mayPlead_35 rfl (lv_at hl 5 rfl) ?_
    refine lv_iload_n hx hb dX11_mayPlead_36 rfl (lv_at hl 4 rfl) ?_
    refine xS_i (As := [.int a2, .int a1]) (rest := []) hx hb hml hown hT hN hK (hP.sub (ws' := []) [] rfl) cw_X11_124 hm (fun z h => tcX11_has l D cs a2 a1 z h) ⟨rfl, rfl⟩ ⟨by decide, by decide⟩ hl.1 rfl rfl (Nat.le_of_ble_eq_true rfl) dX11_mayPlead_37 ⟨Nat.zero_le _, Nat.zero_le _⟩ (fun r6 hm => ?_)
    refine x_if_eq (tgt := 45) hx hb dX11_mayPlead_40 (by decide) hm (fun hm => ?_) (fun hm => ?_)
    · refine lv_aload_n hx hb dX11_mayPlead_45 rfl (lv_at hl 3 rfl) ?_
      refine gf_X11_7 (v := .ref (ad 0)) hx hb hT hown hK hP 0 rfl rfl dX11_mayPlead_46 ?_
      refine lv_iconst (v := (nI 5)) hx hb dX11_mayPlead_49 (by decide) ?_
      refine lv_iload_n hx hb dX11_mayPlead_50 rfl (lv_at hl 4 rfl) ?_
      refine lv_iadd hx hb dX11_mayPlead_51 ?_
      refine x_iald hx hb hK hP 1 rfl hm dX11_mayPlead_52 (fun v7 hm => ?_)
      rcases sw_c hm with ⟨e53_0, hm⟩ | ⟨e53_0, hm⟩
      · refine lv_tableIn (tgt := 84) (off := 31) hx hb dX11_mayPlead_53 (by rw [e53_0]; decide) (by rw [e53_0]; decide) (by rw [e53_0]; rfl) (by decide) ?_
        refine lv_iload hx hb dX11_mayPlead_84 (lv_at hl 0 rfl) ?_
        refine lv_if_ne (tgt := 93) hx hb dX11_mayPlead_86 (by decide) (fun _ => ?_) (fun h => absurd h (by decide))
        refine lv_iconst (v := (nI 1)) hx hb dX11_mayPlead_93 (by decide) ?_
        refine lv_goto (tgt := 98) hx hb dX11_mayPlead_94 (by decide) ?_
        exact x_zretR hx hb hr hlk hm dX11_mayPlead_98
      rcases sw_c hm with ⟨e53_1, hm⟩ | ⟨e53_1, hm⟩
      · refine lv_tableIn (tgt := 99) (off := 46) hx hb dX11_mayPlead_53 (by rw [e53_1]; decide) (by rw [e53_1]; decide) (by rw [e53_1]; rfl) (by decide) ?_
        refine lv_iload hx hb dX11_mayPlead_99 (lv_at hl 0 rfl) ?_
        refine lv_if_eq (tgt := 115) hx hb dX11_mayPlead_101 (by decide) (fun h => absurd h (by decide)) (fun _ => ?_)
        refine lv_iload_n hx hb dX11_mayPlead_104 rfl (lv_at hl 6 rfl) ?_
        refine lv_iconst (v := (nI 2)) hx hb dX11_mayPlead_105 (by decide) ?_
        refine lv_irem hx hb dX11_mayPlead_106 (by decide) ?_
        refine lv_iconst (v := (nI 1)) hx hb dX11_mayPlead_107 (by decide) ?_
        refine x_icmp_ne (tgt := 115) hx hb dX11_mayPlead_108 (by decide) hm (fun hm => ?_) (fun hm => ?_)
        · refine lv_iconst (v := (nI 0)) hx hb dX11_mayPlead_115 (by decide) ?_
          exact x_zretR hx hb hr hlk hm dX11_mayPlead_116
        · refine lv_iconst (v := (nI 1)) hx hb dX11_mayPlead_111 (by decide) ?_
          refine lv_goto (tgt := 116) hx hb dX11_mayPlead_112 (by decide) ?_
          exact x_zretR hx hb hr hlk hm dX11_mayPlead_116
      rcases sw_c hm with ⟨e53_2, hm⟩ | ⟨e53_2, hm⟩
      · refine lv_tableIn (tgt := 117) (off := 64) hx hb dX11_mayPlead_53 (by rw [e53_2]; decide) (by rw [e53_2]; decide) (by rw [e53_2]; rfl) (by decide) ?_
        refine lv_iload hx hb dX11_mayPlead_117 (lv_at hl 0 rfl) ?_
        refine lv_if_ne (tgt := 127) hx hb dX11_mayPlead_119 (by decide) (fun _ => ?_) (fun h => absurd h (by decide))
        refine lv_iconst (v := (nI 1)) hx hb dX11_mayPlead_127 (by decide) ?_
        refine lv_goto (tgt := 132) hx hb dX11_mayPlead_128 (by decide) ?_
        exact x_zretR hx hb hr hlk hm dX11_mayPlead_132
      rcases sw_c hm with ⟨e53_3, hm⟩ | ⟨e53_3, hm⟩
      · refine lv_tableIn (tgt := 84) (off := 31) hx hb dX11_mayPlead_53 (by rw [e53_3]; decide) (by rw [e53_3]; decide) (by rw [e53_3]; rfl) (by decide) ?_
        refine lv_iload hx hb dX11_mayPlead_84 (lv_at hl 0 rfl) ?_
        refine lv_if_ne (tgt := 93) hx hb dX11_mayPlead_86 (by decide) (fun _ => ?_) (fun h => absurd h (by decide))
        refine lv_iconst (v := (nI 1)) hx hb dX11_mayPlead_93 (by decide) ?_
        refine lv_goto (tgt := 98) hx hb dX11_mayPlead_94 (by decide) ?_
        exact x_zretR hx hb hr hlk hm dX11_mayPlead_98
      refine lv_tableOut (tgt := 133) hx hb dX11_mayPlead_53 (sw_out_2_4 e53_0 e53_1 e53_2 e53_3) (by decide) ?_
      refine lv_iload hx hb dX11_mayPlead_133 (lv_at hl 0 rfl) ?_
      exact x_zretR hx hb hr hlk hm dX11_mayPlead_135
    · refine lv_iconst (v := (nI 0)) hx hb dX11_mayPlead_43 (by decide) ?_
      exact x_zretR hx hb hr hlk hm dX11_mayPlead_44
noncomputable def mX11_nowOf (S : MS) (a1 : Int32) : Option Int32 := (if a1 = (nI 0) then ald (S.1 0) 288 (nI 0) fun v1 => (mX11_supposedBy S v1).bind fun r2 => some r2 else if a1 = (nI 1) then ald (S.1 0) 288 (nI 0) fun v3 => some v3 else if a1 = (nI 2) then ald (S.1 0) 288 (nI 1) fun v4 => some v4 else if a1 = (nI 3) then ald (S.1 0) 288 (nI 2) fun v5 => some v5 else ald (S.1 0) 288 (nI 3) fun v6 => some v6)
set_option maxHeartbeats 4000000 in
set_option maxRecDepth 100000 in
theorem tcX11_nowOf (l : Launch) (D : va_G) (cs : CS) (ad : Nat → Nat) (S : MS) (a1 : Int32) (z : Int32) (hm : mX11_nowOf S a1 = some z) : Met l yX11_nowOf (Cond.code yX11_nowOf cX11_nowOf 2 (some .int) :: gw_tbl) ({ frames := 2, cells := 0, slots := 0, locals := 44 }) (PcR D cs (WM cs ad S) [.ref (ad 22), .int a1]) (QRi z) 0 0 NoF := by
  refine met_R rfl (Nat.le_of_ble_eq_true rfl) (fun p e s m below meth c E hP ls hl => ?_)
  obtain ⟨hx, hb, hr, hml, hown, hlk, hT, hN, hK⟩ := id E
  have hl : lv_has ls 2 [(0, .ref (ad 22)), (1, .int a1)] := hl
  unfold mX11_nowOf at hm
  refine lv_iload_n hx hb dX11_nowOf_0 rfl (lv_at hl 1 rfl) ?_
  rcases sw_c hm with ⟨e1_0, hm⟩ | ⟨e1_0, hm⟩
  · refine lv_tableIn (tgt := 32) (off := 31) hx hb dX11_nowOf_1 (by rw [e1_0]; decide) (by rw [e1_0]; decide) (by rw [e1_0]; rfl) (by decide) ?_
    refine lv_aload_n hx hb dX11_nowOf_32 rfl (lv_at hl 0 rfl) ?_
    refine lv_aload_n hx hb dX11_nowOf_33 rfl (lv_at hl 0 rfl) ?_
    refine gf_X11_7 (v := .ref (ad 0)) hx hb hT hown hK hP 0 rfl rfl dX11_nowOf_34 ?_
    refine lv_iconst (v := (nI 0)) hx hb dX11_nowOf_37 (by decide) ?_
    refine x_iald hx hb hK hP 1 rfl hm dX11_nowOf_38 (fun v1 hm => ?_)
    refine xV_i (As := [.int v1]) (rest := []) hx hb hml hown hT hN hK hP cw_X11_135 hm (fun z h => tcX11_supposedBy l D cs ad S v1 z h) ⟨rfl, rfl⟩ ⟨by decide, by decide⟩ (b := (ad 22)) 0 rfl rfl rfl hl.1 rfl rfl (Nat.le_of_ble_eq_true rfl) dX11_nowOf_39 ⟨Nat.zero_le _, Nat.zero_le _⟩ (fun r2 hm => ?_)
    exact x_iretR hx hb hr hlk hm dX11_nowOf_42
  rcases sw_c hm with ⟨e1_1, hm⟩ | ⟨e1_1, hm⟩
  · refine lv_tableIn (tgt := 43) (off := 42) hx hb dX11_nowOf_1 (by rw [e1_1]; decide) (by rw [e1_1]; decide) (by rw [e1_1]; rfl) (by decide) ?_
    refine lv_aload_n hx hb dX11_nowOf_43 rfl (lv_at hl 0 rfl) ?_
    refine gf_X11_7 (v := .ref (ad 0)) hx hb hT hown hK hP 0 rfl rfl dX11_nowOf_44 ?_
    refine lv_iconst (v := (nI 0)) hx hb dX11_nowOf_47 (by decide) ?_
    refine x_iald hx hb hK hP 1 rfl hm dX11_nowOf_48 (fun v3 hm => ?_)
    exact x_iretR hx hb hr hlk hm dX11_nowOf_49
  rcases sw_c hm with ⟨e1_2, hm⟩ | ⟨e1_2, hm⟩
  · refine lv_tableIn (tgt := 50) (off := 49) hx hb dX11_nowOf_1 (by rw [e1_2]; decide) (by rw [e1_2]; decide) (by rw [e1_2]; rfl) (by decide) ?_
    refine lv_aload_n hx hb dX11_nowOf_50 rfl (lv_at hl 0 rfl) ?_
    refine gf_X11_7 (v := .ref (ad 0)) hx hb hT hown hK hP 0 rfl rfl dX11_nowOf_51 ?_
    refine lv_iconst (v := (nI 1)) hx hb dX11_nowOf_54 (by decide) ?_
    refine x_iald hx hb hK hP 1 rfl hm dX11_nowOf_55 (fun v4 hm => ?_)
    exact x_iretR hx hb hr hlk hm dX11_nowOf_56
  rcases sw_c hm with ⟨e1_3, hm⟩ | ⟨e1_3, hm⟩
  · refine lv_tableIn (tgt := 57) (off := 56) hx hb dX11_nowOf_1 (by rw [e1_3]; decide) (by rw [e1_3]; decide) (by rw [e1_3]; rfl) (by decide) ?_
    refine lv_aload_n hx hb dX11_nowOf_57 rfl (lv_at hl 0 rfl) ?_
    refine gf_X11_7 (v := .ref (ad 0)) hx hb hT hown hK hP 0 rfl rfl dX11_nowOf_58 ?_
    refine lv_iconst (v := (nI 2)) hx hb dX11_nowOf_61 (by decide) ?_
    refine x_iald hx hb hK hP 1 rfl hm dX11_nowOf_62 (fun v5 hm => ?_)
    exact x_iretR hx hb hr hlk hm dX11_nowOf_63
  refine lv_tableOut (tgt := 64) hx hb dX11_nowOf_1 (sw_out_0_4 e1_0 e1_1 e1_2 e1_3) (by decide) ?_
  refine lv_aload_n hx hb dX11_nowOf_64 rfl (lv_at hl 0 rfl) ?_
  refine gf_X11_7 (v := .ref (ad 0)) hx hb hT hown hK hP 0 rfl rfl dX11_nowOf_65 ?_
  refine lv_iconst (v := (nI 3)) hx hb dX11_nowOf_68 (by decide) ?_
  refine x_iald hx hb hK hP 1 rfl hm dX11_nowOf_69 (fun v6 hm => ?_)
  exact x_iretR hx hb hr hlk hm dX11_nowOf_70
noncomputable def mX11_may_L4 (S : MS) : Nat → Int32 → Int32 → Option Int32 := fun n => Nat.rec (motive := fun _ => Int32 → Int32 → Option Int32) (fun _ _ => none) (fun _ rc => fun y1 y2 => ald (S.1 0) 288 (nI 4) fun v1 => (if v1 ≤ y2 then some y1 else ald (S.1 0) 288 (nI 0) fun v2 => ald (S.1 0) 288 (nI 1) fun v3 => (mX11_mayPlead S y2 v2 v3).bind fun r4 => (if r4 = 0 then nm (y1 ||| (nI 0)) fun x5 => nm (y2 + (nI 1)) fun x6 => rc x5 x6 else nm (y1 ||| ((nI 1) <<< (y2 &&& 31))) fun x7 => nm (y2 + (nI 1)) fun x8 => rc x7 x8))) n
theorem mX11_may_L4_s (S : MS) (n : Nat) (y1 : Int32) (y2 : Int32) : mX11_may_L4 S (n + 1) y1 y2 = ald (S.1 0) 288 (nI 4) fun v1 => (if v1 ≤ y2 then some y1 else ald (S.1 0) 288 (nI 0) fun v2 => ald (S.1 0) 288 (nI 1) fun v3 => (mX11_mayPlead S y2 v2 v3).bind fun r4 => (if r4 = 0 then nm (y1 ||| (nI 0)) fun x5 => nm (y2 + (nI 1)) fun x6 => (mX11_may_L4 S n) x5 x6 else nm (y1 ||| ((nI 1) <<< (y2 &&& 31))) fun x7 => nm (y2 + (nI 1)) fun x8 => (mX11_may_L4 S n) x7 x8)) := rfl
noncomputable def mX11_may (S : MS) : Option Int32 := mX11_may_L4 S FU (nI 0) (nI 0)
set_option maxHeartbeats 4000000 in
set_option maxRecDepth 100000 in
theorem kX11_may_L4 {p : Program} {l : Launch} {e : Env} {s : State} {m : MethodId} {below : List Frame} {meth : Method} {c : Code} {D : va_G} {cs : CS}  {ad : Nat → Nat} {S : MS}  (E : EV p s m [.ref (ad 22)].toArray meth c cX11_may 3 RX11 (some .int) D cs) (hP : va_P D classes (WM cs ad S) s.heap) (z : Int32) : ∀ (n : Nat) (y1 : Int32) (y2 : Int32), mX11_may_L4 S n y1 y2 = some z → ∀ ls : Array Slot, lv_has ls 3 [(0, .ref (ad 22)), (1, .int y1), (2, .int y2)] → W p l e ({ frames := 3, cells := 0, slots := 0, locals := 70 }) s m [.ref (ad 22)].toArray below meth c s.heap [] 0 0 (MQ below (QRi z) [.ref (ad 22)].toArray s 0 0 NoF) (F0 m 4 ls []) := by
  obtain ⟨hx, hb, hr, hml, hown, hlk, hT, hN, hK⟩ := id E
  intro n
  induction n with
  | zero =>
    intro y1 y2 hm
    exact nomatch (show (none : Option Int32) = some z from hm)
  | succ n ih =>
    intro y1 y2 hm ls hl
    rw [mX11_may_L4_s] at hm
    refine lv_iload_n hx hb dX11_may_4 rfl (lv_at hl 2 rfl) ?_
    refine lv_aload_n hx hb dX11_may_5 rfl (lv_at hl 0 rfl) ?_
    refine gf_X11_7 (v := .ref (ad 0)) hx hb hT hown hK hP 0 rfl rfl dX11_may_6 ?_
    refine lv_iconst (v := (nI 4)) hx hb dX11_may_9 (by decide) ?_
    refine x_iald hx hb hK hP 1 rfl hm dX11_may_10 (fun v1 hm => ?_)
    refine x_icmp_ge (tgt := 50) hx hb dX11_may_11 (by decide) hm (fun hm => ?_) (fun hm => ?_)
    · refine lv_iload_n hx hb dX11_may_50 rfl (lv_at hl 1 rfl) ?_
      exact x_iretR hx hb hr hlk hm dX11_may_51
    · refine lv_iload_n hx hb dX11_may_14 rfl (lv_at hl 1 rfl) ?_
      refine lv_aload_n hx hb dX11_may_15 rfl (lv_at hl 0 rfl) ?_
      refine lv_iload_n hx hb dX11_may_16 rfl (lv_at hl 2 rfl) ?_
      refine lv_aload_n hx hb dX11_may_17 rfl (lv_at hl 0 rfl) ?_
      refine gf_X11_7 (v := .ref (ad 0)) hx hb hT hown hK hP 0 rfl rfl dX11_may_18 ?_
      refine lv_iconst (v := (nI 0)) hx hb dX11_may_21 (by decide) ?_
      refine x_iald hx hb hK hP 1 rfl hm dX11_may_22 (fun v2 hm => ?_)
      refine lv_aload_n hx hb dX11_may_23 rfl (lv_at hl 0 rfl) ?_
      refine gf_X11_7 (v := .ref (ad 0)) hx hb hT hown hK hP 0 rfl rfl dX11_may_24 ?_
      refine lv_iconst (v := (nI 1)) hx hb dX11_may_27 (by decide) ?_
      refine x_iald hx hb hK hP 1 rfl hm dX11_may_28 (fun v3 hm => ?_)
      refine xV_i (As := [.int y2, .int v2, .int v3]) (rest := [.int y1]) hx hb hml hown hT hN hK hP cw_X11_144 hm (fun z h => tcX11_mayPlead l D cs ad S y2 v2 v3 z h) ⟨rfl, rfl⟩ ⟨by decide, by decide⟩ (b := (ad 22)) 0 rfl rfl rfl hl.1 rfl rfl (Nat.le_of_ble_eq_true rfl) dX11_may_29 ⟨Nat.zero_le _, Nat.zero_le _⟩ (fun r4 hm => ?_)
      refine x_if_eq (tgt := 41) hx hb dX11_may_32 (by decide) hm (fun hm => ?_) (fun hm => ?_)
      · refine lv_iconst (v := (nI 0)) hx hb dX11_may_41 (by decide) ?_
        refine lv_ior hx hb dX11_may_42 ?_
        refine xi_nm hm (fun x5 hm => ?_)
        refine lv_istore_n (lv' := [(1, .int x5), (0, .ref (ad 22)), (2, .int y2)]) hx hb dX11_may_43 rfl hl (by decide) rfl (fun ls hl => ?_)
        refine x_iinc (lv' := fun x6 => [(2, .int x6), (1, .int x5), (0, .ref (ad 22))]) hx hb dX11_may_44 hl (k := 2) rfl (by decide) (v0 := (nI 1)) (by decide) (fun _ => rfl) hm (fun x6 ls hm hl => ?_)
        refine lv_goto (tgt := 4) hx hb dX11_may_47 (by decide) ?_
        exact ih x5 x6 hm ls (lv_sub hl [2, 1, 0] rfl)
      · refine lv_iconst (v := (nI 1)) hx hb dX11_may_35 (by decide) ?_
        refine lv_iload_n hx hb dX11_may_36 rfl (lv_at hl 2 rfl) ?_
        refine lv_ishl hx hb dX11_may_37 ?_
        refine lv_goto (tgt := 42) hx hb dX11_may_38 (by decide) ?_
        refine lv_ior hx hb dX11_may_42 ?_
        refine xi_nm hm (fun x7 hm => ?_)
        refine lv_istore_n (lv' := [(1, .int x7), (0, .ref (ad 22)), (2, .int y2)]) hx hb dX11_may_43 rfl hl (by decide) rfl (fun ls hl => ?_)
        refine x_iinc (lv' := fun x8 => [(2, .int x8), (1, .int x7), (0, .ref (ad 22))]) hx hb dX11_may_44 hl (k := 2) rfl (by decide) (v0 := (nI 1)) (by decide) (fun _ => rfl) hm (fun x8 ls hm hl => ?_)
        refine lv_goto (tgt := 4) hx hb dX11_may_47 (by decide) ?_
        exact ih x7 x8 hm ls (lv_sub hl [2, 1, 0] rfl)
set_option maxHeartbeats 4000000 in
set_option maxRecDepth 100000 in
theorem tcX11_may (l : Launch) (D : va_G) (cs : CS) (ad : Nat → Nat) (S : MS) (z : Int32) (hm : mX11_may S = some z) : Met l yX11_may (Cond.code yX11_may cX11_may 3 (some .int) :: gw_tbl) ({ frames := 3, cells := 0, slots := 0, locals := 70 }) (PcR D cs (WM cs ad S) [.ref (ad 22)]) (QRi z) 0 0 NoF := by
  refine met_R rfl (Nat.le_of_ble_eq_true rfl) (fun p e s m below meth c E hP ls hl => ?_)
  obtain ⟨hx, hb, hr, hml, hown, hlk, hT, hN, hK⟩ := id E
  have hl : lv_has ls 3 [(0, .ref (ad 22))] := hl
  unfold mX11_may at hm
  refine lv_iconst (v := (nI 0)) hx hb dX11_may_0 (by decide) ?_
  refine lv_istore_n (lv' := [(1, .int (nI 0)), (0, .ref (ad 22))]) hx hb dX11_may_1 rfl hl (by decide) rfl (fun ls hl => ?_)
  refine lv_iconst (v := (nI 0)) hx hb dX11_may_2 (by decide) ?_
  refine lv_istore_n (lv' := [(2, .int (nI 0)), (1, .int (nI 0)), (0, .ref (ad 22))]) hx hb dX11_may_3 rfl hl (by decide) rfl (fun ls hl => ?_)
  exact kX11_may_L4 E hP _ FU (nI 0) (nI 0) hm ls (lv_sub hl [2, 1, 0] rfl)
noncomputable def mX11_hears (S : MS) (a1 : Int32) (a2 : Int32) : Option Int32 := ald (S.1 0) 288 ((nI 30) + a1) fun v1 => (if (v1 &&& (a2 ^^^ (-1 : Int32))) = 0 then zo (nI 1) (some (nI 1)) else zo (nI 0) (some (nI 0)))
set_option maxHeartbeats 4000000 in
set_option maxRecDepth 100000 in
theorem tcX11_hears (l : Launch) (D : va_G) (cs : CS) (ad : Nat → Nat) (S : MS) (a1 : Int32) (a2 : Int32) (z : Int32) (hm : mX11_hears S a1 a2 = some z) : Met l yX11_hears (Cond.code yX11_hears cX11_hears 3 (some .boolean) :: gw_tbl) ({ frames := 0, cells := 0, slots := 0, locals := 0 }) (PcR D cs (WM cs ad S) [.ref (ad 22), .int a1, .int a2]) (QRi z) 0 0 NoF := by
  refine met_R rfl (Nat.le_of_ble_eq_true rfl) (fun p e s m below meth c E hP ls hl => ?_)
  obtain ⟨hx, hb, hr, hml, hown, hlk, hT, hN, hK⟩ := id E
  have hl : lv_has ls 3 [(0, .ref (ad 22)), (1, .int a1), (2, .int a2)] := hl
  unfold mX11_hears at hm
  refine lv_aload_n hx hb dX11_hears_0 rfl (lv_at hl 0 rfl) ?_
  refine gf_X11_7 (v := .ref (ad 0)) hx hb hT hown hK hP 0 rfl rfl dX11_hears_1 ?_
  refine lv_bipush (v := (nI 30)) hx hb dX11_hears_4 (by decide) ?_
  refine lv_iload_n hx hb dX11_hears_6 rfl (lv_at hl 1 rfl) ?_
  refine lv_iadd hx hb dX11_hears_7 ?_
  refine x_iald hx hb hK hP 1 rfl hm dX11_hears_8 (fun v1 hm => ?_)
  refine lv_iload_n hx hb dX11_hears_9 rfl (lv_at hl 2 rfl) ?_
  refine lv_iconst (v := (-1 : Int32)) hx hb dX11_hears_10 (by decide) ?_
  refine lv_ixor hx hb dX11_hears_11 ?_
  refine lv_iand hx hb dX11_hears_12 ?_
  refine x_if_ne (tgt := 20) hx hb dX11_hears_13 (by decide) hm (fun hm => ?_) (fun hm => ?_)
  · refine lv_iconst (v := (nI 0)) hx hb dX11_hears_20 (by decide) ?_
    exact x_zretR hx hb hr hlk hm dX11_hears_21
  · refine lv_iconst (v := (nI 1)) hx hb dX11_hears_16 (by decide) ?_
    refine lv_goto (tgt := 21) hx hb dX11_hears_17 (by decide) ?_
    exact x_zretR hx hb hr hlk hm dX11_hears_21
noncomputable def mX11_hearBy_L4 (S : MS) : Nat → Int32 → Int32 → Int32 → Option Int32 := fun n => Nat.rec (motive := fun _ => Int32 → Int32 → Int32 → Option Int32) (fun _ _ _ => none) (fun _ rc => fun y1 y2 y3 => ald (S.1 0) 288 (nI 29) fun v1 => (if v1 ≤ y3 then some y2 else (mX11_supposedBy S y1).bind fun r2 => (mX11_hears S y3 r2).bind fun r3 => (if r3 = 0 then nm (y2 ||| (nI 0)) fun x4 => nm (y3 + (nI 1)) fun x5 => rc y1 x4 x5 else nm (y2 ||| ((nI 1) <<< (y3 &&& 31))) fun x6 => nm (y3 + (nI 1)) fun x7 => rc y1 x6 x7))) n
theorem mX11_hearBy_L4_s (S : MS) (n : Nat) (y1 : Int32) (y2 : Int32) (y3 : Int32) : mX11_hearBy_L4 S (n + 1) y1 y2 y3 = ald (S.1 0) 288 (nI 29) fun v1 => (if v1 ≤ y3 then some y2 else (mX11_supposedBy S y1).bind fun r2 => (mX11_hears S y3 r2).bind fun r3 => (if r3 = 0 then nm (y2 ||| (nI 0)) fun x4 => nm (y3 + (nI 1)) fun x5 => (mX11_hearBy_L4 S n) y1 x4 x5 else nm (y2 ||| ((nI 1) <<< (y3 &&& 31))) fun x6 => nm (y3 + (nI 1)) fun x7 => (mX11_hearBy_L4 S n) y1 x6 x7)) := rfl
noncomputable def mX11_hearBy (S : MS) (a1 : Int32) : Option Int32 := mX11_hearBy_L4 S FU a1 (nI 0) (nI 0)
set_option maxHeartbeats 4000000 in
set_option maxRecDepth 100000 in
theorem kX11_hearBy_L4 {p : Program} {l : Launch} {e : Env} {s : State} {m : MethodId} {below : List Frame} {meth : Method} {c : Code} {D : va_G} {cs : CS}  {ad : Nat → Nat} {S : MS} {a1 : Int32} (E : EV p s m [.ref (ad 22), .int a1].toArray meth c cX11_hearBy 4 RX11 (some .int) D cs) (hP : va_P D classes (WM cs ad S) s.heap) (z : Int32) : ∀ (n : Nat) (y1 : Int32) (y2 : Int32) (y3 : Int32), mX11_hearBy_L4 S n y1 y2 y3 = some z → ∀ ls : Array Slot, lv_has ls 4 [(0, .ref (ad 22)), (1, .int y1), (2, .int y2), (3, .int y3)] → W p l e ({ frames := 2, cells := 0, slots := 0, locals := 44 }) s m [.ref (ad 22), .int a1].toArray below meth c s.heap [] 0 0 (MQ below (QRi z) [.ref (ad 22), .int a1].toArray s 0 0 NoF) (F0 m 4 ls []) := by
  obtain ⟨hx, hb, hr, hml, hown, hlk, hT, hN, hK⟩ := id E
  intro n
  induction n with
  | zero =>
    intro y1 y2 y3 hm
    exact nomatch (show (none : Option Int32) = some z from hm)
  | succ n ih =>
    intro y1 y2 y3 hm ls hl
    rw [mX11_hearBy_L4_s] at hm
    refine lv_iload_n hx hb dX11_hearBy_4 rfl (lv_at hl 3 rfl) ?_
    refine lv_aload_n hx hb dX11_hearBy_5 rfl (lv_at hl 0 rfl) ?_
    refine gf_X11_7 (v := .ref (ad 0)) hx hb hT hown hK hP 0 rfl rfl dX11_hearBy_6 ?_
    refine lv_bipush (v := (nI 29)) hx hb dX11_hearBy_9 (by decide) ?_
    refine x_iald hx hb hK hP 1 rfl hm dX11_hearBy_11 (fun v1 hm => ?_)
    refine x_icmp_ge (tgt := 44) hx hb dX11_hearBy_12 (by decide) hm (fun hm => ?_) (fun hm => ?_)
    · refine lv_iload_n hx hb dX11_hearBy_44 rfl (lv_at hl 2 rfl) ?_
      exact x_iretR hx hb hr hlk hm dX11_hearBy_45
    · refine lv_iload_n hx hb dX11_hearBy_15 rfl (lv_at hl 2 rfl) ?_
      refine lv_aload_n hx hb dX11_hearBy_16 rfl (lv_at hl 0 rfl) ?_
      refine lv_iload_n hx hb dX11_hearBy_17 rfl (lv_at hl 3 rfl) ?_
      refine lv_aload_n hx hb dX11_hearBy_18 rfl (lv_at hl 0 rfl) ?_
      refine lv_iload_n hx hb dX11_hearBy_19 rfl (lv_at hl 1 rfl) ?_
      refine xV_i (As := [.int y1]) (rest := [.int y3, .ref (ad 22), .int y2]) hx hb hml hown hT hN hK hP cw_X11_135 hm (fun z h => tcX11_supposedBy l D cs ad S y1 z h) ⟨rfl, rfl⟩ ⟨by decide, by decide⟩ (b := (ad 22)) 0 rfl rfl rfl hl.1 rfl rfl (Nat.le_of_ble_eq_true rfl) dX11_hearBy_20 ⟨Nat.zero_le _, Nat.zero_le _⟩ (fun r2 hm => ?_)
      refine xV_i (As := [.int y3, .int r2]) (rest := [.int y2]) hx hb hml hown hT hN hK hP cw_X11_162 hm (fun z h => tcX11_hears l D cs ad S y3 r2 z h) ⟨rfl, rfl⟩ ⟨by decide, by decide⟩ (b := (ad 22)) 0 rfl rfl rfl hl.1 rfl rfl (Nat.le_of_ble_eq_true rfl) dX11_hearBy_23 ⟨Nat.zero_le _, Nat.zero_le _⟩ (fun r3 hm => ?_)
      refine x_if_eq (tgt := 35) hx hb dX11_hearBy_26 (by decide) hm (fun hm => ?_) (fun hm => ?_)
      · refine lv_iconst (v := (nI 0)) hx hb dX11_hearBy_35 (by decide) ?_
        refine lv_ior hx hb dX11_hearBy_36 ?_
        refine xi_nm hm (fun x4 hm => ?_)
        refine lv_istore_n (lv' := [(2, .int x4), (0, .ref (ad 22)), (1, .int y1), (3, .int y3)]) hx hb dX11_hearBy_37 rfl hl (by decide) rfl (fun ls hl => ?_)
        refine x_iinc (lv' := fun x5 => [(3, .int x5), (2, .int x4), (0, .ref (ad 22)), (1, .int y1)]) hx hb dX11_hearBy_38 hl (k := 3) rfl (by decide) (v0 := (nI 1)) (by decide) (fun _ => rfl) hm (fun x5 ls hm hl => ?_)
        refine lv_goto (tgt := 4) hx hb dX11_hearBy_41 (by decide) ?_
        exact ih y1 x4 x5 hm ls (lv_sub hl [2, 3, 1, 0] rfl)
      · refine lv_iconst (v := (nI 1)) hx hb dX11_hearBy_29 (by decide) ?_
        refine lv_iload_n hx hb dX11_hearBy_30 rfl (lv_at hl 3 rfl) ?_
        refine lv_ishl hx hb dX11_hearBy_31 ?_
        refine lv_goto (tgt := 36) hx hb dX11_hearBy_32 (by decide) ?_
        refine lv_ior hx hb dX11_hearBy_36 ?_
        refine xi_nm hm (fun x6 hm => ?_)
        refine lv_istore_n (lv' := [(2, .int x6), (0, .ref (ad 22)), (1, .int y1), (3, .int y3)]) hx hb dX11_hearBy_37 rfl hl (by decide) rfl (fun ls hl => ?_)
        refine x_iinc (lv' := fun x7 => [(3, .int x7), (2, .int x6), (0, .ref (ad 22)), (1, .int y1)]) hx hb dX11_hearBy_38 hl (k := 3) rfl (by decide) (v0 := (nI 1)) (by decide) (fun _ => rfl) hm (fun x7 ls hm hl => ?_)
        refine lv_goto (tgt := 4) hx hb dX11_hearBy_41 (by decide) ?_
        exact ih y1 x6 x7 hm ls (lv_sub hl [2, 3, 1, 0] rfl)
set_option maxHeartbeats 4000000 in
set_option maxRecDepth 100000 in
theorem tcX11_hearBy (l : Launch) (D : va_G) (cs : CS) (ad : Nat → Nat) (S : MS) (a1 : Int32) (z : Int32) (hm : mX11_hearBy S a1 = some z) : Met l yX11_hearBy (Cond.code yX11_hearBy cX11_hearBy 4 (some .int) :: gw_tbl) ({ frames := 2, cells := 0, slots := 0, locals := 44 }) (PcR D cs (WM cs ad S) [.ref (ad 22), .int a1]) (QRi z) 0 0 NoF := by
  refine met_R rfl (Nat.le_of_ble_eq_true rfl) (fun p e s m below meth c E hP ls hl => ?_)
  obtain ⟨hx, hb, hr, hml, hown, hlk, hT, hN, hK⟩ := id E
  have hl : lv_has ls 4 [(0, .ref (ad 22)), (1, .int a1)] := hl
  unfold mX11_hearBy at hm
  refine lv_iconst (v := (nI 0)) hx hb dX11_hearBy_0 (by decide) ?_
  refine lv_istore_n (lv' := [(2, .int (nI 0)), (0, .ref (ad 22)), (1, .int a1)]) hx hb dX11_hearBy_1 rfl hl (by decide) rfl (fun ls hl => ?_)
  refine lv_iconst (v := (nI 0)) hx hb dX11_hearBy_2 (by decide) ?_
  refine lv_istore_n (lv' := [(3, .int (nI 0)), (2, .int (nI 0)), (0, .ref (ad 22)), (1, .int a1)]) hx hb dX11_hearBy_3 rfl hl (by decide) rfl (fun ls hl => ?_)
  exact kX11_hearBy_L4 E hP _ FU a1 (nI 0) (nI 0) hm ls (lv_sub hl [2, 3, 1, 0] rfl)
noncomputable def mX11_hear (S : MS) : Option Int32 := ald (S.1 0) 288 (nI 0) fun v1 => (mX11_hearBy S v1).bind fun r2 => some r2
set_option maxHeartbeats 4000000 in
set_option maxRecDepth 100000 in
theorem tcX11_hear (l : Launch) (D : va_G) (cs : CS) (ad : Nat → Nat) (S : MS) (z : Int32) (hm : mX11_hear S = some z) : Met l yX11_hear (Cond.code yX11_hear cX11_hear 1 (some .int) :: gw_tbl) ({ frames := 3, cells := 0, slots := 0, locals := 67 }) (PcR D cs (WM cs ad S) [.ref (ad 22)]) (QRi z) 0 0 NoF := by
  refine met_R rfl (Nat.le_of_ble_eq_true rfl) (fun p e s m below meth c E hP ls hl => ?_)
  obtain ⟨hx, hb, hr, hml, hown, hlk, hT, hN, hK⟩ := id E
  have hl : lv_has ls 1 [(0, .ref (ad 22))] := hl
  unfold mX11_hear at hm
  refine lv_aload_n hx hb dX11_hear_0 rfl (lv_at hl 0 rfl) ?_
  refine lv_aload_n hx hb dX11_hear_1 rfl (lv_at hl 0 rfl) ?_
  refine gf_X11_7 (v := .ref (ad 0)) hx hb hT hown hK hP 0 rfl rfl dX11_hear_2 ?_
  refine lv_iconst (v := (nI 0)) hx hb dX11_hear_5 (by decide) ?_
  refine x_iald hx hb hK hP 1 rfl hm dX11_hear_6 (fun v1 hm => ?_)
  refine xV_i (As := [.int v1]) (rest := []) hx hb hml hown hT hN hK hP cw_X11_165 hm (fun z h => tcX11_hearBy l D cs ad S v1 z h) ⟨rfl, rfl⟩ ⟨by decide, by decide⟩ (b := (ad 22)) 0 rfl rfl rfl hl.1 rfl rfl (Nat.le_of_ble_eq_true rfl) dX11_hear_7 ⟨Nat.zero_le _, Nat.zero_le _⟩ (fun r2 hm => ?_)
  exact x_iretR hx hb hr hlk hm dX11_hear_10
noncomputable def mX11_contradict (S : MS) : Option Int32 := ald (S.1 0) 288 (nI 0) fun v1 => (mX11_supposedBy S v1).bind fun r2 => (mX11_pairsOf r2).bind fun r3 => some r3
set_option maxHeartbeats 4000000 in
set_option maxRecDepth 100000 in
theorem tcX11_contradict (l : Launch) (D : va_G) (cs : CS) (ad : Nat → Nat) (S : MS) (z : Int32) (hm : mX11_contradict S = some z) : Met l yX11_contradict (Cond.code yX11_contradict cX11_contradict 1 (some .int) :: gw_tbl) ({ frames := 2, cells := 0, slots := 0, locals := 44 }) (PcR D cs (WM cs ad S) [.ref (ad 22)]) (QRi z) 0 0 NoF := by
  refine met_R rfl (Nat.le_of_ble_eq_true rfl) (fun p e s m below meth c E hP ls hl => ?_)
  obtain ⟨hx, hb, hr, hml, hown, hlk, hT, hN, hK⟩ := id E
  have hl : lv_has ls 1 [(0, .ref (ad 22))] := hl
  unfold mX11_contradict at hm
  refine lv_aload_n hx hb dX11_contradict_0 rfl (lv_at hl 0 rfl) ?_
  refine lv_aload_n hx hb dX11_contradict_1 rfl (lv_at hl 0 rfl) ?_
  refine gf_X11_7 (v := .ref (ad 0)) hx hb hT hown hK hP 0 rfl rfl dX11_contradict_2 ?_
  refine lv_iconst (v := (nI 0)) hx hb dX11_contradict_5 (by decide) ?_
  refine x_iald hx hb hK hP 1 rfl hm dX11_contradict_6 (fun v1 hm => ?_)
  refine xV_i (As := [.int v1]) (rest := []) hx hb hml hown hT hN hK hP cw_X11_135 hm (fun z h => tcX11_supposedBy l D cs ad S v1 z h) ⟨rfl, rfl⟩ ⟨by decide, by decide⟩ (b := (ad 22)) 0 rfl rfl rfl hl.1 rfl rfl (Nat.le_of_ble_eq_true rfl) dX11_contradict_7 ⟨Nat.zero_le _, Nat.zero_le _⟩ (fun r2 hm => ?_)
  refine xS_i (As := [.int r2]) (rest := []) hx hb hml hown hT hN hK (hP.sub (ws' := []) [] rfl) cw_X11_193 hm (fun z h => tcX11_pairsOf l D cs r2 z h) ⟨rfl, rfl⟩ ⟨by decide, by decide⟩ hl.1 rfl rfl (Nat.le_of_ble_eq_true rfl) dX11_contradict_10 ⟨Nat.zero_le _, Nat.zero_le _⟩ (fun r3 hm => ?_)
  exact x_iretR hx hb hr hlk hm dX11_contradict_13
noncomputable def mX11_giveUp_L4 (S : MS) : Nat → Int32 → Int32 → Option Int32 := fun n => Nat.rec (motive := fun _ => Int32 → Int32 → Option Int32) (fun _ _ => none) (fun _ rc => fun y1 y2 => (if (nI 64) ≤ y2 then some y1 else ald (S.1 0) 288 (nI 0) fun v1 => (if (y2 &&& (v1 ^^^ (-1 : Int32))) = 0 then ald (S.1 0) 288 (nI 0) fun v3 => (mX11_supposedBy S (v3 &&& (y2 ^^^ (-1 : Int32)))).bind fun r4 => (mX11_pairsOf r4).bind fun r5 => (if r5 = 0 then (if y1 = (-1 : Int32) then nm (y2 + (nI 1)) fun x7 => rc y2 x7 else (mX11_bits y2).bind fun r8 => (mX11_bits y1).bind fun r9 => (if r9 ≤ r8 then nm (y2 + (nI 1)) fun x10 => rc y1 x10 else nm (y2 + (nI 1)) fun x11 => rc y2 x11)) else nm (y2 + (nI 1)) fun x6 => rc y1 x6) else nm (y2 + (nI 1)) fun x2 => rc y1 x2))) n
theorem mX11_giveUp_L4_s (S : MS) (n : Nat) (y1 : Int32) (y2 : Int32) : mX11_giveUp_L4 S (n + 1) y1 y2 = (if (nI 64) ≤ y2 then some y1 else ald (S.1 0) 288 (nI 0) fun v1 => (if (y2 &&& (v1 ^^^ (-1 : Int32))) = 0 then ald (S.1 0) 288 (nI 0) fun v3 => (mX11_supposedBy S (v3 &&& (y2 ^^^ (-1 : Int32)))).bind fun r4 => (mX11_pairsOf r4).bind fun r5 => (if r5 = 0 then (if y1 = (-1 : Int32) then nm (y2 + (nI 1)) fun x7 => (mX11_giveUp_L4 S n) y2 x7 else (mX11_bits y2).bind fun r8 => (mX11_bits y1).bind fun r9 => (if r9 ≤ r8 then nm (y2 + (nI 1)) fun x10 => (mX11_giveUp_L4 S n) y1 x10 else nm (y2 + (nI 1)) fun x11 => (mX11_giveUp_L4 S n) y2 x11)) else nm (y2 + (nI 1)) fun x6 => (mX11_giveUp_L4 S n) y1 x6) else nm (y2 + (nI 1)) fun x2 => (mX11_giveUp_L4 S n) y1 x2)) := rfl
noncomputable def mX11_giveUp (S : MS) : Option Int32 := mX11_giveUp_L4 S FU (-1 : Int32) (nI 0)
set_option maxHeartbeats 4000000 in
set_option maxRecDepth 100000 in
theorem kX11_giveUp_L4 {p : Program} {l : Launch} {e : Env} {s : State} {m : MethodId} {below : List Frame} {meth : Method} {c : Code} {D : va_G} {cs : CS}  {ad : Nat → Nat} {S : MS}  (E : EV p s m [.ref (ad 22)].toArray meth c cX11_giveUp 4 RX11 (some .int) D cs) (hP : va_P D classes (WM cs ad S) s.heap) (z : Int32) : ∀ (n : Nat) (y1 : Int32) (y2 : Int32), mX11_giveUp_L4 S n y1 y2 = some z → ∀ ls : Array Slot, lv_has ls 4 [(0, .ref (ad 22)), (1, .int y1), (2, .int y2)] → W p l e ({ frames := 2, cells := 0, slots := 0, locals := 44 }) s m [.ref (ad 22)].toArray below meth c s.heap [] 0 0 (MQ below (QRi z) [.ref (ad 22)].toArray s 0 0 NoF) (F0 m 4 ls []) := by
  obtain ⟨hx, hb, hr, hml, hown, hlk, hT, hN, hK⟩ := id E
  intro n
  induction n with
  | zero =>
    intro y1 y2 hm
    exact nomatch (show (none : Option Int32) = some z from hm)
  | succ n ih =>
    intro y1 y2 hm ls hl
    rw [mX11_giveUp_L4_s] at hm
    refine lv_iload_n hx hb dX11_giveUp_4 rfl (lv_at hl 2 rfl) ?_
    refine lv_bipush (v := (nI 64)) hx hb dX11_giveUp_5 (by decide) ?_
    refine x_icmp_ge (tgt := 81) hx hb dX11_giveUp_7 (by decide) hm (fun hm => ?_) (fun hm => ?_)
    · refine lv_iload_n hx hb dX11_giveUp_81 rfl (lv_at hl 1 rfl) ?_
      exact x_iretR hx hb hr hlk hm dX11_giveUp_82
    · refine lv_iload_n hx hb dX11_giveUp_10 rfl (lv_at hl 2 rfl) ?_
      refine lv_aload_n hx hb dX11_giveUp_11 rfl (lv_at hl 0 rfl) ?_
      refine gf_X11_7 (v := .ref (ad 0)) hx hb hT hown hK hP 0 rfl rfl dX11_giveUp_12 ?_
      refine lv_iconst (v := (nI 0)) hx hb dX11_giveUp_15 (by decide) ?_
      refine x_iald hx hb hK hP 1 rfl hm dX11_giveUp_16 (fun v1 hm => ?_)
      refine lv_iconst (v := (-1 : Int32)) hx hb dX11_giveUp_17 (by decide) ?_
      refine lv_ixor hx hb dX11_giveUp_18 ?_
      refine lv_iand hx hb dX11_giveUp_19 ?_
      refine x_if_ne (tgt := 47) hx hb dX11_giveUp_20 (by decide) hm (fun hm => ?_) (fun hm => ?_)
      · refine lv_iconst (v := (nI 0)) hx hb dX11_giveUp_47 (by decide) ?_
        refine lv_istore_n (lv' := [(3, .int (nI 0)), (0, .ref (ad 22)), (1, .int y1), (2, .int y2)]) hx hb dX11_giveUp_48 rfl hl (by decide) rfl (fun ls hl => ?_)
        refine lv_iload_n hx hb dX11_giveUp_49 rfl (lv_at hl 0 rfl) ?_
        refine lv_if_eq (tgt := 73) hx hb dX11_giveUp_50 (by decide) (fun _ => ?_) (fun h => absurd h (by decide))
        refine lv_iload_n hx hb dX11_giveUp_73 rfl (lv_at hl 2 rfl) ?_
        refine lv_istore_n (lv' := [(1, .int y1), (3, .int (nI 0)), (0, .ref (ad 22)), (2, .int y2)]) hx hb dX11_giveUp_74 rfl hl (by decide) rfl (fun ls hl => ?_)
        refine x_iinc (lv' := fun x2 => [(2, .int x2), (1, .int y1), (3, .int (nI 0)), (0, .ref (ad 22))]) hx hb dX11_giveUp_75 hl (k := 3) rfl (by decide) (v0 := (nI 1)) (by decide) (fun _ => rfl) hm (fun x2 ls hm hl => ?_)
        refine lv_goto (tgt := 4) hx hb dX11_giveUp_78 (by decide) ?_
        exact ih y1 x2 hm ls (lv_sub hl [3, 1, 0] rfl)
      · refine lv_aload_n hx hb dX11_giveUp_23 rfl (lv_at hl 0 rfl) ?_
        refine lv_aload_n hx hb dX11_giveUp_24 rfl (lv_at hl 0 rfl) ?_
        refine gf_X11_7 (v := .ref (ad 0)) hx hb hT hown hK hP 0 rfl rfl dX11_giveUp_25 ?_
        refine lv_iconst (v := (nI 0)) hx hb dX11_giveUp_28 (by decide) ?_
        refine x_iald hx hb hK hP 1 rfl hm dX11_giveUp_29 (fun v3 hm => ?_)
        refine lv_iload_n hx hb dX11_giveUp_30 rfl (lv_at hl 2 rfl) ?_
        refine lv_iconst (v := (-1 : Int32)) hx hb dX11_giveUp_31 (by decide) ?_
        refine lv_ixor hx hb dX11_giveUp_32 ?_
        refine lv_iand hx hb dX11_giveUp_33 ?_
        refine xV_i (As := [.int (v3 &&& (y2 ^^^ (-1 : Int32)))]) (rest := []) hx hb hml hown hT hN hK hP cw_X11_135 hm (fun z h => tcX11_supposedBy l D cs ad S (v3 &&& (y2 ^^^ (-1 : Int32))) z h) ⟨rfl, rfl⟩ ⟨by decide, by decide⟩ (b := (ad 22)) 0 rfl rfl rfl hl.1 rfl rfl (Nat.le_of_ble_eq_true rfl) dX11_giveUp_34 ⟨Nat.zero_le _, Nat.zero_le _⟩ (fun r4 hm => ?_)
        refine xS_i (As := [.int r4]) (rest := []) hx hb hml hown hT hN hK (hP.sub (ws' := []) [] rfl) cw_X11_193 hm (fun z h => tcX11_pairsOf l D cs r4 z h) ⟨rfl, rfl⟩ ⟨by decide, by decide⟩ hl.1 rfl rfl (Nat.le_of_ble_eq_true rfl) dX11_giveUp_37 ⟨Nat.zero_le _, Nat.zero_le _⟩ (fun r5 hm => ?_)
        refine x_if_ne (tgt := 47) hx hb dX11_giveUp_40 (by decide) hm (fun hm => ?_) (fun hm => ?_)
        · refine lv_iconst (v := (nI 0)) hx hb dX11_giveUp_47 (by decide) ?_
          refine lv_istore_n (lv' := [(3, .int (nI 0)), (0, .ref (ad 22)), (1, .int y1), (2, .int y2)]) hx hb dX11_giveUp_48 rfl hl (by decide) rfl (fun ls hl => ?_)
          refine lv_iload_n hx hb dX11_giveUp_49 rfl (lv_at hl 0 rfl) ?_
          refine lv_if_eq (tgt := 73) hx hb dX11_giveUp_50 (by decide) (fun _ => ?_) (fun h => absurd h (by decide))
          refine lv_iload_n hx hb dX11_giveUp_73 rfl (lv_at hl 2 rfl) ?_
          refine lv_istore_n (lv' := [(1, .int y1), (3, .int (nI 0)), (0, .ref (ad 22)), (2, .int y2)]) hx hb dX11_giveUp_74 rfl hl (by decide) rfl (fun ls hl => ?_)
          refine x_iinc (lv' := fun x6 => [(2, .int x6), (1, .int y1), (3, .int (nI 0)), (0, .ref (ad 22))]) hx hb dX11_giveUp_75 hl (k := 3) rfl (by decide) (v0 := (nI 1)) (by decide) (fun _ => rfl) hm (fun x6 ls hm hl => ?_)
          refine lv_goto (tgt := 4) hx hb dX11_giveUp_78 (by decide) ?_
          exact ih y1 x6 hm ls (lv_sub hl [3, 1, 0] rfl)
        · refine lv_iconst (v := (nI 1)) hx hb dX11_giveUp_43 (by decide) ?_
          refine lv_goto (tgt := 48) hx hb dX11_giveUp_44 (by decide) ?_
          refine lv_istore_n (lv' := [(3, .int (nI 1)), (0, .ref (ad 22)), (1, .int y1), (2, .int y2)]) hx hb dX11_giveUp_48 rfl hl (by decide) rfl (fun ls hl => ?_)
          refine lv_iload_n hx hb dX11_giveUp_49 rfl (lv_at hl 0 rfl) ?_
          refine lv_if_eq (tgt := 73) hx hb dX11_giveUp_50 (by decide) (fun h => absurd h (by decide)) (fun _ => ?_)
          refine lv_iload_n hx hb dX11_giveUp_53 rfl (lv_at hl 2 rfl) ?_
          refine lv_iconst (v := (-1 : Int32)) hx hb dX11_giveUp_54 (by decide) ?_
          refine x_icmp_eq (tgt := 69) hx hb dX11_giveUp_55 (by decide) hm (fun hm => ?_) (fun hm => ?_)
          · refine lv_iload_n hx hb dX11_giveUp_69 rfl (lv_at hl 3 rfl) ?_
            refine lv_goto (tgt := 74) hx hb dX11_giveUp_70 (by decide) ?_
            refine lv_istore_n (lv' := [(1, .int y2), (3, .int (nI 1)), (0, .ref (ad 22)), (2, .int y2)]) hx hb dX11_giveUp_74 rfl hl (by decide) rfl (fun ls hl => ?_)
            refine x_iinc (lv' := fun x7 => [(2, .int x7), (1, .int y2), (3, .int (nI 1)), (0, .ref (ad 22))]) hx hb dX11_giveUp_75 hl (k := 3) rfl (by decide) (v0 := (nI 1)) (by decide) (fun _ => rfl) hm (fun x7 ls hm hl => ?_)
            refine lv_goto (tgt := 4) hx hb dX11_giveUp_78 (by decide) ?_
            exact ih y2 x7 hm ls (lv_sub hl [3, 1, 0] rfl)
          · refine lv_iload_n hx hb dX11_giveUp_58 rfl (lv_at hl 3 rfl) ?_
            refine xS_i (As := [.int y2]) (rest := []) hx hb hml hown hT hN hK (hP.sub (ws' := []) [] rfl) cw_X11_132 hm (fun z h => tcX11_bits l D cs y2 z h) ⟨rfl, rfl⟩ ⟨by decide, by decide⟩ hl.1 rfl rfl (Nat.le_of_ble_eq_true rfl) dX11_giveUp_59 ⟨Nat.zero_le _, Nat.zero_le _⟩ (fun r8 hm => ?_)
            refine lv_iload_n hx hb dX11_giveUp_62 rfl (lv_at hl 2 rfl) ?_
            refine xS_i (As := [.int y1]) (rest := [.int r8]) hx hb hml hown hT hN hK (hP.sub (ws' := []) [] rfl) cw_X11_132 hm (fun z h => tcX11_bits l D cs y1 z h) ⟨rfl, rfl⟩ ⟨by decide, by decide⟩ hl.1 rfl rfl (Nat.le_of_ble_eq_true rfl) dX11_giveUp_63 ⟨Nat.zero_le _, Nat.zero_le _⟩ (fun r9 hm => ?_)
            refine x_icmp_ge (tgt := 73) hx hb dX11_giveUp_66 (by decide) hm (fun hm => ?_) (fun hm => ?_)
            · refine lv_iload_n hx hb dX11_giveUp_73 rfl (lv_at hl 2 rfl) ?_
              refine lv_istore_n (lv' := [(1, .int y1), (3, .int (nI 1)), (0, .ref (ad 22)), (2, .int y2)]) hx hb dX11_giveUp_74 rfl hl (by decide) rfl (fun ls hl => ?_)
              refine x_iinc (lv' := fun x10 => [(2, .int x10), (1, .int y1), (3, .int (nI 1)), (0, .ref (ad 22))]) hx hb dX11_giveUp_75 hl (k := 3) rfl (by decide) (v0 := (nI 1)) (by decide) (fun _ => rfl) hm (fun x10 ls hm hl => ?_)
              refine lv_goto (tgt := 4) hx hb dX11_giveUp_78 (by decide) ?_
              exact ih y1 x10 hm ls (lv_sub hl [3, 1, 0] rfl)
            · refine lv_iload_n hx hb dX11_giveUp_69 rfl (lv_at hl 3 rfl) ?_
              refine lv_goto (tgt := 74) hx hb dX11_giveUp_70 (by decide) ?_
              refine lv_istore_n (lv' := [(1, .int y2), (3, .int (nI 1)), (0, .ref (ad 22)), (2, .int y2)]) hx hb dX11_giveUp_74 rfl hl (by decide) rfl (fun ls hl => ?_)
              refine x_iinc (lv' := fun x11 => [(2, .int x11), (1, .int y2), (3, .int (nI 1)), (0, .ref (ad 22))]) hx hb dX11_giveUp_75 hl (k := 3) rfl (by decide) (v0 := (nI 1)) (by decide) (fun _ => rfl) hm (fun x11 ls hm hl => ?_)
              refine lv_goto (tgt := 4) hx hb dX11_giveUp_78 (by decide) ?_
              exact ih y2 x11 hm ls (lv_sub hl [3, 1, 0] rfl)
set_option maxHeartbeats 4000000 in
set_option maxRecDepth 100000 in
theorem tcX11_giveUp (l : Launch) (D : va_G) (cs : CS) (ad : Nat → Nat) (S : MS) (z : Int32) (hm : mX11_giveUp S = some z) : Met l yX11_giveUp (Cond.code yX11_giveUp cX11_giveUp 4 (some .int) :: gw_tbl) ({ frames := 2, cells := 0, slots := 0, locals := 44 }) (PcR D cs (WM cs ad S) [.ref (ad 22)]) (QRi z) 0 0 NoF := by
  refine met_R rfl (Nat.le_of_ble_eq_true rfl) (fun p e s m below meth c E hP ls hl => ?_)
  obtain ⟨hx, hb, hr, hml, hown, hlk, hT, hN, hK⟩ := id E
  have hl : lv_has ls 4 [(0, .ref (ad 22))] := hl
  unfold mX11_giveUp at hm
  refine lv_iconst (v := (-1 : Int32)) hx hb dX11_giveUp_0 (by decide) ?_
  refine lv_istore_n (lv' := [(1, .int (-1 : Int32)), (0, .ref (ad 22))]) hx hb dX11_giveUp_1 rfl hl (by decide) rfl (fun ls hl => ?_)
  refine lv_iconst (v := (nI 0)) hx hb dX11_giveUp_2 (by decide) ?_
  refine lv_istore_n (lv' := [(2, .int (nI 0)), (1, .int (-1 : Int32)), (0, .ref (ad 22))]) hx hb dX11_giveUp_3 rfl hl (by decide) rfl (fun ls hl => ?_)
  exact kX11_giveUp_L4 E hP _ FU (-1 : Int32) (nI 0) hm ls (lv_sub hl [2, 1, 0] rfl)
noncomputable def mX11_kindsOf_L16 (S : MS) : Nat → Int32 → Int32 → Int32 → Int32 → Int32 → Option Int32 := fun n => Nat.rec (motive := fun _ => Int32 → Int32 → Int32 → Int32 → Int32 → Option Int32) (fun _ _ _ _ _ => none) (fun _ rc => fun y1 y2 y3 y4 y5 => ald (S.1 0) 288 (nI 38) fun v1 => (if v1 ≤ y5 then some y4 else nm ((nI 39) + ((nI 3) * y5)) fun x2 => (if y4 = 0 then nm (y5 + (nI 1)) fun x3 => rc y1 y2 y3 (nI 0) x3 else ald (S.1 0) 288 x2 fun v4 => (if v4 = y1 then ald (S.1 0) 288 ((nI 23) + y1) fun v6 => ald (S.1 0) 288 (x2 + (nI 1)) fun v7 => (mX11_costBy y3 v6 v7).bind fun r8 => ald (S.1 0) 288 (x2 + (nI 2)) fun v9 => (if r8 = v9 then nm (y5 + (nI 1)) fun x11 => rc y1 y2 y3 (nI 1) x11 else nm (y5 + (nI 1)) fun x10 => rc y1 y2 y3 (nI 0) x10) else nm (y5 + (nI 1)) fun x5 => rc y1 y2 y3 (nI 1) x5)))) n
theorem mX11_kindsOf_L16_s (S : MS) (n : Nat) (y1 : Int32) (y2 : Int32) (y3 : Int32) (y4 : Int32) (y5 : Int32) : mX11_kindsOf_L16 S (n + 1) y1 y2 y3 y4 y5 = ald (S.1 0) 288 (nI 38) fun v1 => (if v1 ≤ y5 then some y4 else nm ((nI 39) + ((nI 3) * y5)) fun x2 => (if y4 = 0 then nm (y5 + (nI 1)) fun x3 => (mX11_kindsOf_L16 S n) y1 y2 y3 (nI 0) x3 else ald (S.1 0) 288 x2 fun v4 => (if v4 = y1 then ald (S.1 0) 288 ((nI 23) + y1) fun v6 => ald (S.1 0) 288 (x2 + (nI 1)) fun v7 => (mX11_costBy y3 v6 v7).bind fun r8 => ald (S.1 0) 288 (x2 + (nI 2)) fun v9 => (if r8 = v9 then nm (y5 + (nI 1)) fun x11 => (mX11_kindsOf_L16 S n) y1 y2 y3 (nI 1) x11 else nm (y5 + (nI 1)) fun x10 => (mX11_kindsOf_L16 S n) y1 y2 y3 (nI 0) x10) else nm (y5 + (nI 1)) fun x5 => (mX11_kindsOf_L16 S n) y1 y2 y3 (nI 1) x5))) := rfl
noncomputable def mX11_kindsOf_L4 (S : MS) : Nat → Int32 → Int32 → Int32 → Option Int32 := fun n => Nat.rec (motive := fun _ => Int32 → Int32 → Int32 → Option Int32) (fun _ _ _ => none) (fun _ rc => fun y1 y2 y3 => (if (nI 6) ≤ y3 then some y2 else (mX11_kindsOf_L16 S FU y1 y2 y3 (nI 1) (nI 0)).bind fun x12 => (if x12 = 0 then nm (y2 ||| (nI 0)) fun x13 => nm (y3 + (nI 1)) fun x14 => rc y1 x13 x14 else nm (y2 ||| ((nI 1) <<< (y3 &&& 31))) fun x15 => nm (y3 + (nI 1)) fun x16 => rc y1 x15 x16))) n
theorem mX11_kindsOf_L4_s (S : MS) (n : Nat) (y1 : Int32) (y2 : Int32) (y3 : Int32) : mX11_kindsOf_L4 S (n + 1) y1 y2 y3 = (if (nI 6) ≤ y3 then some y2 else (mX11_kindsOf_L16 S FU y1 y2 y3 (nI 1) (nI 0)).bind fun x12 => (if x12 = 0 then nm (y2 ||| (nI 0)) fun x13 => nm (y3 + (nI 1)) fun x14 => (mX11_kindsOf_L4 S n) y1 x13 x14 else nm (y2 ||| ((nI 1) <<< (y3 &&& 31))) fun x15 => nm (y3 + (nI 1)) fun x16 => (mX11_kindsOf_L4 S n) y1 x15 x16)) := rfl
noncomputable def mX11_kindsOf (S : MS) (a1 : Int32) : Option Int32 := mX11_kindsOf_L4 S FU a1 (nI 0) (nI 0)
set_option maxHeartbeats 4000000 in
set_option maxRecDepth 100000 in
theorem kX11_kindsOf_L16 {p : Program} {l : Launch} {e : Env} {s : State} {m : MethodId} {below : List Frame} {meth : Method} {c : Code} {D : va_G} {cs : CS}  {ad : Nat → Nat} {S : MS} {a1 : Int32} (E : EV p s m [.ref (ad 22), .int a1].toArray meth c cX11_kindsOf 7 RX11 (some .int) D cs) (hP : va_P D classes (WM cs ad S) s.heap) {Q : State → Prop} (z : Int32) : ∀ (n : Nat) (y1 : Int32) (y2 : Int32) (y3 : Int32) (y4 : Int32) (y5 : Int32), mX11_kindsOf_L16 S n y1 y2 y3 y4 y5 = some z → ∀ ls : Array Slot, lv_has ls 7 [(0, .ref (ad 22)), (1, .int y1), (2, .int y2), (3, .int y3), (4, .int y4), (5, .int y5)] → (∀ ls : Array Slot, lv_has ls 7 [(0, .ref (ad 22)), (1, .int y1), (2, .int y2), (3, .int y3), (4, .int z)] → W p l e ({ frames := 1, cells := 0, slots := 0, locals := 22 }) s m [.ref (ad 22), .int a1].toArray below meth c s.heap [] 0 0 Q (F0 m 100 ls [])) → W p l e ({ frames := 1, cells := 0, slots := 0, locals := 22 }) s m [.ref (ad 22), .int a1].toArray below meth c s.heap [] 0 0 Q (F0 m 16 ls []) := by
  obtain ⟨hx, hb, hr, hml, hown, hlk, hT, hN, hK⟩ := id E
  intro n
  induction n with
  | zero =>
    intro y1 y2 y3 y4 y5 hm
    exact nomatch (show (none : Option Int32) = some z from hm)
  | succ n ih =>
    intro y1 y2 y3 y4 y5 hm ls hl kk
    rw [mX11_kindsOf_L16_s] at hm
    refine lv_iload hx hb dX11_kindsOf_16 (lv_at hl 5 rfl) ?_
    refine lv_aload_n hx hb dX11_kindsOf_18 rfl (lv_at hl 0 rfl) ?_
    refine gf_X11_7 (v := .ref (ad 0)) hx hb hT hown hK hP 0 rfl rfl dX11_kindsOf_19 ?_
    refine lv_bipush (v := (nI 38)) hx hb dX11_kindsOf_22 (by decide) ?_
    refine x_iald hx hb hK hP 1 rfl hm dX11_kindsOf_24 (fun v1 hm => ?_)
    refine x_icmp_ge (tgt := 100) hx hb dX11_kindsOf_25 (by decide) hm (fun hm => ?_) (fun hm => ?_)
    · cases hm
      exact kk ls (lv_sub hl [0, 1, 2, 3, 4] rfl)
    · refine lv_bipush (v := (nI 39)) hx hb dX11_kindsOf_28 (by decide) ?_
      refine lv_iconst (v := (nI 3)) hx hb dX11_kindsOf_30 (by decide) ?_
      refine lv_iload hx hb dX11_kindsOf_31 (lv_at hl 5 rfl) ?_
      refine lv_imul hx hb dX11_kindsOf_33 ?_
      refine lv_iadd hx hb dX11_kindsOf_34 ?_
      refine xi_nm hm (fun x2 hm => ?_)
      refine lv_istore (lv' := [(6, .int x2), (0, .ref (ad 22)), (1, .int y1), (2, .int y2), (3, .int y3), (4, .int y4), (5, .int y5)]) hx hb dX11_kindsOf_35 hl (by decide) rfl (fun ls hl => ?_)
      refine lv_iload hx hb dX11_kindsOf_37 (lv_at hl 5 rfl) ?_
      refine x_if_eq (tgt := 91) hx hb dX11_kindsOf_39 (by decide) hm (fun hm => ?_) (fun hm => ?_)
      · refine lv_iconst (v := (nI 0)) hx hb dX11_kindsOf_91 (by decide) ?_
        refine lv_istore (lv' := [(4, .int (nI 0)), (6, .int x2), (0, .ref (ad 22)), (1, .int y1), (2, .int y2), (3, .int y3), (5, .int y5)]) hx hb dX11_kindsOf_92 hl (by decide) rfl (fun ls hl => ?_)
        refine x_iinc (lv' := fun x3 => [(5, .int x3), (4, .int (nI 0)), (6, .int x2), (0, .ref (ad 22)), (1, .int y1), (2, .int y2), (3, .int y3)]) hx hb dX11_kindsOf_94 hl (k := 6) rfl (by decide) (v0 := (nI 1)) (by decide) (fun _ => rfl) hm (fun x3 ls hm hl => ?_)
        refine lv_goto (tgt := 16) hx hb dX11_kindsOf_97 (by decide) ?_
        exact ih y1 y2 y3 (nI 0) x3 hm ls (lv_sub hl [3, 4, 5, 6, 1, 0] rfl) kk
      · refine lv_aload_n hx hb dX11_kindsOf_42 rfl (lv_at hl 1 rfl) ?_
        refine gf_X11_7 (v := .ref (ad 0)) hx hb hT hown hK hP 0 rfl rfl dX11_kindsOf_43 ?_
        refine lv_iload hx hb dX11_kindsOf_46 (lv_at hl 0 rfl) ?_
        refine x_iald hx hb hK hP 1 rfl hm dX11_kindsOf_48 (fun v4 hm => ?_)
        refine lv_iload_n hx hb dX11_kindsOf_49 rfl (lv_at hl 2 rfl) ?_
        refine x_icmp_ne (tgt := 87) hx hb dX11_kindsOf_50 (by decide) hm (fun hm => ?_) (fun hm => ?_)
        · refine lv_iconst (v := (nI 1)) hx hb dX11_kindsOf_87 (by decide) ?_
          refine lv_goto (tgt := 92) hx hb dX11_kindsOf_88 (by decide) ?_
          refine lv_istore (lv' := [(4, .int (nI 1)), (6, .int x2), (0, .ref (ad 22)), (1, .int y1), (2, .int y2), (3, .int y3), (5, .int y5)]) hx hb dX11_kindsOf_92 hl (by decide) rfl (fun ls hl => ?_)
          refine x_iinc (lv' := fun x5 => [(5, .int x5), (4, .int (nI 1)), (6, .int x2), (0, .ref (ad 22)), (1, .int y1), (2, .int y2), (3, .int y3)]) hx hb dX11_kindsOf_94 hl (k := 6) rfl (by decide) (v0 := (nI 1)) (by decide) (fun _ => rfl) hm (fun x5 ls hm hl => ?_)
          refine lv_goto (tgt := 16) hx hb dX11_kindsOf_97 (by decide) ?_
          exact ih y1 y2 y3 (nI 1) x5 hm ls (lv_sub hl [3, 4, 5, 6, 1, 0] rfl) kk
        · refine lv_iload_n hx hb dX11_kindsOf_53 rfl (lv_at hl 4 rfl) ?_
          refine lv_aload_n hx hb dX11_kindsOf_54 rfl (lv_at hl 1 rfl) ?_
          refine gf_X11_7 (v := .ref (ad 0)) hx hb hT hown hK hP 0 rfl rfl dX11_kindsOf_55 ?_
          refine lv_bipush (v := (nI 23)) hx hb dX11_kindsOf_58 (by decide) ?_
          refine lv_iload_n hx hb dX11_kindsOf_60 rfl (lv_at hl 2 rfl) ?_
          refine lv_iadd hx hb dX11_kindsOf_61 ?_
          refine x_iald hx hb hK hP 1 rfl hm dX11_kindsOf_62 (fun v6 hm => ?_)
          refine lv_aload_n hx hb dX11_kindsOf_63 rfl (lv_at hl 1 rfl) ?_
          refine gf_X11_7 (v := .ref (ad 0)) hx hb hT hown hK hP 0 rfl rfl dX11_kindsOf_64 ?_
          refine lv_iload hx hb dX11_kindsOf_67 (lv_at hl 0 rfl) ?_
          refine lv_iconst (v := (nI 1)) hx hb dX11_kindsOf_69 (by decide) ?_
          refine lv_iadd hx hb dX11_kindsOf_70 ?_
          refine x_iald hx hb hK hP 1 rfl hm dX11_kindsOf_71 (fun v7 hm => ?_)
          refine xS_i (As := [.int y3, .int v6, .int v7]) (rest := []) hx hb hml hown hT hN hK (hP.sub (ws' := []) [] rfl) cw_X11_128 hm (fun z h => tcX11_costBy l D cs y3 v6 v7 z h) ⟨rfl, rfl⟩ ⟨by decide, by decide⟩ hl.1 rfl rfl (Nat.le_of_ble_eq_true rfl) dX11_kindsOf_72 ⟨Nat.zero_le _, Nat.zero_le _⟩ (fun r8 hm => ?_)
          refine lv_aload_n hx hb dX11_kindsOf_75 rfl (lv_at hl 1 rfl) ?_
          refine gf_X11_7 (v := .ref (ad 0)) hx hb hT hown hK hP 0 rfl rfl dX11_kindsOf_76 ?_
          refine lv_iload hx hb dX11_kindsOf_79 (lv_at hl 0 rfl) ?_
          refine lv_iconst (v := (nI 2)) hx hb dX11_kindsOf_81 (by decide) ?_
          refine lv_iadd hx hb dX11_kindsOf_82 ?_
          refine x_iald hx hb hK hP 1 rfl hm dX11_kindsOf_83 (fun v9 hm => ?_)
          refine x_icmp_ne (tgt := 91) hx hb dX11_kindsOf_84 (by decide) hm (fun hm => ?_) (fun hm => ?_)
          · refine lv_iconst (v := (nI 0)) hx hb dX11_kindsOf_91 (by decide) ?_
            refine lv_istore (lv' := [(4, .int (nI 0)), (6, .int x2), (0, .ref (ad 22)), (1, .int y1), (2, .int y2), (3, .int y3), (5, .int y5)]) hx hb dX11_kindsOf_92 hl (by decide) rfl (fun ls hl => ?_)
            refine x_iinc (lv' := fun x10 => [(5, .int x10), (4, .int (nI 0)), (6, .int x2), (0, .ref (ad 22)), (1, .int y1), (2, .int y2), (3, .int y3)]) hx hb dX11_kindsOf_94 hl (k := 6) rfl (by decide) (v0 := (nI 1)) (by decide) (fun _ => rfl) hm (fun x10 ls hm hl => ?_)
            refine lv_goto (tgt := 16) hx hb dX11_kindsOf_97 (by decide) ?_
            exact ih y1 y2 y3 (nI 0) x10 hm ls (lv_sub hl [3, 4, 5, 6, 1, 0] rfl) kk
          · refine lv_iconst (v := (nI 1)) hx hb dX11_kindsOf_87 (by decide) ?_
            refine lv_goto (tgt := 92) hx hb dX11_kindsOf_88 (by decide) ?_
            refine lv_istore (lv' := [(4, .int (nI 1)), (6, .int x2), (0, .ref (ad 22)), (1, .int y1), (2, .int y2), (3, .int y3), (5, .int y5)]) hx hb dX11_kindsOf_92 hl (by decide) rfl (fun ls hl => ?_)
            refine x_iinc (lv' := fun x11 => [(5, .int x11), (4, .int (nI 1)), (6, .int x2), (0, .ref (ad 22)), (1, .int y1), (2, .int y2), (3, .int y3)]) hx hb dX11_kindsOf_94 hl (k := 6) rfl (by decide) (v0 := (nI 1)) (by decide) (fun _ => rfl) hm (fun x11 ls hm hl => ?_)
            refine lv_goto (tgt := 16) hx hb dX11_kindsOf_97 (by decide) ?_
            exact ih y1 y2 y3 (nI 1) x11 hm ls (lv_sub hl [3, 4, 5, 6, 1, 0] rfl) kk
set_option maxHeartbeats 4000000 in
set_option maxRecDepth 100000 in
theorem kX11_kindsOf_L4 {p : Program} {l : Launch} {e : Env} {s : State} {m : MethodId} {below : List Frame} {meth : Method} {c : Code} {D : va_G} {cs : CS}  {ad : Nat → Nat} {S : MS} {a1 : Int32} (E : EV p s m [.ref (ad 22), .int a1].toArray meth c cX11_kindsOf 7 RX11 (some .int) D cs) (hP : va_P D classes (WM cs ad S) s.heap) (z : Int32) : ∀ (n : Nat) (y1 : Int32) (y2 : Int32) (y3 : Int32), mX11_kindsOf_L4 S n y1 y2 y3 = some z → ∀ ls : Array Slot, lv_has ls 7 [(0, .ref (ad 22)), (1, .int y1), (2, .int y2), (3, .int y3)] → W p l e ({ frames := 1, cells := 0, slots := 0, locals := 22 }) s m [.ref (ad 22), .int a1].toArray below meth c s.heap [] 0 0 (MQ below (QRi z) [.ref (ad 22), .int a1].toArray s 0 0 NoF) (F0 m 4 ls []) := by
  obtain ⟨hx, hb, hr, hml, hown, hlk, hT, hN, hK⟩ := id E
  intro n
  induction n with
  | zero =>
    intro y1 y2 y3 hm
    exact nomatch (show (none : Option Int32) = some z from hm)
  | succ n ih =>
    intro y1 y2 y3 hm ls hl
    rw [mX11_kindsOf_L4_s] at hm
    refine lv_iload_n hx hb dX11_kindsOf_4 rfl (lv_at hl 3 rfl) ?_
    refine lv_bipush (v := (nI 6)) hx hb dX11_kindsOf_5 (by decide) ?_
    refine x_icmp_ge (tgt := 121) hx hb dX11_kindsOf_7 (by decide) hm (fun hm => ?_) (fun hm => ?_)
    · refine lv_iload_n hx hb dX11_kindsOf_121 rfl (lv_at hl 2 rfl) ?_
      exact x_iretR hx hb hr hlk hm dX11_kindsOf_122
    · refine lv_iconst (v := (nI 1)) hx hb dX11_kindsOf_10 (by decide) ?_
      refine lv_istore (lv' := [(4, .int (nI 1)), (0, .ref (ad 22)), (1, .int y1), (2, .int y2), (3, .int y3)]) hx hb dX11_kindsOf_11 hl (by decide) rfl (fun ls hl => ?_)
      refine lv_iconst (v := (nI 0)) hx hb dX11_kindsOf_13 (by decide) ?_
      refine lv_istore (lv' := [(5, .int (nI 0)), (4, .int (nI 1)), (0, .ref (ad 22)), (1, .int y1), (2, .int y2), (3, .int y3)]) hx hb dX11_kindsOf_14 hl (by decide) rfl (fun ls hl => ?_)
      obtain ⟨x12, he, hm⟩ := ob_some hm
      refine kX11_kindsOf_L16 E hP _ FU y1 y2 y3 (nI 1) (nI 0) he ls (lv_sub hl [2, 3, 4, 5, 1, 0] rfl) (fun ls hl => ?_)
      refine lv_iload_n hx hb dX11_kindsOf_100 rfl (lv_at hl 2 rfl) ?_
      refine lv_iload hx hb dX11_kindsOf_101 (lv_at hl 4 rfl) ?_
      refine x_if_eq (tgt := 112) hx hb dX11_kindsOf_103 (by decide) hm (fun hm => ?_) (fun hm => ?_)
      · refine lv_iconst (v := (nI 0)) hx hb dX11_kindsOf_112 (by decide) ?_
        refine lv_ior hx hb dX11_kindsOf_113 ?_
        refine xi_nm hm (fun x13 hm => ?_)
        refine lv_istore_n (lv' := [(2, .int x13), (0, .ref (ad 22)), (1, .int y1), (3, .int y3), (4, .int x12)]) hx hb dX11_kindsOf_114 rfl hl (by decide) rfl (fun ls hl => ?_)
        refine x_iinc (lv' := fun x14 => [(3, .int x14), (2, .int x13), (0, .ref (ad 22)), (1, .int y1), (4, .int x12)]) hx hb dX11_kindsOf_115 hl (k := 3) rfl (by decide) (v0 := (nI 1)) (by decide) (fun _ => rfl) hm (fun x14 ls hm hl => ?_)
        refine lv_goto (tgt := 4) hx hb dX11_kindsOf_118 (by decide) ?_
        exact ih y1 x13 x14 hm ls (lv_sub hl [2, 3, 1, 0] rfl)
      · refine lv_iconst (v := (nI 1)) hx hb dX11_kindsOf_106 (by decide) ?_
        refine lv_iload_n hx hb dX11_kindsOf_107 rfl (lv_at hl 3 rfl) ?_
        refine lv_ishl hx hb dX11_kindsOf_108 ?_
        refine lv_goto (tgt := 113) hx hb dX11_kindsOf_109 (by decide) ?_
        refine lv_ior hx hb dX11_kindsOf_113 ?_
        refine xi_nm hm (fun x15 hm => ?_)
        refine lv_istore_n (lv' := [(2, .int x15), (0, .ref (ad 22)), (1, .int y1), (3, .int y3), (4, .int x12)]) hx hb dX11_kindsOf_114 rfl hl (by decide) rfl (fun ls hl => ?_)
        refine x_iinc (lv' := fun x16 => [(3, .int x16), (2, .int x15), (0, .ref (ad 22)), (1, .int y1), (4, .int x12)]) hx hb dX11_kindsOf_115 hl (k := 3) rfl (by decide) (v0 := (nI 1)) (by decide) (fun _ => rfl) hm (fun x16 ls hm hl => ?_)
        refine lv_goto (tgt := 4) hx hb dX11_kindsOf_118 (by decide) ?_
        exact ih y1 x15 x16 hm ls (lv_sub hl [2, 3, 1, 0] rfl)
set_option maxHeartbeats 4000000 in
set_option maxRecDepth 100000 in
theorem tcX11_kindsOf (l : Launch) (D : va_G) (cs : CS) (ad : Nat → Nat) (S : MS) (a1 : Int32) (z : Int32) (hm : mX11_kindsOf S a1 = some z) : Met l yX11_kindsOf (Cond.code yX11_kindsOf cX11_kindsOf 7 (some .int) :: gw_tbl) ({ frames := 1, cells := 0, slots := 0, locals := 22 }) (PcR D cs (WM cs ad S) [.ref (ad 22), .int a1]) (QRi z) 0 0 NoF := by
  refine met_R rfl (Nat.le_of_ble_eq_true rfl) (fun p e s m below meth c E hP ls hl => ?_)
  obtain ⟨hx, hb, hr, hml, hown, hlk, hT, hN, hK⟩ := id E
  have hl : lv_has ls 7 [(0, .ref (ad 22)), (1, .int a1)] := hl
  unfold mX11_kindsOf at hm
  refine lv_iconst (v := (nI 0)) hx hb dX11_kindsOf_0 (by decide) ?_
  refine lv_istore_n (lv' := [(2, .int (nI 0)), (0, .ref (ad 22)), (1, .int a1)]) hx hb dX11_kindsOf_1 rfl hl (by decide) rfl (fun ls hl => ?_)
  refine lv_iconst (v := (nI 0)) hx hb dX11_kindsOf_2 (by decide) ?_
  refine lv_istore_n (lv' := [(3, .int (nI 0)), (2, .int (nI 0)), (0, .ref (ad 22)), (1, .int a1)]) hx hb dX11_kindsOf_3 rfl hl (by decide) rfl (fun ls hl => ?_)
  exact kX11_kindsOf_L4 E hP _ FU a1 (nI 0) (nI 0) hm ls (lv_sub hl [2, 3, 1, 0] rfl)
noncomputable def mX11_mostAlike_L19 (S : MS) : Nat → Int32 → Int32 → Int32 → Int32 → Int32 → Int32 → Int32 → Option Int32 := fun n => Nat.rec (motive := fun _ => Int32 → Int32 → Int32 → Int32 → Int32 → Int32 → Int32 → Option Int32) (fun _ _ _ _ _ _ _ => none) (fun _ rc => fun y1 y2 y3 y4 y5 y6 y7 => (if (nI 6) ≤ y7 then some y6 else (mX11_has y2 y5).bind fun r1 => (if r1 = 0 then nm (y6 + (nI 0)) fun x2 => nm (y7 + (nI 1)) fun x3 => rc y1 y2 y3 y4 y5 x2 x3 else (mX11_has y2 y7).bind fun r4 => (if r4 = 0 then nm (y6 + (nI 0)) fun x5 => nm (y7 + (nI 1)) fun x6 => rc y1 y2 y3 y4 y5 x5 x6 else ald (S.1 0) 288 ((nI 23) + y1) fun v7 => (mX11_costBy y5 v7 y3).bind fun r8 => ald (S.1 0) 288 ((nI 23) + y1) fun v9 => (mX11_costBy y7 v9 y3).bind fun r10 => (if r8 = r10 then nm (y6 + (nI 1)) fun x13 => nm (y7 + (nI 1)) fun x14 => rc y1 y2 y3 y4 y5 x13 x14 else nm (y6 + (nI 0)) fun x11 => nm (y7 + (nI 1)) fun x12 => rc y1 y2 y3 y4 y5 x11 x12))))) n
theorem mX11_mostAlike_L19_s (S : MS) (n : Nat) (y1 : Int32) (y2 : Int32) (y3 : Int32) (y4 : Int32) (y5 : Int32) (y6 : Int32) (y7 : Int32) : mX11_mostAlike_L19 S (n + 1) y1 y2 y3 y4 y5 y6 y7 = (if (nI 6) ≤ y7 then some y6 else (mX11_has y2 y5).bind fun r1 => (if r1 = 0 then nm (y6 + (nI 0)) fun x2 => nm (y7 + (nI 1)) fun x3 => (mX11_mostAlike_L19 S n) y1 y2 y3 y4 y5 x2 x3 else (mX11_has y2 y7).bind fun r4 => (if r4 = 0 then nm (y6 + (nI 0)) fun x5 => nm (y7 + (nI 1)) fun x6 => (mX11_mostAlike_L19 S n) y1 y2 y3 y4 y5 x5 x6 else ald (S.1 0) 288 ((nI 23) + y1) fun v7 => (mX11_costBy y5 v7 y3).bind fun r8 => ald (S.1 0) 288 ((nI 23) + y1) fun v9 => (mX11_costBy y7 v9 y3).bind fun r10 => (if r8 = r10 then nm (y6 + (nI 1)) fun x13 => nm (y7 + (nI 1)) fun x14 => (mX11_mostAlike_L19 S n) y1 y2 y3 y4 y5 x13 x14 else nm (y6 + (nI 0)) fun x11 => nm (y7 + (nI 1)) fun x12 => (mX11_mostAlike_L19 S n) y1 y2 y3 y4 y5 x11 x12)))) := rfl
noncomputable def mX11_mostAlike_L6 (S : MS) : Nat → Int32 → Int32 → Int32 → Int32 → Int32 → Option Int32 := fun n => Nat.rec (motive := fun _ => Int32 → Int32 → Int32 → Int32 → Int32 → Option Int32) (fun _ _ _ _ _ => none) (fun _ rc => fun y1 y2 y3 y4 y5 => (if (nI 6) ≤ y5 then some y4 else (mX11_mostAlike_L19 S FU y1 y2 y3 y4 y5 (nI 0) (nI 0)).bind fun x15 => (if x15 ≤ y4 then nm (y5 + (nI 1)) fun x16 => rc y1 y2 y3 y4 x16 else nm (y5 + (nI 1)) fun x17 => rc y1 y2 y3 x15 x17))) n
theorem mX11_mostAlike_L6_s (S : MS) (n : Nat) (y1 : Int32) (y2 : Int32) (y3 : Int32) (y4 : Int32) (y5 : Int32) : mX11_mostAlike_L6 S (n + 1) y1 y2 y3 y4 y5 = (if (nI 6) ≤ y5 then some y4 else (mX11_mostAlike_L19 S FU y1 y2 y3 y4 y5 (nI 0) (nI 0)).bind fun x15 => (if x15 ≤ y4 then nm (y5 + (nI 1)) fun x16 => (mX11_mostAlike_L6 S n) y1 y2 y3 y4 x16 else nm (y5 + (nI 1)) fun x17 => (mX11_mostAlike_L6 S n) y1 y2 y3 x15 x17)) := rfl
noncomputable def mX11_mostAlike (S : MS) (a1 : Int32) (a2 : Int32) (a3 : Int32) : Option Int32 := mX11_mostAlike_L6 S FU a1 a2 a3 (nI 0) (nI 0)
set_option maxHeartbeats 4000000 in
set_option maxRecDepth 100000 in
theorem kX11_mostAlike_L19 {p : Program} {l : Launch} {e : Env} {s : State} {m : MethodId} {below : List Frame} {meth : Method} {c : Code} {D : va_G} {cs : CS}  {ad : Nat → Nat} {S : MS} {a1 : Int32} {a2 : Int32} {a3 : Int32} (E : EV p s m [.ref (ad 22), .int a1, .int a2, .int a3].toArray meth c cX11_mostAlike 8 RX11 (some .int) D cs) (hP : va_P D classes (WM cs ad S) s.heap) {Q : State → Prop} (z : Int32) : ∀ (n : Nat) (y1 : Int32) (y2 : Int32) (y3 : Int32) (y4 : Int32) (y5 : Int32) (y6 : Int32) (y7 : Int32), mX11_mostAlike_L19 S n y1 y2 y3 y4 y5 y6 y7 = some z → ∀ ls : Array Slot, lv_has ls 8 [(0, .ref (ad 22)), (1, .int y1), (2, .int y2), (3, .int y3), (4, .int y4), (5, .int y5), (6, .int y6), (7, .int y7)] → (∀ ls : Array Slot, lv_has ls 8 [(0, .ref (ad 22)), (1, .int y1), (2, .int y2), (3, .int y3), (4, .int y4), (5, .int y5), (6, .int z)] → W p l e ({ frames := 1, cells := 0, slots := 0, locals := 22 }) s m [.ref (ad 22), .int a1, .int a2, .int a3].toArray below meth c s.heap [] 0 0 Q (F0 m 93 ls [])) → W p l e ({ frames := 1, cells := 0, slots := 0, locals := 22 }) s m [.ref (ad 22), .int a1, .int a2, .int a3].toArray below meth c s.heap [] 0 0 Q (F0 m 19 ls []) := by
  obtain ⟨hx, hb, hr, hml, hown, hlk, hT, hN, hK⟩ := id E
  intro n
  induction n with
  | zero =>
    intro y1 y2 y3 y4 y5 y6 y7 hm
    exact nomatch (show (none : Option Int32) = some z from hm)
  | succ n ih =>
    intro y1 y2 y3 y4 y5 y6 y7 hm ls hl kk
    rw [mX11_mostAlike_L19_s] at hm
    refine lv_iload hx hb dX11_mostAlike_19 (lv_at hl 7 rfl) ?_
    refine lv_bipush (v := (nI 6)) hx hb dX11_mostAlike_21 (by decide) ?_
    refine x_icmp_ge (tgt := 93) hx hb dX11_mostAlike_23 (by decide) hm (fun hm => ?_) (fun hm => ?_)
    · cases hm
      exact kk ls (lv_sub hl [0, 1, 2, 3, 4, 5, 6] rfl)
    · refine lv_iload hx hb dX11_mostAlike_26 (lv_at hl 6 rfl) ?_
      refine lv_iload_n hx hb dX11_mostAlike_28 rfl (lv_at hl 2 rfl) ?_
      refine lv_iload hx hb dX11_mostAlike_29 (lv_at hl 5 rfl) ?_
      refine xS_i (As := [.int y2, .int y5]) (rest := [.int y6]) hx hb hml hown hT hN hK (hP.sub (ws' := []) [] rfl) cw_X11_124 hm (fun z h => tcX11_has l D cs y2 y5 z h) ⟨rfl, rfl⟩ ⟨by decide, by decide⟩ hl.1 rfl rfl (Nat.le_of_ble_eq_true rfl) dX11_mostAlike_31 ⟨Nat.zero_le _, Nat.zero_le _⟩ (fun r1 hm => ?_)
      refine x_if_eq (tgt := 83) hx hb dX11_mostAlike_34 (by decide) hm (fun hm => ?_) (fun hm => ?_)
      · refine lv_iconst (v := (nI 0)) hx hb dX11_mostAlike_83 (by decide) ?_
        refine lv_iadd hx hb dX11_mostAlike_84 ?_
        refine xi_nm hm (fun x2 hm => ?_)
        refine lv_istore (lv' := [(6, .int x2), (0, .ref (ad 22)), (1, .int y1), (2, .int y2), (3, .int y3), (4, .int y4), (5, .int y5), (7, .int y7)]) hx hb dX11_mostAlike_85 hl (by decide) rfl (fun ls hl => ?_)
        refine x_iinc (lv' := fun x3 => [(7, .int x3), (6, .int x2), (0, .ref (ad 22)), (1, .int y1), (2, .int y2), (3, .int y3), (4, .int y4), (5, .int y5)]) hx hb dX11_mostAlike_87 hl (k := 7) rfl (by decide) (v0 := (nI 1)) (by decide) (fun _ => rfl) hm (fun x3 ls hm hl => ?_)
        refine lv_goto (tgt := 19) hx hb dX11_mostAlike_90 (by decide) ?_
        exact ih y1 y2 y3 y4 y5 x2 x3 hm ls (lv_sub hl [2, 3, 4, 5, 6, 7, 1, 0] rfl) kk
      · refine lv_iload_n hx hb dX11_mostAlike_37 rfl (lv_at hl 2 rfl) ?_
        refine lv_iload hx hb dX11_mostAlike_38 (lv_at hl 7 rfl) ?_
        refine xS_i (As := [.int y2, .int y7]) (rest := [.int y6]) hx hb hml hown hT hN hK (hP.sub (ws' := []) [] rfl) cw_X11_124 hm (fun z h => tcX11_has l D cs y2 y7 z h) ⟨rfl, rfl⟩ ⟨by decide, by decide⟩ hl.1 rfl rfl (Nat.le_of_ble_eq_true rfl) dX11_mostAlike_40 ⟨Nat.zero_le _, Nat.zero_le _⟩ (fun r4 hm => ?_)
        refine x_if_eq (tgt := 83) hx hb dX11_mostAlike_43 (by decide) hm (fun hm => ?_) (fun hm => ?_)
        · refine lv_iconst (v := (nI 0)) hx hb dX11_mostAlike_83 (by decide) ?_
          refine lv_iadd hx hb dX11_mostAlike_84 ?_
          refine xi_nm hm (fun x5 hm => ?_)
          refine lv_istore (lv' := [(6, .int x5), (0, .ref (ad 22)), (1, .int y1), (2, .int y2), (3, .int y3), (4, .int y4), (5, .int y5), (7, .int y7)]) hx hb dX11_mostAlike_85 hl (by decide) rfl (fun ls hl => ?_)
          refine x_iinc (lv' := fun x6 => [(7, .int x6), (6, .int x5), (0, .ref (ad 22)), (1, .int y1), (2, .int y2), (3, .int y3), (4, .int y4), (5, .int y5)]) hx hb dX11_mostAlike_87 hl (k := 7) rfl (by decide) (v0 := (nI 1)) (by decide) (fun _ => rfl) hm (fun x6 ls hm hl => ?_)
          refine lv_goto (tgt := 19) hx hb dX11_mostAlike_90 (by decide) ?_
          exact ih y1 y2 y3 y4 y5 x5 x6 hm ls (lv_sub hl [2, 3, 4, 5, 6, 7, 1, 0] rfl) kk
        · refine lv_iload hx hb dX11_mostAlike_46 (lv_at hl 5 rfl) ?_
          refine lv_aload_n hx hb dX11_mostAlike_48 rfl (lv_at hl 0 rfl) ?_
          refine gf_X11_7 (v := .ref (ad 0)) hx hb hT hown hK hP 0 rfl rfl dX11_mostAlike_49 ?_
          refine lv_bipush (v := (nI 23)) hx hb dX11_mostAlike_52 (by decide) ?_
          refine lv_iload_n hx hb dX11_mostAlike_54 rfl (lv_at hl 1 rfl) ?_
          refine lv_iadd hx hb dX11_mostAlike_55 ?_
          refine x_iald hx hb hK hP 1 rfl hm dX11_mostAlike_56 (fun v7 hm => ?_)
          refine lv_iload_n hx hb dX11_mostAlike_57 rfl (lv_at hl 3 rfl) ?_
          refine xS_i (As := [.int y5, .int v7, .int y3]) (rest := [.int y6]) hx hb hml hown hT hN hK (hP.sub (ws' := []) [] rfl) cw_X11_128 hm (fun z h => tcX11_costBy l D cs y5 v7 y3 z h) ⟨rfl, rfl⟩ ⟨by decide, by decide⟩ hl.1 rfl rfl (Nat.le_of_ble_eq_true rfl) dX11_mostAlike_58 ⟨Nat.zero_le _, Nat.zero_le _⟩ (fun r8 hm => ?_)
          refine lv_iload hx hb dX11_mostAlike_61 (lv_at hl 7 rfl) ?_
          refine lv_aload_n hx hb dX11_mostAlike_63 rfl (lv_at hl 0 rfl) ?_
          refine gf_X11_7 (v := .ref (ad 0)) hx hb hT hown hK hP 0 rfl rfl dX11_mostAlike_64 ?_
          refine lv_bipush (v := (nI 23)) hx hb dX11_mostAlike_67 (by decide) ?_
          refine lv_iload_n hx hb dX11_mostAlike_69 rfl (lv_at hl 1 rfl) ?_
          refine lv_iadd hx hb dX11_mostAlike_70 ?_
          refine x_iald hx hb hK hP 1 rfl hm dX11_mostAlike_71 (fun v9 hm => ?_)
          refine lv_iload_n hx hb dX11_mostAlike_72 rfl (lv_at hl 3 rfl) ?_
          refine xS_i (As := [.int y7, .int v9, .int y3]) (rest := [.int r8, .int y6]) hx hb hml hown hT hN hK (hP.sub (ws' := []) [] rfl) cw_X11_128 hm (fun z h => tcX11_costBy l D cs y7 v9 y3 z h) ⟨rfl, rfl⟩ ⟨by decide, by decide⟩ hl.1 rfl rfl (Nat.le_of_ble_eq_true rfl) dX11_mostAlike_73 ⟨Nat.zero_le _, Nat.zero_le _⟩ (fun r10 hm => ?_)
          refine x_icmp_ne (tgt := 83) hx hb dX11_mostAlike_76 (by decide) hm (fun hm => ?_) (fun hm => ?_)
          · refine lv_iconst (v := (nI 0)) hx hb dX11_mostAlike_83 (by decide) ?_
            refine lv_iadd hx hb dX11_mostAlike_84 ?_
            refine xi_nm hm (fun x11 hm => ?_)
            refine lv_istore (lv' := [(6, .int x11), (0, .ref (ad 22)), (1, .int y1), (2, .int y2), (3, .int y3), (4, .int y4), (5, .int y5), (7, .int y7)]) hx hb dX11_mostAlike_85 hl (by decide) rfl (fun ls hl => ?_)
            refine x_iinc (lv' := fun x12 => [(7, .int x12), (6, .int x11), (0, .ref (ad 22)), (1, .int y1), (2, .int y2), (3, .int y3), (4, .int y4), (5, .int y5)]) hx hb dX11_mostAlike_87 hl (k := 7) rfl (by decide) (v0 := (nI 1)) (by decide) (fun _ => rfl) hm (fun x12 ls hm hl => ?_)
            refine lv_goto (tgt := 19) hx hb dX11_mostAlike_90 (by decide) ?_
            exact ih y1 y2 y3 y4 y5 x11 x12 hm ls (lv_sub hl [2, 3, 4, 5, 6, 7, 1, 0] rfl) kk
          · refine lv_iconst (v := (nI 1)) hx hb dX11_mostAlike_79 (by decide) ?_
            refine lv_goto (tgt := 84) hx hb dX11_mostAlike_80 (by decide) ?_
            refine lv_iadd hx hb dX11_mostAlike_84 ?_
            refine xi_nm hm (fun x13 hm => ?_)
            refine lv_istore (lv' := [(6, .int x13), (0, .ref (ad 22)), (1, .int y1), (2, .int y2), (3, .int y3), (4, .int y4), (5, .int y5), (7, .int y7)]) hx hb dX11_mostAlike_85 hl (by decide) rfl (fun ls hl => ?_)
            refine x_iinc (lv' := fun x14 => [(7, .int x14), (6, .int x13), (0, .ref (ad 22)), (1, .int y1), (2, .int y2), (3, .int y3), (4, .int y4), (5, .int y5)]) hx hb dX11_mostAlike_87 hl (k := 7) rfl (by decide) (v0 := (nI 1)) (by decide) (fun _ => rfl) hm (fun x14 ls hm hl => ?_)
            refine lv_goto (tgt := 19) hx hb dX11_mostAlike_90 (by decide) ?_
            exact ih y1 y2 y3 y4 y5 x13 x14 hm ls (lv_sub hl [2, 3, 4, 5, 6, 7, 1, 0] rfl) kk
set_option maxHeartbeats 4000000 in
set_option maxRecDepth 100000 in
theorem kX11_mostAlike_L6 {p : Program} {l : Launch} {e : Env} {s : State} {m : MethodId} {below : List Frame} {meth : Method} {c : Code} {D : va_G} {cs : CS}  {ad : Nat → Nat} {S : MS} {a1 : Int32} {a2 : Int32} {a3 : Int32} (E : EV p s m [.ref (ad 22), .int a1, .int a2, .int a3].toArray meth c cX11_mostAlike 8 RX11 (some .int) D cs) (hP : va_P D classes (WM cs ad S) s.heap) (z : Int32) : ∀ (n : Nat) (y1 : Int32) (y2 : Int32) (y3 : Int32) (y4 : Int32) (y5 : Int32), mX11_mostAlike_L6 S n y1 y2 y3 y4 y5 = some z → ∀ ls : Array Slot, lv_has ls 8 [(0, .ref (ad 22)), (1, .int y1), (2, .int y2), (3, .int y3), (4, .int y4), (5, .int y5)] → W p l e ({ frames := 1, cells := 0, slots := 0, locals := 22 }) s m [.ref (ad 22), .int a1, .int a2, .int a3].toArray below meth c s.heap [] 0 0 (MQ below (QRi z) [.ref (ad 22), .int a1, .int a2, .int a3].toArray s 0 0 NoF) (F0 m 6 ls []) := by
  obtain ⟨hx, hb, hr, hml, hown, hlk, hT, hN, hK⟩ := id E
  intro n
  induction n with
  | zero =>
    intro y1 y2 y3 y4 y5 hm
    exact nomatch (show (none : Option Int32) = some z from hm)
  | succ n ih =>
    intro y1 y2 y3 y4 y5 hm ls hl
    rw [mX11_mostAlike_L6_s] at hm
    refine lv_iload hx hb dX11_mostAlike_6 (lv_at hl 5 rfl) ?_
    refine lv_bipush (v := (nI 6)) hx hb dX11_mostAlike_8 (by decide) ?_
    refine x_icmp_ge (tgt := 115) hx hb dX11_mostAlike_10 (by decide) hm (fun hm => ?_) (fun hm => ?_)
    · refine lv_iload hx hb dX11_mostAlike_115 (lv_at hl 4 rfl) ?_
      exact x_iretR hx hb hr hlk hm dX11_mostAlike_117
    · refine lv_iconst (v := (nI 0)) hx hb dX11_mostAlike_13 (by decide) ?_
      refine lv_istore (lv' := [(6, .int (nI 0)), (0, .ref (ad 22)), (1, .int y1), (2, .int y2), (3, .int y3), (4, .int y4), (5, .int y5)]) hx hb dX11_mostAlike_14 hl (by decide) rfl (fun ls hl => ?_)
      refine lv_iconst (v := (nI 0)) hx hb dX11_mostAlike_16 (by decide) ?_
      refine lv_istore (lv' := [(7, .int (nI 0)), (6, .int (nI 0)), (0, .ref (ad 22)), (1, .int y1), (2, .int y2), (3, .int y3), (4, .int y4), (5, .int y5)]) hx hb dX11_mostAlike_17 hl (by decide) rfl (fun ls hl => ?_)
      obtain ⟨x15, he, hm⟩ := ob_some hm
      refine kX11_mostAlike_L19 E hP _ FU y1 y2 y3 y4 y5 (nI 0) (nI 0) he ls (lv_sub hl [2, 3, 4, 5, 6, 7, 1, 0] rfl) (fun ls hl => ?_)
      refine lv_iload hx hb dX11_mostAlike_93 (lv_at hl 6 rfl) ?_
      refine lv_iload hx hb dX11_mostAlike_95 (lv_at hl 4 rfl) ?_
      refine x_icmp_le (tgt := 105) hx hb dX11_mostAlike_97 (by decide) hm (fun hm => ?_) (fun hm => ?_)
      · refine lv_iload hx hb dX11_mostAlike_105 (lv_at hl 4 rfl) ?_
        refine lv_istore (lv' := [(4, .int y4), (0, .ref (ad 22)), (1, .int y1), (2, .int y2), (3, .int y3), (5, .int y5), (6, .int x15)]) hx hb dX11_mostAlike_107 hl (by decide) rfl (fun ls hl => ?_)
        refine x_iinc (lv' := fun x16 => [(5, .int x16), (4, .int y4), (0, .ref (ad 22)), (1, .int y1), (2, .int y2), (3, .int y3), (6, .int x15)]) hx hb dX11_mostAlike_109 hl (k := 5) rfl (by decide) (v0 := (nI 1)) (by decide) (fun _ => rfl) hm (fun x16 ls hm hl => ?_)
        refine lv_goto (tgt := 6) hx hb dX11_mostAlike_112 (by decide) ?_
        exact ih y1 y2 y3 y4 x16 hm ls (lv_sub hl [2, 3, 4, 5, 1, 0] rfl)
      · refine lv_iload hx hb dX11_mostAlike_100 (lv_at hl 6 rfl) ?_
        refine lv_goto (tgt := 107) hx hb dX11_mostAlike_102 (by decide) ?_
        refine lv_istore (lv' := [(4, .int x15), (0, .ref (ad 22)), (1, .int y1), (2, .int y2), (3, .int y3), (5, .int y5), (6, .int x15)]) hx hb dX11_mostAlike_107 hl (by decide) rfl (fun ls hl => ?_)
        refine x_iinc (lv' := fun x17 => [(5, .int x17), (4, .int x15), (0, .ref (ad 22)), (1, .int y1), (2, .int y2), (3, .int y3), (6, .int x15)]) hx hb dX11_mostAlike_109 hl (k := 5) rfl (by decide) (v0 := (nI 1)) (by decide) (fun _ => rfl) hm (fun x17 ls hm hl => ?_)
        refine lv_goto (tgt := 6) hx hb dX11_mostAlike_112 (by decide) ?_
        exact ih y1 y2 y3 x15 x17 hm ls (lv_sub hl [2, 3, 4, 5, 1, 0] rfl)
set_option maxHeartbeats 4000000 in
set_option maxRecDepth 100000 in
theorem tcX11_mostAlike (l : Launch) (D : va_G) (cs : CS) (ad : Nat → Nat) (S : MS) (a1 : Int32) (a2 : Int32) (a3 : Int32) (z : Int32) (hm : mX11_mostAlike S a1 a2 a3 = some z) : Met l yX11_mostAlike (Cond.code yX11_mostAlike cX11_mostAlike 8 (some .int) :: gw_tbl) ({ frames := 1, cells := 0, slots := 0, locals := 22 }) (PcR D cs (WM cs ad S) [.ref (ad 22), .int a1, .int a2, .int a3]) (QRi z) 0 0 NoF := by
  refine met_R rfl (Nat.le_of_ble_eq_true rfl) (fun p e s m below meth c E hP ls hl => ?_)
  obtain ⟨hx, hb, hr, hml, hown, hlk, hT, hN, hK⟩ := id E
  have hl : lv_has ls 8 [(0, .ref (ad 22)), (1, .int a1), (2, .int a2), (3, .int a3)] := hl
  unfold mX11_mostAlike at hm
  refine lv_iconst (v := (nI 0)) hx hb dX11_mostAlike_0 (by decide) ?_
  refine lv_istore (lv' := [(4, .int (nI 0)), (0, .ref (ad 22)), (1, .int a1), (2, .int a2), (3, .int a3)]) hx hb dX11_mostAlike_1 hl (by decide) rfl (fun ls hl => ?_)
  refine lv_iconst (v := (nI 0)) hx hb dX11_mostAlike_3 (by decide) ?_
  refine lv_istore (lv' := [(5, .int (nI 0)), (4, .int (nI 0)), (0, .ref (ad 22)), (1, .int a1), (2, .int a2), (3, .int a3)]) hx hb dX11_mostAlike_4 hl (by decide) rfl (fun ls hl => ?_)
  exact kX11_mostAlike_L6 E hP _ FU a1 a2 a3 (nI 0) (nI 0) hm ls (lv_sub hl [2, 3, 4, 5, 1, 0] rfl)
noncomputable def mX11_mayBeTrue_L15 (S : MS) : Nat → Int32 → Int32 → Int32 → Option Int32 := fun n => Nat.rec (motive := fun _ => Int32 → Int32 → Int32 → Option Int32) (fun _ _ _ => none) (fun _ rc => fun y1 y2 y3 => ald (S.1 0) 288 (nI 57) fun v2 => (if v2 ≤ y3 then zo y2 (some y2) else (if y2 = 0 then nm (y3 + (nI 1)) fun x3 => rc y1 (nI 0) x3 else ald (S.1 0) 288 ((nI 58) + ((nI 2) * y3)) fun v4 => (mX11_hears S v4 y1).bind fun r5 => ald (S.1 0) 288 (((nI 58) + ((nI 2) * y3)) + (nI 1)) fun v6 => (if v6 = (nI 1) then (if r5 = (nI 1) then nm (y3 + (nI 1)) fun x10 => rc y1 (nI 1) x10 else nm (y3 + (nI 1)) fun x9 => rc y1 (nI 0) x9) else (if r5 = (nI 0) then nm (y3 + (nI 1)) fun x8 => rc y1 (nI 1) x8 else nm (y3 + (nI 1)) fun x7 => rc y1 (nI 0) x7))))) n
theorem mX11_mayBeTrue_L15_s (S : MS) (n : Nat) (y1 : Int32) (y2 : Int32) (y3 : Int32) : mX11_mayBeTrue_L15 S (n + 1) y1 y2 y3 = ald (S.1 0) 288 (nI 57) fun v2 => (if v2 ≤ y3 then zo y2 (some y2) else (if y2 = 0 then nm (y3 + (nI 1)) fun x3 => (mX11_mayBeTrue_L15 S n) y1 (nI 0) x3 else ald (S.1 0) 288 ((nI 58) + ((nI 2) * y3)) fun v4 => (mX11_hears S v4 y1).bind fun r5 => ald (S.1 0) 288 (((nI 58) + ((nI 2) * y3)) + (nI 1)) fun v6 => (if v6 = (nI 1) then (if r5 = (nI 1) then nm (y3 + (nI 1)) fun x10 => (mX11_mayBeTrue_L15 S n) y1 (nI 1) x10 else nm (y3 + (nI 1)) fun x9 => (mX11_mayBeTrue_L15 S n) y1 (nI 0) x9) else (if r5 = (nI 0) then nm (y3 + (nI 1)) fun x8 => (mX11_mayBeTrue_L15 S n) y1 (nI 1) x8 else nm (y3 + (nI 1)) fun x7 => (mX11_mayBeTrue_L15 S n) y1 (nI 0) x7)))) := rfl
noncomputable def mX11_mayBeTrue (S : MS) (a1 : Int32) : Option Int32 := (mX11_pairsOf a1).bind fun r1 => (if r1 = 0 then mX11_mayBeTrue_L15 S FU a1 (nI 1) (nI 0) else mX11_mayBeTrue_L15 S FU a1 (nI 0) (nI 0))
set_option maxHeartbeats 4000000 in
set_option maxRecDepth 100000 in
theorem kX11_mayBeTrue_L15 {p : Program} {l : Launch} {e : Env} {s : State} {m : MethodId} {below : List Frame} {meth : Method} {c : Code} {D : va_G} {cs : CS}  {ad : Nat → Nat} {S : MS} {a1 : Int32} (E : EV p s m [.ref (ad 22), .int a1].toArray meth c cX11_mayBeTrue 4 RX11 (some .boolean) D cs) (hP : va_P D classes (WM cs ad S) s.heap) (z : Int32) : ∀ (n : Nat) (y1 : Int32) (y2 : Int32) (y3 : Int32), mX11_mayBeTrue_L15 S n y1 y2 y3 = some z → ∀ ls : Array Slot, lv_has ls 4 [(0, .ref (ad 22)), (1, .int y1), (2, .int y2), (3, .int y3)] → W p l e ({ frames := 1, cells := 0, slots := 0, locals := 22 }) s m [.ref (ad 22), .int a1].toArray below meth c s.heap [] 0 0 (MQ below (QRi z) [.ref (ad 22), .int a1].toArray s 0 0 NoF) (F0 m 15 ls []) := by
  obtain ⟨hx, hb, hr, hml, hown, hlk, hT, hN, hK⟩ := id E
  intro n
  induction n with
  | zero =>
    intro y1 y2 y3 hm
    exact nomatch (show (none : Option Int32) = some z from hm)
  | succ n ih =>
    intro y1 y2 y3 hm ls hl
    rw [mX11_mayBeTrue_L15_s] at hm
    refine lv_iload_n hx hb dX11_mayBeTrue_15 rfl (lv_at hl 3 rfl) ?_
    refine lv_aload_n hx hb dX11_mayBeTrue_16 rfl (lv_at hl 0 rfl) ?_
    refine gf_X11_7 (v := .ref (ad 0)) hx hb hT hown hK hP 0 rfl rfl dX11_mayBeTrue_17 ?_
    refine lv_bipush (v := (nI 57)) hx hb dX11_mayBeTrue_20 (by decide) ?_
    refine x_iald hx hb hK hP 1 rfl hm dX11_mayBeTrue_22 (fun v2 hm => ?_)
    refine x_icmp_ge (tgt := 83) hx hb dX11_mayBeTrue_23 (by decide) hm (fun hm => ?_) (fun hm => ?_)
    · refine lv_iload_n hx hb dX11_mayBeTrue_83 rfl (lv_at hl 2 rfl) ?_
      exact x_zretR hx hb hr hlk hm dX11_mayBeTrue_84
    · refine lv_iload_n hx hb dX11_mayBeTrue_26 rfl (lv_at hl 2 rfl) ?_
      refine x_if_eq (tgt := 75) hx hb dX11_mayBeTrue_27 (by decide) hm (fun hm => ?_) (fun hm => ?_)
      · refine lv_iconst (v := (nI 0)) hx hb dX11_mayBeTrue_75 (by decide) ?_
        refine lv_istore_n (lv' := [(2, .int (nI 0)), (0, .ref (ad 22)), (1, .int y1), (3, .int y3)]) hx hb dX11_mayBeTrue_76 rfl hl (by decide) rfl (fun ls hl => ?_)
        refine x_iinc (lv' := fun x3 => [(3, .int x3), (2, .int (nI 0)), (0, .ref (ad 22)), (1, .int y1)]) hx hb dX11_mayBeTrue_77 hl (k := 3) rfl (by decide) (v0 := (nI 1)) (by decide) (fun _ => rfl) hm (fun x3 ls hm hl => ?_)
        refine lv_goto (tgt := 15) hx hb dX11_mayBeTrue_80 (by decide) ?_
        exact ih y1 (nI 0) x3 hm ls (lv_sub hl [2, 3, 1, 0] rfl)
      · refine lv_aload_n hx hb dX11_mayBeTrue_30 rfl (lv_at hl 0 rfl) ?_
        refine lv_aload_n hx hb dX11_mayBeTrue_31 rfl (lv_at hl 0 rfl) ?_
        refine gf_X11_7 (v := .ref (ad 0)) hx hb hT hown hK hP 0 rfl rfl dX11_mayBeTrue_32 ?_
        refine lv_bipush (v := (nI 58)) hx hb dX11_mayBeTrue_35 (by decide) ?_
        refine lv_iconst (v := (nI 2)) hx hb dX11_mayBeTrue_37 (by decide) ?_
        refine lv_iload_n hx hb dX11_mayBeTrue_38 rfl (lv_at hl 3 rfl) ?_
        refine lv_imul hx hb dX11_mayBeTrue_39 ?_
        refine lv_iadd hx hb dX11_mayBeTrue_40 ?_
        refine x_iald hx hb hK hP 1 rfl hm dX11_mayBeTrue_41 (fun v4 hm => ?_)
        refine lv_iload_n hx hb dX11_mayBeTrue_42 rfl (lv_at hl 1 rfl) ?_
        refine xV_i (As := [.int v4, .int y1]) (rest := []) hx hb hml hown hT hN hK hP cw_X11_162 hm (fun z h => tcX11_hears l D cs ad S v4 y1 z h) ⟨rfl, rfl⟩ ⟨by decide, by decide⟩ (b := (ad 22)) 0 rfl rfl rfl hl.1 rfl rfl (Nat.le_of_ble_eq_true rfl) dX11_mayBeTrue_43 ⟨Nat.zero_le _, Nat.zero_le _⟩ (fun r5 hm => ?_)
        refine lv_aload_n hx hb dX11_mayBeTrue_46 rfl (lv_at hl 0 rfl) ?_
        refine gf_X11_7 (v := .ref (ad 0)) hx hb hT hown hK hP 0 rfl rfl dX11_mayBeTrue_47 ?_
        refine lv_bipush (v := (nI 58)) hx hb dX11_mayBeTrue_50 (by decide) ?_
        refine lv_iconst (v := (nI 2)) hx hb dX11_mayBeTrue_52 (by decide) ?_
        refine lv_iload_n hx hb dX11_mayBeTrue_53 rfl (lv_at hl 3 rfl) ?_
        refine lv_imul hx hb dX11_mayBeTrue_54 ?_
        refine lv_iadd hx hb dX11_mayBeTrue_55 ?_
        refine lv_iconst (v := (nI 1)) hx hb dX11_mayBeTrue_56 (by decide) ?_
        refine lv_iadd hx hb dX11_mayBeTrue_57 ?_
        refine x_iald hx hb hK hP 1 rfl hm dX11_mayBeTrue_58 (fun v6 hm => ?_)
        refine lv_iconst (v := (nI 1)) hx hb dX11_mayBeTrue_59 (by decide) ?_
        refine x_icmp_ne (tgt := 67) hx hb dX11_mayBeTrue_60 (by decide) hm (fun hm => ?_) (fun hm => ?_)
        · refine lv_iconst (v := (nI 0)) hx hb dX11_mayBeTrue_67 (by decide) ?_
          refine x_icmp_ne (tgt := 75) hx hb dX11_mayBeTrue_68 (by decide) hm (fun hm => ?_) (fun hm => ?_)
          · refine lv_iconst (v := (nI 0)) hx hb dX11_mayBeTrue_75 (by decide) ?_
            refine lv_istore_n (lv' := [(2, .int (nI 0)), (0, .ref (ad 22)), (1, .int y1), (3, .int y3)]) hx hb dX11_mayBeTrue_76 rfl hl (by decide) rfl (fun ls hl => ?_)
            refine x_iinc (lv' := fun x7 => [(3, .int x7), (2, .int (nI 0)), (0, .ref (ad 22)), (1, .int y1)]) hx hb dX11_mayBeTrue_77 hl (k := 3) rfl (by decide) (v0 := (nI 1)) (by decide) (fun _ => rfl) hm (fun x7 ls hm hl => ?_)
            refine lv_goto (tgt := 15) hx hb dX11_mayBeTrue_80 (by decide) ?_
            exact ih y1 (nI 0) x7 hm ls (lv_sub hl [2, 3, 1, 0] rfl)
          · refine lv_iconst (v := (nI 1)) hx hb dX11_mayBeTrue_71 (by decide) ?_
            refine lv_goto (tgt := 76) hx hb dX11_mayBeTrue_72 (by decide) ?_
            refine lv_istore_n (lv' := [(2, .int (nI 1)), (0, .ref (ad 22)), (1, .int y1), (3, .int y3)]) hx hb dX11_mayBeTrue_76 rfl hl (by decide) rfl (fun ls hl => ?_)
            refine x_iinc (lv' := fun x8 => [(3, .int x8), (2, .int (nI 1)), (0, .ref (ad 22)), (1, .int y1)]) hx hb dX11_mayBeTrue_77 hl (k := 3) rfl (by decide) (v0 := (nI 1)) (by decide) (fun _ => rfl) hm (fun x8 ls hm hl => ?_)
            refine lv_goto (tgt := 15) hx hb dX11_mayBeTrue_80 (by decide) ?_
            exact ih y1 (nI 1) x8 hm ls (lv_sub hl [2, 3, 1, 0] rfl)
        · refine lv_iconst (v := (nI 1)) hx hb dX11_mayBeTrue_63 (by decide) ?_
          refine lv_goto (tgt := 68) hx hb dX11_mayBeTrue_64 (by decide) ?_
          refine x_icmp_ne (tgt := 75) hx hb dX11_mayBeTrue_68 (by decide) hm (fun hm => ?_) (fun hm => ?_)
          · refine lv_iconst (v := (nI 0)) hx hb dX11_mayBeTrue_75 (by decide) ?_
            refine lv_istore_n (lv' := [(2, .int (nI 0)), (0, .ref (ad 22)), (1, .int y1), (3, .int y3)]) hx hb dX11_mayBeTrue_76 rfl hl (by decide) rfl (fun ls hl => ?_)
            refine x_iinc (lv' := fun x9 => [(3, .int x9), (2, .int (nI 0)), (0, .ref (ad 22)), (1, .int y1)]) hx hb dX11_mayBeTrue_77 hl (k := 3) rfl (by decide) (v0 := (nI 1)) (by decide) (fun _ => rfl) hm (fun x9 ls hm hl => ?_)
            refine lv_goto (tgt := 15) hx hb dX11_mayBeTrue_80 (by decide) ?_
            exact ih y1 (nI 0) x9 hm ls (lv_sub hl [2, 3, 1, 0] rfl)
          · refine lv_iconst (v := (nI 1)) hx hb dX11_mayBeTrue_71 (by decide) ?_
            refine lv_goto (tgt := 76) hx hb dX11_mayBeTrue_72 (by decide) ?_
            refine lv_istore_n (lv' := [(2, .int (nI 1)), (0, .ref (ad 22)), (1, .int y1), (3, .int y3)]) hx hb dX11_mayBeTrue_76 rfl hl (by decide) rfl (fun ls hl => ?_)
            refine x_iinc (lv' := fun x10 => [(3, .int x10), (2, .int (nI 1)), (0, .ref (ad 22)), (1, .int y1)]) hx hb dX11_mayBeTrue_77 hl (k := 3) rfl (by decide) (v0 := (nI 1)) (by decide) (fun _ => rfl) hm (fun x10 ls hm hl => ?_)
            refine lv_goto (tgt := 15) hx hb dX11_mayBeTrue_80 (by decide) ?_
            exact ih y1 (nI 1) x10 hm ls (lv_sub hl [2, 3, 1, 0] rfl)
set_option maxHeartbeats 4000000 in
set_option maxRecDepth 100000 in
theorem tcX11_mayBeTrue (l : Launch) (D : va_G) (cs : CS) (ad : Nat → Nat) (S : MS) (a1 : Int32) (z : Int32) (hm : mX11_mayBeTrue S a1 = some z) : Met l yX11_mayBeTrue (Cond.code yX11_mayBeTrue cX11_mayBeTrue 4 (some .boolean) :: gw_tbl) ({ frames := 1, cells := 0, slots := 0, locals := 22 }) (PcR D cs (WM cs ad S) [.ref (ad 22), .int a1]) (QRi z) 0 0 NoF := by
  refine met_R rfl (Nat.le_of_ble_eq_true rfl) (fun p e s m below meth c E hP ls hl => ?_)
  obtain ⟨hx, hb, hr, hml, hown, hlk, hT, hN, hK⟩ := id E
  have hl : lv_has ls 4 [(0, .ref (ad 22)), (1, .int a1)] := hl
  unfold mX11_mayBeTrue at hm
  refine lv_iload_n hx hb dX11_mayBeTrue_0 rfl (lv_at hl 1 rfl) ?_
  refine xS_i (As := [.int a1]) (rest := []) hx hb hml hown hT hN hK (hP.sub (ws' := []) [] rfl) cw_X11_193 hm (fun z h => tcX11_pairsOf l D cs a1 z h) ⟨rfl, rfl⟩ ⟨by decide, by decide⟩ hl.1 rfl rfl (Nat.le_of_ble_eq_true rfl) dX11_mayBeTrue_1 ⟨Nat.zero_le _, Nat.zero_le _⟩ (fun r1 hm => ?_)
  refine x_if_ne (tgt := 11) hx hb dX11_mayBeTrue_4 (by decide) hm (fun hm => ?_) (fun hm => ?_)
  · refine lv_iconst (v := (nI 0)) hx hb dX11_mayBeTrue_11 (by decide) ?_
    refine lv_istore_n (lv' := [(2, .int (nI 0)), (0, .ref (ad 22)), (1, .int a1)]) hx hb dX11_mayBeTrue_12 rfl hl (by decide) rfl (fun ls hl => ?_)
    refine lv_iconst (v := (nI 0)) hx hb dX11_mayBeTrue_13 (by decide) ?_
    refine lv_istore_n (lv' := [(3, .int (nI 0)), (2, .int (nI 0)), (0, .ref (ad 22)), (1, .int a1)]) hx hb dX11_mayBeTrue_14 rfl hl (by decide) rfl (fun ls hl => ?_)
    exact kX11_mayBeTrue_L15 E hP _ FU a1 (nI 0) (nI 0) hm ls (lv_sub hl [2, 3, 1, 0] rfl)
  · refine lv_iconst (v := (nI 1)) hx hb dX11_mayBeTrue_7 (by decide) ?_
    refine lv_goto (tgt := 12) hx hb dX11_mayBeTrue_8 (by decide) ?_
    refine lv_istore_n (lv' := [(2, .int (nI 1)), (0, .ref (ad 22)), (1, .int a1)]) hx hb dX11_mayBeTrue_12 rfl hl (by decide) rfl (fun ls hl => ?_)
    refine lv_iconst (v := (nI 0)) hx hb dX11_mayBeTrue_13 (by decide) ?_
    refine lv_istore_n (lv' := [(3, .int (nI 0)), (2, .int (nI 1)), (0, .ref (ad 22)), (1, .int a1)]) hx hb dX11_mayBeTrue_14 rfl hl (by decide) rfl (fun ls hl => ?_)
    exact kX11_mayBeTrue_L15 E hP _ FU a1 (nI 1) (nI 0) hm ls (lv_sub hl [2, 3, 1, 0] rfl)
noncomputable def mX11_countOf (S : MS) (a1 : Int32) : Option Int32 := (if a1 = (nI 0) then ald (S.1 0) 288 (nI 4) fun v1 => some v1 else if a1 = (nI 1) then ald (S.1 0) 288 (nI 29) fun v2 => some v2 else if a1 = (nI 2) then ald (S.1 0) 288 (nI 0) fun v3 => (mX11_supposedBy S v3).bind fun r4 => (mX11_bits r4).bind fun r5 => some r5 else if a1 = (nI 3) then ald (S.1 0) 288 (nI 0) fun v6 => (mX11_bits v6).bind fun r7 => some r7 else if a1 = (nI 4) then ald (S.1 0) 288 (nI 38) fun v8 => some v8 else if a1 = (nI 5) then ald (S.1 0) 288 (nI 57) fun v9 => some v9 else if a1 = (nI 6) then ald (S.1 0) 288 (nI 70) fun v10 => some v10 else some (S.2.1 6))
set_option maxHeartbeats 4000000 in
set_option maxRecDepth 100000 in
theorem tcX11_countOf (l : Launch) (D : va_G) (cs : CS) (ad : Nat → Nat) (S : MS) (a1 : Int32) (z : Int32) (hm : mX11_countOf S a1 = some z) : Met l yX11_countOf (Cond.code yX11_countOf cX11_countOf 2 (some .int) :: gw_tbl) ({ frames := 2, cells := 0, slots := 0, locals := 44 }) (PcR D cs (WM cs ad S) [.ref (ad 22), .int a1]) (QRi z) 0 0 NoF := by
  refine met_R rfl (Nat.le_of_ble_eq_true rfl) (fun p e s m below meth c E hP ls hl => ?_)
  obtain ⟨hx, hb, hr, hml, hown, hlk, hT, hN, hK⟩ := id E
  have hl : lv_has ls 2 [(0, .ref (ad 22)), (1, .int a1)] := hl
  unfold mX11_countOf at hm
  refine lv_iload_n hx hb dX11_countOf_0 rfl (lv_at hl 1 rfl) ?_
  rcases sw_c hm with ⟨e1_0, hm⟩ | ⟨e1_0, hm⟩
  · refine lv_tableIn (tgt := 44) (off := 43) hx hb dX11_countOf_1 (by rw [e1_0]; decide) (by rw [e1_0]; decide) (by rw [e1_0]; rfl) (by decide) ?_
    refine lv_aload_n hx hb dX11_countOf_44 rfl (lv_at hl 0 rfl) ?_
    refine gf_X11_7 (v := .ref (ad 0)) hx hb hT hown hK hP 0 rfl rfl dX11_countOf_45 ?_
    refine lv_iconst (v := (nI 4)) hx hb dX11_countOf_48 (by decide) ?_
    refine x_iald hx hb hK hP 1 rfl hm dX11_countOf_49 (fun v1 hm => ?_)
    exact x_iretR hx hb hr hlk hm dX11_countOf_50
  rcases sw_c hm with ⟨e1_1, hm⟩ | ⟨e1_1, hm⟩
  · refine lv_tableIn (tgt := 51) (off := 50) hx hb dX11_countOf_1 (by rw [e1_1]; decide) (by rw [e1_1]; decide) (by rw [e1_1]; rfl) (by decide) ?_
    refine lv_aload_n hx hb dX11_countOf_51 rfl (lv_at hl 0 rfl) ?_
    refine gf_X11_7 (v := .ref (ad 0)) hx hb hT hown hK hP 0 rfl rfl dX11_countOf_52 ?_
    refine lv_bipush (v := (nI 29)) hx hb dX11_countOf_55 (by decide) ?_
    refine x_iald hx hb hK hP 1 rfl hm dX11_countOf_57 (fun v2 hm => ?_)
    exact x_iretR hx hb hr hlk hm dX11_countOf_58
  rcases sw_c hm with ⟨e1_2, hm⟩ | ⟨e1_2, hm⟩
  · refine lv_tableIn (tgt := 59) (off := 58) hx hb dX11_countOf_1 (by rw [e1_2]; decide) (by rw [e1_2]; decide) (by rw [e1_2]; rfl) (by decide) ?_
    refine lv_aload_n hx hb dX11_countOf_59 rfl (lv_at hl 0 rfl) ?_
    refine lv_aload_n hx hb dX11_countOf_60 rfl (lv_at hl 0 rfl) ?_
    refine gf_X11_7 (v := .ref (ad 0)) hx hb hT hown hK hP 0 rfl rfl dX11_countOf_61 ?_
    refine lv_iconst (v := (nI 0)) hx hb dX11_countOf_64 (by decide) ?_
    refine x_iald hx hb hK hP 1 rfl hm dX11_countOf_65 (fun v3 hm => ?_)
    refine xV_i (As := [.int v3]) (rest := []) hx hb hml hown hT hN hK hP cw_X11_135 hm (fun z h => tcX11_supposedBy l D cs ad S v3 z h) ⟨rfl, rfl⟩ ⟨by decide, by decide⟩ (b := (ad 22)) 0 rfl rfl rfl hl.1 rfl rfl (Nat.le_of_ble_eq_true rfl) dX11_countOf_66 ⟨Nat.zero_le _, Nat.zero_le _⟩ (fun r4 hm => ?_)
    refine xS_i (As := [.int r4]) (rest := []) hx hb hml hown hT hN hK (hP.sub (ws' := []) [] rfl) cw_X11_132 hm (fun z h => tcX11_bits l D cs r4 z h) ⟨rfl, rfl⟩ ⟨by decide, by decide⟩ hl.1 rfl rfl (Nat.le_of_ble_eq_true rfl) dX11_countOf_69 ⟨Nat.zero_le _, Nat.zero_le _⟩ (fun r5 hm => ?_)
    exact x_iretR hx hb hr hlk hm dX11_countOf_72
  rcases sw_c hm with ⟨e1_3, hm⟩ | ⟨e1_3, hm⟩
  · refine lv_tableIn (tgt := 73) (off := 72) hx hb dX11_countOf_1 (by rw [e1_3]; decide) (by rw [e1_3]; decide) (by rw [e1_3]; rfl) (by decide) ?_
    refine lv_aload_n hx hb dX11_countOf_73 rfl (lv_at hl 0 rfl) ?_
    refine gf_X11_7 (v := .ref (ad 0)) hx hb hT hown hK hP 0 rfl rfl dX11_countOf_74 ?_
    refine lv_iconst (v := (nI 0)) hx hb dX11_countOf_77 (by decide) ?_
    refine x_iald hx hb hK hP 1 rfl hm dX11_countOf_78 (fun v6 hm => ?_)
    refine xS_i (As := [.int v6]) (rest := []) hx hb hml hown hT hN hK (hP.sub (ws' := []) [] rfl) cw_X11_132 hm (fun z h => tcX11_bits l D cs v6 z h) ⟨rfl, rfl⟩ ⟨by decide, by decide⟩ hl.1 rfl rfl (Nat.le_of_ble_eq_true rfl) dX11_countOf_79 ⟨Nat.zero_le _, Nat.zero_le _⟩ (fun r7 hm => ?_)
    exact x_iretR hx hb hr hlk hm dX11_countOf_82
  rcases sw_c hm with ⟨e1_4, hm⟩ | ⟨e1_4, hm⟩
  · refine lv_tableIn (tgt := 83) (off := 82) hx hb dX11_countOf_1 (by rw [e1_4]; decide) (by rw [e1_4]; decide) (by rw [e1_4]; rfl) (by decide) ?_
    refine lv_aload_n hx hb dX11_countOf_83 rfl (lv_at hl 0 rfl) ?_
    refine gf_X11_7 (v := .ref (ad 0)) hx hb hT hown hK hP 0 rfl rfl dX11_countOf_84 ?_
    refine lv_bipush (v := (nI 38)) hx hb dX11_countOf_87 (by decide) ?_
    refine x_iald hx hb hK hP 1 rfl hm dX11_countOf_89 (fun v8 hm => ?_)
    exact x_iretR hx hb hr hlk hm dX11_countOf_90
  rcases sw_c hm with ⟨e1_5, hm⟩ | ⟨e1_5, hm⟩
  · refine lv_tableIn (tgt := 91) (off := 90) hx hb dX11_countOf_1 (by rw [e1_5]; decide) (by rw [e1_5]; decide) (by rw [e1_5]; rfl) (by decide) ?_
    refine lv_aload_n hx hb dX11_countOf_91 rfl (lv_at hl 0 rfl) ?_
    refine gf_X11_7 (v := .ref (ad 0)) hx hb hT hown hK hP 0 rfl rfl dX11_countOf_92 ?_
    refine lv_bipush (v := (nI 57)) hx hb dX11_countOf_95 (by decide) ?_
    refine x_iald hx hb hK hP 1 rfl hm dX11_countOf_97 (fun v9 hm => ?_)
    exact x_iretR hx hb hr hlk hm dX11_countOf_98
  rcases sw_c hm with ⟨e1_6, hm⟩ | ⟨e1_6, hm⟩
  · refine lv_tableIn (tgt := 99) (off := 98) hx hb dX11_countOf_1 (by rw [e1_6]; decide) (by rw [e1_6]; decide) (by rw [e1_6]; rfl) (by decide) ?_
    refine lv_aload_n hx hb dX11_countOf_99 rfl (lv_at hl 0 rfl) ?_
    refine gf_X11_7 (v := .ref (ad 0)) hx hb hT hown hK hP 0 rfl rfl dX11_countOf_100 ?_
    refine lv_bipush (v := (nI 70)) hx hb dX11_countOf_103 (by decide) ?_
    refine x_iald hx hb hK hP 1 rfl hm dX11_countOf_105 (fun v10 hm => ?_)
    exact x_iretR hx hb hr hlk hm dX11_countOf_106
  refine lv_tableOut (tgt := 107) hx hb dX11_countOf_1 (sw_out_0_7 e1_0 e1_1 e1_2 e1_3 e1_4 e1_5 e1_6) (by decide) ?_
  refine lv_aload_n hx hb dX11_countOf_107 rfl (lv_at hl 0 rfl) ?_
  refine gf_X11_68 (v := .int (S.2.1 6)) hx hb hT hown hK hP 0 rfl rfl dX11_countOf_108 ?_
  exact x_iretR hx hb hr hlk hm dX11_countOf_111
noncomputable def mX11_digest_L235 (S : MS) : Nat → Int64 → Int32 → Option Int64 := fun n => Nat.rec (motive := fun _ => Int64 → Int32 → Option Int64) (fun _ _ => none) (fun _ rc => fun y1 y3 => ald (S.1 0) 288 (nI 57) fun v4 => (if ((nI 2) * v4) ≤ y3 then nm (((lN 31) * y1) + (S.2.2 3)) fun x5 => some (((lN 31) * x5) + (S.2.2 4)) else ald (S.1 0) 288 ((nI 58) + y3) fun v6 => nm (((lN 31) * y1) + v6.toInt64) fun x7 => nm (y3 + (nI 1)) fun x8 => rc x7 x8)) n
theorem mX11_digest_L235_s (S : MS) (n : Nat) (y1 : Int64) (y3 : Int32) : mX11_digest_L235 S (n + 1) y1 y3 = ald (S.1 0) 288 (nI 57) fun v4 => (if ((nI 2) * v4) ≤ y3 then nm (((lN 31) * y1) + (S.2.2 3)) fun x5 => some (((lN 31) * x5) + (S.2.2 4)) else ald (S.1 0) 288 ((nI 58) + y3) fun v6 => nm (((lN 31) * y1) + v6.toInt64) fun x7 => nm (y3 + (nI 1)) fun x8 => (mX11_digest_L235 S n) x7 x8) := rfl
noncomputable def mX11_digest_L197 (S : MS) : Nat → Int64 → Int32 → Option Int64 := fun n => Nat.rec (motive := fun _ => Int64 → Int32 → Option Int64) (fun _ _ => none) (fun _ rc => fun y1 y3 => ald (S.1 0) 288 (nI 38) fun v3 => (if ((nI 3) * v3) ≤ y3 then mX11_digest_L235 S FU y1 (nI 0) else ald (S.1 0) 288 ((nI 39) + y3) fun v9 => nm (((lN 31) * y1) + v9.toInt64) fun x10 => nm (y3 + (nI 1)) fun x11 => rc x10 x11)) n
theorem mX11_digest_L197_s (S : MS) (n : Nat) (y1 : Int64) (y3 : Int32) : mX11_digest_L197 S (n + 1) y1 y3 = ald (S.1 0) 288 (nI 38) fun v3 => (if ((nI 3) * v3) ≤ y3 then mX11_digest_L235 S FU y1 (nI 0) else ald (S.1 0) 288 ((nI 39) + y3) fun v9 => nm (((lN 31) * y1) + v9.toInt64) fun x10 => nm (y3 + (nI 1)) fun x11 => (mX11_digest_L197 S n) x10 x11) := rfl
noncomputable def mX11_digest_L144 (S : MS) : Nat → Int64 → Int32 → Option Int64 := fun n => Nat.rec (motive := fun _ => Int64 → Int32 → Option Int64) (fun _ _ => none) (fun _ rc => fun y1 y3 => ald (S.1 0) 288 (nI 29) fun v2 => (if v2 ≤ y3 then mX11_digest_L197 S FU y1 (nI 0) else ald (S.1 0) 288 ((nI 30) + y3) fun v12 => nm (((lN 31) * y1) + v12.toInt64) fun x13 => ald (S.1 0) 288 ((nI 34) + y3) fun v14 => nm (((lN 31) * x13) + v14.toInt64) fun x15 => nm (y3 + (nI 1)) fun x16 => rc x15 x16)) n
theorem mX11_digest_L144_s (S : MS) (n : Nat) (y1 : Int64) (y3 : Int32) : mX11_digest_L144 S (n + 1) y1 y3 = ald (S.1 0) 288 (nI 29) fun v2 => (if v2 ≤ y3 then mX11_digest_L197 S FU y1 (nI 0) else ald (S.1 0) 288 ((nI 30) + y3) fun v12 => nm (((lN 31) * y1) + v12.toInt64) fun x13 => ald (S.1 0) 288 ((nI 34) + y3) fun v14 => nm (((lN 31) * x13) + v14.toInt64) fun x15 => nm (y3 + (nI 1)) fun x16 => (mX11_digest_L144 S n) x15 x16) := rfl
noncomputable def mX11_digest_L59 (S : MS) : Nat → Int64 → Int32 → Option Int64 := fun n => Nat.rec (motive := fun _ => Int64 → Int32 → Option Int64) (fun _ _ => none) (fun _ rc => fun y1 y3 => ald (S.1 0) 288 (nI 4) fun v1 => (if v1 ≤ y3 then mX11_digest_L144 S FU y1 (nI 0) else ald (S.1 0) 288 ((nI 5) + y3) fun v17 => nm (((lN 31) * y1) + v17.toInt64) fun x18 => ald (S.1 0) 288 ((nI 11) + y3) fun v19 => nm (((lN 31) * x18) + v19.toInt64) fun x20 => ald (S.1 0) 288 ((nI 17) + y3) fun v21 => nm (((lN 31) * x20) + v21.toInt64) fun x22 => ald (S.1 0) 288 ((nI 23) + y3) fun v23 => nm (((lN 31) * x22) + v23.toInt64) fun x24 => nm (y3 + (nI 1)) fun x25 => rc x24 x25)) n
theorem mX11_digest_L59_s (S : MS) (n : Nat) (y1 : Int64) (y3 : Int32) : mX11_digest_L59 S (n + 1) y1 y3 = ald (S.1 0) 288 (nI 4) fun v1 => (if v1 ≤ y3 then mX11_digest_L144 S FU y1 (nI 0) else ald (S.1 0) 288 ((nI 5) + y3) fun v17 => nm (((lN 31) * y1) + v17.toInt64) fun x18 => ald (S.1 0) 288 ((nI 11) + y3) fun v19 => nm (((lN 31) * x18) + v19.toInt64) fun x20 => ald (S.1 0) 288 ((nI 17) + y3) fun v21 => nm (((lN 31) * x20) + v21.toInt64) fun x22 => ald (S.1 0) 288 ((nI 23) + y3) fun v23 => nm (((lN 31) * x22) + v23.toInt64) fun x24 => nm (y3 + (nI 1)) fun x25 => (mX11_digest_L59 S n) x24 x25) := rfl
noncomputable def mX11_digest_L33 (S : MS) : Nat → Int64 → Int32 → Option Int64 := fun n => Nat.rec (motive := fun _ => Int64 → Int32 → Option Int64) (fun _ _ => none) (fun _ rc => fun y1 y3 => (if (nI 5) ≤ y3 then mX11_digest_L59 S FU y1 (nI 0) else (mX11_nowOf S y3).bind fun r26 => nm (((lN 31) * y1) + r26.toInt64) fun x27 => nm (y3 + (nI 1)) fun x28 => rc x27 x28)) n
theorem mX11_digest_L33_s (S : MS) (n : Nat) (y1 : Int64) (y3 : Int32) : mX11_digest_L33 S (n + 1) y1 y3 = (if (nI 5) ≤ y3 then mX11_digest_L59 S FU y1 (nI 0) else (mX11_nowOf S y3).bind fun r26 => nm (((lN 31) * y1) + r26.toInt64) fun x27 => nm (y3 + (nI 1)) fun x28 => (mX11_digest_L33 S n) x27 x28) := rfl
noncomputable def mX11_digest_L6 (S : MS) : Nat → Int64 → Int32 → Option Int64 := fun n => Nat.rec (motive := fun _ => Int64 → Int32 → Option Int64) (fun _ _ => none) (fun _ rc => fun y1 y3 => (if (nI 8) ≤ y3 then mX11_digest_L33 S FU y1 (nI 0) else (mX11_countOf S y3).bind fun r29 => nm (((lN 31) * y1) + r29.toInt64) fun x30 => nm (y3 + (nI 1)) fun x31 => rc x30 x31)) n
theorem mX11_digest_L6_s (S : MS) (n : Nat) (y1 : Int64) (y3 : Int32) : mX11_digest_L6 S (n + 1) y1 y3 = (if (nI 8) ≤ y3 then mX11_digest_L33 S FU y1 (nI 0) else (mX11_countOf S y3).bind fun r29 => nm (((lN 31) * y1) + r29.toInt64) fun x30 => nm (y3 + (nI 1)) fun x31 => (mX11_digest_L6 S n) x30 x31) := rfl
noncomputable def mX11_digest (S : MS) : Option Int64 := mX11_digest_L6 S FU (lN 1283) (nI 0)
set_option maxHeartbeats 4000000 in
set_option maxRecDepth 100000 in
theorem kX11_digest_L235 {p : Program} {l : Launch} {e : Env} {s : State} {m : MethodId} {below : List Frame} {meth : Method} {c : Code} {D : va_G} {cs : CS}  {ad : Nat → Nat} {S : MS}  (E : EV p s m [.ref (ad 22)].toArray meth c cX11_digest 4 RX11 (some .long) D cs) (hP : va_P D classes (WM cs ad S) s.heap) (z : Int64) : ∀ (n : Nat) (y1 : Int64) (y3 : Int32), mX11_digest_L235 S n y1 y3 = some z → ∀ ls : Array Slot, lv_has ls 4 [(0, .ref (ad 22)), (1, .long y1), (3, .int y3)] → W p l e ({ frames := 3, cells := 0, slots := 0, locals := 65 }) s m [.ref (ad 22)].toArray below meth c s.heap [] 0 0 (MQ below (QRl z) [.ref (ad 22)].toArray s 0 0 NoF) (F0 m 235 ls []) := by
  obtain ⟨hx, hb, hr, hml, hown, hlk, hT, hN, hK⟩ := id E
  intro n
  induction n with
  | zero =>
    intro y1 y3 hm
    exact nomatch (show (none : Option Int64) = some z from hm)
  | succ n ih =>
    intro y1 y3 hm ls hl
    rw [mX11_digest_L235_s] at hm
    refine lv_iload_n hx hb dX11_digest_235 rfl (lv_at hl 2 rfl) ?_
    refine lv_iconst (v := (nI 2)) hx hb dX11_digest_236 (by decide) ?_
    refine lv_aload_n hx hb dX11_digest_237 rfl (lv_at hl 0 rfl) ?_
    refine gf_X11_7 (v := .ref (ad 0)) hx hb hT hown hK hP 0 rfl rfl dX11_digest_238 ?_
    refine lv_bipush (v := (nI 57)) hx hb dX11_digest_241 (by decide) ?_
    refine x_iald hx hb hK hP 1 rfl hm dX11_digest_243 (fun v4 hm => ?_)
    refine lv_imul hx hb dX11_digest_244 ?_
    refine x_icmp_ge (tgt := 271) hx hb dX11_digest_245 (by decide) hm (fun hm => ?_) (fun hm => ?_)
    · refine lv_ldc2 hx hb hown (hT _ tw_1199) dX11_digest_271 ?_
      refine lv_lload_n hx hb dX11_digest_274 rfl (lv_at hl 1 rfl) ?_
      refine lv_lmul hx hb dX11_digest_275 ?_
      refine lv_aload_n hx hb dX11_digest_276 rfl (lv_at hl 0 rfl) ?_
      refine gf_X11_212 (v := .long (S.2.2 3)) hx hb hT hown hK hP 0 rfl rfl dX11_digest_277 ?_
      refine lv_ladd hx hb dX11_digest_280 ?_
      refine xl_nm hm (fun x5 hm => ?_)
      refine lv_lstore_n (lv' := [(1, .long x5), (0, .ref (ad 22)), (3, .int y3)]) hx hb dX11_digest_281 rfl hl (by decide) rfl (fun ls hl => ?_)
      refine lv_ldc2 hx hb hown (hT _ tw_1199) dX11_digest_282 ?_
      refine lv_lload_n hx hb dX11_digest_285 rfl (lv_at hl 0 rfl) ?_
      refine lv_lmul hx hb dX11_digest_286 ?_
      refine lv_aload_n hx hb dX11_digest_287 rfl (lv_at hl 1 rfl) ?_
      refine gf_X11_20 (v := .long (S.2.2 4)) hx hb hT hown hK hP 0 rfl rfl dX11_digest_288 ?_
      refine lv_ladd hx hb dX11_digest_291 ?_
      exact x_lretR hx hb hr hlk hm dX11_digest_292
    · refine lv_ldc2 hx hb hown (hT _ tw_1199) dX11_digest_248 ?_
      refine lv_lload_n hx hb dX11_digest_251 rfl (lv_at hl 1 rfl) ?_
      refine lv_lmul hx hb dX11_digest_252 ?_
      refine lv_aload_n hx hb dX11_digest_253 rfl (lv_at hl 0 rfl) ?_
      refine gf_X11_7 (v := .ref (ad 0)) hx hb hT hown hK hP 0 rfl rfl dX11_digest_254 ?_
      refine lv_bipush (v := (nI 58)) hx hb dX11_digest_257 (by decide) ?_
      refine lv_iload_n hx hb dX11_digest_259 rfl (lv_at hl 2 rfl) ?_
      refine lv_iadd hx hb dX11_digest_260 ?_
      refine x_iald hx hb hK hP 1 rfl hm dX11_digest_261 (fun v6 hm => ?_)
      refine lv_i2l hx hb dX11_digest_262 rfl ?_
      refine lv_ladd hx hb dX11_digest_263 ?_
      refine xl_nm hm (fun x7 hm => ?_)
      refine lv_lstore_n (lv' := [(1, .long x7), (0, .ref (ad 22)), (3, .int y3)]) hx hb dX11_digest_264 rfl hl (by decide) rfl (fun ls hl => ?_)
      refine x_iinc (lv' := fun x8 => [(3, .int x8), (1, .long x7), (0, .ref (ad 22))]) hx hb dX11_digest_265 hl (k := 2) rfl (by decide) (v0 := (nI 1)) (by decide) (fun _ => rfl) hm (fun x8 ls hm hl => ?_)
      refine lv_goto (tgt := 235) hx hb dX11_digest_268 (by decide) ?_
      exact ih x7 x8 hm ls (lv_sub hl [2, 1, 0] rfl)
set_option maxHeartbeats 4000000 in
set_option maxRecDepth 100000 in
theorem kX11_digest_L197 {p : Program} {l : Launch} {e : Env} {s : State} {m : MethodId} {below : List Frame} {meth : Method} {c : Code} {D : va_G} {cs : CS}  {ad : Nat → Nat} {S : MS}  (E : EV p s m [.ref (ad 22)].toArray meth c cX11_digest 4 RX11 (some .long) D cs) (hP : va_P D classes (WM cs ad S) s.heap) (z : Int64) : ∀ (n : Nat) (y1 : Int64) (y3 : Int32), mX11_digest_L197 S n y1 y3 = some z → ∀ ls : Array Slot, lv_has ls 4 [(0, .ref (ad 22)), (1, .long y1), (3, .int y3)] → W p l e ({ frames := 3, cells := 0, slots := 0, locals := 65 }) s m [.ref (ad 22)].toArray below meth c s.heap [] 0 0 (MQ below (QRl z) [.ref (ad 22)].toArray s 0 0 NoF) (F0 m 197 ls []) := by
  obtain ⟨hx, hb, hr, hml, hown, hlk, hT, hN, hK⟩ := id E
  intro n
  induction n with
  | zero =>
    intro y1 y3 hm
    exact nomatch (show (none : Option Int64) = some z from hm)
  | succ n ih =>
    intro y1 y3 hm ls hl
    rw [mX11_digest_L197_s] at hm
    refine lv_iload_n hx hb dX11_digest_197 rfl (lv_at hl 2 rfl) ?_
    refine lv_iconst (v := (nI 3)) hx hb dX11_digest_198 (by decide) ?_
    refine lv_aload_n hx hb dX11_digest_199 rfl (lv_at hl 0 rfl) ?_
    refine gf_X11_7 (v := .ref (ad 0)) hx hb hT hown hK hP 0 rfl rfl dX11_digest_200 ?_
    refine lv_bipush (v := (nI 38)) hx hb dX11_digest_203 (by decide) ?_
    refine x_iald hx hb hK hP 1 rfl hm dX11_digest_205 (fun v3 hm => ?_)
    refine lv_imul hx hb dX11_digest_206 ?_
    refine x_icmp_ge (tgt := 233) hx hb dX11_digest_207 (by decide) hm (fun hm => ?_) (fun hm => ?_)
    · refine lv_iconst (v := (nI 0)) hx hb dX11_digest_233 (by decide) ?_
      refine lv_istore_n (lv' := [(3, .int (nI 0)), (0, .ref (ad 22)), (1, .long y1)]) hx hb dX11_digest_234 rfl hl (by decide) rfl (fun ls hl => ?_)
      exact kX11_digest_L235 E hP _ FU y1 (nI 0) hm ls (lv_sub hl [1, 2, 0] rfl)
    · refine lv_ldc2 hx hb hown (hT _ tw_1199) dX11_digest_210 ?_
      refine lv_lload_n hx hb dX11_digest_213 rfl (lv_at hl 1 rfl) ?_
      refine lv_lmul hx hb dX11_digest_214 ?_
      refine lv_aload_n hx hb dX11_digest_215 rfl (lv_at hl 0 rfl) ?_
      refine gf_X11_7 (v := .ref (ad 0)) hx hb hT hown hK hP 0 rfl rfl dX11_digest_216 ?_
      refine lv_bipush (v := (nI 39)) hx hb dX11_digest_219 (by decide) ?_
      refine lv_iload_n hx hb dX11_digest_221 rfl (lv_at hl 2 rfl) ?_
      refine lv_iadd hx hb dX11_digest_222 ?_
      refine x_iald hx hb hK hP 1 rfl hm dX11_digest_223 (fun v9 hm => ?_)
      refine lv_i2l hx hb dX11_digest_224 rfl ?_
      refine lv_ladd hx hb dX11_digest_225 ?_
      refine xl_nm hm (fun x10 hm => ?_)
      refine lv_lstore_n (lv' := [(1, .long x10), (0, .ref (ad 22)), (3, .int y3)]) hx hb dX11_digest_226 rfl hl (by decide) rfl (fun ls hl => ?_)
      refine x_iinc (lv' := fun x11 => [(3, .int x11), (1, .long x10), (0, .ref (ad 22))]) hx hb dX11_digest_227 hl (k := 2) rfl (by decide) (v0 := (nI 1)) (by decide) (fun _ => rfl) hm (fun x11 ls hm hl => ?_)
      refine lv_goto (tgt := 197) hx hb dX11_digest_230 (by decide) ?_
      exact ih x10 x11 hm ls (lv_sub hl [2, 1, 0] rfl)
set_option maxHeartbeats 4000000 in
set_option maxRecDepth 100000 in
theorem kX11_digest_L144 {p : Program} {l : Launch} {e : Env} {s : State} {m : MethodId} {below : List Frame} {meth : Method} {c : Code} {D : va_G} {cs : CS}  {ad : Nat → Nat} {S : MS}  (E : EV p s m [.ref (ad 22)].toArray meth c cX11_digest 4 RX11 (some .long) D cs) (hP : va_P D classes (WM cs ad S) s.heap) (z : Int64) : ∀ (n : Nat) (y1 : Int64) (y3 : Int32), mX11_digest_L144 S n y1 y3 = some z → ∀ ls : Array Slot, lv_has ls 4 [(0, .ref (ad 22)), (1, .long y1), (3, .int y3)] → W p l e ({ frames := 3, cells := 0, slots := 0, locals := 65 }) s m [.ref (ad 22)].toArray below meth c s.heap [] 0 0 (MQ below (QRl z) [.ref (ad 22)].toArray s 0 0 NoF) (F0 m 144 ls []) := by
  obtain ⟨hx, hb, hr, hml, hown, hlk, hT, hN, hK⟩ := id E
  intro n
  induction n with
  | zero =>
    intro y1 y3 hm
    exact nomatch (show (none : Option Int64) = some z from hm)
  | succ n ih =>
    intro y1 y3 hm ls hl
    rw [mX11_digest_L144_s] at hm
    refine lv_iload_n hx hb dX11_digest_144 rfl (lv_at hl 2 rfl) ?_
    refine lv_aload_n hx hb dX11_digest_145 rfl (lv_at hl 0 rfl) ?_
    refine gf_X11_7 (v := .ref (ad 0)) hx hb hT hown hK hP 0 rfl rfl dX11_digest_146 ?_
    refine lv_bipush (v := (nI 29)) hx hb dX11_digest_149 (by decide) ?_
    refine x_iald hx hb hK hP 1 rfl hm dX11_digest_151 (fun v2 hm => ?_)
    refine x_icmp_ge (tgt := 195) hx hb dX11_digest_152 (by decide) hm (fun hm => ?_) (fun hm => ?_)
    · refine lv_iconst (v := (nI 0)) hx hb dX11_digest_195 (by decide) ?_
      refine lv_istore_n (lv' := [(3, .int (nI 0)), (0, .ref (ad 22)), (1, .long y1)]) hx hb dX11_digest_196 rfl hl (by decide) rfl (fun ls hl => ?_)
      exact kX11_digest_L197 E hP _ FU y1 (nI 0) hm ls (lv_sub hl [1, 2, 0] rfl)
    · refine lv_ldc2 hx hb hown (hT _ tw_1199) dX11_digest_155 ?_
      refine lv_lload_n hx hb dX11_digest_158 rfl (lv_at hl 1 rfl) ?_
      refine lv_lmul hx hb dX11_digest_159 ?_
      refine lv_aload_n hx hb dX11_digest_160 rfl (lv_at hl 0 rfl) ?_
      refine gf_X11_7 (v := .ref (ad 0)) hx hb hT hown hK hP 0 rfl rfl dX11_digest_161 ?_
      refine lv_bipush (v := (nI 30)) hx hb dX11_digest_164 (by decide) ?_
      refine lv_iload_n hx hb dX11_digest_166 rfl (lv_at hl 2 rfl) ?_
      refine lv_iadd hx hb dX11_digest_167 ?_
      refine x_iald hx hb hK hP 1 rfl hm dX11_digest_168 (fun v12 hm => ?_)
      refine lv_i2l hx hb dX11_digest_169 rfl ?_
      refine lv_ladd hx hb dX11_digest_170 ?_
      refine xl_nm hm (fun x13 hm => ?_)
      refine lv_lstore_n (lv' := [(1, .long x13), (0, .ref (ad 22)), (3, .int y3)]) hx hb dX11_digest_171 rfl hl (by decide) rfl (fun ls hl => ?_)
      refine lv_ldc2 hx hb hown (hT _ tw_1199) dX11_digest_172 ?_
      refine lv_lload_n hx hb dX11_digest_175 rfl (lv_at hl 0 rfl) ?_
      refine lv_lmul hx hb dX11_digest_176 ?_
      refine lv_aload_n hx hb dX11_digest_177 rfl (lv_at hl 1 rfl) ?_
      refine gf_X11_7 (v := .ref (ad 0)) hx hb hT hown hK hP 0 rfl rfl dX11_digest_178 ?_
      refine lv_bipush (v := (nI 34)) hx hb dX11_digest_181 (by decide) ?_
      refine lv_iload_n hx hb dX11_digest_183 rfl (lv_at hl 2 rfl) ?_
      refine lv_iadd hx hb dX11_digest_184 ?_
      refine x_iald hx hb hK hP 1 rfl hm dX11_digest_185 (fun v14 hm => ?_)
      refine lv_i2l hx hb dX11_digest_186 rfl ?_
      refine lv_ladd hx hb dX11_digest_187 ?_
      refine xl_nm hm (fun x15 hm => ?_)
      refine lv_lstore_n (lv' := [(1, .long x15), (0, .ref (ad 22)), (3, .int y3)]) hx hb dX11_digest_188 rfl hl (by decide) rfl (fun ls hl => ?_)
      refine x_iinc (lv' := fun x16 => [(3, .int x16), (1, .long x15), (0, .ref (ad 22))]) hx hb dX11_digest_189 hl (k := 2) rfl (by decide) (v0 := (nI 1)) (by decide) (fun _ => rfl) hm (fun x16 ls hm hl => ?_)
      refine lv_goto (tgt := 144) hx hb dX11_digest_192 (by decide) ?_
      exact ih x15 x16 hm ls (lv_sub hl [2, 1, 0] rfl)
set_option maxHeartbeats 4000000 in
set_option maxRecDepth 100000 in
theorem kX11_digest_L59 {p : Program} {l : Launch} {e : Env} {s : State} {m : MethodId} {below : List Frame} {meth : Method} {c : Code} {D : va_G} {cs : CS}  {ad : Nat → Nat} {S : MS}  (E : EV p s m [.ref (ad 22)].toArray meth c cX11_digest 4 RX11 (some .long) D cs) (hP : va_P D classes (WM cs ad S) s.heap) (z : Int64) : ∀ (n : Nat) (y1 : Int64) (y3 : Int32), mX11_digest_L59 S n y1 y3 = some z → ∀ ls : Array Slot, lv_has ls 4 [(0, .ref (ad 22)), (1, .long y1), (3, .int y3)] → W p l e ({ frames := 3, cells := 0, slots := 0, locals := 65 }) s m [.ref (ad 22)].toArray below meth c s.heap [] 0 0 (MQ below (QRl z) [.ref (ad 22)].toArray s 0 0 NoF) (F0 m 59 ls []) := by
  obtain ⟨hx, hb, hr, hml, hown, hlk, hT, hN, hK⟩ := id E
  intro n
  induction n with
  | zero =>
    intro y1 y3 hm
    exact nomatch (show (none : Option Int64) = some z from hm)
  | succ n ih =>
    intro y1 y3 hm ls hl
    rw [mX11_digest_L59_s] at hm
    refine lv_iload_n hx hb dX11_digest_59 rfl (lv_at hl 2 rfl) ?_
    refine lv_aload_n hx hb dX11_digest_60 rfl (lv_at hl 0 rfl) ?_
    refine gf_X11_7 (v := .ref (ad 0)) hx hb hT hown hK hP 0 rfl rfl dX11_digest_61 ?_
    refine lv_iconst (v := (nI 4)) hx hb dX11_digest_64 (by decide) ?_
    refine x_iald hx hb hK hP 1 rfl hm dX11_digest_65 (fun v1 hm => ?_)
    refine x_icmp_ge (tgt := 142) hx hb dX11_digest_66 (by decide) hm (fun hm => ?_) (fun hm => ?_)
    · refine lv_iconst (v := (nI 0)) hx hb dX11_digest_142 (by decide) ?_
      refine lv_istore_n (lv' := [(3, .int (nI 0)), (0, .ref (ad 22)), (1, .long y1)]) hx hb dX11_digest_143 rfl hl (by decide) rfl (fun ls hl => ?_)
      exact kX11_digest_L144 E hP _ FU y1 (nI 0) hm ls (lv_sub hl [1, 2, 0] rfl)
    · refine lv_ldc2 hx hb hown (hT _ tw_1199) dX11_digest_69 ?_
      refine lv_lload_n hx hb dX11_digest_72 rfl (lv_at hl 1 rfl) ?_
      refine lv_lmul hx hb dX11_digest_73 ?_
      refine lv_aload_n hx hb dX11_digest_74 rfl (lv_at hl 0 rfl) ?_
      refine gf_X11_7 (v := .ref (ad 0)) hx hb hT hown hK hP 0 rfl rfl dX11_digest_75 ?_
      refine lv_iconst (v := (nI 5)) hx hb dX11_digest_78 (by decide) ?_
      refine lv_iload_n hx hb dX11_digest_79 rfl (lv_at hl 2 rfl) ?_
      refine lv_iadd hx hb dX11_digest_80 ?_
      refine x_iald hx hb hK hP 1 rfl hm dX11_digest_81 (fun v17 hm => ?_)
      refine lv_i2l hx hb dX11_digest_82 rfl ?_
      refine lv_ladd hx hb dX11_digest_83 ?_
      refine xl_nm hm (fun x18 hm => ?_)
      refine lv_lstore_n (lv' := [(1, .long x18), (0, .ref (ad 22)), (3, .int y3)]) hx hb dX11_digest_84 rfl hl (by decide) rfl (fun ls hl => ?_)
      refine lv_ldc2 hx hb hown (hT _ tw_1199) dX11_digest_85 ?_
      refine lv_lload_n hx hb dX11_digest_88 rfl (lv_at hl 0 rfl) ?_
      refine lv_lmul hx hb dX11_digest_89 ?_
      refine lv_aload_n hx hb dX11_digest_90 rfl (lv_at hl 1 rfl) ?_
      refine gf_X11_7 (v := .ref (ad 0)) hx hb hT hown hK hP 0 rfl rfl dX11_digest_91 ?_
      refine lv_bipush (v := (nI 11)) hx hb dX11_digest_94 (by decide) ?_
      refine lv_iload_n hx hb dX11_digest_96 rfl (lv_at hl 2 rfl) ?_
      refine lv_iadd hx hb dX11_digest_97 ?_
      refine x_iald hx hb hK hP 1 rfl hm dX11_digest_98 (fun v19 hm => ?_)
      refine lv_i2l hx hb dX11_digest_99 rfl ?_
      refine lv_ladd hx hb dX11_digest_100 ?_
      refine xl_nm hm (fun x20 hm => ?_)
      refine lv_lstore_n (lv' := [(1, .long x20), (0, .ref (ad 22)), (3, .int y3)]) hx hb dX11_digest_101 rfl hl (by decide) rfl (fun ls hl => ?_)
      refine lv_ldc2 hx hb hown (hT _ tw_1199) dX11_digest_102 ?_
      refine lv_lload_n hx hb dX11_digest_105 rfl (lv_at hl 0 rfl) ?_
      refine lv_lmul hx hb dX11_digest_106 ?_
      refine lv_aload_n hx hb dX11_digest_107 rfl (lv_at hl 1 rfl) ?_
      refine gf_X11_7 (v := .ref (ad 0)) hx hb hT hown hK hP 0 rfl rfl dX11_digest_108 ?_
      refine lv_bipush (v := (nI 17)) hx hb dX11_digest_111 (by decide) ?_
      refine lv_iload_n hx hb dX11_digest_113 rfl (lv_at hl 2 rfl) ?_
      refine lv_iadd hx hb dX11_digest_114 ?_
      refine x_iald hx hb hK hP 1 rfl hm dX11_digest_115 (fun v21 hm => ?_)
      refine lv_i2l hx hb dX11_digest_116 rfl ?_
      refine lv_ladd hx hb dX11_digest_117 ?_
      refine xl_nm hm (fun x22 hm => ?_)
      refine lv_lstore_n (lv' := [(1, .long x22), (0, .ref (ad 22)), (3, .int y3)]) hx hb dX11_digest_118 rfl hl (by decide) rfl (fun ls hl => ?_)
      refine lv_ldc2 hx hb hown (hT _ tw_1199) dX11_digest_119 ?_
      refine lv_lload_n hx hb dX11_digest_122 rfl (lv_at hl 0 rfl) ?_
      refine lv_lmul hx hb dX11_digest_123 ?_
      refine lv_aload_n hx hb dX11_digest_124 rfl (lv_at hl 1 rfl) ?_
      refine gf_X11_7 (v := .ref (ad 0)) hx hb hT hown hK hP 0 rfl rfl dX11_digest_125 ?_
      refine lv_bipush (v := (nI 23)) hx hb dX11_digest_128 (by decide) ?_
      refine lv_iload_n hx hb dX11_digest_130 rfl (lv_at hl 2 rfl) ?_
      refine lv_iadd hx hb dX11_digest_131 ?_
      refine x_iald hx hb hK hP 1 rfl hm dX11_digest_132 (fun v23 hm => ?_)
      refine lv_i2l hx hb dX11_digest_133 rfl ?_
      refine lv_ladd hx hb dX11_digest_134 ?_
      refine xl_nm hm (fun x24 hm => ?_)
      refine lv_lstore_n (lv' := [(1, .long x24), (0, .ref (ad 22)), (3, .int y3)]) hx hb dX11_digest_135 rfl hl (by decide) rfl (fun ls hl => ?_)
      refine x_iinc (lv' := fun x25 => [(3, .int x25), (1, .long x24), (0, .ref (ad 22))]) hx hb dX11_digest_136 hl (k := 2) rfl (by decide) (v0 := (nI 1)) (by decide) (fun _ => rfl) hm (fun x25 ls hm hl => ?_)
      refine lv_goto (tgt := 59) hx hb dX11_digest_139 (by decide) ?_
      exact ih x24 x25 hm ls (lv_sub hl [2, 1, 0] rfl)
set_option maxHeartbeats 4000000 in
set_option maxRecDepth 100000 in
theorem kX11_digest_L33 {p : Program} {l : Launch} {e : Env} {s : State} {m : MethodId} {below : List Frame} {meth : Method} {c : Code} {D : va_G} {cs : CS}  {ad : Nat → Nat} {S : MS}  (E : EV p s m [.ref (ad 22)].toArray meth c cX11_digest 4 RX11 (some .long) D cs) (hP : va_P D classes (WM cs ad S) s.heap) (z : Int64) : ∀ (n : Nat) (y1 : Int64) (y3 : Int32), mX11_digest_L33 S n y1 y3 = some z → ∀ ls : Array Slot, lv_has ls 4 [(0, .ref (ad 22)), (1, .long y1), (3, .int y3)] → W p l e ({ frames := 3, cells := 0, slots := 0, locals := 65 }) s m [.ref (ad 22)].toArray below meth c s.heap [] 0 0 (MQ below (QRl z) [.ref (ad 22)].toArray s 0 0 NoF) (F0 m 33 ls []) := by
  obtain ⟨hx, hb, hr, hml, hown, hlk, hT, hN, hK⟩ := id E
  intro n
  induction n with
  | zero =>
    intro y1 y3 hm
    exact nomatch (show (none : Option Int64) = some z from hm)
  | succ n ih =>
    intro y1 y3 hm ls hl
    rw [mX11_digest_L33_s] at hm
    refine lv_iload_n hx hb dX11_digest_33 rfl (lv_at hl 2 rfl) ?_
    refine lv_iconst (v := (nI 5)) hx hb dX11_digest_34 (by decide) ?_
    refine x_icmp_ge (tgt := 57) hx hb dX11_digest_35 (by decide) hm (fun hm => ?_) (fun hm => ?_)
    · refine lv_iconst (v := (nI 0)) hx hb dX11_digest_57 (by decide) ?_
      refine lv_istore_n (lv' := [(3, .int (nI 0)), (0, .ref (ad 22)), (1, .long y1)]) hx hb dX11_digest_58 rfl hl (by decide) rfl (fun ls hl => ?_)
      exact kX11_digest_L59 E hP _ FU y1 (nI 0) hm ls (lv_sub hl [1, 2, 0] rfl)
    · refine lv_ldc2 hx hb hown (hT _ tw_1199) dX11_digest_38 ?_
      refine lv_lload_n hx hb dX11_digest_41 rfl (lv_at hl 1 rfl) ?_
      refine lv_lmul hx hb dX11_digest_42 ?_
      refine lv_aload_n hx hb dX11_digest_43 rfl (lv_at hl 0 rfl) ?_
      refine lv_iload_n hx hb dX11_digest_44 rfl (lv_at hl 2 rfl) ?_
      refine xV_i (As := [.int y3]) (rest := [.long ((lN 31) * y1)]) hx hb hml hown hT hN hK hP cw_X11_159 hm (fun z h => tcX11_nowOf l D cs ad S y3 z h) ⟨rfl, rfl⟩ ⟨by decide, by decide⟩ (b := (ad 22)) 0 rfl rfl rfl hl.1 rfl rfl (Nat.le_of_ble_eq_true rfl) dX11_digest_45 ⟨Nat.zero_le _, Nat.zero_le _⟩ (fun r26 hm => ?_)
      refine lv_i2l hx hb dX11_digest_48 rfl ?_
      refine lv_ladd hx hb dX11_digest_49 ?_
      refine xl_nm hm (fun x27 hm => ?_)
      refine lv_lstore_n (lv' := [(1, .long x27), (0, .ref (ad 22)), (3, .int y3)]) hx hb dX11_digest_50 rfl hl (by decide) rfl (fun ls hl => ?_)
      refine x_iinc (lv' := fun x28 => [(3, .int x28), (1, .long x27), (0, .ref (ad 22))]) hx hb dX11_digest_51 hl (k := 2) rfl (by decide) (v0 := (nI 1)) (by decide) (fun _ => rfl) hm (fun x28 ls hm hl => ?_)
      refine lv_goto (tgt := 33) hx hb dX11_digest_54 (by decide) ?_
      exact ih x27 x28 hm ls (lv_sub hl [2, 1, 0] rfl)
set_option maxHeartbeats 4000000 in
set_option maxRecDepth 100000 in
theorem kX11_digest_L6 {p : Program} {l : Launch} {e : Env} {s : State} {m : MethodId} {below : List Frame} {meth : Method} {c : Code} {D : va_G} {cs : CS}  {ad : Nat → Nat} {S : MS}  (E : EV p s m [.ref (ad 22)].toArray meth c cX11_digest 4 RX11 (some .long) D cs) (hP : va_P D classes (WM cs ad S) s.heap) (z : Int64) : ∀ (n : Nat) (y1 : Int64) (y3 : Int32), mX11_digest_L6 S n y1 y3 = some z → ∀ ls : Array Slot, lv_has ls 4 [(0, .ref (ad 22)), (1, .long y1), (3, .int y3)] → W p l e ({ frames := 3, cells := 0, slots := 0, locals := 65 }) s m [.ref (ad 22)].toArray below meth c s.heap [] 0 0 (MQ below (QRl z) [.ref (ad 22)].toArray s 0 0 NoF) (F0 m 6 ls []) := by
  obtain ⟨hx, hb, hr, hml, hown, hlk, hT, hN, hK⟩ := id E
  intro n
  induction n with
  | zero =>
    intro y1 y3 hm
    exact nomatch (show (none : Option Int64) = some z from hm)
  | succ n ih =>
    intro y1 y3 hm ls hl
    rw [mX11_digest_L6_s] at hm
    refine lv_iload_n hx hb dX11_digest_6 rfl (lv_at hl 2 rfl) ?_
    refine lv_bipush (v := (nI 8)) hx hb dX11_digest_7 (by decide) ?_
    refine x_icmp_ge (tgt := 31) hx hb dX11_digest_9 (by decide) hm (fun hm => ?_) (fun hm => ?_)
    · refine lv_iconst (v := (nI 0)) hx hb dX11_digest_31 (by decide) ?_
      refine lv_istore_n (lv' := [(3, .int (nI 0)), (0, .ref (ad 22)), (1, .long y1)]) hx hb dX11_digest_32 rfl hl (by decide) rfl (fun ls hl => ?_)
      exact kX11_digest_L33 E hP _ FU y1 (nI 0) hm ls (lv_sub hl [1, 2, 0] rfl)
    · refine lv_ldc2 hx hb hown (hT _ tw_1199) dX11_digest_12 ?_
      refine lv_lload_n hx hb dX11_digest_15 rfl (lv_at hl 1 rfl) ?_
      refine lv_lmul hx hb dX11_digest_16 ?_
      refine lv_aload_n hx hb dX11_digest_17 rfl (lv_at hl 0 rfl) ?_
      refine lv_iload_n hx hb dX11_digest_18 rfl (lv_at hl 2 rfl) ?_
      refine xV_i (As := [.int y3]) (rest := [.long ((lN 31) * y1)]) hx hb hml hown hT hN hK hP cw_X11_230 hm (fun z h => tcX11_countOf l D cs ad S y3 z h) ⟨rfl, rfl⟩ ⟨by decide, by decide⟩ (b := (ad 22)) 0 rfl rfl rfl hl.1 rfl rfl (Nat.le_of_ble_eq_true rfl) dX11_digest_19 ⟨Nat.zero_le _, Nat.zero_le _⟩ (fun r29 hm => ?_)
      refine lv_i2l hx hb dX11_digest_22 rfl ?_
      refine lv_ladd hx hb dX11_digest_23 ?_
      refine xl_nm hm (fun x30 hm => ?_)
      refine lv_lstore_n (lv' := [(1, .long x30), (0, .ref (ad 22)), (3, .int y3)]) hx hb dX11_digest_24 rfl hl (by decide) rfl (fun ls hl => ?_)
      refine x_iinc (lv' := fun x31 => [(3, .int x31), (1, .long x30), (0, .ref (ad 22))]) hx hb dX11_digest_25 hl (k := 2) rfl (by decide) (v0 := (nI 1)) (by decide) (fun _ => rfl) hm (fun x31 ls hm hl => ?_)
      refine lv_goto (tgt := 6) hx hb dX11_digest_28 (by decide) ?_
      exact ih x30 x31 hm ls (lv_sub hl [2, 1, 0] rfl)
set_option maxHeartbeats 4000000 in
set_option maxRecDepth 100000 in
theorem tcX11_digest (l : Launch) (D : va_G) (cs : CS) (ad : Nat → Nat) (S : MS) (z : Int64) (hm : mX11_digest S = some z) : Met l yX11_digest (Cond.code yX11_digest cX11_digest 4 (some .long) :: gw_tbl) ({ frames := 3, cells := 0, slots := 0, locals := 65 }) (PcR D cs (WM cs ad S) [.ref (ad 22)]) (QRl z) 0 0 NoF := by
  refine met_R rfl (Nat.le_of_ble_eq_true rfl) (fun p e s m below meth c E hP ls hl => ?_)
  obtain ⟨hx, hb, hr, hml, hown, hlk, hT, hN, hK⟩ := id E
  have hl : lv_has ls 4 [(0, .ref (ad 22))] := hl
  unfold mX11_digest at hm
  refine lv_ldc2 hx hb hown (hT _ tw_1198) dX11_digest_0 ?_
  refine lv_lstore_n (lv' := [(1, .long (lN 1283)), (0, .ref (ad 22))]) hx hb dX11_digest_3 rfl hl (by decide) rfl (fun ls hl => ?_)
  refine lv_iconst (v := (nI 0)) hx hb dX11_digest_4 (by decide) ?_
  refine lv_istore_n (lv' := [(3, .int (nI 0)), (1, .long (lN 1283)), (0, .ref (ad 22))]) hx hb dX11_digest_5 rfl hl (by decide) rfl (fun ls hl => ?_)
  exact kX11_digest_L6 E hP _ FU (lN 1283) (nI 0) hm ls (lv_sub hl [2, 1, 0] rfl)
noncomputable def mX11_refuse (S : MS) (a1 : Int32) : Option (Int32 × MS) := (if a1 = (-3 : Int32) then ald (S.1 2) 3 (nI 1) fun v5 => ast 3 (nI 1) <| nm (mA S 2 ((nI 1).toNatClampNeg) (v5 + (nI 1))) fun S6 => some (a1, S6) else (if a1 = (-4 : Int32) then ald (S.1 2) 3 (nI 2) fun v3 => ast 3 (nI 2) <| nm (mA S 2 ((nI 2).toNatClampNeg) (v3 + (nI 1))) fun S4 => some (a1, S4) else ald (S.1 2) 3 (nI 0) fun v1 => ast 3 (nI 0) <| nm (mA S 2 ((nI 0).toNatClampNeg) (v1 + (nI 1))) fun S2 => some (a1, S2)))
set_option maxHeartbeats 4000000 in
set_option maxRecDepth 100000 in
theorem tcX11_refuse (l : Launch) (D : va_G) (cs : CS) (ad : Nat → Nat) (sz : Nat) (S : MS) (a1 : Int32) (z : Int32 × MS) (hm : mX11_refuse S a1 = some z) : Met l yX11_refuse (Cond.code yX11_refuse cX11_refuse 2 (some .int) :: gw_tbl) ({ frames := 0, cells := 0, slots := 0, locals := 0 }) (PcW D cs sz (WM cs ad S) [.ref (ad 22), .int a1]) (QWi D cs (va_A (WM cs ad S) sz) (fun u => WM cs ad u) z) 0 0 (va_A (WM cs ad S) sz) := by
  refine met_W rfl (Nat.le_of_ble_eq_true rfl) (fun p e s m below meth c E hP hD hS hA ls hl => ?_)
  generalize va_A (WM cs ad S) sz = A at hD hS hA ⊢
  obtain ⟨hx, hb, hr, hml, hown, hlk, hT, hN, hK⟩ := id E
  obtain ⟨H, hH⟩ : ∃ H, H = s.heap := ⟨_, rfl⟩
  obtain ⟨locs, hlo⟩ : ∃ L : List Loc, L = [] := ⟨_, rfl⟩
  have hP : va_P D classes (WM cs ad S) H := by rw [hH]; exact hP
  have hS : va_S A s.heap H locs := by rw [hH, hlo]; exact hS
  rw [show W p l e _ s m _ below meth c s.heap [] 0 0 = W p l e _ s m _ below meth c H locs 0 0 by rw [hH, hlo]]
  have hl : lv_has ls 2 [(0, .ref (ad 22)), (1, .int a1)] := hl
  unfold mX11_refuse at hm
  refine lv_aload_n hx hb dX11_refuse_0 rfl (lv_at hl 0 rfl) ?_
  refine gf_X11_17 (v := .ref (ad 2)) hx hb hT hown hK hP 0 rfl rfl dX11_refuse_1 ?_
  refine lv_iload_n hx hb dX11_refuse_4 rfl (lv_at hl 1 rfl) ?_
  refine lv_bipush (v := (-3 : Int32)) hx hb dX11_refuse_5 (by decide) ?_
  refine x_icmp_ne (tgt := 14) hx hb dX11_refuse_7 (by decide) hm (fun hm => ?_) (fun hm => ?_)
  · refine lv_iload_n hx hb dX11_refuse_14 rfl (lv_at hl 1 rfl) ?_
    refine lv_bipush (v := (-4 : Int32)) hx hb dX11_refuse_15 (by decide) ?_
    refine x_icmp_ne (tgt := 24) hx hb dX11_refuse_17 (by decide) hm (fun hm => ?_) (fun hm => ?_)
    · refine lv_iconst (v := (nI 0)) hx hb dX11_refuse_24 (by decide) ?_
      refine lv_dup2_11 hx hb dX11_refuse_25 rfl rfl ?_
      refine x_iald hx hb hK hP 3 rfl hm dX11_refuse_26 (fun v1 hm => ?_)
      refine lv_iconst (v := (nI 1)) hx hb dX11_refuse_27 (by decide) ?_
      refine lv_iadd hx hb dX11_refuse_28 ?_
      refine x_iast hx hb hK hP hD hS 3 rfl (fun j => mA S 2 j (v1 + (nI 1))) (fun u => WM cs ad u) (fun _ => rfl) hm dX11_refuse_29 (fun S2 H locs hm hP hD hS => ?_)
      refine lv_iload_n hx hb dX11_refuse_30 rfl (lv_at hl 1 rfl) ?_
      exact x_iretW (wf := (fun u => WM cs ad u)) hx hb hr hlk hK hP hD hS hm dX11_refuse_31
    · refine lv_iconst (v := (nI 2)) hx hb dX11_refuse_20 (by decide) ?_
      refine lv_goto (tgt := 25) hx hb dX11_refuse_21 (by decide) ?_
      refine lv_dup2_11 hx hb dX11_refuse_25 rfl rfl ?_
      refine x_iald hx hb hK hP 3 rfl hm dX11_refuse_26 (fun v3 hm => ?_)
      refine lv_iconst (v := (nI 1)) hx hb dX11_refuse_27 (by decide) ?_
      refine lv_iadd hx hb dX11_refuse_28 ?_
      refine x_iast hx hb hK hP hD hS 3 rfl (fun j => mA S 2 j (v3 + (nI 1))) (fun u => WM cs ad u) (fun _ => rfl) hm dX11_refuse_29 (fun S4 H locs hm hP hD hS => ?_)
      refine lv_iload_n hx hb dX11_refuse_30 rfl (lv_at hl 1 rfl) ?_
      exact x_iretW (wf := (fun u => WM cs ad u)) hx hb hr hlk hK hP hD hS hm dX11_refuse_31
  · refine lv_iconst (v := (nI 1)) hx hb dX11_refuse_10 (by decide) ?_
    refine lv_goto (tgt := 25) hx hb dX11_refuse_11 (by decide) ?_
    refine lv_dup2_11 hx hb dX11_refuse_25 rfl rfl ?_
    refine x_iald hx hb hK hP 3 rfl hm dX11_refuse_26 (fun v5 hm => ?_)
    refine lv_iconst (v := (nI 1)) hx hb dX11_refuse_27 (by decide) ?_
    refine lv_iadd hx hb dX11_refuse_28 ?_
    refine x_iast hx hb hK hP hD hS 3 rfl (fun j => mA S 2 j (v5 + (nI 1))) (fun u => WM cs ad u) (fun _ => rfl) hm dX11_refuse_29 (fun S6 H locs hm hP hD hS => ?_)
    refine lv_iload_n hx hb dX11_refuse_30 rfl (lv_at hl 1 rfl) ?_
    exact x_iretW (wf := (fun u => WM cs ad u)) hx hb hr hlk hK hP hD hS hm dX11_refuse_31
noncomputable def mX11_badTen (S : MS) : Option (Int32 × MS) := (mX11_refuse S (-2 : Int32)).bind fun ⟨r2, S1⟩ => some ((-10 : Int32), S1)
set_option maxHeartbeats 4000000 in
set_option maxRecDepth 100000 in
theorem tcX11_badTen (l : Launch) (D : va_G) (cs : CS) (ad : Nat → Nat) (sz : Nat) (S : MS) (z : Int32 × MS) (hm : mX11_badTen S = some z) : Met l yX11_badTen (Cond.code yX11_badTen cX11_badTen 1 (some .int) :: gw_tbl) ({ frames := 1, cells := 0, slots := 0, locals := 21 }) (PcW D cs sz (WM cs ad S) [.ref (ad 22)]) (QWi D cs (va_A (WM cs ad S) sz) (fun u => WM cs ad u) z) 0 0 (va_A (WM cs ad S) sz) := by
  refine met_W rfl (Nat.le_of_ble_eq_true rfl) (fun p e s m below meth c E hP hD hS hA ls hl => ?_)
  generalize va_A (WM cs ad S) sz = A at hD hS hA ⊢
  obtain ⟨hx, hb, hr, hml, hown, hlk, hT, hN, hK⟩ := id E
  obtain ⟨H, hH⟩ : ∃ H, H = s.heap := ⟨_, rfl⟩
  obtain ⟨locs, hlo⟩ : ∃ L : List Loc, L = [] := ⟨_, rfl⟩
  have hP : va_P D classes (WM cs ad S) H := by rw [hH]; exact hP
  have hS : va_S A s.heap H locs := by rw [hH, hlo]; exact hS
  rw [show W p l e _ s m _ below meth c s.heap [] 0 0 = W p l e _ s m _ below meth c H locs 0 0 by rw [hH, hlo]]
  have hl : lv_has ls 1 [(0, .ref (ad 22))] := hl
  unfold mX11_badTen at hm
  refine lv_aload_n hx hb dX11_badTen_0 rfl (lv_at hl 0 rfl) ?_
  refine lv_bipush (v := (-2 : Int32)) hx hb dX11_badTen_1 (by decide) ?_
  refine xVW_i (As := [.int (-2 : Int32)]) (rest := []) (wr := []) (wg := (fun u => WM cs ad u)) hx hb hml hown hT hN hK hP hD hS hA cw_X11_48 hm (fun z h => tcX11_refuse l D cs ad H.size S (-2 : Int32) z h) ⟨rfl, rfl⟩ ⟨by decide, by decide⟩ [0, 1, 2, 3, 4, 5, 6, 7, 8, 9, 10, 11] [] [0, 1, 2, 3, 4, 5, 6, 7, 8, 9, 10, 11] rfl (by decide) rfl (by decide) (by decide) (fun _ => rfl) (by decide) (b := (ad 22)) 0 rfl rfl rfl hl.1 rfl rfl (Nat.le_of_ble_eq_true rfl) dX11_badTen_3 ⟨Nat.zero_le _, Nat.zero_le _⟩ (fun r2 S1 H locs hm hP hD hS => ?_)
  refine lv_pop hx hb dX11_badTen_6 rfl ?_
  refine lv_bipush (v := (-10 : Int32)) hx hb dX11_badTen_7 (by decide) ?_
  exact x_iretW (wf := (fun u => WM cs ad u)) hx hb hr hlk hK hP hD hS hm dX11_badTen_9
noncomputable def mX11_layBook_L2  : Nat → Int32 → Int32 → MS → Option MS := fun n => Nat.rec (motive := fun _ => Int32 → Int32 → MS → Option MS) (fun _ _ _ => none) (fun _ rc => fun y1 y2 S => (if (nI 95) ≤ y2 then ast 288 (nI 3) <| nm (mA S 0 ((nI 3).toNatClampNeg) y1) fun S1 => some S1 else ast 288 y2 <| nm (mA S 0 y2.toNatClampNeg (nI 0)) fun S2 => nm (y2 + (nI 1)) fun x3 => rc y1 x3 S2)) n
theorem mX11_layBook_L2_s  (n : Nat) (y1 : Int32) (y2 : Int32) (S : MS) : mX11_layBook_L2  (n + 1) y1 y2 S = (if (nI 95) ≤ y2 then ast 288 (nI 3) <| nm (mA S 0 ((nI 3).toNatClampNeg) y1) fun S1 => some S1 else ast 288 y2 <| nm (mA S 0 y2.toNatClampNeg (nI 0)) fun S2 => nm (y2 + (nI 1)) fun x3 => (mX11_layBook_L2  n) y1 x3 S2) := rfl
noncomputable def mX11_layBook (S : MS) (a1 : Int32) : Option MS := mX11_layBook_L2 FU a1 (nI 0) S
set_option maxHeartbeats 4000000 in
set_option maxRecDepth 100000 in
theorem kX11_layBook_L2 {p : Program} {l : Launch} {e : Env} {s : State} {m : MethodId} {below : List Frame} {meth : Method} {c : Code} {D : va_G} {cs : CS} {A : Nat → Prop}  {ad : Nat → Nat} {a1 : Int32} (E : EV p s m [.ref (ad 22), .int a1].toArray meth c cX11_layBook 3 RX11 none D cs) (hA : ∀ q : Nat, s.heap.size ≤ q → A q) (z : MS) : ∀ (n : Nat) (y1 : Int32) (y2 : Int32) (S : MS), mX11_layBook_L2  n y1 y2 S = some z → ∀ (H : Heap) (locs : List Loc), va_P D classes (WM cs ad S) H → va_D A (WM cs ad S) → va_S A s.heap H locs → ∀ ls : Array Slot, lv_has ls 3 [(0, .ref (ad 22)), (1, .int y1), (2, .int y2)] → W p l e ({ frames := 0, cells := 0, slots := 0, locals := 0 }) s m [.ref (ad 22), .int a1].toArray below meth c H locs 0 0 (MQ below (QWv D cs A (fun u => WM cs ad u) z) [.ref (ad 22), .int a1].toArray s 0 0 A) (F0 m 2 ls []) := by
  obtain ⟨hx, hb, hr, hml, hown, hlk, hT, hN, hK⟩ := id E
  intro n
  induction n with
  | zero =>
    intro y1 y2 S hm
    exact nomatch (show (none : Option MS) = some z from hm)
  | succ n ih =>
    intro y1 y2 S hm H locs hP hD hS ls hl
    rw [mX11_layBook_L2_s] at hm
    refine lv_iload_n hx hb dX11_layBook_2 rfl (lv_at hl 2 rfl) ?_
    refine lv_bipush (v := (nI 95)) hx hb dX11_layBook_3 (by decide) ?_
    refine x_icmp_ge (tgt := 21) hx hb dX11_layBook_5 (by decide) hm (fun hm => ?_) (fun hm => ?_)
    · refine lv_aload_n hx hb dX11_layBook_21 rfl (lv_at hl 0 rfl) ?_
      refine gf_X11_7 (v := .ref (ad 0)) hx hb hT hown hK hP 0 rfl rfl dX11_layBook_22 ?_
      refine lv_iconst (v := (nI 3)) hx hb dX11_layBook_25 (by decide) ?_
      refine lv_iload_n hx hb dX11_layBook_26 rfl (lv_at hl 1 rfl) ?_
      refine x_iast hx hb hK hP hD hS 1 rfl (fun j => mA S 0 j y1) (fun u => WM cs ad u) (fun _ => rfl) hm dX11_layBook_27 (fun S1 H locs hm hP hD hS => ?_)
      exact x_vretW (wf := (fun u => WM cs ad u)) hx hb hr hlk hK hP hD hS hm dX11_layBook_28
    · refine lv_aload_n hx hb dX11_layBook_8 rfl (lv_at hl 0 rfl) ?_
      refine gf_X11_7 (v := .ref (ad 0)) hx hb hT hown hK hP 0 rfl rfl dX11_layBook_9 ?_
      refine lv_iload_n hx hb dX11_layBook_12 rfl (lv_at hl 2 rfl) ?_
      refine lv_iconst (v := (nI 0)) hx hb dX11_layBook_13 (by decide) ?_
      refine x_iast hx hb hK hP hD hS 1 rfl (fun j => mA S 0 j (nI 0)) (fun u => WM cs ad u) (fun _ => rfl) hm dX11_layBook_14 (fun S2 H locs hm hP hD hS => ?_)
      refine x_iinc (lv' := fun x3 => [(2, .int x3), (0, .ref (ad 22)), (1, .int y1)]) hx hb dX11_layBook_15 hl (k := 2) rfl (by decide) (v0 := (nI 1)) (by decide) (fun _ => rfl) hm (fun x3 ls hm hl => ?_)
      refine lv_goto (tgt := 2) hx hb dX11_layBook_18 (by decide) ?_
      exact ih y1 x3 S2 hm H locs hP hD hS ls (lv_sub hl [1, 2, 0] rfl)
set_option maxHeartbeats 4000000 in
set_option maxRecDepth 100000 in
theorem tcX11_layBook (l : Launch) (D : va_G) (cs : CS) (ad : Nat → Nat) (sz : Nat) (S : MS) (a1 : Int32) (z : MS) (hm : mX11_layBook S a1 = some z) : Met l yX11_layBook (Cond.code yX11_layBook cX11_layBook 3 none :: gw_tbl) ({ frames := 0, cells := 0, slots := 0, locals := 0 }) (PcW D cs sz (WM cs ad S) [.ref (ad 22), .int a1]) (QWv D cs (va_A (WM cs ad S) sz) (fun u => WM cs ad u) z) 0 0 (va_A (WM cs ad S) sz) := by
  refine met_W rfl (Nat.le_of_ble_eq_true rfl) (fun p e s m below meth c E hP hD hS hA ls hl => ?_)
  generalize va_A (WM cs ad S) sz = A at hD hS hA ⊢
  obtain ⟨hx, hb, hr, hml, hown, hlk, hT, hN, hK⟩ := id E
  obtain ⟨H, hH⟩ : ∃ H, H = s.heap := ⟨_, rfl⟩
  obtain ⟨locs, hlo⟩ : ∃ L : List Loc, L = [] := ⟨_, rfl⟩
  have hP : va_P D classes (WM cs ad S) H := by rw [hH]; exact hP
  have hS : va_S A s.heap H locs := by rw [hH, hlo]; exact hS
  rw [show W p l e _ s m _ below meth c s.heap [] 0 0 = W p l e _ s m _ below meth c H locs 0 0 by rw [hH, hlo]]
  have hl : lv_has ls 3 [(0, .ref (ad 22)), (1, .int a1)] := hl
  unfold mX11_layBook at hm
  refine lv_iconst (v := (nI 0)) hx hb dX11_layBook_0 (by decide) ?_
  refine lv_istore_n (lv' := [(2, .int (nI 0)), (0, .ref (ad 22)), (1, .int a1)]) hx hb dX11_layBook_1 rfl hl (by decide) rfl (fun ls hl => ?_)
  exact kX11_layBook_L2 E hA _ FU a1 (nI 0) S hm H locs hP hD hS ls (lv_sub hl [1, 2, 0] rfl)
noncomputable def mX11_book (S : MS) (a1 : Int32) : Option (Int32 × MS) := (mX11_in a1 (nI 0) (nI 255)).bind fun r1 => (if r1 = 0 then (mX11_refuse S (-2 : Int32)).bind fun ⟨r5, S4⟩ => some (r5, S4) else ald (S.1 0) 288 (nI 4) fun v2 => (mX11_layBook S a1).bind fun S3 => some (v2, S3))
set_option maxHeartbeats 4000000 in
set_option maxRecDepth 100000 in
theorem tcX11_book (l : Launch) (D : va_G) (cs : CS) (ad : Nat → Nat) (sz : Nat) (S : MS) (a1 : Int32) (z : Int32 × MS) (hm : mX11_book S a1 = some z) : Met l yX11_book (Cond.code yX11_book cX11_book 3 (some .int) :: gw_tbl) ({ frames := 1, cells := 0, slots := 0, locals := 22 }) (PcW D cs sz (WM cs ad S) [.ref (ad 22), .int a1]) (QWi D cs (va_A (WM cs ad S) sz) (fun u => WM cs ad u) z) 0 0 (va_A (WM cs ad S) sz) := by
  refine met_W rfl (Nat.le_of_ble_eq_true rfl) (fun p e s m below meth c E hP hD hS hA ls hl => ?_)
  generalize va_A (WM cs ad S) sz = A at hD hS hA ⊢
  obtain ⟨hx, hb, hr, hml, hown, hlk, hT, hN, hK⟩ := id E
  obtain ⟨H, hH⟩ : ∃ H, H = s.heap := ⟨_, rfl⟩
  obtain ⟨locs, hlo⟩ : ∃ L : List Loc, L = [] := ⟨_, rfl⟩
  have hP : va_P D classes (WM cs ad S) H := by rw [hH]; exact hP
  have hS : va_S A s.heap H locs := by rw [hH, hlo]; exact hS
  rw [show W p l e _ s m _ below meth c s.heap [] 0 0 = W p l e _ s m _ below meth c H locs 0 0 by rw [hH, hlo]]
  have hl : lv_has ls 3 [(0, .ref (ad 22)), (1, .int a1)] := hl
  unfold mX11_book at hm
  refine lv_iload_n hx hb dX11_book_0 rfl (lv_at hl 1 rfl) ?_
  refine lv_iconst (v := (nI 0)) hx hb dX11_book_1 (by decide) ?_
  refine lv_sipush (v := (nI 255)) hx hb dX11_book_2 (by decide) ?_
  refine xS_i (As := [.int a1, .int (nI 0), .int (nI 255)]) (rest := []) hx hb hml hown hT hN hK (hP.sub (ws' := []) [] rfl) cw_X11_52 hm (fun z h => tcX11_in l D cs a1 (nI 0) (nI 255) z h) ⟨rfl, rfl⟩ ⟨by decide, by decide⟩ hl.1 rfl rfl (Nat.le_of_ble_eq_true rfl) dX11_book_5 ⟨Nat.zero_le _, Nat.zero_le _⟩ (fun r1 hm => ?_)
  refine x_if_ne (tgt := 18) hx hb dX11_book_8 (by decide) hm (fun hm => ?_) (fun hm => ?_)
  · refine lv_aload_n hx hb dX11_book_18 rfl (lv_at hl 0 rfl) ?_
    refine gf_X11_7 (v := .ref (ad 0)) hx hb hT hown hK hP 0 rfl rfl dX11_book_19 ?_
    refine lv_iconst (v := (nI 4)) hx hb dX11_book_22 (by decide) ?_
    refine x_iald hx hb hK hP 1 rfl hm dX11_book_23 (fun v2 hm => ?_)
    refine lv_istore_n (lv' := [(2, .int v2), (0, .ref (ad 22)), (1, .int a1)]) hx hb dX11_book_24 rfl hl (by decide) rfl (fun ls hl => ?_)
    refine lv_aload_n hx hb dX11_book_25 rfl (lv_at hl 1 rfl) ?_
    refine lv_iload_n hx hb dX11_book_26 rfl (lv_at hl 2 rfl) ?_
    refine xVW_v (As := [.int a1]) (rest := []) (wr := []) (wg := (fun u => WM cs ad u)) hx hb hml hown hT hN hK hP hD hS hA cw_X11_56 hm (fun z h => tcX11_layBook l D cs ad H.size S a1 z h) ⟨rfl, rfl⟩ ⟨by decide, by decide⟩ [0, 1, 2, 3, 4, 5, 6, 7, 8, 9, 10, 11] [] [0, 1, 2, 3, 4, 5, 6, 7, 8, 9, 10, 11] rfl (by decide) rfl (by decide) (by decide) (fun _ => rfl) (by decide) (b := (ad 22)) 0 rfl rfl rfl hl.1 rfl rfl (Nat.le_of_ble_eq_true rfl) dX11_book_27 ⟨Nat.zero_le _, Nat.zero_le _⟩ (fun S3 H locs hm hP hD hS => ?_)
    refine lv_iload_n hx hb dX11_book_30 rfl (lv_at hl 0 rfl) ?_
    exact x_iretW (wf := (fun u => WM cs ad u)) hx hb hr hlk hK hP hD hS hm dX11_book_31
  · refine lv_aload_n hx hb dX11_book_11 rfl (lv_at hl 0 rfl) ?_
    refine lv_bipush (v := (-2 : Int32)) hx hb dX11_book_12 (by decide) ?_
    refine xVW_i (As := [.int (-2 : Int32)]) (rest := []) (wr := []) (wg := (fun u => WM cs ad u)) hx hb hml hown hT hN hK hP hD hS hA cw_X11_48 hm (fun z h => tcX11_refuse l D cs ad H.size S (-2 : Int32) z h) ⟨rfl, rfl⟩ ⟨by decide, by decide⟩ [0, 1, 2, 3, 4, 5, 6, 7, 8, 9, 10, 11] [] [0, 1, 2, 3, 4, 5, 6, 7, 8, 9, 10, 11] rfl (by decide) rfl (by decide) (by decide) (fun _ => rfl) (by decide) (b := (ad 22)) 0 rfl rfl rfl hl.1 rfl rfl (Nat.le_of_ble_eq_true rfl) dX11_book_14 ⟨Nat.zero_le _, Nat.zero_le _⟩ (fun r5 S4 H locs hm hP hD hS => ?_)
    exact x_iretW (wf := (fun u => WM cs ad u)) hx hb hr hlk hK hP hD hS hm dX11_book_17
noncomputable def mX11_addFiction (S : MS) (a1 : Int32) (a2 : Int32) (a3 : Int32) (a4 : Int32) : Option MS := ald (S.1 0) 288 (nI 4) fun v1 => ast 288 ((nI 5) + v1) <| nm (mA S 0 (((nI 5) + v1).toNatClampNeg) a1) fun S2 => ast 288 ((nI 11) + v1) <| nm (mA S2 0 (((nI 11) + v1).toNatClampNeg) a2) fun S3 => ast 288 ((nI 17) + v1) <| nm (mA S3 0 (((nI 17) + v1).toNatClampNeg) a3) fun S4 => ast 288 ((nI 23) + v1) <| nm (mA S4 0 (((nI 23) + v1).toNatClampNeg) a4) fun S5 => ald (S5.1 0) 288 (nI 4) fun v6 => ast 288 (nI 4) <| nm (mA S5 0 ((nI 4).toNatClampNeg) (v6 + (nI 1))) fun S7 => ast 288 (nI 70) <| nm (mA S7 0 ((nI 70).toNatClampNeg) (nI 0)) fun S8 => some S8
set_option maxHeartbeats 4000000 in
set_option maxRecDepth 100000 in
theorem tcX11_addFiction (l : Launch) (D : va_G) (cs : CS) (ad : Nat → Nat) (sz : Nat) (S : MS) (a1 : Int32) (a2 : Int32) (a3 : Int32) (a4 : Int32) (z : MS) (hm : mX11_addFiction S a1 a2 a3 a4 = some z) : Met l yX11_addFiction (Cond.code yX11_addFiction cX11_addFiction 6 none :: gw_tbl) ({ frames := 0, cells := 0, slots := 0, locals := 0 }) (PcW D cs sz (WM cs ad S) [.ref (ad 22), .int a1, .int a2, .int a3, .int a4]) (QWv D cs (va_A (WM cs ad S) sz) (fun u => WM cs ad u) z) 0 0 (va_A (WM cs ad S) sz) := by
  refine met_W rfl (Nat.le_of_ble_eq_true rfl) (fun p e s m below meth c E hP hD hS hA ls hl => ?_)
  generalize va_A (WM cs ad S) sz = A at hD hS hA ⊢
  obtain ⟨hx, hb, hr, hml, hown, hlk, hT, hN, hK⟩ := id E
  obtain ⟨H, hH⟩ : ∃ H, H = s.heap := ⟨_, rfl⟩
  obtain ⟨locs, hlo⟩ : ∃ L : List Loc, L = [] := ⟨_, rfl⟩
  have hP : va_P D classes (WM cs ad S) H := by rw [hH]; exact hP
  have hS : va_S A s.heap H locs := by rw [hH, hlo]; exact hS
  rw [show W p l e _ s m _ below meth c s.heap [] 0 0 = W p l e _ s m _ below meth c H locs 0 0 by rw [hH, hlo]]
  have hl : lv_has ls 6 [(0, .ref (ad 22)), (1, .int a1), (2, .int a2), (3, .int a3), (4, .int a4)] := hl
  unfold mX11_addFiction at hm
  refine lv_aload_n hx hb dX11_addFiction_0 rfl (lv_at hl 0 rfl) ?_
  refine gf_X11_7 (v := .ref (ad 0)) hx hb hT hown hK hP 0 rfl rfl dX11_addFiction_1 ?_
  refine lv_iconst (v := (nI 4)) hx hb dX11_addFiction_4 (by decide) ?_
  refine x_iald hx hb hK hP 1 rfl hm dX11_addFiction_5 (fun v1 hm => ?_)
  refine lv_istore (lv' := [(5, .int v1), (0, .ref (ad 22)), (1, .int a1), (2, .int a2), (3, .int a3), (4, .int a4)]) hx hb dX11_addFiction_6 hl (by decide) rfl (fun ls hl => ?_)
  refine lv_aload_n hx hb dX11_addFiction_8 rfl (lv_at hl 1 rfl) ?_
  refine gf_X11_7 (v := .ref (ad 0)) hx hb hT hown hK hP 0 rfl rfl dX11_addFiction_9 ?_
  refine lv_iconst (v := (nI 5)) hx hb dX11_addFiction_12 (by decide) ?_
  refine lv_iload hx hb dX11_addFiction_13 (lv_at hl 0 rfl) ?_
  refine lv_iadd hx hb dX11_addFiction_15 ?_
  refine lv_iload_n hx hb dX11_addFiction_16 rfl (lv_at hl 2 rfl) ?_
  refine x_iast hx hb hK hP hD hS 1 rfl (fun j => mA S 0 j a1) (fun u => WM cs ad u) (fun _ => rfl) hm dX11_addFiction_17 (fun S2 H locs hm hP hD hS => ?_)
  refine lv_aload_n hx hb dX11_addFiction_18 rfl (lv_at hl 1 rfl) ?_
  refine gf_X11_7 (v := .ref (ad 0)) hx hb hT hown hK hP 0 rfl rfl dX11_addFiction_19 ?_
  refine lv_bipush (v := (nI 11)) hx hb dX11_addFiction_22 (by decide) ?_
  refine lv_iload hx hb dX11_addFiction_24 (lv_at hl 0 rfl) ?_
  refine lv_iadd hx hb dX11_addFiction_26 ?_
  refine lv_iload_n hx hb dX11_addFiction_27 rfl (lv_at hl 3 rfl) ?_
  refine x_iast hx hb hK hP hD hS 1 rfl (fun j => mA S2 0 j a2) (fun u => WM cs ad u) (fun _ => rfl) hm dX11_addFiction_28 (fun S3 H locs hm hP hD hS => ?_)
  refine lv_aload_n hx hb dX11_addFiction_29 rfl (lv_at hl 1 rfl) ?_
  refine gf_X11_7 (v := .ref (ad 0)) hx hb hT hown hK hP 0 rfl rfl dX11_addFiction_30 ?_
  refine lv_bipush (v := (nI 17)) hx hb dX11_addFiction_33 (by decide) ?_
  refine lv_iload hx hb dX11_addFiction_35 (lv_at hl 0 rfl) ?_
  refine lv_iadd hx hb dX11_addFiction_37 ?_
  refine lv_iload_n hx hb dX11_addFiction_38 rfl (lv_at hl 4 rfl) ?_
  refine x_iast hx hb hK hP hD hS 1 rfl (fun j => mA S3 0 j a3) (fun u => WM cs ad u) (fun _ => rfl) hm dX11_addFiction_39 (fun S4 H locs hm hP hD hS => ?_)
  refine lv_aload_n hx hb dX11_addFiction_40 rfl (lv_at hl 1 rfl) ?_
  refine gf_X11_7 (v := .ref (ad 0)) hx hb hT hown hK hP 0 rfl rfl dX11_addFiction_41 ?_
  refine lv_bipush (v := (nI 23)) hx hb dX11_addFiction_44 (by decide) ?_
  refine lv_iload hx hb dX11_addFiction_46 (lv_at hl 0 rfl) ?_
  refine lv_iadd hx hb dX11_addFiction_48 ?_
  refine lv_iload hx hb dX11_addFiction_49 (lv_at hl 5 rfl) ?_
  refine x_iast hx hb hK hP hD hS 1 rfl (fun j => mA S4 0 j a4) (fun u => WM cs ad u) (fun _ => rfl) hm dX11_addFiction_51 (fun S5 H locs hm hP hD hS => ?_)
  refine lv_aload_n hx hb dX11_addFiction_52 rfl (lv_at hl 1 rfl) ?_
  refine gf_X11_7 (v := .ref (ad 0)) hx hb hT hown hK hP 0 rfl rfl dX11_addFiction_53 ?_
  refine lv_iconst (v := (nI 4)) hx hb dX11_addFiction_56 (by decide) ?_
  refine lv_dup2_11 hx hb dX11_addFiction_57 rfl rfl ?_
  refine x_iald hx hb hK hP 1 rfl hm dX11_addFiction_58 (fun v6 hm => ?_)
  refine lv_iconst (v := (nI 1)) hx hb dX11_addFiction_59 (by decide) ?_
  refine lv_iadd hx hb dX11_addFiction_60 ?_
  refine x_iast hx hb hK hP hD hS 1 rfl (fun j => mA S5 0 j (v6 + (nI 1))) (fun u => WM cs ad u) (fun _ => rfl) hm dX11_addFiction_61 (fun S7 H locs hm hP hD hS => ?_)
  refine lv_aload_n hx hb dX11_addFiction_62 rfl (lv_at hl 1 rfl) ?_
  refine gf_X11_7 (v := .ref (ad 0)) hx hb hT hown hK hP 0 rfl rfl dX11_addFiction_63 ?_
  refine lv_bipush (v := (nI 70)) hx hb dX11_addFiction_66 (by decide) ?_
  refine lv_iconst (v := (nI 0)) hx hb dX11_addFiction_68 (by decide) ?_
  refine x_iast hx hb hK hP hD hS 1 rfl (fun j => mA S7 0 j (nI 0)) (fun u => WM cs ad u) (fun _ => rfl) hm dX11_addFiction_69 (fun S8 H locs hm hP hD hS => ?_)
  exact x_vretW (wf := (fun u => WM cs ad u)) hx hb hr hlk hK hP hD hS hm dX11_addFiction_70
noncomputable def mX11_fiction (S : MS) (a1 : Int32) (a2 : Int32) (a3 : Int32) (a4 : Int32) : Option (Int32 × MS) := (mX11_in a1 (nI 0) (nI 5)).bind fun r1 => (if r1 = 0 then (mX11_refuse S (-2 : Int32)).bind fun ⟨r3, S2⟩ => some (r3, S2) else (mX11_in a2 (nI 0) (nI 255)).bind fun r4 => (if r4 = 0 then (mX11_refuse S (-2 : Int32)).bind fun ⟨r6, S5⟩ => some (r6, S5) else (mX11_in a3 (nI 0) (nI 7)).bind fun r7 => (if r7 = 0 then (mX11_refuse S (-2 : Int32)).bind fun ⟨r9, S8⟩ => some (r9, S8) else (mX11_in a4 (nI 0) (nI 20)).bind fun r10 => (if r10 = 0 then (mX11_refuse S (-2 : Int32)).bind fun ⟨r17, S16⟩ => some (r17, S16) else ald (S.1 0) 288 (nI 4) fun v11 => (if v11 = (nI 6) then (mX11_refuse S (-4 : Int32)).bind fun ⟨r15, S14⟩ => some (r15, S14) else (mX11_addFiction S a1 a2 a3 a4).bind fun S12 => ald (S12.1 0) 288 (nI 4) fun v13 => some ((v13 - (nI 1)), S12))))))
set_option maxHeartbeats 4000000 in
set_option maxRecDepth 100000 in
theorem tcX11_fiction (l : Launch) (D : va_G) (cs : CS) (ad : Nat → Nat) (sz : Nat) (S : MS) (a1 : Int32) (a2 : Int32) (a3 : Int32) (a4 : Int32) (z : Int32 × MS) (hm : mX11_fiction S a1 a2 a3 a4 = some z) : Met l yX11_fiction (Cond.code yX11_fiction cX11_fiction 5 (some .int) :: gw_tbl) ({ frames := 1, cells := 0, slots := 0, locals := 25 }) (PcW D cs sz (WM cs ad S) [.ref (ad 22), .int a1, .int a2, .int a3, .int a4]) (QWi D cs (va_A (WM cs ad S) sz) (fun u => WM cs ad u) z) 0 0 (va_A (WM cs ad S) sz) := by
  refine met_W rfl (Nat.le_of_ble_eq_true rfl) (fun p e s m below meth c E hP hD hS hA ls hl => ?_)
  generalize va_A (WM cs ad S) sz = A at hD hS hA ⊢
  obtain ⟨hx, hb, hr, hml, hown, hlk, hT, hN, hK⟩ := id E
  obtain ⟨H, hH⟩ : ∃ H, H = s.heap := ⟨_, rfl⟩
  obtain ⟨locs, hlo⟩ : ∃ L : List Loc, L = [] := ⟨_, rfl⟩
  have hP : va_P D classes (WM cs ad S) H := by rw [hH]; exact hP
  have hS : va_S A s.heap H locs := by rw [hH, hlo]; exact hS
  rw [show W p l e _ s m _ below meth c s.heap [] 0 0 = W p l e _ s m _ below meth c H locs 0 0 by rw [hH, hlo]]
  have hl : lv_has ls 5 [(0, .ref (ad 22)), (1, .int a1), (2, .int a2), (3, .int a3), (4, .int a4)] := hl
  unfold mX11_fiction at hm
  refine lv_iload_n hx hb dX11_fiction_0 rfl (lv_at hl 1 rfl) ?_
  refine lv_iconst (v := (nI 0)) hx hb dX11_fiction_1 (by decide) ?_
  refine lv_iconst (v := (nI 5)) hx hb dX11_fiction_2 (by decide) ?_
  refine xS_i (As := [.int a1, .int (nI 0), .int (nI 5)]) (rest := []) hx hb hml hown hT hN hK (hP.sub (ws' := []) [] rfl) cw_X11_52 hm (fun z h => tcX11_in l D cs a1 (nI 0) (nI 5) z h) ⟨rfl, rfl⟩ ⟨by decide, by decide⟩ hl.1 rfl rfl (Nat.le_of_ble_eq_true rfl) dX11_fiction_3 ⟨Nat.zero_le _, Nat.zero_le _⟩ (fun r1 hm => ?_)
  refine x_if_eq (tgt := 41) hx hb dX11_fiction_6 (by decide) hm (fun hm => ?_) (fun hm => ?_)
  · refine lv_aload_n hx hb dX11_fiction_41 rfl (lv_at hl 0 rfl) ?_
    refine lv_bipush (v := (-2 : Int32)) hx hb dX11_fiction_42 (by decide) ?_
    refine xVW_i (As := [.int (-2 : Int32)]) (rest := []) (wr := []) (wg := (fun u => WM cs ad u)) hx hb hml hown hT hN hK hP hD hS hA cw_X11_48 hm (fun z h => tcX11_refuse l D cs ad H.size S (-2 : Int32) z h) ⟨rfl, rfl⟩ ⟨by decide, by decide⟩ [0, 1, 2, 3, 4, 5, 6, 7, 8, 9, 10, 11] [] [0, 1, 2, 3, 4, 5, 6, 7, 8, 9, 10, 11] rfl (by decide) rfl (by decide) (by decide) (fun _ => rfl) (by decide) (b := (ad 22)) 0 rfl rfl rfl hl.1 rfl rfl (Nat.le_of_ble_eq_true rfl) dX11_fiction_44 ⟨Nat.zero_le _, Nat.zero_le _⟩ (fun r3 S2 H locs hm hP hD hS => ?_)
    exact x_iretW (wf := (fun u => WM cs ad u)) hx hb hr hlk hK hP hD hS hm dX11_fiction_47
  · refine lv_iload_n hx hb dX11_fiction_9 rfl (lv_at hl 2 rfl) ?_
    refine lv_iconst (v := (nI 0)) hx hb dX11_fiction_10 (by decide) ?_
    refine lv_sipush (v := (nI 255)) hx hb dX11_fiction_11 (by decide) ?_
    refine xS_i (As := [.int a2, .int (nI 0), .int (nI 255)]) (rest := []) hx hb hml hown hT hN hK (hP.sub (ws' := []) [] rfl) cw_X11_52 hm (fun z h => tcX11_in l D cs a2 (nI 0) (nI 255) z h) ⟨rfl, rfl⟩ ⟨by decide, by decide⟩ hl.1 rfl rfl (Nat.le_of_ble_eq_true rfl) dX11_fiction_14 ⟨Nat.zero_le _, Nat.zero_le _⟩ (fun r4 hm => ?_)
    refine x_if_eq (tgt := 41) hx hb dX11_fiction_17 (by decide) hm (fun hm => ?_) (fun hm => ?_)
    · refine lv_aload_n hx hb dX11_fiction_41 rfl (lv_at hl 0 rfl) ?_
      refine lv_bipush (v := (-2 : Int32)) hx hb dX11_fiction_42 (by decide) ?_
      refine xVW_i (As := [.int (-2 : Int32)]) (rest := []) (wr := []) (wg := (fun u => WM cs ad u)) hx hb hml hown hT hN hK hP hD hS hA cw_X11_48 hm (fun z h => tcX11_refuse l D cs ad H.size S (-2 : Int32) z h) ⟨rfl, rfl⟩ ⟨by decide, by decide⟩ [0, 1, 2, 3, 4, 5, 6, 7, 8, 9, 10, 11] [] [0, 1, 2, 3, 4, 5, 6, 7, 8, 9, 10, 11] rfl (by decide) rfl (by decide) (by decide) (fun _ => rfl) (by decide) (b := (ad 22)) 0 rfl rfl rfl hl.1 rfl rfl (Nat.le_of_ble_eq_true rfl) dX11_fiction_44 ⟨Nat.zero_le _, Nat.zero_le _⟩ (fun r6 S5 H locs hm hP hD hS => ?_)
      exact x_iretW (wf := (fun u => WM cs ad u)) hx hb hr hlk hK hP hD hS hm dX11_fiction_47
    · refine lv_iload_n hx hb dX11_fiction_20 rfl (lv_at hl 3 rfl) ?_
      refine lv_iconst (v := (nI 0)) hx hb dX11_fiction_21 (by decide) ?_
      refine lv_bipush (v := (nI 7)) hx hb dX11_fiction_22 (by decide) ?_
      refine xS_i (As := [.int a3, .int (nI 0), .int (nI 7)]) (rest := []) hx hb hml hown hT hN hK (hP.sub (ws' := []) [] rfl) cw_X11_52 hm (fun z h => tcX11_in l D cs a3 (nI 0) (nI 7) z h) ⟨rfl, rfl⟩ ⟨by decide, by decide⟩ hl.1 rfl rfl (Nat.le_of_ble_eq_true rfl) dX11_fiction_24 ⟨Nat.zero_le _, Nat.zero_le _⟩ (fun r7 hm => ?_)
      refine x_if_eq (tgt := 41) hx hb dX11_fiction_27 (by decide) hm (fun hm => ?_) (fun hm => ?_)
      · refine lv_aload_n hx hb dX11_fiction_41 rfl (lv_at hl 0 rfl) ?_
        refine lv_bipush (v := (-2 : Int32)) hx hb dX11_fiction_42 (by decide) ?_
        refine xVW_i (As := [.int (-2 : Int32)]) (rest := []) (wr := []) (wg := (fun u => WM cs ad u)) hx hb hml hown hT hN hK hP hD hS hA cw_X11_48 hm (fun z h => tcX11_refuse l D cs ad H.size S (-2 : Int32) z h) ⟨rfl, rfl⟩ ⟨by decide, by decide⟩ [0, 1, 2, 3, 4, 5, 6, 7, 8, 9, 10, 11] [] [0, 1, 2, 3, 4, 5, 6, 7, 8, 9, 10, 11] rfl (by decide) rfl (by decide) (by decide) (fun _ => rfl) (by decide) (b := (ad 22)) 0 rfl rfl rfl hl.1 rfl rfl (Nat.le_of_ble_eq_true rfl) dX11_fiction_44 ⟨Nat.zero_le _, Nat.zero_le _⟩ (fun r9 S8 H locs hm hP hD hS => ?_)
        exact x_iretW (wf := (fun u => WM cs ad u)) hx hb hr hlk hK hP hD hS hm dX11_fiction_47
      · refine lv_iload hx hb dX11_fiction_30 (lv_at hl 4 rfl) ?_
        refine lv_iconst (v := (nI 0)) hx hb dX11_fiction_32 (by decide) ?_
        refine lv_bipush (v := (nI 20)) hx hb dX11_fiction_33 (by decide) ?_
        refine xS_i (As := [.int a4, .int (nI 0), .int (nI 20)]) (rest := []) hx hb hml hown hT hN hK (hP.sub (ws' := []) [] rfl) cw_X11_52 hm (fun z h => tcX11_in l D cs a4 (nI 0) (nI 20) z h) ⟨rfl, rfl⟩ ⟨by decide, by decide⟩ hl.1 rfl rfl (Nat.le_of_ble_eq_true rfl) dX11_fiction_35 ⟨Nat.zero_le _, Nat.zero_le _⟩ (fun r10 hm => ?_)
        refine x_if_ne (tgt := 48) hx hb dX11_fiction_38 (by decide) hm (fun hm => ?_) (fun hm => ?_)
        · refine lv_aload_n hx hb dX11_fiction_48 rfl (lv_at hl 0 rfl) ?_
          refine gf_X11_7 (v := .ref (ad 0)) hx hb hT hown hK hP 0 rfl rfl dX11_fiction_49 ?_
          refine lv_iconst (v := (nI 4)) hx hb dX11_fiction_52 (by decide) ?_
          refine x_iald hx hb hK hP 1 rfl hm dX11_fiction_53 (fun v11 hm => ?_)
          refine lv_bipush (v := (nI 6)) hx hb dX11_fiction_54 (by decide) ?_
          refine x_icmp_ne (tgt := 66) hx hb dX11_fiction_56 (by decide) hm (fun hm => ?_) (fun hm => ?_)
          · refine lv_aload_n hx hb dX11_fiction_66 rfl (lv_at hl 0 rfl) ?_
            refine lv_iload_n hx hb dX11_fiction_67 rfl (lv_at hl 1 rfl) ?_
            refine lv_iload_n hx hb dX11_fiction_68 rfl (lv_at hl 2 rfl) ?_
            refine lv_iload_n hx hb dX11_fiction_69 rfl (lv_at hl 3 rfl) ?_
            refine lv_iload hx hb dX11_fiction_70 (lv_at hl 4 rfl) ?_
            refine xVW_v (As := [.int a1, .int a2, .int a3, .int a4]) (rest := []) (wr := []) (wg := (fun u => WM cs ad u)) hx hb hml hown hT hN hK hP hD hS hA cw_X11_60 hm (fun z h => tcX11_addFiction l D cs ad H.size S a1 a2 a3 a4 z h) ⟨rfl, rfl⟩ ⟨by decide, by decide⟩ [0, 1, 2, 3, 4, 5, 6, 7, 8, 9, 10, 11] [] [0, 1, 2, 3, 4, 5, 6, 7, 8, 9, 10, 11] rfl (by decide) rfl (by decide) (by decide) (fun _ => rfl) (by decide) (b := (ad 22)) 0 rfl rfl rfl hl.1 rfl rfl (Nat.le_of_ble_eq_true rfl) dX11_fiction_72 ⟨Nat.zero_le _, Nat.zero_le _⟩ (fun S12 H locs hm hP hD hS => ?_)
            refine lv_aload_n hx hb dX11_fiction_75 rfl (lv_at hl 0 rfl) ?_
            refine gf_X11_7 (v := .ref (ad 0)) hx hb hT hown hK hP 0 rfl rfl dX11_fiction_76 ?_
            refine lv_iconst (v := (nI 4)) hx hb dX11_fiction_79 (by decide) ?_
            refine x_iald hx hb hK hP 1 rfl hm dX11_fiction_80 (fun v13 hm => ?_)
            refine lv_iconst (v := (nI 1)) hx hb dX11_fiction_81 (by decide) ?_
            refine lv_isub hx hb dX11_fiction_82 ?_
            exact x_iretW (wf := (fun u => WM cs ad u)) hx hb hr hlk hK hP hD hS hm dX11_fiction_83
          · refine lv_aload_n hx hb dX11_fiction_59 rfl (lv_at hl 0 rfl) ?_
            refine lv_bipush (v := (-4 : Int32)) hx hb dX11_fiction_60 (by decide) ?_
            refine xVW_i (As := [.int (-4 : Int32)]) (rest := []) (wr := []) (wg := (fun u => WM cs ad u)) hx hb hml hown hT hN hK hP hD hS hA cw_X11_48 hm (fun z h => tcX11_refuse l D cs ad H.size S (-4 : Int32) z h) ⟨rfl, rfl⟩ ⟨by decide, by decide⟩ [0, 1, 2, 3, 4, 5, 6, 7, 8, 9, 10, 11] [] [0, 1, 2, 3, 4, 5, 6, 7, 8, 9, 10, 11] rfl (by decide) rfl (by decide) (by decide) (fun _ => rfl) (by decide) (b := (ad 22)) 0 rfl rfl rfl hl.1 rfl rfl (Nat.le_of_ble_eq_true rfl) dX11_fiction_62 ⟨Nat.zero_le _, Nat.zero_le _⟩ (fun r15 S14 H locs hm hP hD hS => ?_)
            exact x_iretW (wf := (fun u => WM cs ad u)) hx hb hr hlk hK hP hD hS hm dX11_fiction_65
        · refine lv_aload_n hx hb dX11_fiction_41 rfl (lv_at hl 0 rfl) ?_
          refine lv_bipush (v := (-2 : Int32)) hx hb dX11_fiction_42 (by decide) ?_
          refine xVW_i (As := [.int (-2 : Int32)]) (rest := []) (wr := []) (wg := (fun u => WM cs ad u)) hx hb hml hown hT hN hK hP hD hS hA cw_X11_48 hm (fun z h => tcX11_refuse l D cs ad H.size S (-2 : Int32) z h) ⟨rfl, rfl⟩ ⟨by decide, by decide⟩ [0, 1, 2, 3, 4, 5, 6, 7, 8, 9, 10, 11] [] [0, 1, 2, 3, 4, 5, 6, 7, 8, 9, 10, 11] rfl (by decide) rfl (by decide) (by decide) (fun _ => rfl) (by decide) (b := (ad 22)) 0 rfl rfl rfl hl.1 rfl rfl (Nat.le_of_ble_eq_true rfl) dX11_fiction_44 ⟨Nat.zero_le _, Nat.zero_le _⟩ (fun r17 S16 H locs hm hP hD hS => ?_)
          exact x_iretW (wf := (fun u => WM cs ad u)) hx hb hr hlk hK hP hD hS hm dX11_fiction_47
noncomputable def mX11_addCourt (S : MS) (a1 : Int32) (a2 : Int32) : Option MS := ald (S.1 0) 288 (nI 29) fun v1 => ast 288 ((nI 30) + v1) <| nm (mA S 0 (((nI 30) + v1).toNatClampNeg) a1) fun S2 => ald (S2.1 0) 288 (nI 29) fun v3 => ast 288 ((nI 34) + v3) <| nm (mA S2 0 (((nI 34) + v3).toNatClampNeg) a2) fun S4 => ald (S4.1 0) 288 (nI 29) fun v5 => ast 288 (nI 29) <| nm (mA S4 0 ((nI 29).toNatClampNeg) (v5 + (nI 1))) fun S6 => ast 288 (nI 70) <| nm (mA S6 0 ((nI 70).toNatClampNeg) (nI 0)) fun S7 => some S7
set_option maxHeartbeats 4000000 in
set_option maxRecDepth 100000 in
theorem tcX11_addCourt (l : Launch) (D : va_G) (cs : CS) (ad : Nat → Nat) (sz : Nat) (S : MS) (a1 : Int32) (a2 : Int32) (z : MS) (hm : mX11_addCourt S a1 a2 = some z) : Met l yX11_addCourt (Cond.code yX11_addCourt cX11_addCourt 3 none :: gw_tbl) ({ frames := 0, cells := 0, slots := 0, locals := 0 }) (PcW D cs sz (WM cs ad S) [.ref (ad 22), .int a1, .int a2]) (QWv D cs (va_A (WM cs ad S) sz) (fun u => WM cs ad u) z) 0 0 (va_A (WM cs ad S) sz) := by
  refine met_W rfl (Nat.le_of_ble_eq_true rfl) (fun p e s m below meth c E hP hD hS hA ls hl => ?_)
  generalize va_A (WM cs ad S) sz = A at hD hS hA ⊢
  obtain ⟨hx, hb, hr, hml, hown, hlk, hT, hN, hK⟩ := id E
  obtain ⟨H, hH⟩ : ∃ H, H = s.heap := ⟨_, rfl⟩
  obtain ⟨locs, hlo⟩ : ∃ L : List Loc, L = [] := ⟨_, rfl⟩
  have hP : va_P D classes (WM cs ad S) H := by rw [hH]; exact hP
  have hS : va_S A s.heap H locs := by rw [hH, hlo]; exact hS
  rw [show W p l e _ s m _ below meth c s.heap [] 0 0 = W p l e _ s m _ below meth c H locs 0 0 by rw [hH, hlo]]
  have hl : lv_has ls 3 [(0, .ref (ad 22)), (1, .int a1), (2, .int a2)] := hl
  unfold mX11_addCourt at hm
  refine lv_aload_n hx hb dX11_addCourt_0 rfl (lv_at hl 0 rfl) ?_
  refine gf_X11_7 (v := .ref (ad 0)) hx hb hT hown hK hP 0 rfl rfl dX11_addCourt_1 ?_
  refine lv_bipush (v := (nI 30)) hx hb dX11_addCourt_4 (by decide) ?_
  refine lv_aload_n hx hb dX11_addCourt_6 rfl (lv_at hl 0 rfl) ?_
  refine gf_X11_7 (v := .ref (ad 0)) hx hb hT hown hK hP 0 rfl rfl dX11_addCourt_7 ?_
  refine lv_bipush (v := (nI 29)) hx hb dX11_addCourt_10 (by decide) ?_
  refine x_iald hx hb hK hP 1 rfl hm dX11_addCourt_12 (fun v1 hm => ?_)
  refine lv_iadd hx hb dX11_addCourt_13 ?_
  refine lv_iload_n hx hb dX11_addCourt_14 rfl (lv_at hl 1 rfl) ?_
  refine x_iast hx hb hK hP hD hS 1 rfl (fun j => mA S 0 j a1) (fun u => WM cs ad u) (fun _ => rfl) hm dX11_addCourt_15 (fun S2 H locs hm hP hD hS => ?_)
  refine lv_aload_n hx hb dX11_addCourt_16 rfl (lv_at hl 0 rfl) ?_
  refine gf_X11_7 (v := .ref (ad 0)) hx hb hT hown hK hP 0 rfl rfl dX11_addCourt_17 ?_
  refine lv_bipush (v := (nI 34)) hx hb dX11_addCourt_20 (by decide) ?_
  refine lv_aload_n hx hb dX11_addCourt_22 rfl (lv_at hl 0 rfl) ?_
  refine gf_X11_7 (v := .ref (ad 0)) hx hb hT hown hK hP 0 rfl rfl dX11_addCourt_23 ?_
  refine lv_bipush (v := (nI 29)) hx hb dX11_addCourt_26 (by decide) ?_
  refine x_iald hx hb hK hP 1 rfl hm dX11_addCourt_28 (fun v3 hm => ?_)
  refine lv_iadd hx hb dX11_addCourt_29 ?_
  refine lv_iload_n hx hb dX11_addCourt_30 rfl (lv_at hl 2 rfl) ?_
  refine x_iast hx hb hK hP hD hS 1 rfl (fun j => mA S2 0 j a2) (fun u => WM cs ad u) (fun _ => rfl) hm dX11_addCourt_31 (fun S4 H locs hm hP hD hS => ?_)
  refine lv_aload_n hx hb dX11_addCourt_32 rfl (lv_at hl 0 rfl) ?_
  refine gf_X11_7 (v := .ref (ad 0)) hx hb hT hown hK hP 0 rfl rfl dX11_addCourt_33 ?_
  refine lv_bipush (v := (nI 29)) hx hb dX11_addCourt_36 (by decide) ?_
  refine lv_dup2_11 hx hb dX11_addCourt_38 rfl rfl ?_
  refine x_iald hx hb hK hP 1 rfl hm dX11_addCourt_39 (fun v5 hm => ?_)
  refine lv_iconst (v := (nI 1)) hx hb dX11_addCourt_40 (by decide) ?_
  refine lv_iadd hx hb dX11_addCourt_41 ?_
  refine x_iast hx hb hK hP hD hS 1 rfl (fun j => mA S4 0 j (v5 + (nI 1))) (fun u => WM cs ad u) (fun _ => rfl) hm dX11_addCourt_42 (fun S6 H locs hm hP hD hS => ?_)
  refine lv_aload_n hx hb dX11_addCourt_43 rfl (lv_at hl 0 rfl) ?_
  refine gf_X11_7 (v := .ref (ad 0)) hx hb hT hown hK hP 0 rfl rfl dX11_addCourt_44 ?_
  refine lv_bipush (v := (nI 70)) hx hb dX11_addCourt_47 (by decide) ?_
  refine lv_iconst (v := (nI 0)) hx hb dX11_addCourt_49 (by decide) ?_
  refine x_iast hx hb hK hP hD hS 1 rfl (fun j => mA S6 0 j (nI 0)) (fun u => WM cs ad u) (fun _ => rfl) hm dX11_addCourt_50 (fun S7 H locs hm hP hD hS => ?_)
  exact x_vretW (wf := (fun u => WM cs ad u)) hx hb hr hlk hK hP hD hS hm dX11_addCourt_51
noncomputable def mX11_court (S : MS) (a1 : Int32) (a2 : Int32) : Option (Int32 × MS) := (mX11_in a1 (nI 0) (nI 255)).bind fun r1 => (if r1 = 0 then (mX11_refuse S (-2 : Int32)).bind fun ⟨r3, S2⟩ => some (r3, S2) else (mX11_in a2 (nI 0) (nI 20)).bind fun r4 => (if r4 = 0 then (mX11_refuse S (-2 : Int32)).bind fun ⟨r11, S10⟩ => some (r11, S10) else ald (S.1 0) 288 (nI 29) fun v5 => (if v5 = (nI 4) then (mX11_refuse S (-4 : Int32)).bind fun ⟨r9, S8⟩ => some (r9, S8) else (mX11_addCourt S a1 a2).bind fun S6 => ald (S6.1 0) 288 (nI 29) fun v7 => some ((v7 - (nI 1)), S6))))
set_option maxHeartbeats 4000000 in
set_option maxRecDepth 100000 in
theorem tcX11_court (l : Launch) (D : va_G) (cs : CS) (ad : Nat → Nat) (sz : Nat) (S : MS) (a1 : Int32) (a2 : Int32) (z : Int32 × MS) (hm : mX11_court S a1 a2 = some z) : Met l yX11_court (Cond.code yX11_court cX11_court 3 (some .int) :: gw_tbl) ({ frames := 1, cells := 0, slots := 0, locals := 22 }) (PcW D cs sz (WM cs ad S) [.ref (ad 22), .int a1, .int a2]) (QWi D cs (va_A (WM cs ad S) sz) (fun u => WM cs ad u) z) 0 0 (va_A (WM cs ad S) sz) := by
  refine met_W rfl (Nat.le_of_ble_eq_true rfl) (fun p e s m below meth c E hP hD hS hA ls hl => ?_)
  generalize va_A (WM cs ad S) sz = A at hD hS hA ⊢
  obtain ⟨hx, hb, hr, hml, hown, hlk, hT, hN, hK⟩ := id E
  obtain ⟨H, hH⟩ : ∃ H, H = s.heap := ⟨_, rfl⟩
  obtain ⟨locs, hlo⟩ : ∃ L : List Loc, L = [] := ⟨_, rfl⟩
  have hP : va_P D classes (WM cs ad S) H := by rw [hH]; exact hP
  have hS : va_S A s.heap H locs := by rw [hH, hlo]; exact hS
  rw [show W p l e _ s m _ below meth c s.heap [] 0 0 = W p l e _ s m _ below meth c H locs 0 0 by rw [hH, hlo]]
  have hl : lv_has ls 3 [(0, .ref (ad 22)), (1, .int a1), (2, .int a2)] := hl
  unfold mX11_court at hm
  refine lv_iload_n hx hb dX11_court_0 rfl (lv_at hl 1 rfl) ?_
  refine lv_iconst (v := (nI 0)) hx hb dX11_court_1 (by decide) ?_
  refine lv_sipush (v := (nI 255)) hx hb dX11_court_2 (by decide) ?_
  refine xS_i (As := [.int a1, .int (nI 0), .int (nI 255)]) (rest := []) hx hb hml hown hT hN hK (hP.sub (ws' := []) [] rfl) cw_X11_52 hm (fun z h => tcX11_in l D cs a1 (nI 0) (nI 255) z h) ⟨rfl, rfl⟩ ⟨by decide, by decide⟩ hl.1 rfl rfl (Nat.le_of_ble_eq_true rfl) dX11_court_5 ⟨Nat.zero_le _, Nat.zero_le _⟩ (fun r1 hm => ?_)
  refine x_if_eq (tgt := 21) hx hb dX11_court_8 (by decide) hm (fun hm => ?_) (fun hm => ?_)
  · refine lv_aload_n hx hb dX11_court_21 rfl (lv_at hl 0 rfl) ?_
    refine lv_bipush (v := (-2 : Int32)) hx hb dX11_court_22 (by decide) ?_
    refine xVW_i (As := [.int (-2 : Int32)]) (rest := []) (wr := []) (wg := (fun u => WM cs ad u)) hx hb hml hown hT hN hK hP hD hS hA cw_X11_48 hm (fun z h => tcX11_refuse l D cs ad H.size S (-2 : Int32) z h) ⟨rfl, rfl⟩ ⟨by decide, by decide⟩ [0, 1, 2, 3, 4, 5, 6, 7, 8, 9, 10, 11] [] [0, 1, 2, 3, 4, 5, 6, 7, 8, 9, 10, 11] rfl (by decide) rfl (by decide) (by decide) (fun _ => rfl) (by decide) (b := (ad 22)) 0 rfl rfl rfl hl.1 rfl rfl (Nat.le_of_ble_eq_true rfl) dX11_court_24 ⟨Nat.zero_le _, Nat.zero_le _⟩ (fun r3 S2 H locs hm hP hD hS => ?_)
    exact x_iretW (wf := (fun u => WM cs ad u)) hx hb hr hlk hK hP hD hS hm dX11_court_27
  · refine lv_iload_n hx hb dX11_court_11 rfl (lv_at hl 2 rfl) ?_
    refine lv_iconst (v := (nI 0)) hx hb dX11_court_12 (by decide) ?_
    refine lv_bipush (v := (nI 20)) hx hb dX11_court_13 (by decide) ?_
    refine xS_i (As := [.int a2, .int (nI 0), .int (nI 20)]) (rest := []) hx hb hml hown hT hN hK (hP.sub (ws' := []) [] rfl) cw_X11_52 hm (fun z h => tcX11_in l D cs a2 (nI 0) (nI 20) z h) ⟨rfl, rfl⟩ ⟨by decide, by decide⟩ hl.1 rfl rfl (Nat.le_of_ble_eq_true rfl) dX11_court_15 ⟨Nat.zero_le _, Nat.zero_le _⟩ (fun r4 hm => ?_)
    refine x_if_ne (tgt := 28) hx hb dX11_court_18 (by decide) hm (fun hm => ?_) (fun hm => ?_)
    · refine lv_aload_n hx hb dX11_court_28 rfl (lv_at hl 0 rfl) ?_
      refine gf_X11_7 (v := .ref (ad 0)) hx hb hT hown hK hP 0 rfl rfl dX11_court_29 ?_
      refine lv_bipush (v := (nI 29)) hx hb dX11_court_32 (by decide) ?_
      refine x_iald hx hb hK hP 1 rfl hm dX11_court_34 (fun v5 hm => ?_)
      refine lv_iconst (v := (nI 4)) hx hb dX11_court_35 (by decide) ?_
      refine x_icmp_ne (tgt := 46) hx hb dX11_court_36 (by decide) hm (fun hm => ?_) (fun hm => ?_)
      · refine lv_aload_n hx hb dX11_court_46 rfl (lv_at hl 0 rfl) ?_
        refine lv_iload_n hx hb dX11_court_47 rfl (lv_at hl 1 rfl) ?_
        refine lv_iload_n hx hb dX11_court_48 rfl (lv_at hl 2 rfl) ?_
        refine xVW_v (As := [.int a1, .int a2]) (rest := []) (wr := []) (wg := (fun u => WM cs ad u)) hx hb hml hown hT hN hK hP hD hS hA cw_X11_64 hm (fun z h => tcX11_addCourt l D cs ad H.size S a1 a2 z h) ⟨rfl, rfl⟩ ⟨by decide, by decide⟩ [0, 1, 2, 3, 4, 5, 6, 7, 8, 9, 10, 11] [] [0, 1, 2, 3, 4, 5, 6, 7, 8, 9, 10, 11] rfl (by decide) rfl (by decide) (by decide) (fun _ => rfl) (by decide) (b := (ad 22)) 0 rfl rfl rfl hl.1 rfl rfl (Nat.le_of_ble_eq_true rfl) dX11_court_49 ⟨Nat.zero_le _, Nat.zero_le _⟩ (fun S6 H locs hm hP hD hS => ?_)
        refine lv_aload_n hx hb dX11_court_52 rfl (lv_at hl 0 rfl) ?_
        refine gf_X11_7 (v := .ref (ad 0)) hx hb hT hown hK hP 0 rfl rfl dX11_court_53 ?_
        refine lv_bipush (v := (nI 29)) hx hb dX11_court_56 (by decide) ?_
        refine x_iald hx hb hK hP 1 rfl hm dX11_court_58 (fun v7 hm => ?_)
        refine lv_iconst (v := (nI 1)) hx hb dX11_court_59 (by decide) ?_
        refine lv_isub hx hb dX11_court_60 ?_
        exact x_iretW (wf := (fun u => WM cs ad u)) hx hb hr hlk hK hP hD hS hm dX11_court_61
      · refine lv_aload_n hx hb dX11_court_39 rfl (lv_at hl 0 rfl) ?_
        refine lv_bipush (v := (-4 : Int32)) hx hb dX11_court_40 (by decide) ?_
        refine xVW_i (As := [.int (-4 : Int32)]) (rest := []) (wr := []) (wg := (fun u => WM cs ad u)) hx hb hml hown hT hN hK hP hD hS hA cw_X11_48 hm (fun z h => tcX11_refuse l D cs ad H.size S (-4 : Int32) z h) ⟨rfl, rfl⟩ ⟨by decide, by decide⟩ [0, 1, 2, 3, 4, 5, 6, 7, 8, 9, 10, 11] [] [0, 1, 2, 3, 4, 5, 6, 7, 8, 9, 10, 11] rfl (by decide) rfl (by decide) (by decide) (fun _ => rfl) (by decide) (b := (ad 22)) 0 rfl rfl rfl hl.1 rfl rfl (Nat.le_of_ble_eq_true rfl) dX11_court_42 ⟨Nat.zero_le _, Nat.zero_le _⟩ (fun r9 S8 H locs hm hP hD hS => ?_)
        exact x_iretW (wf := (fun u => WM cs ad u)) hx hb hr hlk hK hP hD hS hm dX11_court_45
    · refine lv_aload_n hx hb dX11_court_21 rfl (lv_at hl 0 rfl) ?_
      refine lv_bipush (v := (-2 : Int32)) hx hb dX11_court_22 (by decide) ?_
      refine xVW_i (As := [.int (-2 : Int32)]) (rest := []) (wr := []) (wg := (fun u => WM cs ad u)) hx hb hml hown hT hN hK hP hD hS hA cw_X11_48 hm (fun z h => tcX11_refuse l D cs ad H.size S (-2 : Int32) z h) ⟨rfl, rfl⟩ ⟨by decide, by decide⟩ [0, 1, 2, 3, 4, 5, 6, 7, 8, 9, 10, 11] [] [0, 1, 2, 3, 4, 5, 6, 7, 8, 9, 10, 11] rfl (by decide) rfl (by decide) (by decide) (fun _ => rfl) (by decide) (b := (ad 22)) 0 rfl rfl rfl hl.1 rfl rfl (Nat.le_of_ble_eq_true rfl) dX11_court_24 ⟨Nat.zero_le _, Nat.zero_le _⟩ (fun r11 S10 H locs hm hP hD hS => ?_)
      exact x_iretW (wf := (fun u => WM cs ad u)) hx hb hr hlk hK hP hD hS hm dX11_court_27
noncomputable def mX11_type (S : MS) (a1 : Int32) : Option (Int32 × MS) := (mX11_in a1 (nI 0) (nI 127)).bind fun r1 => (if r1 = 0 then (mX11_refuse S (-2 : Int32)).bind fun ⟨r7, S6⟩ => some (r7, S6) else (if (S.2.1 6) = (nI 150) then (mX11_refuse S (-4 : Int32)).bind fun ⟨r5, S4⟩ => some (r5, S4) else ast 150 (S.2.1 6) <| nm (mA S 5 ((S.2.1 6).toNatClampNeg) a1) fun S2 => nm (mI S2 6 ((S2.2.1 6) + (nI 1))) fun S3 => some ((S3.2.1 6), S3)))
set_option maxHeartbeats 4000000 in
set_option maxRecDepth 100000 in
theorem tcX11_type (l : Launch) (D : va_G) (cs : CS) (ad : Nat → Nat) (sz : Nat) (S : MS) (a1 : Int32) (z : Int32 × MS) (hm : mX11_type S a1 = some z) : Met l yX11_type (Cond.code yX11_type cX11_type 2 (some .int) :: gw_tbl) ({ frames := 1, cells := 0, slots := 0, locals := 22 }) (PcW D cs sz (WM cs ad S) [.ref (ad 22), .int a1]) (QWi D cs (va_A (WM cs ad S) sz) (fun u => WM cs ad u) z) 0 0 (va_A (WM cs ad S) sz) := by
  refine met_W rfl (Nat.le_of_ble_eq_true rfl) (fun p e s m below meth c E hP hD hS hA ls hl => ?_)
  generalize va_A (WM cs ad S) sz = A at hD hS hA ⊢
  obtain ⟨hx, hb, hr, hml, hown, hlk, hT, hN, hK⟩ := id E
  obtain ⟨H, hH⟩ : ∃ H, H = s.heap := ⟨_, rfl⟩
  obtain ⟨locs, hlo⟩ : ∃ L : List Loc, L = [] := ⟨_, rfl⟩
  have hP : va_P D classes (WM cs ad S) H := by rw [hH]; exact hP
  have hS : va_S A s.heap H locs := by rw [hH, hlo]; exact hS
  rw [show W p l e _ s m _ below meth c s.heap [] 0 0 = W p l e _ s m _ below meth c H locs 0 0 by rw [hH, hlo]]
  have hl : lv_has ls 2 [(0, .ref (ad 22)), (1, .int a1)] := hl
  unfold mX11_type at hm
  refine lv_iload_n hx hb dX11_type_0 rfl (lv_at hl 1 rfl) ?_
  refine lv_iconst (v := (nI 0)) hx hb dX11_type_1 (by decide) ?_
  refine lv_bipush (v := (nI 127)) hx hb dX11_type_2 (by decide) ?_
  refine xS_i (As := [.int a1, .int (nI 0), .int (nI 127)]) (rest := []) hx hb hml hown hT hN hK (hP.sub (ws' := []) [] rfl) cw_X11_52 hm (fun z h => tcX11_in l D cs a1 (nI 0) (nI 127) z h) ⟨rfl, rfl⟩ ⟨by decide, by decide⟩ hl.1 rfl rfl (Nat.le_of_ble_eq_true rfl) dX11_type_4 ⟨Nat.zero_le _, Nat.zero_le _⟩ (fun r1 hm => ?_)
  refine x_if_ne (tgt := 17) hx hb dX11_type_7 (by decide) hm (fun hm => ?_) (fun hm => ?_)
  · refine lv_aload_n hx hb dX11_type_17 rfl (lv_at hl 0 rfl) ?_
    refine gf_X11_68 (v := .int (S.2.1 6)) hx hb hT hown hK hP 0 rfl rfl dX11_type_18 ?_
    refine lv_sipush (v := (nI 150)) hx hb dX11_type_21 (by decide) ?_
    refine x_icmp_ne (tgt := 34) hx hb dX11_type_24 (by decide) hm (fun hm => ?_) (fun hm => ?_)
    · refine lv_aload_n hx hb dX11_type_34 rfl (lv_at hl 0 rfl) ?_
      refine gf_X11_24 (v := .ref (ad 5)) hx hb hT hown hK hP 0 rfl rfl dX11_type_35 ?_
      refine lv_aload_n hx hb dX11_type_38 rfl (lv_at hl 0 rfl) ?_
      refine gf_X11_68 (v := .int (S.2.1 6)) hx hb hT hown hK hP 0 rfl rfl dX11_type_39 ?_
      refine lv_iload_n hx hb dX11_type_42 rfl (lv_at hl 1 rfl) ?_
      refine x_iast hx hb hK hP hD hS 4 rfl (fun j => mA S 5 j a1) (fun u => WM cs ad u) (fun _ => rfl) hm dX11_type_43 (fun S2 H locs hm hP hD hS => ?_)
      refine lv_aload_n hx hb dX11_type_44 rfl (lv_at hl 0 rfl) ?_
      refine lv_dup hx hb dX11_type_45 rfl ?_
      refine gf_X11_68 (v := .int (S2.2.1 6)) hx hb hT hown hK hP 0 rfl rfl dX11_type_46 ?_
      refine lv_iconst (v := (nI 1)) hx hb dX11_type_49 (by decide) ?_
      refine lv_iadd hx hb dX11_type_50 ?_
      refine pf_X11_68 (wf := (fun u => WM cs ad u)) (u0 := mI S2 6 ((S2.2.1 6) + (nI 1))) hx hb hT hown hK hP hD hS 0 rfl (Nat.le_of_ble_eq_true rfl) rfl rfl rfl hm dX11_type_51 (fun S3 H locs hm hP hD hS => ?_)
      refine lv_aload_n hx hb dX11_type_54 rfl (lv_at hl 0 rfl) ?_
      refine gf_X11_68 (v := .int (S3.2.1 6)) hx hb hT hown hK hP 0 rfl rfl dX11_type_55 ?_
      exact x_iretW (wf := (fun u => WM cs ad u)) hx hb hr hlk hK hP hD hS hm dX11_type_58
    · refine lv_aload_n hx hb dX11_type_27 rfl (lv_at hl 0 rfl) ?_
      refine lv_bipush (v := (-4 : Int32)) hx hb dX11_type_28 (by decide) ?_
      refine xVW_i (As := [.int (-4 : Int32)]) (rest := []) (wr := []) (wg := (fun u => WM cs ad u)) hx hb hml hown hT hN hK hP hD hS hA cw_X11_48 hm (fun z h => tcX11_refuse l D cs ad H.size S (-4 : Int32) z h) ⟨rfl, rfl⟩ ⟨by decide, by decide⟩ [0, 1, 2, 3, 4, 5, 6, 7, 8, 9, 10, 11] [] [0, 1, 2, 3, 4, 5, 6, 7, 8, 9, 10, 11] rfl (by decide) rfl (by decide) (by decide) (fun _ => rfl) (by decide) (b := (ad 22)) 0 rfl rfl rfl hl.1 rfl rfl (Nat.le_of_ble_eq_true rfl) dX11_type_30 ⟨Nat.zero_le _, Nat.zero_le _⟩ (fun r5 S4 H locs hm hP hD hS => ?_)
      exact x_iretW (wf := (fun u => WM cs ad u)) hx hb hr hlk hK hP hD hS hm dX11_type_33
  · refine lv_aload_n hx hb dX11_type_10 rfl (lv_at hl 0 rfl) ?_
    refine lv_bipush (v := (-2 : Int32)) hx hb dX11_type_11 (by decide) ?_
    refine xVW_i (As := [.int (-2 : Int32)]) (rest := []) (wr := []) (wg := (fun u => WM cs ad u)) hx hb hml hown hT hN hK hP hD hS hA cw_X11_48 hm (fun z h => tcX11_refuse l D cs ad H.size S (-2 : Int32) z h) ⟨rfl, rfl⟩ ⟨by decide, by decide⟩ [0, 1, 2, 3, 4, 5, 6, 7, 8, 9, 10, 11] [] [0, 1, 2, 3, 4, 5, 6, 7, 8, 9, 10, 11] rfl (by decide) rfl (by decide) (by decide) (fun _ => rfl) (by decide) (b := (ad 22)) 0 rfl rfl rfl hl.1 rfl rfl (Nat.le_of_ble_eq_true rfl) dX11_type_13 ⟨Nat.zero_le _, Nat.zero_le _⟩ (fun r7 S6 H locs hm hP hD hS => ?_)
    exact x_iretW (wf := (fun u => WM cs ad u)) hx hb hr hlk hK hP hD hS hm dX11_type_16
noncomputable def mX11_clear (S : MS) : Option (Int32 × MS) := nm (mI S 6 (nI 0)) fun S1 => some ((S.2.1 6), S1)
set_option maxHeartbeats 4000000 in
set_option maxRecDepth 100000 in
theorem tcX11_clear (l : Launch) (D : va_G) (cs : CS) (ad : Nat → Nat) (sz : Nat) (S : MS) (z : Int32 × MS) (hm : mX11_clear S = some z) : Met l yX11_clear (Cond.code yX11_clear cX11_clear 2 (some .int) :: gw_tbl) ({ frames := 0, cells := 0, slots := 0, locals := 0 }) (PcW D cs sz (WM cs ad S) [.ref (ad 22)]) (QWi D cs (va_A (WM cs ad S) sz) (fun u => WM cs ad u) z) 0 0 (va_A (WM cs ad S) sz) := by
  refine met_W rfl (Nat.le_of_ble_eq_true rfl) (fun p e s m below meth c E hP hD hS hA ls hl => ?_)
  generalize va_A (WM cs ad S) sz = A at hD hS hA ⊢
  obtain ⟨hx, hb, hr, hml, hown, hlk, hT, hN, hK⟩ := id E
  obtain ⟨H, hH⟩ : ∃ H, H = s.heap := ⟨_, rfl⟩
  obtain ⟨locs, hlo⟩ : ∃ L : List Loc, L = [] := ⟨_, rfl⟩
  have hP : va_P D classes (WM cs ad S) H := by rw [hH]; exact hP
  have hS : va_S A s.heap H locs := by rw [hH, hlo]; exact hS
  rw [show W p l e _ s m _ below meth c s.heap [] 0 0 = W p l e _ s m _ below meth c H locs 0 0 by rw [hH, hlo]]
  have hl : lv_has ls 2 [(0, .ref (ad 22))] := hl
  unfold mX11_clear at hm
  refine lv_aload_n hx hb dX11_clear_0 rfl (lv_at hl 0 rfl) ?_
  refine gf_X11_68 (v := .int (S.2.1 6)) hx hb hT hown hK hP 0 rfl rfl dX11_clear_1 ?_
  refine lv_istore_n (lv' := [(1, .int (S.2.1 6)), (0, .ref (ad 22))]) hx hb dX11_clear_4 rfl hl (by decide) rfl (fun ls hl => ?_)
  refine lv_aload_n hx hb dX11_clear_5 rfl (lv_at hl 1 rfl) ?_
  refine lv_iconst (v := (nI 0)) hx hb dX11_clear_6 (by decide) ?_
  refine pf_X11_68 (wf := (fun u => WM cs ad u)) (u0 := mI S 6 (nI 0)) hx hb hT hown hK hP hD hS 0 rfl (Nat.le_of_ble_eq_true rfl) rfl rfl rfl hm dX11_clear_7 (fun S1 H locs hm hP hD hS => ?_)
  refine lv_iload_n hx hb dX11_clear_10 rfl (lv_at hl 0 rfl) ?_
  exact x_iretW (wf := (fun u => WM cs ad u)) hx hb hr hlk hK hP hD hS hm dX11_clear_11
noncomputable def mX11_next_L74  : Nat → MS → Option MS := fun n => Nat.rec (motive := fun _ => MS → Option MS) (fun _ => none) (fun _ rc => fun S => (mX11_isLetter S (S.2.1 8)).bind fun r3 => (if r3 = 0 then (mX11_isFigure S (S.2.1 8)).bind fun r4 => (if r4 = 0 then some S else (mX11_isFigure S (S.2.1 9)).bind fun r5 => (if r5 = 0 then some S else nm (mI S 9 ((S.2.1 9) + (nI 1))) fun S6 => rc S6)) else (mX11_isLetter S (S.2.1 9)).bind fun r7 => (if r7 = 0 then (mX11_isFigure S (S.2.1 8)).bind fun r9 => (if r9 = 0 then some S else (mX11_isFigure S (S.2.1 9)).bind fun r10 => (if r10 = 0 then some S else nm (mI S 9 ((S.2.1 9) + (nI 1))) fun S11 => rc S11)) else nm (mI S 9 ((S.2.1 9) + (nI 1))) fun S8 => rc S8))) n
theorem mX11_next_L74_s  (n : Nat) (S : MS) : mX11_next_L74  (n + 1) S = (mX11_isLetter S (S.2.1 8)).bind fun r3 => (if r3 = 0 then (mX11_isFigure S (S.2.1 8)).bind fun r4 => (if r4 = 0 then some S else (mX11_isFigure S (S.2.1 9)).bind fun r5 => (if r5 = 0 then some S else nm (mI S 9 ((S.2.1 9) + (nI 1))) fun S6 => (mX11_next_L74  n) S6)) else (mX11_isLetter S (S.2.1 9)).bind fun r7 => (if r7 = 0 then (mX11_isFigure S (S.2.1 8)).bind fun r9 => (if r9 = 0 then some S else (mX11_isFigure S (S.2.1 9)).bind fun r10 => (if r10 = 0 then some S else nm (mI S 9 ((S.2.1 9) + (nI 1))) fun S11 => (mX11_next_L74  n) S11)) else nm (mI S 9 ((S.2.1 9) + (nI 1))) fun S8 => (mX11_next_L74  n) S8)) := rfl
noncomputable def mX11_next_L8  : Nat → MS → Option MS := fun n => Nat.rec (motive := fun _ => MS → Option MS) (fun _ => none) (fun _ rc => fun S => (if (S.2.1 6) ≤ (S.2.1 8) then (if (S.2.1 6) ≤ (S.2.1 8) then nm (mI S 9 (S.2.1 8)) fun S2 => mX11_next_L74 FU S2 else nm (mI S 9 ((S.2.1 8) + (nI 1))) fun S12 => mX11_next_L74 FU S12) else ald (S.1 5) 150 (S.2.1 8) fun v13 => (if v13 = (nI 32) then nm (mI S 8 ((S.2.1 8) + (nI 1))) fun S16 => rc S16 else (if (S.2.1 6) ≤ (S.2.1 8) then nm (mI S 9 (S.2.1 8)) fun S14 => mX11_next_L74 FU S14 else nm (mI S 9 ((S.2.1 8) + (nI 1))) fun S15 => mX11_next_L74 FU S15)))) n
theorem mX11_next_L8_s  (n : Nat) (S : MS) : mX11_next_L8  (n + 1) S = (if (S.2.1 6) ≤ (S.2.1 8) then (if (S.2.1 6) ≤ (S.2.1 8) then nm (mI S 9 (S.2.1 8)) fun S2 => mX11_next_L74 FU S2 else nm (mI S 9 ((S.2.1 8) + (nI 1))) fun S12 => mX11_next_L74 FU S12) else ald (S.1 5) 150 (S.2.1 8) fun v13 => (if v13 = (nI 32) then nm (mI S 8 ((S.2.1 8) + (nI 1))) fun S16 => (mX11_next_L8  n) S16 else (if (S.2.1 6) ≤ (S.2.1 8) then nm (mI S 9 (S.2.1 8)) fun S14 => mX11_next_L74 FU S14 else nm (mI S 9 ((S.2.1 8) + (nI 1))) fun S15 => mX11_next_L74 FU S15))) := rfl
noncomputable def mX11_next (S : MS) : Option MS := nm (mI S 8 (S.2.1 9)) fun S1 => mX11_next_L8 FU S1
set_option maxHeartbeats 4000000 in
set_option maxRecDepth 100000 in
theorem kX11_next_L74 {p : Program} {l : Launch} {e : Env} {s : State} {m : MethodId} {below : List Frame} {meth : Method} {c : Code} {D : va_G} {cs : CS} {A : Nat → Prop}  {ad : Nat → Nat}  (E : EV p s m [.ref (ad 22)].toArray meth c cX11_next 1 RX11 none D cs) (hA : ∀ q : Nat, s.heap.size ≤ q → A q) (z : MS) : ∀ (n : Nat) (S : MS), mX11_next_L74  n S = some z → ∀ (H : Heap) (locs : List Loc), va_P D classes (WM cs ad S) H → va_D A (WM cs ad S) → va_S A s.heap H locs → ∀ ls : Array Slot, lv_has ls 1 [(0, .ref (ad 22))] → W p l e ({ frames := 2, cells := 0, slots := 0, locals := 43 }) s m [.ref (ad 22)].toArray below meth c H locs 0 0 (MQ below (QWv D cs A (fun u => WM cs ad u) z) [.ref (ad 22)].toArray s 0 0 A) (F0 m 74 ls []) := by
  obtain ⟨hx, hb, hr, hml, hown, hlk, hT, hN, hK⟩ := id E
  intro n
  induction n with
  | zero =>
    intro S hm
    exact nomatch (show (none : Option MS) = some z from hm)
  | succ n ih =>
    intro S hm H locs hP hD hS ls hl
    rw [mX11_next_L74_s] at hm
    refine lv_aload_n hx hb dX11_next_74 rfl (lv_at hl 0 rfl) ?_
    refine lv_aload_n hx hb dX11_next_75 rfl (lv_at hl 0 rfl) ?_
    refine gf_X11_75 (v := .int (S.2.1 8)) hx hb hT hown hK hP 0 rfl rfl dX11_next_76 ?_
    refine xV_i (As := [.int (S.2.1 8)]) (rest := []) hx hb hml hown hT hN hK hP cw_X11_78 hm (fun z h => tcX11_isLetter l D cs ad S (S.2.1 8) z h) ⟨rfl, rfl⟩ ⟨by decide, by decide⟩ (b := (ad 22)) 0 rfl rfl rfl hl.1 rfl rfl (Nat.le_of_ble_eq_true rfl) dX11_next_79 ⟨Nat.zero_le _, Nat.zero_le _⟩ (fun r3 hm => ?_)
    refine x_if_eq (tgt := 96) hx hb dX11_next_82 (by decide) hm (fun hm => ?_) (fun hm => ?_)
    · refine lv_aload_n hx hb dX11_next_96 rfl (lv_at hl 0 rfl) ?_
      refine lv_aload_n hx hb dX11_next_97 rfl (lv_at hl 0 rfl) ?_
      refine gf_X11_75 (v := .int (S.2.1 8)) hx hb hT hown hK hP 0 rfl rfl dX11_next_98 ?_
      refine xV_i (As := [.int (S.2.1 8)]) (rest := []) hx hb hml hown hT hN hK hP cw_X11_82 hm (fun z h => tcX11_isFigure l D cs ad S (S.2.1 8) z h) ⟨rfl, rfl⟩ ⟨by decide, by decide⟩ (b := (ad 22)) 0 rfl rfl rfl hl.1 rfl rfl (Nat.le_of_ble_eq_true rfl) dX11_next_101 ⟨Nat.zero_le _, Nat.zero_le _⟩ (fun r4 hm => ?_)
      refine x_if_eq (tgt := 131) hx hb dX11_next_104 (by decide) hm (fun hm => ?_) (fun hm => ?_)
      · exact x_vretW (wf := (fun u => WM cs ad u)) hx hb hr hlk hK hP hD hS hm dX11_next_131
      · refine lv_aload_n hx hb dX11_next_107 rfl (lv_at hl 0 rfl) ?_
        refine lv_aload_n hx hb dX11_next_108 rfl (lv_at hl 0 rfl) ?_
        refine gf_X11_72 (v := .int (S.2.1 9)) hx hb hT hown hK hP 0 rfl rfl dX11_next_109 ?_
        refine xV_i (As := [.int (S.2.1 9)]) (rest := []) hx hb hml hown hT hN hK hP cw_X11_82 hm (fun z h => tcX11_isFigure l D cs ad S (S.2.1 9) z h) ⟨rfl, rfl⟩ ⟨by decide, by decide⟩ (b := (ad 22)) 0 rfl rfl rfl hl.1 rfl rfl (Nat.le_of_ble_eq_true rfl) dX11_next_112 ⟨Nat.zero_le _, Nat.zero_le _⟩ (fun r5 hm => ?_)
        refine x_if_eq (tgt := 131) hx hb dX11_next_115 (by decide) hm (fun hm => ?_) (fun hm => ?_)
        · exact x_vretW (wf := (fun u => WM cs ad u)) hx hb hr hlk hK hP hD hS hm dX11_next_131
        · refine lv_aload_n hx hb dX11_next_118 rfl (lv_at hl 0 rfl) ?_
          refine lv_dup hx hb dX11_next_119 rfl ?_
          refine gf_X11_72 (v := .int (S.2.1 9)) hx hb hT hown hK hP 0 rfl rfl dX11_next_120 ?_
          refine lv_iconst (v := (nI 1)) hx hb dX11_next_123 (by decide) ?_
          refine lv_iadd hx hb dX11_next_124 ?_
          refine pf_X11_72 (wf := (fun u => WM cs ad u)) (u0 := mI S 9 ((S.2.1 9) + (nI 1))) hx hb hT hown hK hP hD hS 0 rfl (Nat.le_of_ble_eq_true rfl) rfl rfl rfl hm dX11_next_125 (fun S6 H locs hm hP hD hS => ?_)
          refine lv_goto (tgt := 74) hx hb dX11_next_128 (by decide) ?_
          exact ih S6 hm H locs hP hD hS ls (lv_sub hl [0] rfl)
    · refine lv_aload_n hx hb dX11_next_85 rfl (lv_at hl 0 rfl) ?_
      refine lv_aload_n hx hb dX11_next_86 rfl (lv_at hl 0 rfl) ?_
      refine gf_X11_72 (v := .int (S.2.1 9)) hx hb hT hown hK hP 0 rfl rfl dX11_next_87 ?_
      refine xV_i (As := [.int (S.2.1 9)]) (rest := []) hx hb hml hown hT hN hK hP cw_X11_78 hm (fun z h => tcX11_isLetter l D cs ad S (S.2.1 9) z h) ⟨rfl, rfl⟩ ⟨by decide, by decide⟩ (b := (ad 22)) 0 rfl rfl rfl hl.1 rfl rfl (Nat.le_of_ble_eq_true rfl) dX11_next_90 ⟨Nat.zero_le _, Nat.zero_le _⟩ (fun r7 hm => ?_)
      refine x_if_ne (tgt := 118) hx hb dX11_next_93 (by decide) hm (fun hm => ?_) (fun hm => ?_)
      · refine lv_aload_n hx hb dX11_next_118 rfl (lv_at hl 0 rfl) ?_
        refine lv_dup hx hb dX11_next_119 rfl ?_
        refine gf_X11_72 (v := .int (S.2.1 9)) hx hb hT hown hK hP 0 rfl rfl dX11_next_120 ?_
        refine lv_iconst (v := (nI 1)) hx hb dX11_next_123 (by decide) ?_
        refine lv_iadd hx hb dX11_next_124 ?_
        refine pf_X11_72 (wf := (fun u => WM cs ad u)) (u0 := mI S 9 ((S.2.1 9) + (nI 1))) hx hb hT hown hK hP hD hS 0 rfl (Nat.le_of_ble_eq_true rfl) rfl rfl rfl hm dX11_next_125 (fun S8 H locs hm hP hD hS => ?_)
        refine lv_goto (tgt := 74) hx hb dX11_next_128 (by decide) ?_
        exact ih S8 hm H locs hP hD hS ls (lv_sub hl [0] rfl)
      · refine lv_aload_n hx hb dX11_next_96 rfl (lv_at hl 0 rfl) ?_
        refine lv_aload_n hx hb dX11_next_97 rfl (lv_at hl 0 rfl) ?_
        refine gf_X11_75 (v := .int (S.2.1 8)) hx hb hT hown hK hP 0 rfl rfl dX11_next_98 ?_
        refine xV_i (As := [.int (S.2.1 8)]) (rest := []) hx hb hml hown hT hN hK hP cw_X11_82 hm (fun z h => tcX11_isFigure l D cs ad S (S.2.1 8) z h) ⟨rfl, rfl⟩ ⟨by decide, by decide⟩ (b := (ad 22)) 0 rfl rfl rfl hl.1 rfl rfl (Nat.le_of_ble_eq_true rfl) dX11_next_101 ⟨Nat.zero_le _, Nat.zero_le _⟩ (fun r9 hm => ?_)
        refine x_if_eq (tgt := 131) hx hb dX11_next_104 (by decide) hm (fun hm => ?_) (fun hm => ?_)
        · exact x_vretW (wf := (fun u => WM cs ad u)) hx hb hr hlk hK hP hD hS hm dX11_next_131
        · refine lv_aload_n hx hb dX11_next_107 rfl (lv_at hl 0 rfl) ?_
          refine lv_aload_n hx hb dX11_next_108 rfl (lv_at hl 0 rfl) ?_
          refine gf_X11_72 (v := .int (S.2.1 9)) hx hb hT hown hK hP 0 rfl rfl dX11_next_109 ?_
          refine xV_i (As := [.int (S.2.1 9)]) (rest := []) hx hb hml hown hT hN hK hP cw_X11_82 hm (fun z h => tcX11_isFigure l D cs ad S (S.2.1 9) z h) ⟨rfl, rfl⟩ ⟨by decide, by decide⟩ (b := (ad 22)) 0 rfl rfl rfl hl.1 rfl rfl (Nat.le_of_ble_eq_true rfl) dX11_next_112 ⟨Nat.zero_le _, Nat.zero_le _⟩ (fun r10 hm => ?_)
          refine x_if_eq (tgt := 131) hx hb dX11_next_115 (by decide) hm (fun hm => ?_) (fun hm => ?_)
          · exact x_vretW (wf := (fun u => WM cs ad u)) hx hb hr hlk hK hP hD hS hm dX11_next_131
          · refine lv_aload_n hx hb dX11_next_118 rfl (lv_at hl 0 rfl) ?_
            refine lv_dup hx hb dX11_next_119 rfl ?_
            refine gf_X11_72 (v := .int (S.2.1 9)) hx hb hT hown hK hP 0 rfl rfl dX11_next_120 ?_
            refine lv_iconst (v := (nI 1)) hx hb dX11_next_123 (by decide) ?_
            refine lv_iadd hx hb dX11_next_124 ?_
            refine pf_X11_72 (wf := (fun u => WM cs ad u)) (u0 := mI S 9 ((S.2.1 9) + (nI 1))) hx hb hT hown hK hP hD hS 0 rfl (Nat.le_of_ble_eq_true rfl) rfl rfl rfl hm dX11_next_125 (fun S11 H locs hm hP hD hS => ?_)
            refine lv_goto (tgt := 74) hx hb dX11_next_128 (by decide) ?_
            exact ih S11 hm H locs hP hD hS ls (lv_sub hl [0] rfl)
set_option maxHeartbeats 4000000 in
set_option maxRecDepth 100000 in
theorem kX11_next_L8 {p : Program} {l : Launch} {e : Env} {s : State} {m : MethodId} {below : List Frame} {meth : Method} {c : Code} {D : va_G} {cs : CS} {A : Nat → Prop}  {ad : Nat → Nat}  (E : EV p s m [.ref (ad 22)].toArray meth c cX11_next 1 RX11 none D cs) (hA : ∀ q : Nat, s.heap.size ≤ q → A q) (z : MS) : ∀ (n : Nat) (S : MS), mX11_next_L8  n S = some z → ∀ (H : Heap) (locs : List Loc), va_P D classes (WM cs ad S) H → va_D A (WM cs ad S) → va_S A s.heap H locs → ∀ ls : Array Slot, lv_has ls 1 [(0, .ref (ad 22))] → W p l e ({ frames := 2, cells := 0, slots := 0, locals := 43 }) s m [.ref (ad 22)].toArray below meth c H locs 0 0 (MQ below (QWv D cs A (fun u => WM cs ad u) z) [.ref (ad 22)].toArray s 0 0 A) (F0 m 8 ls []) := by
  obtain ⟨hx, hb, hr, hml, hown, hlk, hT, hN, hK⟩ := id E
  intro n
  induction n with
  | zero =>
    intro S hm
    exact nomatch (show (none : Option MS) = some z from hm)
  | succ n ih =>
    intro S hm H locs hP hD hS ls hl
    rw [mX11_next_L8_s] at hm
    refine lv_aload_n hx hb dX11_next_8 rfl (lv_at hl 0 rfl) ?_
    refine gf_X11_75 (v := .int (S.2.1 8)) hx hb hT hown hK hP 0 rfl rfl dX11_next_9 ?_
    refine lv_aload_n hx hb dX11_next_12 rfl (lv_at hl 0 rfl) ?_
    refine gf_X11_68 (v := .int (S.2.1 6)) hx hb hT hown hK hP 0 rfl rfl dX11_next_13 ?_
    refine x_icmp_ge (tgt := 46) hx hb dX11_next_16 (by decide) hm (fun hm => ?_) (fun hm => ?_)
    · refine lv_aload_n hx hb dX11_next_46 rfl (lv_at hl 0 rfl) ?_
      refine lv_aload_n hx hb dX11_next_47 rfl (lv_at hl 0 rfl) ?_
      refine gf_X11_75 (v := .int (S.2.1 8)) hx hb hT hown hK hP 0 rfl rfl dX11_next_48 ?_
      refine lv_aload_n hx hb dX11_next_51 rfl (lv_at hl 0 rfl) ?_
      refine gf_X11_68 (v := .int (S.2.1 6)) hx hb hT hown hK hP 0 rfl rfl dX11_next_52 ?_
      refine x_icmp_ge (tgt := 67) hx hb dX11_next_55 (by decide) hm (fun hm => ?_) (fun hm => ?_)
      · refine lv_aload_n hx hb dX11_next_67 rfl (lv_at hl 0 rfl) ?_
        refine gf_X11_75 (v := .int (S.2.1 8)) hx hb hT hown hK hP 0 rfl rfl dX11_next_68 ?_
        refine pf_X11_72 (wf := (fun u => WM cs ad u)) (u0 := mI S 9 (S.2.1 8)) hx hb hT hown hK hP hD hS 0 rfl (Nat.le_of_ble_eq_true rfl) rfl rfl rfl hm dX11_next_71 (fun S2 H locs hm hP hD hS => ?_)
        exact kX11_next_L74 E hA _ FU S2 hm H locs hP hD hS ls (lv_sub hl [0] rfl)
      · refine lv_aload_n hx hb dX11_next_58 rfl (lv_at hl 0 rfl) ?_
        refine gf_X11_75 (v := .int (S.2.1 8)) hx hb hT hown hK hP 0 rfl rfl dX11_next_59 ?_
        refine lv_iconst (v := (nI 1)) hx hb dX11_next_62 (by decide) ?_
        refine lv_iadd hx hb dX11_next_63 ?_
        refine lv_goto (tgt := 71) hx hb dX11_next_64 (by decide) ?_
        refine pf_X11_72 (wf := (fun u => WM cs ad u)) (u0 := mI S 9 ((S.2.1 8) + (nI 1))) hx hb hT hown hK hP hD hS 0 rfl (Nat.le_of_ble_eq_true rfl) rfl rfl rfl hm dX11_next_71 (fun S12 H locs hm hP hD hS => ?_)
        exact kX11_next_L74 E hA _ FU S12 hm H locs hP hD hS ls (lv_sub hl [0] rfl)
    · refine lv_aload_n hx hb dX11_next_19 rfl (lv_at hl 0 rfl) ?_
      refine gf_X11_24 (v := .ref (ad 5)) hx hb hT hown hK hP 0 rfl rfl dX11_next_20 ?_
      refine lv_aload_n hx hb dX11_next_23 rfl (lv_at hl 0 rfl) ?_
      refine gf_X11_75 (v := .int (S.2.1 8)) hx hb hT hown hK hP 0 rfl rfl dX11_next_24 ?_
      refine x_iald hx hb hK hP 4 rfl hm dX11_next_27 (fun v13 hm => ?_)
      refine lv_bipush (v := (nI 32)) hx hb dX11_next_28 (by decide) ?_
      refine x_icmp_ne (tgt := 46) hx hb dX11_next_30 (by decide) hm (fun hm => ?_) (fun hm => ?_)
      · refine lv_aload_n hx hb dX11_next_46 rfl (lv_at hl 0 rfl) ?_
        refine lv_aload_n hx hb dX11_next_47 rfl (lv_at hl 0 rfl) ?_
        refine gf_X11_75 (v := .int (S.2.1 8)) hx hb hT hown hK hP 0 rfl rfl dX11_next_48 ?_
        refine lv_aload_n hx hb dX11_next_51 rfl (lv_at hl 0 rfl) ?_
        refine gf_X11_68 (v := .int (S.2.1 6)) hx hb hT hown hK hP 0 rfl rfl dX11_next_52 ?_
        refine x_icmp_ge (tgt := 67) hx hb dX11_next_55 (by decide) hm (fun hm => ?_) (fun hm => ?_)
        · refine lv_aload_n hx hb dX11_next_67 rfl (lv_at hl 0 rfl) ?_
          refine gf_X11_75 (v := .int (S.2.1 8)) hx hb hT hown hK hP 0 rfl rfl dX11_next_68 ?_
          refine pf_X11_72 (wf := (fun u => WM cs ad u)) (u0 := mI S 9 (S.2.1 8)) hx hb hT hown hK hP hD hS 0 rfl (Nat.le_of_ble_eq_true rfl) rfl rfl rfl hm dX11_next_71 (fun S14 H locs hm hP hD hS => ?_)
          exact kX11_next_L74 E hA _ FU S14 hm H locs hP hD hS ls (lv_sub hl [0] rfl)
        · refine lv_aload_n hx hb dX11_next_58 rfl (lv_at hl 0 rfl) ?_
          refine gf_X11_75 (v := .int (S.2.1 8)) hx hb hT hown hK hP 0 rfl rfl dX11_next_59 ?_
          refine lv_iconst (v := (nI 1)) hx hb dX11_next_62 (by decide) ?_
          refine lv_iadd hx hb dX11_next_63 ?_
          refine lv_goto (tgt := 71) hx hb dX11_next_64 (by decide) ?_
          refine pf_X11_72 (wf := (fun u => WM cs ad u)) (u0 := mI S 9 ((S.2.1 8) + (nI 1))) hx hb hT hown hK hP hD hS 0 rfl (Nat.le_of_ble_eq_true rfl) rfl rfl rfl hm dX11_next_71 (fun S15 H locs hm hP hD hS => ?_)
          exact kX11_next_L74 E hA _ FU S15 hm H locs hP hD hS ls (lv_sub hl [0] rfl)
      · refine lv_aload_n hx hb dX11_next_33 rfl (lv_at hl 0 rfl) ?_
        refine lv_dup hx hb dX11_next_34 rfl ?_
        refine gf_X11_75 (v := .int (S.2.1 8)) hx hb hT hown hK hP 0 rfl rfl dX11_next_35 ?_
        refine lv_iconst (v := (nI 1)) hx hb dX11_next_38 (by decide) ?_
        refine lv_iadd hx hb dX11_next_39 ?_
        refine pf_X11_75 (wf := (fun u => WM cs ad u)) (u0 := mI S 8 ((S.2.1 8) + (nI 1))) hx hb hT hown hK hP hD hS 0 rfl (Nat.le_of_ble_eq_true rfl) rfl rfl rfl hm dX11_next_40 (fun S16 H locs hm hP hD hS => ?_)
        refine lv_goto (tgt := 8) hx hb dX11_next_43 (by decide) ?_
        exact ih S16 hm H locs hP hD hS ls (lv_sub hl [0] rfl)
set_option maxHeartbeats 4000000 in
set_option maxRecDepth 100000 in
theorem tcX11_next (l : Launch) (D : va_G) (cs : CS) (ad : Nat → Nat) (sz : Nat) (S : MS) (z : MS) (hm : mX11_next S = some z) : Met l yX11_next (Cond.code yX11_next cX11_next 1 none :: gw_tbl) ({ frames := 2, cells := 0, slots := 0, locals := 43 }) (PcW D cs sz (WM cs ad S) [.ref (ad 22)]) (QWv D cs (va_A (WM cs ad S) sz) (fun u => WM cs ad u) z) 0 0 (va_A (WM cs ad S) sz) := by
  refine met_W rfl (Nat.le_of_ble_eq_true rfl) (fun p e s m below meth c E hP hD hS hA ls hl => ?_)
  generalize va_A (WM cs ad S) sz = A at hD hS hA ⊢
  obtain ⟨hx, hb, hr, hml, hown, hlk, hT, hN, hK⟩ := id E
  obtain ⟨H, hH⟩ : ∃ H, H = s.heap := ⟨_, rfl⟩
  obtain ⟨locs, hlo⟩ : ∃ L : List Loc, L = [] := ⟨_, rfl⟩
  have hP : va_P D classes (WM cs ad S) H := by rw [hH]; exact hP
  have hS : va_S A s.heap H locs := by rw [hH, hlo]; exact hS
  rw [show W p l e _ s m _ below meth c s.heap [] 0 0 = W p l e _ s m _ below meth c H locs 0 0 by rw [hH, hlo]]
  have hl : lv_has ls 1 [(0, .ref (ad 22))] := hl
  unfold mX11_next at hm
  refine lv_aload_n hx hb dX11_next_0 rfl (lv_at hl 0 rfl) ?_
  refine lv_aload_n hx hb dX11_next_1 rfl (lv_at hl 0 rfl) ?_
  refine gf_X11_72 (v := .int (S.2.1 9)) hx hb hT hown hK hP 0 rfl rfl dX11_next_2 ?_
  refine pf_X11_75 (wf := (fun u => WM cs ad u)) (u0 := mI S 8 (S.2.1 9)) hx hb hT hown hK hP hD hS 0 rfl (Nat.le_of_ble_eq_true rfl) rfl rfl rfl hm dX11_next_5 (fun S1 H locs hm hP hD hS => ?_)
  exact kX11_next_L8 E hA _ FU S1 hm H locs hP hD hS ls (lv_sub hl [0] rfl)
noncomputable def mX11_number (S : MS) (a1 : Int32) (a2 : Int32) : Option (Int32 × MS) := (mX11_next S).bind fun S1 => (mX11_numberHere S1 a1 a2).bind fun r2 => some (r2, S1)
set_option maxHeartbeats 4000000 in
set_option maxRecDepth 100000 in
theorem tcX11_number (l : Launch) (D : va_G) (cs : CS) (ad : Nat → Nat) (sz : Nat) (S : MS) (a1 : Int32) (a2 : Int32) (z : Int32 × MS) (hm : mX11_number S a1 a2 = some z) : Met l yX11_number (Cond.code yX11_number cX11_number 3 (some .int) :: gw_tbl) ({ frames := 3, cells := 0, slots := 0, locals := 66 }) (PcW D cs sz (WM cs ad S) [.ref (ad 22), .int a1, .int a2]) (QWi D cs (va_A (WM cs ad S) sz) (fun u => WM cs ad u) z) 0 0 (va_A (WM cs ad S) sz) := by
  refine met_W rfl (Nat.le_of_ble_eq_true rfl) (fun p e s m below meth c E hP hD hS hA ls hl => ?_)
  generalize va_A (WM cs ad S) sz = A at hD hS hA ⊢
  obtain ⟨hx, hb, hr, hml, hown, hlk, hT, hN, hK⟩ := id E
  obtain ⟨H, hH⟩ : ∃ H, H = s.heap := ⟨_, rfl⟩
  obtain ⟨locs, hlo⟩ : ∃ L : List Loc, L = [] := ⟨_, rfl⟩
  have hP : va_P D classes (WM cs ad S) H := by rw [hH]; exact hP
  have hS : va_S A s.heap H locs := by rw [hH, hlo]; exact hS
  rw [show W p l e _ s m _ below meth c s.heap [] 0 0 = W p l e _ s m _ below meth c H locs 0 0 by rw [hH, hlo]]
  have hl : lv_has ls 3 [(0, .ref (ad 22)), (1, .int a1), (2, .int a2)] := hl
  unfold mX11_number at hm
  refine lv_aload_n hx hb dX11_number_0 rfl (lv_at hl 0 rfl) ?_
  refine xVW_v (As := []) (rest := []) (wr := []) (wg := (fun u => WM cs ad u)) hx hb hml hown hT hN hK hP hD hS hA cw_X11_88 hm (fun z h => tcX11_next l D cs ad H.size S z h) ⟨rfl, rfl⟩ ⟨by decide, by decide⟩ [0, 1, 2, 3, 4, 5, 6, 7, 8, 9, 10, 11] [] [0, 1, 2, 3, 4, 5, 6, 7, 8, 9, 10, 11] rfl (by decide) rfl (by decide) (by decide) (fun _ => rfl) (by decide) (b := (ad 22)) 0 rfl rfl rfl hl.1 rfl rfl (Nat.le_of_ble_eq_true rfl) dX11_number_1 ⟨Nat.zero_le _, Nat.zero_le _⟩ (fun S1 H locs hm hP hD hS => ?_)
  refine lv_aload_n hx hb dX11_number_4 rfl (lv_at hl 0 rfl) ?_
  refine lv_iload_n hx hb dX11_number_5 rfl (lv_at hl 1 rfl) ?_
  refine lv_iload_n hx hb dX11_number_6 rfl (lv_at hl 2 rfl) ?_
  refine xV_i (As := [.int a1, .int a2]) (rest := []) hx hb hml hown hT hN hK hP cw_X11_91 hm (fun z h => tcX11_numberHere l D cs ad S1 a1 a2 z h) ⟨rfl, rfl⟩ ⟨by decide, by decide⟩ (b := (ad 22)) 0 rfl rfl rfl hl.1 rfl rfl (Nat.le_of_ble_eq_true rfl) dX11_number_7 ⟨Nat.zero_le _, Nat.zero_le _⟩ (fun r2 hm => ?_)
  exact x_iretW (wf := (fun u => WM cs ad u)) hx hb hr hlk hK hP hD hS hm dX11_number_10
noncomputable def mX11_facts_L6  : Nat → Int32 → MS → Option (Int32 × MS) := fun n => Nat.rec (motive := fun _ => Int32 → MS → Option (Int32 × MS)) (fun _ _ => none) (fun _ rc => fun y1 S => (mX11_isFigure S (S.2.1 8)).bind fun r2 => (if r2 = 0 then (if (S.2.1 6) ≤ (S.2.1 8) then some ((-1 : Int32), S) else ald (S.1 5) 150 (S.2.1 8) fun v3 => (if v3 = (nI 59) then some (y1, S) else some ((-1 : Int32), S))) else (mX11_numberHere S (nI 0) (nI 7)).bind fun r4 => (if r4 = (-1 : Int32) then some ((-1 : Int32), S) else nm (y1 ||| ((nI 1) <<< (r4 &&& 31))) fun x5 => (mX11_next S).bind fun S6 => rc x5 S6))) n
theorem mX11_facts_L6_s  (n : Nat) (y1 : Int32) (S : MS) : mX11_facts_L6  (n + 1) y1 S = (mX11_isFigure S (S.2.1 8)).bind fun r2 => (if r2 = 0 then (if (S.2.1 6) ≤ (S.2.1 8) then some ((-1 : Int32), S) else ald (S.1 5) 150 (S.2.1 8) fun v3 => (if v3 = (nI 59) then some (y1, S) else some ((-1 : Int32), S))) else (mX11_numberHere S (nI 0) (nI 7)).bind fun r4 => (if r4 = (-1 : Int32) then some ((-1 : Int32), S) else nm (y1 ||| ((nI 1) <<< (r4 &&& 31))) fun x5 => (mX11_next S).bind fun S6 => (mX11_facts_L6  n) x5 S6)) := rfl
noncomputable def mX11_facts (S : MS) : Option (Int32 × MS) := (mX11_next S).bind fun S1 => mX11_facts_L6 FU (nI 0) S1
set_option maxHeartbeats 4000000 in
set_option maxRecDepth 100000 in
theorem kX11_facts_L6 {p : Program} {l : Launch} {e : Env} {s : State} {m : MethodId} {below : List Frame} {meth : Method} {c : Code} {D : va_G} {cs : CS} {A : Nat → Prop}  {ad : Nat → Nat}  (E : EV p s m [.ref (ad 22)].toArray meth c cX11_facts 3 RX11 (some .int) D cs) (hA : ∀ q : Nat, s.heap.size ≤ q → A q) (z : Int32 × MS) : ∀ (n : Nat) (y1 : Int32) (S : MS), mX11_facts_L6  n y1 S = some z → ∀ (H : Heap) (locs : List Loc), va_P D classes (WM cs ad S) H → va_D A (WM cs ad S) → va_S A s.heap H locs → ∀ ls : Array Slot, lv_has ls 3 [(0, .ref (ad 22)), (1, .int y1)] → W p l e ({ frames := 3, cells := 0, slots := 0, locals := 66 }) s m [.ref (ad 22)].toArray below meth c H locs 0 0 (MQ below (QWi D cs A (fun u => WM cs ad u) z) [.ref (ad 22)].toArray s 0 0 A) (F0 m 6 ls []) := by
  obtain ⟨hx, hb, hr, hml, hown, hlk, hT, hN, hK⟩ := id E
  intro n
  induction n with
  | zero =>
    intro y1 S hm
    exact nomatch (show (none : Option (Int32 × MS)) = some z from hm)
  | succ n ih =>
    intro y1 S hm H locs hP hD hS ls hl
    rw [mX11_facts_L6_s] at hm
    refine lv_aload_n hx hb dX11_facts_6 rfl (lv_at hl 0 rfl) ?_
    refine lv_aload_n hx hb dX11_facts_7 rfl (lv_at hl 0 rfl) ?_
    refine gf_X11_75 (v := .int (S.2.1 8)) hx hb hT hown hK hP 0 rfl rfl dX11_facts_8 ?_
    refine xV_i (As := [.int (S.2.1 8)]) (rest := []) hx hb hml hown hT hN hK hP cw_X11_82 hm (fun z h => tcX11_isFigure l D cs ad S (S.2.1 8) z h) ⟨rfl, rfl⟩ ⟨by decide, by decide⟩ (b := (ad 22)) 0 rfl rfl rfl hl.1 rfl rfl (Nat.le_of_ble_eq_true rfl) dX11_facts_11 ⟨Nat.zero_le _, Nat.zero_le _⟩ (fun r2 hm => ?_)
    refine x_if_eq (tgt := 45) hx hb dX11_facts_14 (by decide) hm (fun hm => ?_) (fun hm => ?_)
    · refine lv_aload_n hx hb dX11_facts_45 rfl (lv_at hl 0 rfl) ?_
      refine gf_X11_75 (v := .int (S.2.1 8)) hx hb hT hown hK hP 0 rfl rfl dX11_facts_46 ?_
      refine lv_aload_n hx hb dX11_facts_49 rfl (lv_at hl 0 rfl) ?_
      refine gf_X11_68 (v := .int (S.2.1 6)) hx hb hT hown hK hP 0 rfl rfl dX11_facts_50 ?_
      refine x_icmp_ge (tgt := 74) hx hb dX11_facts_53 (by decide) hm (fun hm => ?_) (fun hm => ?_)
      · refine lv_iconst (v := (-1 : Int32)) hx hb dX11_facts_74 (by decide) ?_
        exact x_iretW (wf := (fun u => WM cs ad u)) hx hb hr hlk hK hP hD hS hm dX11_facts_75
      · refine lv_aload_n hx hb dX11_facts_56 rfl (lv_at hl 0 rfl) ?_
        refine gf_X11_24 (v := .ref (ad 5)) hx hb hT hown hK hP 0 rfl rfl dX11_facts_57 ?_
        refine lv_aload_n hx hb dX11_facts_60 rfl (lv_at hl 0 rfl) ?_
        refine gf_X11_75 (v := .int (S.2.1 8)) hx hb hT hown hK hP 0 rfl rfl dX11_facts_61 ?_
        refine x_iald hx hb hK hP 4 rfl hm dX11_facts_64 (fun v3 hm => ?_)
        refine lv_bipush (v := (nI 59)) hx hb dX11_facts_65 (by decide) ?_
        refine x_icmp_ne (tgt := 74) hx hb dX11_facts_67 (by decide) hm (fun hm => ?_) (fun hm => ?_)
        · refine lv_iconst (v := (-1 : Int32)) hx hb dX11_facts_74 (by decide) ?_
          exact x_iretW (wf := (fun u => WM cs ad u)) hx hb hr hlk hK hP hD hS hm dX11_facts_75
        · refine lv_iload_n hx hb dX11_facts_70 rfl (lv_at hl 1 rfl) ?_
          refine lv_goto (tgt := 75) hx hb dX11_facts_71 (by decide) ?_
          exact x_iretW (wf := (fun u => WM cs ad u)) hx hb hr hlk hK hP hD hS hm dX11_facts_75
    · refine lv_aload_n hx hb dX11_facts_17 rfl (lv_at hl 0 rfl) ?_
      refine lv_iconst (v := (nI 0)) hx hb dX11_facts_18 (by decide) ?_
      refine lv_bipush (v := (nI 7)) hx hb dX11_facts_19 (by decide) ?_
      refine xV_i (As := [.int (nI 0), .int (nI 7)]) (rest := []) hx hb hml hown hT hN hK hP cw_X11_91 hm (fun z h => tcX11_numberHere l D cs ad S (nI 0) (nI 7) z h) ⟨rfl, rfl⟩ ⟨by decide, by decide⟩ (b := (ad 22)) 0 rfl rfl rfl hl.1 rfl rfl (Nat.le_of_ble_eq_true rfl) dX11_facts_21 ⟨Nat.zero_le _, Nat.zero_le _⟩ (fun r4 hm => ?_)
      refine lv_istore_n (lv' := [(2, .int r4), (0, .ref (ad 22)), (1, .int y1)]) hx hb dX11_facts_24 rfl hl (by decide) rfl (fun ls hl => ?_)
      refine lv_iload_n hx hb dX11_facts_25 rfl (lv_at hl 0 rfl) ?_
      refine lv_iconst (v := (-1 : Int32)) hx hb dX11_facts_26 (by decide) ?_
      refine x_icmp_ne (tgt := 32) hx hb dX11_facts_27 (by decide) hm (fun hm => ?_) (fun hm => ?_)
      · refine lv_iload_n hx hb dX11_facts_32 rfl (lv_at hl 2 rfl) ?_
        refine lv_iconst (v := (nI 1)) hx hb dX11_facts_33 (by decide) ?_
        refine lv_iload_n hx hb dX11_facts_34 rfl (lv_at hl 0 rfl) ?_
        refine lv_ishl hx hb dX11_facts_35 ?_
        refine lv_ior hx hb dX11_facts_36 ?_
        refine xi_nm hm (fun x5 hm => ?_)
        refine lv_istore_n (lv' := [(1, .int x5), (2, .int r4), (0, .ref (ad 22))]) hx hb dX11_facts_37 rfl hl (by decide) rfl (fun ls hl => ?_)
        refine lv_aload_n hx hb dX11_facts_38 rfl (lv_at hl 2 rfl) ?_
        refine xVW_v (As := []) (rest := []) (wr := []) (wg := (fun u => WM cs ad u)) hx hb hml hown hT hN hK hP hD hS hA cw_X11_88 hm (fun z h => tcX11_next l D cs ad H.size S z h) ⟨rfl, rfl⟩ ⟨by decide, by decide⟩ [0, 1, 2, 3, 4, 5, 6, 7, 8, 9, 10, 11] [] [0, 1, 2, 3, 4, 5, 6, 7, 8, 9, 10, 11] rfl (by decide) rfl (by decide) (by decide) (fun _ => rfl) (by decide) (b := (ad 22)) 0 rfl rfl rfl hl.1 rfl rfl (Nat.le_of_ble_eq_true rfl) dX11_facts_39 ⟨Nat.zero_le _, Nat.zero_le _⟩ (fun S6 H locs hm hP hD hS => ?_)
        refine lv_goto (tgt := 6) hx hb dX11_facts_42 (by decide) ?_
        exact ih x5 S6 hm H locs hP hD hS ls (lv_sub hl [2, 0] rfl)
      · refine lv_iconst (v := (-1 : Int32)) hx hb dX11_facts_30 (by decide) ?_
        exact x_iretW (wf := (fun u => WM cs ad u)) hx hb hr hlk hK hP hD hS hm dX11_facts_31
set_option maxHeartbeats 4000000 in
set_option maxRecDepth 100000 in
theorem tcX11_facts (l : Launch) (D : va_G) (cs : CS) (ad : Nat → Nat) (sz : Nat) (S : MS) (z : Int32 × MS) (hm : mX11_facts S = some z) : Met l yX11_facts (Cond.code yX11_facts cX11_facts 3 (some .int) :: gw_tbl) ({ frames := 3, cells := 0, slots := 0, locals := 66 }) (PcW D cs sz (WM cs ad S) [.ref (ad 22)]) (QWi D cs (va_A (WM cs ad S) sz) (fun u => WM cs ad u) z) 0 0 (va_A (WM cs ad S) sz) := by
  refine met_W rfl (Nat.le_of_ble_eq_true rfl) (fun p e s m below meth c E hP hD hS hA ls hl => ?_)
  generalize va_A (WM cs ad S) sz = A at hD hS hA ⊢
  obtain ⟨hx, hb, hr, hml, hown, hlk, hT, hN, hK⟩ := id E
  obtain ⟨H, hH⟩ : ∃ H, H = s.heap := ⟨_, rfl⟩
  obtain ⟨locs, hlo⟩ : ∃ L : List Loc, L = [] := ⟨_, rfl⟩
  have hP : va_P D classes (WM cs ad S) H := by rw [hH]; exact hP
  have hS : va_S A s.heap H locs := by rw [hH, hlo]; exact hS
  rw [show W p l e _ s m _ below meth c s.heap [] 0 0 = W p l e _ s m _ below meth c H locs 0 0 by rw [hH, hlo]]
  have hl : lv_has ls 3 [(0, .ref (ad 22))] := hl
  unfold mX11_facts at hm
  refine lv_iconst (v := (nI 0)) hx hb dX11_facts_0 (by decide) ?_
  refine lv_istore_n (lv' := [(1, .int (nI 0)), (0, .ref (ad 22))]) hx hb dX11_facts_1 rfl hl (by decide) rfl (fun ls hl => ?_)
  refine lv_aload_n hx hb dX11_facts_2 rfl (lv_at hl 1 rfl) ?_
  refine xVW_v (As := []) (rest := []) (wr := []) (wg := (fun u => WM cs ad u)) hx hb hml hown hT hN hK hP hD hS hA cw_X11_88 hm (fun z h => tcX11_next l D cs ad H.size S z h) ⟨rfl, rfl⟩ ⟨by decide, by decide⟩ [0, 1, 2, 3, 4, 5, 6, 7, 8, 9, 10, 11] [] [0, 1, 2, 3, 4, 5, 6, 7, 8, 9, 10, 11] rfl (by decide) rfl (by decide) (by decide) (fun _ => rfl) (by decide) (b := (ad 22)) 0 rfl rfl rfl hl.1 rfl rfl (Nat.le_of_ble_eq_true rfl) dX11_facts_3 ⟨Nat.zero_le _, Nat.zero_le _⟩ (fun S1 H locs hm hP hD hS => ?_)
  exact kX11_facts_L6 E hA _ FU (nI 0) S1 hm H locs hP hD hS ls (lv_sub hl [1, 0] rfl)
noncomputable def mX11_readsFiction (S : MS) : Option (Int32 × MS) := (if (S.2.1 12) = (nI 6) then zo (nI 0) (some ((nI 0), S)) else (mX11_number S (nI 0) (nI 5)).bind fun ⟨r2, S1⟩ => (if r2 = (-1 : Int32) then zo (nI 0) (some ((nI 0), S1)) else (mX11_number S1 (nI 0) (nI 7)).bind fun ⟨r4, S3⟩ => (if r4 = (-1 : Int32) then zo (nI 0) (some ((nI 0), S3)) else (mX11_number S3 (nI 0) (nI 20)).bind fun ⟨r6, S5⟩ => (if r6 = (-1 : Int32) then zo (nI 0) (some ((nI 0), S5)) else (mX11_facts S5).bind fun ⟨r8, S7⟩ => (if r8 = (-1 : Int32) then zo (nI 0) (some ((nI 0), S7)) else ast 24 ((nI 4) * (S7.2.1 12)) <| nm (mA S7 11 (((nI 4) * (S7.2.1 12)).toNatClampNeg) r2) fun S9 => ast 24 (((nI 4) * (S9.2.1 12)) + (nI 1)) <| nm (mA S9 11 ((((nI 4) * (S9.2.1 12)) + (nI 1)).toNatClampNeg) r8) fun S10 => ast 24 (((nI 4) * (S10.2.1 12)) + (nI 2)) <| nm (mA S10 11 ((((nI 4) * (S10.2.1 12)) + (nI 2)).toNatClampNeg) r4) fun S11 => ast 24 (((nI 4) * (S11.2.1 12)) + (nI 3)) <| nm (mA S11 11 ((((nI 4) * (S11.2.1 12)) + (nI 3)).toNatClampNeg) r6) fun S12 => nm (mI S12 12 ((S12.2.1 12) + (nI 1))) fun S13 => zo (nI 1) (some ((nI 1), S13)))))))
set_option maxHeartbeats 4000000 in
set_option maxRecDepth 100000 in
theorem tcX11_readsFiction (l : Launch) (D : va_G) (cs : CS) (ad : Nat → Nat) (sz : Nat) (S : MS) (z : Int32 × MS) (hm : mX11_readsFiction S = some z) : Met l yX11_readsFiction (Cond.code yX11_readsFiction cX11_readsFiction 5 (some .boolean) :: gw_tbl) ({ frames := 4, cells := 0, slots := 0, locals := 88 }) (PcW D cs sz (WM cs ad S) [.ref (ad 22)]) (QWi D cs (va_A (WM cs ad S) sz) (fun u => WM cs ad u) z) 0 0 (va_A (WM cs ad S) sz) := by
  refine met_W rfl (Nat.le_of_ble_eq_true rfl) (fun p e s m below meth c E hP hD hS hA ls hl => ?_)
  generalize va_A (WM cs ad S) sz = A at hD hS hA ⊢
  obtain ⟨hx, hb, hr, hml, hown, hlk, hT, hN, hK⟩ := id E
  obtain ⟨H, hH⟩ : ∃ H, H = s.heap := ⟨_, rfl⟩
  obtain ⟨locs, hlo⟩ : ∃ L : List Loc, L = [] := ⟨_, rfl⟩
  have hP : va_P D classes (WM cs ad S) H := by rw [hH]; exact hP
  have hS : va_S A s.heap H locs := by rw [hH, hlo]; exact hS
  rw [show W p l e _ s m _ below meth c s.heap [] 0 0 = W p l e _ s m _ below meth c H locs 0 0 by rw [hH, hlo]]
  have hl : lv_has ls 5 [(0, .ref (ad 22))] := hl
  unfold mX11_readsFiction at hm
  refine lv_aload_n hx hb dX11_readsFiction_0 rfl (lv_at hl 0 rfl) ?_
  refine gf_X11_95 (v := .int (S.2.1 12)) hx hb hT hown hK hP 0 rfl rfl dX11_readsFiction_1 ?_
  refine lv_bipush (v := (nI 6)) hx hb dX11_readsFiction_4 (by decide) ?_
  refine x_icmp_ne (tgt := 11) hx hb dX11_readsFiction_6 (by decide) hm (fun hm => ?_) (fun hm => ?_)
  · refine lv_aload_n hx hb dX11_readsFiction_11 rfl (lv_at hl 0 rfl) ?_
    refine lv_iconst (v := (nI 0)) hx hb dX11_readsFiction_12 (by decide) ?_
    refine lv_iconst (v := (nI 5)) hx hb dX11_readsFiction_13 (by decide) ?_
    refine xVW_i (As := [.int (nI 0), .int (nI 5)]) (rest := []) (wr := []) (wg := (fun u => WM cs ad u)) hx hb hml hown hT hN hK hP hD hS hA cw_X11_98 hm (fun z h => tcX11_number l D cs ad H.size S (nI 0) (nI 5) z h) ⟨rfl, rfl⟩ ⟨by decide, by decide⟩ [0, 1, 2, 3, 4, 5, 6, 7, 8, 9, 10, 11] [] [0, 1, 2, 3, 4, 5, 6, 7, 8, 9, 10, 11] rfl (by decide) rfl (by decide) (by decide) (fun _ => rfl) (by decide) (b := (ad 22)) 0 rfl rfl rfl hl.1 rfl rfl (Nat.le_of_ble_eq_true rfl) dX11_readsFiction_14 ⟨Nat.zero_le _, Nat.zero_le _⟩ (fun r2 S1 H locs hm hP hD hS => ?_)
    refine lv_istore_n (lv' := [(1, .int r2), (0, .ref (ad 22))]) hx hb dX11_readsFiction_17 rfl hl (by decide) rfl (fun ls hl => ?_)
    refine lv_iload_n hx hb dX11_readsFiction_18 rfl (lv_at hl 0 rfl) ?_
    refine lv_iconst (v := (-1 : Int32)) hx hb dX11_readsFiction_19 (by decide) ?_
    refine x_icmp_ne (tgt := 27) hx hb dX11_readsFiction_20 (by decide) hm (fun hm => ?_) (fun hm => ?_)
    · refine lv_aload_n hx hb dX11_readsFiction_27 rfl (lv_at hl 1 rfl) ?_
      refine lv_iconst (v := (nI 0)) hx hb dX11_readsFiction_28 (by decide) ?_
      refine lv_bipush (v := (nI 7)) hx hb dX11_readsFiction_29 (by decide) ?_
      refine xVW_i (As := [.int (nI 0), .int (nI 7)]) (rest := []) (wr := []) (wg := (fun u => WM cs ad u)) hx hb hml hown hT hN hK hP hD hS hA cw_X11_98 hm (fun z h => tcX11_number l D cs ad H.size S1 (nI 0) (nI 7) z h) ⟨rfl, rfl⟩ ⟨by decide, by decide⟩ [0, 1, 2, 3, 4, 5, 6, 7, 8, 9, 10, 11] [] [0, 1, 2, 3, 4, 5, 6, 7, 8, 9, 10, 11] rfl (by decide) rfl (by decide) (by decide) (fun _ => rfl) (by decide) (b := (ad 22)) 0 rfl rfl rfl hl.1 rfl rfl (Nat.le_of_ble_eq_true rfl) dX11_readsFiction_31 ⟨Nat.zero_le _, Nat.zero_le _⟩ (fun r4 S3 H locs hm hP hD hS => ?_)
      refine lv_istore_n (lv' := [(2, .int r4), (1, .int r2), (0, .ref (ad 22))]) hx hb dX11_readsFiction_34 rfl hl (by decide) rfl (fun ls hl => ?_)
      refine lv_iload_n hx hb dX11_readsFiction_35 rfl (lv_at hl 0 rfl) ?_
      refine lv_iconst (v := (-1 : Int32)) hx hb dX11_readsFiction_36 (by decide) ?_
      refine x_icmp_ne (tgt := 44) hx hb dX11_readsFiction_37 (by decide) hm (fun hm => ?_) (fun hm => ?_)
      · refine lv_aload_n hx hb dX11_readsFiction_44 rfl (lv_at hl 2 rfl) ?_
        refine lv_iconst (v := (nI 0)) hx hb dX11_readsFiction_45 (by decide) ?_
        refine lv_bipush (v := (nI 20)) hx hb dX11_readsFiction_46 (by decide) ?_
        refine xVW_i (As := [.int (nI 0), .int (nI 20)]) (rest := []) (wr := []) (wg := (fun u => WM cs ad u)) hx hb hml hown hT hN hK hP hD hS hA cw_X11_98 hm (fun z h => tcX11_number l D cs ad H.size S3 (nI 0) (nI 20) z h) ⟨rfl, rfl⟩ ⟨by decide, by decide⟩ [0, 1, 2, 3, 4, 5, 6, 7, 8, 9, 10, 11] [] [0, 1, 2, 3, 4, 5, 6, 7, 8, 9, 10, 11] rfl (by decide) rfl (by decide) (by decide) (fun _ => rfl) (by decide) (b := (ad 22)) 0 rfl rfl rfl hl.1 rfl rfl (Nat.le_of_ble_eq_true rfl) dX11_readsFiction_48 ⟨Nat.zero_le _, Nat.zero_le _⟩ (fun r6 S5 H locs hm hP hD hS => ?_)
        refine lv_istore_n (lv' := [(3, .int r6), (2, .int r4), (1, .int r2), (0, .ref (ad 22))]) hx hb dX11_readsFiction_51 rfl hl (by decide) rfl (fun ls hl => ?_)
        refine lv_iload_n hx hb dX11_readsFiction_52 rfl (lv_at hl 0 rfl) ?_
        refine lv_iconst (v := (-1 : Int32)) hx hb dX11_readsFiction_53 (by decide) ?_
        refine x_icmp_ne (tgt := 61) hx hb dX11_readsFiction_54 (by decide) hm (fun hm => ?_) (fun hm => ?_)
        · refine lv_aload_n hx hb dX11_readsFiction_61 rfl (lv_at hl 3 rfl) ?_
          refine xVW_i (As := []) (rest := []) (wr := []) (wg := (fun u => WM cs ad u)) hx hb hml hown hT hN hK hP hD hS hA cw_X11_101 hm (fun z h => tcX11_facts l D cs ad H.size S5 z h) ⟨rfl, rfl⟩ ⟨by decide, by decide⟩ [0, 1, 2, 3, 4, 5, 6, 7, 8, 9, 10, 11] [] [0, 1, 2, 3, 4, 5, 6, 7, 8, 9, 10, 11] rfl (by decide) rfl (by decide) (by decide) (fun _ => rfl) (by decide) (b := (ad 22)) 0 rfl rfl rfl hl.1 rfl rfl (Nat.le_of_ble_eq_true rfl) dX11_readsFiction_62 ⟨Nat.zero_le _, Nat.zero_le _⟩ (fun r8 S7 H locs hm hP hD hS => ?_)
          refine lv_istore (lv' := [(4, .int r8), (3, .int r6), (2, .int r4), (1, .int r2), (0, .ref (ad 22))]) hx hb dX11_readsFiction_65 hl (by decide) rfl (fun ls hl => ?_)
          refine lv_iload hx hb dX11_readsFiction_67 (lv_at hl 0 rfl) ?_
          refine lv_iconst (v := (-1 : Int32)) hx hb dX11_readsFiction_69 (by decide) ?_
          refine x_icmp_ne (tgt := 75) hx hb dX11_readsFiction_70 (by decide) hm (fun hm => ?_) (fun hm => ?_)
          · refine lv_aload_n hx hb dX11_readsFiction_75 rfl (lv_at hl 4 rfl) ?_
            refine gf_X11_30 (v := .ref (ad 11)) hx hb hT hown hK hP 0 rfl rfl dX11_readsFiction_76 ?_
            refine lv_iconst (v := (nI 4)) hx hb dX11_readsFiction_79 (by decide) ?_
            refine lv_aload_n hx hb dX11_readsFiction_80 rfl (lv_at hl 4 rfl) ?_
            refine gf_X11_95 (v := .int (S7.2.1 12)) hx hb hT hown hK hP 0 rfl rfl dX11_readsFiction_81 ?_
            refine lv_imul hx hb dX11_readsFiction_84 ?_
            refine lv_iload_n hx hb dX11_readsFiction_85 rfl (lv_at hl 3 rfl) ?_
            refine x_iast hx hb hK hP hD hS 6 rfl (fun j => mA S7 11 j r2) (fun u => WM cs ad u) (fun _ => rfl) hm dX11_readsFiction_86 (fun S9 H locs hm hP hD hS => ?_)
            refine lv_aload_n hx hb dX11_readsFiction_87 rfl (lv_at hl 4 rfl) ?_
            refine gf_X11_30 (v := .ref (ad 11)) hx hb hT hown hK hP 0 rfl rfl dX11_readsFiction_88 ?_
            refine lv_iconst (v := (nI 4)) hx hb dX11_readsFiction_91 (by decide) ?_
            refine lv_aload_n hx hb dX11_readsFiction_92 rfl (lv_at hl 4 rfl) ?_
            refine gf_X11_95 (v := .int (S9.2.1 12)) hx hb hT hown hK hP 0 rfl rfl dX11_readsFiction_93 ?_
            refine lv_imul hx hb dX11_readsFiction_96 ?_
            refine lv_iconst (v := (nI 1)) hx hb dX11_readsFiction_97 (by decide) ?_
            refine lv_iadd hx hb dX11_readsFiction_98 ?_
            refine lv_iload hx hb dX11_readsFiction_99 (lv_at hl 0 rfl) ?_
            refine x_iast hx hb hK hP hD hS 6 rfl (fun j => mA S9 11 j r8) (fun u => WM cs ad u) (fun _ => rfl) hm dX11_readsFiction_101 (fun S10 H locs hm hP hD hS => ?_)
            refine lv_aload_n hx hb dX11_readsFiction_102 rfl (lv_at hl 4 rfl) ?_
            refine gf_X11_30 (v := .ref (ad 11)) hx hb hT hown hK hP 0 rfl rfl dX11_readsFiction_103 ?_
            refine lv_iconst (v := (nI 4)) hx hb dX11_readsFiction_106 (by decide) ?_
            refine lv_aload_n hx hb dX11_readsFiction_107 rfl (lv_at hl 4 rfl) ?_
            refine gf_X11_95 (v := .int (S10.2.1 12)) hx hb hT hown hK hP 0 rfl rfl dX11_readsFiction_108 ?_
            refine lv_imul hx hb dX11_readsFiction_111 ?_
            refine lv_iconst (v := (nI 2)) hx hb dX11_readsFiction_112 (by decide) ?_
            refine lv_iadd hx hb dX11_readsFiction_113 ?_
            refine lv_iload_n hx hb dX11_readsFiction_114 rfl (lv_at hl 2 rfl) ?_
            refine x_iast hx hb hK hP hD hS 6 rfl (fun j => mA S10 11 j r4) (fun u => WM cs ad u) (fun _ => rfl) hm dX11_readsFiction_115 (fun S11 H locs hm hP hD hS => ?_)
            refine lv_aload_n hx hb dX11_readsFiction_116 rfl (lv_at hl 4 rfl) ?_
            refine gf_X11_30 (v := .ref (ad 11)) hx hb hT hown hK hP 0 rfl rfl dX11_readsFiction_117 ?_
            refine lv_iconst (v := (nI 4)) hx hb dX11_readsFiction_120 (by decide) ?_
            refine lv_aload_n hx hb dX11_readsFiction_121 rfl (lv_at hl 4 rfl) ?_
            refine gf_X11_95 (v := .int (S11.2.1 12)) hx hb hT hown hK hP 0 rfl rfl dX11_readsFiction_122 ?_
            refine lv_imul hx hb dX11_readsFiction_125 ?_
            refine lv_iconst (v := (nI 3)) hx hb dX11_readsFiction_126 (by decide) ?_
            refine lv_iadd hx hb dX11_readsFiction_127 ?_
            refine lv_iload_n hx hb dX11_readsFiction_128 rfl (lv_at hl 1 rfl) ?_
            refine x_iast hx hb hK hP hD hS 6 rfl (fun j => mA S11 11 j r6) (fun u => WM cs ad u) (fun _ => rfl) hm dX11_readsFiction_129 (fun S12 H locs hm hP hD hS => ?_)
            refine lv_aload_n hx hb dX11_readsFiction_130 rfl (lv_at hl 4 rfl) ?_
            refine lv_dup hx hb dX11_readsFiction_131 rfl ?_
            refine gf_X11_95 (v := .int (S12.2.1 12)) hx hb hT hown hK hP 0 rfl rfl dX11_readsFiction_132 ?_
            refine lv_iconst (v := (nI 1)) hx hb dX11_readsFiction_135 (by decide) ?_
            refine lv_iadd hx hb dX11_readsFiction_136 ?_
            refine pf_X11_95 (wf := (fun u => WM cs ad u)) (u0 := mI S12 12 ((S12.2.1 12) + (nI 1))) hx hb hT hown hK hP hD hS 0 rfl (Nat.le_of_ble_eq_true rfl) rfl rfl rfl hm dX11_readsFiction_137 (fun S13 H locs hm hP hD hS => ?_)
            refine lv_iconst (v := (nI 1)) hx hb dX11_readsFiction_140 (by decide) ?_
            exact x_zretW (wf := (fun u => WM cs ad u)) hx hb hr hlk hK hP hD hS hm dX11_readsFiction_141
          · refine lv_iconst (v := (nI 0)) hx hb dX11_readsFiction_73 (by decide) ?_
            exact x_zretW (wf := (fun u => WM cs ad u)) hx hb hr hlk hK hP hD hS hm dX11_readsFiction_74
        · refine lv_iconst (v := (-1 : Int32)) hx hb dX11_readsFiction_57 (by decide) ?_
          refine lv_goto (tgt := 65) hx hb dX11_readsFiction_58 (by decide) ?_
          refine lv_istore (lv' := [(4, .int (-1 : Int32)), (3, .int r6), (2, .int r4), (1, .int r2), (0, .ref (ad 22))]) hx hb dX11_readsFiction_65 hl (by decide) rfl (fun ls hl => ?_)
          refine lv_iload hx hb dX11_readsFiction_67 (lv_at hl 0 rfl) ?_
          refine lv_iconst (v := (-1 : Int32)) hx hb dX11_readsFiction_69 (by decide) ?_
          refine lv_icmp_ne (tgt := 75) hx hb dX11_readsFiction_70 (by decide) (fun h => absurd h (by decide)) (fun _ => ?_)
          refine lv_iconst (v := (nI 0)) hx hb dX11_readsFiction_73 (by decide) ?_
          exact x_zretW (wf := (fun u => WM cs ad u)) hx hb hr hlk hK hP hD hS hm dX11_readsFiction_74
      · refine lv_iconst (v := (-1 : Int32)) hx hb dX11_readsFiction_40 (by decide) ?_
        refine lv_goto (tgt := 51) hx hb dX11_readsFiction_41 (by decide) ?_
        refine lv_istore_n (lv' := [(3, .int (-1 : Int32)), (2, .int r4), (1, .int r2), (0, .ref (ad 22))]) hx hb dX11_readsFiction_51 rfl hl (by decide) rfl (fun ls hl => ?_)
        refine lv_iload_n hx hb dX11_readsFiction_52 rfl (lv_at hl 0 rfl) ?_
        refine lv_iconst (v := (-1 : Int32)) hx hb dX11_readsFiction_53 (by decide) ?_
        refine lv_icmp_ne (tgt := 61) hx hb dX11_readsFiction_54 (by decide) (fun h => absurd h (by decide)) (fun _ => ?_)
        refine lv_iconst (v := (-1 : Int32)) hx hb dX11_readsFiction_57 (by decide) ?_
        refine lv_goto (tgt := 65) hx hb dX11_readsFiction_58 (by decide) ?_
        refine lv_istore (lv' := [(4, .int (-1 : Int32)), (3, .int (-1 : Int32)), (2, .int r4), (1, .int r2), (0, .ref (ad 22))]) hx hb dX11_readsFiction_65 hl (by decide) rfl (fun ls hl => ?_)
        refine lv_iload hx hb dX11_readsFiction_67 (lv_at hl 0 rfl) ?_
        refine lv_iconst (v := (-1 : Int32)) hx hb dX11_readsFiction_69 (by decide) ?_
        refine lv_icmp_ne (tgt := 75) hx hb dX11_readsFiction_70 (by decide) (fun h => absurd h (by decide)) (fun _ => ?_)
        refine lv_iconst (v := (nI 0)) hx hb dX11_readsFiction_73 (by decide) ?_
        exact x_zretW (wf := (fun u => WM cs ad u)) hx hb hr hlk hK hP hD hS hm dX11_readsFiction_74
    · refine lv_iconst (v := (-1 : Int32)) hx hb dX11_readsFiction_23 (by decide) ?_
      refine lv_goto (tgt := 34) hx hb dX11_readsFiction_24 (by decide) ?_
      refine lv_istore_n (lv' := [(2, .int (-1 : Int32)), (1, .int r2), (0, .ref (ad 22))]) hx hb dX11_readsFiction_34 rfl hl (by decide) rfl (fun ls hl => ?_)
      refine lv_iload_n hx hb dX11_readsFiction_35 rfl (lv_at hl 0 rfl) ?_
      refine lv_iconst (v := (-1 : Int32)) hx hb dX11_readsFiction_36 (by decide) ?_
      refine lv_icmp_ne (tgt := 44) hx hb dX11_readsFiction_37 (by decide) (fun h => absurd h (by decide)) (fun _ => ?_)
      refine lv_iconst (v := (-1 : Int32)) hx hb dX11_readsFiction_40 (by decide) ?_
      refine lv_goto (tgt := 51) hx hb dX11_readsFiction_41 (by decide) ?_
      refine lv_istore_n (lv' := [(3, .int (-1 : Int32)), (2, .int (-1 : Int32)), (1, .int r2), (0, .ref (ad 22))]) hx hb dX11_readsFiction_51 rfl hl (by decide) rfl (fun ls hl => ?_)
      refine lv_iload_n hx hb dX11_readsFiction_52 rfl (lv_at hl 0 rfl) ?_
      refine lv_iconst (v := (-1 : Int32)) hx hb dX11_readsFiction_53 (by decide) ?_
      refine lv_icmp_ne (tgt := 61) hx hb dX11_readsFiction_54 (by decide) (fun h => absurd h (by decide)) (fun _ => ?_)
      refine lv_iconst (v := (-1 : Int32)) hx hb dX11_readsFiction_57 (by decide) ?_
      refine lv_goto (tgt := 65) hx hb dX11_readsFiction_58 (by decide) ?_
      refine lv_istore (lv' := [(4, .int (-1 : Int32)), (3, .int (-1 : Int32)), (2, .int (-1 : Int32)), (1, .int r2), (0, .ref (ad 22))]) hx hb dX11_readsFiction_65 hl (by decide) rfl (fun ls hl => ?_)
      refine lv_iload hx hb dX11_readsFiction_67 (lv_at hl 0 rfl) ?_
      refine lv_iconst (v := (-1 : Int32)) hx hb dX11_readsFiction_69 (by decide) ?_
      refine lv_icmp_ne (tgt := 75) hx hb dX11_readsFiction_70 (by decide) (fun h => absurd h (by decide)) (fun _ => ?_)
      refine lv_iconst (v := (nI 0)) hx hb dX11_readsFiction_73 (by decide) ?_
      exact x_zretW (wf := (fun u => WM cs ad u)) hx hb hr hlk hK hP hD hS hm dX11_readsFiction_74
  · refine lv_iconst (v := (nI 0)) hx hb dX11_readsFiction_9 (by decide) ?_
    exact x_zretW (wf := (fun u => WM cs ad u)) hx hb hr hlk hK hP hD hS hm dX11_readsFiction_10
noncomputable def mX11_readsCourt (S : MS) : Option (Int32 × MS) := (if (S.2.1 14) = (nI 4) then zo (nI 0) (some ((nI 0), S)) else (mX11_number S (nI 0) (nI 20)).bind fun ⟨r2, S1⟩ => (if r2 = (-1 : Int32) then zo (nI 0) (some ((nI 0), S1)) else (mX11_facts S1).bind fun ⟨r4, S3⟩ => (if r4 = (-1 : Int32) then zo (nI 0) (some ((nI 0), S3)) else ast 8 ((nI 2) * (S3.2.1 14)) <| nm (mA S3 13 (((nI 2) * (S3.2.1 14)).toNatClampNeg) r4) fun S5 => ast 8 (((nI 2) * (S5.2.1 14)) + (nI 1)) <| nm (mA S5 13 ((((nI 2) * (S5.2.1 14)) + (nI 1)).toNatClampNeg) r2) fun S6 => nm (mI S6 14 ((S6.2.1 14) + (nI 1))) fun S7 => zo (nI 1) (some ((nI 1), S7)))))
set_option maxHeartbeats 4000000 in
set_option maxRecDepth 100000 in
theorem tcX11_readsCourt (l : Launch) (D : va_G) (cs : CS) (ad : Nat → Nat) (sz : Nat) (S : MS) (z : Int32 × MS) (hm : mX11_readsCourt S = some z) : Met l yX11_readsCourt (Cond.code yX11_readsCourt cX11_readsCourt 3 (some .boolean) :: gw_tbl) ({ frames := 4, cells := 0, slots := 0, locals := 88 }) (PcW D cs sz (WM cs ad S) [.ref (ad 22)]) (QWi D cs (va_A (WM cs ad S) sz) (fun u => WM cs ad u) z) 0 0 (va_A (WM cs ad S) sz) := by
  refine met_W rfl (Nat.le_of_ble_eq_true rfl) (fun p e s m below meth c E hP hD hS hA ls hl => ?_)
  generalize va_A (WM cs ad S) sz = A at hD hS hA ⊢
  obtain ⟨hx, hb, hr, hml, hown, hlk, hT, hN, hK⟩ := id E
  obtain ⟨H, hH⟩ : ∃ H, H = s.heap := ⟨_, rfl⟩
  obtain ⟨locs, hlo⟩ : ∃ L : List Loc, L = [] := ⟨_, rfl⟩
  have hP : va_P D classes (WM cs ad S) H := by rw [hH]; exact hP
  have hS : va_S A s.heap H locs := by rw [hH, hlo]; exact hS
  rw [show W p l e _ s m _ below meth c s.heap [] 0 0 = W p l e _ s m _ below meth c H locs 0 0 by rw [hH, hlo]]
  have hl : lv_has ls 3 [(0, .ref (ad 22))] := hl
  unfold mX11_readsCourt at hm
  refine lv_aload_n hx hb dX11_readsCourt_0 rfl (lv_at hl 0 rfl) ?_
  refine gf_X11_105 (v := .int (S.2.1 14)) hx hb hT hown hK hP 0 rfl rfl dX11_readsCourt_1 ?_
  refine lv_iconst (v := (nI 4)) hx hb dX11_readsCourt_4 (by decide) ?_
  refine x_icmp_ne (tgt := 10) hx hb dX11_readsCourt_5 (by decide) hm (fun hm => ?_) (fun hm => ?_)
  · refine lv_aload_n hx hb dX11_readsCourt_10 rfl (lv_at hl 0 rfl) ?_
    refine lv_iconst (v := (nI 0)) hx hb dX11_readsCourt_11 (by decide) ?_
    refine lv_bipush (v := (nI 20)) hx hb dX11_readsCourt_12 (by decide) ?_
    refine xVW_i (As := [.int (nI 0), .int (nI 20)]) (rest := []) (wr := []) (wg := (fun u => WM cs ad u)) hx hb hml hown hT hN hK hP hD hS hA cw_X11_98 hm (fun z h => tcX11_number l D cs ad H.size S (nI 0) (nI 20) z h) ⟨rfl, rfl⟩ ⟨by decide, by decide⟩ [0, 1, 2, 3, 4, 5, 6, 7, 8, 9, 10, 11] [] [0, 1, 2, 3, 4, 5, 6, 7, 8, 9, 10, 11] rfl (by decide) rfl (by decide) (by decide) (fun _ => rfl) (by decide) (b := (ad 22)) 0 rfl rfl rfl hl.1 rfl rfl (Nat.le_of_ble_eq_true rfl) dX11_readsCourt_14 ⟨Nat.zero_le _, Nat.zero_le _⟩ (fun r2 S1 H locs hm hP hD hS => ?_)
    refine lv_istore_n (lv' := [(1, .int r2), (0, .ref (ad 22))]) hx hb dX11_readsCourt_17 rfl hl (by decide) rfl (fun ls hl => ?_)
    refine lv_iload_n hx hb dX11_readsCourt_18 rfl (lv_at hl 0 rfl) ?_
    refine lv_iconst (v := (-1 : Int32)) hx hb dX11_readsCourt_19 (by decide) ?_
    refine x_icmp_ne (tgt := 27) hx hb dX11_readsCourt_20 (by decide) hm (fun hm => ?_) (fun hm => ?_)
    · refine lv_aload_n hx hb dX11_readsCourt_27 rfl (lv_at hl 1 rfl) ?_
      refine xVW_i (As := []) (rest := []) (wr := []) (wg := (fun u => WM cs ad u)) hx hb hml hown hT hN hK hP hD hS hA cw_X11_101 hm (fun z h => tcX11_facts l D cs ad H.size S1 z h) ⟨rfl, rfl⟩ ⟨by decide, by decide⟩ [0, 1, 2, 3, 4, 5, 6, 7, 8, 9, 10, 11] [] [0, 1, 2, 3, 4, 5, 6, 7, 8, 9, 10, 11] rfl (by decide) rfl (by decide) (by decide) (fun _ => rfl) (by decide) (b := (ad 22)) 0 rfl rfl rfl hl.1 rfl rfl (Nat.le_of_ble_eq_true rfl) dX11_readsCourt_28 ⟨Nat.zero_le _, Nat.zero_le _⟩ (fun r4 S3 H locs hm hP hD hS => ?_)
      refine lv_istore_n (lv' := [(2, .int r4), (1, .int r2), (0, .ref (ad 22))]) hx hb dX11_readsCourt_31 rfl hl (by decide) rfl (fun ls hl => ?_)
      refine lv_iload_n hx hb dX11_readsCourt_32 rfl (lv_at hl 0 rfl) ?_
      refine lv_iconst (v := (-1 : Int32)) hx hb dX11_readsCourt_33 (by decide) ?_
      refine x_icmp_ne (tgt := 39) hx hb dX11_readsCourt_34 (by decide) hm (fun hm => ?_) (fun hm => ?_)
      · refine lv_aload_n hx hb dX11_readsCourt_39 rfl (lv_at hl 2 rfl) ?_
        refine gf_X11_33 (v := .ref (ad 13)) hx hb hT hown hK hP 0 rfl rfl dX11_readsCourt_40 ?_
        refine lv_iconst (v := (nI 2)) hx hb dX11_readsCourt_43 (by decide) ?_
        refine lv_aload_n hx hb dX11_readsCourt_44 rfl (lv_at hl 2 rfl) ?_
        refine gf_X11_105 (v := .int (S3.2.1 14)) hx hb hT hown hK hP 0 rfl rfl dX11_readsCourt_45 ?_
        refine lv_imul hx hb dX11_readsCourt_48 ?_
        refine lv_iload_n hx hb dX11_readsCourt_49 rfl (lv_at hl 0 rfl) ?_
        refine x_iast hx hb hK hP hD hS 7 rfl (fun j => mA S3 13 j r4) (fun u => WM cs ad u) (fun _ => rfl) hm dX11_readsCourt_50 (fun S5 H locs hm hP hD hS => ?_)
        refine lv_aload_n hx hb dX11_readsCourt_51 rfl (lv_at hl 2 rfl) ?_
        refine gf_X11_33 (v := .ref (ad 13)) hx hb hT hown hK hP 0 rfl rfl dX11_readsCourt_52 ?_
        refine lv_iconst (v := (nI 2)) hx hb dX11_readsCourt_55 (by decide) ?_
        refine lv_aload_n hx hb dX11_readsCourt_56 rfl (lv_at hl 2 rfl) ?_
        refine gf_X11_105 (v := .int (S5.2.1 14)) hx hb hT hown hK hP 0 rfl rfl dX11_readsCourt_57 ?_
        refine lv_imul hx hb dX11_readsCourt_60 ?_
        refine lv_iconst (v := (nI 1)) hx hb dX11_readsCourt_61 (by decide) ?_
        refine lv_iadd hx hb dX11_readsCourt_62 ?_
        refine lv_iload_n hx hb dX11_readsCourt_63 rfl (lv_at hl 1 rfl) ?_
        refine x_iast hx hb hK hP hD hS 7 rfl (fun j => mA S5 13 j r2) (fun u => WM cs ad u) (fun _ => rfl) hm dX11_readsCourt_64 (fun S6 H locs hm hP hD hS => ?_)
        refine lv_aload_n hx hb dX11_readsCourt_65 rfl (lv_at hl 2 rfl) ?_
        refine lv_dup hx hb dX11_readsCourt_66 rfl ?_
        refine gf_X11_105 (v := .int (S6.2.1 14)) hx hb hT hown hK hP 0 rfl rfl dX11_readsCourt_67 ?_
        refine lv_iconst (v := (nI 1)) hx hb dX11_readsCourt_70 (by decide) ?_
        refine lv_iadd hx hb dX11_readsCourt_71 ?_
        refine pf_X11_105 (wf := (fun u => WM cs ad u)) (u0 := mI S6 14 ((S6.2.1 14) + (nI 1))) hx hb hT hown hK hP hD hS 0 rfl (Nat.le_of_ble_eq_true rfl) rfl rfl rfl hm dX11_readsCourt_72 (fun S7 H locs hm hP hD hS => ?_)
        refine lv_iconst (v := (nI 1)) hx hb dX11_readsCourt_75 (by decide) ?_
        exact x_zretW (wf := (fun u => WM cs ad u)) hx hb hr hlk hK hP hD hS hm dX11_readsCourt_76
      · refine lv_iconst (v := (nI 0)) hx hb dX11_readsCourt_37 (by decide) ?_
        exact x_zretW (wf := (fun u => WM cs ad u)) hx hb hr hlk hK hP hD hS hm dX11_readsCourt_38
    · refine lv_iconst (v := (-1 : Int32)) hx hb dX11_readsCourt_23 (by decide) ?_
      refine lv_goto (tgt := 31) hx hb dX11_readsCourt_24 (by decide) ?_
      refine lv_istore_n (lv' := [(2, .int (-1 : Int32)), (1, .int r2), (0, .ref (ad 22))]) hx hb dX11_readsCourt_31 rfl hl (by decide) rfl (fun ls hl => ?_)
      refine lv_iload_n hx hb dX11_readsCourt_32 rfl (lv_at hl 0 rfl) ?_
      refine lv_iconst (v := (-1 : Int32)) hx hb dX11_readsCourt_33 (by decide) ?_
      refine lv_icmp_ne (tgt := 39) hx hb dX11_readsCourt_34 (by decide) (fun h => absurd h (by decide)) (fun _ => ?_)
      refine lv_iconst (v := (nI 0)) hx hb dX11_readsCourt_37 (by decide) ?_
      exact x_zretW (wf := (fun u => WM cs ad u)) hx hb hr hlk hK hP hD hS hm dX11_readsCourt_38
  · refine lv_iconst (v := (nI 0)) hx hb dX11_readsCourt_8 (by decide) ?_
    exact x_zretW (wf := (fun u => WM cs ad u)) hx hb hr hlk hK hP hD hS hm dX11_readsCourt_9
noncomputable def mX11_readItems_L21  : Nat → Int32 → MS → Option (Int32 × MS) := fun n => Nat.rec (motive := fun _ => Int32 → MS → Option (Int32 × MS)) (fun _ _ => none) (fun _ rc => fun y1 S => (if y1 = 0 then (mX11_wordHere S).bind fun r5 => (if r5 = (-1 : Int32) then some ((-1 : Int32), S) else (if r5 = 0 then (if y1 = 0 then (if r5 = 0 then (mX11_facts S).bind fun ⟨r42, S41⟩ => nm (mI S41 10 r42) fun S43 => (if r5 = 0 then (if (S43.2.1 10) = (-1 : Int32) then some ((-1 : Int32), S43) else nm (y1 + (nI 1)) fun x52 => (mX11_next S43).bind fun S53 => rc x52 S53) else (if r5 = (nI 1) then (mX11_readsFiction S43).bind fun ⟨r49, S48⟩ => (if r49 = 0 then some ((-1 : Int32), S48) else nm (y1 + (nI 1)) fun x50 => (mX11_next S48).bind fun S51 => rc x50 S51) else (mX11_readsCourt S43).bind fun ⟨r45, S44⟩ => (if r45 = 0 then some ((-1 : Int32), S44) else nm (y1 + (nI 1)) fun x46 => (mX11_next S44).bind fun S47 => rc x46 S47))) else nm (mI S 10 (S.2.1 10)) fun S30 => (if r5 = 0 then (if (S30.2.1 10) = (-1 : Int32) then some ((-1 : Int32), S30) else nm (y1 + (nI 1)) fun x39 => (mX11_next S30).bind fun S40 => rc x39 S40) else (if r5 = (nI 1) then (mX11_readsFiction S30).bind fun ⟨r36, S35⟩ => (if r36 = 0 then some ((-1 : Int32), S35) else nm (y1 + (nI 1)) fun x37 => (mX11_next S35).bind fun S38 => rc x37 S38) else (mX11_readsCourt S30).bind fun ⟨r32, S31⟩ => (if r32 = 0 then some ((-1 : Int32), S31) else nm (y1 + (nI 1)) fun x33 => (mX11_next S31).bind fun S34 => rc x33 S34)))) else some ((-1 : Int32), S)) else (if y1 = 0 then some ((-1 : Int32), S) else (if r5 = 0 then (mX11_facts S).bind fun ⟨r18, S17⟩ => nm (mI S17 10 r18) fun S19 => (if r5 = 0 then (if (S19.2.1 10) = (-1 : Int32) then some ((-1 : Int32), S19) else nm (y1 + (nI 1)) fun x28 => (mX11_next S19).bind fun S29 => rc x28 S29) else (if r5 = (nI 1) then (mX11_readsFiction S19).bind fun ⟨r25, S24⟩ => (if r25 = 0 then some ((-1 : Int32), S24) else nm (y1 + (nI 1)) fun x26 => (mX11_next S24).bind fun S27 => rc x26 S27) else (mX11_readsCourt S19).bind fun ⟨r21, S20⟩ => (if r21 = 0 then some ((-1 : Int32), S20) else nm (y1 + (nI 1)) fun x22 => (mX11_next S20).bind fun S23 => rc x22 S23))) else nm (mI S 10 (S.2.1 10)) fun S6 => (if r5 = 0 then (if (S6.2.1 10) = (-1 : Int32) then some ((-1 : Int32), S6) else nm (y1 + (nI 1)) fun x15 => (mX11_next S6).bind fun S16 => rc x15 S16) else (if r5 = (nI 1) then (mX11_readsFiction S6).bind fun ⟨r12, S11⟩ => (if r12 = 0 then some ((-1 : Int32), S11) else nm (y1 + (nI 1)) fun x13 => (mX11_next S11).bind fun S14 => rc x13 S14) else (mX11_readsCourt S6).bind fun ⟨r8, S7⟩ => (if r8 = 0 then some ((-1 : Int32), S7) else nm (y1 + (nI 1)) fun x9 => (mX11_next S7).bind fun S10 => rc x9 S10))))))) else (if (S.2.1 6) ≤ (S.2.1 8) then some (y1, S) else (mX11_wordHere S).bind fun r54 => (if r54 = (-1 : Int32) then some ((-1 : Int32), S) else (if r54 = 0 then (if y1 = 0 then (if r54 = 0 then (mX11_facts S).bind fun ⟨r91, S90⟩ => nm (mI S90 10 r91) fun S92 => (if r54 = 0 then (if (S92.2.1 10) = (-1 : Int32) then some ((-1 : Int32), S92) else nm (y1 + (nI 1)) fun x101 => (mX11_next S92).bind fun S102 => rc x101 S102) else (if r54 = (nI 1) then (mX11_readsFiction S92).bind fun ⟨r98, S97⟩ => (if r98 = 0 then some ((-1 : Int32), S97) else nm (y1 + (nI 1)) fun x99 => (mX11_next S97).bind fun S100 => rc x99 S100) else (mX11_readsCourt S92).bind fun ⟨r94, S93⟩ => (if r94 = 0 then some ((-1 : Int32), S93) else nm (y1 + (nI 1)) fun x95 => (mX11_next S93).bind fun S96 => rc x95 S96))) else nm (mI S 10 (S.2.1 10)) fun S79 => (if r54 = 0 then (if (S79.2.1 10) = (-1 : Int32) then some ((-1 : Int32), S79) else nm (y1 + (nI 1)) fun x88 => (mX11_next S79).bind fun S89 => rc x88 S89) else (if r54 = (nI 1) then (mX11_readsFiction S79).bind fun ⟨r85, S84⟩ => (if r85 = 0 then some ((-1 : Int32), S84) else nm (y1 + (nI 1)) fun x86 => (mX11_next S84).bind fun S87 => rc x86 S87) else (mX11_readsCourt S79).bind fun ⟨r81, S80⟩ => (if r81 = 0 then some ((-1 : Int32), S80) else nm (y1 + (nI 1)) fun x82 => (mX11_next S80).bind fun S83 => rc x82 S83)))) else some ((-1 : Int32), S)) else (if y1 = 0 then some ((-1 : Int32), S) else (if r54 = 0 then (mX11_facts S).bind fun ⟨r67, S66⟩ => nm (mI S66 10 r67) fun S68 => (if r54 = 0 then (if (S68.2.1 10) = (-1 : Int32) then some ((-1 : Int32), S68) else nm (y1 + (nI 1)) fun x77 => (mX11_next S68).bind fun S78 => rc x77 S78) else (if r54 = (nI 1) then (mX11_readsFiction S68).bind fun ⟨r74, S73⟩ => (if r74 = 0 then some ((-1 : Int32), S73) else nm (y1 + (nI 1)) fun x75 => (mX11_next S73).bind fun S76 => rc x75 S76) else (mX11_readsCourt S68).bind fun ⟨r70, S69⟩ => (if r70 = 0 then some ((-1 : Int32), S69) else nm (y1 + (nI 1)) fun x71 => (mX11_next S69).bind fun S72 => rc x71 S72))) else nm (mI S 10 (S.2.1 10)) fun S55 => (if r54 = 0 then (if (S55.2.1 10) = (-1 : Int32) then some ((-1 : Int32), S55) else nm (y1 + (nI 1)) fun x64 => (mX11_next S55).bind fun S65 => rc x64 S65) else (if r54 = (nI 1) then (mX11_readsFiction S55).bind fun ⟨r61, S60⟩ => (if r61 = 0 then some ((-1 : Int32), S60) else nm (y1 + (nI 1)) fun x62 => (mX11_next S60).bind fun S63 => rc x62 S63) else (mX11_readsCourt S55).bind fun ⟨r57, S56⟩ => (if r57 = 0 then some ((-1 : Int32), S56) else nm (y1 + (nI 1)) fun x58 => (mX11_next S56).bind fun S59 => rc x58 S59)))))))))) n
theorem mX11_readItems_L21_s  (n : Nat) (y1 : Int32) (S : MS) : mX11_readItems_L21  (n + 1) y1 S = (if y1 = 0 then (mX11_wordHere S).bind fun r5 => (if r5 = (-1 : Int32) then some ((-1 : Int32), S) else (if r5 = 0 then (if y1 = 0 then (if r5 = 0 then (mX11_facts S).bind fun ⟨r42, S41⟩ => nm (mI S41 10 r42) fun S43 => (if r5 = 0 then (if (S43.2.1 10) = (-1 : Int32) then some ((-1 : Int32), S43) else nm (y1 + (nI 1)) fun x52 => (mX11_next S43).bind fun S53 => (mX11_readItems_L21  n) x52 S53) else (if r5 = (nI 1) then (mX11_readsFiction S43).bind fun ⟨r49, S48⟩ => (if r49 = 0 then some ((-1 : Int32), S48) else nm (y1 + (nI 1)) fun x50 => (mX11_next S48).bind fun S51 => (mX11_readItems_L21  n) x50 S51) else (mX11_readsCourt S43).bind fun ⟨r45, S44⟩ => (if r45 = 0 then some ((-1 : Int32), S44) else nm (y1 + (nI 1)) fun x46 => (mX11_next S44).bind fun S47 => (mX11_readItems_L21  n) x46 S47))) else nm (mI S 10 (S.2.1 10)) fun S30 => (if r5 = 0 then (if (S30.2.1 10) = (-1 : Int32) then some ((-1 : Int32), S30) else nm (y1 + (nI 1)) fun x39 => (mX11_next S30).bind fun S40 => (mX11_readItems_L21  n) x39 S40) else (if r5 = (nI 1) then (mX11_readsFiction S30).bind fun ⟨r36, S35⟩ => (if r36 = 0 then some ((-1 : Int32), S35) else nm (y1 + (nI 1)) fun x37 => (mX11_next S35).bind fun S38 => (mX11_readItems_L21  n) x37 S38) else (mX11_readsCourt S30).bind fun ⟨r32, S31⟩ => (if r32 = 0 then some ((-1 : Int32), S31) else nm (y1 + (nI 1)) fun x33 => (mX11_next S31).bind fun S34 => (mX11_readItems_L21  n) x33 S34)))) else some ((-1 : Int32), S)) else (if y1 = 0 then some ((-1 : Int32), S) else (if r5 = 0 then (mX11_facts S).bind fun ⟨r18, S17⟩ => nm (mI S17 10 r18) fun S19 => (if r5 = 0 then (if (S19.2.1 10) = (-1 : Int32) then some ((-1 : Int32), S19) else nm (y1 + (nI 1)) fun x28 => (mX11_next S19).bind fun S29 => (mX11_readItems_L21  n) x28 S29) else (if r5 = (nI 1) then (mX11_readsFiction S19).bind fun ⟨r25, S24⟩ => (if r25 = 0 then some ((-1 : Int32), S24) else nm (y1 + (nI 1)) fun x26 => (mX11_next S24).bind fun S27 => (mX11_readItems_L21  n) x26 S27) else (mX11_readsCourt S19).bind fun ⟨r21, S20⟩ => (if r21 = 0 then some ((-1 : Int32), S20) else nm (y1 + (nI 1)) fun x22 => (mX11_next S20).bind fun S23 => (mX11_readItems_L21  n) x22 S23))) else nm (mI S 10 (S.2.1 10)) fun S6 => (if r5 = 0 then (if (S6.2.1 10) = (-1 : Int32) then some ((-1 : Int32), S6) else nm (y1 + (nI 1)) fun x15 => (mX11_next S6).bind fun S16 => (mX11_readItems_L21  n) x15 S16) else (if r5 = (nI 1) then (mX11_readsFiction S6).bind fun ⟨r12, S11⟩ => (if r12 = 0 then some ((-1 : Int32), S11) else nm (y1 + (nI 1)) fun x13 => (mX11_next S11).bind fun S14 => (mX11_readItems_L21  n) x13 S14) else (mX11_readsCourt S6).bind fun ⟨r8, S7⟩ => (if r8 = 0 then some ((-1 : Int32), S7) else nm (y1 + (nI 1)) fun x9 => (mX11_next S7).bind fun S10 => (mX11_readItems_L21  n) x9 S10))))))) else (if (S.2.1 6) ≤ (S.2.1 8) then some (y1, S) else (mX11_wordHere S).bind fun r54 => (if r54 = (-1 : Int32) then some ((-1 : Int32), S) else (if r54 = 0 then (if y1 = 0 then (if r54 = 0 then (mX11_facts S).bind fun ⟨r91, S90⟩ => nm (mI S90 10 r91) fun S92 => (if r54 = 0 then (if (S92.2.1 10) = (-1 : Int32) then some ((-1 : Int32), S92) else nm (y1 + (nI 1)) fun x101 => (mX11_next S92).bind fun S102 => (mX11_readItems_L21  n) x101 S102) else (if r54 = (nI 1) then (mX11_readsFiction S92).bind fun ⟨r98, S97⟩ => (if r98 = 0 then some ((-1 : Int32), S97) else nm (y1 + (nI 1)) fun x99 => (mX11_next S97).bind fun S100 => (mX11_readItems_L21  n) x99 S100) else (mX11_readsCourt S92).bind fun ⟨r94, S93⟩ => (if r94 = 0 then some ((-1 : Int32), S93) else nm (y1 + (nI 1)) fun x95 => (mX11_next S93).bind fun S96 => (mX11_readItems_L21  n) x95 S96))) else nm (mI S 10 (S.2.1 10)) fun S79 => (if r54 = 0 then (if (S79.2.1 10) = (-1 : Int32) then some ((-1 : Int32), S79) else nm (y1 + (nI 1)) fun x88 => (mX11_next S79).bind fun S89 => (mX11_readItems_L21  n) x88 S89) else (if r54 = (nI 1) then (mX11_readsFiction S79).bind fun ⟨r85, S84⟩ => (if r85 = 0 then some ((-1 : Int32), S84) else nm (y1 + (nI 1)) fun x86 => (mX11_next S84).bind fun S87 => (mX11_readItems_L21  n) x86 S87) else (mX11_readsCourt S79).bind fun ⟨r81, S80⟩ => (if r81 = 0 then some ((-1 : Int32), S80) else nm (y1 + (nI 1)) fun x82 => (mX11_next S80).bind fun S83 => (mX11_readItems_L21  n) x82 S83)))) else some ((-1 : Int32), S)) else (if y1 = 0 then some ((-1 : Int32), S) else (if r54 = 0 then (mX11_facts S).bind fun ⟨r67, S66⟩ => nm (mI S66 10 r67) fun S68 => (if r54 = 0 then (if (S68.2.1 10) = (-1 : Int32) then some ((-1 : Int32), S68) else nm (y1 + (nI 1)) fun x77 => (mX11_next S68).bind fun S78 => (mX11_readItems_L21  n) x77 S78) else (if r54 = (nI 1) then (mX11_readsFiction S68).bind fun ⟨r74, S73⟩ => (if r74 = 0 then some ((-1 : Int32), S73) else nm (y1 + (nI 1)) fun x75 => (mX11_next S73).bind fun S76 => (mX11_readItems_L21  n) x75 S76) else (mX11_readsCourt S68).bind fun ⟨r70, S69⟩ => (if r70 = 0 then some ((-1 : Int32), S69) else nm (y1 + (nI 1)) fun x71 => (mX11_next S69).bind fun S72 => (mX11_readItems_L21  n) x71 S72))) else nm (mI S 10 (S.2.1 10)) fun S55 => (if r54 = 0 then (if (S55.2.1 10) = (-1 : Int32) then some ((-1 : Int32), S55) else nm (y1 + (nI 1)) fun x64 => (mX11_next S55).bind fun S65 => (mX11_readItems_L21  n) x64 S65) else (if r54 = (nI 1) then (mX11_readsFiction S55).bind fun ⟨r61, S60⟩ => (if r61 = 0 then some ((-1 : Int32), S60) else nm (y1 + (nI 1)) fun x62 => (mX11_next S60).bind fun S63 => (mX11_readItems_L21  n) x62 S63) else (mX11_readsCourt S55).bind fun ⟨r57, S56⟩ => (if r57 = 0 then some ((-1 : Int32), S56) else nm (y1 + (nI 1)) fun x58 => (mX11_next S56).bind fun S59 => (mX11_readItems_L21  n) x58 S59))))))))) := rfl
noncomputable def mX11_readItems (S : MS) : Option (Int32 × MS) := nm (mI S 9 (nI 0)) fun S1 => nm (mI S1 12 (nI 0)) fun S2 => nm (mI S2 14 (nI 0)) fun S3 => (mX11_next S3).bind fun S4 => mX11_readItems_L21 FU (nI 0) S4
set_option maxHeartbeats 4000000 in
set_option maxRecDepth 100000 in
theorem kX11_readItems_L21 {p : Program} {l : Launch} {e : Env} {s : State} {m : MethodId} {below : List Frame} {meth : Method} {c : Code} {D : va_G} {cs : CS} {A : Nat → Prop}  {ad : Nat → Nat}  (E : EV p s m [.ref (ad 22)].toArray meth c cX11_readItems 4 RX11 (some .int) D cs) (hA : ∀ q : Nat, s.heap.size ≤ q → A q) (z : Int32 × MS) : ∀ (n : Nat) (y1 : Int32) (S : MS), mX11_readItems_L21  n y1 S = some z → ∀ (H : Heap) (locs : List Loc), va_P D classes (WM cs ad S) H → va_D A (WM cs ad S) → va_S A s.heap H locs → ∀ ls : Array Slot, lv_has ls 4 [(0, .ref (ad 22)), (1, .int y1)] → W p l e ({ frames := 5, cells := 0, slots := 0, locals := 112 }) s m [.ref (ad 22)].toArray below meth c H locs 0 0 (MQ below (QWi D cs A (fun u => WM cs ad u) z) [.ref (ad 22)].toArray s 0 0 A) (F0 m 21 ls []) := by
  obtain ⟨hx, hb, hr, hml, hown, hlk, hT, hN, hK⟩ := id E
  intro n
  induction n with
  | zero =>
    intro y1 S hm
    exact nomatch (show (none : Option (Int32 × MS)) = some z from hm)
  | succ n ih =>
    intro y1 S hm H locs hP hD hS ls hl
    rw [mX11_readItems_L21_s] at hm
    refine lv_iload_n hx hb dX11_readItems_21 rfl (lv_at hl 1 rfl) ?_
    refine x_if_eq (tgt := 36) hx hb dX11_readItems_22 (by decide) hm (fun hm => ?_) (fun hm => ?_)
    · refine lv_aload_n hx hb dX11_readItems_36 rfl (lv_at hl 0 rfl) ?_
      refine xV_i (As := []) (rest := []) hx hb hml hown hT hN hK hP cw_X11_108 hm (fun z h => tcX11_wordHere l D cs ad S z h) ⟨rfl, rfl⟩ ⟨by decide, by decide⟩ (b := (ad 22)) 0 rfl rfl rfl hl.1 rfl rfl (Nat.le_of_ble_eq_true rfl) dX11_readItems_37 ⟨Nat.zero_le _, Nat.zero_le _⟩ (fun r5 hm => ?_)
      refine lv_istore_n (lv' := [(2, .int r5), (0, .ref (ad 22)), (1, .int y1)]) hx hb dX11_readItems_40 rfl hl (by decide) rfl (fun ls hl => ?_)
      refine lv_iload_n hx hb dX11_readItems_41 rfl (lv_at hl 0 rfl) ?_
      refine lv_iconst (v := (-1 : Int32)) hx hb dX11_readItems_42 (by decide) ?_
      refine x_icmp_eq (tgt := 67) hx hb dX11_readItems_43 (by decide) hm (fun hm => ?_) (fun hm => ?_)
      · refine lv_iconst (v := (-1 : Int32)) hx hb dX11_readItems_67 (by decide) ?_
        exact x_iretW (wf := (fun u => WM cs ad u)) hx hb hr hlk hK hP hD hS hm dX11_readItems_68
      · refine lv_iload_n hx hb dX11_readItems_46 rfl (lv_at hl 0 rfl) ?_
        refine x_if_ne (tgt := 54) hx hb dX11_readItems_47 (by decide) hm (fun hm => ?_) (fun hm => ?_)
        · refine lv_iconst (v := (nI 0)) hx hb dX11_readItems_54 (by decide) ?_
          refine lv_iload_n hx hb dX11_readItems_55 rfl (lv_at hl 2 rfl) ?_
          refine x_if_ne (tgt := 63) hx hb dX11_readItems_56 (by decide) hm (fun hm => ?_) (fun hm => ?_)
          · refine lv_iconst (v := (nI 0)) hx hb dX11_readItems_63 (by decide) ?_
            refine lv_icmp_eq (tgt := 69) hx hb dX11_readItems_64 (by decide) (fun _ => ?_) (fun h => absurd h (by decide))
            refine lv_aload_n hx hb dX11_readItems_69 rfl (lv_at hl 1 rfl) ?_
            refine lv_iload_n hx hb dX11_readItems_70 rfl (lv_at hl 0 rfl) ?_
            refine x_if_ne (tgt := 81) hx hb dX11_readItems_71 (by decide) hm (fun hm => ?_) (fun hm => ?_)
            · refine lv_aload_n hx hb dX11_readItems_81 rfl (lv_at hl 1 rfl) ?_
              refine gf_X11_111 (v := .int (S.2.1 10)) hx hb hT hown hK hP 0 rfl rfl dX11_readItems_82 ?_
              refine pf_X11_111 (wf := (fun u => WM cs ad u)) (u0 := mI S 10 (S.2.1 10)) hx hb hT hown hK hP hD hS 0 rfl (Nat.le_of_ble_eq_true rfl) rfl rfl rfl hm dX11_readItems_85 (fun S6 H locs hm hP hD hS => ?_)
              refine lv_iload_n hx hb dX11_readItems_88 rfl (lv_at hl 0 rfl) ?_
              refine x_if_ne (tgt := 108) hx hb dX11_readItems_89 (by decide) hm (fun hm => ?_) (fun hm => ?_)
              · refine lv_iload_n hx hb dX11_readItems_108 rfl (lv_at hl 0 rfl) ?_
                refine lv_iconst (v := (nI 1)) hx hb dX11_readItems_109 (by decide) ?_
                refine x_icmp_ne (tgt := 120) hx hb dX11_readItems_110 (by decide) hm (fun hm => ?_) (fun hm => ?_)
                · refine lv_aload_n hx hb dX11_readItems_120 rfl (lv_at hl 1 rfl) ?_
                  refine xVW_i (As := []) (rest := []) (wr := []) (wg := (fun u => WM cs ad u)) hx hb hml hown hT hN hK hP hD hS hA cw_X11_118 hm (fun z h => tcX11_readsCourt l D cs ad H.size S6 z h) ⟨rfl, rfl⟩ ⟨by decide, by decide⟩ [0, 1, 2, 3, 4, 5, 6, 7, 8, 9, 10, 11] [] [0, 1, 2, 3, 4, 5, 6, 7, 8, 9, 10, 11] rfl (by decide) rfl (by decide) (by decide) (fun _ => rfl) (by decide) (b := (ad 22)) 0 rfl rfl rfl hl.1 rfl rfl (Nat.le_of_ble_eq_true rfl) dX11_readItems_121 ⟨Nat.zero_le _, Nat.zero_le _⟩ (fun r8 S7 H locs hm hP hD hS => ?_)
                  refine lv_istore_n (lv' := [(3, .int r8), (2, .int r5), (0, .ref (ad 22)), (1, .int y1)]) hx hb dX11_readItems_124 rfl hl (by decide) rfl (fun ls hl => ?_)
                  refine lv_iload_n hx hb dX11_readItems_125 rfl (lv_at hl 0 rfl) ?_
                  refine x_if_ne (tgt := 131) hx hb dX11_readItems_126 (by decide) hm (fun hm => ?_) (fun hm => ?_)
                  · refine x_iinc (lv' := fun x9 => [(1, .int x9), (3, .int r8), (2, .int r5), (0, .ref (ad 22))]) hx hb dX11_readItems_131 hl (k := 3) rfl (by decide) (v0 := (nI 1)) (by decide) (fun _ => rfl) hm (fun x9 ls hm hl => ?_)
                    refine lv_aload_n hx hb dX11_readItems_134 rfl (lv_at hl 3 rfl) ?_
                    refine xVW_v (As := []) (rest := []) (wr := []) (wg := (fun u => WM cs ad u)) hx hb hml hown hT hN hK hP hD hS hA cw_X11_88 hm (fun z h => tcX11_next l D cs ad H.size S7 z h) ⟨rfl, rfl⟩ ⟨by decide, by decide⟩ [0, 1, 2, 3, 4, 5, 6, 7, 8, 9, 10, 11] [] [0, 1, 2, 3, 4, 5, 6, 7, 8, 9, 10, 11] rfl (by decide) rfl (by decide) (by decide) (fun _ => rfl) (by decide) (b := (ad 22)) 0 rfl rfl rfl hl.1 rfl rfl (Nat.le_of_ble_eq_true rfl) dX11_readItems_135 ⟨Nat.zero_le _, Nat.zero_le _⟩ (fun S10 H locs hm hP hD hS => ?_)
                    refine lv_goto (tgt := 21) hx hb dX11_readItems_138 (by decide) ?_
                    exact ih x9 S10 hm H locs hP hD hS ls (lv_sub hl [3, 0] rfl)
                  · refine lv_iconst (v := (-1 : Int32)) hx hb dX11_readItems_129 (by decide) ?_
                    exact x_iretW (wf := (fun u => WM cs ad u)) hx hb hr hlk hK hP hD hS hm dX11_readItems_130
                · refine lv_aload_n hx hb dX11_readItems_113 rfl (lv_at hl 1 rfl) ?_
                  refine xVW_i (As := []) (rest := []) (wr := []) (wg := (fun u => WM cs ad u)) hx hb hml hown hT hN hK hP hD hS hA cw_X11_114 hm (fun z h => tcX11_readsFiction l D cs ad H.size S6 z h) ⟨rfl, rfl⟩ ⟨by decide, by decide⟩ [0, 1, 2, 3, 4, 5, 6, 7, 8, 9, 10, 11] [] [0, 1, 2, 3, 4, 5, 6, 7, 8, 9, 10, 11] rfl (by decide) rfl (by decide) (by decide) (fun _ => rfl) (by decide) (b := (ad 22)) 0 rfl rfl rfl hl.1 rfl rfl (Nat.le_of_ble_eq_true rfl) dX11_readItems_114 ⟨Nat.zero_le _, Nat.zero_le _⟩ (fun r12 S11 H locs hm hP hD hS => ?_)
                  refine lv_goto (tgt := 124) hx hb dX11_readItems_117 (by decide) ?_
                  refine lv_istore_n (lv' := [(3, .int r12), (2, .int r5), (0, .ref (ad 22)), (1, .int y1)]) hx hb dX11_readItems_124 rfl hl (by decide) rfl (fun ls hl => ?_)
                  refine lv_iload_n hx hb dX11_readItems_125 rfl (lv_at hl 0 rfl) ?_
                  refine x_if_ne (tgt := 131) hx hb dX11_readItems_126 (by decide) hm (fun hm => ?_) (fun hm => ?_)
                  · refine x_iinc (lv' := fun x13 => [(1, .int x13), (3, .int r12), (2, .int r5), (0, .ref (ad 22))]) hx hb dX11_readItems_131 hl (k := 3) rfl (by decide) (v0 := (nI 1)) (by decide) (fun _ => rfl) hm (fun x13 ls hm hl => ?_)
                    refine lv_aload_n hx hb dX11_readItems_134 rfl (lv_at hl 3 rfl) ?_
                    refine xVW_v (As := []) (rest := []) (wr := []) (wg := (fun u => WM cs ad u)) hx hb hml hown hT hN hK hP hD hS hA cw_X11_88 hm (fun z h => tcX11_next l D cs ad H.size S11 z h) ⟨rfl, rfl⟩ ⟨by decide, by decide⟩ [0, 1, 2, 3, 4, 5, 6, 7, 8, 9, 10, 11] [] [0, 1, 2, 3, 4, 5, 6, 7, 8, 9, 10, 11] rfl (by decide) rfl (by decide) (by decide) (fun _ => rfl) (by decide) (b := (ad 22)) 0 rfl rfl rfl hl.1 rfl rfl (Nat.le_of_ble_eq_true rfl) dX11_readItems_135 ⟨Nat.zero_le _, Nat.zero_le _⟩ (fun S14 H locs hm hP hD hS => ?_)
                    refine lv_goto (tgt := 21) hx hb dX11_readItems_138 (by decide) ?_
                    exact ih x13 S14 hm H locs hP hD hS ls (lv_sub hl [3, 0] rfl)
                  · refine lv_iconst (v := (-1 : Int32)) hx hb dX11_readItems_129 (by decide) ?_
                    exact x_iretW (wf := (fun u => WM cs ad u)) hx hb hr hlk hK hP hD hS hm dX11_readItems_130
              · refine lv_aload_n hx hb dX11_readItems_92 rfl (lv_at hl 1 rfl) ?_
                refine gf_X11_111 (v := .int (S6.2.1 10)) hx hb hT hown hK hP 0 rfl rfl dX11_readItems_93 ?_
                refine lv_iconst (v := (-1 : Int32)) hx hb dX11_readItems_96 (by decide) ?_
                refine x_icmp_eq (tgt := 104) hx hb dX11_readItems_97 (by decide) hm (fun hm => ?_) (fun hm => ?_)
                · refine lv_iconst (v := (nI 0)) hx hb dX11_readItems_104 (by decide) ?_
                  refine lv_goto (tgt := 124) hx hb dX11_readItems_105 (by decide) ?_
                  refine lv_istore_n (lv' := [(3, .int (nI 0)), (2, .int r5), (0, .ref (ad 22)), (1, .int y1)]) hx hb dX11_readItems_124 rfl hl (by decide) rfl (fun ls hl => ?_)
                  refine lv_iload_n hx hb dX11_readItems_125 rfl (lv_at hl 0 rfl) ?_
                  refine lv_if_ne (tgt := 131) hx hb dX11_readItems_126 (by decide) (fun h => absurd h (by decide)) (fun _ => ?_)
                  refine lv_iconst (v := (-1 : Int32)) hx hb dX11_readItems_129 (by decide) ?_
                  exact x_iretW (wf := (fun u => WM cs ad u)) hx hb hr hlk hK hP hD hS hm dX11_readItems_130
                · refine lv_iconst (v := (nI 1)) hx hb dX11_readItems_100 (by decide) ?_
                  refine lv_goto (tgt := 124) hx hb dX11_readItems_101 (by decide) ?_
                  refine lv_istore_n (lv' := [(3, .int (nI 1)), (2, .int r5), (0, .ref (ad 22)), (1, .int y1)]) hx hb dX11_readItems_124 rfl hl (by decide) rfl (fun ls hl => ?_)
                  refine lv_iload_n hx hb dX11_readItems_125 rfl (lv_at hl 0 rfl) ?_
                  refine lv_if_ne (tgt := 131) hx hb dX11_readItems_126 (by decide) (fun _ => ?_) (fun h => absurd h (by decide))
                  refine x_iinc (lv' := fun x15 => [(1, .int x15), (3, .int (nI 1)), (2, .int r5), (0, .ref (ad 22))]) hx hb dX11_readItems_131 hl (k := 3) rfl (by decide) (v0 := (nI 1)) (by decide) (fun _ => rfl) hm (fun x15 ls hm hl => ?_)
                  refine lv_aload_n hx hb dX11_readItems_134 rfl (lv_at hl 3 rfl) ?_
                  refine xVW_v (As := []) (rest := []) (wr := []) (wg := (fun u => WM cs ad u)) hx hb hml hown hT hN hK hP hD hS hA cw_X11_88 hm (fun z h => tcX11_next l D cs ad H.size S6 z h) ⟨rfl, rfl⟩ ⟨by decide, by decide⟩ [0, 1, 2, 3, 4, 5, 6, 7, 8, 9, 10, 11] [] [0, 1, 2, 3, 4, 5, 6, 7, 8, 9, 10, 11] rfl (by decide) rfl (by decide) (by decide) (fun _ => rfl) (by decide) (b := (ad 22)) 0 rfl rfl rfl hl.1 rfl rfl (Nat.le_of_ble_eq_true rfl) dX11_readItems_135 ⟨Nat.zero_le _, Nat.zero_le _⟩ (fun S16 H locs hm hP hD hS => ?_)
                  refine lv_goto (tgt := 21) hx hb dX11_readItems_138 (by decide) ?_
                  exact ih x15 S16 hm H locs hP hD hS ls (lv_sub hl [3, 0] rfl)
            · refine lv_aload_n hx hb dX11_readItems_74 rfl (lv_at hl 1 rfl) ?_
              refine xVW_i (As := []) (rest := [.ref (ad 22)]) (wr := []) (wg := (fun u => WM cs ad u)) hx hb hml hown hT hN hK hP hD hS hA cw_X11_101 hm (fun z h => tcX11_facts l D cs ad H.size S z h) ⟨rfl, rfl⟩ ⟨by decide, by decide⟩ [0, 1, 2, 3, 4, 5, 6, 7, 8, 9, 10, 11] [] [0, 1, 2, 3, 4, 5, 6, 7, 8, 9, 10, 11] rfl (by decide) rfl (by decide) (by decide) (fun _ => rfl) (by decide) (b := (ad 22)) 0 rfl rfl rfl hl.1 rfl rfl (Nat.le_of_ble_eq_true rfl) dX11_readItems_75 ⟨Nat.zero_le _, Nat.zero_le _⟩ (fun r18 S17 H locs hm hP hD hS => ?_)
              refine lv_goto (tgt := 85) hx hb dX11_readItems_78 (by decide) ?_
              refine pf_X11_111 (wf := (fun u => WM cs ad u)) (u0 := mI S17 10 r18) hx hb hT hown hK hP hD hS 0 rfl (Nat.le_of_ble_eq_true rfl) rfl rfl rfl hm dX11_readItems_85 (fun S19 H locs hm hP hD hS => ?_)
              refine lv_iload_n hx hb dX11_readItems_88 rfl (lv_at hl 0 rfl) ?_
              refine x_if_ne (tgt := 108) hx hb dX11_readItems_89 (by decide) hm (fun hm => ?_) (fun hm => ?_)
              · refine lv_iload_n hx hb dX11_readItems_108 rfl (lv_at hl 0 rfl) ?_
                refine lv_iconst (v := (nI 1)) hx hb dX11_readItems_109 (by decide) ?_
                refine x_icmp_ne (tgt := 120) hx hb dX11_readItems_110 (by decide) hm (fun hm => ?_) (fun hm => ?_)
                · refine lv_aload_n hx hb dX11_readItems_120 rfl (lv_at hl 1 rfl) ?_
                  refine xVW_i (As := []) (rest := []) (wr := []) (wg := (fun u => WM cs ad u)) hx hb hml hown hT hN hK hP hD hS hA cw_X11_118 hm (fun z h => tcX11_readsCourt l D cs ad H.size S19 z h) ⟨rfl, rfl⟩ ⟨by decide, by decide⟩ [0, 1, 2, 3, 4, 5, 6, 7, 8, 9, 10, 11] [] [0, 1, 2, 3, 4, 5, 6, 7, 8, 9, 10, 11] rfl (by decide) rfl (by decide) (by decide) (fun _ => rfl) (by decide) (b := (ad 22)) 0 rfl rfl rfl hl.1 rfl rfl (Nat.le_of_ble_eq_true rfl) dX11_readItems_121 ⟨Nat.zero_le _, Nat.zero_le _⟩ (fun r21 S20 H locs hm hP hD hS => ?_)
                  refine lv_istore_n (lv' := [(3, .int r21), (2, .int r5), (0, .ref (ad 22)), (1, .int y1)]) hx hb dX11_readItems_124 rfl hl (by decide) rfl (fun ls hl => ?_)
                  refine lv_iload_n hx hb dX11_readItems_125 rfl (lv_at hl 0 rfl) ?_
                  refine x_if_ne (tgt := 131) hx hb dX11_readItems_126 (by decide) hm (fun hm => ?_) (fun hm => ?_)
                  · refine x_iinc (lv' := fun x22 => [(1, .int x22), (3, .int r21), (2, .int r5), (0, .ref (ad 22))]) hx hb dX11_readItems_131 hl (k := 3) rfl (by decide) (v0 := (nI 1)) (by decide) (fun _ => rfl) hm (fun x22 ls hm hl => ?_)
                    refine lv_aload_n hx hb dX11_readItems_134 rfl (lv_at hl 3 rfl) ?_
                    refine xVW_v (As := []) (rest := []) (wr := []) (wg := (fun u => WM cs ad u)) hx hb hml hown hT hN hK hP hD hS hA cw_X11_88 hm (fun z h => tcX11_next l D cs ad H.size S20 z h) ⟨rfl, rfl⟩ ⟨by decide, by decide⟩ [0, 1, 2, 3, 4, 5, 6, 7, 8, 9, 10, 11] [] [0, 1, 2, 3, 4, 5, 6, 7, 8, 9, 10, 11] rfl (by decide) rfl (by decide) (by decide) (fun _ => rfl) (by decide) (b := (ad 22)) 0 rfl rfl rfl hl.1 rfl rfl (Nat.le_of_ble_eq_true rfl) dX11_readItems_135 ⟨Nat.zero_le _, Nat.zero_le _⟩ (fun S23 H locs hm hP hD hS => ?_)
                    refine lv_goto (tgt := 21) hx hb dX11_readItems_138 (by decide) ?_
                    exact ih x22 S23 hm H locs hP hD hS ls (lv_sub hl [3, 0] rfl)
                  · refine lv_iconst (v := (-1 : Int32)) hx hb dX11_readItems_129 (by decide) ?_
                    exact x_iretW (wf := (fun u => WM cs ad u)) hx hb hr hlk hK hP hD hS hm dX11_readItems_130
                · refine lv_aload_n hx hb dX11_readItems_113 rfl (lv_at hl 1 rfl) ?_
                  refine xVW_i (As := []) (rest := []) (wr := []) (wg := (fun u => WM cs ad u)) hx hb hml hown hT hN hK hP hD hS hA cw_X11_114 hm (fun z h => tcX11_readsFiction l D cs ad H.size S19 z h) ⟨rfl, rfl⟩ ⟨by decide, by decide⟩ [0, 1, 2, 3, 4, 5, 6, 7, 8, 9, 10, 11] [] [0, 1, 2, 3, 4, 5, 6, 7, 8, 9, 10, 11] rfl (by decide) rfl (by decide) (by decide) (fun _ => rfl) (by decide) (b := (ad 22)) 0 rfl rfl rfl hl.1 rfl rfl (Nat.le_of_ble_eq_true rfl) dX11_readItems_114 ⟨Nat.zero_le _, Nat.zero_le _⟩ (fun r25 S24 H locs hm hP hD hS => ?_)
                  refine lv_goto (tgt := 124) hx hb dX11_readItems_117 (by decide) ?_
                  refine lv_istore_n (lv' := [(3, .int r25), (2, .int r5), (0, .ref (ad 22)), (1, .int y1)]) hx hb dX11_readItems_124 rfl hl (by decide) rfl (fun ls hl => ?_)
                  refine lv_iload_n hx hb dX11_readItems_125 rfl (lv_at hl 0 rfl) ?_
                  refine x_if_ne (tgt := 131) hx hb dX11_readItems_126 (by decide) hm (fun hm => ?_) (fun hm => ?_)
                  · refine x_iinc (lv' := fun x26 => [(1, .int x26), (3, .int r25), (2, .int r5), (0, .ref (ad 22))]) hx hb dX11_readItems_131 hl (k := 3) rfl (by decide) (v0 := (nI 1)) (by decide) (fun _ => rfl) hm (fun x26 ls hm hl => ?_)
                    refine lv_aload_n hx hb dX11_readItems_134 rfl (lv_at hl 3 rfl) ?_
                    refine xVW_v (As := []) (rest := []) (wr := []) (wg := (fun u => WM cs ad u)) hx hb hml hown hT hN hK hP hD hS hA cw_X11_88 hm (fun z h => tcX11_next l D cs ad H.size S24 z h) ⟨rfl, rfl⟩ ⟨by decide, by decide⟩ [0, 1, 2, 3, 4, 5, 6, 7, 8, 9, 10, 11] [] [0, 1, 2, 3, 4, 5, 6, 7, 8, 9, 10, 11] rfl (by decide) rfl (by decide) (by decide) (fun _ => rfl) (by decide) (b := (ad 22)) 0 rfl rfl rfl hl.1 rfl rfl (Nat.le_of_ble_eq_true rfl) dX11_readItems_135 ⟨Nat.zero_le _, Nat.zero_le _⟩ (fun S27 H locs hm hP hD hS => ?_)
                    refine lv_goto (tgt := 21) hx hb dX11_readItems_138 (by decide) ?_
                    exact ih x26 S27 hm H locs hP hD hS ls (lv_sub hl [3, 0] rfl)
                  · refine lv_iconst (v := (-1 : Int32)) hx hb dX11_readItems_129 (by decide) ?_
                    exact x_iretW (wf := (fun u => WM cs ad u)) hx hb hr hlk hK hP hD hS hm dX11_readItems_130
              · refine lv_aload_n hx hb dX11_readItems_92 rfl (lv_at hl 1 rfl) ?_
                refine gf_X11_111 (v := .int (S19.2.1 10)) hx hb hT hown hK hP 0 rfl rfl dX11_readItems_93 ?_
                refine lv_iconst (v := (-1 : Int32)) hx hb dX11_readItems_96 (by decide) ?_
                refine x_icmp_eq (tgt := 104) hx hb dX11_readItems_97 (by decide) hm (fun hm => ?_) (fun hm => ?_)
                · refine lv_iconst (v := (nI 0)) hx hb dX11_readItems_104 (by decide) ?_
                  refine lv_goto (tgt := 124) hx hb dX11_readItems_105 (by decide) ?_
                  refine lv_istore_n (lv' := [(3, .int (nI 0)), (2, .int r5), (0, .ref (ad 22)), (1, .int y1)]) hx hb dX11_readItems_124 rfl hl (by decide) rfl (fun ls hl => ?_)
                  refine lv_iload_n hx hb dX11_readItems_125 rfl (lv_at hl 0 rfl) ?_
                  refine lv_if_ne (tgt := 131) hx hb dX11_readItems_126 (by decide) (fun h => absurd h (by decide)) (fun _ => ?_)
                  refine lv_iconst (v := (-1 : Int32)) hx hb dX11_readItems_129 (by decide) ?_
                  exact x_iretW (wf := (fun u => WM cs ad u)) hx hb hr hlk hK hP hD hS hm dX11_readItems_130
                · refine lv_iconst (v := (nI 1)) hx hb dX11_readItems_100 (by decide) ?_
                  refine lv_goto (tgt := 124) hx hb dX11_readItems_101 (by decide) ?_
                  refine lv_istore_n (lv' := [(3, .int (nI 1)), (2, .int r5), (0, .ref (ad 22)), (1, .int y1)]) hx hb dX11_readItems_124 rfl hl (by decide) rfl (fun ls hl => ?_)
                  refine lv_iload_n hx hb dX11_readItems_125 rfl (lv_at hl 0 rfl) ?_
                  refine lv_if_ne (tgt := 131) hx hb dX11_readItems_126 (by decide) (fun _ => ?_) (fun h => absurd h (by decide))
                  refine x_iinc (lv' := fun x28 => [(1, .int x28), (3, .int (nI 1)), (2, .int r5), (0, .ref (ad 22))]) hx hb dX11_readItems_131 hl (k := 3) rfl (by decide) (v0 := (nI 1)) (by decide) (fun _ => rfl) hm (fun x28 ls hm hl => ?_)
                  refine lv_aload_n hx hb dX11_readItems_134 rfl (lv_at hl 3 rfl) ?_
                  refine xVW_v (As := []) (rest := []) (wr := []) (wg := (fun u => WM cs ad u)) hx hb hml hown hT hN hK hP hD hS hA cw_X11_88 hm (fun z h => tcX11_next l D cs ad H.size S19 z h) ⟨rfl, rfl⟩ ⟨by decide, by decide⟩ [0, 1, 2, 3, 4, 5, 6, 7, 8, 9, 10, 11] [] [0, 1, 2, 3, 4, 5, 6, 7, 8, 9, 10, 11] rfl (by decide) rfl (by decide) (by decide) (fun _ => rfl) (by decide) (b := (ad 22)) 0 rfl rfl rfl hl.1 rfl rfl (Nat.le_of_ble_eq_true rfl) dX11_readItems_135 ⟨Nat.zero_le _, Nat.zero_le _⟩ (fun S29 H locs hm hP hD hS => ?_)
                  refine lv_goto (tgt := 21) hx hb dX11_readItems_138 (by decide) ?_
                  exact ih x28 S29 hm H locs hP hD hS ls (lv_sub hl [3, 0] rfl)
          · refine lv_iconst (v := (nI 1)) hx hb dX11_readItems_59 (by decide) ?_
            refine lv_goto (tgt := 64) hx hb dX11_readItems_60 (by decide) ?_
            refine lv_icmp_eq (tgt := 69) hx hb dX11_readItems_64 (by decide) (fun h => absurd h (by decide)) (fun _ => ?_)
            refine lv_iconst (v := (-1 : Int32)) hx hb dX11_readItems_67 (by decide) ?_
            exact x_iretW (wf := (fun u => WM cs ad u)) hx hb hr hlk hK hP hD hS hm dX11_readItems_68
        · refine lv_iconst (v := (nI 1)) hx hb dX11_readItems_50 (by decide) ?_
          refine lv_goto (tgt := 55) hx hb dX11_readItems_51 (by decide) ?_
          refine lv_iload_n hx hb dX11_readItems_55 rfl (lv_at hl 2 rfl) ?_
          refine x_if_ne (tgt := 63) hx hb dX11_readItems_56 (by decide) hm (fun hm => ?_) (fun hm => ?_)
          · refine lv_iconst (v := (nI 0)) hx hb dX11_readItems_63 (by decide) ?_
            refine lv_icmp_eq (tgt := 69) hx hb dX11_readItems_64 (by decide) (fun h => absurd h (by decide)) (fun _ => ?_)
            refine lv_iconst (v := (-1 : Int32)) hx hb dX11_readItems_67 (by decide) ?_
            exact x_iretW (wf := (fun u => WM cs ad u)) hx hb hr hlk hK hP hD hS hm dX11_readItems_68
          · refine lv_iconst (v := (nI 1)) hx hb dX11_readItems_59 (by decide) ?_
            refine lv_goto (tgt := 64) hx hb dX11_readItems_60 (by decide) ?_
            refine lv_icmp_eq (tgt := 69) hx hb dX11_readItems_64 (by decide) (fun _ => ?_) (fun h => absurd h (by decide))
            refine lv_aload_n hx hb dX11_readItems_69 rfl (lv_at hl 1 rfl) ?_
            refine lv_iload_n hx hb dX11_readItems_70 rfl (lv_at hl 0 rfl) ?_
            refine x_if_ne (tgt := 81) hx hb dX11_readItems_71 (by decide) hm (fun hm => ?_) (fun hm => ?_)
            · refine lv_aload_n hx hb dX11_readItems_81 rfl (lv_at hl 1 rfl) ?_
              refine gf_X11_111 (v := .int (S.2.1 10)) hx hb hT hown hK hP 0 rfl rfl dX11_readItems_82 ?_
              refine pf_X11_111 (wf := (fun u => WM cs ad u)) (u0 := mI S 10 (S.2.1 10)) hx hb hT hown hK hP hD hS 0 rfl (Nat.le_of_ble_eq_true rfl) rfl rfl rfl hm dX11_readItems_85 (fun S30 H locs hm hP hD hS => ?_)
              refine lv_iload_n hx hb dX11_readItems_88 rfl (lv_at hl 0 rfl) ?_
              refine x_if_ne (tgt := 108) hx hb dX11_readItems_89 (by decide) hm (fun hm => ?_) (fun hm => ?_)
              · refine lv_iload_n hx hb dX11_readItems_108 rfl (lv_at hl 0 rfl) ?_
                refine lv_iconst (v := (nI 1)) hx hb dX11_readItems_109 (by decide) ?_
                refine x_icmp_ne (tgt := 120) hx hb dX11_readItems_110 (by decide) hm (fun hm => ?_) (fun hm => ?_)
                · refine lv_aload_n hx hb dX11_readItems_120 rfl (lv_at hl 1 rfl) ?_
                  refine xVW_i (As := []) (rest := []) (wr := []) (wg := (fun u => WM cs ad u)) hx hb hml hown hT hN hK hP hD hS hA cw_X11_118 hm (fun z h => tcX11_readsCourt l D cs ad H.size S30 z h) ⟨rfl, rfl⟩ ⟨by decide, by decide⟩ [0, 1, 2, 3, 4, 5, 6, 7, 8, 9, 10, 11] [] [0, 1, 2, 3, 4, 5, 6, 7, 8, 9, 10, 11] rfl (by decide) rfl (by decide) (by decide) (fun _ => rfl) (by decide) (b := (ad 22)) 0 rfl rfl rfl hl.1 rfl rfl (Nat.le_of_ble_eq_true rfl) dX11_readItems_121 ⟨Nat.zero_le _, Nat.zero_le _⟩ (fun r32 S31 H locs hm hP hD hS => ?_)
                  refine lv_istore_n (lv' := [(3, .int r32), (2, .int r5), (0, .ref (ad 22)), (1, .int y1)]) hx hb dX11_readItems_124 rfl hl (by decide) rfl (fun ls hl => ?_)
                  refine lv_iload_n hx hb dX11_readItems_125 rfl (lv_at hl 0 rfl) ?_
                  refine x_if_ne (tgt := 131) hx hb dX11_readItems_126 (by decide) hm (fun hm => ?_) (fun hm => ?_)
                  · refine x_iinc (lv' := fun x33 => [(1, .int x33), (3, .int r32), (2, .int r5), (0, .ref (ad 22))]) hx hb dX11_readItems_131 hl (k := 3) rfl (by decide) (v0 := (nI 1)) (by decide) (fun _ => rfl) hm (fun x33 ls hm hl => ?_)
                    refine lv_aload_n hx hb dX11_readItems_134 rfl (lv_at hl 3 rfl) ?_
                    refine xVW_v (As := []) (rest := []) (wr := []) (wg := (fun u => WM cs ad u)) hx hb hml hown hT hN hK hP hD hS hA cw_X11_88 hm (fun z h => tcX11_next l D cs ad H.size S31 z h) ⟨rfl, rfl⟩ ⟨by decide, by decide⟩ [0, 1, 2, 3, 4, 5, 6, 7, 8, 9, 10, 11] [] [0, 1, 2, 3, 4, 5, 6, 7, 8, 9, 10, 11] rfl (by decide) rfl (by decide) (by decide) (fun _ => rfl) (by decide) (b := (ad 22)) 0 rfl rfl rfl hl.1 rfl rfl (Nat.le_of_ble_eq_true rfl) dX11_readItems_135 ⟨Nat.zero_le _, Nat.zero_le _⟩ (fun S34 H locs hm hP hD hS => ?_)
                    refine lv_goto (tgt := 21) hx hb dX11_readItems_138 (by decide) ?_
                    exact ih x33 S34 hm H locs hP hD hS ls (lv_sub hl [3, 0] rfl)
                  · refine lv_iconst (v := (-1 : Int32)) hx hb dX11_readItems_129 (by decide) ?_
                    exact x_iretW (wf := (fun u => WM cs ad u)) hx hb hr hlk hK hP hD hS hm dX11_readItems_130
                · refine lv_aload_n hx hb dX11_readItems_113 rfl (lv_at hl 1 rfl) ?_
                  refine xVW_i (As := []) (rest := []) (wr := []) (wg := (fun u => WM cs ad u)) hx hb hml hown hT hN hK hP hD hS hA cw_X11_114 hm (fun z h => tcX11_readsFiction l D cs ad H.size S30 z h) ⟨rfl, rfl⟩ ⟨by decide, by decide⟩ [0, 1, 2, 3, 4, 5, 6, 7, 8, 9, 10, 11] [] [0, 1, 2, 3, 4, 5, 6, 7, 8, 9, 10, 11] rfl (by decide) rfl (by decide) (by decide) (fun _ => rfl) (by decide) (b := (ad 22)) 0 rfl rfl rfl hl.1 rfl rfl (Nat.le_of_ble_eq_true rfl) dX11_readItems_114 ⟨Nat.zero_le _, Nat.zero_le _⟩ (fun r36 S35 H locs hm hP hD hS => ?_)
                  refine lv_goto (tgt := 124) hx hb dX11_readItems_117 (by decide) ?_
                  refine lv_istore_n (lv' := [(3, .int r36), (2, .int r5), (0, .ref (ad 22)), (1, .int y1)]) hx hb dX11_readItems_124 rfl hl (by decide) rfl (fun ls hl => ?_)
                  refine lv_iload_n hx hb dX11_readItems_125 rfl (lv_at hl 0 rfl) ?_
                  refine x_if_ne (tgt := 131) hx hb dX11_readItems_126 (by decide) hm (fun hm => ?_) (fun hm => ?_)
                  · refine x_iinc (lv' := fun x37 => [(1, .int x37), (3, .int r36), (2, .int r5), (0, .ref (ad 22))]) hx hb dX11_readItems_131 hl (k := 3) rfl (by decide) (v0 := (nI 1)) (by decide) (fun _ => rfl) hm (fun x37 ls hm hl => ?_)
                    refine lv_aload_n hx hb dX11_readItems_134 rfl (lv_at hl 3 rfl) ?_
                    refine xVW_v (As := []) (rest := []) (wr := []) (wg := (fun u => WM cs ad u)) hx hb hml hown hT hN hK hP hD hS hA cw_X11_88 hm (fun z h => tcX11_next l D cs ad H.size S35 z h) ⟨rfl, rfl⟩ ⟨by decide, by decide⟩ [0, 1, 2, 3, 4, 5, 6, 7, 8, 9, 10, 11] [] [0, 1, 2, 3, 4, 5, 6, 7, 8, 9, 10, 11] rfl (by decide) rfl (by decide) (by decide) (fun _ => rfl) (by decide) (b := (ad 22)) 0 rfl rfl rfl hl.1 rfl rfl (Nat.le_of_ble_eq_true rfl) dX11_readItems_135 ⟨Nat.zero_le _, Nat.zero_le _⟩ (fun S38 H locs hm hP hD hS => ?_)
                    refine lv_goto (tgt := 21) hx hb dX11_readItems_138 (by decide) ?_
                    exact ih x37 S38 hm H locs hP hD hS ls (lv_sub hl [3, 0] rfl)
                  · refine lv_iconst (v := (-1 : Int32)) hx hb dX11_readItems_129 (by decide) ?_
                    exact x_iretW (wf := (fun u => WM cs ad u)) hx hb hr hlk hK hP hD hS hm dX11_readItems_130
              · refine lv_aload_n hx hb dX11_readItems_92 rfl (lv_at hl 1 rfl) ?_
                refine gf_X11_111 (v := .int (S30.2.1 10)) hx hb hT hown hK hP 0 rfl rfl dX11_readItems_93 ?_
                refine lv_iconst (v := (-1 : Int32)) hx hb dX11_readItems_96 (by decide) ?_
                refine x_icmp_eq (tgt := 104) hx hb dX11_readItems_97 (by decide) hm (fun hm => ?_) (fun hm => ?_)
                · refine lv_iconst (v := (nI 0)) hx hb dX11_readItems_104 (by decide) ?_
                  refine lv_goto (tgt := 124) hx hb dX11_readItems_105 (by decide) ?_
                  refine lv_istore_n (lv' := [(3, .int (nI 0)), (2, .int r5), (0, .ref (ad 22)), (1, .int y1)]) hx hb dX11_readItems_124 rfl hl (by decide) rfl (fun ls hl => ?_)
                  refine lv_iload_n hx hb dX11_readItems_125 rfl (lv_at hl 0 rfl) ?_
                  refine lv_if_ne (tgt := 131) hx hb dX11_readItems_126 (by decide) (fun h => absurd h (by decide)) (fun _ => ?_)
                  refine lv_iconst (v := (-1 : Int32)) hx hb dX11_readItems_129 (by decide) ?_
                  exact x_iretW (wf := (fun u => WM cs ad u)) hx hb hr hlk hK hP hD hS hm dX11_readItems_130
                · refine lv_iconst (v := (nI 1)) hx hb dX11_readItems_100 (by decide) ?_
                  refine lv_goto (tgt := 124) hx hb dX11_readItems_101 (by decide) ?_
                  refine lv_istore_n (lv' := [(3, .int (nI 1)), (2, .int r5), (0, .ref (ad 22)), (1, .int y1)]) hx hb dX11_readItems_124 rfl hl (by decide) rfl (fun ls hl => ?_)
                  refine lv_iload_n hx hb dX11_readItems_125 rfl (lv_at hl 0 rfl) ?_
                  refine lv_if_ne (tgt := 131) hx hb dX11_readItems_126 (by decide) (fun _ => ?_) (fun h => absurd h (by decide))
                  refine x_iinc (lv' := fun x39 => [(1, .int x39), (3, .int (nI 1)), (2, .int r5), (0, .ref (ad 22))]) hx hb dX11_readItems_131 hl (k := 3) rfl (by decide) (v0 := (nI 1)) (by decide) (fun _ => rfl) hm (fun x39 ls hm hl => ?_)
                  refine lv_aload_n hx hb dX11_readItems_134 rfl (lv_at hl 3 rfl) ?_
                  refine xVW_v (As := []) (rest := []) (wr := []) (wg := (fun u => WM cs ad u)) hx hb hml hown hT hN hK hP hD hS hA cw_X11_88 hm (fun z h => tcX11_next l D cs ad H.size S30 z h) ⟨rfl, rfl⟩ ⟨by decide, by decide⟩ [0, 1, 2, 3, 4, 5, 6, 7, 8, 9, 10, 11] [] [0, 1, 2, 3, 4, 5, 6, 7, 8, 9, 10, 11] rfl (by decide) rfl (by decide) (by decide) (fun _ => rfl) (by decide) (b := (ad 22)) 0 rfl rfl rfl hl.1 rfl rfl (Nat.le_of_ble_eq_true rfl) dX11_readItems_135 ⟨Nat.zero_le _, Nat.zero_le _⟩ (fun S40 H locs hm hP hD hS => ?_)
                  refine lv_goto (tgt := 21) hx hb dX11_readItems_138 (by decide) ?_
                  exact ih x39 S40 hm H locs hP hD hS ls (lv_sub hl [3, 0] rfl)
            · refine lv_aload_n hx hb dX11_readItems_74 rfl (lv_at hl 1 rfl) ?_
              refine xVW_i (As := []) (rest := [.ref (ad 22)]) (wr := []) (wg := (fun u => WM cs ad u)) hx hb hml hown hT hN hK hP hD hS hA cw_X11_101 hm (fun z h => tcX11_facts l D cs ad H.size S z h) ⟨rfl, rfl⟩ ⟨by decide, by decide⟩ [0, 1, 2, 3, 4, 5, 6, 7, 8, 9, 10, 11] [] [0, 1, 2, 3, 4, 5, 6, 7, 8, 9, 10, 11] rfl (by decide) rfl (by decide) (by decide) (fun _ => rfl) (by decide) (b := (ad 22)) 0 rfl rfl rfl hl.1 rfl rfl (Nat.le_of_ble_eq_true rfl) dX11_readItems_75 ⟨Nat.zero_le _, Nat.zero_le _⟩ (fun r42 S41 H locs hm hP hD hS => ?_)
              refine lv_goto (tgt := 85) hx hb dX11_readItems_78 (by decide) ?_
              refine pf_X11_111 (wf := (fun u => WM cs ad u)) (u0 := mI S41 10 r42) hx hb hT hown hK hP hD hS 0 rfl (Nat.le_of_ble_eq_true rfl) rfl rfl rfl hm dX11_readItems_85 (fun S43 H locs hm hP hD hS => ?_)
              refine lv_iload_n hx hb dX11_readItems_88 rfl (lv_at hl 0 rfl) ?_
              refine x_if_ne (tgt := 108) hx hb dX11_readItems_89 (by decide) hm (fun hm => ?_) (fun hm => ?_)
              · refine lv_iload_n hx hb dX11_readItems_108 rfl (lv_at hl 0 rfl) ?_
                refine lv_iconst (v := (nI 1)) hx hb dX11_readItems_109 (by decide) ?_
                refine x_icmp_ne (tgt := 120) hx hb dX11_readItems_110 (by decide) hm (fun hm => ?_) (fun hm => ?_)
                · refine lv_aload_n hx hb dX11_readItems_120 rfl (lv_at hl 1 rfl) ?_
                  refine xVW_i (As := []) (rest := []) (wr := []) (wg := (fun u => WM cs ad u)) hx hb hml hown hT hN hK hP hD hS hA cw_X11_118 hm (fun z h => tcX11_readsCourt l D cs ad H.size S43 z h) ⟨rfl, rfl⟩ ⟨by decide, by decide⟩ [0, 1, 2, 3, 4, 5, 6, 7, 8, 9, 10, 11] [] [0, 1, 2, 3, 4, 5, 6, 7, 8, 9, 10, 11] rfl (by decide) rfl (by decide) (by decide) (fun _ => rfl) (by decide) (b := (ad 22)) 0 rfl rfl rfl hl.1 rfl rfl (Nat.le_of_ble_eq_true rfl) dX11_readItems_121 ⟨Nat.zero_le _, Nat.zero_le _⟩ (fun r45 S44 H locs hm hP hD hS => ?_)
                  refine lv_istore_n (lv' := [(3, .int r45), (2, .int r5), (0, .ref (ad 22)), (1, .int y1)]) hx hb dX11_readItems_124 rfl hl (by decide) rfl (fun ls hl => ?_)
                  refine lv_iload_n hx hb dX11_readItems_125 rfl (lv_at hl 0 rfl) ?_
                  refine x_if_ne (tgt := 131) hx hb dX11_readItems_126 (by decide) hm (fun hm => ?_) (fun hm => ?_)
                  · refine x_iinc (lv' := fun x46 => [(1, .int x46), (3, .int r45), (2, .int r5), (0, .ref (ad 22))]) hx hb dX11_readItems_131 hl (k := 3) rfl (by decide) (v0 := (nI 1)) (by decide) (fun _ => rfl) hm (fun x46 ls hm hl => ?_)
                    refine lv_aload_n hx hb dX11_readItems_134 rfl (lv_at hl 3 rfl) ?_
                    refine xVW_v (As := []) (rest := []) (wr := []) (wg := (fun u => WM cs ad u)) hx hb hml hown hT hN hK hP hD hS hA cw_X11_88 hm (fun z h => tcX11_next l D cs ad H.size S44 z h) ⟨rfl, rfl⟩ ⟨by decide, by decide⟩ [0, 1, 2, 3, 4, 5, 6, 7, 8, 9, 10, 11] [] [0, 1, 2, 3, 4, 5, 6, 7, 8, 9, 10, 11] rfl (by decide) rfl (by decide) (by decide) (fun _ => rfl) (by decide) (b := (ad 22)) 0 rfl rfl rfl hl.1 rfl rfl (Nat.le_of_ble_eq_true rfl) dX11_readItems_135 ⟨Nat.zero_le _, Nat.zero_le _⟩ (fun S47 H locs hm hP hD hS => ?_)
                    refine lv_goto (tgt := 21) hx hb dX11_readItems_138 (by decide) ?_
                    exact ih x46 S47 hm H locs hP hD hS ls (lv_sub hl [3, 0] rfl)
                  · refine lv_iconst (v := (-1 : Int32)) hx hb dX11_readItems_129 (by decide) ?_
                    exact x_iretW (wf := (fun u => WM cs ad u)) hx hb hr hlk hK hP hD hS hm dX11_readItems_130
                · refine lv_aload_n hx hb dX11_readItems_113 rfl (lv_at hl 1 rfl) ?_
                  refine xVW_i (As := []) (rest := []) (wr := []) (wg := (fun u => WM cs ad u)) hx hb hml hown hT hN hK hP hD hS hA cw_X11_114 hm (fun z h => tcX11_readsFiction l D cs ad H.size S43 z h) ⟨rfl, rfl⟩ ⟨by decide, by decide⟩ [0, 1, 2, 3, 4, 5, 6, 7, 8, 9, 10, 11] [] [0, 1, 2, 3, 4, 5, 6, 7, 8, 9, 10, 11] rfl (by decide) rfl (by decide) (by decide) (fun _ => rfl) (by decide) (b := (ad 22)) 0 rfl rfl rfl hl.1 rfl rfl (Nat.le_of_ble_eq_true rfl) dX11_readItems_114 ⟨Nat.zero_le _, Nat.zero_le _⟩ (fun r49 S48 H locs hm hP hD hS => ?_)
                  refine lv_goto (tgt := 124) hx hb dX11_readItems_117 (by decide) ?_
                  refine lv_istore_n (lv' := [(3, .int r49), (2, .int r5), (0, .ref (ad 22)), (1, .int y1)]) hx hb dX11_readItems_124 rfl hl (by decide) rfl (fun ls hl => ?_)
                  refine lv_iload_n hx hb dX11_readItems_125 rfl (lv_at hl 0 rfl) ?_
                  refine x_if_ne (tgt := 131) hx hb dX11_readItems_126 (by decide) hm (fun hm => ?_) (fun hm => ?_)
                  · refine x_iinc (lv' := fun x50 => [(1, .int x50), (3, .int r49), (2, .int r5), (0, .ref (ad 22))]) hx hb dX11_readItems_131 hl (k := 3) rfl (by decide) (v0 := (nI 1)) (by decide) (fun _ => rfl) hm (fun x50 ls hm hl => ?_)
                    refine lv_aload_n hx hb dX11_readItems_134 rfl (lv_at hl 3 rfl) ?_
                    refine xVW_v (As := []) (rest := []) (wr := []) (wg := (fun u => WM cs ad u)) hx hb hml hown hT hN hK hP hD hS hA cw_X11_88 hm (fun z h => tcX11_next l D cs ad H.size S48 z h) ⟨rfl, rfl⟩ ⟨by decide, by decide⟩ [0, 1, 2, 3, 4, 5, 6, 7, 8, 9, 10, 11] [] [0, 1, 2, 3, 4, 5, 6, 7, 8, 9, 10, 11] rfl (by decide) rfl (by decide) (by decide) (fun _ => rfl) (by decide) (b := (ad 22)) 0 rfl rfl rfl hl.1 rfl rfl (Nat.le_of_ble_eq_true rfl) dX11_readItems_135 ⟨Nat.zero_le _, Nat.zero_le _⟩ (fun S51 H locs hm hP hD hS => ?_)
                    refine lv_goto (tgt := 21) hx hb dX11_readItems_138 (by decide) ?_
                    exact ih x50 S51 hm H locs hP hD hS ls (lv_sub hl [3, 0] rfl)
                  · refine lv_iconst (v := (-1 : Int32)) hx hb dX11_readItems_129 (by decide) ?_
                    exact x_iretW (wf := (fun u => WM cs ad u)) hx hb hr hlk hK hP hD hS hm dX11_readItems_130
              · refine lv_aload_n hx hb dX11_readItems_92 rfl (lv_at hl 1 rfl) ?_
                refine gf_X11_111 (v := .int (S43.2.1 10)) hx hb hT hown hK hP 0 rfl rfl dX11_readItems_93 ?_
                refine lv_iconst (v := (-1 : Int32)) hx hb dX11_readItems_96 (by decide) ?_
                refine x_icmp_eq (tgt := 104) hx hb dX11_readItems_97 (by decide) hm (fun hm => ?_) (fun hm => ?_)
                · refine lv_iconst (v := (nI 0)) hx hb dX11_readItems_104 (by decide) ?_
                  refine lv_goto (tgt := 124) hx hb dX11_readItems_105 (by decide) ?_
                  refine lv_istore_n (lv' := [(3, .int (nI 0)), (2, .int r5), (0, .ref (ad 22)), (1, .int y1)]) hx hb dX11_readItems_124 rfl hl (by decide) rfl (fun ls hl => ?_)
                  refine lv_iload_n hx hb dX11_readItems_125 rfl (lv_at hl 0 rfl) ?_
                  refine lv_if_ne (tgt := 131) hx hb dX11_readItems_126 (by decide) (fun h => absurd h (by decide)) (fun _ => ?_)
                  refine lv_iconst (v := (-1 : Int32)) hx hb dX11_readItems_129 (by decide) ?_
                  exact x_iretW (wf := (fun u => WM cs ad u)) hx hb hr hlk hK hP hD hS hm dX11_readItems_130
                · refine lv_iconst (v := (nI 1)) hx hb dX11_readItems_100 (by decide) ?_
                  refine lv_goto (tgt := 124) hx hb dX11_readItems_101 (by decide) ?_
                  refine lv_istore_n (lv' := [(3, .int (nI 1)), (2, .int r5), (0, .ref (ad 22)), (1, .int y1)]) hx hb dX11_readItems_124 rfl hl (by decide) rfl (fun ls hl => ?_)
                  refine lv_iload_n hx hb dX11_readItems_125 rfl (lv_at hl 0 rfl) ?_
                  refine lv_if_ne (tgt := 131) hx hb dX11_readItems_126 (by decide) (fun _ => ?_) (fun h => absurd h (by decide))
                  refine x_iinc (lv' := fun x52 => [(1, .int x52), (3, .int (nI 1)), (2, .int r5), (0, .ref (ad 22))]) hx hb dX11_readItems_131 hl (k := 3) rfl (by decide) (v0 := (nI 1)) (by decide) (fun _ => rfl) hm (fun x52 ls hm hl => ?_)
                  refine lv_aload_n hx hb dX11_readItems_134 rfl (lv_at hl 3 rfl) ?_
                  refine xVW_v (As := []) (rest := []) (wr := []) (wg := (fun u => WM cs ad u)) hx hb hml hown hT hN hK hP hD hS hA cw_X11_88 hm (fun z h => tcX11_next l D cs ad H.size S43 z h) ⟨rfl, rfl⟩ ⟨by decide, by decide⟩ [0, 1, 2, 3, 4, 5, 6, 7, 8, 9, 10, 11] [] [0, 1, 2, 3, 4, 5, 6, 7, 8, 9, 10, 11] rfl (by decide) rfl (by decide) (by decide) (fun _ => rfl) (by decide) (b := (ad 22)) 0 rfl rfl rfl hl.1 rfl rfl (Nat.le_of_ble_eq_true rfl) dX11_readItems_135 ⟨Nat.zero_le _, Nat.zero_le _⟩ (fun S53 H locs hm hP hD hS => ?_)
                  refine lv_goto (tgt := 21) hx hb dX11_readItems_138 (by decide) ?_
                  exact ih x52 S53 hm H locs hP hD hS ls (lv_sub hl [3, 0] rfl)
    · refine lv_aload_n hx hb dX11_readItems_25 rfl (lv_at hl 0 rfl) ?_
      refine gf_X11_75 (v := .int (S.2.1 8)) hx hb hT hown hK hP 0 rfl rfl dX11_readItems_26 ?_
      refine lv_aload_n hx hb dX11_readItems_29 rfl (lv_at hl 0 rfl) ?_
      refine gf_X11_68 (v := .int (S.2.1 6)) hx hb hT hown hK hP 0 rfl rfl dX11_readItems_30 ?_
      refine x_icmp_ge (tgt := 141) hx hb dX11_readItems_33 (by decide) hm (fun hm => ?_) (fun hm => ?_)
      · refine lv_iload_n hx hb dX11_readItems_141 rfl (lv_at hl 1 rfl) ?_
        exact x_iretW (wf := (fun u => WM cs ad u)) hx hb hr hlk hK hP hD hS hm dX11_readItems_142
      · refine lv_aload_n hx hb dX11_readItems_36 rfl (lv_at hl 0 rfl) ?_
        refine xV_i (As := []) (rest := []) hx hb hml hown hT hN hK hP cw_X11_108 hm (fun z h => tcX11_wordHere l D cs ad S z h) ⟨rfl, rfl⟩ ⟨by decide, by decide⟩ (b := (ad 22)) 0 rfl rfl rfl hl.1 rfl rfl (Nat.le_of_ble_eq_true rfl) dX11_readItems_37 ⟨Nat.zero_le _, Nat.zero_le _⟩ (fun r54 hm => ?_)
        refine lv_istore_n (lv' := [(2, .int r54), (0, .ref (ad 22)), (1, .int y1)]) hx hb dX11_readItems_40 rfl hl (by decide) rfl (fun ls hl => ?_)
        refine lv_iload_n hx hb dX11_readItems_41 rfl (lv_at hl 0 rfl) ?_
        refine lv_iconst (v := (-1 : Int32)) hx hb dX11_readItems_42 (by decide) ?_
        refine x_icmp_eq (tgt := 67) hx hb dX11_readItems_43 (by decide) hm (fun hm => ?_) (fun hm => ?_)
        · refine lv_iconst (v := (-1 : Int32)) hx hb dX11_readItems_67 (by decide) ?_
          exact x_iretW (wf := (fun u => WM cs ad u)) hx hb hr hlk hK hP hD hS hm dX11_readItems_68
        · refine lv_iload_n hx hb dX11_readItems_46 rfl (lv_at hl 0 rfl) ?_
          refine x_if_ne (tgt := 54) hx hb dX11_readItems_47 (by decide) hm (fun hm => ?_) (fun hm => ?_)
          · refine lv_iconst (v := (nI 0)) hx hb dX11_readItems_54 (by decide) ?_
            refine lv_iload_n hx hb dX11_readItems_55 rfl (lv_at hl 2 rfl) ?_
            refine x_if_ne (tgt := 63) hx hb dX11_readItems_56 (by decide) hm (fun hm => ?_) (fun hm => ?_)
            · refine lv_iconst (v := (nI 0)) hx hb dX11_readItems_63 (by decide) ?_
              refine lv_icmp_eq (tgt := 69) hx hb dX11_readItems_64 (by decide) (fun _ => ?_) (fun h => absurd h (by decide))
              refine lv_aload_n hx hb dX11_readItems_69 rfl (lv_at hl 1 rfl) ?_
              refine lv_iload_n hx hb dX11_readItems_70 rfl (lv_at hl 0 rfl) ?_
              refine x_if_ne (tgt := 81) hx hb dX11_readItems_71 (by decide) hm (fun hm => ?_) (fun hm => ?_)
              · refine lv_aload_n hx hb dX11_readItems_81 rfl (lv_at hl 1 rfl) ?_
                refine gf_X11_111 (v := .int (S.2.1 10)) hx hb hT hown hK hP 0 rfl rfl dX11_readItems_82 ?_
                refine pf_X11_111 (wf := (fun u => WM cs ad u)) (u0 := mI S 10 (S.2.1 10)) hx hb hT hown hK hP hD hS 0 rfl (Nat.le_of_ble_eq_true rfl) rfl rfl rfl hm dX11_readItems_85 (fun S55 H locs hm hP hD hS => ?_)
                refine lv_iload_n hx hb dX11_readItems_88 rfl (lv_at hl 0 rfl) ?_
                refine x_if_ne (tgt := 108) hx hb dX11_readItems_89 (by decide) hm (fun hm => ?_) (fun hm => ?_)
                · refine lv_iload_n hx hb dX11_readItems_108 rfl (lv_at hl 0 rfl) ?_
                  refine lv_iconst (v := (nI 1)) hx hb dX11_readItems_109 (by decide) ?_
                  refine x_icmp_ne (tgt := 120) hx hb dX11_readItems_110 (by decide) hm (fun hm => ?_) (fun hm => ?_)
                  · refine lv_aload_n hx hb dX11_readItems_120 rfl (lv_at hl 1 rfl) ?_
                    refine xVW_i (As := []) (rest := []) (wr := []) (wg := (fun u => WM cs ad u)) hx hb hml hown hT hN hK hP hD hS hA cw_X11_118 hm (fun z h => tcX11_readsCourt l D cs ad H.size S55 z h) ⟨rfl, rfl⟩ ⟨by decide, by decide⟩ [0, 1, 2, 3, 4, 5, 6, 7, 8, 9, 10, 11] [] [0, 1, 2, 3, 4, 5, 6, 7, 8, 9, 10, 11] rfl (by decide) rfl (by decide) (by decide) (fun _ => rfl) (by decide) (b := (ad 22)) 0 rfl rfl rfl hl.1 rfl rfl (Nat.le_of_ble_eq_true rfl) dX11_readItems_121 ⟨Nat.zero_le _, Nat.zero_le _⟩ (fun r57 S56 H locs hm hP hD hS => ?_)
                    refine lv_istore_n (lv' := [(3, .int r57), (2, .int r54), (0, .ref (ad 22)), (1, .int y1)]) hx hb dX11_readItems_124 rfl hl (by decide) rfl (fun ls hl => ?_)
                    refine lv_iload_n hx hb dX11_readItems_125 rfl (lv_at hl 0 rfl) ?_
                    refine x_if_ne (tgt := 131) hx hb dX11_readItems_126 (by decide) hm (fun hm => ?_) (fun hm => ?_)
                    · refine x_iinc (lv' := fun x58 => [(1, .int x58), (3, .int r57), (2, .int r54), (0, .ref (ad 22))]) hx hb dX11_readItems_131 hl (k := 3) rfl (by decide) (v0 := (nI 1)) (by decide) (fun _ => rfl) hm (fun x58 ls hm hl => ?_)
                      refine lv_aload_n hx hb dX11_readItems_134 rfl (lv_at hl 3 rfl) ?_
                      refine xVW_v (As := []) (rest := []) (wr := []) (wg := (fun u => WM cs ad u)) hx hb hml hown hT hN hK hP hD hS hA cw_X11_88 hm (fun z h => tcX11_next l D cs ad H.size S56 z h) ⟨rfl, rfl⟩ ⟨by decide, by decide⟩ [0, 1, 2, 3, 4, 5, 6, 7, 8, 9, 10, 11] [] [0, 1, 2, 3, 4, 5, 6, 7, 8, 9, 10, 11] rfl (by decide) rfl (by decide) (by decide) (fun _ => rfl) (by decide) (b := (ad 22)) 0 rfl rfl rfl hl.1 rfl rfl (Nat.le_of_ble_eq_true rfl) dX11_readItems_135 ⟨Nat.zero_le _, Nat.zero_le _⟩ (fun S59 H locs hm hP hD hS => ?_)
                      refine lv_goto (tgt := 21) hx hb dX11_readItems_138 (by decide) ?_
                      exact ih x58 S59 hm H locs hP hD hS ls (lv_sub hl [3, 0] rfl)
                    · refine lv_iconst (v := (-1 : Int32)) hx hb dX11_readItems_129 (by decide) ?_
                      exact x_iretW (wf := (fun u => WM cs ad u)) hx hb hr hlk hK hP hD hS hm dX11_readItems_130
                  · refine lv_aload_n hx hb dX11_readItems_113 rfl (lv_at hl 1 rfl) ?_
                    refine xVW_i (As := []) (rest := []) (wr := []) (wg := (fun u => WM cs ad u)) hx hb hml hown hT hN hK hP hD hS hA cw_X11_114 hm (fun z h => tcX11_readsFiction l D cs ad H.size S55 z h) ⟨rfl, rfl⟩ ⟨by decide, by decide⟩ [0, 1, 2, 3, 4, 5, 6, 7, 8, 9, 10, 11] [] [0, 1, 2, 3, 4, 5, 6, 7, 8, 9, 10, 11] rfl (by decide) rfl (by decide) (by decide) (fun _ => rfl) (by decide) (b := (ad 22)) 0 rfl rfl rfl hl.1 rfl rfl (Nat.le_of_ble_eq_true rfl) dX11_readItems_114 ⟨Nat.zero_le _, Nat.zero_le _⟩ (fun r61 S60 H locs hm hP hD hS => ?_)
                    refine lv_goto (tgt := 124) hx hb dX11_readItems_117 (by decide) ?_
                    refine lv_istore_n (lv' := [(3, .int r61), (2, .int r54), (0, .ref (ad 22)), (1, .int y1)]) hx hb dX11_readItems_124 rfl hl (by decide) rfl (fun ls hl => ?_)
                    refine lv_iload_n hx hb dX11_readItems_125 rfl (lv_at hl 0 rfl) ?_
                    refine x_if_ne (tgt := 131) hx hb dX11_readItems_126 (by decide) hm (fun hm => ?_) (fun hm => ?_)
                    · refine x_iinc (lv' := fun x62 => [(1, .int x62), (3, .int r61), (2, .int r54), (0, .ref (ad 22))]) hx hb dX11_readItems_131 hl (k := 3) rfl (by decide) (v0 := (nI 1)) (by decide) (fun _ => rfl) hm (fun x62 ls hm hl => ?_)
                      refine lv_aload_n hx hb dX11_readItems_134 rfl (lv_at hl 3 rfl) ?_
                      refine xVW_v (As := []) (rest := []) (wr := []) (wg := (fun u => WM cs ad u)) hx hb hml hown hT hN hK hP hD hS hA cw_X11_88 hm (fun z h => tcX11_next l D cs ad H.size S60 z h) ⟨rfl, rfl⟩ ⟨by decide, by decide⟩ [0, 1, 2, 3, 4, 5, 6, 7, 8, 9, 10, 11] [] [0, 1, 2, 3, 4, 5, 6, 7, 8, 9, 10, 11] rfl (by decide) rfl (by decide) (by decide) (fun _ => rfl) (by decide) (b := (ad 22)) 0 rfl rfl rfl hl.1 rfl rfl (Nat.le_of_ble_eq_true rfl) dX11_readItems_135 ⟨Nat.zero_le _, Nat.zero_le _⟩ (fun S63 H locs hm hP hD hS => ?_)
                      refine lv_goto (tgt := 21) hx hb dX11_readItems_138 (by decide) ?_
                      exact ih x62 S63 hm H locs hP hD hS ls (lv_sub hl [3, 0] rfl)
                    · refine lv_iconst (v := (-1 : Int32)) hx hb dX11_readItems_129 (by decide) ?_
                      exact x_iretW (wf := (fun u => WM cs ad u)) hx hb hr hlk hK hP hD hS hm dX11_readItems_130
                · refine lv_aload_n hx hb dX11_readItems_92 rfl (lv_at hl 1 rfl) ?_
                  refine gf_X11_111 (v := .int (S55.2.1 10)) hx hb hT hown hK hP 0 rfl rfl dX11_readItems_93 ?_
                  refine lv_iconst (v := (-1 : Int32)) hx hb dX11_readItems_96 (by decide) ?_
                  refine x_icmp_eq (tgt := 104) hx hb dX11_readItems_97 (by decide) hm (fun hm => ?_) (fun hm => ?_)
                  · refine lv_iconst (v := (nI 0)) hx hb dX11_readItems_104 (by decide) ?_
                    refine lv_goto (tgt := 124) hx hb dX11_readItems_105 (by decide) ?_
                    refine lv_istore_n (lv' := [(3, .int (nI 0)), (2, .int r54), (0, .ref (ad 22)), (1, .int y1)]) hx hb dX11_readItems_124 rfl hl (by decide) rfl (fun ls hl => ?_)
                    refine lv_iload_n hx hb dX11_readItems_125 rfl (lv_at hl 0 rfl) ?_
                    refine lv_if_ne (tgt := 131) hx hb dX11_readItems_126 (by decide) (fun h => absurd h (by decide)) (fun _ => ?_)
                    refine lv_iconst (v := (-1 : Int32)) hx hb dX11_readItems_129 (by decide) ?_
                    exact x_iretW (wf := (fun u => WM cs ad u)) hx hb hr hlk hK hP hD hS hm dX11_readItems_130
                  · refine lv_iconst (v := (nI 1)) hx hb dX11_readItems_100 (by decide) ?_
                    refine lv_goto (tgt := 124) hx hb dX11_readItems_101 (by decide) ?_
                    refine lv_istore_n (lv' := [(3, .int (nI 1)), (2, .int r54), (0, .ref (ad 22)), (1, .int y1)]) hx hb dX11_readItems_124 rfl hl (by decide) rfl (fun ls hl => ?_)
                    refine lv_iload_n hx hb dX11_readItems_125 rfl (lv_at hl 0 rfl) ?_
                    refine lv_if_ne (tgt := 131) hx hb dX11_readItems_126 (by decide) (fun _ => ?_) (fun h => absurd h (by decide))
                    refine x_iinc (lv' := fun x64 => [(1, .int x64), (3, .int (nI 1)), (2, .int r54), (0, .ref (ad 22))]) hx hb dX11_readItems_131 hl (k := 3) rfl (by decide) (v0 := (nI 1)) (by decide) (fun _ => rfl) hm (fun x64 ls hm hl => ?_)
                    refine lv_aload_n hx hb dX11_readItems_134 rfl (lv_at hl 3 rfl) ?_
                    refine xVW_v (As := []) (rest := []) (wr := []) (wg := (fun u => WM cs ad u)) hx hb hml hown hT hN hK hP hD hS hA cw_X11_88 hm (fun z h => tcX11_next l D cs ad H.size S55 z h) ⟨rfl, rfl⟩ ⟨by decide, by decide⟩ [0, 1, 2, 3, 4, 5, 6, 7, 8, 9, 10, 11] [] [0, 1, 2, 3, 4, 5, 6, 7, 8, 9, 10, 11] rfl (by decide) rfl (by decide) (by decide) (fun _ => rfl) (by decide) (b := (ad 22)) 0 rfl rfl rfl hl.1 rfl rfl (Nat.le_of_ble_eq_true rfl) dX11_readItems_135 ⟨Nat.zero_le _, Nat.zero_le _⟩ (fun S65 H locs hm hP hD hS => ?_)
                    refine lv_goto (tgt := 21) hx hb dX11_readItems_138 (by decide) ?_
                    exact ih x64 S65 hm H locs hP hD hS ls (lv_sub hl [3, 0] rfl)
              · refine lv_aload_n hx hb dX11_readItems_74 rfl (lv_at hl 1 rfl) ?_
                refine xVW_i (As := []) (rest := [.ref (ad 22)]) (wr := []) (wg := (fun u => WM cs ad u)) hx hb hml hown hT hN hK hP hD hS hA cw_X11_101 hm (fun z h => tcX11_facts l D cs ad H.size S z h) ⟨rfl, rfl⟩ ⟨by decide, by decide⟩ [0, 1, 2, 3, 4, 5, 6, 7, 8, 9, 10, 11] [] [0, 1, 2, 3, 4, 5, 6, 7, 8, 9, 10, 11] rfl (by decide) rfl (by decide) (by decide) (fun _ => rfl) (by decide) (b := (ad 22)) 0 rfl rfl rfl hl.1 rfl rfl (Nat.le_of_ble_eq_true rfl) dX11_readItems_75 ⟨Nat.zero_le _, Nat.zero_le _⟩ (fun r67 S66 H locs hm hP hD hS => ?_)
                refine lv_goto (tgt := 85) hx hb dX11_readItems_78 (by decide) ?_
                refine pf_X11_111 (wf := (fun u => WM cs ad u)) (u0 := mI S66 10 r67) hx hb hT hown hK hP hD hS 0 rfl (Nat.le_of_ble_eq_true rfl) rfl rfl rfl hm dX11_readItems_85 (fun S68 H locs hm hP hD hS => ?_)
                refine lv_iload_n hx hb dX11_readItems_88 rfl (lv_at hl 0 rfl) ?_
                refine x_if_ne (tgt := 108) hx hb dX11_readItems_89 (by decide) hm (fun hm => ?_) (fun hm => ?_)
                · refine lv_iload_n hx hb dX11_readItems_108 rfl (lv_at hl 0 rfl) ?_
                  refine lv_iconst (v := (nI 1)) hx hb dX11_readItems_109 (by decide) ?_
                  refine x_icmp_ne (tgt := 120) hx hb dX11_readItems_110 (by decide) hm (fun hm => ?_) (fun hm => ?_)
                  · refine lv_aload_n hx hb dX11_readItems_120 rfl (lv_at hl 1 rfl) ?_
                    refine xVW_i (As := []) (rest := []) (wr := []) (wg := (fun u => WM cs ad u)) hx hb hml hown hT hN hK hP hD hS hA cw_X11_118 hm (fun z h => tcX11_readsCourt l D cs ad H.size S68 z h) ⟨rfl, rfl⟩ ⟨by decide, by decide⟩ [0, 1, 2, 3, 4, 5, 6, 7, 8, 9, 10, 11] [] [0, 1, 2, 3, 4, 5, 6, 7, 8, 9, 10, 11] rfl (by decide) rfl (by decide) (by decide) (fun _ => rfl) (by decide) (b := (ad 22)) 0 rfl rfl rfl hl.1 rfl rfl (Nat.le_of_ble_eq_true rfl) dX11_readItems_121 ⟨Nat.zero_le _, Nat.zero_le _⟩ (fun r70 S69 H locs hm hP hD hS => ?_)
                    refine lv_istore_n (lv' := [(3, .int r70), (2, .int r54), (0, .ref (ad 22)), (1, .int y1)]) hx hb dX11_readItems_124 rfl hl (by decide) rfl (fun ls hl => ?_)
                    refine lv_iload_n hx hb dX11_readItems_125 rfl (lv_at hl 0 rfl) ?_
                    refine x_if_ne (tgt := 131) hx hb dX11_readItems_126 (by decide) hm (fun hm => ?_) (fun hm => ?_)
                    · refine x_iinc (lv' := fun x71 => [(1, .int x71), (3, .int r70), (2, .int r54), (0, .ref (ad 22))]) hx hb dX11_readItems_131 hl (k := 3) rfl (by decide) (v0 := (nI 1)) (by decide) (fun _ => rfl) hm (fun x71 ls hm hl => ?_)
                      refine lv_aload_n hx hb dX11_readItems_134 rfl (lv_at hl 3 rfl) ?_
                      refine xVW_v (As := []) (rest := []) (wr := []) (wg := (fun u => WM cs ad u)) hx hb hml hown hT hN hK hP hD hS hA cw_X11_88 hm (fun z h => tcX11_next l D cs ad H.size S69 z h) ⟨rfl, rfl⟩ ⟨by decide, by decide⟩ [0, 1, 2, 3, 4, 5, 6, 7, 8, 9, 10, 11] [] [0, 1, 2, 3, 4, 5, 6, 7, 8, 9, 10, 11] rfl (by decide) rfl (by decide) (by decide) (fun _ => rfl) (by decide) (b := (ad 22)) 0 rfl rfl rfl hl.1 rfl rfl (Nat.le_of_ble_eq_true rfl) dX11_readItems_135 ⟨Nat.zero_le _, Nat.zero_le _⟩ (fun S72 H locs hm hP hD hS => ?_)
                      refine lv_goto (tgt := 21) hx hb dX11_readItems_138 (by decide) ?_
                      exact ih x71 S72 hm H locs hP hD hS ls (lv_sub hl [3, 0] rfl)
                    · refine lv_iconst (v := (-1 : Int32)) hx hb dX11_readItems_129 (by decide) ?_
                      exact x_iretW (wf := (fun u => WM cs ad u)) hx hb hr hlk hK hP hD hS hm dX11_readItems_130
                  · refine lv_aload_n hx hb dX11_readItems_113 rfl (lv_at hl 1 rfl) ?_
                    refine xVW_i (As := []) (rest := []) (wr := []) (wg := (fun u => WM cs ad u)) hx hb hml hown hT hN hK hP hD hS hA cw_X11_114 hm (fun z h => tcX11_readsFiction l D cs ad H.size S68 z h) ⟨rfl, rfl⟩ ⟨by decide, by decide⟩ [0, 1, 2, 3, 4, 5, 6, 7, 8, 9, 10, 11] [] [0, 1, 2, 3, 4, 5, 6, 7, 8, 9, 10, 11] rfl (by decide) rfl (by decide) (by decide) (fun _ => rfl) (by decide) (b := (ad 22)) 0 rfl rfl rfl hl.1 rfl rfl (Nat.le_of_ble_eq_true rfl) dX11_readItems_114 ⟨Nat.zero_le _, Nat.zero_le _⟩ (fun r74 S73 H locs hm hP hD hS => ?_)
                    refine lv_goto (tgt := 124) hx hb dX11_readItems_117 (by decide) ?_
                    refine lv_istore_n (lv' := [(3, .int r74), (2, .int r54), (0, .ref (ad 22)), (1, .int y1)]) hx hb dX11_readItems_124 rfl hl (by decide) rfl (fun ls hl => ?_)
                    refine lv_iload_n hx hb dX11_readItems_125 rfl (lv_at hl 0 rfl) ?_
                    refine x_if_ne (tgt := 131) hx hb dX11_readItems_126 (by decide) hm (fun hm => ?_) (fun hm => ?_)
                    · refine x_iinc (lv' := fun x75 => [(1, .int x75), (3, .int r74), (2, .int r54), (0, .ref (ad 22))]) hx hb dX11_readItems_131 hl (k := 3) rfl (by decide) (v0 := (nI 1)) (by decide) (fun _ => rfl) hm (fun x75 ls hm hl => ?_)
                      refine lv_aload_n hx hb dX11_readItems_134 rfl (lv_at hl 3 rfl) ?_
                      refine xVW_v (As := []) (rest := []) (wr := []) (wg := (fun u => WM cs ad u)) hx hb hml hown hT hN hK hP hD hS hA cw_X11_88 hm (fun z h => tcX11_next l D cs ad H.size S73 z h) ⟨rfl, rfl⟩ ⟨by decide, by decide⟩ [0, 1, 2, 3, 4, 5, 6, 7, 8, 9, 10, 11] [] [0, 1, 2, 3, 4, 5, 6, 7, 8, 9, 10, 11] rfl (by decide) rfl (by decide) (by decide) (fun _ => rfl) (by decide) (b := (ad 22)) 0 rfl rfl rfl hl.1 rfl rfl (Nat.le_of_ble_eq_true rfl) dX11_readItems_135 ⟨Nat.zero_le _, Nat.zero_le _⟩ (fun S76 H locs hm hP hD hS => ?_)
                      refine lv_goto (tgt := 21) hx hb dX11_readItems_138 (by decide) ?_
                      exact ih x75 S76 hm H locs hP hD hS ls (lv_sub hl [3, 0] rfl)
                    · refine lv_iconst (v := (-1 : Int32)) hx hb dX11_readItems_129 (by decide) ?_
                      exact x_iretW (wf := (fun u => WM cs ad u)) hx hb hr hlk hK hP hD hS hm dX11_readItems_130
                · refine lv_aload_n hx hb dX11_readItems_92 rfl (lv_at hl 1 rfl) ?_
                  refine gf_X11_111 (v := .int (S68.2.1 10)) hx hb hT hown hK hP 0 rfl rfl dX11_readItems_93 ?_
                  refine lv_iconst (v := (-1 : Int32)) hx hb dX11_readItems_96 (by decide) ?_
                  refine x_icmp_eq (tgt := 104) hx hb dX11_readItems_97 (by decide) hm (fun hm => ?_) (fun hm => ?_)
                  · refine lv_iconst (v := (nI 0)) hx hb dX11_readItems_104 (by decide) ?_
                    refine lv_goto (tgt := 124) hx hb dX11_readItems_105 (by decide) ?_
                    refine lv_istore_n (lv' := [(3, .int (nI 0)), (2, .int r54), (0, .ref (ad 22)), (1, .int y1)]) hx hb dX11_readItems_124 rfl hl (by decide) rfl (fun ls hl => ?_)
                    refine lv_iload_n hx hb dX11_readItems_125 rfl (lv_at hl 0 rfl) ?_
                    refine lv_if_ne (tgt := 131) hx hb dX11_readItems_126 (by decide) (fun h => absurd h (by decide)) (fun _ => ?_)
                    refine lv_iconst (v := (-1 : Int32)) hx hb dX11_readItems_129 (by decide) ?_
                    exact x_iretW (wf := (fun u => WM cs ad u)) hx hb hr hlk hK hP hD hS hm dX11_readItems_130
                  · refine lv_iconst (v := (nI 1)) hx hb dX11_readItems_100 (by decide) ?_
                    refine lv_goto (tgt := 124) hx hb dX11_readItems_101 (by decide) ?_
                    refine lv_istore_n (lv' := [(3, .int (nI 1)), (2, .int r54), (0, .ref (ad 22)), (1, .int y1)]) hx hb dX11_readItems_124 rfl hl (by decide) rfl (fun ls hl => ?_)
                    refine lv_iload_n hx hb dX11_readItems_125 rfl (lv_at hl 0 rfl) ?_
                    refine lv_if_ne (tgt := 131) hx hb dX11_readItems_126 (by decide) (fun _ => ?_) (fun h => absurd h (by decide))
                    refine x_iinc (lv' := fun x77 => [(1, .int x77), (3, .int (nI 1)), (2, .int r54), (0, .ref (ad 22))]) hx hb dX11_readItems_131 hl (k := 3) rfl (by decide) (v0 := (nI 1)) (by decide) (fun _ => rfl) hm (fun x77 ls hm hl => ?_)
                    refine lv_aload_n hx hb dX11_readItems_134 rfl (lv_at hl 3 rfl) ?_
                    refine xVW_v (As := []) (rest := []) (wr := []) (wg := (fun u => WM cs ad u)) hx hb hml hown hT hN hK hP hD hS hA cw_X11_88 hm (fun z h => tcX11_next l D cs ad H.size S68 z h) ⟨rfl, rfl⟩ ⟨by decide, by decide⟩ [0, 1, 2, 3, 4, 5, 6, 7, 8, 9, 10, 11] [] [0, 1, 2, 3, 4, 5, 6, 7, 8, 9, 10, 11] rfl (by decide) rfl (by decide) (by decide) (fun _ => rfl) (by decide) (b := (ad 22)) 0 rfl rfl rfl hl.1 rfl rfl (Nat.le_of_ble_eq_true rfl) dX11_readItems_135 ⟨Nat.zero_le _, Nat.zero_le _⟩ (fun S78 H locs hm hP hD hS => ?_)
                    refine lv_goto (tgt := 21) hx hb dX11_readItems_138 (by decide) ?_
                    exact ih x77 S78 hm H locs hP hD hS ls (lv_sub hl [3, 0] rfl)
            · refine lv_iconst (v := (nI 1)) hx hb dX11_readItems_59 (by decide) ?_
              refine lv_goto (tgt := 64) hx hb dX11_readItems_60 (by decide) ?_
              refine lv_icmp_eq (tgt := 69) hx hb dX11_readItems_64 (by decide) (fun h => absurd h (by decide)) (fun _ => ?_)
              refine lv_iconst (v := (-1 : Int32)) hx hb dX11_readItems_67 (by decide) ?_
              exact x_iretW (wf := (fun u => WM cs ad u)) hx hb hr hlk hK hP hD hS hm dX11_readItems_68
          · refine lv_iconst (v := (nI 1)) hx hb dX11_readItems_50 (by decide) ?_
            refine lv_goto (tgt := 55) hx hb dX11_readItems_51 (by decide) ?_
            refine lv_iload_n hx hb dX11_readItems_55 rfl (lv_at hl 2 rfl) ?_
            refine x_if_ne (tgt := 63) hx hb dX11_readItems_56 (by decide) hm (fun hm => ?_) (fun hm => ?_)
            · refine lv_iconst (v := (nI 0)) hx hb dX11_readItems_63 (by decide) ?_
              refine lv_icmp_eq (tgt := 69) hx hb dX11_readItems_64 (by decide) (fun h => absurd h (by decide)) (fun _ => ?_)
              refine lv_iconst (v := (-1 : Int32)) hx hb dX11_readItems_67 (by decide) ?_
              exact x_iretW (wf := (fun u => WM cs ad u)) hx hb hr hlk hK hP hD hS hm dX11_readItems_68
            · refine lv_iconst (v := (nI 1)) hx hb dX11_readItems_59 (by decide) ?_
              refine lv_goto (tgt := 64) hx hb dX11_readItems_60 (by decide) ?_
              refine lv_icmp_eq (tgt := 69) hx hb dX11_readItems_64 (by decide) (fun _ => ?_) (fun h => absurd h (by decide))
              refine lv_aload_n hx hb dX11_readItems_69 rfl (lv_at hl 1 rfl) ?_
              refine lv_iload_n hx hb dX11_readItems_70 rfl (lv_at hl 0 rfl) ?_
              refine x_if_ne (tgt := 81) hx hb dX11_readItems_71 (by decide) hm (fun hm => ?_) (fun hm => ?_)
              · refine lv_aload_n hx hb dX11_readItems_81 rfl (lv_at hl 1 rfl) ?_
                refine gf_X11_111 (v := .int (S.2.1 10)) hx hb hT hown hK hP 0 rfl rfl dX11_readItems_82 ?_
                refine pf_X11_111 (wf := (fun u => WM cs ad u)) (u0 := mI S 10 (S.2.1 10)) hx hb hT hown hK hP hD hS 0 rfl (Nat.le_of_ble_eq_true rfl) rfl rfl rfl hm dX11_readItems_85 (fun S79 H locs hm hP hD hS => ?_)
                refine lv_iload_n hx hb dX11_readItems_88 rfl (lv_at hl 0 rfl) ?_
                refine x_if_ne (tgt := 108) hx hb dX11_readItems_89 (by decide) hm (fun hm => ?_) (fun hm => ?_)
                · refine lv_iload_n hx hb dX11_readItems_108 rfl (lv_at hl 0 rfl) ?_
                  refine lv_iconst (v := (nI 1)) hx hb dX11_readItems_109 (by decide) ?_
                  refine x_icmp_ne (tgt := 120) hx hb dX11_readItems_110 (by decide) hm (fun hm => ?_) (fun hm => ?_)
                  · refine lv_aload_n hx hb dX11_readItems_120 rfl (lv_at hl 1 rfl) ?_
                    refine xVW_i (As := []) (rest := []) (wr := []) (wg := (fun u => WM cs ad u)) hx hb hml hown hT hN hK hP hD hS hA cw_X11_118 hm (fun z h => tcX11_readsCourt l D cs ad H.size S79 z h) ⟨rfl, rfl⟩ ⟨by decide, by decide⟩ [0, 1, 2, 3, 4, 5, 6, 7, 8, 9, 10, 11] [] [0, 1, 2, 3, 4, 5, 6, 7, 8, 9, 10, 11] rfl (by decide) rfl (by decide) (by decide) (fun _ => rfl) (by decide) (b := (ad 22)) 0 rfl rfl rfl hl.1 rfl rfl (Nat.le_of_ble_eq_true rfl) dX11_readItems_121 ⟨Nat.zero_le _, Nat.zero_le _⟩ (fun r81 S80 H locs hm hP hD hS => ?_)
                    refine lv_istore_n (lv' := [(3, .int r81), (2, .int r54), (0, .ref (ad 22)), (1, .int y1)]) hx hb dX11_readItems_124 rfl hl (by decide) rfl (fun ls hl => ?_)
                    refine lv_iload_n hx hb dX11_readItems_125 rfl (lv_at hl 0 rfl) ?_
                    refine x_if_ne (tgt := 131) hx hb dX11_readItems_126 (by decide) hm (fun hm => ?_) (fun hm => ?_)
                    · refine x_iinc (lv' := fun x82 => [(1, .int x82), (3, .int r81), (2, .int r54), (0, .ref (ad 22))]) hx hb dX11_readItems_131 hl (k := 3) rfl (by decide) (v0 := (nI 1)) (by decide) (fun _ => rfl) hm (fun x82 ls hm hl => ?_)
                      refine lv_aload_n hx hb dX11_readItems_134 rfl (lv_at hl 3 rfl) ?_
                      refine xVW_v (As := []) (rest := []) (wr := []) (wg := (fun u => WM cs ad u)) hx hb hml hown hT hN hK hP hD hS hA cw_X11_88 hm (fun z h => tcX11_next l D cs ad H.size S80 z h) ⟨rfl, rfl⟩ ⟨by decide, by decide⟩ [0, 1, 2, 3, 4, 5, 6, 7, 8, 9, 10, 11] [] [0, 1, 2, 3, 4, 5, 6, 7, 8, 9, 10, 11] rfl (by decide) rfl (by decide) (by decide) (fun _ => rfl) (by decide) (b := (ad 22)) 0 rfl rfl rfl hl.1 rfl rfl (Nat.le_of_ble_eq_true rfl) dX11_readItems_135 ⟨Nat.zero_le _, Nat.zero_le _⟩ (fun S83 H locs hm hP hD hS => ?_)
                      refine lv_goto (tgt := 21) hx hb dX11_readItems_138 (by decide) ?_
                      exact ih x82 S83 hm H locs hP hD hS ls (lv_sub hl [3, 0] rfl)
                    · refine lv_iconst (v := (-1 : Int32)) hx hb dX11_readItems_129 (by decide) ?_
                      exact x_iretW (wf := (fun u => WM cs ad u)) hx hb hr hlk hK hP hD hS hm dX11_readItems_130
                  · refine lv_aload_n hx hb dX11_readItems_113 rfl (lv_at hl 1 rfl) ?_
                    refine xVW_i (As := []) (rest := []) (wr := []) (wg := (fun u => WM cs ad u)) hx hb hml hown hT hN hK hP hD hS hA cw_X11_114 hm (fun z h => tcX11_readsFiction l D cs ad H.size S79 z h) ⟨rfl, rfl⟩ ⟨by decide, by decide⟩ [0, 1, 2, 3, 4, 5, 6, 7, 8, 9, 10, 11] [] [0, 1, 2, 3, 4, 5, 6, 7, 8, 9, 10, 11] rfl (by decide) rfl (by decide) (by decide) (fun _ => rfl) (by decide) (b := (ad 22)) 0 rfl rfl rfl hl.1 rfl rfl (Nat.le_of_ble_eq_true rfl) dX11_readItems_114 ⟨Nat.zero_le _, Nat.zero_le _⟩ (fun r85 S84 H locs hm hP hD hS => ?_)
                    refine lv_goto (tgt := 124) hx hb dX11_readItems_117 (by decide) ?_
                    refine lv_istore_n (lv' := [(3, .int r85), (2, .int r54), (0, .ref (ad 22)), (1, .int y1)]) hx hb dX11_readItems_124 rfl hl (by decide) rfl (fun ls hl => ?_)
                    refine lv_iload_n hx hb dX11_readItems_125 rfl (lv_at hl 0 rfl) ?_
                    refine x_if_ne (tgt := 131) hx hb dX11_readItems_126 (by decide) hm (fun hm => ?_) (fun hm => ?_)
                    · refine x_iinc (lv' := fun x86 => [(1, .int x86), (3, .int r85), (2, .int r54), (0, .ref (ad 22))]) hx hb dX11_readItems_131 hl (k := 3) rfl (by decide) (v0 := (nI 1)) (by decide) (fun _ => rfl) hm (fun x86 ls hm hl => ?_)
                      refine lv_aload_n hx hb dX11_readItems_134 rfl (lv_at hl 3 rfl) ?_
                      refine xVW_v (As := []) (rest := []) (wr := []) (wg := (fun u => WM cs ad u)) hx hb hml hown hT hN hK hP hD hS hA cw_X11_88 hm (fun z h => tcX11_next l D cs ad H.size S84 z h) ⟨rfl, rfl⟩ ⟨by decide, by decide⟩ [0, 1, 2, 3, 4, 5, 6, 7, 8, 9, 10, 11] [] [0, 1, 2, 3, 4, 5, 6, 7, 8, 9, 10, 11] rfl (by decide) rfl (by decide) (by decide) (fun _ => rfl) (by decide) (b := (ad 22)) 0 rfl rfl rfl hl.1 rfl rfl (Nat.le_of_ble_eq_true rfl) dX11_readItems_135 ⟨Nat.zero_le _, Nat.zero_le _⟩ (fun S87 H locs hm hP hD hS => ?_)
                      refine lv_goto (tgt := 21) hx hb dX11_readItems_138 (by decide) ?_
                      exact ih x86 S87 hm H locs hP hD hS ls (lv_sub hl [3, 0] rfl)
                    · refine lv_iconst (v := (-1 : Int32)) hx hb dX11_readItems_129 (by decide) ?_
                      exact x_iretW (wf := (fun u => WM cs ad u)) hx hb hr hlk hK hP hD hS hm dX11_readItems_130
                · refine lv_aload_n hx hb dX11_readItems_92 rfl (lv_at hl 1 rfl) ?_
                  refine gf_X11_111 (v := .int (S79.2.1 10)) hx hb hT hown hK hP 0 rfl rfl dX11_readItems_93 ?_
                  refine lv_iconst (v := (-1 : Int32)) hx hb dX11_readItems_96 (by decide) ?_
                  refine x_icmp_eq (tgt := 104) hx hb dX11_readItems_97 (by decide) hm (fun hm => ?_) (fun hm => ?_)
                  · refine lv_iconst (v := (nI 0)) hx hb dX11_readItems_104 (by decide) ?_
                    refine lv_goto (tgt := 124) hx hb dX11_readItems_105 (by decide) ?_
                    refine lv_istore_n (lv' := [(3, .int (nI 0)), (2, .int r54), (0, .ref (ad 22)), (1, .int y1)]) hx hb dX11_readItems_124 rfl hl (by decide) rfl (fun ls hl => ?_)
                    refine lv_iload_n hx hb dX11_readItems_125 rfl (lv_at hl 0 rfl) ?_
                    refine lv_if_ne (tgt := 131) hx hb dX11_readItems_126 (by decide) (fun h => absurd h (by decide)) (fun _ => ?_)
                    refine lv_iconst (v := (-1 : Int32)) hx hb dX11_readItems_129 (by decide) ?_
                    exact x_iretW (wf := (fun u => WM cs ad u)) hx hb hr hlk hK hP hD hS hm dX11_readItems_130
                  · refine lv_iconst (v := (nI 1)) hx hb dX11_readItems_100 (by decide) ?_
                    refine lv_goto (tgt := 124) hx hb dX11_readItems_101 (by decide) ?_
                    refine lv_istore_n (lv' := [(3, .int (nI 1)), (2, .int r54), (0, .ref (ad 22)), (1, .int y1)]) hx hb dX11_readItems_124 rfl hl (by decide) rfl (fun ls hl => ?_)
                    refine lv_iload_n hx hb dX11_readItems_125 rfl (lv_at hl 0 rfl) ?_
                    refine lv_if_ne (tgt := 131) hx hb dX11_readItems_126 (by decide) (fun _ => ?_) (fun h => absurd h (by decide))
                    refine x_iinc (lv' := fun x88 => [(1, .int x88), (3, .int (nI 1)), (2, .int r54), (0, .ref (ad 22))]) hx hb dX11_readItems_131 hl (k := 3) rfl (by decide) (v0 := (nI 1)) (by decide) (fun _ => rfl) hm (fun x88 ls hm hl => ?_)
                    refine lv_aload_n hx hb dX11_readItems_134 rfl (lv_at hl 3 rfl) ?_
                    refine xVW_v (As := []) (rest := []) (wr := []) (wg := (fun u => WM cs ad u)) hx hb hml hown hT hN hK hP hD hS hA cw_X11_88 hm (fun z h => tcX11_next l D cs ad H.size S79 z h) ⟨rfl, rfl⟩ ⟨by decide, by decide⟩ [0, 1, 2, 3, 4, 5, 6, 7, 8, 9, 10, 11] [] [0, 1, 2, 3, 4, 5, 6, 7, 8, 9, 10, 11] rfl (by decide) rfl (by decide) (by decide) (fun _ => rfl) (by decide) (b := (ad 22)) 0 rfl rfl rfl hl.1 rfl rfl (Nat.le_of_ble_eq_true rfl) dX11_readItems_135 ⟨Nat.zero_le _, Nat.zero_le _⟩ (fun S89 H locs hm hP hD hS => ?_)
                    refine lv_goto (tgt := 21) hx hb dX11_readItems_138 (by decide) ?_
                    exact ih x88 S89 hm H locs hP hD hS ls (lv_sub hl [3, 0] rfl)
              · refine lv_aload_n hx hb dX11_readItems_74 rfl (lv_at hl 1 rfl) ?_
                refine xVW_i (As := []) (rest := [.ref (ad 22)]) (wr := []) (wg := (fun u => WM cs ad u)) hx hb hml hown hT hN hK hP hD hS hA cw_X11_101 hm (fun z h => tcX11_facts l D cs ad H.size S z h) ⟨rfl, rfl⟩ ⟨by decide, by decide⟩ [0, 1, 2, 3, 4, 5, 6, 7, 8, 9, 10, 11] [] [0, 1, 2, 3, 4, 5, 6, 7, 8, 9, 10, 11] rfl (by decide) rfl (by decide) (by decide) (fun _ => rfl) (by decide) (b := (ad 22)) 0 rfl rfl rfl hl.1 rfl rfl (Nat.le_of_ble_eq_true rfl) dX11_readItems_75 ⟨Nat.zero_le _, Nat.zero_le _⟩ (fun r91 S90 H locs hm hP hD hS => ?_)
                refine lv_goto (tgt := 85) hx hb dX11_readItems_78 (by decide) ?_
                refine pf_X11_111 (wf := (fun u => WM cs ad u)) (u0 := mI S90 10 r91) hx hb hT hown hK hP hD hS 0 rfl (Nat.le_of_ble_eq_true rfl) rfl rfl rfl hm dX11_readItems_85 (fun S92 H locs hm hP hD hS => ?_)
                refine lv_iload_n hx hb dX11_readItems_88 rfl (lv_at hl 0 rfl) ?_
                refine x_if_ne (tgt := 108) hx hb dX11_readItems_89 (by decide) hm (fun hm => ?_) (fun hm => ?_)
                · refine lv_iload_n hx hb dX11_readItems_108 rfl (lv_at hl 0 rfl) ?_
                  refine lv_iconst (v := (nI 1)) hx hb dX11_readItems_109 (by decide) ?_
                  refine x_icmp_ne (tgt := 120) hx hb dX11_readItems_110 (by decide) hm (fun hm => ?_) (fun hm => ?_)
                  · refine lv_aload_n hx hb dX11_readItems_120 rfl (lv_at hl 1 rfl) ?_
                    refine xVW_i (As := []) (rest := []) (wr := []) (wg := (fun u => WM cs ad u)) hx hb hml hown hT hN hK hP hD hS hA cw_X11_118 hm (fun z h => tcX11_readsCourt l D cs ad H.size S92 z h) ⟨rfl, rfl⟩ ⟨by decide, by decide⟩ [0, 1, 2, 3, 4, 5, 6, 7, 8, 9, 10, 11] [] [0, 1, 2, 3, 4, 5, 6, 7, 8, 9, 10, 11] rfl (by decide) rfl (by decide) (by decide) (fun _ => rfl) (by decide) (b := (ad 22)) 0 rfl rfl rfl hl.1 rfl rfl (Nat.le_of_ble_eq_true rfl) dX11_readItems_121 ⟨Nat.zero_le _, Nat.zero_le _⟩ (fun r94 S93 H locs hm hP hD hS => ?_)
                    refine lv_istore_n (lv' := [(3, .int r94), (2, .int r54), (0, .ref (ad 22)), (1, .int y1)]) hx hb dX11_readItems_124 rfl hl (by decide) rfl (fun ls hl => ?_)
                    refine lv_iload_n hx hb dX11_readItems_125 rfl (lv_at hl 0 rfl) ?_
                    refine x_if_ne (tgt := 131) hx hb dX11_readItems_126 (by decide) hm (fun hm => ?_) (fun hm => ?_)
                    · refine x_iinc (lv' := fun x95 => [(1, .int x95), (3, .int r94), (2, .int r54), (0, .ref (ad 22))]) hx hb dX11_readItems_131 hl (k := 3) rfl (by decide) (v0 := (nI 1)) (by decide) (fun _ => rfl) hm (fun x95 ls hm hl => ?_)
                      refine lv_aload_n hx hb dX11_readItems_134 rfl (lv_at hl 3 rfl) ?_
                      refine xVW_v (As := []) (rest := []) (wr := []) (wg := (fun u => WM cs ad u)) hx hb hml hown hT hN hK hP hD hS hA cw_X11_88 hm (fun z h => tcX11_next l D cs ad H.size S93 z h) ⟨rfl, rfl⟩ ⟨by decide, by decide⟩ [0, 1, 2, 3, 4, 5, 6, 7, 8, 9, 10, 11] [] [0, 1, 2, 3, 4, 5, 6, 7, 8, 9, 10, 11] rfl (by decide) rfl (by decide) (by decide) (fun _ => rfl) (by decide) (b := (ad 22)) 0 rfl rfl rfl hl.1 rfl rfl (Nat.le_of_ble_eq_true rfl) dX11_readItems_135 ⟨Nat.zero_le _, Nat.zero_le _⟩ (fun S96 H locs hm hP hD hS => ?_)
                      refine lv_goto (tgt := 21) hx hb dX11_readItems_138 (by decide) ?_
                      exact ih x95 S96 hm H locs hP hD hS ls (lv_sub hl [3, 0] rfl)
                    · refine lv_iconst (v := (-1 : Int32)) hx hb dX11_readItems_129 (by decide) ?_
                      exact x_iretW (wf := (fun u => WM cs ad u)) hx hb hr hlk hK hP hD hS hm dX11_readItems_130
                  · refine lv_aload_n hx hb dX11_readItems_113 rfl (lv_at hl 1 rfl) ?_
                    refine xVW_i (As := []) (rest := []) (wr := []) (wg := (fun u => WM cs ad u)) hx hb hml hown hT hN hK hP hD hS hA cw_X11_114 hm (fun z h => tcX11_readsFiction l D cs ad H.size S92 z h) ⟨rfl, rfl⟩ ⟨by decide, by decide⟩ [0, 1, 2, 3, 4, 5, 6, 7, 8, 9, 10, 11] [] [0, 1, 2, 3, 4, 5, 6, 7, 8, 9, 10, 11] rfl (by decide) rfl (by decide) (by decide) (fun _ => rfl) (by decide) (b := (ad 22)) 0 rfl rfl rfl hl.1 rfl rfl (Nat.le_of_ble_eq_true rfl) dX11_readItems_114 ⟨Nat.zero_le _, Nat.zero_le _⟩ (fun r98 S97 H locs hm hP hD hS => ?_)
                    refine lv_goto (tgt := 124) hx hb dX11_readItems_117 (by decide) ?_
                    refine lv_istore_n (lv' := [(3, .int r98), (2, .int r54), (0, .ref (ad 22)), (1, .int y1)]) hx hb dX11_readItems_124 rfl hl (by decide) rfl (fun ls hl => ?_)
                    refine lv_iload_n hx hb dX11_readItems_125 rfl (lv_at hl 0 rfl) ?_
                    refine x_if_ne (tgt := 131) hx hb dX11_readItems_126 (by decide) hm (fun hm => ?_) (fun hm => ?_)
                    · refine x_iinc (lv' := fun x99 => [(1, .int x99), (3, .int r98), (2, .int r54), (0, .ref (ad 22))]) hx hb dX11_readItems_131 hl (k := 3) rfl (by decide) (v0 := (nI 1)) (by decide) (fun _ => rfl) hm (fun x99 ls hm hl => ?_)
                      refine lv_aload_n hx hb dX11_readItems_134 rfl (lv_at hl 3 rfl) ?_
                      refine xVW_v (As := []) (rest := []) (wr := []) (wg := (fun u => WM cs ad u)) hx hb hml hown hT hN hK hP hD hS hA cw_X11_88 hm (fun z h => tcX11_next l D cs ad H.size S97 z h) ⟨rfl, rfl⟩ ⟨by decide, by decide⟩ [0, 1, 2, 3, 4, 5, 6, 7, 8, 9, 10, 11] [] [0, 1, 2, 3, 4, 5, 6, 7, 8, 9, 10, 11] rfl (by decide) rfl (by decide) (by decide) (fun _ => rfl) (by decide) (b := (ad 22)) 0 rfl rfl rfl hl.1 rfl rfl (Nat.le_of_ble_eq_true rfl) dX11_readItems_135 ⟨Nat.zero_le _, Nat.zero_le _⟩ (fun S100 H locs hm hP hD hS => ?_)
                      refine lv_goto (tgt := 21) hx hb dX11_readItems_138 (by decide) ?_
                      exact ih x99 S100 hm H locs hP hD hS ls (lv_sub hl [3, 0] rfl)
                    · refine lv_iconst (v := (-1 : Int32)) hx hb dX11_readItems_129 (by decide) ?_
                      exact x_iretW (wf := (fun u => WM cs ad u)) hx hb hr hlk hK hP hD hS hm dX11_readItems_130
                · refine lv_aload_n hx hb dX11_readItems_92 rfl (lv_at hl 1 rfl) ?_
                  refine gf_X11_111 (v := .int (S92.2.1 10)) hx hb hT hown hK hP 0 rfl rfl dX11_readItems_93 ?_
                  refine lv_iconst (v := (-1 : Int32)) hx hb dX11_readItems_96 (by decide) ?_
                  refine x_icmp_eq (tgt := 104) hx hb dX11_readItems_97 (by decide) hm (fun hm => ?_) (fun hm => ?_)
                  · refine lv_iconst (v := (nI 0)) hx hb dX11_readItems_104 (by decide) ?_
                    refine lv_goto (tgt := 124) hx hb dX11_readItems_105 (by decide) ?_
                    refine lv_istore_n (lv' := [(3, .int (nI 0)), (2, .int r54), (0, .ref (ad 22)), (1, .int y1)]) hx hb dX11_readItems_124 rfl hl (by decide) rfl (fun ls hl => ?_)
                    refine lv_iload_n hx hb dX11_readItems_125 rfl (lv_at hl 0 rfl) ?_
                    refine lv_if_ne (tgt := 131) hx hb dX11_readItems_126 (by decide) (fun h => absurd h (by decide)) (fun _ => ?_)
                    refine lv_iconst (v := (-1 : Int32)) hx hb dX11_readItems_129 (by decide) ?_
                    exact x_iretW (wf := (fun u => WM cs ad u)) hx hb hr hlk hK hP hD hS hm dX11_readItems_130
                  · refine lv_iconst (v := (nI 1)) hx hb dX11_readItems_100 (by decide) ?_
                    refine lv_goto (tgt := 124) hx hb dX11_readItems_101 (by decide) ?_
                    refine lv_istore_n (lv' := [(3, .int (nI 1)), (2, .int r54), (0, .ref (ad 22)), (1, .int y1)]) hx hb dX11_readItems_124 rfl hl (by decide) rfl (fun ls hl => ?_)
                    refine lv_iload_n hx hb dX11_readItems_125 rfl (lv_at hl 0 rfl) ?_
                    refine lv_if_ne (tgt := 131) hx hb dX11_readItems_126 (by decide) (fun _ => ?_) (fun h => absurd h (by decide))
                    refine x_iinc (lv' := fun x101 => [(1, .int x101), (3, .int (nI 1)), (2, .int r54), (0, .ref (ad 22))]) hx hb dX11_readItems_131 hl (k := 3) rfl (by decide) (v0 := (nI 1)) (by decide) (fun _ => rfl) hm (fun x101 ls hm hl => ?_)
                    refine lv_aload_n hx hb dX11_readItems_134 rfl (lv_at hl 3 rfl) ?_
                    refine xVW_v (As := []) (rest := []) (wr := []) (wg := (fun u => WM cs ad u)) hx hb hml hown hT hN hK hP hD hS hA cw_X11_88 hm (fun z h => tcX11_next l D cs ad H.size S92 z h) ⟨rfl, rfl⟩ ⟨by decide, by decide⟩ [0, 1, 2, 3, 4, 5, 6, 7, 8, 9, 10, 11] [] [0, 1, 2, 3, 4, 5, 6, 7, 8, 9, 10, 11] rfl (by decide) rfl (by decide) (by decide) (fun _ => rfl) (by decide) (b := (ad 22)) 0 rfl rfl rfl hl.1 rfl rfl (Nat.le_of_ble_eq_true rfl) dX11_readItems_135 ⟨Nat.zero_le _, Nat.zero_le _⟩ (fun S102 H locs hm hP hD hS => ?_)
                    refine lv_goto (tgt := 21) hx hb dX11_readItems_138 (by decide) ?_
                    exact ih x101 S102 hm H locs hP hD hS ls (lv_sub hl [3, 0] rfl)
set_option maxHeartbeats 4000000 in
set_option maxRecDepth 100000 in
theorem tcX11_readItems (l : Launch) (D : va_G) (cs : CS) (ad : Nat → Nat) (sz : Nat) (S : MS) (z : Int32 × MS) (hm : mX11_readItems S = some z) : Met l yX11_readItems (Cond.code yX11_readItems cX11_readItems 4 (some .int) :: gw_tbl) ({ frames := 5, cells := 0, slots := 0, locals := 112 }) (PcW D cs sz (WM cs ad S) [.ref (ad 22)]) (QWi D cs (va_A (WM cs ad S) sz) (fun u => WM cs ad u) z) 0 0 (va_A (WM cs ad S) sz) := by
  refine met_W rfl (Nat.le_of_ble_eq_true rfl) (fun p e s m below meth c E hP hD hS hA ls hl => ?_)
  generalize va_A (WM cs ad S) sz = A at hD hS hA ⊢
  obtain ⟨hx, hb, hr, hml, hown, hlk, hT, hN, hK⟩ := id E
  obtain ⟨H, hH⟩ : ∃ H, H = s.heap := ⟨_, rfl⟩
  obtain ⟨locs, hlo⟩ : ∃ L : List Loc, L = [] := ⟨_, rfl⟩
  have hP : va_P D classes (WM cs ad S) H := by rw [hH]; exact hP
  have hS : va_S A s.heap H locs := by rw [hH, hlo]; exact hS
  rw [show W p l e _ s m _ below meth c s.heap [] 0 0 = W p l e _ s m _ below meth c H locs 0 0 by rw [hH, hlo]]
  have hl : lv_has ls 4 [(0, .ref (ad 22))] := hl
  unfold mX11_readItems at hm
  refine lv_aload_n hx hb dX11_readItems_0 rfl (lv_at hl 0 rfl) ?_
  refine lv_iconst (v := (nI 0)) hx hb dX11_readItems_1 (by decide) ?_
  refine pf_X11_72 (wf := (fun u => WM cs ad u)) (u0 := mI S 9 (nI 0)) hx hb hT hown hK hP hD hS 0 rfl (Nat.le_of_ble_eq_true rfl) rfl rfl rfl hm dX11_readItems_2 (fun S1 H locs hm hP hD hS => ?_)
  refine lv_aload_n hx hb dX11_readItems_5 rfl (lv_at hl 0 rfl) ?_
  refine lv_iconst (v := (nI 0)) hx hb dX11_readItems_6 (by decide) ?_
  refine pf_X11_95 (wf := (fun u => WM cs ad u)) (u0 := mI S1 12 (nI 0)) hx hb hT hown hK hP hD hS 0 rfl (Nat.le_of_ble_eq_true rfl) rfl rfl rfl hm dX11_readItems_7 (fun S2 H locs hm hP hD hS => ?_)
  refine lv_aload_n hx hb dX11_readItems_10 rfl (lv_at hl 0 rfl) ?_
  refine lv_iconst (v := (nI 0)) hx hb dX11_readItems_11 (by decide) ?_
  refine pf_X11_105 (wf := (fun u => WM cs ad u)) (u0 := mI S2 14 (nI 0)) hx hb hT hown hK hP hD hS 0 rfl (Nat.le_of_ble_eq_true rfl) rfl rfl rfl hm dX11_readItems_12 (fun S3 H locs hm hP hD hS => ?_)
  refine lv_iconst (v := (nI 0)) hx hb dX11_readItems_15 (by decide) ?_
  refine lv_istore_n (lv' := [(1, .int (nI 0)), (0, .ref (ad 22))]) hx hb dX11_readItems_16 rfl hl (by decide) rfl (fun ls hl => ?_)
  refine lv_aload_n hx hb dX11_readItems_17 rfl (lv_at hl 1 rfl) ?_
  refine xVW_v (As := []) (rest := []) (wr := []) (wg := (fun u => WM cs ad u)) hx hb hml hown hT hN hK hP hD hS hA cw_X11_88 hm (fun z h => tcX11_next l D cs ad H.size S3 z h) ⟨rfl, rfl⟩ ⟨by decide, by decide⟩ [0, 1, 2, 3, 4, 5, 6, 7, 8, 9, 10, 11] [] [0, 1, 2, 3, 4, 5, 6, 7, 8, 9, 10, 11] rfl (by decide) rfl (by decide) (by decide) (fun _ => rfl) (by decide) (b := (ad 22)) 0 rfl rfl rfl hl.1 rfl rfl (Nat.le_of_ble_eq_true rfl) dX11_readItems_18 ⟨Nat.zero_le _, Nat.zero_le _⟩ (fun S4 H locs hm hP hD hS => ?_)
  exact kX11_readItems_L21 E hA _ FU (nI 0) S4 hm H locs hP hD hS ls (lv_sub hl [1, 0] rfl)
noncomputable def mX11_read_L86  : Nat → Int32 → Int32 → MS → Option (Int32 × MS) := fun n => Nat.rec (motive := fun _ => Int32 → Int32 → MS → Option (Int32 × MS)) (fun _ _ _ => none) (fun _ rc => fun y1 y2 S => (if (S.2.1 14) ≤ y2 then some (y1, S) else ald (S.1 13) 8 ((nI 2) * y2) fun v4 => ald (S.1 13) 8 (((nI 2) * y2) + (nI 1)) fun v5 => (mX11_addCourt S v4 v5).bind fun S6 => nm (y2 + (nI 1)) fun x7 => rc y1 x7 S6)) n
theorem mX11_read_L86_s  (n : Nat) (y1 : Int32) (y2 : Int32) (S : MS) : mX11_read_L86  (n + 1) y1 y2 S = (if (S.2.1 14) ≤ y2 then some (y1, S) else ald (S.1 13) 8 ((nI 2) * y2) fun v4 => ald (S.1 13) 8 (((nI 2) * y2) + (nI 1)) fun v5 => (mX11_addCourt S v4 v5).bind fun S6 => nm (y2 + (nI 1)) fun x7 => (mX11_read_L86  n) y1 x7 S6) := rfl
noncomputable def mX11_read_L28  : Nat → Int32 → Int32 → MS → Option (Int32 × MS) := fun n => Nat.rec (motive := fun _ => Int32 → Int32 → MS → Option (Int32 × MS)) (fun _ _ _ => none) (fun _ rc => fun y1 y2 S => (if (S.2.1 12) ≤ y2 then mX11_read_L86 FU y1 (nI 0) S else ald (S.1 11) 24 ((nI 4) * y2) fun v8 => ald (S.1 11) 24 (((nI 4) * y2) + (nI 1)) fun v9 => ald (S.1 11) 24 (((nI 4) * y2) + (nI 2)) fun v10 => ald (S.1 11) 24 (((nI 4) * y2) + (nI 3)) fun v11 => (mX11_addFiction S v8 v9 v10 v11).bind fun S12 => nm (y2 + (nI 1)) fun x13 => rc y1 x13 S12)) n
theorem mX11_read_L28_s  (n : Nat) (y1 : Int32) (y2 : Int32) (S : MS) : mX11_read_L28  (n + 1) y1 y2 S = (if (S.2.1 12) ≤ y2 then mX11_read_L86 FU y1 (nI 0) S else ald (S.1 11) 24 ((nI 4) * y2) fun v8 => ald (S.1 11) 24 (((nI 4) * y2) + (nI 1)) fun v9 => ald (S.1 11) 24 (((nI 4) * y2) + (nI 2)) fun v10 => ald (S.1 11) 24 (((nI 4) * y2) + (nI 3)) fun v11 => (mX11_addFiction S v8 v9 v10 v11).bind fun S12 => nm (y2 + (nI 1)) fun x13 => (mX11_read_L28  n) y1 x13 S12) := rfl
noncomputable def mX11_read (S : MS) : Option (Int32 × MS) := (mX11_readItems S).bind fun ⟨r2, S1⟩ => (if r2 = (-1 : Int32) then some (((-10 : Int32) - (S1.2.1 8)), S1) else (mX11_layBook S1 (S1.2.1 10)).bind fun S3 => mX11_read_L28 FU r2 (nI 0) S3)
set_option maxHeartbeats 4000000 in
set_option maxRecDepth 100000 in
theorem kX11_read_L86 {p : Program} {l : Launch} {e : Env} {s : State} {m : MethodId} {below : List Frame} {meth : Method} {c : Code} {D : va_G} {cs : CS} {A : Nat → Prop}  {ad : Nat → Nat}  (E : EV p s m [.ref (ad 22)].toArray meth c cX11_read 3 RX11 (some .int) D cs) (hA : ∀ q : Nat, s.heap.size ≤ q → A q) (z : Int32 × MS) : ∀ (n : Nat) (y1 : Int32) (y2 : Int32) (S : MS), mX11_read_L86  n y1 y2 S = some z → ∀ (H : Heap) (locs : List Loc), va_P D classes (WM cs ad S) H → va_D A (WM cs ad S) → va_S A s.heap H locs → ∀ ls : Array Slot, lv_has ls 3 [(0, .ref (ad 22)), (1, .int y1), (2, .int y2)] → W p l e ({ frames := 6, cells := 0, slots := 0, locals := 135 }) s m [.ref (ad 22)].toArray below meth c H locs 0 0 (MQ below (QWi D cs A (fun u => WM cs ad u) z) [.ref (ad 22)].toArray s 0 0 A) (F0 m 86 ls []) := by
  obtain ⟨hx, hb, hr, hml, hown, hlk, hT, hN, hK⟩ := id E
  intro n
  induction n with
  | zero =>
    intro y1 y2 S hm
    exact nomatch (show (none : Option (Int32 × MS)) = some z from hm)
  | succ n ih =>
    intro y1 y2 S hm H locs hP hD hS ls hl
    rw [mX11_read_L86_s] at hm
    refine lv_iload_n hx hb dX11_read_86 rfl (lv_at hl 2 rfl) ?_
    refine lv_aload_n hx hb dX11_read_87 rfl (lv_at hl 0 rfl) ?_
    refine gf_X11_105 (v := .int (S.2.1 14)) hx hb hT hown hK hP 0 rfl rfl dX11_read_88 ?_
    refine x_icmp_ge (tgt := 122) hx hb dX11_read_91 (by decide) hm (fun hm => ?_) (fun hm => ?_)
    · refine lv_iload_n hx hb dX11_read_122 rfl (lv_at hl 1 rfl) ?_
      exact x_iretW (wf := (fun u => WM cs ad u)) hx hb hr hlk hK hP hD hS hm dX11_read_123
    · refine lv_aload_n hx hb dX11_read_94 rfl (lv_at hl 0 rfl) ?_
      refine lv_aload_n hx hb dX11_read_95 rfl (lv_at hl 0 rfl) ?_
      refine gf_X11_33 (v := .ref (ad 13)) hx hb hT hown hK hP 0 rfl rfl dX11_read_96 ?_
      refine lv_iconst (v := (nI 2)) hx hb dX11_read_99 (by decide) ?_
      refine lv_iload_n hx hb dX11_read_100 rfl (lv_at hl 2 rfl) ?_
      refine lv_imul hx hb dX11_read_101 ?_
      refine x_iald hx hb hK hP 7 rfl hm dX11_read_102 (fun v4 hm => ?_)
      refine lv_aload_n hx hb dX11_read_103 rfl (lv_at hl 0 rfl) ?_
      refine gf_X11_33 (v := .ref (ad 13)) hx hb hT hown hK hP 0 rfl rfl dX11_read_104 ?_
      refine lv_iconst (v := (nI 2)) hx hb dX11_read_107 (by decide) ?_
      refine lv_iload_n hx hb dX11_read_108 rfl (lv_at hl 2 rfl) ?_
      refine lv_imul hx hb dX11_read_109 ?_
      refine lv_iconst (v := (nI 1)) hx hb dX11_read_110 (by decide) ?_
      refine lv_iadd hx hb dX11_read_111 ?_
      refine x_iald hx hb hK hP 7 rfl hm dX11_read_112 (fun v5 hm => ?_)
      refine xVW_v (As := [.int v4, .int v5]) (rest := []) (wr := []) (wg := (fun u => WM cs ad u)) hx hb hml hown hT hN hK hP hD hS hA cw_X11_64 hm (fun z h => tcX11_addCourt l D cs ad H.size S v4 v5 z h) ⟨rfl, rfl⟩ ⟨by decide, by decide⟩ [0, 1, 2, 3, 4, 5, 6, 7, 8, 9, 10, 11] [] [0, 1, 2, 3, 4, 5, 6, 7, 8, 9, 10, 11] rfl (by decide) rfl (by decide) (by decide) (fun _ => rfl) (by decide) (b := (ad 22)) 0 rfl rfl rfl hl.1 rfl rfl (Nat.le_of_ble_eq_true rfl) dX11_read_113 ⟨Nat.zero_le _, Nat.zero_le _⟩ (fun S6 H locs hm hP hD hS => ?_)
      refine x_iinc (lv' := fun x7 => [(2, .int x7), (0, .ref (ad 22)), (1, .int y1)]) hx hb dX11_read_116 hl (k := 2) rfl (by decide) (v0 := (nI 1)) (by decide) (fun _ => rfl) hm (fun x7 ls hm hl => ?_)
      refine lv_goto (tgt := 86) hx hb dX11_read_119 (by decide) ?_
      exact ih y1 x7 S6 hm H locs hP hD hS ls (lv_sub hl [1, 2, 0] rfl)
set_option maxHeartbeats 4000000 in
set_option maxRecDepth 100000 in
theorem kX11_read_L28 {p : Program} {l : Launch} {e : Env} {s : State} {m : MethodId} {below : List Frame} {meth : Method} {c : Code} {D : va_G} {cs : CS} {A : Nat → Prop}  {ad : Nat → Nat}  (E : EV p s m [.ref (ad 22)].toArray meth c cX11_read 3 RX11 (some .int) D cs) (hA : ∀ q : Nat, s.heap.size ≤ q → A q) (z : Int32 × MS) : ∀ (n : Nat) (y1 : Int32) (y2 : Int32) (S : MS), mX11_read_L28  n y1 y2 S = some z → ∀ (H : Heap) (locs : List Loc), va_P D classes (WM cs ad S) H → va_D A (WM cs ad S) → va_S A s.heap H locs → ∀ ls : Array Slot, lv_has ls 3 [(0, .ref (ad 22)), (1, .int y1), (2, .int y2)] → W p l e ({ frames := 6, cells := 0, slots := 0, locals := 135 }) s m [.ref (ad 22)].toArray below meth c H locs 0 0 (MQ below (QWi D cs A (fun u => WM cs ad u) z) [.ref (ad 22)].toArray s 0 0 A) (F0 m 28 ls []) := by
  obtain ⟨hx, hb, hr, hml, hown, hlk, hT, hN, hK⟩ := id E
  intro n
  induction n with
  | zero =>
    intro y1 y2 S hm
    exact nomatch (show (none : Option (Int32 × MS)) = some z from hm)
  | succ n ih =>
    intro y1 y2 S hm H locs hP hD hS ls hl
    rw [mX11_read_L28_s] at hm
    refine lv_iload_n hx hb dX11_read_28 rfl (lv_at hl 2 rfl) ?_
    refine lv_aload_n hx hb dX11_read_29 rfl (lv_at hl 0 rfl) ?_
    refine gf_X11_95 (v := .int (S.2.1 12)) hx hb hT hown hK hP 0 rfl rfl dX11_read_30 ?_
    refine x_icmp_ge (tgt := 84) hx hb dX11_read_33 (by decide) hm (fun hm => ?_) (fun hm => ?_)
    · refine lv_iconst (v := (nI 0)) hx hb dX11_read_84 (by decide) ?_
      refine lv_istore_n (lv' := [(2, .int (nI 0)), (0, .ref (ad 22)), (1, .int y1)]) hx hb dX11_read_85 rfl hl (by decide) rfl (fun ls hl => ?_)
      exact kX11_read_L86 E hA _ FU y1 (nI 0) S hm H locs hP hD hS ls (lv_sub hl [1, 2, 0] rfl)
    · refine lv_aload_n hx hb dX11_read_36 rfl (lv_at hl 0 rfl) ?_
      refine lv_aload_n hx hb dX11_read_37 rfl (lv_at hl 0 rfl) ?_
      refine gf_X11_30 (v := .ref (ad 11)) hx hb hT hown hK hP 0 rfl rfl dX11_read_38 ?_
      refine lv_iconst (v := (nI 4)) hx hb dX11_read_41 (by decide) ?_
      refine lv_iload_n hx hb dX11_read_42 rfl (lv_at hl 2 rfl) ?_
      refine lv_imul hx hb dX11_read_43 ?_
      refine x_iald hx hb hK hP 6 rfl hm dX11_read_44 (fun v8 hm => ?_)
      refine lv_aload_n hx hb dX11_read_45 rfl (lv_at hl 0 rfl) ?_
      refine gf_X11_30 (v := .ref (ad 11)) hx hb hT hown hK hP 0 rfl rfl dX11_read_46 ?_
      refine lv_iconst (v := (nI 4)) hx hb dX11_read_49 (by decide) ?_
      refine lv_iload_n hx hb dX11_read_50 rfl (lv_at hl 2 rfl) ?_
      refine lv_imul hx hb dX11_read_51 ?_
      refine lv_iconst (v := (nI 1)) hx hb dX11_read_52 (by decide) ?_
      refine lv_iadd hx hb dX11_read_53 ?_
      refine x_iald hx hb hK hP 6 rfl hm dX11_read_54 (fun v9 hm => ?_)
      refine lv_aload_n hx hb dX11_read_55 rfl (lv_at hl 0 rfl) ?_
      refine gf_X11_30 (v := .ref (ad 11)) hx hb hT hown hK hP 0 rfl rfl dX11_read_56 ?_
      refine lv_iconst (v := (nI 4)) hx hb dX11_read_59 (by decide) ?_
      refine lv_iload_n hx hb dX11_read_60 rfl (lv_at hl 2 rfl) ?_
      refine lv_imul hx hb dX11_read_61 ?_
      refine lv_iconst (v := (nI 2)) hx hb dX11_read_62 (by decide) ?_
      refine lv_iadd hx hb dX11_read_63 ?_
      refine x_iald hx hb hK hP 6 rfl hm dX11_read_64 (fun v10 hm => ?_)
      refine lv_aload_n hx hb dX11_read_65 rfl (lv_at hl 0 rfl) ?_
      refine gf_X11_30 (v := .ref (ad 11)) hx hb hT hown hK hP 0 rfl rfl dX11_read_66 ?_
      refine lv_iconst (v := (nI 4)) hx hb dX11_read_69 (by decide) ?_
      refine lv_iload_n hx hb dX11_read_70 rfl (lv_at hl 2 rfl) ?_
      refine lv_imul hx hb dX11_read_71 ?_
      refine lv_iconst (v := (nI 3)) hx hb dX11_read_72 (by decide) ?_
      refine lv_iadd hx hb dX11_read_73 ?_
      refine x_iald hx hb hK hP 6 rfl hm dX11_read_74 (fun v11 hm => ?_)
      refine xVW_v (As := [.int v8, .int v9, .int v10, .int v11]) (rest := []) (wr := []) (wg := (fun u => WM cs ad u)) hx hb hml hown hT hN hK hP hD hS hA cw_X11_60 hm (fun z h => tcX11_addFiction l D cs ad H.size S v8 v9 v10 v11 z h) ⟨rfl, rfl⟩ ⟨by decide, by decide⟩ [0, 1, 2, 3, 4, 5, 6, 7, 8, 9, 10, 11] [] [0, 1, 2, 3, 4, 5, 6, 7, 8, 9, 10, 11] rfl (by decide) rfl (by decide) (by decide) (fun _ => rfl) (by decide) (b := (ad 22)) 0 rfl rfl rfl hl.1 rfl rfl (Nat.le_of_ble_eq_true rfl) dX11_read_75 ⟨Nat.zero_le _, Nat.zero_le _⟩ (fun S12 H locs hm hP hD hS => ?_)
      refine x_iinc (lv' := fun x13 => [(2, .int x13), (0, .ref (ad 22)), (1, .int y1)]) hx hb dX11_read_78 hl (k := 2) rfl (by decide) (v0 := (nI 1)) (by decide) (fun _ => rfl) hm (fun x13 ls hm hl => ?_)
      refine lv_goto (tgt := 28) hx hb dX11_read_81 (by decide) ?_
      exact ih y1 x13 S12 hm H locs hP hD hS ls (lv_sub hl [1, 2, 0] rfl)
set_option maxHeartbeats 4000000 in
set_option maxRecDepth 100000 in
theorem tcX11_read (l : Launch) (D : va_G) (cs : CS) (ad : Nat → Nat) (sz : Nat) (S : MS) (z : Int32 × MS) (hm : mX11_read S = some z) : Met l yX11_read (Cond.code yX11_read cX11_read 3 (some .int) :: gw_tbl) ({ frames := 6, cells := 0, slots := 0, locals := 135 }) (PcW D cs sz (WM cs ad S) [.ref (ad 22)]) (QWi D cs (va_A (WM cs ad S) sz) (fun u => WM cs ad u) z) 0 0 (va_A (WM cs ad S) sz) := by
  refine met_W rfl (Nat.le_of_ble_eq_true rfl) (fun p e s m below meth c E hP hD hS hA ls hl => ?_)
  generalize va_A (WM cs ad S) sz = A at hD hS hA ⊢
  obtain ⟨hx, hb, hr, hml, hown, hlk, hT, hN, hK⟩ := id E
  obtain ⟨H, hH⟩ : ∃ H, H = s.heap := ⟨_, rfl⟩
  obtain ⟨locs, hlo⟩ : ∃ L : List Loc, L = [] := ⟨_, rfl⟩
  have hP : va_P D classes (WM cs ad S) H := by rw [hH]; exact hP
  have hS : va_S A s.heap H locs := by rw [hH, hlo]; exact hS
  rw [show W p l e _ s m _ below meth c s.heap [] 0 0 = W p l e _ s m _ below meth c H locs 0 0 by rw [hH, hlo]]
  have hl : lv_has ls 3 [(0, .ref (ad 22))] := hl
  unfold mX11_read at hm
  refine lv_aload_n hx hb dX11_read_0 rfl (lv_at hl 0 rfl) ?_
  refine xVW_i (As := []) (rest := []) (wr := []) (wg := (fun u => WM cs ad u)) hx hb hml hown hT hN hK hP hD hS hA cw_X11_121 hm (fun z h => tcX11_readItems l D cs ad H.size S z h) ⟨rfl, rfl⟩ ⟨by decide, by decide⟩ [0, 1, 2, 3, 4, 5, 6, 7, 8, 9, 10, 11] [] [0, 1, 2, 3, 4, 5, 6, 7, 8, 9, 10, 11] rfl (by decide) rfl (by decide) (by decide) (fun _ => rfl) (by decide) (b := (ad 22)) 0 rfl rfl rfl hl.1 rfl rfl (Nat.le_of_ble_eq_true rfl) dX11_read_1 ⟨Nat.zero_le _, Nat.zero_le _⟩ (fun r2 S1 H locs hm hP hD hS => ?_)
  refine lv_istore_n (lv' := [(1, .int r2), (0, .ref (ad 22))]) hx hb dX11_read_4 rfl hl (by decide) rfl (fun ls hl => ?_)
  refine lv_iload_n hx hb dX11_read_5 rfl (lv_at hl 0 rfl) ?_
  refine lv_iconst (v := (-1 : Int32)) hx hb dX11_read_6 (by decide) ?_
  refine x_icmp_ne (tgt := 18) hx hb dX11_read_7 (by decide) hm (fun hm => ?_) (fun hm => ?_)
  · refine lv_aload_n hx hb dX11_read_18 rfl (lv_at hl 1 rfl) ?_
    refine lv_aload_n hx hb dX11_read_19 rfl (lv_at hl 1 rfl) ?_
    refine gf_X11_111 (v := .int (S1.2.1 10)) hx hb hT hown hK hP 0 rfl rfl dX11_read_20 ?_
    refine xVW_v (As := [.int (S1.2.1 10)]) (rest := []) (wr := []) (wg := (fun u => WM cs ad u)) hx hb hml hown hT hN hK hP hD hS hA cw_X11_56 hm (fun z h => tcX11_layBook l D cs ad H.size S1 (S1.2.1 10) z h) ⟨rfl, rfl⟩ ⟨by decide, by decide⟩ [0, 1, 2, 3, 4, 5, 6, 7, 8, 9, 10, 11] [] [0, 1, 2, 3, 4, 5, 6, 7, 8, 9, 10, 11] rfl (by decide) rfl (by decide) (by decide) (fun _ => rfl) (by decide) (b := (ad 22)) 0 rfl rfl rfl hl.1 rfl rfl (Nat.le_of_ble_eq_true rfl) dX11_read_23 ⟨Nat.zero_le _, Nat.zero_le _⟩ (fun S3 H locs hm hP hD hS => ?_)
    refine lv_iconst (v := (nI 0)) hx hb dX11_read_26 (by decide) ?_
    refine lv_istore_n (lv' := [(2, .int (nI 0)), (1, .int r2), (0, .ref (ad 22))]) hx hb dX11_read_27 rfl hl (by decide) rfl (fun ls hl => ?_)
    exact kX11_read_L28 E hA _ FU r2 (nI 0) S3 hm H locs hP hD hS ls (lv_sub hl [2, 1, 0] rfl)
  · refine lv_bipush (v := (-10 : Int32)) hx hb dX11_read_10 (by decide) ?_
    refine lv_aload_n hx hb dX11_read_12 rfl (lv_at hl 1 rfl) ?_
    refine gf_X11_75 (v := .int (S1.2.1 8)) hx hb hT hown hK hP 0 rfl rfl dX11_read_13 ?_
    refine lv_isub hx hb dX11_read_16 ?_
    exact x_iretW (wf := (fun u => WM cs ad u)) hx hb hr hlk hK hP hD hS hm dX11_read_17
noncomputable def mX11_keepPast_L57  : Nat → Int32 → MS → Option MS := fun n => Nat.rec (motive := fun _ => Int32 → MS → Option MS) (fun _ _ => none) (fun _ rc => fun y1 S => (if (nI 3) ≤ y1 then ald (S.1 0) 288 (nI 70) fun v2 => ast 288 (nI 70) <| nm (mA S 0 ((nI 70).toNatClampNeg) (v2 + (nI 1))) fun S3 => some S3 else ald (S.1 0) 288 (nI 70) fun v4 => ald (S.1 0) 288 y1 fun v5 => ast 288 (((nI 71) + ((nI 3) * v4)) + y1) <| nm (mA S 0 ((((nI 71) + ((nI 3) * v4)) + y1).toNatClampNeg) v5) fun S6 => nm (y1 + (nI 1)) fun x7 => rc x7 S6)) n
theorem mX11_keepPast_L57_s  (n : Nat) (y1 : Int32) (S : MS) : mX11_keepPast_L57  (n + 1) y1 S = (if (nI 3) ≤ y1 then ald (S.1 0) 288 (nI 70) fun v2 => ast 288 (nI 70) <| nm (mA S 0 ((nI 70).toNatClampNeg) (v2 + (nI 1))) fun S3 => some S3 else ald (S.1 0) 288 (nI 70) fun v4 => ald (S.1 0) 288 y1 fun v5 => ast 288 (((nI 71) + ((nI 3) * v4)) + y1) <| nm (mA S 0 ((((nI 71) + ((nI 3) * v4)) + y1).toNatClampNeg) v5) fun S6 => nm (y1 + (nI 1)) fun x7 => (mX11_keepPast_L57  n) x7 S6) := rfl
noncomputable def mX11_keepPast_L14  : Nat → Int32 → MS → Option MS := fun n => Nat.rec (motive := fun _ => Int32 → MS → Option MS) (fun _ _ => none) (fun _ rc => fun y1 S => (if (nI 21) ≤ y1 then ald (S.1 0) 288 (nI 70) fun v8 => ast 288 (nI 70) <| nm (mA S 0 ((nI 70).toNatClampNeg) (v8 - (nI 1))) fun S9 => mX11_keepPast_L57 FU (nI 0) S9 else ald (S.1 0) 288 ((nI 74) + y1) fun v10 => ast 288 ((nI 71) + y1) <| nm (mA S 0 (((nI 71) + y1).toNatClampNeg) v10) fun S11 => nm (y1 + (nI 1)) fun x12 => rc x12 S11)) n
theorem mX11_keepPast_L14_s  (n : Nat) (y1 : Int32) (S : MS) : mX11_keepPast_L14  (n + 1) y1 S = (if (nI 21) ≤ y1 then ald (S.1 0) 288 (nI 70) fun v8 => ast 288 (nI 70) <| nm (mA S 0 ((nI 70).toNatClampNeg) (v8 - (nI 1))) fun S9 => mX11_keepPast_L57 FU (nI 0) S9 else ald (S.1 0) 288 ((nI 74) + y1) fun v10 => ast 288 ((nI 71) + y1) <| nm (mA S 0 (((nI 71) + y1).toNatClampNeg) v10) fun S11 => nm (y1 + (nI 1)) fun x12 => (mX11_keepPast_L14  n) x12 S11) := rfl
noncomputable def mX11_keepPast (S : MS) : Option MS := ald (S.1 0) 288 (nI 70) fun v1 => (if v1 = (nI 8) then mX11_keepPast_L14 FU (nI 0) S else mX11_keepPast_L57 FU (nI 0) S)
set_option maxHeartbeats 4000000 in
set_option maxRecDepth 100000 in
theorem kX11_keepPast_L57 {p : Program} {l : Launch} {e : Env} {s : State} {m : MethodId} {below : List Frame} {meth : Method} {c : Code} {D : va_G} {cs : CS} {A : Nat → Prop}  {ad : Nat → Nat}  (E : EV p s m [.ref (ad 22)].toArray meth c cX11_keepPast 2 RX11 none D cs) (hA : ∀ q : Nat, s.heap.size ≤ q → A q) (z : MS) : ∀ (n : Nat) (y1 : Int32) (S : MS), mX11_keepPast_L57  n y1 S = some z → ∀ (H : Heap) (locs : List Loc), va_P D classes (WM cs ad S) H → va_D A (WM cs ad S) → va_S A s.heap H locs → ∀ ls : Array Slot, lv_has ls 2 [(0, .ref (ad 22)), (1, .int y1)] → W p l e ({ frames := 0, cells := 0, slots := 0, locals := 0 }) s m [.ref (ad 22)].toArray below meth c H locs 0 0 (MQ below (QWv D cs A (fun u => WM cs ad u) z) [.ref (ad 22)].toArray s 0 0 A) (F0 m 57 ls []) := by
  obtain ⟨hx, hb, hr, hml, hown, hlk, hT, hN, hK⟩ := id E
  intro n
  induction n with
  | zero =>
    intro y1 S hm
    exact nomatch (show (none : Option MS) = some z from hm)
  | succ n ih =>
    intro y1 S hm H locs hP hD hS ls hl
    rw [mX11_keepPast_L57_s] at hm
    refine lv_iload_n hx hb dX11_keepPast_57 rfl (lv_at hl 1 rfl) ?_
    refine lv_iconst (v := (nI 3)) hx hb dX11_keepPast_58 (by decide) ?_
    refine x_icmp_ge (tgt := 93) hx hb dX11_keepPast_59 (by decide) hm (fun hm => ?_) (fun hm => ?_)
    · refine lv_aload_n hx hb dX11_keepPast_93 rfl (lv_at hl 0 rfl) ?_
      refine gf_X11_7 (v := .ref (ad 0)) hx hb hT hown hK hP 0 rfl rfl dX11_keepPast_94 ?_
      refine lv_bipush (v := (nI 70)) hx hb dX11_keepPast_97 (by decide) ?_
      refine lv_dup2_11 hx hb dX11_keepPast_99 rfl rfl ?_
      refine x_iald hx hb hK hP 1 rfl hm dX11_keepPast_100 (fun v2 hm => ?_)
      refine lv_iconst (v := (nI 1)) hx hb dX11_keepPast_101 (by decide) ?_
      refine lv_iadd hx hb dX11_keepPast_102 ?_
      refine x_iast hx hb hK hP hD hS 1 rfl (fun j => mA S 0 j (v2 + (nI 1))) (fun u => WM cs ad u) (fun _ => rfl) hm dX11_keepPast_103 (fun S3 H locs hm hP hD hS => ?_)
      exact x_vretW (wf := (fun u => WM cs ad u)) hx hb hr hlk hK hP hD hS hm dX11_keepPast_104
    · refine lv_aload_n hx hb dX11_keepPast_62 rfl (lv_at hl 0 rfl) ?_
      refine gf_X11_7 (v := .ref (ad 0)) hx hb hT hown hK hP 0 rfl rfl dX11_keepPast_63 ?_
      refine lv_bipush (v := (nI 71)) hx hb dX11_keepPast_66 (by decide) ?_
      refine lv_iconst (v := (nI 3)) hx hb dX11_keepPast_68 (by decide) ?_
      refine lv_aload_n hx hb dX11_keepPast_69 rfl (lv_at hl 0 rfl) ?_
      refine gf_X11_7 (v := .ref (ad 0)) hx hb hT hown hK hP 0 rfl rfl dX11_keepPast_70 ?_
      refine lv_bipush (v := (nI 70)) hx hb dX11_keepPast_73 (by decide) ?_
      refine x_iald hx hb hK hP 1 rfl hm dX11_keepPast_75 (fun v4 hm => ?_)
      refine lv_imul hx hb dX11_keepPast_76 ?_
      refine lv_iadd hx hb dX11_keepPast_77 ?_
      refine lv_iload_n hx hb dX11_keepPast_78 rfl (lv_at hl 1 rfl) ?_
      refine lv_iadd hx hb dX11_keepPast_79 ?_
      refine lv_aload_n hx hb dX11_keepPast_80 rfl (lv_at hl 0 rfl) ?_
      refine gf_X11_7 (v := .ref (ad 0)) hx hb hT hown hK hP 0 rfl rfl dX11_keepPast_81 ?_
      refine lv_iload_n hx hb dX11_keepPast_84 rfl (lv_at hl 1 rfl) ?_
      refine x_iald hx hb hK hP 1 rfl hm dX11_keepPast_85 (fun v5 hm => ?_)
      refine x_iast hx hb hK hP hD hS 1 rfl (fun j => mA S 0 j v5) (fun u => WM cs ad u) (fun _ => rfl) hm dX11_keepPast_86 (fun S6 H locs hm hP hD hS => ?_)
      refine x_iinc (lv' := fun x7 => [(1, .int x7), (0, .ref (ad 22))]) hx hb dX11_keepPast_87 hl (k := 1) rfl (by decide) (v0 := (nI 1)) (by decide) (fun _ => rfl) hm (fun x7 ls hm hl => ?_)
      refine lv_goto (tgt := 57) hx hb dX11_keepPast_90 (by decide) ?_
      exact ih x7 S6 hm H locs hP hD hS ls (lv_sub hl [1, 0] rfl)
set_option maxHeartbeats 4000000 in
set_option maxRecDepth 100000 in
theorem kX11_keepPast_L14 {p : Program} {l : Launch} {e : Env} {s : State} {m : MethodId} {below : List Frame} {meth : Method} {c : Code} {D : va_G} {cs : CS} {A : Nat → Prop}  {ad : Nat → Nat}  (E : EV p s m [.ref (ad 22)].toArray meth c cX11_keepPast 2 RX11 none D cs) (hA : ∀ q : Nat, s.heap.size ≤ q → A q) (z : MS) : ∀ (n : Nat) (y1 : Int32) (S : MS), mX11_keepPast_L14  n y1 S = some z → ∀ (H : Heap) (locs : List Loc), va_P D classes (WM cs ad S) H → va_D A (WM cs ad S) → va_S A s.heap H locs → ∀ ls : Array Slot, lv_has ls 2 [(0, .ref (ad 22)), (1, .int y1)] → W p l e ({ frames := 0, cells := 0, slots := 0, locals := 0 }) s m [.ref (ad 22)].toArray below meth c H locs 0 0 (MQ below (QWv D cs A (fun u => WM cs ad u) z) [.ref (ad 22)].toArray s 0 0 A) (F0 m 14 ls []) := by
  obtain ⟨hx, hb, hr, hml, hown, hlk, hT, hN, hK⟩ := id E
  intro n
  induction n with
  | zero =>
    intro y1 S hm
    exact nomatch (show (none : Option MS) = some z from hm)
  | succ n ih =>
    intro y1 S hm H locs hP hD hS ls hl
    rw [mX11_keepPast_L14_s] at hm
    refine lv_iload_n hx hb dX11_keepPast_14 rfl (lv_at hl 1 rfl) ?_
    refine lv_bipush (v := (nI 21)) hx hb dX11_keepPast_15 (by decide) ?_
    refine x_icmp_ge (tgt := 44) hx hb dX11_keepPast_17 (by decide) hm (fun hm => ?_) (fun hm => ?_)
    · refine lv_aload_n hx hb dX11_keepPast_44 rfl (lv_at hl 0 rfl) ?_
      refine gf_X11_7 (v := .ref (ad 0)) hx hb hT hown hK hP 0 rfl rfl dX11_keepPast_45 ?_
      refine lv_bipush (v := (nI 70)) hx hb dX11_keepPast_48 (by decide) ?_
      refine lv_dup2_11 hx hb dX11_keepPast_50 rfl rfl ?_
      refine x_iald hx hb hK hP 1 rfl hm dX11_keepPast_51 (fun v8 hm => ?_)
      refine lv_iconst (v := (nI 1)) hx hb dX11_keepPast_52 (by decide) ?_
      refine lv_isub hx hb dX11_keepPast_53 ?_
      refine x_iast hx hb hK hP hD hS 1 rfl (fun j => mA S 0 j (v8 - (nI 1))) (fun u => WM cs ad u) (fun _ => rfl) hm dX11_keepPast_54 (fun S9 H locs hm hP hD hS => ?_)
      refine lv_iconst (v := (nI 0)) hx hb dX11_keepPast_55 (by decide) ?_
      refine lv_istore_n (lv' := [(1, .int (nI 0)), (0, .ref (ad 22))]) hx hb dX11_keepPast_56 rfl hl (by decide) rfl (fun ls hl => ?_)
      exact kX11_keepPast_L57 E hA _ FU (nI 0) S9 hm H locs hP hD hS ls (lv_sub hl [1, 0] rfl)
    · refine lv_aload_n hx hb dX11_keepPast_20 rfl (lv_at hl 0 rfl) ?_
      refine gf_X11_7 (v := .ref (ad 0)) hx hb hT hown hK hP 0 rfl rfl dX11_keepPast_21 ?_
      refine lv_bipush (v := (nI 71)) hx hb dX11_keepPast_24 (by decide) ?_
      refine lv_iload_n hx hb dX11_keepPast_26 rfl (lv_at hl 1 rfl) ?_
      refine lv_iadd hx hb dX11_keepPast_27 ?_
      refine lv_aload_n hx hb dX11_keepPast_28 rfl (lv_at hl 0 rfl) ?_
      refine gf_X11_7 (v := .ref (ad 0)) hx hb hT hown hK hP 0 rfl rfl dX11_keepPast_29 ?_
      refine lv_bipush (v := (nI 74)) hx hb dX11_keepPast_32 (by decide) ?_
      refine lv_iload_n hx hb dX11_keepPast_34 rfl (lv_at hl 1 rfl) ?_
      refine lv_iadd hx hb dX11_keepPast_35 ?_
      refine x_iald hx hb hK hP 1 rfl hm dX11_keepPast_36 (fun v10 hm => ?_)
      refine x_iast hx hb hK hP hD hS 1 rfl (fun j => mA S 0 j v10) (fun u => WM cs ad u) (fun _ => rfl) hm dX11_keepPast_37 (fun S11 H locs hm hP hD hS => ?_)
      refine x_iinc (lv' := fun x12 => [(1, .int x12), (0, .ref (ad 22))]) hx hb dX11_keepPast_38 hl (k := 1) rfl (by decide) (v0 := (nI 1)) (by decide) (fun _ => rfl) hm (fun x12 ls hm hl => ?_)
      refine lv_goto (tgt := 14) hx hb dX11_keepPast_41 (by decide) ?_
      exact ih x12 S11 hm H locs hP hD hS ls (lv_sub hl [1, 0] rfl)
set_option maxHeartbeats 4000000 in
set_option maxRecDepth 100000 in
theorem tcX11_keepPast (l : Launch) (D : va_G) (cs : CS) (ad : Nat → Nat) (sz : Nat) (S : MS) (z : MS) (hm : mX11_keepPast S = some z) : Met l yX11_keepPast (Cond.code yX11_keepPast cX11_keepPast 2 none :: gw_tbl) ({ frames := 0, cells := 0, slots := 0, locals := 0 }) (PcW D cs sz (WM cs ad S) [.ref (ad 22)]) (QWv D cs (va_A (WM cs ad S) sz) (fun u => WM cs ad u) z) 0 0 (va_A (WM cs ad S) sz) := by
  refine met_W rfl (Nat.le_of_ble_eq_true rfl) (fun p e s m below meth c E hP hD hS hA ls hl => ?_)
  generalize va_A (WM cs ad S) sz = A at hD hS hA ⊢
  obtain ⟨hx, hb, hr, hml, hown, hlk, hT, hN, hK⟩ := id E
  obtain ⟨H, hH⟩ : ∃ H, H = s.heap := ⟨_, rfl⟩
  obtain ⟨locs, hlo⟩ : ∃ L : List Loc, L = [] := ⟨_, rfl⟩
  have hP : va_P D classes (WM cs ad S) H := by rw [hH]; exact hP
  have hS : va_S A s.heap H locs := by rw [hH, hlo]; exact hS
  rw [show W p l e _ s m _ below meth c s.heap [] 0 0 = W p l e _ s m _ below meth c H locs 0 0 by rw [hH, hlo]]
  have hl : lv_has ls 2 [(0, .ref (ad 22))] := hl
  unfold mX11_keepPast at hm
  refine lv_aload_n hx hb dX11_keepPast_0 rfl (lv_at hl 0 rfl) ?_
  refine gf_X11_7 (v := .ref (ad 0)) hx hb hT hown hK hP 0 rfl rfl dX11_keepPast_1 ?_
  refine lv_bipush (v := (nI 70)) hx hb dX11_keepPast_4 (by decide) ?_
  refine x_iald hx hb hK hP 1 rfl hm dX11_keepPast_6 (fun v1 hm => ?_)
  refine lv_bipush (v := (nI 8)) hx hb dX11_keepPast_7 (by decide) ?_
  refine x_icmp_ne (tgt := 55) hx hb dX11_keepPast_9 (by decide) hm (fun hm => ?_) (fun hm => ?_)
  · refine lv_iconst (v := (nI 0)) hx hb dX11_keepPast_55 (by decide) ?_
    refine lv_istore_n (lv' := [(1, .int (nI 0)), (0, .ref (ad 22))]) hx hb dX11_keepPast_56 rfl hl (by decide) rfl (fun ls hl => ?_)
    exact kX11_keepPast_L57 E hA _ FU (nI 0) S hm H locs hP hD hS ls (lv_sub hl [1, 0] rfl)
  · refine lv_iconst (v := (nI 0)) hx hb dX11_keepPast_12 (by decide) ?_
    refine lv_istore_n (lv' := [(1, .int (nI 0)), (0, .ref (ad 22))]) hx hb dX11_keepPast_13 rfl hl (by decide) rfl (fun ls hl => ?_)
    exact kX11_keepPast_L14 E hA _ FU (nI 0) S hm H locs hP hD hS ls (lv_sub hl [1, 0] rfl)
noncomputable def mX11_suit_L12  : Nat → Int32 → Int32 → MS → Option (Int32 × MS) := fun n => Nat.rec (motive := fun _ => Int32 → Int32 → MS → Option (Int32 × MS)) (fun _ _ _ => none) (fun _ rc => fun y1 y2 S => (if (nI 3) ≤ y2 then ast 288 (nI 70) <| nm (mA S 0 ((nI 70).toNatClampNeg) (nI 0)) fun S3 => some (y1, S3) else ast 288 y2 <| nm (mA S 0 y2.toNatClampNeg (nI 0)) fun S4 => nm (y2 + (nI 1)) fun x5 => rc y1 x5 S4)) n
theorem mX11_suit_L12_s  (n : Nat) (y1 : Int32) (y2 : Int32) (S : MS) : mX11_suit_L12  (n + 1) y1 y2 S = (if (nI 3) ≤ y2 then ast 288 (nI 70) <| nm (mA S 0 ((nI 70).toNatClampNeg) (nI 0)) fun S3 => some (y1, S3) else ast 288 y2 <| nm (mA S 0 y2.toNatClampNeg (nI 0)) fun S4 => nm (y2 + (nI 1)) fun x5 => (mX11_suit_L12  n) y1 x5 S4) := rfl
noncomputable def mX11_suit (S : MS) : Option (Int32 × MS) := ald (S.1 0) 288 (nI 0) fun v1 => (mX11_bits v1).bind fun r2 => mX11_suit_L12 FU r2 (nI 0) S
set_option maxHeartbeats 4000000 in
set_option maxRecDepth 100000 in
theorem kX11_suit_L12 {p : Program} {l : Launch} {e : Env} {s : State} {m : MethodId} {below : List Frame} {meth : Method} {c : Code} {D : va_G} {cs : CS} {A : Nat → Prop}  {ad : Nat → Nat}  (E : EV p s m [.ref (ad 22)].toArray meth c cX11_suit 3 RX11 (some .int) D cs) (hA : ∀ q : Nat, s.heap.size ≤ q → A q) (z : Int32 × MS) : ∀ (n : Nat) (y1 : Int32) (y2 : Int32) (S : MS), mX11_suit_L12  n y1 y2 S = some z → ∀ (H : Heap) (locs : List Loc), va_P D classes (WM cs ad S) H → va_D A (WM cs ad S) → va_S A s.heap H locs → ∀ ls : Array Slot, lv_has ls 3 [(0, .ref (ad 22)), (1, .int y1), (2, .int y2)] → W p l e ({ frames := 1, cells := 0, slots := 0, locals := 22 }) s m [.ref (ad 22)].toArray below meth c H locs 0 0 (MQ below (QWi D cs A (fun u => WM cs ad u) z) [.ref (ad 22)].toArray s 0 0 A) (F0 m 12 ls []) := by
  obtain ⟨hx, hb, hr, hml, hown, hlk, hT, hN, hK⟩ := id E
  intro n
  induction n with
  | zero =>
    intro y1 y2 S hm
    exact nomatch (show (none : Option (Int32 × MS)) = some z from hm)
  | succ n ih =>
    intro y1 y2 S hm H locs hP hD hS ls hl
    rw [mX11_suit_L12_s] at hm
    refine lv_iload_n hx hb dX11_suit_12 rfl (lv_at hl 2 rfl) ?_
    refine lv_iconst (v := (nI 3)) hx hb dX11_suit_13 (by decide) ?_
    refine x_icmp_ge (tgt := 30) hx hb dX11_suit_14 (by decide) hm (fun hm => ?_) (fun hm => ?_)
    · refine lv_aload_n hx hb dX11_suit_30 rfl (lv_at hl 0 rfl) ?_
      refine gf_X11_7 (v := .ref (ad 0)) hx hb hT hown hK hP 0 rfl rfl dX11_suit_31 ?_
      refine lv_bipush (v := (nI 70)) hx hb dX11_suit_34 (by decide) ?_
      refine lv_iconst (v := (nI 0)) hx hb dX11_suit_36 (by decide) ?_
      refine x_iast hx hb hK hP hD hS 1 rfl (fun j => mA S 0 j (nI 0)) (fun u => WM cs ad u) (fun _ => rfl) hm dX11_suit_37 (fun S3 H locs hm hP hD hS => ?_)
      refine lv_iload_n hx hb dX11_suit_38 rfl (lv_at hl 1 rfl) ?_
      exact x_iretW (wf := (fun u => WM cs ad u)) hx hb hr hlk hK hP hD hS hm dX11_suit_39
    · refine lv_aload_n hx hb dX11_suit_17 rfl (lv_at hl 0 rfl) ?_
      refine gf_X11_7 (v := .ref (ad 0)) hx hb hT hown hK hP 0 rfl rfl dX11_suit_18 ?_
      refine lv_iload_n hx hb dX11_suit_21 rfl (lv_at hl 2 rfl) ?_
      refine lv_iconst (v := (nI 0)) hx hb dX11_suit_22 (by decide) ?_
      refine x_iast hx hb hK hP hD hS 1 rfl (fun j => mA S 0 j (nI 0)) (fun u => WM cs ad u) (fun _ => rfl) hm dX11_suit_23 (fun S4 H locs hm hP hD hS => ?_)
      refine x_iinc (lv' := fun x5 => [(2, .int x5), (0, .ref (ad 22)), (1, .int y1)]) hx hb dX11_suit_24 hl (k := 2) rfl (by decide) (v0 := (nI 1)) (by decide) (fun _ => rfl) hm (fun x5 ls hm hl => ?_)
      refine lv_goto (tgt := 12) hx hb dX11_suit_27 (by decide) ?_
      exact ih y1 x5 S4 hm H locs hP hD hS ls (lv_sub hl [1, 2, 0] rfl)
set_option maxHeartbeats 4000000 in
set_option maxRecDepth 100000 in
theorem tcX11_suit (l : Launch) (D : va_G) (cs : CS) (ad : Nat → Nat) (sz : Nat) (S : MS) (z : Int32 × MS) (hm : mX11_suit S = some z) : Met l yX11_suit (Cond.code yX11_suit cX11_suit 3 (some .int) :: gw_tbl) ({ frames := 1, cells := 0, slots := 0, locals := 22 }) (PcW D cs sz (WM cs ad S) [.ref (ad 22)]) (QWi D cs (va_A (WM cs ad S) sz) (fun u => WM cs ad u) z) 0 0 (va_A (WM cs ad S) sz) := by
  refine met_W rfl (Nat.le_of_ble_eq_true rfl) (fun p e s m below meth c E hP hD hS hA ls hl => ?_)
  generalize va_A (WM cs ad S) sz = A at hD hS hA ⊢
  obtain ⟨hx, hb, hr, hml, hown, hlk, hT, hN, hK⟩ := id E
  obtain ⟨H, hH⟩ : ∃ H, H = s.heap := ⟨_, rfl⟩
  obtain ⟨locs, hlo⟩ : ∃ L : List Loc, L = [] := ⟨_, rfl⟩
  have hP : va_P D classes (WM cs ad S) H := by rw [hH]; exact hP
  have hS : va_S A s.heap H locs := by rw [hH, hlo]; exact hS
  rw [show W p l e _ s m _ below meth c s.heap [] 0 0 = W p l e _ s m _ below meth c H locs 0 0 by rw [hH, hlo]]
  have hl : lv_has ls 3 [(0, .ref (ad 22))] := hl
  unfold mX11_suit at hm
  refine lv_aload_n hx hb dX11_suit_0 rfl (lv_at hl 0 rfl) ?_
  refine gf_X11_7 (v := .ref (ad 0)) hx hb hT hown hK hP 0 rfl rfl dX11_suit_1 ?_
  refine lv_iconst (v := (nI 0)) hx hb dX11_suit_4 (by decide) ?_
  refine x_iald hx hb hK hP 1 rfl hm dX11_suit_5 (fun v1 hm => ?_)
  refine xS_i (As := [.int v1]) (rest := []) hx hb hml hown hT hN hK (hP.sub (ws' := []) [] rfl) cw_X11_132 hm (fun z h => tcX11_bits l D cs v1 z h) ⟨rfl, rfl⟩ ⟨by decide, by decide⟩ hl.1 rfl rfl (Nat.le_of_ble_eq_true rfl) dX11_suit_6 ⟨Nat.zero_le _, Nat.zero_le _⟩ (fun r2 hm => ?_)
  refine lv_istore_n (lv' := [(1, .int r2), (0, .ref (ad 22))]) hx hb dX11_suit_9 rfl hl (by decide) rfl (fun ls hl => ?_)
  refine lv_iconst (v := (nI 0)) hx hb dX11_suit_10 (by decide) ?_
  refine lv_istore_n (lv' := [(2, .int (nI 0)), (1, .int r2), (0, .ref (ad 22))]) hx hb dX11_suit_11 rfl hl (by decide) rfl (fun ls hl => ?_)
  exact kX11_suit_L12 E hA _ FU r2 (nI 0) S hm H locs hP hD hS ls (lv_sub hl [2, 1, 0] rfl)
noncomputable def mX11_pleadAt (S : MS) (a1 : Int32) (a2 : Int32) : Option MS := ald (S.1 0) 288 (a1 + (nI 2)) fun v1 => ald (S.1 0) 288 (a1 + (nI 1)) fun v2 => (mX11_cost S a2 v2).bind fun r3 => ast 288 (a1 + (nI 2)) <| nm (mA S 0 ((a1 + (nI 2)).toNatClampNeg) (v1 + r3)) fun S4 => ald (S4.1 0) 288 (a1 + (nI 0)) fun v5 => ast 288 (a1 + (nI 0)) <| nm (mA S4 0 ((a1 + (nI 0)).toNatClampNeg) (v5 ||| ((nI 1) <<< (a2 &&& 31)))) fun S6 => ald (S6.1 0) 288 (a1 + (nI 1)) fun v7 => ast 288 (a1 + (nI 1)) <| nm (mA S6 0 ((a1 + (nI 1)).toNatClampNeg) (v7 + (nI 1))) fun S8 => some S8
set_option maxHeartbeats 4000000 in
set_option maxRecDepth 100000 in
theorem tcX11_pleadAt (l : Launch) (D : va_G) (cs : CS) (ad : Nat → Nat) (sz : Nat) (S : MS) (a1 : Int32) (a2 : Int32) (z : MS) (hm : mX11_pleadAt S a1 a2 = some z) : Met l yX11_pleadAt (Cond.code yX11_pleadAt cX11_pleadAt 3 none :: gw_tbl) ({ frames := 2, cells := 0, slots := 0, locals := 44 }) (PcW D cs sz (WM cs ad S) [.ref (ad 22), .int a1, .int a2]) (QWv D cs (va_A (WM cs ad S) sz) (fun u => WM cs ad u) z) 0 0 (va_A (WM cs ad S) sz) := by
  refine met_W rfl (Nat.le_of_ble_eq_true rfl) (fun p e s m below meth c E hP hD hS hA ls hl => ?_)
  generalize va_A (WM cs ad S) sz = A at hD hS hA ⊢
  obtain ⟨hx, hb, hr, hml, hown, hlk, hT, hN, hK⟩ := id E
  obtain ⟨H, hH⟩ : ∃ H, H = s.heap := ⟨_, rfl⟩
  obtain ⟨locs, hlo⟩ : ∃ L : List Loc, L = [] := ⟨_, rfl⟩
  have hP : va_P D classes (WM cs ad S) H := by rw [hH]; exact hP
  have hS : va_S A s.heap H locs := by rw [hH, hlo]; exact hS
  rw [show W p l e _ s m _ below meth c s.heap [] 0 0 = W p l e _ s m _ below meth c H locs 0 0 by rw [hH, hlo]]
  have hl : lv_has ls 3 [(0, .ref (ad 22)), (1, .int a1), (2, .int a2)] := hl
  unfold mX11_pleadAt at hm
  refine lv_aload_n hx hb dX11_pleadAt_0 rfl (lv_at hl 0 rfl) ?_
  refine gf_X11_7 (v := .ref (ad 0)) hx hb hT hown hK hP 0 rfl rfl dX11_pleadAt_1 ?_
  refine lv_iload_n hx hb dX11_pleadAt_4 rfl (lv_at hl 1 rfl) ?_
  refine lv_iconst (v := (nI 2)) hx hb dX11_pleadAt_5 (by decide) ?_
  refine lv_iadd hx hb dX11_pleadAt_6 ?_
  refine lv_dup2_11 hx hb dX11_pleadAt_7 rfl rfl ?_
  refine x_iald hx hb hK hP 1 rfl hm dX11_pleadAt_8 (fun v1 hm => ?_)
  refine lv_aload_n hx hb dX11_pleadAt_9 rfl (lv_at hl 0 rfl) ?_
  refine lv_iload_n hx hb dX11_pleadAt_10 rfl (lv_at hl 2 rfl) ?_
  refine lv_aload_n hx hb dX11_pleadAt_11 rfl (lv_at hl 0 rfl) ?_
  refine gf_X11_7 (v := .ref (ad 0)) hx hb hT hown hK hP 0 rfl rfl dX11_pleadAt_12 ?_
  refine lv_iload_n hx hb dX11_pleadAt_15 rfl (lv_at hl 1 rfl) ?_
  refine lv_iconst (v := (nI 1)) hx hb dX11_pleadAt_16 (by decide) ?_
  refine lv_iadd hx hb dX11_pleadAt_17 ?_
  refine x_iald hx hb hK hP 1 rfl hm dX11_pleadAt_18 (fun v2 hm => ?_)
  refine xV_i (As := [.int a2, .int v2]) (rest := [.int v1, .int (a1 + (nI 2)), .ref (ad 0)]) hx hb hml hown hT hN hK hP cw_X11_138 hm (fun z h => tcX11_cost l D cs ad S a2 v2 z h) ⟨rfl, rfl⟩ ⟨by decide, by decide⟩ (b := (ad 22)) 0 rfl rfl rfl hl.1 rfl rfl (Nat.le_of_ble_eq_true rfl) dX11_pleadAt_19 ⟨Nat.zero_le _, Nat.zero_le _⟩ (fun r3 hm => ?_)
  refine lv_iadd hx hb dX11_pleadAt_22 ?_
  refine x_iast hx hb hK hP hD hS 1 rfl (fun j => mA S 0 j (v1 + r3)) (fun u => WM cs ad u) (fun _ => rfl) hm dX11_pleadAt_23 (fun S4 H locs hm hP hD hS => ?_)
  refine lv_aload_n hx hb dX11_pleadAt_24 rfl (lv_at hl 0 rfl) ?_
  refine gf_X11_7 (v := .ref (ad 0)) hx hb hT hown hK hP 0 rfl rfl dX11_pleadAt_25 ?_
  refine lv_iload_n hx hb dX11_pleadAt_28 rfl (lv_at hl 1 rfl) ?_
  refine lv_iconst (v := (nI 0)) hx hb dX11_pleadAt_29 (by decide) ?_
  refine lv_iadd hx hb dX11_pleadAt_30 ?_
  refine lv_dup2_11 hx hb dX11_pleadAt_31 rfl rfl ?_
  refine x_iald hx hb hK hP 1 rfl hm dX11_pleadAt_32 (fun v5 hm => ?_)
  refine lv_iconst (v := (nI 1)) hx hb dX11_pleadAt_33 (by decide) ?_
  refine lv_iload_n hx hb dX11_pleadAt_34 rfl (lv_at hl 2 rfl) ?_
  refine lv_ishl hx hb dX11_pleadAt_35 ?_
  refine lv_ior hx hb dX11_pleadAt_36 ?_
  refine x_iast hx hb hK hP hD hS 1 rfl (fun j => mA S4 0 j (v5 ||| ((nI 1) <<< (a2 &&& 31)))) (fun u => WM cs ad u) (fun _ => rfl) hm dX11_pleadAt_37 (fun S6 H locs hm hP hD hS => ?_)
  refine lv_aload_n hx hb dX11_pleadAt_38 rfl (lv_at hl 0 rfl) ?_
  refine gf_X11_7 (v := .ref (ad 0)) hx hb hT hown hK hP 0 rfl rfl dX11_pleadAt_39 ?_
  refine lv_iload_n hx hb dX11_pleadAt_42 rfl (lv_at hl 1 rfl) ?_
  refine lv_iconst (v := (nI 1)) hx hb dX11_pleadAt_43 (by decide) ?_
  refine lv_iadd hx hb dX11_pleadAt_44 ?_
  refine lv_dup2_11 hx hb dX11_pleadAt_45 rfl rfl ?_
  refine x_iald hx hb hK hP 1 rfl hm dX11_pleadAt_46 (fun v7 hm => ?_)
  refine lv_iconst (v := (nI 1)) hx hb dX11_pleadAt_47 (by decide) ?_
  refine lv_iadd hx hb dX11_pleadAt_48 ?_
  refine x_iast hx hb hK hP hD hS 1 rfl (fun j => mA S6 0 j (v7 + (nI 1))) (fun u => WM cs ad u) (fun _ => rfl) hm dX11_pleadAt_49 (fun S8 H locs hm hP hD hS => ?_)
  exact x_vretW (wf := (fun u => WM cs ad u)) hx hb hr hlk hK hP hD hS hm dX11_pleadAt_50
noncomputable def mX11_plead (S : MS) (a1 : Int32) : Option (Int32 × MS) := (mX11_isFiction S a1).bind fun r1 => (if r1 = 0 then (mX11_refuse S (-2 : Int32)).bind fun ⟨r12, S11⟩ => some (r12, S11) else ald (S.1 0) 288 (nI 0) fun v2 => ald (S.1 0) 288 (nI 1) fun v3 => (mX11_mayPlead S a1 v2 v3).bind fun r4 => (if r4 = 0 then (mX11_refuse S (-3 : Int32)).bind fun ⟨r10, S9⟩ => some (r10, S9) else (mX11_keepPast S).bind fun S5 => ald (S5.1 0) 288 (nI 2) fun v6 => (mX11_pleadAt S5 (nI 0) a1).bind fun S7 => ald (S7.1 0) 288 (nI 2) fun v8 => some ((v8 - v6), S7)))
set_option maxHeartbeats 4000000 in
set_option maxRecDepth 100000 in
theorem tcX11_plead (l : Launch) (D : va_G) (cs : CS) (ad : Nat → Nat) (sz : Nat) (S : MS) (a1 : Int32) (z : Int32 × MS) (hm : mX11_plead S a1 = some z) : Met l yX11_plead (Cond.code yX11_plead cX11_plead 3 (some .int) :: gw_tbl) ({ frames := 3, cells := 0, slots := 0, locals := 70 }) (PcW D cs sz (WM cs ad S) [.ref (ad 22), .int a1]) (QWi D cs (va_A (WM cs ad S) sz) (fun u => WM cs ad u) z) 0 0 (va_A (WM cs ad S) sz) := by
  refine met_W rfl (Nat.le_of_ble_eq_true rfl) (fun p e s m below meth c E hP hD hS hA ls hl => ?_)
  generalize va_A (WM cs ad S) sz = A at hD hS hA ⊢
  obtain ⟨hx, hb, hr, hml, hown, hlk, hT, hN, hK⟩ := id E
  obtain ⟨H, hH⟩ : ∃ H, H = s.heap := ⟨_, rfl⟩
  obtain ⟨locs, hlo⟩ : ∃ L : List Loc, L = [] := ⟨_, rfl⟩
  have hP : va_P D classes (WM cs ad S) H := by rw [hH]; exact hP
  have hS : va_S A s.heap H locs := by rw [hH, hlo]; exact hS
  rw [show W p l e _ s m _ below meth c s.heap [] 0 0 = W p l e _ s m _ below meth c H locs 0 0 by rw [hH, hlo]]
  have hl : lv_has ls 3 [(0, .ref (ad 22)), (1, .int a1)] := hl
  unfold mX11_plead at hm
  refine lv_aload_n hx hb dX11_plead_0 rfl (lv_at hl 0 rfl) ?_
  refine lv_iload_n hx hb dX11_plead_1 rfl (lv_at hl 1 rfl) ?_
  refine xV_i (As := [.int a1]) (rest := []) hx hb hml hown hT hN hK hP cw_X11_141 hm (fun z h => tcX11_isFiction l D cs ad S a1 z h) ⟨rfl, rfl⟩ ⟨by decide, by decide⟩ (b := (ad 22)) 0 rfl rfl rfl hl.1 rfl rfl (Nat.le_of_ble_eq_true rfl) dX11_plead_2 ⟨Nat.zero_le _, Nat.zero_le _⟩ (fun r1 hm => ?_)
  refine x_if_ne (tgt := 15) hx hb dX11_plead_5 (by decide) hm (fun hm => ?_) (fun hm => ?_)
  · refine lv_aload_n hx hb dX11_plead_15 rfl (lv_at hl 0 rfl) ?_
    refine lv_iload_n hx hb dX11_plead_16 rfl (lv_at hl 1 rfl) ?_
    refine lv_aload_n hx hb dX11_plead_17 rfl (lv_at hl 0 rfl) ?_
    refine gf_X11_7 (v := .ref (ad 0)) hx hb hT hown hK hP 0 rfl rfl dX11_plead_18 ?_
    refine lv_iconst (v := (nI 0)) hx hb dX11_plead_21 (by decide) ?_
    refine x_iald hx hb hK hP 1 rfl hm dX11_plead_22 (fun v2 hm => ?_)
    refine lv_aload_n hx hb dX11_plead_23 rfl (lv_at hl 0 rfl) ?_
    refine gf_X11_7 (v := .ref (ad 0)) hx hb hT hown hK hP 0 rfl rfl dX11_plead_24 ?_
    refine lv_iconst (v := (nI 1)) hx hb dX11_plead_27 (by decide) ?_
    refine x_iald hx hb hK hP 1 rfl hm dX11_plead_28 (fun v3 hm => ?_)
    refine xV_i (As := [.int a1, .int v2, .int v3]) (rest := []) hx hb hml hown hT hN hK hP cw_X11_144 hm (fun z h => tcX11_mayPlead l D cs ad S a1 v2 v3 z h) ⟨rfl, rfl⟩ ⟨by decide, by decide⟩ (b := (ad 22)) 0 rfl rfl rfl hl.1 rfl rfl (Nat.le_of_ble_eq_true rfl) dX11_plead_29 ⟨Nat.zero_le _, Nat.zero_le _⟩ (fun r4 hm => ?_)
    refine x_if_ne (tgt := 42) hx hb dX11_plead_32 (by decide) hm (fun hm => ?_) (fun hm => ?_)
    · refine lv_aload_n hx hb dX11_plead_42 rfl (lv_at hl 0 rfl) ?_
      refine xVW_v (As := []) (rest := []) (wr := []) (wg := (fun u => WM cs ad u)) hx hb hml hown hT hN hK hP hD hS hA cw_X11_147 hm (fun z h => tcX11_keepPast l D cs ad H.size S z h) ⟨rfl, rfl⟩ ⟨by decide, by decide⟩ [0, 1, 2, 3, 4, 5, 6, 7, 8, 9, 10, 11] [] [0, 1, 2, 3, 4, 5, 6, 7, 8, 9, 10, 11] rfl (by decide) rfl (by decide) (by decide) (fun _ => rfl) (by decide) (b := (ad 22)) 0 rfl rfl rfl hl.1 rfl rfl (Nat.le_of_ble_eq_true rfl) dX11_plead_43 ⟨Nat.zero_le _, Nat.zero_le _⟩ (fun S5 H locs hm hP hD hS => ?_)
      refine lv_aload_n hx hb dX11_plead_46 rfl (lv_at hl 0 rfl) ?_
      refine gf_X11_7 (v := .ref (ad 0)) hx hb hT hown hK hP 0 rfl rfl dX11_plead_47 ?_
      refine lv_iconst (v := (nI 2)) hx hb dX11_plead_50 (by decide) ?_
      refine x_iald hx hb hK hP 1 rfl hm dX11_plead_51 (fun v6 hm => ?_)
      refine lv_istore_n (lv' := [(2, .int v6), (0, .ref (ad 22)), (1, .int a1)]) hx hb dX11_plead_52 rfl hl (by decide) rfl (fun ls hl => ?_)
      refine lv_aload_n hx hb dX11_plead_53 rfl (lv_at hl 1 rfl) ?_
      refine lv_iconst (v := (nI 0)) hx hb dX11_plead_54 (by decide) ?_
      refine lv_iload_n hx hb dX11_plead_55 rfl (lv_at hl 2 rfl) ?_
      refine xVW_v (As := [.int (nI 0), .int a1]) (rest := []) (wr := []) (wg := (fun u => WM cs ad u)) hx hb hml hown hT hN hK hP hD hS hA cw_X11_150 hm (fun z h => tcX11_pleadAt l D cs ad H.size S5 (nI 0) a1 z h) ⟨rfl, rfl⟩ ⟨by decide, by decide⟩ [0, 1, 2, 3, 4, 5, 6, 7, 8, 9, 10, 11] [] [0, 1, 2, 3, 4, 5, 6, 7, 8, 9, 10, 11] rfl (by decide) rfl (by decide) (by decide) (fun _ => rfl) (by decide) (b := (ad 22)) 0 rfl rfl rfl hl.1 rfl rfl (Nat.le_of_ble_eq_true rfl) dX11_plead_56 ⟨Nat.zero_le _, Nat.zero_le _⟩ (fun S7 H locs hm hP hD hS => ?_)
      refine lv_aload_n hx hb dX11_plead_59 rfl (lv_at hl 1 rfl) ?_
      refine gf_X11_7 (v := .ref (ad 0)) hx hb hT hown hK hP 0 rfl rfl dX11_plead_60 ?_
      refine lv_iconst (v := (nI 2)) hx hb dX11_plead_63 (by decide) ?_
      refine x_iald hx hb hK hP 1 rfl hm dX11_plead_64 (fun v8 hm => ?_)
      refine lv_iload_n hx hb dX11_plead_65 rfl (lv_at hl 0 rfl) ?_
      refine lv_isub hx hb dX11_plead_66 ?_
      exact x_iretW (wf := (fun u => WM cs ad u)) hx hb hr hlk hK hP hD hS hm dX11_plead_67
    · refine lv_aload_n hx hb dX11_plead_35 rfl (lv_at hl 0 rfl) ?_
      refine lv_bipush (v := (-3 : Int32)) hx hb dX11_plead_36 (by decide) ?_
      refine xVW_i (As := [.int (-3 : Int32)]) (rest := []) (wr := []) (wg := (fun u => WM cs ad u)) hx hb hml hown hT hN hK hP hD hS hA cw_X11_48 hm (fun z h => tcX11_refuse l D cs ad H.size S (-3 : Int32) z h) ⟨rfl, rfl⟩ ⟨by decide, by decide⟩ [0, 1, 2, 3, 4, 5, 6, 7, 8, 9, 10, 11] [] [0, 1, 2, 3, 4, 5, 6, 7, 8, 9, 10, 11] rfl (by decide) rfl (by decide) (by decide) (fun _ => rfl) (by decide) (b := (ad 22)) 0 rfl rfl rfl hl.1 rfl rfl (Nat.le_of_ble_eq_true rfl) dX11_plead_38 ⟨Nat.zero_le _, Nat.zero_le _⟩ (fun r10 S9 H locs hm hP hD hS => ?_)
      exact x_iretW (wf := (fun u => WM cs ad u)) hx hb hr hlk hK hP hD hS hm dX11_plead_41
  · refine lv_aload_n hx hb dX11_plead_8 rfl (lv_at hl 0 rfl) ?_
    refine lv_bipush (v := (-2 : Int32)) hx hb dX11_plead_9 (by decide) ?_
    refine xVW_i (As := [.int (-2 : Int32)]) (rest := []) (wr := []) (wg := (fun u => WM cs ad u)) hx hb hml hown hT hN hK hP hD hS hA cw_X11_48 hm (fun z h => tcX11_refuse l D cs ad H.size S (-2 : Int32) z h) ⟨rfl, rfl⟩ ⟨by decide, by decide⟩ [0, 1, 2, 3, 4, 5, 6, 7, 8, 9, 10, 11] [] [0, 1, 2, 3, 4, 5, 6, 7, 8, 9, 10, 11] rfl (by decide) rfl (by decide) (by decide) (fun _ => rfl) (by decide) (b := (ad 22)) 0 rfl rfl rfl hl.1 rfl rfl (Nat.le_of_ble_eq_true rfl) dX11_plead_11 ⟨Nat.zero_le _, Nat.zero_le _⟩ (fun r12 S11 H locs hm hP hD hS => ?_)
    exact x_iretW (wf := (fun u => WM cs ad u)) hx hb hr hlk hK hP hD hS hm dX11_plead_14
noncomputable def mX11_denyAt (S : MS) (a1 : Int32) (a2 : Int32) : Option (Int32 × MS) := ald (S.1 0) 288 (a1 + (nI 0)) fun v1 => (mX11_wins S a2).bind fun r2 => (if r2 = 0 then ast 288 (a1 + (nI 0)) <| nm (mA S 0 ((a1 + (nI 0)).toNatClampNeg) (v1 &&& (nI 63))) fun S3 => (mX11_wins S3 a2).bind fun r4 => (if r4 = 0 then some ((nI 0), S3) else some ((nI 1), S3)) else ast 288 (a1 + (nI 0)) <| nm (mA S 0 ((a1 + (nI 0)).toNatClampNeg) (v1 &&& (((nI 1) <<< (a2 &&& 31)) ^^^ (-1 : Int32)))) fun S5 => (mX11_wins S5 a2).bind fun r6 => (if r6 = 0 then some ((nI 0), S5) else some ((nI 1), S5)))
set_option maxHeartbeats 4000000 in
set_option maxRecDepth 100000 in
theorem tcX11_denyAt (l : Launch) (D : va_G) (cs : CS) (ad : Nat → Nat) (sz : Nat) (S : MS) (a1 : Int32) (a2 : Int32) (z : Int32 × MS) (hm : mX11_denyAt S a1 a2 = some z) : Met l yX11_denyAt (Cond.code yX11_denyAt cX11_denyAt 3 (some .int) :: gw_tbl) ({ frames := 2, cells := 0, slots := 0, locals := 44 }) (PcW D cs sz (WM cs ad S) [.ref (ad 22), .int a1, .int a2]) (QWi D cs (va_A (WM cs ad S) sz) (fun u => WM cs ad u) z) 0 0 (va_A (WM cs ad S) sz) := by
  refine met_W rfl (Nat.le_of_ble_eq_true rfl) (fun p e s m below meth c E hP hD hS hA ls hl => ?_)
  generalize va_A (WM cs ad S) sz = A at hD hS hA ⊢
  obtain ⟨hx, hb, hr, hml, hown, hlk, hT, hN, hK⟩ := id E
  obtain ⟨H, hH⟩ : ∃ H, H = s.heap := ⟨_, rfl⟩
  obtain ⟨locs, hlo⟩ : ∃ L : List Loc, L = [] := ⟨_, rfl⟩
  have hP : va_P D classes (WM cs ad S) H := by rw [hH]; exact hP
  have hS : va_S A s.heap H locs := by rw [hH, hlo]; exact hS
  rw [show W p l e _ s m _ below meth c s.heap [] 0 0 = W p l e _ s m _ below meth c H locs 0 0 by rw [hH, hlo]]
  have hl : lv_has ls 3 [(0, .ref (ad 22)), (1, .int a1), (2, .int a2)] := hl
  unfold mX11_denyAt at hm
  refine lv_aload_n hx hb dX11_denyAt_0 rfl (lv_at hl 0 rfl) ?_
  refine gf_X11_7 (v := .ref (ad 0)) hx hb hT hown hK hP 0 rfl rfl dX11_denyAt_1 ?_
  refine lv_iload_n hx hb dX11_denyAt_4 rfl (lv_at hl 1 rfl) ?_
  refine lv_iconst (v := (nI 0)) hx hb dX11_denyAt_5 (by decide) ?_
  refine lv_iadd hx hb dX11_denyAt_6 ?_
  refine lv_dup2_11 hx hb dX11_denyAt_7 rfl rfl ?_
  refine x_iald hx hb hK hP 1 rfl hm dX11_denyAt_8 (fun v1 hm => ?_)
  refine lv_aload_n hx hb dX11_denyAt_9 rfl (lv_at hl 0 rfl) ?_
  refine lv_iload_n hx hb dX11_denyAt_10 rfl (lv_at hl 2 rfl) ?_
  refine xV_i (As := [.int a2]) (rest := [.int v1, .int (a1 + (nI 0)), .ref (ad 0)]) hx hb hml hown hT hN hK hP cw_X11_153 hm (fun z h => tcX11_wins l D cs ad S a2 z h) ⟨rfl, rfl⟩ ⟨by decide, by decide⟩ (b := (ad 22)) 0 rfl rfl rfl hl.1 rfl rfl (Nat.le_of_ble_eq_true rfl) dX11_denyAt_11 ⟨Nat.zero_le _, Nat.zero_le _⟩ (fun r2 hm => ?_)
  refine x_if_eq (tgt := 25) hx hb dX11_denyAt_14 (by decide) hm (fun hm => ?_) (fun hm => ?_)
  · refine lv_bipush (v := (nI 63)) hx hb dX11_denyAt_25 (by decide) ?_
    refine lv_iand hx hb dX11_denyAt_27 ?_
    refine x_iast hx hb hK hP hD hS 1 rfl (fun j => mA S 0 j (v1 &&& (nI 63))) (fun u => WM cs ad u) (fun _ => rfl) hm dX11_denyAt_28 (fun S3 H locs hm hP hD hS => ?_)
    refine lv_aload_n hx hb dX11_denyAt_29 rfl (lv_at hl 0 rfl) ?_
    refine lv_iload_n hx hb dX11_denyAt_30 rfl (lv_at hl 2 rfl) ?_
    refine xV_i (As := [.int a2]) (rest := []) hx hb hml hown hT hN hK hP cw_X11_153 hm (fun z h => tcX11_wins l D cs ad S3 a2 z h) ⟨rfl, rfl⟩ ⟨by decide, by decide⟩ (b := (ad 22)) 0 rfl rfl rfl hl.1 rfl rfl (Nat.le_of_ble_eq_true rfl) dX11_denyAt_31 ⟨Nat.zero_le _, Nat.zero_le _⟩ (fun r4 hm => ?_)
    refine x_if_eq (tgt := 41) hx hb dX11_denyAt_34 (by decide) hm (fun hm => ?_) (fun hm => ?_)
    · refine lv_iconst (v := (nI 0)) hx hb dX11_denyAt_41 (by decide) ?_
      exact x_iretW (wf := (fun u => WM cs ad u)) hx hb hr hlk hK hP hD hS hm dX11_denyAt_42
    · refine lv_iconst (v := (nI 1)) hx hb dX11_denyAt_37 (by decide) ?_
      refine lv_goto (tgt := 42) hx hb dX11_denyAt_38 (by decide) ?_
      exact x_iretW (wf := (fun u => WM cs ad u)) hx hb hr hlk hK hP hD hS hm dX11_denyAt_42
  · refine lv_iconst (v := (nI 1)) hx hb dX11_denyAt_17 (by decide) ?_
    refine lv_iload_n hx hb dX11_denyAt_18 rfl (lv_at hl 2 rfl) ?_
    refine lv_ishl hx hb dX11_denyAt_19 ?_
    refine lv_iconst (v := (-1 : Int32)) hx hb dX11_denyAt_20 (by decide) ?_
    refine lv_ixor hx hb dX11_denyAt_21 ?_
    refine lv_goto (tgt := 27) hx hb dX11_denyAt_22 (by decide) ?_
    refine lv_iand hx hb dX11_denyAt_27 ?_
    refine x_iast hx hb hK hP hD hS 1 rfl (fun j => mA S 0 j (v1 &&& (((nI 1) <<< (a2 &&& 31)) ^^^ (-1 : Int32)))) (fun u => WM cs ad u) (fun _ => rfl) hm dX11_denyAt_28 (fun S5 H locs hm hP hD hS => ?_)
    refine lv_aload_n hx hb dX11_denyAt_29 rfl (lv_at hl 0 rfl) ?_
    refine lv_iload_n hx hb dX11_denyAt_30 rfl (lv_at hl 2 rfl) ?_
    refine xV_i (As := [.int a2]) (rest := []) hx hb hml hown hT hN hK hP cw_X11_153 hm (fun z h => tcX11_wins l D cs ad S5 a2 z h) ⟨rfl, rfl⟩ ⟨by decide, by decide⟩ (b := (ad 22)) 0 rfl rfl rfl hl.1 rfl rfl (Nat.le_of_ble_eq_true rfl) dX11_denyAt_31 ⟨Nat.zero_le _, Nat.zero_le _⟩ (fun r6 hm => ?_)
    refine x_if_eq (tgt := 41) hx hb dX11_denyAt_34 (by decide) hm (fun hm => ?_) (fun hm => ?_)
    · refine lv_iconst (v := (nI 0)) hx hb dX11_denyAt_41 (by decide) ?_
      exact x_iretW (wf := (fun u => WM cs ad u)) hx hb hr hlk hK hP hD hS hm dX11_denyAt_42
    · refine lv_iconst (v := (nI 1)) hx hb dX11_denyAt_37 (by decide) ?_
      refine lv_goto (tgt := 42) hx hb dX11_denyAt_38 (by decide) ?_
      exact x_iretW (wf := (fun u => WM cs ad u)) hx hb hr hlk hK hP hD hS hm dX11_denyAt_42
noncomputable def mX11_deny (S : MS) (a1 : Int32) : Option (Int32 × MS) := (mX11_isFiction S a1).bind fun r1 => (if r1 = 0 then (mX11_refuse S (-2 : Int32)).bind fun ⟨r10, S9⟩ => some (r10, S9) else ald (S.1 0) 288 (nI 0) fun v2 => (mX11_has v2 a1).bind fun r3 => (if r3 = 0 then (mX11_refuse S (-3 : Int32)).bind fun ⟨r8, S7⟩ => some (r8, S7) else (mX11_keepPast S).bind fun S4 => (mX11_denyAt S4 (nI 0) a1).bind fun ⟨r6, S5⟩ => some (r6, S5)))
set_option maxHeartbeats 4000000 in
set_option maxRecDepth 100000 in
theorem tcX11_deny (l : Launch) (D : va_G) (cs : CS) (ad : Nat → Nat) (sz : Nat) (S : MS) (a1 : Int32) (z : Int32 × MS) (hm : mX11_deny S a1 = some z) : Met l yX11_deny (Cond.code yX11_deny cX11_deny 2 (some .int) :: gw_tbl) ({ frames := 3, cells := 0, slots := 0, locals := 66 }) (PcW D cs sz (WM cs ad S) [.ref (ad 22), .int a1]) (QWi D cs (va_A (WM cs ad S) sz) (fun u => WM cs ad u) z) 0 0 (va_A (WM cs ad S) sz) := by
  refine met_W rfl (Nat.le_of_ble_eq_true rfl) (fun p e s m below meth c E hP hD hS hA ls hl => ?_)
  generalize va_A (WM cs ad S) sz = A at hD hS hA ⊢
  obtain ⟨hx, hb, hr, hml, hown, hlk, hT, hN, hK⟩ := id E
  obtain ⟨H, hH⟩ : ∃ H, H = s.heap := ⟨_, rfl⟩
  obtain ⟨locs, hlo⟩ : ∃ L : List Loc, L = [] := ⟨_, rfl⟩
  have hP : va_P D classes (WM cs ad S) H := by rw [hH]; exact hP
  have hS : va_S A s.heap H locs := by rw [hH, hlo]; exact hS
  rw [show W p l e _ s m _ below meth c s.heap [] 0 0 = W p l e _ s m _ below meth c H locs 0 0 by rw [hH, hlo]]
  have hl : lv_has ls 2 [(0, .ref (ad 22)), (1, .int a1)] := hl
  unfold mX11_deny at hm
  refine lv_aload_n hx hb dX11_deny_0 rfl (lv_at hl 0 rfl) ?_
  refine lv_iload_n hx hb dX11_deny_1 rfl (lv_at hl 1 rfl) ?_
  refine xV_i (As := [.int a1]) (rest := []) hx hb hml hown hT hN hK hP cw_X11_141 hm (fun z h => tcX11_isFiction l D cs ad S a1 z h) ⟨rfl, rfl⟩ ⟨by decide, by decide⟩ (b := (ad 22)) 0 rfl rfl rfl hl.1 rfl rfl (Nat.le_of_ble_eq_true rfl) dX11_deny_2 ⟨Nat.zero_le _, Nat.zero_le _⟩ (fun r1 hm => ?_)
  refine x_if_ne (tgt := 15) hx hb dX11_deny_5 (by decide) hm (fun hm => ?_) (fun hm => ?_)
  · refine lv_aload_n hx hb dX11_deny_15 rfl (lv_at hl 0 rfl) ?_
    refine gf_X11_7 (v := .ref (ad 0)) hx hb hT hown hK hP 0 rfl rfl dX11_deny_16 ?_
    refine lv_iconst (v := (nI 0)) hx hb dX11_deny_19 (by decide) ?_
    refine x_iald hx hb hK hP 1 rfl hm dX11_deny_20 (fun v2 hm => ?_)
    refine lv_iload_n hx hb dX11_deny_21 rfl (lv_at hl 1 rfl) ?_
    refine xS_i (As := [.int v2, .int a1]) (rest := []) hx hb hml hown hT hN hK (hP.sub (ws' := []) [] rfl) cw_X11_124 hm (fun z h => tcX11_has l D cs v2 a1 z h) ⟨rfl, rfl⟩ ⟨by decide, by decide⟩ hl.1 rfl rfl (Nat.le_of_ble_eq_true rfl) dX11_deny_22 ⟨Nat.zero_le _, Nat.zero_le _⟩ (fun r3 hm => ?_)
    refine x_if_ne (tgt := 35) hx hb dX11_deny_25 (by decide) hm (fun hm => ?_) (fun hm => ?_)
    · refine lv_aload_n hx hb dX11_deny_35 rfl (lv_at hl 0 rfl) ?_
      refine xVW_v (As := []) (rest := []) (wr := []) (wg := (fun u => WM cs ad u)) hx hb hml hown hT hN hK hP hD hS hA cw_X11_147 hm (fun z h => tcX11_keepPast l D cs ad H.size S z h) ⟨rfl, rfl⟩ ⟨by decide, by decide⟩ [0, 1, 2, 3, 4, 5, 6, 7, 8, 9, 10, 11] [] [0, 1, 2, 3, 4, 5, 6, 7, 8, 9, 10, 11] rfl (by decide) rfl (by decide) (by decide) (fun _ => rfl) (by decide) (b := (ad 22)) 0 rfl rfl rfl hl.1 rfl rfl (Nat.le_of_ble_eq_true rfl) dX11_deny_36 ⟨Nat.zero_le _, Nat.zero_le _⟩ (fun S4 H locs hm hP hD hS => ?_)
      refine lv_aload_n hx hb dX11_deny_39 rfl (lv_at hl 0 rfl) ?_
      refine lv_iconst (v := (nI 0)) hx hb dX11_deny_40 (by decide) ?_
      refine lv_iload_n hx hb dX11_deny_41 rfl (lv_at hl 1 rfl) ?_
      refine xVW_i (As := [.int (nI 0), .int a1]) (rest := []) (wr := []) (wg := (fun u => WM cs ad u)) hx hb hml hown hT hN hK hP hD hS hA cw_X11_156 hm (fun z h => tcX11_denyAt l D cs ad H.size S4 (nI 0) a1 z h) ⟨rfl, rfl⟩ ⟨by decide, by decide⟩ [0, 1, 2, 3, 4, 5, 6, 7, 8, 9, 10, 11] [] [0, 1, 2, 3, 4, 5, 6, 7, 8, 9, 10, 11] rfl (by decide) rfl (by decide) (by decide) (fun _ => rfl) (by decide) (b := (ad 22)) 0 rfl rfl rfl hl.1 rfl rfl (Nat.le_of_ble_eq_true rfl) dX11_deny_42 ⟨Nat.zero_le _, Nat.zero_le _⟩ (fun r6 S5 H locs hm hP hD hS => ?_)
      exact x_iretW (wf := (fun u => WM cs ad u)) hx hb hr hlk hK hP hD hS hm dX11_deny_45
    · refine lv_aload_n hx hb dX11_deny_28 rfl (lv_at hl 0 rfl) ?_
      refine lv_bipush (v := (-3 : Int32)) hx hb dX11_deny_29 (by decide) ?_
      refine xVW_i (As := [.int (-3 : Int32)]) (rest := []) (wr := []) (wg := (fun u => WM cs ad u)) hx hb hml hown hT hN hK hP hD hS hA cw_X11_48 hm (fun z h => tcX11_refuse l D cs ad H.size S (-3 : Int32) z h) ⟨rfl, rfl⟩ ⟨by decide, by decide⟩ [0, 1, 2, 3, 4, 5, 6, 7, 8, 9, 10, 11] [] [0, 1, 2, 3, 4, 5, 6, 7, 8, 9, 10, 11] rfl (by decide) rfl (by decide) (by decide) (fun _ => rfl) (by decide) (b := (ad 22)) 0 rfl rfl rfl hl.1 rfl rfl (Nat.le_of_ble_eq_true rfl) dX11_deny_31 ⟨Nat.zero_le _, Nat.zero_le _⟩ (fun r8 S7 H locs hm hP hD hS => ?_)
      exact x_iretW (wf := (fun u => WM cs ad u)) hx hb hr hlk hK hP hD hS hm dX11_deny_34
  · refine lv_aload_n hx hb dX11_deny_8 rfl (lv_at hl 0 rfl) ?_
    refine lv_bipush (v := (-2 : Int32)) hx hb dX11_deny_9 (by decide) ?_
    refine xVW_i (As := [.int (-2 : Int32)]) (rest := []) (wr := []) (wg := (fun u => WM cs ad u)) hx hb hml hown hT hN hK hP hD hS hA cw_X11_48 hm (fun z h => tcX11_refuse l D cs ad H.size S (-2 : Int32) z h) ⟨rfl, rfl⟩ ⟨by decide, by decide⟩ [0, 1, 2, 3, 4, 5, 6, 7, 8, 9, 10, 11] [] [0, 1, 2, 3, 4, 5, 6, 7, 8, 9, 10, 11] rfl (by decide) rfl (by decide) (by decide) (fun _ => rfl) (by decide) (b := (ad 22)) 0 rfl rfl rfl hl.1 rfl rfl (Nat.le_of_ble_eq_true rfl) dX11_deny_11 ⟨Nat.zero_le _, Nat.zero_le _⟩ (fun r10 S9 H locs hm hP hD hS => ?_)
    exact x_iretW (wf := (fun u => WM cs ad u)) hx hb hr hlk hK hP hD hS hm dX11_deny_14
noncomputable def mX11_undo_L30  : Nat → Int32 → MS → Option (Int32 × MS) := fun n => Nat.rec (motive := fun _ => Int32 → MS → Option (Int32 × MS)) (fun _ _ => none) (fun _ rc => fun y1 S => (if (nI 3) ≤ y1 then ald (S.1 0) 288 (nI 1) fun v4 => some (v4, S) else ald (S.1 0) 288 (nI 70) fun v5 => ald (S.1 0) 288 (((nI 71) + ((nI 3) * v5)) + y1) fun v6 => ast 288 y1 <| nm (mA S 0 y1.toNatClampNeg v6) fun S7 => nm (y1 + (nI 1)) fun x8 => rc x8 S7)) n
theorem mX11_undo_L30_s  (n : Nat) (y1 : Int32) (S : MS) : mX11_undo_L30  (n + 1) y1 S = (if (nI 3) ≤ y1 then ald (S.1 0) 288 (nI 1) fun v4 => some (v4, S) else ald (S.1 0) 288 (nI 70) fun v5 => ald (S.1 0) 288 (((nI 71) + ((nI 3) * v5)) + y1) fun v6 => ast 288 y1 <| nm (mA S 0 y1.toNatClampNeg v6) fun S7 => nm (y1 + (nI 1)) fun x8 => (mX11_undo_L30  n) x8 S7) := rfl
noncomputable def mX11_undo (S : MS) : Option (Int32 × MS) := ald (S.1 0) 288 (nI 70) fun v1 => (if v1 = 0 then (mX11_refuse S (-3 : Int32)).bind fun ⟨r10, S9⟩ => some (r10, S9) else ald (S.1 0) 288 (nI 70) fun v2 => ast 288 (nI 70) <| nm (mA S 0 ((nI 70).toNatClampNeg) (v2 - (nI 1))) fun S3 => mX11_undo_L30 FU (nI 0) S3)
set_option maxHeartbeats 4000000 in
set_option maxRecDepth 100000 in
theorem kX11_undo_L30 {p : Program} {l : Launch} {e : Env} {s : State} {m : MethodId} {below : List Frame} {meth : Method} {c : Code} {D : va_G} {cs : CS} {A : Nat → Prop}  {ad : Nat → Nat}  (E : EV p s m [.ref (ad 22)].toArray meth c cX11_undo 2 RX11 (some .int) D cs) (hA : ∀ q : Nat, s.heap.size ≤ q → A q) (z : Int32 × MS) : ∀ (n : Nat) (y1 : Int32) (S : MS), mX11_undo_L30  n y1 S = some z → ∀ (H : Heap) (locs : List Loc), va_P D classes (WM cs ad S) H → va_D A (WM cs ad S) → va_S A s.heap H locs → ∀ ls : Array Slot, lv_has ls 2 [(0, .ref (ad 22)), (1, .int y1)] → W p l e ({ frames := 1, cells := 0, slots := 0, locals := 21 }) s m [.ref (ad 22)].toArray below meth c H locs 0 0 (MQ below (QWi D cs A (fun u => WM cs ad u) z) [.ref (ad 22)].toArray s 0 0 A) (F0 m 30 ls []) := by
  obtain ⟨hx, hb, hr, hml, hown, hlk, hT, hN, hK⟩ := id E
  intro n
  induction n with
  | zero =>
    intro y1 S hm
    exact nomatch (show (none : Option (Int32 × MS)) = some z from hm)
  | succ n ih =>
    intro y1 S hm H locs hP hD hS ls hl
    rw [mX11_undo_L30_s] at hm
    refine lv_iload_n hx hb dX11_undo_30 rfl (lv_at hl 1 rfl) ?_
    refine lv_iconst (v := (nI 3)) hx hb dX11_undo_31 (by decide) ?_
    refine x_icmp_ge (tgt := 66) hx hb dX11_undo_32 (by decide) hm (fun hm => ?_) (fun hm => ?_)
    · refine lv_aload_n hx hb dX11_undo_66 rfl (lv_at hl 0 rfl) ?_
      refine gf_X11_7 (v := .ref (ad 0)) hx hb hT hown hK hP 0 rfl rfl dX11_undo_67 ?_
      refine lv_iconst (v := (nI 1)) hx hb dX11_undo_70 (by decide) ?_
      refine x_iald hx hb hK hP 1 rfl hm dX11_undo_71 (fun v4 hm => ?_)
      exact x_iretW (wf := (fun u => WM cs ad u)) hx hb hr hlk hK hP hD hS hm dX11_undo_72
    · refine lv_aload_n hx hb dX11_undo_35 rfl (lv_at hl 0 rfl) ?_
      refine gf_X11_7 (v := .ref (ad 0)) hx hb hT hown hK hP 0 rfl rfl dX11_undo_36 ?_
      refine lv_iload_n hx hb dX11_undo_39 rfl (lv_at hl 1 rfl) ?_
      refine lv_aload_n hx hb dX11_undo_40 rfl (lv_at hl 0 rfl) ?_
      refine gf_X11_7 (v := .ref (ad 0)) hx hb hT hown hK hP 0 rfl rfl dX11_undo_41 ?_
      refine lv_bipush (v := (nI 71)) hx hb dX11_undo_44 (by decide) ?_
      refine lv_iconst (v := (nI 3)) hx hb dX11_undo_46 (by decide) ?_
      refine lv_aload_n hx hb dX11_undo_47 rfl (lv_at hl 0 rfl) ?_
      refine gf_X11_7 (v := .ref (ad 0)) hx hb hT hown hK hP 0 rfl rfl dX11_undo_48 ?_
      refine lv_bipush (v := (nI 70)) hx hb dX11_undo_51 (by decide) ?_
      refine x_iald hx hb hK hP 1 rfl hm dX11_undo_53 (fun v5 hm => ?_)
      refine lv_imul hx hb dX11_undo_54 ?_
      refine lv_iadd hx hb dX11_undo_55 ?_
      refine lv_iload_n hx hb dX11_undo_56 rfl (lv_at hl 1 rfl) ?_
      refine lv_iadd hx hb dX11_undo_57 ?_
      refine x_iald hx hb hK hP 1 rfl hm dX11_undo_58 (fun v6 hm => ?_)
      refine x_iast hx hb hK hP hD hS 1 rfl (fun j => mA S 0 j v6) (fun u => WM cs ad u) (fun _ => rfl) hm dX11_undo_59 (fun S7 H locs hm hP hD hS => ?_)
      refine x_iinc (lv' := fun x8 => [(1, .int x8), (0, .ref (ad 22))]) hx hb dX11_undo_60 hl (k := 1) rfl (by decide) (v0 := (nI 1)) (by decide) (fun _ => rfl) hm (fun x8 ls hm hl => ?_)
      refine lv_goto (tgt := 30) hx hb dX11_undo_63 (by decide) ?_
      exact ih x8 S7 hm H locs hP hD hS ls (lv_sub hl [1, 0] rfl)
set_option maxHeartbeats 4000000 in
set_option maxRecDepth 100000 in
theorem tcX11_undo (l : Launch) (D : va_G) (cs : CS) (ad : Nat → Nat) (sz : Nat) (S : MS) (z : Int32 × MS) (hm : mX11_undo S = some z) : Met l yX11_undo (Cond.code yX11_undo cX11_undo 2 (some .int) :: gw_tbl) ({ frames := 1, cells := 0, slots := 0, locals := 21 }) (PcW D cs sz (WM cs ad S) [.ref (ad 22)]) (QWi D cs (va_A (WM cs ad S) sz) (fun u => WM cs ad u) z) 0 0 (va_A (WM cs ad S) sz) := by
  refine met_W rfl (Nat.le_of_ble_eq_true rfl) (fun p e s m below meth c E hP hD hS hA ls hl => ?_)
  generalize va_A (WM cs ad S) sz = A at hD hS hA ⊢
  obtain ⟨hx, hb, hr, hml, hown, hlk, hT, hN, hK⟩ := id E
  obtain ⟨H, hH⟩ : ∃ H, H = s.heap := ⟨_, rfl⟩
  obtain ⟨locs, hlo⟩ : ∃ L : List Loc, L = [] := ⟨_, rfl⟩
  have hP : va_P D classes (WM cs ad S) H := by rw [hH]; exact hP
  have hS : va_S A s.heap H locs := by rw [hH, hlo]; exact hS
  rw [show W p l e _ s m _ below meth c s.heap [] 0 0 = W p l e _ s m _ below meth c H locs 0 0 by rw [hH, hlo]]
  have hl : lv_has ls 2 [(0, .ref (ad 22))] := hl
  unfold mX11_undo at hm
  refine lv_aload_n hx hb dX11_undo_0 rfl (lv_at hl 0 rfl) ?_
  refine gf_X11_7 (v := .ref (ad 0)) hx hb hT hown hK hP 0 rfl rfl dX11_undo_1 ?_
  refine lv_bipush (v := (nI 70)) hx hb dX11_undo_4 (by decide) ?_
  refine x_iald hx hb hK hP 1 rfl hm dX11_undo_6 (fun v1 hm => ?_)
  refine x_if_ne (tgt := 17) hx hb dX11_undo_7 (by decide) hm (fun hm => ?_) (fun hm => ?_)
  · refine lv_aload_n hx hb dX11_undo_17 rfl (lv_at hl 0 rfl) ?_
    refine gf_X11_7 (v := .ref (ad 0)) hx hb hT hown hK hP 0 rfl rfl dX11_undo_18 ?_
    refine lv_bipush (v := (nI 70)) hx hb dX11_undo_21 (by decide) ?_
    refine lv_dup2_11 hx hb dX11_undo_23 rfl rfl ?_
    refine x_iald hx hb hK hP 1 rfl hm dX11_undo_24 (fun v2 hm => ?_)
    refine lv_iconst (v := (nI 1)) hx hb dX11_undo_25 (by decide) ?_
    refine lv_isub hx hb dX11_undo_26 ?_
    refine x_iast hx hb hK hP hD hS 1 rfl (fun j => mA S 0 j (v2 - (nI 1))) (fun u => WM cs ad u) (fun _ => rfl) hm dX11_undo_27 (fun S3 H locs hm hP hD hS => ?_)
    refine lv_iconst (v := (nI 0)) hx hb dX11_undo_28 (by decide) ?_
    refine lv_istore_n (lv' := [(1, .int (nI 0)), (0, .ref (ad 22))]) hx hb dX11_undo_29 rfl hl (by decide) rfl (fun ls hl => ?_)
    exact kX11_undo_L30 E hA _ FU (nI 0) S3 hm H locs hP hD hS ls (lv_sub hl [1, 0] rfl)
  · refine lv_aload_n hx hb dX11_undo_10 rfl (lv_at hl 0 rfl) ?_
    refine lv_bipush (v := (-3 : Int32)) hx hb dX11_undo_11 (by decide) ?_
    refine xVW_i (As := [.int (-3 : Int32)]) (rest := []) (wr := []) (wg := (fun u => WM cs ad u)) hx hb hml hown hT hN hK hP hD hS hA cw_X11_48 hm (fun z h => tcX11_refuse l D cs ad H.size S (-3 : Int32) z h) ⟨rfl, rfl⟩ ⟨by decide, by decide⟩ [0, 1, 2, 3, 4, 5, 6, 7, 8, 9, 10, 11] [] [0, 1, 2, 3, 4, 5, 6, 7, 8, 9, 10, 11] rfl (by decide) rfl (by decide) (by decide) (fun _ => rfl) (by decide) (b := (ad 22)) 0 rfl rfl rfl hl.1 rfl rfl (Nat.le_of_ble_eq_true rfl) dX11_undo_13 ⟨Nat.zero_le _, Nat.zero_le _⟩ (fun r10 S9 H locs hm hP hD hS => ?_)
    exact x_iretW (wf := (fun u => WM cs ad u)) hx hb hr hlk hK hP hD hS hm dX11_undo_16
noncomputable def mX11_of (S : MS) (a1 : Int32) (a2 : Int32) : Option (Int32 × MS) := (mX11_isFiction S a1).bind fun r1 => (if r1 = 0 then (mX11_refuse S (-2 : Int32)).bind fun ⟨r3, S2⟩ => some (r3, S2) else (mX11_in a2 (nI 0) (nI 7)).bind fun r4 => (if r4 = 0 then (mX11_refuse S (-2 : Int32)).bind fun ⟨r17, S16⟩ => some (r17, S16) else (if a2 = (nI 0) then ald (S.1 0) 288 ((nI 5) + a1) fun v5 => some (v5, S) else if a2 = (nI 1) then ald (S.1 0) 288 ((nI 11) + a1) fun v6 => some (v6, S) else if a2 = (nI 2) then ald (S.1 0) 288 ((nI 17) + a1) fun v7 => some (v7, S) else if a2 = (nI 3) then ald (S.1 0) 288 ((nI 23) + a1) fun v8 => some (v8, S) else if a2 = (nI 4) then ald (S.1 0) 288 (nI 0) fun v9 => some (((v9 >>> (a1 &&& 31)) &&& (nI 1)), S) else if a2 = (nI 5) then ald (S.1 0) 288 (nI 0) fun v10 => ald (S.1 0) 288 (nI 1) fun v11 => (mX11_mayPlead S a1 v10 v11).bind fun r12 => (if r12 = 0 then some ((nI 0), S) else some ((nI 1), S)) else if a2 = (nI 6) then ald (S.1 0) 288 (nI 1) fun v13 => (mX11_cost S a1 v13).bind fun r14 => some (r14, S) else (mX11_wins S a1).bind fun r15 => (if r15 = 0 then some ((nI 0), S) else some ((nI 1), S)))))
set_option maxHeartbeats 4000000 in
set_option maxRecDepth 100000 in
theorem tcX11_of (l : Launch) (D : va_G) (cs : CS) (ad : Nat → Nat) (sz : Nat) (S : MS) (a1 : Int32) (a2 : Int32) (z : Int32 × MS) (hm : mX11_of S a1 a2 = some z) : Met l yX11_of (Cond.code yX11_of cX11_of 3 (some .int) :: gw_tbl) ({ frames := 3, cells := 0, slots := 0, locals := 70 }) (PcW D cs sz (WM cs ad S) [.ref (ad 22), .int a1, .int a2]) (QWi D cs (va_A (WM cs ad S) sz) (fun u => WM cs ad u) z) 0 0 (va_A (WM cs ad S) sz) := by
  refine met_W rfl (Nat.le_of_ble_eq_true rfl) (fun p e s m below meth c E hP hD hS hA ls hl => ?_)
  generalize va_A (WM cs ad S) sz = A at hD hS hA ⊢
  obtain ⟨hx, hb, hr, hml, hown, hlk, hT, hN, hK⟩ := id E
  obtain ⟨H, hH⟩ : ∃ H, H = s.heap := ⟨_, rfl⟩
  obtain ⟨locs, hlo⟩ : ∃ L : List Loc, L = [] := ⟨_, rfl⟩
  have hP : va_P D classes (WM cs ad S) H := by rw [hH]; exact hP
  have hS : va_S A s.heap H locs := by rw [hH, hlo]; exact hS
  rw [show W p l e _ s m _ below meth c s.heap [] 0 0 = W p l e _ s m _ below meth c H locs 0 0 by rw [hH, hlo]]
  have hl : lv_has ls 3 [(0, .ref (ad 22)), (1, .int a1), (2, .int a2)] := hl
  unfold mX11_of at hm
  refine lv_aload_n hx hb dX11_of_0 rfl (lv_at hl 0 rfl) ?_
  refine lv_iload_n hx hb dX11_of_1 rfl (lv_at hl 1 rfl) ?_
  refine xV_i (As := [.int a1]) (rest := []) hx hb hml hown hT hN hK hP cw_X11_141 hm (fun z h => tcX11_isFiction l D cs ad S a1 z h) ⟨rfl, rfl⟩ ⟨by decide, by decide⟩ (b := (ad 22)) 0 rfl rfl rfl hl.1 rfl rfl (Nat.le_of_ble_eq_true rfl) dX11_of_2 ⟨Nat.zero_le _, Nat.zero_le _⟩ (fun r1 hm => ?_)
  refine x_if_eq (tgt := 18) hx hb dX11_of_5 (by decide) hm (fun hm => ?_) (fun hm => ?_)
  · refine lv_aload_n hx hb dX11_of_18 rfl (lv_at hl 0 rfl) ?_
    refine lv_bipush (v := (-2 : Int32)) hx hb dX11_of_19 (by decide) ?_
    refine xVW_i (As := [.int (-2 : Int32)]) (rest := []) (wr := []) (wg := (fun u => WM cs ad u)) hx hb hml hown hT hN hK hP hD hS hA cw_X11_48 hm (fun z h => tcX11_refuse l D cs ad H.size S (-2 : Int32) z h) ⟨rfl, rfl⟩ ⟨by decide, by decide⟩ [0, 1, 2, 3, 4, 5, 6, 7, 8, 9, 10, 11] [] [0, 1, 2, 3, 4, 5, 6, 7, 8, 9, 10, 11] rfl (by decide) rfl (by decide) (by decide) (fun _ => rfl) (by decide) (b := (ad 22)) 0 rfl rfl rfl hl.1 rfl rfl (Nat.le_of_ble_eq_true rfl) dX11_of_21 ⟨Nat.zero_le _, Nat.zero_le _⟩ (fun r3 S2 H locs hm hP hD hS => ?_)
    exact x_iretW (wf := (fun u => WM cs ad u)) hx hb hr hlk hK hP hD hS hm dX11_of_24
  · refine lv_iload_n hx hb dX11_of_8 rfl (lv_at hl 2 rfl) ?_
    refine lv_iconst (v := (nI 0)) hx hb dX11_of_9 (by decide) ?_
    refine lv_bipush (v := (nI 7)) hx hb dX11_of_10 (by decide) ?_
    refine xS_i (As := [.int a2, .int (nI 0), .int (nI 7)]) (rest := []) hx hb hml hown hT hN hK (hP.sub (ws' := []) [] rfl) cw_X11_52 hm (fun z h => tcX11_in l D cs a2 (nI 0) (nI 7) z h) ⟨rfl, rfl⟩ ⟨by decide, by decide⟩ hl.1 rfl rfl (Nat.le_of_ble_eq_true rfl) dX11_of_12 ⟨Nat.zero_le _, Nat.zero_le _⟩ (fun r4 hm => ?_)
    refine x_if_ne (tgt := 25) hx hb dX11_of_15 (by decide) hm (fun hm => ?_) (fun hm => ?_)
    · refine lv_iload_n hx hb dX11_of_25 rfl (lv_at hl 2 rfl) ?_
      rcases sw_c hm with ⟨e26_0, hm⟩ | ⟨e26_0, hm⟩
      · refine lv_tableIn (tgt := 68) (off := 42) hx hb dX11_of_26 (by rw [e26_0]; decide) (by rw [e26_0]; decide) (by rw [e26_0]; rfl) (by decide) ?_
        refine lv_aload_n hx hb dX11_of_68 rfl (lv_at hl 0 rfl) ?_
        refine gf_X11_7 (v := .ref (ad 0)) hx hb hT hown hK hP 0 rfl rfl dX11_of_69 ?_
        refine lv_iconst (v := (nI 5)) hx hb dX11_of_72 (by decide) ?_
        refine lv_iload_n hx hb dX11_of_73 rfl (lv_at hl 1 rfl) ?_
        refine lv_iadd hx hb dX11_of_74 ?_
        refine x_iald hx hb hK hP 1 rfl hm dX11_of_75 (fun v5 hm => ?_)
        exact x_iretW (wf := (fun u => WM cs ad u)) hx hb hr hlk hK hP hD hS hm dX11_of_76
      rcases sw_c hm with ⟨e26_1, hm⟩ | ⟨e26_1, hm⟩
      · refine lv_tableIn (tgt := 77) (off := 51) hx hb dX11_of_26 (by rw [e26_1]; decide) (by rw [e26_1]; decide) (by rw [e26_1]; rfl) (by decide) ?_
        refine lv_aload_n hx hb dX11_of_77 rfl (lv_at hl 0 rfl) ?_
        refine gf_X11_7 (v := .ref (ad 0)) hx hb hT hown hK hP 0 rfl rfl dX11_of_78 ?_
        refine lv_bipush (v := (nI 11)) hx hb dX11_of_81 (by decide) ?_
        refine lv_iload_n hx hb dX11_of_83 rfl (lv_at hl 1 rfl) ?_
        refine lv_iadd hx hb dX11_of_84 ?_
        refine x_iald hx hb hK hP 1 rfl hm dX11_of_85 (fun v6 hm => ?_)
        exact x_iretW (wf := (fun u => WM cs ad u)) hx hb hr hlk hK hP hD hS hm dX11_of_86
      rcases sw_c hm with ⟨e26_2, hm⟩ | ⟨e26_2, hm⟩
      · refine lv_tableIn (tgt := 87) (off := 61) hx hb dX11_of_26 (by rw [e26_2]; decide) (by rw [e26_2]; decide) (by rw [e26_2]; rfl) (by decide) ?_
        refine lv_aload_n hx hb dX11_of_87 rfl (lv_at hl 0 rfl) ?_
        refine gf_X11_7 (v := .ref (ad 0)) hx hb hT hown hK hP 0 rfl rfl dX11_of_88 ?_
        refine lv_bipush (v := (nI 17)) hx hb dX11_of_91 (by decide) ?_
        refine lv_iload_n hx hb dX11_of_93 rfl (lv_at hl 1 rfl) ?_
        refine lv_iadd hx hb dX11_of_94 ?_
        refine x_iald hx hb hK hP 1 rfl hm dX11_of_95 (fun v7 hm => ?_)
        exact x_iretW (wf := (fun u => WM cs ad u)) hx hb hr hlk hK hP hD hS hm dX11_of_96
      rcases sw_c hm with ⟨e26_3, hm⟩ | ⟨e26_3, hm⟩
      · refine lv_tableIn (tgt := 97) (off := 71) hx hb dX11_of_26 (by rw [e26_3]; decide) (by rw [e26_3]; decide) (by rw [e26_3]; rfl) (by decide) ?_
        refine lv_aload_n hx hb dX11_of_97 rfl (lv_at hl 0 rfl) ?_
        refine gf_X11_7 (v := .ref (ad 0)) hx hb hT hown hK hP 0 rfl rfl dX11_of_98 ?_
        refine lv_bipush (v := (nI 23)) hx hb dX11_of_101 (by decide) ?_
        refine lv_iload_n hx hb dX11_of_103 rfl (lv_at hl 1 rfl) ?_
        refine lv_iadd hx hb dX11_of_104 ?_
        refine x_iald hx hb hK hP 1 rfl hm dX11_of_105 (fun v8 hm => ?_)
        exact x_iretW (wf := (fun u => WM cs ad u)) hx hb hr hlk hK hP hD hS hm dX11_of_106
      rcases sw_c hm with ⟨e26_4, hm⟩ | ⟨e26_4, hm⟩
      · refine lv_tableIn (tgt := 107) (off := 81) hx hb dX11_of_26 (by rw [e26_4]; decide) (by rw [e26_4]; decide) (by rw [e26_4]; rfl) (by decide) ?_
        refine lv_aload_n hx hb dX11_of_107 rfl (lv_at hl 0 rfl) ?_
        refine gf_X11_7 (v := .ref (ad 0)) hx hb hT hown hK hP 0 rfl rfl dX11_of_108 ?_
        refine lv_iconst (v := (nI 0)) hx hb dX11_of_111 (by decide) ?_
        refine x_iald hx hb hK hP 1 rfl hm dX11_of_112 (fun v9 hm => ?_)
        refine lv_iload_n hx hb dX11_of_113 rfl (lv_at hl 1 rfl) ?_
        refine lv_ishr hx hb dX11_of_114 ?_
        refine lv_iconst (v := (nI 1)) hx hb dX11_of_115 (by decide) ?_
        refine lv_iand hx hb dX11_of_116 ?_
        exact x_iretW (wf := (fun u => WM cs ad u)) hx hb hr hlk hK hP hD hS hm dX11_of_117
      rcases sw_c hm with ⟨e26_5, hm⟩ | ⟨e26_5, hm⟩
      · refine lv_tableIn (tgt := 118) (off := 92) hx hb dX11_of_26 (by rw [e26_5]; decide) (by rw [e26_5]; decide) (by rw [e26_5]; rfl) (by decide) ?_
        refine lv_aload_n hx hb dX11_of_118 rfl (lv_at hl 0 rfl) ?_
        refine lv_iload_n hx hb dX11_of_119 rfl (lv_at hl 1 rfl) ?_
        refine lv_aload_n hx hb dX11_of_120 rfl (lv_at hl 0 rfl) ?_
        refine gf_X11_7 (v := .ref (ad 0)) hx hb hT hown hK hP 0 rfl rfl dX11_of_121 ?_
        refine lv_iconst (v := (nI 0)) hx hb dX11_of_124 (by decide) ?_
        refine x_iald hx hb hK hP 1 rfl hm dX11_of_125 (fun v10 hm => ?_)
        refine lv_aload_n hx hb dX11_of_126 rfl (lv_at hl 0 rfl) ?_
        refine gf_X11_7 (v := .ref (ad 0)) hx hb hT hown hK hP 0 rfl rfl dX11_of_127 ?_
        refine lv_iconst (v := (nI 1)) hx hb dX11_of_130 (by decide) ?_
        refine x_iald hx hb hK hP 1 rfl hm dX11_of_131 (fun v11 hm => ?_)
        refine xV_i (As := [.int a1, .int v10, .int v11]) (rest := []) hx hb hml hown hT hN hK hP cw_X11_144 hm (fun z h => tcX11_mayPlead l D cs ad S a1 v10 v11 z h) ⟨rfl, rfl⟩ ⟨by decide, by decide⟩ (b := (ad 22)) 0 rfl rfl rfl hl.1 rfl rfl (Nat.le_of_ble_eq_true rfl) dX11_of_132 ⟨Nat.zero_le _, Nat.zero_le _⟩ (fun r12 hm => ?_)
        refine x_if_eq (tgt := 142) hx hb dX11_of_135 (by decide) hm (fun hm => ?_) (fun hm => ?_)
        · refine lv_iconst (v := (nI 0)) hx hb dX11_of_142 (by decide) ?_
          exact x_iretW (wf := (fun u => WM cs ad u)) hx hb hr hlk hK hP hD hS hm dX11_of_143
        · refine lv_iconst (v := (nI 1)) hx hb dX11_of_138 (by decide) ?_
          refine lv_goto (tgt := 143) hx hb dX11_of_139 (by decide) ?_
          exact x_iretW (wf := (fun u => WM cs ad u)) hx hb hr hlk hK hP hD hS hm dX11_of_143
      rcases sw_c hm with ⟨e26_6, hm⟩ | ⟨e26_6, hm⟩
      · refine lv_tableIn (tgt := 144) (off := 118) hx hb dX11_of_26 (by rw [e26_6]; decide) (by rw [e26_6]; decide) (by rw [e26_6]; rfl) (by decide) ?_
        refine lv_aload_n hx hb dX11_of_144 rfl (lv_at hl 0 rfl) ?_
        refine lv_iload_n hx hb dX11_of_145 rfl (lv_at hl 1 rfl) ?_
        refine lv_aload_n hx hb dX11_of_146 rfl (lv_at hl 0 rfl) ?_
        refine gf_X11_7 (v := .ref (ad 0)) hx hb hT hown hK hP 0 rfl rfl dX11_of_147 ?_
        refine lv_iconst (v := (nI 1)) hx hb dX11_of_150 (by decide) ?_
        refine x_iald hx hb hK hP 1 rfl hm dX11_of_151 (fun v13 hm => ?_)
        refine xV_i (As := [.int a1, .int v13]) (rest := []) hx hb hml hown hT hN hK hP cw_X11_138 hm (fun z h => tcX11_cost l D cs ad S a1 v13 z h) ⟨rfl, rfl⟩ ⟨by decide, by decide⟩ (b := (ad 22)) 0 rfl rfl rfl hl.1 rfl rfl (Nat.le_of_ble_eq_true rfl) dX11_of_152 ⟨Nat.zero_le _, Nat.zero_le _⟩ (fun r14 hm => ?_)
        exact x_iretW (wf := (fun u => WM cs ad u)) hx hb hr hlk hK hP hD hS hm dX11_of_155
      refine lv_tableOut (tgt := 156) hx hb dX11_of_26 (sw_out_0_7 e26_0 e26_1 e26_2 e26_3 e26_4 e26_5 e26_6) (by decide) ?_
      refine lv_aload_n hx hb dX11_of_156 rfl (lv_at hl 0 rfl) ?_
      refine lv_iload_n hx hb dX11_of_157 rfl (lv_at hl 1 rfl) ?_
      refine xV_i (As := [.int a1]) (rest := []) hx hb hml hown hT hN hK hP cw_X11_153 hm (fun z h => tcX11_wins l D cs ad S a1 z h) ⟨rfl, rfl⟩ ⟨by decide, by decide⟩ (b := (ad 22)) 0 rfl rfl rfl hl.1 rfl rfl (Nat.le_of_ble_eq_true rfl) dX11_of_158 ⟨Nat.zero_le _, Nat.zero_le _⟩ (fun r15 hm => ?_)
      refine x_if_eq (tgt := 168) hx hb dX11_of_161 (by decide) hm (fun hm => ?_) (fun hm => ?_)
      · refine lv_iconst (v := (nI 0)) hx hb dX11_of_168 (by decide) ?_
        exact x_iretW (wf := (fun u => WM cs ad u)) hx hb hr hlk hK hP hD hS hm dX11_of_169
      · refine lv_iconst (v := (nI 1)) hx hb dX11_of_164 (by decide) ?_
        refine lv_goto (tgt := 169) hx hb dX11_of_165 (by decide) ?_
        exact x_iretW (wf := (fun u => WM cs ad u)) hx hb hr hlk hK hP hD hS hm dX11_of_169
    · refine lv_aload_n hx hb dX11_of_18 rfl (lv_at hl 0 rfl) ?_
      refine lv_bipush (v := (-2 : Int32)) hx hb dX11_of_19 (by decide) ?_
      refine xVW_i (As := [.int (-2 : Int32)]) (rest := []) (wr := []) (wg := (fun u => WM cs ad u)) hx hb hml hown hT hN hK hP hD hS hA cw_X11_48 hm (fun z h => tcX11_refuse l D cs ad H.size S (-2 : Int32) z h) ⟨rfl, rfl⟩ ⟨by decide, by decide⟩ [0, 1, 2, 3, 4, 5, 6, 7, 8, 9, 10, 11] [] [0, 1, 2, 3, 4, 5, 6, 7, 8, 9, 10, 11] rfl (by decide) rfl (by decide) (by decide) (fun _ => rfl) (by decide) (b := (ad 22)) 0 rfl rfl rfl hl.1 rfl rfl (Nat.le_of_ble_eq_true rfl) dX11_of_21 ⟨Nat.zero_le _, Nat.zero_le _⟩ (fun r17 S16 H locs hm hP hD hS => ?_)
      exact x_iretW (wf := (fun u => WM cs ad u)) hx hb hr hlk hK hP hD hS hm dX11_of_24
noncomputable def mX11_now (S : MS) (a1 : Int32) : Option (Int32 × MS) := (mX11_in a1 (nI 0) (nI 4)).bind fun r1 => (if r1 = 0 then (mX11_refuse S (-2 : Int32)).bind fun ⟨r3, S2⟩ => some (r3, S2) else (mX11_nowOf S a1).bind fun r4 => some (r4, S))
set_option maxHeartbeats 4000000 in
set_option maxRecDepth 100000 in
theorem tcX11_now (l : Launch) (D : va_G) (cs : CS) (ad : Nat → Nat) (sz : Nat) (S : MS) (a1 : Int32) (z : Int32 × MS) (hm : mX11_now S a1 = some z) : Met l yX11_now (Cond.code yX11_now cX11_now 2 (some .int) :: gw_tbl) ({ frames := 3, cells := 0, slots := 0, locals := 65 }) (PcW D cs sz (WM cs ad S) [.ref (ad 22), .int a1]) (QWi D cs (va_A (WM cs ad S) sz) (fun u => WM cs ad u) z) 0 0 (va_A (WM cs ad S) sz) := by
  refine met_W rfl (Nat.le_of_ble_eq_true rfl) (fun p e s m below meth c E hP hD hS hA ls hl => ?_)
  generalize va_A (WM cs ad S) sz = A at hD hS hA ⊢
  obtain ⟨hx, hb, hr, hml, hown, hlk, hT, hN, hK⟩ := id E
  obtain ⟨H, hH⟩ : ∃ H, H = s.heap := ⟨_, rfl⟩
  obtain ⟨locs, hlo⟩ : ∃ L : List Loc, L = [] := ⟨_, rfl⟩
  have hP : va_P D classes (WM cs ad S) H := by rw [hH]; exact hP
  have hS : va_S A s.heap H locs := by rw [hH, hlo]; exact hS
  rw [show W p l e _ s m _ below meth c s.heap [] 0 0 = W p l e _ s m _ below meth c H locs 0 0 by rw [hH, hlo]]
  have hl : lv_has ls 2 [(0, .ref (ad 22)), (1, .int a1)] := hl
  unfold mX11_now at hm
  refine lv_iload_n hx hb dX11_now_0 rfl (lv_at hl 1 rfl) ?_
  refine lv_iconst (v := (nI 0)) hx hb dX11_now_1 (by decide) ?_
  refine lv_iconst (v := (nI 4)) hx hb dX11_now_2 (by decide) ?_
  refine xS_i (As := [.int a1, .int (nI 0), .int (nI 4)]) (rest := []) hx hb hml hown hT hN hK (hP.sub (ws' := []) [] rfl) cw_X11_52 hm (fun z h => tcX11_in l D cs a1 (nI 0) (nI 4) z h) ⟨rfl, rfl⟩ ⟨by decide, by decide⟩ hl.1 rfl rfl (Nat.le_of_ble_eq_true rfl) dX11_now_3 ⟨Nat.zero_le _, Nat.zero_le _⟩ (fun r1 hm => ?_)
  refine x_if_eq (tgt := 17) hx hb dX11_now_6 (by decide) hm (fun hm => ?_) (fun hm => ?_)
  · refine lv_aload_n hx hb dX11_now_17 rfl (lv_at hl 0 rfl) ?_
    refine lv_bipush (v := (-2 : Int32)) hx hb dX11_now_18 (by decide) ?_
    refine xVW_i (As := [.int (-2 : Int32)]) (rest := []) (wr := []) (wg := (fun u => WM cs ad u)) hx hb hml hown hT hN hK hP hD hS hA cw_X11_48 hm (fun z h => tcX11_refuse l D cs ad H.size S (-2 : Int32) z h) ⟨rfl, rfl⟩ ⟨by decide, by decide⟩ [0, 1, 2, 3, 4, 5, 6, 7, 8, 9, 10, 11] [] [0, 1, 2, 3, 4, 5, 6, 7, 8, 9, 10, 11] rfl (by decide) rfl (by decide) (by decide) (fun _ => rfl) (by decide) (b := (ad 22)) 0 rfl rfl rfl hl.1 rfl rfl (Nat.le_of_ble_eq_true rfl) dX11_now_20 ⟨Nat.zero_le _, Nat.zero_le _⟩ (fun r3 S2 H locs hm hP hD hS => ?_)
    exact x_iretW (wf := (fun u => WM cs ad u)) hx hb hr hlk hK hP hD hS hm dX11_now_23
  · refine lv_aload_n hx hb dX11_now_9 rfl (lv_at hl 0 rfl) ?_
    refine lv_iload_n hx hb dX11_now_10 rfl (lv_at hl 1 rfl) ?_
    refine xV_i (As := [.int a1]) (rest := []) hx hb hml hown hT hN hK hP cw_X11_159 hm (fun z h => tcX11_nowOf l D cs ad S a1 z h) ⟨rfl, rfl⟩ ⟨by decide, by decide⟩ (b := (ad 22)) 0 rfl rfl rfl hl.1 rfl rfl (Nat.le_of_ble_eq_true rfl) dX11_now_11 ⟨Nat.zero_le _, Nat.zero_le _⟩ (fun r4 hm => ?_)
    refine lv_goto (tgt := 23) hx hb dX11_now_14 (by decide) ?_
    exact x_iretW (wf := (fun u => WM cs ad u)) hx hb hr hlk hK hP hD hS hm dX11_now_23
noncomputable def mX11_beginRows (S : MS) : Option MS := nm (mI S 19 (nI 0)) fun S1 => nm (mI S1 18 (nI 0)) fun S2 => ald (S2.1 0) 288 (nI 0) fun v3 => ast 7 (nI 0) <| nm (mA S2 16 ((nI 0).toNatClampNeg) v3) fun S4 => ast 7 (nI 0) <| nm (mA S4 17 ((nI 0).toNatClampNeg) (nI 0)) fun S5 => some S5
set_option maxHeartbeats 4000000 in
set_option maxRecDepth 100000 in
theorem tcX11_beginRows (l : Launch) (D : va_G) (cs : CS) (ad : Nat → Nat) (sz : Nat) (S : MS) (z : MS) (hm : mX11_beginRows S = some z) : Met l yX11_beginRows (Cond.code yX11_beginRows cX11_beginRows 1 none :: gw_tbl) ({ frames := 0, cells := 0, slots := 0, locals := 0 }) (PcW D cs sz (WM cs ad S) [.ref (ad 22)]) (QWv D cs (va_A (WM cs ad S) sz) (fun u => WM cs ad u) z) 0 0 (va_A (WM cs ad S) sz) := by
  refine met_W rfl (Nat.le_of_ble_eq_true rfl) (fun p e s m below meth c E hP hD hS hA ls hl => ?_)
  generalize va_A (WM cs ad S) sz = A at hD hS hA ⊢
  obtain ⟨hx, hb, hr, hml, hown, hlk, hT, hN, hK⟩ := id E
  obtain ⟨H, hH⟩ : ∃ H, H = s.heap := ⟨_, rfl⟩
  obtain ⟨locs, hlo⟩ : ∃ L : List Loc, L = [] := ⟨_, rfl⟩
  have hP : va_P D classes (WM cs ad S) H := by rw [hH]; exact hP
  have hS : va_S A s.heap H locs := by rw [hH, hlo]; exact hS
  rw [show W p l e _ s m _ below meth c s.heap [] 0 0 = W p l e _ s m _ below meth c H locs 0 0 by rw [hH, hlo]]
  have hl : lv_has ls 1 [(0, .ref (ad 22))] := hl
  unfold mX11_beginRows at hm
  refine lv_aload_n hx hb dX11_beginRows_0 rfl (lv_at hl 0 rfl) ?_
  refine lv_iconst (v := (nI 0)) hx hb dX11_beginRows_1 (by decide) ?_
  refine pf_X11_168 (wf := (fun u => WM cs ad u)) (u0 := mI S 19 (nI 0)) hx hb hT hown hK hP hD hS 0 rfl (Nat.le_of_ble_eq_true rfl) (by decide +kernel) (by decide +kernel) rfl hm dX11_beginRows_2 (fun S1 H locs hm hP hD hS => ?_)
  refine lv_aload_n hx hb dX11_beginRows_5 rfl (lv_at hl 0 rfl) ?_
  refine lv_iconst (v := (nI 0)) hx hb dX11_beginRows_6 (by decide) ?_
  refine pf_X11_172 (wf := (fun u => WM cs ad u)) (u0 := mI S1 18 (nI 0)) hx hb hT hown hK hP hD hS 0 rfl (Nat.le_of_ble_eq_true rfl) rfl rfl rfl hm dX11_beginRows_7 (fun S2 H locs hm hP hD hS => ?_)
  refine lv_aload_n hx hb dX11_beginRows_10 rfl (lv_at hl 0 rfl) ?_
  refine gf_X11_39 (v := .ref (ad 16)) hx hb hT hown hK hP 0 rfl rfl dX11_beginRows_11 ?_
  refine lv_iconst (v := (nI 0)) hx hb dX11_beginRows_14 (by decide) ?_
  refine lv_aload_n hx hb dX11_beginRows_15 rfl (lv_at hl 0 rfl) ?_
  refine gf_X11_7 (v := .ref (ad 0)) hx hb hT hown hK hP 0 rfl rfl dX11_beginRows_16 ?_
  refine lv_iconst (v := (nI 0)) hx hb dX11_beginRows_19 (by decide) ?_
  refine x_iald hx hb hK hP 1 rfl hm dX11_beginRows_20 (fun v3 hm => ?_)
  refine x_iast hx hb hK hP hD hS 9 rfl (fun j => mA S2 16 j v3) (fun u => WM cs ad u) (fun _ => rfl) hm dX11_beginRows_21 (fun S4 H locs hm hP hD hS => ?_)
  refine lv_aload_n hx hb dX11_beginRows_22 rfl (lv_at hl 0 rfl) ?_
  refine gf_X11_42 (v := .ref (ad 17)) hx hb hT hown hK hP 0 rfl rfl dX11_beginRows_23 ?_
  refine lv_iconst (v := (nI 0)) hx hb dX11_beginRows_26 (by decide) ?_
  refine lv_iconst (v := (nI 0)) hx hb dX11_beginRows_27 (by decide) ?_
  refine x_iast hx hb hK hP hD hS 10 rfl (fun j => mA S4 17 j (nI 0)) (fun u => WM cs ad u) (fun _ => rfl) hm dX11_beginRows_28 (fun S5 H locs hm hP hD hS => ?_)
  exact x_vretW (wf := (fun u => WM cs ad u)) hx hb hr hlk hK hP hD hS hm dX11_beginRows_29
noncomputable def mX11_nextRow_L23 (S : MS) : Nat → Int32 → Option Int32 := fun n => Nat.rec (motive := fun _ => Int32 → Option Int32) (fun _ => none) (fun _ rc => fun y1 => ald (S.1 0) 288 (nI 4) fun v1 => (if v1 ≤ y1 then some y1 else ald (S.1 16) 7 (S.2.1 18) fun v2 => ald (S.1 0) 288 (nI 1) fun v3 => (mX11_mayPlead S y1 v2 (v3 + (S.2.1 18))).bind fun r4 => (if r4 = 0 then nm (y1 + (nI 1)) fun x5 => rc x5 else some y1))) n
theorem mX11_nextRow_L23_s (S : MS) (n : Nat) (y1 : Int32) : mX11_nextRow_L23 S (n + 1) y1 = ald (S.1 0) 288 (nI 4) fun v1 => (if v1 ≤ y1 then some y1 else ald (S.1 16) 7 (S.2.1 18) fun v2 => ald (S.1 0) 288 (nI 1) fun v3 => (mX11_mayPlead S y1 v2 (v3 + (S.2.1 18))).bind fun r4 => (if r4 = 0 then nm (y1 + (nI 1)) fun x5 => (mX11_nextRow_L23 S n) x5 else some y1)) := rfl
noncomputable def mX11_nextRow_L16  : Nat → Int32 → MS → Option (Int32 × MS) := fun n => Nat.rec (motive := fun _ => Int32 → MS → Option (Int32 × MS)) (fun _ _ => none) (fun _ rc => fun y1 S => (if (S.2.1 18) < 0 then zo (nI 0) (some ((nI 0), S)) else (mX11_nextRow_L23 S FU y1).bind fun x6 => ald (S.1 0) 288 (nI 4) fun v7 => (if v7 ≤ x6 then nm (mI S 18 ((S.2.1 18) - (nI 1))) fun S8 => (if 0 ≤ (S8.2.1 18) then ald (S8.1 15) 7 (S8.2.1 18) fun v9 => nm (v9 + (nI 1)) fun x10 => rc x10 S8 else rc (nI 0) S8) else ast 7 (S.2.1 18) <| nm (mA S 15 ((S.2.1 18).toNatClampNeg) x6) fun S11 => ald (S11.1 16) 7 (S11.2.1 18) fun v12 => ast 7 ((S11.2.1 18) + (nI 1)) <| nm (mA S11 16 (((S11.2.1 18) + (nI 1)).toNatClampNeg) (v12 ||| ((nI 1) <<< (x6 &&& 31)))) fun S13 => ald (S13.1 17) 7 (S13.2.1 18) fun v14 => ald (S13.1 0) 288 (nI 1) fun v15 => (mX11_cost S13 x6 (v15 + (S13.2.1 18))).bind fun r16 => ast 7 ((S13.2.1 18) + (nI 1)) <| nm (mA S13 17 (((S13.2.1 18) + (nI 1)).toNatClampNeg) (v14 + r16)) fun S17 => nm (mI S17 18 ((S17.2.1 18) + (nI 1))) fun S18 => zo (nI 1) (some ((nI 1), S18))))) n
theorem mX11_nextRow_L16_s  (n : Nat) (y1 : Int32) (S : MS) : mX11_nextRow_L16  (n + 1) y1 S = (if (S.2.1 18) < 0 then zo (nI 0) (some ((nI 0), S)) else (mX11_nextRow_L23 S FU y1).bind fun x6 => ald (S.1 0) 288 (nI 4) fun v7 => (if v7 ≤ x6 then nm (mI S 18 ((S.2.1 18) - (nI 1))) fun S8 => (if 0 ≤ (S8.2.1 18) then ald (S8.1 15) 7 (S8.2.1 18) fun v9 => nm (v9 + (nI 1)) fun x10 => (mX11_nextRow_L16  n) x10 S8 else (mX11_nextRow_L16  n) (nI 0) S8) else ast 7 (S.2.1 18) <| nm (mA S 15 ((S.2.1 18).toNatClampNeg) x6) fun S11 => ald (S11.1 16) 7 (S11.2.1 18) fun v12 => ast 7 ((S11.2.1 18) + (nI 1)) <| nm (mA S11 16 (((S11.2.1 18) + (nI 1)).toNatClampNeg) (v12 ||| ((nI 1) <<< (x6 &&& 31)))) fun S13 => ald (S13.1 17) 7 (S13.2.1 18) fun v14 => ald (S13.1 0) 288 (nI 1) fun v15 => (mX11_cost S13 x6 (v15 + (S13.2.1 18))).bind fun r16 => ast 7 ((S13.2.1 18) + (nI 1)) <| nm (mA S13 17 (((S13.2.1 18) + (nI 1)).toNatClampNeg) (v14 + r16)) fun S17 => nm (mI S17 18 ((S17.2.1 18) + (nI 1))) fun S18 => zo (nI 1) (some ((nI 1), S18)))) := rfl
noncomputable def mX11_nextRow (S : MS) : Option (Int32 × MS) := (if (S.2.1 19) = 0 then nm (mI S 19 (nI 1)) fun S19 => zo (nI 1) (some ((nI 1), S19)) else mX11_nextRow_L16 FU (nI 0) S)
set_option maxHeartbeats 4000000 in
set_option maxRecDepth 100000 in
theorem kX11_nextRow_L23 {p : Program} {l : Launch} {e : Env} {s : State} {m : MethodId} {below : List Frame} {meth : Method} {c : Code} {D : va_G} {cs : CS} {A : Nat → Prop}  {ad : Nat → Nat} {S : MS}  (E : EV p s m [.ref (ad 22)].toArray meth c cX11_nextRow 2 RX11 (some .boolean) D cs) (hA : ∀ q : Nat, s.heap.size ≤ q → A q) {Q : State → Prop} (z : Int32) : ∀ (n : Nat) (y1 : Int32), mX11_nextRow_L23 S n y1 = some z → ∀ (H : Heap) (locs : List Loc), va_P D classes (WM cs ad S) H → va_D A (WM cs ad S) → va_S A s.heap H locs → ∀ ls : Array Slot, lv_has ls 2 [(0, .ref (ad 22)), (1, .int y1)] → (∀ ls : Array Slot, lv_has ls 2 [(0, .ref (ad 22)), (1, .int z)] → W p l e ({ frames := 3, cells := 0, slots := 0, locals := 70 }) s m [.ref (ad 22)].toArray below meth c H locs 0 0 Q (F0 m 67 ls [])) → W p l e ({ frames := 3, cells := 0, slots := 0, locals := 70 }) s m [.ref (ad 22)].toArray below meth c H locs 0 0 Q (F0 m 23 ls []) := by
  obtain ⟨hx, hb, hr, hml, hown, hlk, hT, hN, hK⟩ := id E
  intro n
  induction n with
  | zero =>
    intro y1 hm
    exact nomatch (show (none : Option Int32) = some z from hm)
  | succ n ih =>
    intro y1 hm H locs hP hD hS ls hl kk
    rw [mX11_nextRow_L23_s] at hm
    refine lv_iload_n hx hb dX11_nextRow_23 rfl (lv_at hl 1 rfl) ?_
    refine lv_aload_n hx hb dX11_nextRow_24 rfl (lv_at hl 0 rfl) ?_
    refine gf_X11_7 (v := .ref (ad 0)) hx hb hT hown hK hP 0 rfl rfl dX11_nextRow_25 ?_
    refine lv_iconst (v := (nI 4)) hx hb dX11_nextRow_28 (by decide) ?_
    refine x_iald hx hb hK hP 1 rfl hm dX11_nextRow_29 (fun v1 hm => ?_)
    refine x_icmp_ge (tgt := 67) hx hb dX11_nextRow_30 (by decide) hm (fun hm => ?_) (fun hm => ?_)
    · cases hm
      exact kk ls (lv_sub hl [0, 1] rfl)
    · refine lv_aload_n hx hb dX11_nextRow_33 rfl (lv_at hl 0 rfl) ?_
      refine lv_iload_n hx hb dX11_nextRow_34 rfl (lv_at hl 1 rfl) ?_
      refine lv_aload_n hx hb dX11_nextRow_35 rfl (lv_at hl 0 rfl) ?_
      refine gf_X11_39 (v := .ref (ad 16)) hx hb hT hown hK hP 0 rfl rfl dX11_nextRow_36 ?_
      refine lv_aload_n hx hb dX11_nextRow_39 rfl (lv_at hl 0 rfl) ?_
      refine gf_X11_172 (v := .int (S.2.1 18)) hx hb hT hown hK hP 0 rfl rfl dX11_nextRow_40 ?_
      refine x_iald hx hb hK hP 9 rfl hm dX11_nextRow_43 (fun v2 hm => ?_)
      refine lv_aload_n hx hb dX11_nextRow_44 rfl (lv_at hl 0 rfl) ?_
      refine gf_X11_7 (v := .ref (ad 0)) hx hb hT hown hK hP 0 rfl rfl dX11_nextRow_45 ?_
      refine lv_iconst (v := (nI 1)) hx hb dX11_nextRow_48 (by decide) ?_
      refine x_iald hx hb hK hP 1 rfl hm dX11_nextRow_49 (fun v3 hm => ?_)
      refine lv_aload_n hx hb dX11_nextRow_50 rfl (lv_at hl 0 rfl) ?_
      refine gf_X11_172 (v := .int (S.2.1 18)) hx hb hT hown hK hP 0 rfl rfl dX11_nextRow_51 ?_
      refine lv_iadd hx hb dX11_nextRow_54 ?_
      refine xV_i (As := [.int y1, .int v2, .int (v3 + (S.2.1 18))]) (rest := []) hx hb hml hown hT hN hK hP cw_X11_144 hm (fun z h => tcX11_mayPlead l D cs ad S y1 v2 (v3 + (S.2.1 18)) z h) ⟨rfl, rfl⟩ ⟨by decide, by decide⟩ (b := (ad 22)) 0 rfl rfl rfl hl.1 rfl rfl (Nat.le_of_ble_eq_true rfl) dX11_nextRow_55 ⟨Nat.zero_le _, Nat.zero_le _⟩ (fun r4 hm => ?_)
      refine x_if_ne (tgt := 67) hx hb dX11_nextRow_58 (by decide) hm (fun hm => ?_) (fun hm => ?_)
      · cases hm
        exact kk ls (lv_sub hl [0, 1] rfl)
      · refine x_iinc (lv' := fun x5 => [(1, .int x5), (0, .ref (ad 22))]) hx hb dX11_nextRow_61 hl (k := 1) rfl (by decide) (v0 := (nI 1)) (by decide) (fun _ => rfl) hm (fun x5 ls hm hl => ?_)
        refine lv_goto (tgt := 23) hx hb dX11_nextRow_64 (by decide) ?_
        exact ih x5 hm H locs hP hD hS ls (lv_sub hl [1, 0] rfl) kk
set_option maxHeartbeats 4000000 in
set_option maxRecDepth 100000 in
theorem kX11_nextRow_L16 {p : Program} {l : Launch} {e : Env} {s : State} {m : MethodId} {below : List Frame} {meth : Method} {c : Code} {D : va_G} {cs : CS} {A : Nat → Prop}  {ad : Nat → Nat}  (E : EV p s m [.ref (ad 22)].toArray meth c cX11_nextRow 2 RX11 (some .boolean) D cs) (hA : ∀ q : Nat, s.heap.size ≤ q → A q) (z : Int32 × MS) : ∀ (n : Nat) (y1 : Int32) (S : MS), mX11_nextRow_L16  n y1 S = some z → ∀ (H : Heap) (locs : List Loc), va_P D classes (WM cs ad S) H → va_D A (WM cs ad S) → va_S A s.heap H locs → ∀ ls : Array Slot, lv_has ls 2 [(0, .ref (ad 22)), (1, .int y1)] → W p l e ({ frames := 3, cells := 0, slots := 0, locals := 70 }) s m [.ref (ad 22)].toArray below meth c H locs 0 0 (MQ below (QWi D cs A (fun u => WM cs ad u) z) [.ref (ad 22)].toArray s 0 0 A) (F0 m 16 ls []) := by
  obtain ⟨hx, hb, hr, hml, hown, hlk, hT, hN, hK⟩ := id E
  intro n
  induction n with
  | zero =>
    intro y1 S hm
    exact nomatch (show (none : Option (Int32 × MS)) = some z from hm)
  | succ n ih =>
    intro y1 S hm H locs hP hD hS ls hl
    rw [mX11_nextRow_L16_s] at hm
    refine lv_aload_n hx hb dX11_nextRow_16 rfl (lv_at hl 0 rfl) ?_
    refine gf_X11_172 (v := .int (S.2.1 18)) hx hb hT hown hK hP 0 rfl rfl dX11_nextRow_17 ?_
    refine x_if_lt (tgt := 196) hx hb dX11_nextRow_20 (by decide) hm (fun hm => ?_) (fun hm => ?_)
    · refine lv_iconst (v := (nI 0)) hx hb dX11_nextRow_196 (by decide) ?_
      exact x_zretW (wf := (fun u => WM cs ad u)) hx hb hr hlk hK hP hD hS hm dX11_nextRow_197
    · obtain ⟨x6, he, hm⟩ := ob_some hm
      refine kX11_nextRow_L23 E hA _ FU y1 he H locs hP hD hS ls (lv_sub hl [0, 1] rfl) (fun ls hl => ?_)
      refine lv_iload_n hx hb dX11_nextRow_67 rfl (lv_at hl 1 rfl) ?_
      refine lv_aload_n hx hb dX11_nextRow_68 rfl (lv_at hl 0 rfl) ?_
      refine gf_X11_7 (v := .ref (ad 0)) hx hb hT hown hK hP 0 rfl rfl dX11_nextRow_69 ?_
      refine lv_iconst (v := (nI 4)) hx hb dX11_nextRow_72 (by decide) ?_
      refine x_iald hx hb hK hP 1 rfl hm dX11_nextRow_73 (fun v7 hm => ?_)
      refine x_icmp_ge (tgt := 160) hx hb dX11_nextRow_74 (by decide) hm (fun hm => ?_) (fun hm => ?_)
      · refine lv_aload_n hx hb dX11_nextRow_160 rfl (lv_at hl 0 rfl) ?_
        refine lv_dup hx hb dX11_nextRow_161 rfl ?_
        refine gf_X11_172 (v := .int (S.2.1 18)) hx hb hT hown hK hP 0 rfl rfl dX11_nextRow_162 ?_
        refine lv_iconst (v := (nI 1)) hx hb dX11_nextRow_165 (by decide) ?_
        refine lv_isub hx hb dX11_nextRow_166 ?_
        refine pf_X11_172 (wf := (fun u => WM cs ad u)) (u0 := mI S 18 ((S.2.1 18) - (nI 1))) hx hb hT hown hK hP hD hS 0 rfl (Nat.le_of_ble_eq_true rfl) rfl rfl rfl hm dX11_nextRow_167 (fun S8 H locs hm hP hD hS => ?_)
        refine lv_aload_n hx hb dX11_nextRow_170 rfl (lv_at hl 0 rfl) ?_
        refine gf_X11_172 (v := .int (S8.2.1 18)) hx hb hT hown hK hP 0 rfl rfl dX11_nextRow_171 ?_
        refine x_if_ge (tgt := 181) hx hb dX11_nextRow_174 (by decide) hm (fun hm => ?_) (fun hm => ?_)
        · refine lv_aload_n hx hb dX11_nextRow_181 rfl (lv_at hl 0 rfl) ?_
          refine gf_X11_36 (v := .ref (ad 15)) hx hb hT hown hK hP 0 rfl rfl dX11_nextRow_182 ?_
          refine lv_aload_n hx hb dX11_nextRow_185 rfl (lv_at hl 0 rfl) ?_
          refine gf_X11_172 (v := .int (S8.2.1 18)) hx hb hT hown hK hP 0 rfl rfl dX11_nextRow_186 ?_
          refine x_iald hx hb hK hP 8 rfl hm dX11_nextRow_189 (fun v9 hm => ?_)
          refine lv_iconst (v := (nI 1)) hx hb dX11_nextRow_190 (by decide) ?_
          refine lv_iadd hx hb dX11_nextRow_191 ?_
          refine xi_nm hm (fun x10 hm => ?_)
          refine lv_istore_n (lv' := [(1, .int x10), (0, .ref (ad 22))]) hx hb dX11_nextRow_192 rfl hl (by decide) rfl (fun ls hl => ?_)
          refine lv_goto (tgt := 16) hx hb dX11_nextRow_193 (by decide) ?_
          exact ih x10 S8 hm H locs hP hD hS ls (lv_sub hl [1, 0] rfl)
        · refine lv_iconst (v := (nI 0)) hx hb dX11_nextRow_177 (by decide) ?_
          refine lv_goto (tgt := 192) hx hb dX11_nextRow_178 (by decide) ?_
          refine lv_istore_n (lv' := [(1, .int (nI 0)), (0, .ref (ad 22))]) hx hb dX11_nextRow_192 rfl hl (by decide) rfl (fun ls hl => ?_)
          refine lv_goto (tgt := 16) hx hb dX11_nextRow_193 (by decide) ?_
          exact ih (nI 0) S8 hm H locs hP hD hS ls (lv_sub hl [1, 0] rfl)
      · refine lv_aload_n hx hb dX11_nextRow_77 rfl (lv_at hl 0 rfl) ?_
        refine gf_X11_36 (v := .ref (ad 15)) hx hb hT hown hK hP 0 rfl rfl dX11_nextRow_78 ?_
        refine lv_aload_n hx hb dX11_nextRow_81 rfl (lv_at hl 0 rfl) ?_
        refine gf_X11_172 (v := .int (S.2.1 18)) hx hb hT hown hK hP 0 rfl rfl dX11_nextRow_82 ?_
        refine lv_iload_n hx hb dX11_nextRow_85 rfl (lv_at hl 1 rfl) ?_
        refine x_iast hx hb hK hP hD hS 8 rfl (fun j => mA S 15 j x6) (fun u => WM cs ad u) (fun _ => rfl) hm dX11_nextRow_86 (fun S11 H locs hm hP hD hS => ?_)
        refine lv_aload_n hx hb dX11_nextRow_87 rfl (lv_at hl 0 rfl) ?_
        refine gf_X11_39 (v := .ref (ad 16)) hx hb hT hown hK hP 0 rfl rfl dX11_nextRow_88 ?_
        refine lv_aload_n hx hb dX11_nextRow_91 rfl (lv_at hl 0 rfl) ?_
        refine gf_X11_172 (v := .int (S11.2.1 18)) hx hb hT hown hK hP 0 rfl rfl dX11_nextRow_92 ?_
        refine lv_iconst (v := (nI 1)) hx hb dX11_nextRow_95 (by decide) ?_
        refine lv_iadd hx hb dX11_nextRow_96 ?_
        refine lv_aload_n hx hb dX11_nextRow_97 rfl (lv_at hl 0 rfl) ?_
        refine gf_X11_39 (v := .ref (ad 16)) hx hb hT hown hK hP 0 rfl rfl dX11_nextRow_98 ?_
        refine lv_aload_n hx hb dX11_nextRow_101 rfl (lv_at hl 0 rfl) ?_
        refine gf_X11_172 (v := .int (S11.2.1 18)) hx hb hT hown hK hP 0 rfl rfl dX11_nextRow_102 ?_
        refine x_iald hx hb hK hP 9 rfl hm dX11_nextRow_105 (fun v12 hm => ?_)
        refine lv_iconst (v := (nI 1)) hx hb dX11_nextRow_106 (by decide) ?_
        refine lv_iload_n hx hb dX11_nextRow_107 rfl (lv_at hl 1 rfl) ?_
        refine lv_ishl hx hb dX11_nextRow_108 ?_
        refine lv_ior hx hb dX11_nextRow_109 ?_
        refine x_iast hx hb hK hP hD hS 9 rfl (fun j => mA S11 16 j (v12 ||| ((nI 1) <<< (x6 &&& 31)))) (fun u => WM cs ad u) (fun _ => rfl) hm dX11_nextRow_110 (fun S13 H locs hm hP hD hS => ?_)
        refine lv_aload_n hx hb dX11_nextRow_111 rfl (lv_at hl 0 rfl) ?_
        refine gf_X11_42 (v := .ref (ad 17)) hx hb hT hown hK hP 0 rfl rfl dX11_nextRow_112 ?_
        refine lv_aload_n hx hb dX11_nextRow_115 rfl (lv_at hl 0 rfl) ?_
        refine gf_X11_172 (v := .int (S13.2.1 18)) hx hb hT hown hK hP 0 rfl rfl dX11_nextRow_116 ?_
        refine lv_iconst (v := (nI 1)) hx hb dX11_nextRow_119 (by decide) ?_
        refine lv_iadd hx hb dX11_nextRow_120 ?_
        refine lv_aload_n hx hb dX11_nextRow_121 rfl (lv_at hl 0 rfl) ?_
        refine gf_X11_42 (v := .ref (ad 17)) hx hb hT hown hK hP 0 rfl rfl dX11_nextRow_122 ?_
        refine lv_aload_n hx hb dX11_nextRow_125 rfl (lv_at hl 0 rfl) ?_
        refine gf_X11_172 (v := .int (S13.2.1 18)) hx hb hT hown hK hP 0 rfl rfl dX11_nextRow_126 ?_
        refine x_iald hx hb hK hP 10 rfl hm dX11_nextRow_129 (fun v14 hm => ?_)
        refine lv_aload_n hx hb dX11_nextRow_130 rfl (lv_at hl 0 rfl) ?_
        refine lv_iload_n hx hb dX11_nextRow_131 rfl (lv_at hl 1 rfl) ?_
        refine lv_aload_n hx hb dX11_nextRow_132 rfl (lv_at hl 0 rfl) ?_
        refine gf_X11_7 (v := .ref (ad 0)) hx hb hT hown hK hP 0 rfl rfl dX11_nextRow_133 ?_
        refine lv_iconst (v := (nI 1)) hx hb dX11_nextRow_136 (by decide) ?_
        refine x_iald hx hb hK hP 1 rfl hm dX11_nextRow_137 (fun v15 hm => ?_)
        refine lv_aload_n hx hb dX11_nextRow_138 rfl (lv_at hl 0 rfl) ?_
        refine gf_X11_172 (v := .int (S13.2.1 18)) hx hb hT hown hK hP 0 rfl rfl dX11_nextRow_139 ?_
        refine lv_iadd hx hb dX11_nextRow_142 ?_
        refine xV_i (As := [.int x6, .int (v15 + (S13.2.1 18))]) (rest := [.int v14, .int ((S13.2.1 18) + (nI 1)), .ref (ad 17)]) hx hb hml hown hT hN hK hP cw_X11_138 hm (fun z h => tcX11_cost l D cs ad S13 x6 (v15 + (S13.2.1 18)) z h) ⟨rfl, rfl⟩ ⟨by decide, by decide⟩ (b := (ad 22)) 0 rfl rfl rfl hl.1 rfl rfl (Nat.le_of_ble_eq_true rfl) dX11_nextRow_143 ⟨Nat.zero_le _, Nat.zero_le _⟩ (fun r16 hm => ?_)
        refine lv_iadd hx hb dX11_nextRow_146 ?_
        refine x_iast hx hb hK hP hD hS 10 rfl (fun j => mA S13 17 j (v14 + r16)) (fun u => WM cs ad u) (fun _ => rfl) hm dX11_nextRow_147 (fun S17 H locs hm hP hD hS => ?_)
        refine lv_aload_n hx hb dX11_nextRow_148 rfl (lv_at hl 0 rfl) ?_
        refine lv_dup hx hb dX11_nextRow_149 rfl ?_
        refine gf_X11_172 (v := .int (S17.2.1 18)) hx hb hT hown hK hP 0 rfl rfl dX11_nextRow_150 ?_
        refine lv_iconst (v := (nI 1)) hx hb dX11_nextRow_153 (by decide) ?_
        refine lv_iadd hx hb dX11_nextRow_154 ?_
        refine pf_X11_172 (wf := (fun u => WM cs ad u)) (u0 := mI S17 18 ((S17.2.1 18) + (nI 1))) hx hb hT hown hK hP hD hS 0 rfl (Nat.le_of_ble_eq_true rfl) rfl rfl rfl hm dX11_nextRow_155 (fun S18 H locs hm hP hD hS => ?_)
        refine lv_iconst (v := (nI 1)) hx hb dX11_nextRow_158 (by decide) ?_
        exact x_zretW (wf := (fun u => WM cs ad u)) hx hb hr hlk hK hP hD hS hm dX11_nextRow_159
set_option maxHeartbeats 4000000 in
set_option maxRecDepth 100000 in
theorem tcX11_nextRow (l : Launch) (D : va_G) (cs : CS) (ad : Nat → Nat) (sz : Nat) (S : MS) (z : Int32 × MS) (hm : mX11_nextRow S = some z) : Met l yX11_nextRow (Cond.code yX11_nextRow cX11_nextRow 2 (some .boolean) :: gw_tbl) ({ frames := 3, cells := 0, slots := 0, locals := 70 }) (PcW D cs sz (WM cs ad S) [.ref (ad 22)]) (QWi D cs (va_A (WM cs ad S) sz) (fun u => WM cs ad u) z) 0 0 (va_A (WM cs ad S) sz) := by
  refine met_W rfl (Nat.le_of_ble_eq_true rfl) (fun p e s m below meth c E hP hD hS hA ls hl => ?_)
  generalize va_A (WM cs ad S) sz = A at hD hS hA ⊢
  obtain ⟨hx, hb, hr, hml, hown, hlk, hT, hN, hK⟩ := id E
  obtain ⟨H, hH⟩ : ∃ H, H = s.heap := ⟨_, rfl⟩
  obtain ⟨locs, hlo⟩ : ∃ L : List Loc, L = [] := ⟨_, rfl⟩
  have hP : va_P D classes (WM cs ad S) H := by rw [hH]; exact hP
  have hS : va_S A s.heap H locs := by rw [hH, hlo]; exact hS
  rw [show W p l e _ s m _ below meth c s.heap [] 0 0 = W p l e _ s m _ below meth c H locs 0 0 by rw [hH, hlo]]
  have hl : lv_has ls 2 [(0, .ref (ad 22))] := hl
  unfold mX11_nextRow at hm
  refine lv_aload_n hx hb dX11_nextRow_0 rfl (lv_at hl 0 rfl) ?_
  refine gf_X11_168 (v := .int (S.2.1 19)) hx hb hT hown hK hP 0 rfl rfl dX11_nextRow_1 ?_
  refine x_if_ne (tgt := 14) hx hb dX11_nextRow_4 (by decide) hm (fun hm => ?_) (fun hm => ?_)
  · refine lv_iconst (v := (nI 0)) hx hb dX11_nextRow_14 (by decide) ?_
    refine lv_istore_n (lv' := [(1, .int (nI 0)), (0, .ref (ad 22))]) hx hb dX11_nextRow_15 rfl hl (by decide) rfl (fun ls hl => ?_)
    exact kX11_nextRow_L16 E hA _ FU (nI 0) S hm H locs hP hD hS ls (lv_sub hl [1, 0] rfl)
  · refine lv_aload_n hx hb dX11_nextRow_7 rfl (lv_at hl 0 rfl) ?_
    refine lv_iconst (v := (nI 1)) hx hb dX11_nextRow_8 (by decide) ?_
    refine pf_X11_168 (wf := (fun u => WM cs ad u)) (u0 := mI S 19 (nI 1)) hx hb hT hown hK hP hD hS 0 rfl (Nat.le_of_ble_eq_true rfl) (by decide +kernel) (by decide +kernel) rfl hm dX11_nextRow_9 (fun S19 H locs hm hP hD hS => ?_)
    refine lv_iconst (v := (nI 1)) hx hb dX11_nextRow_12 (by decide) ?_
    exact x_zretW (wf := (fun u => WM cs ad u)) hx hb hr hlk hK hP hD hS hm dX11_nextRow_13
noncomputable def mX11_bestTo_L91  : Nat → Int32 → Int32 → Int32 → Int32 → MS → Option MS := fun n => Nat.rec (motive := fun _ => Int32 → Int32 → Int32 → Int32 → MS → Option MS) (fun _ _ _ _ _ => none) (fun _ rc => fun y1 y2 y3 y5 S => (if (S.2.1 18) ≤ y5 then some S else ald (S.1 15) 7 y5 fun v11 => ast 6 y5 <| nm (mA S 20 y5.toNatClampNeg v11) fun S12 => nm (y5 + (nI 1)) fun x13 => rc y1 y2 y3 x13 S12)) n
theorem mX11_bestTo_L91_s  (n : Nat) (y1 : Int32) (y2 : Int32) (y3 : Int32) (y5 : Int32) (S : MS) : mX11_bestTo_L91  (n + 1) y1 y2 y3 y5 S = (if (S.2.1 18) ≤ y5 then some S else ald (S.1 15) 7 y5 fun v11 => ast 6 y5 <| nm (mA S 20 y5.toNatClampNeg v11) fun S12 => nm (y5 + (nI 1)) fun x13 => (mX11_bestTo_L91  n) y1 y2 y3 x13 S12) := rfl
noncomputable def mX11_bestTo_L6  : Nat → Int32 → Int32 → Int32 → MS → Option (Int32 × MS) := fun n => Nat.rec (motive := fun _ => Int32 → Int32 → Int32 → MS → Option (Int32 × MS)) (fun _ _ _ _ => none) (fun _ rc => fun y1 y2 y3 S => (mX11_nextRow S).bind fun ⟨r3, S2⟩ => (if r3 = 0 then some (y3, S2) else (if y2 = 0 then ald (S2.1 16) 7 (S2.2.1 18) fun v17 => (mX11_supposedBy S2 v17).bind fun r18 => (mX11_hears S2 y1 r18).bind fun r19 => (if r19 = 0 then rc y1 y2 y3 S2 else (if y3 = (-1 : Int32) then nm (mI S2 21 (S2.2.1 18)) fun S20 => (mX11_bestTo_L91 FU y1 y2 (S2.2.1 18) (nI 0) S20).bind fun S21 => rc y1 y2 (S2.2.1 18) S21 else (if y3 ≤ (S2.2.1 18) then rc y1 y2 y3 S2 else nm (mI S2 21 (S2.2.1 18)) fun S22 => (mX11_bestTo_L91 FU y1 y2 (S2.2.1 18) (nI 0) S22).bind fun S23 => rc y1 y2 (S2.2.1 18) S23))) else ald (S2.1 17) 7 (S2.2.1 18) fun v4 => ald (S2.1 0) 288 ((nI 34) + y1) fun v5 => nm (v4 + v5) fun x6 => ald (S2.1 16) 7 (S2.2.1 18) fun v7 => (mX11_supposedBy S2 v7).bind fun r8 => (mX11_hears S2 y1 r8).bind fun r9 => (if r9 = 0 then rc y1 y2 y3 S2 else (if y3 = (-1 : Int32) then nm (mI S2 21 (S2.2.1 18)) fun S10 => (mX11_bestTo_L91 FU y1 y2 x6 (nI 0) S10).bind fun S14 => rc y1 y2 x6 S14 else (if y3 ≤ x6 then rc y1 y2 y3 S2 else nm (mI S2 21 (S2.2.1 18)) fun S15 => (mX11_bestTo_L91 FU y1 y2 x6 (nI 0) S15).bind fun S16 => rc y1 y2 x6 S16)))))) n
theorem mX11_bestTo_L6_s  (n : Nat) (y1 : Int32) (y2 : Int32) (y3 : Int32) (S : MS) : mX11_bestTo_L6  (n + 1) y1 y2 y3 S = (mX11_nextRow S).bind fun ⟨r3, S2⟩ => (if r3 = 0 then some (y3, S2) else (if y2 = 0 then ald (S2.1 16) 7 (S2.2.1 18) fun v17 => (mX11_supposedBy S2 v17).bind fun r18 => (mX11_hears S2 y1 r18).bind fun r19 => (if r19 = 0 then (mX11_bestTo_L6  n) y1 y2 y3 S2 else (if y3 = (-1 : Int32) then nm (mI S2 21 (S2.2.1 18)) fun S20 => (mX11_bestTo_L91 FU y1 y2 (S2.2.1 18) (nI 0) S20).bind fun S21 => (mX11_bestTo_L6  n) y1 y2 (S2.2.1 18) S21 else (if y3 ≤ (S2.2.1 18) then (mX11_bestTo_L6  n) y1 y2 y3 S2 else nm (mI S2 21 (S2.2.1 18)) fun S22 => (mX11_bestTo_L91 FU y1 y2 (S2.2.1 18) (nI 0) S22).bind fun S23 => (mX11_bestTo_L6  n) y1 y2 (S2.2.1 18) S23))) else ald (S2.1 17) 7 (S2.2.1 18) fun v4 => ald (S2.1 0) 288 ((nI 34) + y1) fun v5 => nm (v4 + v5) fun x6 => ald (S2.1 16) 7 (S2.2.1 18) fun v7 => (mX11_supposedBy S2 v7).bind fun r8 => (mX11_hears S2 y1 r8).bind fun r9 => (if r9 = 0 then (mX11_bestTo_L6  n) y1 y2 y3 S2 else (if y3 = (-1 : Int32) then nm (mI S2 21 (S2.2.1 18)) fun S10 => (mX11_bestTo_L91 FU y1 y2 x6 (nI 0) S10).bind fun S14 => (mX11_bestTo_L6  n) y1 y2 x6 S14 else (if y3 ≤ x6 then (mX11_bestTo_L6  n) y1 y2 y3 S2 else nm (mI S2 21 (S2.2.1 18)) fun S15 => (mX11_bestTo_L91 FU y1 y2 x6 (nI 0) S15).bind fun S16 => (mX11_bestTo_L6  n) y1 y2 x6 S16))))) := rfl
noncomputable def mX11_bestTo (S : MS) (a1 : Int32) (a2 : Int32) : Option (Int32 × MS) := (mX11_beginRows S).bind fun S1 => mX11_bestTo_L6 FU a1 a2 (-1 : Int32) S1
set_option maxHeartbeats 4000000 in
set_option maxRecDepth 100000 in
theorem kX11_bestTo_L91 {p : Program} {l : Launch} {e : Env} {s : State} {m : MethodId} {below : List Frame} {meth : Method} {c : Code} {D : va_G} {cs : CS} {A : Nat → Prop}  {ad : Nat → Nat} {a1 : Int32} {a2 : Int32} (E : EV p s m [.ref (ad 22), .int a1, .int a2].toArray meth c cX11_bestTo 6 RX11 (some .int) D cs) (hA : ∀ q : Nat, s.heap.size ≤ q → A q) {Q : State → Prop} (z : MS) : ∀ (n : Nat) (y1 : Int32) (y2 : Int32) (y3 : Int32) (y5 : Int32) (S : MS), mX11_bestTo_L91  n y1 y2 y3 y5 S = some z → ∀ (H : Heap) (locs : List Loc), va_P D classes (WM cs ad S) H → va_D A (WM cs ad S) → va_S A s.heap H locs → ∀ ls : Array Slot, lv_has ls 6 [(0, .ref (ad 22)), (1, .int y1), (2, .int y2), (3, .int y3), (5, .int y5)] → (∀ (H : Heap) (locs : List Loc), va_P D classes (WM cs ad z) H → va_D A (WM cs ad z) → va_S A s.heap H locs → ∀ ls : Array Slot, lv_has ls 6 [(0, .ref (ad 22)), (1, .int y1), (2, .int y2), (3, .int y3)] → W p l e ({ frames := 4, cells := 0, slots := 0, locals := 91 }) s m [.ref (ad 22), .int a1, .int a2].toArray below meth c H locs 0 0 Q (F0 m 120 ls [])) → W p l e ({ frames := 4, cells := 0, slots := 0, locals := 91 }) s m [.ref (ad 22), .int a1, .int a2].toArray below meth c H locs 0 0 Q (F0 m 91 ls []) := by
  obtain ⟨hx, hb, hr, hml, hown, hlk, hT, hN, hK⟩ := id E
  intro n
  induction n with
  | zero =>
    intro y1 y2 y3 y5 S hm
    exact nomatch (show (none : Option MS) = some z from hm)
  | succ n ih =>
    intro y1 y2 y3 y5 S hm H locs hP hD hS ls hl kk
    rw [mX11_bestTo_L91_s] at hm
    refine lv_iload hx hb dX11_bestTo_91 (lv_at hl 4 rfl) ?_
    refine lv_aload_n hx hb dX11_bestTo_93 rfl (lv_at hl 0 rfl) ?_
    refine gf_X11_172 (v := .int (S.2.1 18)) hx hb hT hown hK hP 0 rfl rfl dX11_bestTo_94 ?_
    refine x_icmp_ge (tgt := 120) hx hb dX11_bestTo_97 (by decide) hm (fun hm => ?_) (fun hm => ?_)
    · cases hm
      exact kk _ _ hP hD hS ls (lv_sub hl [0, 1, 2, 3] rfl)
    · refine lv_aload_n hx hb dX11_bestTo_100 rfl (lv_at hl 0 rfl) ?_
      refine gf_X11_45 (v := .ref (ad 20)) hx hb hT hown hK hP 0 rfl rfl dX11_bestTo_101 ?_
      refine lv_iload hx hb dX11_bestTo_104 (lv_at hl 4 rfl) ?_
      refine lv_aload_n hx hb dX11_bestTo_106 rfl (lv_at hl 0 rfl) ?_
      refine gf_X11_36 (v := .ref (ad 15)) hx hb hT hown hK hP 0 rfl rfl dX11_bestTo_107 ?_
      refine lv_iload hx hb dX11_bestTo_110 (lv_at hl 4 rfl) ?_
      refine x_iald hx hb hK hP 8 rfl hm dX11_bestTo_112 (fun v11 hm => ?_)
      refine x_iast hx hb hK hP hD hS 11 rfl (fun j => mA S 20 j v11) (fun u => WM cs ad u) (fun _ => rfl) hm dX11_bestTo_113 (fun S12 H locs hm hP hD hS => ?_)
      refine x_iinc (lv' := fun x13 => [(5, .int x13), (0, .ref (ad 22)), (1, .int y1), (2, .int y2), (3, .int y3)]) hx hb dX11_bestTo_114 hl (k := 4) rfl (by decide) (v0 := (nI 1)) (by decide) (fun _ => rfl) hm (fun x13 ls hm hl => ?_)
      refine lv_goto (tgt := 91) hx hb dX11_bestTo_117 (by decide) ?_
      exact ih y1 y2 y3 x13 S12 hm H locs hP hD hS ls (lv_sub hl [1, 2, 3, 4, 0] rfl) kk
set_option maxHeartbeats 4000000 in
set_option maxRecDepth 100000 in
theorem kX11_bestTo_L6 {p : Program} {l : Launch} {e : Env} {s : State} {m : MethodId} {below : List Frame} {meth : Method} {c : Code} {D : va_G} {cs : CS} {A : Nat → Prop}  {ad : Nat → Nat} {a1 : Int32} {a2 : Int32} (E : EV p s m [.ref (ad 22), .int a1, .int a2].toArray meth c cX11_bestTo 6 RX11 (some .int) D cs) (hA : ∀ q : Nat, s.heap.size ≤ q → A q) (z : Int32 × MS) : ∀ (n : Nat) (y1 : Int32) (y2 : Int32) (y3 : Int32) (S : MS), mX11_bestTo_L6  n y1 y2 y3 S = some z → ∀ (H : Heap) (locs : List Loc), va_P D classes (WM cs ad S) H → va_D A (WM cs ad S) → va_S A s.heap H locs → ∀ ls : Array Slot, lv_has ls 6 [(0, .ref (ad 22)), (1, .int y1), (2, .int y2), (3, .int y3)] → W p l e ({ frames := 4, cells := 0, slots := 0, locals := 91 }) s m [.ref (ad 22), .int a1, .int a2].toArray below meth c H locs 0 0 (MQ below (QWi D cs A (fun u => WM cs ad u) z) [.ref (ad 22), .int a1, .int a2].toArray s 0 0 A) (F0 m 6 ls []) := by
  obtain ⟨hx, hb, hr, hml, hown, hlk, hT, hN, hK⟩ := id E
  intro n
  induction n with
  | zero =>
    intro y1 y2 y3 S hm
    exact nomatch (show (none : Option (Int32 × MS)) = some z from hm)
  | succ n ih =>
    intro y1 y2 y3 S hm H locs hP hD hS ls hl
    rw [mX11_bestTo_L6_s] at hm
    refine lv_aload_n hx hb dX11_bestTo_6 rfl (lv_at hl 0 rfl) ?_
    refine xVW_i (As := []) (rest := []) (wr := []) (wg := (fun u => WM cs ad u)) hx hb hml hown hT hN hK hP hD hS hA cw_X11_178 hm (fun z h => tcX11_nextRow l D cs ad H.size S z h) ⟨rfl, rfl⟩ ⟨by decide, by decide⟩ [0, 1, 2, 3, 4, 5, 6, 7, 8, 9, 10, 11] [] [0, 1, 2, 3, 4, 5, 6, 7, 8, 9, 10, 11] rfl (by decide) rfl (by decide) (by decide) (fun _ => rfl) (by decide) (b := (ad 22)) 0 rfl rfl rfl hl.1 rfl rfl (Nat.le_of_ble_eq_true rfl) dX11_bestTo_7 ⟨Nat.zero_le _, Nat.zero_le _⟩ (fun r3 S2 H locs hm hP hD hS => ?_)
    refine x_if_eq (tgt := 123) hx hb dX11_bestTo_10 (by decide) hm (fun hm => ?_) (fun hm => ?_)
    · refine lv_iload_n hx hb dX11_bestTo_123 rfl (lv_at hl 3 rfl) ?_
      exact x_iretW (wf := (fun u => WM cs ad u)) hx hb hr hlk hK hP hD hS hm dX11_bestTo_124
    · refine lv_iload_n hx hb dX11_bestTo_13 rfl (lv_at hl 2 rfl) ?_
      refine x_if_ne (tgt := 24) hx hb dX11_bestTo_14 (by decide) hm (fun hm => ?_) (fun hm => ?_)
      · refine lv_aload_n hx hb dX11_bestTo_24 rfl (lv_at hl 0 rfl) ?_
        refine gf_X11_42 (v := .ref (ad 17)) hx hb hT hown hK hP 0 rfl rfl dX11_bestTo_25 ?_
        refine lv_aload_n hx hb dX11_bestTo_28 rfl (lv_at hl 0 rfl) ?_
        refine gf_X11_172 (v := .int (S2.2.1 18)) hx hb hT hown hK hP 0 rfl rfl dX11_bestTo_29 ?_
        refine x_iald hx hb hK hP 10 rfl hm dX11_bestTo_32 (fun v4 hm => ?_)
        refine lv_aload_n hx hb dX11_bestTo_33 rfl (lv_at hl 0 rfl) ?_
        refine gf_X11_7 (v := .ref (ad 0)) hx hb hT hown hK hP 0 rfl rfl dX11_bestTo_34 ?_
        refine lv_bipush (v := (nI 34)) hx hb dX11_bestTo_37 (by decide) ?_
        refine lv_iload_n hx hb dX11_bestTo_39 rfl (lv_at hl 1 rfl) ?_
        refine lv_iadd hx hb dX11_bestTo_40 ?_
        refine x_iald hx hb hK hP 1 rfl hm dX11_bestTo_41 (fun v5 hm => ?_)
        refine lv_iadd hx hb dX11_bestTo_42 ?_
        refine xi_nm hm (fun x6 hm => ?_)
        refine lv_istore (lv' := [(4, .int x6), (0, .ref (ad 22)), (1, .int y1), (2, .int y2), (3, .int y3)]) hx hb dX11_bestTo_43 hl (by decide) rfl (fun ls hl => ?_)
        refine lv_aload_n hx hb dX11_bestTo_45 rfl (lv_at hl 1 rfl) ?_
        refine lv_iload_n hx hb dX11_bestTo_46 rfl (lv_at hl 2 rfl) ?_
        refine lv_aload_n hx hb dX11_bestTo_47 rfl (lv_at hl 1 rfl) ?_
        refine lv_aload_n hx hb dX11_bestTo_48 rfl (lv_at hl 1 rfl) ?_
        refine gf_X11_39 (v := .ref (ad 16)) hx hb hT hown hK hP 0 rfl rfl dX11_bestTo_49 ?_
        refine lv_aload_n hx hb dX11_bestTo_52 rfl (lv_at hl 1 rfl) ?_
        refine gf_X11_172 (v := .int (S2.2.1 18)) hx hb hT hown hK hP 0 rfl rfl dX11_bestTo_53 ?_
        refine x_iald hx hb hK hP 9 rfl hm dX11_bestTo_56 (fun v7 hm => ?_)
        refine xV_i (As := [.int v7]) (rest := [.int y1, .ref (ad 22)]) hx hb hml hown hT hN hK hP cw_X11_135 hm (fun z h => tcX11_supposedBy l D cs ad S2 v7 z h) ⟨rfl, rfl⟩ ⟨by decide, by decide⟩ (b := (ad 22)) 0 rfl rfl rfl hl.1 rfl rfl (Nat.le_of_ble_eq_true rfl) dX11_bestTo_57 ⟨Nat.zero_le _, Nat.zero_le _⟩ (fun r8 hm => ?_)
        refine xV_i (As := [.int y1, .int r8]) (rest := []) hx hb hml hown hT hN hK hP cw_X11_162 hm (fun z h => tcX11_hears l D cs ad S2 y1 r8 z h) ⟨rfl, rfl⟩ ⟨by decide, by decide⟩ (b := (ad 22)) 0 rfl rfl rfl hl.1 rfl rfl (Nat.le_of_ble_eq_true rfl) dX11_bestTo_60 ⟨Nat.zero_le _, Nat.zero_le _⟩ (fun r9 hm => ?_)
        refine x_if_eq (tgt := 120) hx hb dX11_bestTo_63 (by decide) hm (fun hm => ?_) (fun hm => ?_)
        · refine lv_goto (tgt := 6) hx hb dX11_bestTo_120 (by decide) ?_
          exact ih y1 y2 y3 S2 hm H locs hP hD hS ls (lv_sub hl [1, 2, 3, 4] rfl)
        · refine lv_iload_n hx hb dX11_bestTo_66 rfl (lv_at hl 4 rfl) ?_
          refine lv_iconst (v := (-1 : Int32)) hx hb dX11_bestTo_67 (by decide) ?_
          refine x_icmp_eq (tgt := 77) hx hb dX11_bestTo_68 (by decide) hm (fun hm => ?_) (fun hm => ?_)
          · refine lv_iload hx hb dX11_bestTo_77 (lv_at hl 0 rfl) ?_
            refine lv_istore_n (lv' := [(3, .int x6), (4, .int x6), (0, .ref (ad 22)), (1, .int y1), (2, .int y2)]) hx hb dX11_bestTo_79 rfl hl (by decide) rfl (fun ls hl => ?_)
            refine lv_aload_n hx hb dX11_bestTo_80 rfl (lv_at hl 2 rfl) ?_
            refine lv_aload_n hx hb dX11_bestTo_81 rfl (lv_at hl 2 rfl) ?_
            refine gf_X11_172 (v := .int (S2.2.1 18)) hx hb hT hown hK hP 0 rfl rfl dX11_bestTo_82 ?_
            refine pf_X11_181 (wf := (fun u => WM cs ad u)) (u0 := mI S2 21 (S2.2.1 18)) hx hb hT hown hK hP hD hS 0 rfl (Nat.le_of_ble_eq_true rfl) rfl rfl rfl hm dX11_bestTo_85 (fun S10 H locs hm hP hD hS => ?_)
            refine lv_iconst (v := (nI 0)) hx hb dX11_bestTo_88 (by decide) ?_
            refine lv_istore (lv' := [(5, .int (nI 0)), (3, .int x6), (4, .int x6), (0, .ref (ad 22)), (1, .int y1), (2, .int y2)]) hx hb dX11_bestTo_89 hl (by decide) rfl (fun ls hl => ?_)
            obtain ⟨S14, he, hm⟩ := ob_some hm
            refine kX11_bestTo_L91 E hA _ FU y1 y2 x6 (nI 0) S10 he H locs hP hD hS ls (lv_sub hl [3, 4, 5, 1, 0] rfl) (fun H locs hP hD hS ls hl => ?_)
            refine lv_goto (tgt := 6) hx hb dX11_bestTo_120 (by decide) ?_
            exact ih y1 y2 x6 S14 hm H locs hP hD hS ls (lv_sub hl [0, 1, 2, 3] rfl)
          · refine lv_iload hx hb dX11_bestTo_71 (lv_at hl 0 rfl) ?_
            refine lv_iload_n hx hb dX11_bestTo_73 rfl (lv_at hl 4 rfl) ?_
            refine x_icmp_ge (tgt := 120) hx hb dX11_bestTo_74 (by decide) hm (fun hm => ?_) (fun hm => ?_)
            · refine lv_goto (tgt := 6) hx hb dX11_bestTo_120 (by decide) ?_
              exact ih y1 y2 y3 S2 hm H locs hP hD hS ls (lv_sub hl [1, 2, 3, 4] rfl)
            · refine lv_iload hx hb dX11_bestTo_77 (lv_at hl 0 rfl) ?_
              refine lv_istore_n (lv' := [(3, .int x6), (4, .int x6), (0, .ref (ad 22)), (1, .int y1), (2, .int y2)]) hx hb dX11_bestTo_79 rfl hl (by decide) rfl (fun ls hl => ?_)
              refine lv_aload_n hx hb dX11_bestTo_80 rfl (lv_at hl 2 rfl) ?_
              refine lv_aload_n hx hb dX11_bestTo_81 rfl (lv_at hl 2 rfl) ?_
              refine gf_X11_172 (v := .int (S2.2.1 18)) hx hb hT hown hK hP 0 rfl rfl dX11_bestTo_82 ?_
              refine pf_X11_181 (wf := (fun u => WM cs ad u)) (u0 := mI S2 21 (S2.2.1 18)) hx hb hT hown hK hP hD hS 0 rfl (Nat.le_of_ble_eq_true rfl) rfl rfl rfl hm dX11_bestTo_85 (fun S15 H locs hm hP hD hS => ?_)
              refine lv_iconst (v := (nI 0)) hx hb dX11_bestTo_88 (by decide) ?_
              refine lv_istore (lv' := [(5, .int (nI 0)), (3, .int x6), (4, .int x6), (0, .ref (ad 22)), (1, .int y1), (2, .int y2)]) hx hb dX11_bestTo_89 hl (by decide) rfl (fun ls hl => ?_)
              obtain ⟨S16, he, hm⟩ := ob_some hm
              refine kX11_bestTo_L91 E hA _ FU y1 y2 x6 (nI 0) S15 he H locs hP hD hS ls (lv_sub hl [3, 4, 5, 1, 0] rfl) (fun H locs hP hD hS ls hl => ?_)
              refine lv_goto (tgt := 6) hx hb dX11_bestTo_120 (by decide) ?_
              exact ih y1 y2 x6 S16 hm H locs hP hD hS ls (lv_sub hl [0, 1, 2, 3] rfl)
      · refine lv_aload_n hx hb dX11_bestTo_17 rfl (lv_at hl 0 rfl) ?_
        refine gf_X11_172 (v := .int (S2.2.1 18)) hx hb hT hown hK hP 0 rfl rfl dX11_bestTo_18 ?_
        refine lv_goto (tgt := 43) hx hb dX11_bestTo_21 (by decide) ?_
        refine lv_istore (lv' := [(4, .int (S2.2.1 18)), (0, .ref (ad 22)), (1, .int y1), (2, .int y2), (3, .int y3)]) hx hb dX11_bestTo_43 hl (by decide) rfl (fun ls hl => ?_)
        refine lv_aload_n hx hb dX11_bestTo_45 rfl (lv_at hl 1 rfl) ?_
        refine lv_iload_n hx hb dX11_bestTo_46 rfl (lv_at hl 2 rfl) ?_
        refine lv_aload_n hx hb dX11_bestTo_47 rfl (lv_at hl 1 rfl) ?_
        refine lv_aload_n hx hb dX11_bestTo_48 rfl (lv_at hl 1 rfl) ?_
        refine gf_X11_39 (v := .ref (ad 16)) hx hb hT hown hK hP 0 rfl rfl dX11_bestTo_49 ?_
        refine lv_aload_n hx hb dX11_bestTo_52 rfl (lv_at hl 1 rfl) ?_
        refine gf_X11_172 (v := .int (S2.2.1 18)) hx hb hT hown hK hP 0 rfl rfl dX11_bestTo_53 ?_
        refine x_iald hx hb hK hP 9 rfl hm dX11_bestTo_56 (fun v17 hm => ?_)
        refine xV_i (As := [.int v17]) (rest := [.int y1, .ref (ad 22)]) hx hb hml hown hT hN hK hP cw_X11_135 hm (fun z h => tcX11_supposedBy l D cs ad S2 v17 z h) ⟨rfl, rfl⟩ ⟨by decide, by decide⟩ (b := (ad 22)) 0 rfl rfl rfl hl.1 rfl rfl (Nat.le_of_ble_eq_true rfl) dX11_bestTo_57 ⟨Nat.zero_le _, Nat.zero_le _⟩ (fun r18 hm => ?_)
        refine xV_i (As := [.int y1, .int r18]) (rest := []) hx hb hml hown hT hN hK hP cw_X11_162 hm (fun z h => tcX11_hears l D cs ad S2 y1 r18 z h) ⟨rfl, rfl⟩ ⟨by decide, by decide⟩ (b := (ad 22)) 0 rfl rfl rfl hl.1 rfl rfl (Nat.le_of_ble_eq_true rfl) dX11_bestTo_60 ⟨Nat.zero_le _, Nat.zero_le _⟩ (fun r19 hm => ?_)
        refine x_if_eq (tgt := 120) hx hb dX11_bestTo_63 (by decide) hm (fun hm => ?_) (fun hm => ?_)
        · refine lv_goto (tgt := 6) hx hb dX11_bestTo_120 (by decide) ?_
          exact ih y1 y2 y3 S2 hm H locs hP hD hS ls (lv_sub hl [1, 2, 3, 4] rfl)
        · refine lv_iload_n hx hb dX11_bestTo_66 rfl (lv_at hl 4 rfl) ?_
          refine lv_iconst (v := (-1 : Int32)) hx hb dX11_bestTo_67 (by decide) ?_
          refine x_icmp_eq (tgt := 77) hx hb dX11_bestTo_68 (by decide) hm (fun hm => ?_) (fun hm => ?_)
          · refine lv_iload hx hb dX11_bestTo_77 (lv_at hl 0 rfl) ?_
            refine lv_istore_n (lv' := [(3, .int (S2.2.1 18)), (4, .int (S2.2.1 18)), (0, .ref (ad 22)), (1, .int y1), (2, .int y2)]) hx hb dX11_bestTo_79 rfl hl (by decide) rfl (fun ls hl => ?_)
            refine lv_aload_n hx hb dX11_bestTo_80 rfl (lv_at hl 2 rfl) ?_
            refine lv_aload_n hx hb dX11_bestTo_81 rfl (lv_at hl 2 rfl) ?_
            refine gf_X11_172 (v := .int (S2.2.1 18)) hx hb hT hown hK hP 0 rfl rfl dX11_bestTo_82 ?_
            refine pf_X11_181 (wf := (fun u => WM cs ad u)) (u0 := mI S2 21 (S2.2.1 18)) hx hb hT hown hK hP hD hS 0 rfl (Nat.le_of_ble_eq_true rfl) rfl rfl rfl hm dX11_bestTo_85 (fun S20 H locs hm hP hD hS => ?_)
            refine lv_iconst (v := (nI 0)) hx hb dX11_bestTo_88 (by decide) ?_
            refine lv_istore (lv' := [(5, .int (nI 0)), (3, .int (S2.2.1 18)), (4, .int (S2.2.1 18)), (0, .ref (ad 22)), (1, .int y1), (2, .int y2)]) hx hb dX11_bestTo_89 hl (by decide) rfl (fun ls hl => ?_)
            obtain ⟨S21, he, hm⟩ := ob_some hm
            refine kX11_bestTo_L91 E hA _ FU y1 y2 (S2.2.1 18) (nI 0) S20 he H locs hP hD hS ls (lv_sub hl [3, 4, 5, 1, 0] rfl) (fun H locs hP hD hS ls hl => ?_)
            refine lv_goto (tgt := 6) hx hb dX11_bestTo_120 (by decide) ?_
            exact ih y1 y2 (S2.2.1 18) S21 hm H locs hP hD hS ls (lv_sub hl [0, 1, 2, 3] rfl)
          · refine lv_iload hx hb dX11_bestTo_71 (lv_at hl 0 rfl) ?_
            refine lv_iload_n hx hb dX11_bestTo_73 rfl (lv_at hl 4 rfl) ?_
            refine x_icmp_ge (tgt := 120) hx hb dX11_bestTo_74 (by decide) hm (fun hm => ?_) (fun hm => ?_)
            · refine lv_goto (tgt := 6) hx hb dX11_bestTo_120 (by decide) ?_
              exact ih y1 y2 y3 S2 hm H locs hP hD hS ls (lv_sub hl [1, 2, 3, 4] rfl)
            · refine lv_iload hx hb dX11_bestTo_77 (lv_at hl 0 rfl) ?_
              refine lv_istore_n (lv' := [(3, .int (S2.2.1 18)), (4, .int (S2.2.1 18)), (0, .ref (ad 22)), (1, .int y1), (2, .int y2)]) hx hb dX11_bestTo_79 rfl hl (by decide) rfl (fun ls hl => ?_)
              refine lv_aload_n hx hb dX11_bestTo_80 rfl (lv_at hl 2 rfl) ?_
              refine lv_aload_n hx hb dX11_bestTo_81 rfl (lv_at hl 2 rfl) ?_
              refine gf_X11_172 (v := .int (S2.2.1 18)) hx hb hT hown hK hP 0 rfl rfl dX11_bestTo_82 ?_
              refine pf_X11_181 (wf := (fun u => WM cs ad u)) (u0 := mI S2 21 (S2.2.1 18)) hx hb hT hown hK hP hD hS 0 rfl (Nat.le_of_ble_eq_true rfl) rfl rfl rfl hm dX11_bestTo_85 (fun S22 H locs hm hP hD hS => ?_)
              refine lv_iconst (v := (nI 0)) hx hb dX11_bestTo_88 (by decide) ?_
              refine lv_istore (lv' := [(5, .int (nI 0)), (3, .int (S2.2.1 18)), (4, .int (S2.2.1 18)), (0, .ref (ad 22)), (1, .int y1), (2, .int y2)]) hx hb dX11_bestTo_89 hl (by decide) rfl (fun ls hl => ?_)
              obtain ⟨S23, he, hm⟩ := ob_some hm
              refine kX11_bestTo_L91 E hA _ FU y1 y2 (S2.2.1 18) (nI 0) S22 he H locs hP hD hS ls (lv_sub hl [3, 4, 5, 1, 0] rfl) (fun H locs hP hD hS ls hl => ?_)
              refine lv_goto (tgt := 6) hx hb dX11_bestTo_120 (by decide) ?_
              exact ih y1 y2 (S2.2.1 18) S23 hm H locs hP hD hS ls (lv_sub hl [0, 1, 2, 3] rfl)
set_option maxHeartbeats 4000000 in
set_option maxRecDepth 100000 in
theorem tcX11_bestTo (l : Launch) (D : va_G) (cs : CS) (ad : Nat → Nat) (sz : Nat) (S : MS) (a1 : Int32) (a2 : Int32) (z : Int32 × MS) (hm : mX11_bestTo S a1 a2 = some z) : Met l yX11_bestTo (Cond.code yX11_bestTo cX11_bestTo 6 (some .int) :: gw_tbl) ({ frames := 4, cells := 0, slots := 0, locals := 91 }) (PcW D cs sz (WM cs ad S) [.ref (ad 22), .int a1, .int a2]) (QWi D cs (va_A (WM cs ad S) sz) (fun u => WM cs ad u) z) 0 0 (va_A (WM cs ad S) sz) := by
  refine met_W rfl (Nat.le_of_ble_eq_true rfl) (fun p e s m below meth c E hP hD hS hA ls hl => ?_)
  generalize va_A (WM cs ad S) sz = A at hD hS hA ⊢
  obtain ⟨hx, hb, hr, hml, hown, hlk, hT, hN, hK⟩ := id E
  obtain ⟨H, hH⟩ : ∃ H, H = s.heap := ⟨_, rfl⟩
  obtain ⟨locs, hlo⟩ : ∃ L : List Loc, L = [] := ⟨_, rfl⟩
  have hP : va_P D classes (WM cs ad S) H := by rw [hH]; exact hP
  have hS : va_S A s.heap H locs := by rw [hH, hlo]; exact hS
  rw [show W p l e _ s m _ below meth c s.heap [] 0 0 = W p l e _ s m _ below meth c H locs 0 0 by rw [hH, hlo]]
  have hl : lv_has ls 6 [(0, .ref (ad 22)), (1, .int a1), (2, .int a2)] := hl
  unfold mX11_bestTo at hm
  refine lv_iconst (v := (-1 : Int32)) hx hb dX11_bestTo_0 (by decide) ?_
  refine lv_istore_n (lv' := [(3, .int (-1 : Int32)), (0, .ref (ad 22)), (1, .int a1), (2, .int a2)]) hx hb dX11_bestTo_1 rfl hl (by decide) rfl (fun ls hl => ?_)
  refine lv_aload_n hx hb dX11_bestTo_2 rfl (lv_at hl 1 rfl) ?_
  refine xVW_v (As := []) (rest := []) (wr := []) (wg := (fun u => WM cs ad u)) hx hb hml hown hT hN hK hP hD hS hA cw_X11_175 hm (fun z h => tcX11_beginRows l D cs ad H.size S z h) ⟨rfl, rfl⟩ ⟨by decide, by decide⟩ [0, 1, 2, 3, 4, 5, 6, 7, 8, 9, 10, 11] [] [0, 1, 2, 3, 4, 5, 6, 7, 8, 9, 10, 11] rfl (by decide) rfl (by decide) (by decide) (fun _ => rfl) (by decide) (b := (ad 22)) 0 rfl rfl rfl hl.1 rfl rfl (Nat.le_of_ble_eq_true rfl) dX11_bestTo_3 ⟨Nat.zero_le _, Nat.zero_le _⟩ (fun S1 H locs hm hP hD hS => ?_)
  exact kX11_bestTo_L6 E hA _ FU a1 a2 (-1 : Int32) S1 hm H locs hP hD hS ls (lv_sub hl [1, 2, 3, 0] rfl)
noncomputable def mX11_least (S : MS) (a1 : Int32) (a2 : Int32) (a3 : Int32) : Option (Int32 × MS) := (mX11_isCourt S a1).bind fun r1 => (if r1 = 0 then (mX11_badTen S).bind fun ⟨r3, S2⟩ => some (r3, S2) else (mX11_in a2 (nI 0) (nI 1)).bind fun r4 => (if r4 = 0 then (mX11_badTen S).bind fun ⟨r6, S5⟩ => some (r6, S5) else (if (-1 : Int32) ≤ a3 then (mX11_bestTo S a1 a2).bind fun ⟨r8, S7⟩ => (if r8 = (-1 : Int32) then some (r8, S7) else (if a3 = (-1 : Int32) then some (r8, S7) else (if (S7.2.1 21) ≤ a3 then some ((-5 : Int32), S7) else ald (S7.1 20) 6 a3 fun v9 => some (v9, S7)))) else (mX11_badTen S).bind fun ⟨r11, S10⟩ => some (r11, S10))))
set_option maxHeartbeats 4000000 in
set_option maxRecDepth 100000 in
theorem tcX11_least (l : Launch) (D : va_G) (cs : CS) (ad : Nat → Nat) (sz : Nat) (S : MS) (a1 : Int32) (a2 : Int32) (a3 : Int32) (z : Int32 × MS) (hm : mX11_least S a1 a2 a3 = some z) : Met l yX11_least (Cond.code yX11_least cX11_least 5 (some .int) :: gw_tbl) ({ frames := 5, cells := 0, slots := 0, locals := 116 }) (PcW D cs sz (WM cs ad S) [.ref (ad 22), .int a1, .int a2, .int a3]) (QWi D cs (va_A (WM cs ad S) sz) (fun u => WM cs ad u) z) 0 0 (va_A (WM cs ad S) sz) := by
  refine met_W rfl (Nat.le_of_ble_eq_true rfl) (fun p e s m below meth c E hP hD hS hA ls hl => ?_)
  generalize va_A (WM cs ad S) sz = A at hD hS hA ⊢
  obtain ⟨hx, hb, hr, hml, hown, hlk, hT, hN, hK⟩ := id E
  obtain ⟨H, hH⟩ : ∃ H, H = s.heap := ⟨_, rfl⟩
  obtain ⟨locs, hlo⟩ : ∃ L : List Loc, L = [] := ⟨_, rfl⟩
  have hP : va_P D classes (WM cs ad S) H := by rw [hH]; exact hP
  have hS : va_S A s.heap H locs := by rw [hH, hlo]; exact hS
  rw [show W p l e _ s m _ below meth c s.heap [] 0 0 = W p l e _ s m _ below meth c H locs 0 0 by rw [hH, hlo]]
  have hl : lv_has ls 5 [(0, .ref (ad 22)), (1, .int a1), (2, .int a2), (3, .int a3)] := hl
  unfold mX11_least at hm
  refine lv_aload_n hx hb dX11_least_0 rfl (lv_at hl 0 rfl) ?_
  refine lv_iload_n hx hb dX11_least_1 rfl (lv_at hl 1 rfl) ?_
  refine xV_i (As := [.int a1]) (rest := []) hx hb hml hown hT hN hK hP cw_X11_184 hm (fun z h => tcX11_isCourt l D cs ad S a1 z h) ⟨rfl, rfl⟩ ⟨by decide, by decide⟩ (b := (ad 22)) 0 rfl rfl rfl hl.1 rfl rfl (Nat.le_of_ble_eq_true rfl) dX11_least_2 ⟨Nat.zero_le _, Nat.zero_le _⟩ (fun r1 hm => ?_)
  refine x_if_eq (tgt := 22) hx hb dX11_least_5 (by decide) hm (fun hm => ?_) (fun hm => ?_)
  · refine lv_aload_n hx hb dX11_least_22 rfl (lv_at hl 0 rfl) ?_
    refine xVW_i (As := []) (rest := []) (wr := []) (wg := (fun u => WM cs ad u)) hx hb hml hown hT hN hK hP hD hS hA cw_X11_187 hm (fun z h => tcX11_badTen l D cs ad H.size S z h) ⟨rfl, rfl⟩ ⟨by decide, by decide⟩ [0, 1, 2, 3, 4, 5, 6, 7, 8, 9, 10, 11] [] [0, 1, 2, 3, 4, 5, 6, 7, 8, 9, 10, 11] rfl (by decide) rfl (by decide) (by decide) (fun _ => rfl) (by decide) (b := (ad 22)) 0 rfl rfl rfl hl.1 rfl rfl (Nat.le_of_ble_eq_true rfl) dX11_least_23 ⟨Nat.zero_le _, Nat.zero_le _⟩ (fun r3 S2 H locs hm hP hD hS => ?_)
    exact x_iretW (wf := (fun u => WM cs ad u)) hx hb hr hlk hK hP hD hS hm dX11_least_26
  · refine lv_iload_n hx hb dX11_least_8 rfl (lv_at hl 2 rfl) ?_
    refine lv_iconst (v := (nI 0)) hx hb dX11_least_9 (by decide) ?_
    refine lv_iconst (v := (nI 1)) hx hb dX11_least_10 (by decide) ?_
    refine xS_i (As := [.int a2, .int (nI 0), .int (nI 1)]) (rest := []) hx hb hml hown hT hN hK (hP.sub (ws' := []) [] rfl) cw_X11_52 hm (fun z h => tcX11_in l D cs a2 (nI 0) (nI 1) z h) ⟨rfl, rfl⟩ ⟨by decide, by decide⟩ hl.1 rfl rfl (Nat.le_of_ble_eq_true rfl) dX11_least_11 ⟨Nat.zero_le _, Nat.zero_le _⟩ (fun r4 hm => ?_)
    refine x_if_eq (tgt := 22) hx hb dX11_least_14 (by decide) hm (fun hm => ?_) (fun hm => ?_)
    · refine lv_aload_n hx hb dX11_least_22 rfl (lv_at hl 0 rfl) ?_
      refine xVW_i (As := []) (rest := []) (wr := []) (wg := (fun u => WM cs ad u)) hx hb hml hown hT hN hK hP hD hS hA cw_X11_187 hm (fun z h => tcX11_badTen l D cs ad H.size S z h) ⟨rfl, rfl⟩ ⟨by decide, by decide⟩ [0, 1, 2, 3, 4, 5, 6, 7, 8, 9, 10, 11] [] [0, 1, 2, 3, 4, 5, 6, 7, 8, 9, 10, 11] rfl (by decide) rfl (by decide) (by decide) (fun _ => rfl) (by decide) (b := (ad 22)) 0 rfl rfl rfl hl.1 rfl rfl (Nat.le_of_ble_eq_true rfl) dX11_least_23 ⟨Nat.zero_le _, Nat.zero_le _⟩ (fun r6 S5 H locs hm hP hD hS => ?_)
      exact x_iretW (wf := (fun u => WM cs ad u)) hx hb hr hlk hK hP hD hS hm dX11_least_26
    · refine lv_iload_n hx hb dX11_least_17 rfl (lv_at hl 3 rfl) ?_
      refine lv_iconst (v := (-1 : Int32)) hx hb dX11_least_18 (by decide) ?_
      refine x_icmp_ge (tgt := 27) hx hb dX11_least_19 (by decide) hm (fun hm => ?_) (fun hm => ?_)
      · refine lv_aload_n hx hb dX11_least_27 rfl (lv_at hl 0 rfl) ?_
        refine lv_iload_n hx hb dX11_least_28 rfl (lv_at hl 1 rfl) ?_
        refine lv_iload_n hx hb dX11_least_29 rfl (lv_at hl 2 rfl) ?_
        refine xVW_i (As := [.int a1, .int a2]) (rest := []) (wr := []) (wg := (fun u => WM cs ad u)) hx hb hml hown hT hN hK hP hD hS hA cw_X11_190 hm (fun z h => tcX11_bestTo l D cs ad H.size S a1 a2 z h) ⟨rfl, rfl⟩ ⟨by decide, by decide⟩ [0, 1, 2, 3, 4, 5, 6, 7, 8, 9, 10, 11] [] [0, 1, 2, 3, 4, 5, 6, 7, 8, 9, 10, 11] rfl (by decide) rfl (by decide) (by decide) (fun _ => rfl) (by decide) (b := (ad 22)) 0 rfl rfl rfl hl.1 rfl rfl (Nat.le_of_ble_eq_true rfl) dX11_least_30 ⟨Nat.zero_le _, Nat.zero_le _⟩ (fun r8 S7 H locs hm hP hD hS => ?_)
        refine lv_istore (lv' := [(4, .int r8), (0, .ref (ad 22)), (1, .int a1), (2, .int a2), (3, .int a3)]) hx hb dX11_least_33 hl (by decide) rfl (fun ls hl => ?_)
        refine lv_iload hx hb dX11_least_35 (lv_at hl 0 rfl) ?_
        refine lv_iconst (v := (-1 : Int32)) hx hb dX11_least_37 (by decide) ?_
        refine x_icmp_eq (tgt := 46) hx hb dX11_least_38 (by decide) hm (fun hm => ?_) (fun hm => ?_)
        · refine lv_iload hx hb dX11_least_46 (lv_at hl 0 rfl) ?_
          exact x_iretW (wf := (fun u => WM cs ad u)) hx hb hr hlk hK hP hD hS hm dX11_least_48
        · refine lv_iload_n hx hb dX11_least_41 rfl (lv_at hl 4 rfl) ?_
          refine lv_iconst (v := (-1 : Int32)) hx hb dX11_least_42 (by decide) ?_
          refine x_icmp_ne (tgt := 49) hx hb dX11_least_43 (by decide) hm (fun hm => ?_) (fun hm => ?_)
          · refine lv_iload_n hx hb dX11_least_49 rfl (lv_at hl 4 rfl) ?_
            refine lv_aload_n hx hb dX11_least_50 rfl (lv_at hl 1 rfl) ?_
            refine gf_X11_181 (v := .int (S7.2.1 21)) hx hb hT hown hK hP 0 rfl rfl dX11_least_51 ?_
            refine x_icmp_ge (tgt := 66) hx hb dX11_least_54 (by decide) hm (fun hm => ?_) (fun hm => ?_)
            · refine lv_bipush (v := (-5 : Int32)) hx hb dX11_least_66 (by decide) ?_
              exact x_iretW (wf := (fun u => WM cs ad u)) hx hb hr hlk hK hP hD hS hm dX11_least_68
            · refine lv_aload_n hx hb dX11_least_57 rfl (lv_at hl 1 rfl) ?_
              refine gf_X11_45 (v := .ref (ad 20)) hx hb hT hown hK hP 0 rfl rfl dX11_least_58 ?_
              refine lv_iload_n hx hb dX11_least_61 rfl (lv_at hl 4 rfl) ?_
              refine x_iald hx hb hK hP 11 rfl hm dX11_least_62 (fun v9 hm => ?_)
              refine lv_goto (tgt := 68) hx hb dX11_least_63 (by decide) ?_
              exact x_iretW (wf := (fun u => WM cs ad u)) hx hb hr hlk hK hP hD hS hm dX11_least_68
          · refine lv_iload hx hb dX11_least_46 (lv_at hl 0 rfl) ?_
            exact x_iretW (wf := (fun u => WM cs ad u)) hx hb hr hlk hK hP hD hS hm dX11_least_48
      · refine lv_aload_n hx hb dX11_least_22 rfl (lv_at hl 0 rfl) ?_
        refine xVW_i (As := []) (rest := []) (wr := []) (wg := (fun u => WM cs ad u)) hx hb hml hown hT hN hK hP hD hS hA cw_X11_187 hm (fun z h => tcX11_badTen l D cs ad H.size S z h) ⟨rfl, rfl⟩ ⟨by decide, by decide⟩ [0, 1, 2, 3, 4, 5, 6, 7, 8, 9, 10, 11] [] [0, 1, 2, 3, 4, 5, 6, 7, 8, 9, 10, 11] rfl (by decide) rfl (by decide) (by decide) (fun _ => rfl) (by decide) (b := (ad 22)) 0 rfl rfl rfl hl.1 rfl rfl (Nat.le_of_ble_eq_true rfl) dX11_least_23 ⟨Nat.zero_le _, Nat.zero_le _⟩ (fun r11 S10 H locs hm hP hD hS => ?_)
        exact x_iretW (wf := (fun u => WM cs ad u)) hx hb hr hlk hK hP hD hS hm dX11_least_26
noncomputable def mX11_ever_L6  : Nat → Int32 → MS → Option (Int32 × MS) := fun n => Nat.rec (motive := fun _ => Int32 → MS → Option (Int32 × MS)) (fun _ _ => none) (fun _ rc => fun y1 S => (mX11_nextRow S).bind fun ⟨r3, S2⟩ => (if r3 = 0 then some (y1, S2) else ald (S2.1 16) 7 (S2.2.1 18) fun v4 => (mX11_supposedBy S2 v4).bind fun r5 => nm (y1 ||| r5) fun x6 => rc x6 S2)) n
theorem mX11_ever_L6_s  (n : Nat) (y1 : Int32) (S : MS) : mX11_ever_L6  (n + 1) y1 S = (mX11_nextRow S).bind fun ⟨r3, S2⟩ => (if r3 = 0 then some (y1, S2) else ald (S2.1 16) 7 (S2.2.1 18) fun v4 => (mX11_supposedBy S2 v4).bind fun r5 => nm (y1 ||| r5) fun x6 => (mX11_ever_L6  n) x6 S2) := rfl
noncomputable def mX11_ever (S : MS) : Option (Int32 × MS) := (mX11_beginRows S).bind fun S1 => mX11_ever_L6 FU (nI 0) S1
set_option maxHeartbeats 4000000 in
set_option maxRecDepth 100000 in
theorem kX11_ever_L6 {p : Program} {l : Launch} {e : Env} {s : State} {m : MethodId} {below : List Frame} {meth : Method} {c : Code} {D : va_G} {cs : CS} {A : Nat → Prop}  {ad : Nat → Nat}  (E : EV p s m [.ref (ad 22)].toArray meth c cX11_ever 2 RX11 (some .int) D cs) (hA : ∀ q : Nat, s.heap.size ≤ q → A q) (z : Int32 × MS) : ∀ (n : Nat) (y1 : Int32) (S : MS), mX11_ever_L6  n y1 S = some z → ∀ (H : Heap) (locs : List Loc), va_P D classes (WM cs ad S) H → va_D A (WM cs ad S) → va_S A s.heap H locs → ∀ ls : Array Slot, lv_has ls 2 [(0, .ref (ad 22)), (1, .int y1)] → W p l e ({ frames := 4, cells := 0, slots := 0, locals := 91 }) s m [.ref (ad 22)].toArray below meth c H locs 0 0 (MQ below (QWi D cs A (fun u => WM cs ad u) z) [.ref (ad 22)].toArray s 0 0 A) (F0 m 6 ls []) := by
  obtain ⟨hx, hb, hr, hml, hown, hlk, hT, hN, hK⟩ := id E
  intro n
  induction n with
  | zero =>
    intro y1 S hm
    exact nomatch (show (none : Option (Int32 × MS)) = some z from hm)
  | succ n ih =>
    intro y1 S hm H locs hP hD hS ls hl
    rw [mX11_ever_L6_s] at hm
    refine lv_aload_n hx hb dX11_ever_6 rfl (lv_at hl 0 rfl) ?_
    refine xVW_i (As := []) (rest := []) (wr := []) (wg := (fun u => WM cs ad u)) hx hb hml hown hT hN hK hP hD hS hA cw_X11_178 hm (fun z h => tcX11_nextRow l D cs ad H.size S z h) ⟨rfl, rfl⟩ ⟨by decide, by decide⟩ [0, 1, 2, 3, 4, 5, 6, 7, 8, 9, 10, 11] [] [0, 1, 2, 3, 4, 5, 6, 7, 8, 9, 10, 11] rfl (by decide) rfl (by decide) (by decide) (fun _ => rfl) (by decide) (b := (ad 22)) 0 rfl rfl rfl hl.1 rfl rfl (Nat.le_of_ble_eq_true rfl) dX11_ever_7 ⟨Nat.zero_le _, Nat.zero_le _⟩ (fun r3 S2 H locs hm hP hD hS => ?_)
    refine x_if_eq (tgt := 32) hx hb dX11_ever_10 (by decide) hm (fun hm => ?_) (fun hm => ?_)
    · refine lv_iload_n hx hb dX11_ever_32 rfl (lv_at hl 1 rfl) ?_
      exact x_iretW (wf := (fun u => WM cs ad u)) hx hb hr hlk hK hP hD hS hm dX11_ever_33
    · refine lv_iload_n hx hb dX11_ever_13 rfl (lv_at hl 1 rfl) ?_
      refine lv_aload_n hx hb dX11_ever_14 rfl (lv_at hl 0 rfl) ?_
      refine lv_aload_n hx hb dX11_ever_15 rfl (lv_at hl 0 rfl) ?_
      refine gf_X11_39 (v := .ref (ad 16)) hx hb hT hown hK hP 0 rfl rfl dX11_ever_16 ?_
      refine lv_aload_n hx hb dX11_ever_19 rfl (lv_at hl 0 rfl) ?_
      refine gf_X11_172 (v := .int (S2.2.1 18)) hx hb hT hown hK hP 0 rfl rfl dX11_ever_20 ?_
      refine x_iald hx hb hK hP 9 rfl hm dX11_ever_23 (fun v4 hm => ?_)
      refine xV_i (As := [.int v4]) (rest := [.int y1]) hx hb hml hown hT hN hK hP cw_X11_135 hm (fun z h => tcX11_supposedBy l D cs ad S2 v4 z h) ⟨rfl, rfl⟩ ⟨by decide, by decide⟩ (b := (ad 22)) 0 rfl rfl rfl hl.1 rfl rfl (Nat.le_of_ble_eq_true rfl) dX11_ever_24 ⟨Nat.zero_le _, Nat.zero_le _⟩ (fun r5 hm => ?_)
      refine lv_ior hx hb dX11_ever_27 ?_
      refine xi_nm hm (fun x6 hm => ?_)
      refine lv_istore_n (lv' := [(1, .int x6), (0, .ref (ad 22))]) hx hb dX11_ever_28 rfl hl (by decide) rfl (fun ls hl => ?_)
      refine lv_goto (tgt := 6) hx hb dX11_ever_29 (by decide) ?_
      exact ih x6 S2 hm H locs hP hD hS ls (lv_sub hl [1, 0] rfl)
set_option maxHeartbeats 4000000 in
set_option maxRecDepth 100000 in
theorem tcX11_ever (l : Launch) (D : va_G) (cs : CS) (ad : Nat → Nat) (sz : Nat) (S : MS) (z : Int32 × MS) (hm : mX11_ever S = some z) : Met l yX11_ever (Cond.code yX11_ever cX11_ever 2 (some .int) :: gw_tbl) ({ frames := 4, cells := 0, slots := 0, locals := 91 }) (PcW D cs sz (WM cs ad S) [.ref (ad 22)]) (QWi D cs (va_A (WM cs ad S) sz) (fun u => WM cs ad u) z) 0 0 (va_A (WM cs ad S) sz) := by
  refine met_W rfl (Nat.le_of_ble_eq_true rfl) (fun p e s m below meth c E hP hD hS hA ls hl => ?_)
  generalize va_A (WM cs ad S) sz = A at hD hS hA ⊢
  obtain ⟨hx, hb, hr, hml, hown, hlk, hT, hN, hK⟩ := id E
  obtain ⟨H, hH⟩ : ∃ H, H = s.heap := ⟨_, rfl⟩
  obtain ⟨locs, hlo⟩ : ∃ L : List Loc, L = [] := ⟨_, rfl⟩
  have hP : va_P D classes (WM cs ad S) H := by rw [hH]; exact hP
  have hS : va_S A s.heap H locs := by rw [hH, hlo]; exact hS
  rw [show W p l e _ s m _ below meth c s.heap [] 0 0 = W p l e _ s m _ below meth c H locs 0 0 by rw [hH, hlo]]
  have hl : lv_has ls 2 [(0, .ref (ad 22))] := hl
  unfold mX11_ever at hm
  refine lv_iconst (v := (nI 0)) hx hb dX11_ever_0 (by decide) ?_
  refine lv_istore_n (lv' := [(1, .int (nI 0)), (0, .ref (ad 22))]) hx hb dX11_ever_1 rfl hl (by decide) rfl (fun ls hl => ?_)
  refine lv_aload_n hx hb dX11_ever_2 rfl (lv_at hl 1 rfl) ?_
  refine xVW_v (As := []) (rest := []) (wr := []) (wg := (fun u => WM cs ad u)) hx hb hml hown hT hN hK hP hD hS hA cw_X11_175 hm (fun z h => tcX11_beginRows l D cs ad H.size S z h) ⟨rfl, rfl⟩ ⟨by decide, by decide⟩ [0, 1, 2, 3, 4, 5, 6, 7, 8, 9, 10, 11] [] [0, 1, 2, 3, 4, 5, 6, 7, 8, 9, 10, 11] rfl (by decide) rfl (by decide) (by decide) (fun _ => rfl) (by decide) (b := (ad 22)) 0 rfl rfl rfl hl.1 rfl rfl (Nat.le_of_ble_eq_true rfl) dX11_ever_3 ⟨Nat.zero_le _, Nat.zero_le _⟩ (fun S1 H locs hm hP hD hS => ?_)
  exact kX11_ever_L6 E hA _ FU (nI 0) S1 hm H locs hP hD hS ls (lv_sub hl [1, 0] rfl)
noncomputable def mX11_denial_L46  : Nat → Int32 → Int32 → Int32 → MS → Option (Int32 × MS) := fun n => Nat.rec (motive := fun _ => Int32 → Int32 → Int32 → MS → Option (Int32 × MS)) (fun _ _ _ _ => none) (fun _ rc => fun y2 y3 y4 S => (if (nI 4) ≤ y4 then some (y3, S) else nm (y4 - y4 / (nI 2) * (nI 2)) fun x5 => nm (y4 / (nI 2)) fun x6 => (mX11_oneGets y2 ((nI 1) - x5) x6).bind fun r7 => (mX11_oneGets y2 x5 x6).bind fun r8 => (if r8 < r7 then nm (y3 ||| (nI 0)) fun x9 => nm (y4 + (nI 1)) fun x10 => rc y2 x9 x10 S else (mX11_otherGets y2 x5 ((nI 1) - x6)).bind fun r11 => (mX11_otherGets y2 x5 x6).bind fun r12 => (if r12 < r11 then nm (y3 ||| (nI 0)) fun x13 => nm (y4 + (nI 1)) fun x14 => rc y2 x13 x14 S else nm (y3 ||| ((nI 1) <<< (y4 &&& 31))) fun x15 => nm (y4 + (nI 1)) fun x16 => rc y2 x15 x16 S)))) n
theorem mX11_denial_L46_s  (n : Nat) (y2 : Int32) (y3 : Int32) (y4 : Int32) (S : MS) : mX11_denial_L46  (n + 1) y2 y3 y4 S = (if (nI 4) ≤ y4 then some (y3, S) else nm (y4 - y4 / (nI 2) * (nI 2)) fun x5 => nm (y4 / (nI 2)) fun x6 => (mX11_oneGets y2 ((nI 1) - x5) x6).bind fun r7 => (mX11_oneGets y2 x5 x6).bind fun r8 => (if r8 < r7 then nm (y3 ||| (nI 0)) fun x9 => nm (y4 + (nI 1)) fun x10 => (mX11_denial_L46  n) y2 x9 x10 S else (mX11_otherGets y2 x5 ((nI 1) - x6)).bind fun r11 => (mX11_otherGets y2 x5 x6).bind fun r12 => (if r12 < r11 then nm (y3 ||| (nI 0)) fun x13 => nm (y4 + (nI 1)) fun x14 => (mX11_denial_L46  n) y2 x13 x14 S else nm (y3 ||| ((nI 1) <<< (y4 &&& 31))) fun x15 => nm (y4 + (nI 1)) fun x16 => (mX11_denial_L46  n) y2 x15 x16 S))) := rfl
noncomputable def mX11_denial (S : MS) (a1 : Int32) : Option (Int32 × MS) := (mX11_isFiction S a1).bind fun r1 => (if r1 = 0 then (mX11_refuse S (-2 : Int32)).bind fun ⟨r20, S19⟩ => some (r20, S19) else ald (S.1 0) 288 (nI 0) fun v2 => (mX11_has v2 a1).bind fun r3 => (if r3 = 0 then (mX11_refuse S (-3 : Int32)).bind fun ⟨r18, S17⟩ => some (r18, S17) else (mX11_wins S a1).bind fun r4 => mX11_denial_L46 FU r4 (nI 0) (nI 0) S))
set_option maxHeartbeats 4000000 in
set_option maxRecDepth 100000 in
theorem kX11_denial_L46 {p : Program} {l : Launch} {e : Env} {s : State} {m : MethodId} {below : List Frame} {meth : Method} {c : Code} {D : va_G} {cs : CS} {A : Nat → Prop}  {ad : Nat → Nat} {a1 : Int32} (E : EV p s m [.ref (ad 22), .int a1].toArray meth c cX11_denial 8 RX11 (some .int) D cs) (hA : ∀ q : Nat, s.heap.size ≤ q → A q) (z : Int32 × MS) : ∀ (n : Nat) (y2 : Int32) (y3 : Int32) (y4 : Int32) (S : MS), mX11_denial_L46  n y2 y3 y4 S = some z → ∀ (H : Heap) (locs : List Loc), va_P D classes (WM cs ad S) H → va_D A (WM cs ad S) → va_S A s.heap H locs → ∀ ls : Array Slot, lv_has ls 8 [(2, .int y2), (3, .int y3), (4, .int y4)] → W p l e ({ frames := 2, cells := 0, slots := 0, locals := 44 }) s m [.ref (ad 22), .int a1].toArray below meth c H locs 0 0 (MQ below (QWi D cs A (fun u => WM cs ad u) z) [.ref (ad 22), .int a1].toArray s 0 0 A) (F0 m 46 ls []) := by
  obtain ⟨hx, hb, hr, hml, hown, hlk, hT, hN, hK⟩ := id E
  intro n
  induction n with
  | zero =>
    intro y2 y3 y4 S hm
    exact nomatch (show (none : Option (Int32 × MS)) = some z from hm)
  | succ n ih =>
    intro y2 y3 y4 S hm H locs hP hD hS ls hl
    rw [mX11_denial_L46_s] at hm
    refine lv_iload hx hb dX11_denial_46 (lv_at hl 2 rfl) ?_
    refine lv_iconst (v := (nI 4)) hx hb dX11_denial_48 (by decide) ?_
    refine x_icmp_ge (tgt := 135) hx hb dX11_denial_49 (by decide) hm (fun hm => ?_) (fun hm => ?_)
    · refine lv_iload_n hx hb dX11_denial_135 rfl (lv_at hl 1 rfl) ?_
      exact x_iretW (wf := (fun u => WM cs ad u)) hx hb hr hlk hK hP hD hS hm dX11_denial_136
    · refine lv_iload hx hb dX11_denial_52 (lv_at hl 2 rfl) ?_
      refine lv_iconst (v := (nI 2)) hx hb dX11_denial_54 (by decide) ?_
      refine lv_irem hx hb dX11_denial_55 (by decide) ?_
      refine xi_nm hm (fun x5 hm => ?_)
      refine lv_istore (lv' := [(5, .int x5), (2, .int y2), (3, .int y3), (4, .int y4)]) hx hb dX11_denial_56 hl (by decide) rfl (fun ls hl => ?_)
      refine lv_iload hx hb dX11_denial_58 (lv_at hl 3 rfl) ?_
      refine lv_iconst (v := (nI 2)) hx hb dX11_denial_60 (by decide) ?_
      refine lv_idiv hx hb dX11_denial_61 (by decide) ?_
      refine xi_nm hm (fun x6 hm => ?_)
      refine lv_istore (lv' := [(6, .int x6), (5, .int x5), (2, .int y2), (3, .int y3), (4, .int y4)]) hx hb dX11_denial_62 hl (by decide) rfl (fun ls hl => ?_)
      refine lv_iload_n hx hb dX11_denial_64 rfl (lv_at hl 2 rfl) ?_
      refine lv_iconst (v := (nI 1)) hx hb dX11_denial_65 (by decide) ?_
      refine lv_iload hx hb dX11_denial_66 (lv_at hl 1 rfl) ?_
      refine lv_isub hx hb dX11_denial_68 ?_
      refine lv_iload hx hb dX11_denial_69 (lv_at hl 0 rfl) ?_
      refine xS_i (As := [.int y2, .int ((nI 1) - x5), .int x6]) (rest := []) hx hb hml hown hT hN hK (hP.sub (ws' := []) [] rfl) cw_X11_196 hm (fun z h => tcX11_oneGets l D cs y2 ((nI 1) - x5) x6 z h) ⟨rfl, rfl⟩ ⟨by decide, by decide⟩ hl.1 rfl rfl (Nat.le_of_ble_eq_true rfl) dX11_denial_71 ⟨Nat.zero_le _, Nat.zero_le _⟩ (fun r7 hm => ?_)
      refine lv_iload_n hx hb dX11_denial_74 rfl (lv_at hl 2 rfl) ?_
      refine lv_iload hx hb dX11_denial_75 (lv_at hl 1 rfl) ?_
      refine lv_iload hx hb dX11_denial_77 (lv_at hl 0 rfl) ?_
      refine xS_i (As := [.int y2, .int x5, .int x6]) (rest := [.int r7]) hx hb hml hown hT hN hK (hP.sub (ws' := []) [] rfl) cw_X11_196 hm (fun z h => tcX11_oneGets l D cs y2 x5 x6 z h) ⟨rfl, rfl⟩ ⟨by decide, by decide⟩ hl.1 rfl rfl (Nat.le_of_ble_eq_true rfl) dX11_denial_79 ⟨Nat.zero_le _, Nat.zero_le _⟩ (fun r8 hm => ?_)
      refine x_icmp_gt (tgt := 110) hx hb dX11_denial_82 (by decide) hm (fun hm => ?_) (fun hm => ?_)
      · refine lv_iconst (v := (nI 0)) hx hb dX11_denial_110 (by decide) ?_
        refine lv_istore (lv' := [(7, .int (nI 0)), (6, .int x6), (5, .int x5), (2, .int y2), (3, .int y3), (4, .int y4)]) hx hb dX11_denial_111 hl (by decide) rfl (fun ls hl => ?_)
        refine lv_iload_n hx hb dX11_denial_113 rfl (lv_at hl 4 rfl) ?_
        refine lv_iload hx hb dX11_denial_114 (lv_at hl 0 rfl) ?_
        refine lv_if_eq (tgt := 126) hx hb dX11_denial_116 (by decide) (fun _ => ?_) (fun h => absurd h (by decide))
        refine lv_iconst (v := (nI 0)) hx hb dX11_denial_126 (by decide) ?_
        refine lv_ior hx hb dX11_denial_127 ?_
        refine xi_nm hm (fun x9 hm => ?_)
        refine lv_istore_n (lv' := [(3, .int x9), (7, .int (nI 0)), (6, .int x6), (5, .int x5), (2, .int y2), (4, .int y4)]) hx hb dX11_denial_128 rfl hl (by decide) rfl (fun ls hl => ?_)
        refine x_iinc (lv' := fun x10 => [(4, .int x10), (3, .int x9), (7, .int (nI 0)), (6, .int x6), (5, .int x5), (2, .int y2)]) hx hb dX11_denial_129 hl (k := 5) rfl (by decide) (v0 := (nI 1)) (by decide) (fun _ => rfl) hm (fun x10 ls hm hl => ?_)
        refine lv_goto (tgt := 46) hx hb dX11_denial_132 (by decide) ?_
        exact ih y2 x9 x10 S hm H locs hP hD hS ls (lv_sub hl [5, 1, 0] rfl)
      · refine lv_iload_n hx hb dX11_denial_85 rfl (lv_at hl 2 rfl) ?_
        refine lv_iload hx hb dX11_denial_86 (lv_at hl 1 rfl) ?_
        refine lv_iconst (v := (nI 1)) hx hb dX11_denial_88 (by decide) ?_
        refine lv_iload hx hb dX11_denial_89 (lv_at hl 0 rfl) ?_
        refine lv_isub hx hb dX11_denial_91 ?_
        refine xS_i (As := [.int y2, .int x5, .int ((nI 1) - x6)]) (rest := []) hx hb hml hown hT hN hK (hP.sub (ws' := []) [] rfl) cw_X11_200 hm (fun z h => tcX11_otherGets l D cs y2 x5 ((nI 1) - x6) z h) ⟨rfl, rfl⟩ ⟨by decide, by decide⟩ hl.1 rfl rfl (Nat.le_of_ble_eq_true rfl) dX11_denial_92 ⟨Nat.zero_le _, Nat.zero_le _⟩ (fun r11 hm => ?_)
        refine lv_iload_n hx hb dX11_denial_95 rfl (lv_at hl 2 rfl) ?_
        refine lv_iload hx hb dX11_denial_96 (lv_at hl 1 rfl) ?_
        refine lv_iload hx hb dX11_denial_98 (lv_at hl 0 rfl) ?_
        refine xS_i (As := [.int y2, .int x5, .int x6]) (rest := [.int r11]) hx hb hml hown hT hN hK (hP.sub (ws' := []) [] rfl) cw_X11_200 hm (fun z h => tcX11_otherGets l D cs y2 x5 x6 z h) ⟨rfl, rfl⟩ ⟨by decide, by decide⟩ hl.1 rfl rfl (Nat.le_of_ble_eq_true rfl) dX11_denial_100 ⟨Nat.zero_le _, Nat.zero_le _⟩ (fun r12 hm => ?_)
        refine x_icmp_gt (tgt := 110) hx hb dX11_denial_103 (by decide) hm (fun hm => ?_) (fun hm => ?_)
        · refine lv_iconst (v := (nI 0)) hx hb dX11_denial_110 (by decide) ?_
          refine lv_istore (lv' := [(7, .int (nI 0)), (6, .int x6), (5, .int x5), (2, .int y2), (3, .int y3), (4, .int y4)]) hx hb dX11_denial_111 hl (by decide) rfl (fun ls hl => ?_)
          refine lv_iload_n hx hb dX11_denial_113 rfl (lv_at hl 4 rfl) ?_
          refine lv_iload hx hb dX11_denial_114 (lv_at hl 0 rfl) ?_
          refine lv_if_eq (tgt := 126) hx hb dX11_denial_116 (by decide) (fun _ => ?_) (fun h => absurd h (by decide))
          refine lv_iconst (v := (nI 0)) hx hb dX11_denial_126 (by decide) ?_
          refine lv_ior hx hb dX11_denial_127 ?_
          refine xi_nm hm (fun x13 hm => ?_)
          refine lv_istore_n (lv' := [(3, .int x13), (7, .int (nI 0)), (6, .int x6), (5, .int x5), (2, .int y2), (4, .int y4)]) hx hb dX11_denial_128 rfl hl (by decide) rfl (fun ls hl => ?_)
          refine x_iinc (lv' := fun x14 => [(4, .int x14), (3, .int x13), (7, .int (nI 0)), (6, .int x6), (5, .int x5), (2, .int y2)]) hx hb dX11_denial_129 hl (k := 5) rfl (by decide) (v0 := (nI 1)) (by decide) (fun _ => rfl) hm (fun x14 ls hm hl => ?_)
          refine lv_goto (tgt := 46) hx hb dX11_denial_132 (by decide) ?_
          exact ih y2 x13 x14 S hm H locs hP hD hS ls (lv_sub hl [5, 1, 0] rfl)
        · refine lv_iconst (v := (nI 1)) hx hb dX11_denial_106 (by decide) ?_
          refine lv_goto (tgt := 111) hx hb dX11_denial_107 (by decide) ?_
          refine lv_istore (lv' := [(7, .int (nI 1)), (6, .int x6), (5, .int x5), (2, .int y2), (3, .int y3), (4, .int y4)]) hx hb dX11_denial_111 hl (by decide) rfl (fun ls hl => ?_)
          refine lv_iload_n hx hb dX11_denial_113 rfl (lv_at hl 4 rfl) ?_
          refine lv_iload hx hb dX11_denial_114 (lv_at hl 0 rfl) ?_
          refine lv_if_eq (tgt := 126) hx hb dX11_denial_116 (by decide) (fun h => absurd h (by decide)) (fun _ => ?_)
          refine lv_iconst (v := (nI 1)) hx hb dX11_denial_119 (by decide) ?_
          refine lv_iload hx hb dX11_denial_120 (lv_at hl 5 rfl) ?_
          refine lv_ishl hx hb dX11_denial_122 ?_
          refine lv_goto (tgt := 127) hx hb dX11_denial_123 (by decide) ?_
          refine lv_ior hx hb dX11_denial_127 ?_
          refine xi_nm hm (fun x15 hm => ?_)
          refine lv_istore_n (lv' := [(3, .int x15), (7, .int (nI 1)), (6, .int x6), (5, .int x5), (2, .int y2), (4, .int y4)]) hx hb dX11_denial_128 rfl hl (by decide) rfl (fun ls hl => ?_)
          refine x_iinc (lv' := fun x16 => [(4, .int x16), (3, .int x15), (7, .int (nI 1)), (6, .int x6), (5, .int x5), (2, .int y2)]) hx hb dX11_denial_129 hl (k := 5) rfl (by decide) (v0 := (nI 1)) (by decide) (fun _ => rfl) hm (fun x16 ls hm hl => ?_)
          refine lv_goto (tgt := 46) hx hb dX11_denial_132 (by decide) ?_
          exact ih y2 x15 x16 S hm H locs hP hD hS ls (lv_sub hl [5, 1, 0] rfl)
set_option maxHeartbeats 4000000 in
set_option maxRecDepth 100000 in
theorem tcX11_denial (l : Launch) (D : va_G) (cs : CS) (ad : Nat → Nat) (sz : Nat) (S : MS) (a1 : Int32) (z : Int32 × MS) (hm : mX11_denial S a1 = some z) : Met l yX11_denial (Cond.code yX11_denial cX11_denial 8 (some .int) :: gw_tbl) ({ frames := 2, cells := 0, slots := 0, locals := 44 }) (PcW D cs sz (WM cs ad S) [.ref (ad 22), .int a1]) (QWi D cs (va_A (WM cs ad S) sz) (fun u => WM cs ad u) z) 0 0 (va_A (WM cs ad S) sz) := by
  refine met_W rfl (Nat.le_of_ble_eq_true rfl) (fun p e s m below meth c E hP hD hS hA ls hl => ?_)
  generalize va_A (WM cs ad S) sz = A at hD hS hA ⊢
  obtain ⟨hx, hb, hr, hml, hown, hlk, hT, hN, hK⟩ := id E
  obtain ⟨H, hH⟩ : ∃ H, H = s.heap := ⟨_, rfl⟩
  obtain ⟨locs, hlo⟩ : ∃ L : List Loc, L = [] := ⟨_, rfl⟩
  have hP : va_P D classes (WM cs ad S) H := by rw [hH]; exact hP
  have hS : va_S A s.heap H locs := by rw [hH, hlo]; exact hS
  rw [show W p l e _ s m _ below meth c s.heap [] 0 0 = W p l e _ s m _ below meth c H locs 0 0 by rw [hH, hlo]]
  have hl : lv_has ls 8 [(0, .ref (ad 22)), (1, .int a1)] := hl
  unfold mX11_denial at hm
  refine lv_aload_n hx hb dX11_denial_0 rfl (lv_at hl 0 rfl) ?_
  refine lv_iload_n hx hb dX11_denial_1 rfl (lv_at hl 1 rfl) ?_
  refine xV_i (As := [.int a1]) (rest := []) hx hb hml hown hT hN hK hP cw_X11_141 hm (fun z h => tcX11_isFiction l D cs ad S a1 z h) ⟨rfl, rfl⟩ ⟨by decide, by decide⟩ (b := (ad 22)) 0 rfl rfl rfl hl.1 rfl rfl (Nat.le_of_ble_eq_true rfl) dX11_denial_2 ⟨Nat.zero_le _, Nat.zero_le _⟩ (fun r1 hm => ?_)
  refine x_if_ne (tgt := 15) hx hb dX11_denial_5 (by decide) hm (fun hm => ?_) (fun hm => ?_)
  · refine lv_aload_n hx hb dX11_denial_15 rfl (lv_at hl 0 rfl) ?_
    refine gf_X11_7 (v := .ref (ad 0)) hx hb hT hown hK hP 0 rfl rfl dX11_denial_16 ?_
    refine lv_iconst (v := (nI 0)) hx hb dX11_denial_19 (by decide) ?_
    refine x_iald hx hb hK hP 1 rfl hm dX11_denial_20 (fun v2 hm => ?_)
    refine lv_iload_n hx hb dX11_denial_21 rfl (lv_at hl 1 rfl) ?_
    refine xS_i (As := [.int v2, .int a1]) (rest := []) hx hb hml hown hT hN hK (hP.sub (ws' := []) [] rfl) cw_X11_124 hm (fun z h => tcX11_has l D cs v2 a1 z h) ⟨rfl, rfl⟩ ⟨by decide, by decide⟩ hl.1 rfl rfl (Nat.le_of_ble_eq_true rfl) dX11_denial_22 ⟨Nat.zero_le _, Nat.zero_le _⟩ (fun r3 hm => ?_)
    refine x_if_ne (tgt := 35) hx hb dX11_denial_25 (by decide) hm (fun hm => ?_) (fun hm => ?_)
    · refine lv_aload_n hx hb dX11_denial_35 rfl (lv_at hl 0 rfl) ?_
      refine lv_iload_n hx hb dX11_denial_36 rfl (lv_at hl 1 rfl) ?_
      refine xV_i (As := [.int a1]) (rest := []) hx hb hml hown hT hN hK hP cw_X11_153 hm (fun z h => tcX11_wins l D cs ad S a1 z h) ⟨rfl, rfl⟩ ⟨by decide, by decide⟩ (b := (ad 22)) 0 rfl rfl rfl hl.1 rfl rfl (Nat.le_of_ble_eq_true rfl) dX11_denial_37 ⟨Nat.zero_le _, Nat.zero_le _⟩ (fun r4 hm => ?_)
      refine lv_istore_n (lv' := [(2, .int r4), (0, .ref (ad 22)), (1, .int a1)]) hx hb dX11_denial_40 rfl hl (by decide) rfl (fun ls hl => ?_)
      refine lv_iconst (v := (nI 0)) hx hb dX11_denial_41 (by decide) ?_
      refine lv_istore_n (lv' := [(3, .int (nI 0)), (2, .int r4), (0, .ref (ad 22)), (1, .int a1)]) hx hb dX11_denial_42 rfl hl (by decide) rfl (fun ls hl => ?_)
      refine lv_iconst (v := (nI 0)) hx hb dX11_denial_43 (by decide) ?_
      refine lv_istore (lv' := [(4, .int (nI 0)), (3, .int (nI 0)), (2, .int r4), (0, .ref (ad 22)), (1, .int a1)]) hx hb dX11_denial_44 hl (by decide) rfl (fun ls hl => ?_)
      exact kX11_denial_L46 E hA _ FU r4 (nI 0) (nI 0) S hm H locs hP hD hS ls (lv_sub hl [2, 1, 0] rfl)
    · refine lv_aload_n hx hb dX11_denial_28 rfl (lv_at hl 0 rfl) ?_
      refine lv_bipush (v := (-3 : Int32)) hx hb dX11_denial_29 (by decide) ?_
      refine xVW_i (As := [.int (-3 : Int32)]) (rest := []) (wr := []) (wg := (fun u => WM cs ad u)) hx hb hml hown hT hN hK hP hD hS hA cw_X11_48 hm (fun z h => tcX11_refuse l D cs ad H.size S (-3 : Int32) z h) ⟨rfl, rfl⟩ ⟨by decide, by decide⟩ [0, 1, 2, 3, 4, 5, 6, 7, 8, 9, 10, 11] [] [0, 1, 2, 3, 4, 5, 6, 7, 8, 9, 10, 11] rfl (by decide) rfl (by decide) (by decide) (fun _ => rfl) (by decide) (b := (ad 22)) 0 rfl rfl rfl hl.1 rfl rfl (Nat.le_of_ble_eq_true rfl) dX11_denial_31 ⟨Nat.zero_le _, Nat.zero_le _⟩ (fun r18 S17 H locs hm hP hD hS => ?_)
      exact x_iretW (wf := (fun u => WM cs ad u)) hx hb hr hlk hK hP hD hS hm dX11_denial_34
  · refine lv_aload_n hx hb dX11_denial_8 rfl (lv_at hl 0 rfl) ?_
    refine lv_bipush (v := (-2 : Int32)) hx hb dX11_denial_9 (by decide) ?_
    refine xVW_i (As := [.int (-2 : Int32)]) (rest := []) (wr := []) (wg := (fun u => WM cs ad u)) hx hb hml hown hT hN hK hP hD hS hA cw_X11_48 hm (fun z h => tcX11_refuse l D cs ad H.size S (-2 : Int32) z h) ⟨rfl, rfl⟩ ⟨by decide, by decide⟩ [0, 1, 2, 3, 4, 5, 6, 7, 8, 9, 10, 11] [] [0, 1, 2, 3, 4, 5, 6, 7, 8, 9, 10, 11] rfl (by decide) rfl (by decide) (by decide) (fun _ => rfl) (by decide) (b := (ad 22)) 0 rfl rfl rfl hl.1 rfl rfl (Nat.le_of_ble_eq_true rfl) dX11_denial_11 ⟨Nat.zero_le _, Nat.zero_le _⟩ (fun r20 S19 H locs hm hP hD hS => ?_)
    exact x_iretW (wf := (fun u => WM cs ad u)) hx hb hr hlk hK hP hD hS hm dX11_denial_14
noncomputable def mX11_fees_L23  : Nat → Int32 → Int32 → Int32 → Int32 → MS → Option (Int32 × MS) := fun n => Nat.rec (motive := fun _ => Int32 → Int32 → Int32 → Int32 → MS → Option (Int32 × MS)) (fun _ _ _ _ _ => none) (fun _ rc => fun y1 y2 y3 y4 S => ald (S.1 0) 288 (nI 29) fun v2 => (if v2 ≤ y4 then (if y1 = 0 then some (y3, S) else some (y2, S)) else (mX11_bestTo S y4 (nI 1)).bind fun ⟨r4, S3⟩ => (if r4 = (-1 : Int32) then nm (y4 + (nI 1)) fun x5 => rc y1 y2 y3 x5 S3 else (if y2 = (-1 : Int32) then nm (y4 + (nI 1)) fun x6 => rc y1 r4 y4 x6 S3 else (if y2 ≤ r4 then nm (y4 + (nI 1)) fun x7 => rc y1 y2 y3 x7 S3 else nm (y4 + (nI 1)) fun x8 => rc y1 r4 y4 x8 S3))))) n
theorem mX11_fees_L23_s  (n : Nat) (y1 : Int32) (y2 : Int32) (y3 : Int32) (y4 : Int32) (S : MS) : mX11_fees_L23  (n + 1) y1 y2 y3 y4 S = ald (S.1 0) 288 (nI 29) fun v2 => (if v2 ≤ y4 then (if y1 = 0 then some (y3, S) else some (y2, S)) else (mX11_bestTo S y4 (nI 1)).bind fun ⟨r4, S3⟩ => (if r4 = (-1 : Int32) then nm (y4 + (nI 1)) fun x5 => (mX11_fees_L23  n) y1 y2 y3 x5 S3 else (if y2 = (-1 : Int32) then nm (y4 + (nI 1)) fun x6 => (mX11_fees_L23  n) y1 r4 y4 x6 S3 else (if y2 ≤ r4 then nm (y4 + (nI 1)) fun x7 => (mX11_fees_L23  n) y1 y2 y3 x7 S3 else nm (y4 + (nI 1)) fun x8 => (mX11_fees_L23  n) y1 r4 y4 x8 S3)))) := rfl
noncomputable def mX11_fees (S : MS) (a1 : Int32) : Option (Int32 × MS) := (mX11_in a1 (nI 0) (nI 1)).bind fun r1 => (if r1 = 0 then (mX11_refuse S (-2 : Int32)).bind fun ⟨r10, S9⟩ => some (r10, S9) else mX11_fees_L23 FU a1 (-1 : Int32) (-1 : Int32) (nI 0) S)
set_option maxHeartbeats 4000000 in
set_option maxRecDepth 100000 in
theorem kX11_fees_L23 {p : Program} {l : Launch} {e : Env} {s : State} {m : MethodId} {below : List Frame} {meth : Method} {c : Code} {D : va_G} {cs : CS} {A : Nat → Prop}  {ad : Nat → Nat} {a1 : Int32} (E : EV p s m [.ref (ad 22), .int a1].toArray meth c cX11_fees 7 RX11 (some .int) D cs) (hA : ∀ q : Nat, s.heap.size ≤ q → A q) (z : Int32 × MS) : ∀ (n : Nat) (y1 : Int32) (y2 : Int32) (y3 : Int32) (y4 : Int32) (S : MS), mX11_fees_L23  n y1 y2 y3 y4 S = some z → ∀ (H : Heap) (locs : List Loc), va_P D classes (WM cs ad S) H → va_D A (WM cs ad S) → va_S A s.heap H locs → ∀ ls : Array Slot, lv_has ls 7 [(0, .ref (ad 22)), (1, .int y1), (2, .int y2), (3, .int y3), (4, .int y4)] → W p l e ({ frames := 5, cells := 0, slots := 0, locals := 116 }) s m [.ref (ad 22), .int a1].toArray below meth c H locs 0 0 (MQ below (QWi D cs A (fun u => WM cs ad u) z) [.ref (ad 22), .int a1].toArray s 0 0 A) (F0 m 23 ls []) := by
  obtain ⟨hx, hb, hr, hml, hown, hlk, hT, hN, hK⟩ := id E
  intro n
  induction n with
  | zero =>
    intro y1 y2 y3 y4 S hm
    exact nomatch (show (none : Option (Int32 × MS)) = some z from hm)
  | succ n ih =>
    intro y1 y2 y3 y4 S hm H locs hP hD hS ls hl
    rw [mX11_fees_L23_s] at hm
    refine lv_iload hx hb dX11_fees_23 (lv_at hl 4 rfl) ?_
    refine lv_aload_n hx hb dX11_fees_25 rfl (lv_at hl 0 rfl) ?_
    refine gf_X11_7 (v := .ref (ad 0)) hx hb hT hown hK hP 0 rfl rfl dX11_fees_26 ?_
    refine lv_bipush (v := (nI 29)) hx hb dX11_fees_29 (by decide) ?_
    refine x_iald hx hb hK hP 1 rfl hm dX11_fees_31 (fun v2 hm => ?_)
    refine x_icmp_ge (tgt := 98) hx hb dX11_fees_32 (by decide) hm (fun hm => ?_) (fun hm => ?_)
    · refine lv_iload_n hx hb dX11_fees_98 rfl (lv_at hl 1 rfl) ?_
      refine x_if_ne (tgt := 106) hx hb dX11_fees_99 (by decide) hm (fun hm => ?_) (fun hm => ?_)
      · refine lv_iload_n hx hb dX11_fees_106 rfl (lv_at hl 2 rfl) ?_
        exact x_iretW (wf := (fun u => WM cs ad u)) hx hb hr hlk hK hP hD hS hm dX11_fees_107
      · refine lv_iload_n hx hb dX11_fees_102 rfl (lv_at hl 3 rfl) ?_
        refine lv_goto (tgt := 107) hx hb dX11_fees_103 (by decide) ?_
        exact x_iretW (wf := (fun u => WM cs ad u)) hx hb hr hlk hK hP hD hS hm dX11_fees_107
    · refine lv_aload_n hx hb dX11_fees_35 rfl (lv_at hl 0 rfl) ?_
      refine lv_iload hx hb dX11_fees_36 (lv_at hl 4 rfl) ?_
      refine lv_iconst (v := (nI 1)) hx hb dX11_fees_38 (by decide) ?_
      refine xVW_i (As := [.int y4, .int (nI 1)]) (rest := []) (wr := []) (wg := (fun u => WM cs ad u)) hx hb hml hown hT hN hK hP hD hS hA cw_X11_190 hm (fun z h => tcX11_bestTo l D cs ad H.size S y4 (nI 1) z h) ⟨rfl, rfl⟩ ⟨by decide, by decide⟩ [0, 1, 2, 3, 4, 5, 6, 7, 8, 9, 10, 11] [] [0, 1, 2, 3, 4, 5, 6, 7, 8, 9, 10, 11] rfl (by decide) rfl (by decide) (by decide) (fun _ => rfl) (by decide) (b := (ad 22)) 0 rfl rfl rfl hl.1 rfl rfl (Nat.le_of_ble_eq_true rfl) dX11_fees_39 ⟨Nat.zero_le _, Nat.zero_le _⟩ (fun r4 S3 H locs hm hP hD hS => ?_)
      refine lv_istore (lv' := [(5, .int r4), (0, .ref (ad 22)), (1, .int y1), (2, .int y2), (3, .int y3), (4, .int y4)]) hx hb dX11_fees_42 hl (by decide) rfl (fun ls hl => ?_)
      refine lv_iload hx hb dX11_fees_44 (lv_at hl 0 rfl) ?_
      refine lv_iconst (v := (-1 : Int32)) hx hb dX11_fees_46 (by decide) ?_
      refine x_icmp_eq (tgt := 65) hx hb dX11_fees_47 (by decide) hm (fun hm => ?_) (fun hm => ?_)
      · refine lv_iconst (v := (nI 0)) hx hb dX11_fees_65 (by decide) ?_
        refine lv_istore (lv' := [(6, .int (nI 0)), (5, .int r4), (0, .ref (ad 22)), (1, .int y1), (2, .int y2), (3, .int y3), (4, .int y4)]) hx hb dX11_fees_66 hl (by decide) rfl (fun ls hl => ?_)
        refine lv_iload hx hb dX11_fees_68 (lv_at hl 0 rfl) ?_
        refine lv_if_eq (tgt := 78) hx hb dX11_fees_70 (by decide) (fun _ => ?_) (fun h => absurd h (by decide))
        refine lv_iload_n hx hb dX11_fees_78 rfl (lv_at hl 5 rfl) ?_
        refine lv_istore_n (lv' := [(3, .int y3), (6, .int (nI 0)), (5, .int r4), (0, .ref (ad 22)), (1, .int y1), (2, .int y2), (4, .int y4)]) hx hb dX11_fees_79 rfl hl (by decide) rfl (fun ls hl => ?_)
        refine lv_iload hx hb dX11_fees_80 (lv_at hl 1 rfl) ?_
        refine lv_if_eq (tgt := 90) hx hb dX11_fees_82 (by decide) (fun _ => ?_) (fun h => absurd h (by decide))
        refine lv_iload_n hx hb dX11_fees_90 rfl (lv_at hl 5 rfl) ?_
        refine lv_istore_n (lv' := [(2, .int y2), (3, .int y3), (6, .int (nI 0)), (5, .int r4), (0, .ref (ad 22)), (1, .int y1), (4, .int y4)]) hx hb dX11_fees_91 rfl hl (by decide) rfl (fun ls hl => ?_)
        refine x_iinc (lv' := fun x5 => [(4, .int x5), (2, .int y2), (3, .int y3), (6, .int (nI 0)), (5, .int r4), (0, .ref (ad 22)), (1, .int y1)]) hx hb dX11_fees_92 hl (k := 6) rfl (by decide) (v0 := (nI 1)) (by decide) (fun _ => rfl) hm (fun x5 ls hm hl => ?_)
        refine lv_goto (tgt := 23) hx hb dX11_fees_95 (by decide) ?_
        exact ih y1 y2 y3 x5 S3 hm H locs hP hD hS ls (lv_sub hl [5, 6, 1, 2, 0] rfl)
      · refine lv_iload_n hx hb dX11_fees_50 rfl (lv_at hl 3 rfl) ?_
        refine lv_iconst (v := (-1 : Int32)) hx hb dX11_fees_51 (by decide) ?_
        refine x_icmp_eq (tgt := 61) hx hb dX11_fees_52 (by decide) hm (fun hm => ?_) (fun hm => ?_)
        · refine lv_iconst (v := (nI 1)) hx hb dX11_fees_61 (by decide) ?_
          refine lv_goto (tgt := 66) hx hb dX11_fees_62 (by decide) ?_
          refine lv_istore (lv' := [(6, .int (nI 1)), (5, .int r4), (0, .ref (ad 22)), (1, .int y1), (2, .int y2), (3, .int y3), (4, .int y4)]) hx hb dX11_fees_66 hl (by decide) rfl (fun ls hl => ?_)
          refine lv_iload hx hb dX11_fees_68 (lv_at hl 0 rfl) ?_
          refine lv_if_eq (tgt := 78) hx hb dX11_fees_70 (by decide) (fun h => absurd h (by decide)) (fun _ => ?_)
          refine lv_iload hx hb dX11_fees_73 (lv_at hl 6 rfl) ?_
          refine lv_goto (tgt := 79) hx hb dX11_fees_75 (by decide) ?_
          refine lv_istore_n (lv' := [(3, .int y4), (6, .int (nI 1)), (5, .int r4), (0, .ref (ad 22)), (1, .int y1), (2, .int y2), (4, .int y4)]) hx hb dX11_fees_79 rfl hl (by decide) rfl (fun ls hl => ?_)
          refine lv_iload hx hb dX11_fees_80 (lv_at hl 1 rfl) ?_
          refine lv_if_eq (tgt := 90) hx hb dX11_fees_82 (by decide) (fun h => absurd h (by decide)) (fun _ => ?_)
          refine lv_iload hx hb dX11_fees_85 (lv_at hl 2 rfl) ?_
          refine lv_goto (tgt := 91) hx hb dX11_fees_87 (by decide) ?_
          refine lv_istore_n (lv' := [(2, .int r4), (3, .int y4), (6, .int (nI 1)), (5, .int r4), (0, .ref (ad 22)), (1, .int y1), (4, .int y4)]) hx hb dX11_fees_91 rfl hl (by decide) rfl (fun ls hl => ?_)
          refine x_iinc (lv' := fun x6 => [(4, .int x6), (2, .int r4), (3, .int y4), (6, .int (nI 1)), (5, .int r4), (0, .ref (ad 22)), (1, .int y1)]) hx hb dX11_fees_92 hl (k := 6) rfl (by decide) (v0 := (nI 1)) (by decide) (fun _ => rfl) hm (fun x6 ls hm hl => ?_)
          refine lv_goto (tgt := 23) hx hb dX11_fees_95 (by decide) ?_
          exact ih y1 r4 y4 x6 S3 hm H locs hP hD hS ls (lv_sub hl [5, 6, 1, 2, 0] rfl)
        · refine lv_iload hx hb dX11_fees_55 (lv_at hl 0 rfl) ?_
          refine lv_iload_n hx hb dX11_fees_57 rfl (lv_at hl 3 rfl) ?_
          refine x_icmp_ge (tgt := 65) hx hb dX11_fees_58 (by decide) hm (fun hm => ?_) (fun hm => ?_)
          · refine lv_iconst (v := (nI 0)) hx hb dX11_fees_65 (by decide) ?_
            refine lv_istore (lv' := [(6, .int (nI 0)), (5, .int r4), (0, .ref (ad 22)), (1, .int y1), (2, .int y2), (3, .int y3), (4, .int y4)]) hx hb dX11_fees_66 hl (by decide) rfl (fun ls hl => ?_)
            refine lv_iload hx hb dX11_fees_68 (lv_at hl 0 rfl) ?_
            refine lv_if_eq (tgt := 78) hx hb dX11_fees_70 (by decide) (fun _ => ?_) (fun h => absurd h (by decide))
            refine lv_iload_n hx hb dX11_fees_78 rfl (lv_at hl 5 rfl) ?_
            refine lv_istore_n (lv' := [(3, .int y3), (6, .int (nI 0)), (5, .int r4), (0, .ref (ad 22)), (1, .int y1), (2, .int y2), (4, .int y4)]) hx hb dX11_fees_79 rfl hl (by decide) rfl (fun ls hl => ?_)
            refine lv_iload hx hb dX11_fees_80 (lv_at hl 1 rfl) ?_
            refine lv_if_eq (tgt := 90) hx hb dX11_fees_82 (by decide) (fun _ => ?_) (fun h => absurd h (by decide))
            refine lv_iload_n hx hb dX11_fees_90 rfl (lv_at hl 5 rfl) ?_
            refine lv_istore_n (lv' := [(2, .int y2), (3, .int y3), (6, .int (nI 0)), (5, .int r4), (0, .ref (ad 22)), (1, .int y1), (4, .int y4)]) hx hb dX11_fees_91 rfl hl (by decide) rfl (fun ls hl => ?_)
            refine x_iinc (lv' := fun x7 => [(4, .int x7), (2, .int y2), (3, .int y3), (6, .int (nI 0)), (5, .int r4), (0, .ref (ad 22)), (1, .int y1)]) hx hb dX11_fees_92 hl (k := 6) rfl (by decide) (v0 := (nI 1)) (by decide) (fun _ => rfl) hm (fun x7 ls hm hl => ?_)
            refine lv_goto (tgt := 23) hx hb dX11_fees_95 (by decide) ?_
            exact ih y1 y2 y3 x7 S3 hm H locs hP hD hS ls (lv_sub hl [5, 6, 1, 2, 0] rfl)
          · refine lv_iconst (v := (nI 1)) hx hb dX11_fees_61 (by decide) ?_
            refine lv_goto (tgt := 66) hx hb dX11_fees_62 (by decide) ?_
            refine lv_istore (lv' := [(6, .int (nI 1)), (5, .int r4), (0, .ref (ad 22)), (1, .int y1), (2, .int y2), (3, .int y3), (4, .int y4)]) hx hb dX11_fees_66 hl (by decide) rfl (fun ls hl => ?_)
            refine lv_iload hx hb dX11_fees_68 (lv_at hl 0 rfl) ?_
            refine lv_if_eq (tgt := 78) hx hb dX11_fees_70 (by decide) (fun h => absurd h (by decide)) (fun _ => ?_)
            refine lv_iload hx hb dX11_fees_73 (lv_at hl 6 rfl) ?_
            refine lv_goto (tgt := 79) hx hb dX11_fees_75 (by decide) ?_
            refine lv_istore_n (lv' := [(3, .int y4), (6, .int (nI 1)), (5, .int r4), (0, .ref (ad 22)), (1, .int y1), (2, .int y2), (4, .int y4)]) hx hb dX11_fees_79 rfl hl (by decide) rfl (fun ls hl => ?_)
            refine lv_iload hx hb dX11_fees_80 (lv_at hl 1 rfl) ?_
            refine lv_if_eq (tgt := 90) hx hb dX11_fees_82 (by decide) (fun h => absurd h (by decide)) (fun _ => ?_)
            refine lv_iload hx hb dX11_fees_85 (lv_at hl 2 rfl) ?_
            refine lv_goto (tgt := 91) hx hb dX11_fees_87 (by decide) ?_
            refine lv_istore_n (lv' := [(2, .int r4), (3, .int y4), (6, .int (nI 1)), (5, .int r4), (0, .ref (ad 22)), (1, .int y1), (4, .int y4)]) hx hb dX11_fees_91 rfl hl (by decide) rfl (fun ls hl => ?_)
            refine x_iinc (lv' := fun x8 => [(4, .int x8), (2, .int r4), (3, .int y4), (6, .int (nI 1)), (5, .int r4), (0, .ref (ad 22)), (1, .int y1)]) hx hb dX11_fees_92 hl (k := 6) rfl (by decide) (v0 := (nI 1)) (by decide) (fun _ => rfl) hm (fun x8 ls hm hl => ?_)
            refine lv_goto (tgt := 23) hx hb dX11_fees_95 (by decide) ?_
            exact ih y1 r4 y4 x8 S3 hm H locs hP hD hS ls (lv_sub hl [5, 6, 1, 2, 0] rfl)
set_option maxHeartbeats 4000000 in
set_option maxRecDepth 100000 in
theorem tcX11_fees (l : Launch) (D : va_G) (cs : CS) (ad : Nat → Nat) (sz : Nat) (S : MS) (a1 : Int32) (z : Int32 × MS) (hm : mX11_fees S a1 = some z) : Met l yX11_fees (Cond.code yX11_fees cX11_fees 7 (some .int) :: gw_tbl) ({ frames := 5, cells := 0, slots := 0, locals := 116 }) (PcW D cs sz (WM cs ad S) [.ref (ad 22), .int a1]) (QWi D cs (va_A (WM cs ad S) sz) (fun u => WM cs ad u) z) 0 0 (va_A (WM cs ad S) sz) := by
  refine met_W rfl (Nat.le_of_ble_eq_true rfl) (fun p e s m below meth c E hP hD hS hA ls hl => ?_)
  generalize va_A (WM cs ad S) sz = A at hD hS hA ⊢
  obtain ⟨hx, hb, hr, hml, hown, hlk, hT, hN, hK⟩ := id E
  obtain ⟨H, hH⟩ : ∃ H, H = s.heap := ⟨_, rfl⟩
  obtain ⟨locs, hlo⟩ : ∃ L : List Loc, L = [] := ⟨_, rfl⟩
  have hP : va_P D classes (WM cs ad S) H := by rw [hH]; exact hP
  have hS : va_S A s.heap H locs := by rw [hH, hlo]; exact hS
  rw [show W p l e _ s m _ below meth c s.heap [] 0 0 = W p l e _ s m _ below meth c H locs 0 0 by rw [hH, hlo]]
  have hl : lv_has ls 7 [(0, .ref (ad 22)), (1, .int a1)] := hl
  unfold mX11_fees at hm
  refine lv_iload_n hx hb dX11_fees_0 rfl (lv_at hl 1 rfl) ?_
  refine lv_iconst (v := (nI 0)) hx hb dX11_fees_1 (by decide) ?_
  refine lv_iconst (v := (nI 1)) hx hb dX11_fees_2 (by decide) ?_
  refine xS_i (As := [.int a1, .int (nI 0), .int (nI 1)]) (rest := []) hx hb hml hown hT hN hK (hP.sub (ws' := []) [] rfl) cw_X11_52 hm (fun z h => tcX11_in l D cs a1 (nI 0) (nI 1) z h) ⟨rfl, rfl⟩ ⟨by decide, by decide⟩ hl.1 rfl rfl (Nat.le_of_ble_eq_true rfl) dX11_fees_3 ⟨Nat.zero_le _, Nat.zero_le _⟩ (fun r1 hm => ?_)
  refine x_if_ne (tgt := 16) hx hb dX11_fees_6 (by decide) hm (fun hm => ?_) (fun hm => ?_)
  · refine lv_iconst (v := (-1 : Int32)) hx hb dX11_fees_16 (by decide) ?_
    refine lv_istore_n (lv' := [(2, .int (-1 : Int32)), (0, .ref (ad 22)), (1, .int a1)]) hx hb dX11_fees_17 rfl hl (by decide) rfl (fun ls hl => ?_)
    refine lv_iconst (v := (-1 : Int32)) hx hb dX11_fees_18 (by decide) ?_
    refine lv_istore_n (lv' := [(3, .int (-1 : Int32)), (2, .int (-1 : Int32)), (0, .ref (ad 22)), (1, .int a1)]) hx hb dX11_fees_19 rfl hl (by decide) rfl (fun ls hl => ?_)
    refine lv_iconst (v := (nI 0)) hx hb dX11_fees_20 (by decide) ?_
    refine lv_istore (lv' := [(4, .int (nI 0)), (3, .int (-1 : Int32)), (2, .int (-1 : Int32)), (0, .ref (ad 22)), (1, .int a1)]) hx hb dX11_fees_21 hl (by decide) rfl (fun ls hl => ?_)
    exact kX11_fees_L23 E hA _ FU a1 (-1 : Int32) (-1 : Int32) (nI 0) S hm H locs hP hD hS ls (lv_sub hl [3, 4, 2, 1, 0] rfl)
  · refine lv_aload_n hx hb dX11_fees_9 rfl (lv_at hl 0 rfl) ?_
    refine lv_bipush (v := (-2 : Int32)) hx hb dX11_fees_10 (by decide) ?_
    refine xVW_i (As := [.int (-2 : Int32)]) (rest := []) (wr := []) (wg := (fun u => WM cs ad u)) hx hb hml hown hT hN hK hP hD hS hA cw_X11_48 hm (fun z h => tcX11_refuse l D cs ad H.size S (-2 : Int32) z h) ⟨rfl, rfl⟩ ⟨by decide, by decide⟩ [0, 1, 2, 3, 4, 5, 6, 7, 8, 9, 10, 11] [] [0, 1, 2, 3, 4, 5, 6, 7, 8, 9, 10, 11] rfl (by decide) rfl (by decide) (by decide) (fun _ => rfl) (by decide) (b := (ad 22)) 0 rfl rfl rfl hl.1 rfl rfl (Nat.le_of_ble_eq_true rfl) dX11_fees_12 ⟨Nat.zero_le _, Nat.zero_le _⟩ (fun r10 S9 H locs hm hP hD hS => ?_)
    exact x_iretW (wf := (fun u => WM cs ad u)) hx hb hr hlk hK hP hD hS hm dX11_fees_15
noncomputable def mX11_rule (S : MS) (a1 : Int32) : Option (Int32 × MS) := (mX11_isCourt S a1).bind fun r1 => (if r1 = 0 then (mX11_refuse S (-2 : Int32)).bind fun ⟨r3, S2⟩ => some (r3, S2) else ald (S.1 0) 288 ((nI 30) + a1) fun v4 => ald (S.1 0) 288 (nI 0) fun v5 => (mX11_supposedBy S v5).bind fun r6 => some ((v4 &&& (r6 ^^^ (-1 : Int32))), S))
set_option maxHeartbeats 4000000 in
set_option maxRecDepth 100000 in
theorem tcX11_rule (l : Launch) (D : va_G) (cs : CS) (ad : Nat → Nat) (sz : Nat) (S : MS) (a1 : Int32) (z : Int32 × MS) (hm : mX11_rule S a1 = some z) : Met l yX11_rule (Cond.code yX11_rule cX11_rule 2 (some .int) :: gw_tbl) ({ frames := 2, cells := 0, slots := 0, locals := 44 }) (PcW D cs sz (WM cs ad S) [.ref (ad 22), .int a1]) (QWi D cs (va_A (WM cs ad S) sz) (fun u => WM cs ad u) z) 0 0 (va_A (WM cs ad S) sz) := by
  refine met_W rfl (Nat.le_of_ble_eq_true rfl) (fun p e s m below meth c E hP hD hS hA ls hl => ?_)
  generalize va_A (WM cs ad S) sz = A at hD hS hA ⊢
  obtain ⟨hx, hb, hr, hml, hown, hlk, hT, hN, hK⟩ := id E
  obtain ⟨H, hH⟩ : ∃ H, H = s.heap := ⟨_, rfl⟩
  obtain ⟨locs, hlo⟩ : ∃ L : List Loc, L = [] := ⟨_, rfl⟩
  have hP : va_P D classes (WM cs ad S) H := by rw [hH]; exact hP
  have hS : va_S A s.heap H locs := by rw [hH, hlo]; exact hS
  rw [show W p l e _ s m _ below meth c s.heap [] 0 0 = W p l e _ s m _ below meth c H locs 0 0 by rw [hH, hlo]]
  have hl : lv_has ls 2 [(0, .ref (ad 22)), (1, .int a1)] := hl
  unfold mX11_rule at hm
  refine lv_aload_n hx hb dX11_rule_0 rfl (lv_at hl 0 rfl) ?_
  refine lv_iload_n hx hb dX11_rule_1 rfl (lv_at hl 1 rfl) ?_
  refine xV_i (As := [.int a1]) (rest := []) hx hb hml hown hT hN hK hP cw_X11_184 hm (fun z h => tcX11_isCourt l D cs ad S a1 z h) ⟨rfl, rfl⟩ ⟨by decide, by decide⟩ (b := (ad 22)) 0 rfl rfl rfl hl.1 rfl rfl (Nat.le_of_ble_eq_true rfl) dX11_rule_2 ⟨Nat.zero_le _, Nat.zero_le _⟩ (fun r1 hm => ?_)
  refine x_if_eq (tgt := 33) hx hb dX11_rule_5 (by decide) hm (fun hm => ?_) (fun hm => ?_)
  · refine lv_aload_n hx hb dX11_rule_33 rfl (lv_at hl 0 rfl) ?_
    refine lv_bipush (v := (-2 : Int32)) hx hb dX11_rule_34 (by decide) ?_
    refine xVW_i (As := [.int (-2 : Int32)]) (rest := []) (wr := []) (wg := (fun u => WM cs ad u)) hx hb hml hown hT hN hK hP hD hS hA cw_X11_48 hm (fun z h => tcX11_refuse l D cs ad H.size S (-2 : Int32) z h) ⟨rfl, rfl⟩ ⟨by decide, by decide⟩ [0, 1, 2, 3, 4, 5, 6, 7, 8, 9, 10, 11] [] [0, 1, 2, 3, 4, 5, 6, 7, 8, 9, 10, 11] rfl (by decide) rfl (by decide) (by decide) (fun _ => rfl) (by decide) (b := (ad 22)) 0 rfl rfl rfl hl.1 rfl rfl (Nat.le_of_ble_eq_true rfl) dX11_rule_36 ⟨Nat.zero_le _, Nat.zero_le _⟩ (fun r3 S2 H locs hm hP hD hS => ?_)
    exact x_iretW (wf := (fun u => WM cs ad u)) hx hb hr hlk hK hP hD hS hm dX11_rule_39
  · refine lv_aload_n hx hb dX11_rule_8 rfl (lv_at hl 0 rfl) ?_
    refine gf_X11_7 (v := .ref (ad 0)) hx hb hT hown hK hP 0 rfl rfl dX11_rule_9 ?_
    refine lv_bipush (v := (nI 30)) hx hb dX11_rule_12 (by decide) ?_
    refine lv_iload_n hx hb dX11_rule_14 rfl (lv_at hl 1 rfl) ?_
    refine lv_iadd hx hb dX11_rule_15 ?_
    refine x_iald hx hb hK hP 1 rfl hm dX11_rule_16 (fun v4 hm => ?_)
    refine lv_aload_n hx hb dX11_rule_17 rfl (lv_at hl 0 rfl) ?_
    refine lv_aload_n hx hb dX11_rule_18 rfl (lv_at hl 0 rfl) ?_
    refine gf_X11_7 (v := .ref (ad 0)) hx hb hT hown hK hP 0 rfl rfl dX11_rule_19 ?_
    refine lv_iconst (v := (nI 0)) hx hb dX11_rule_22 (by decide) ?_
    refine x_iald hx hb hK hP 1 rfl hm dX11_rule_23 (fun v5 hm => ?_)
    refine xV_i (As := [.int v5]) (rest := [.int v4]) hx hb hml hown hT hN hK hP cw_X11_135 hm (fun z h => tcX11_supposedBy l D cs ad S v5 z h) ⟨rfl, rfl⟩ ⟨by decide, by decide⟩ (b := (ad 22)) 0 rfl rfl rfl hl.1 rfl rfl (Nat.le_of_ble_eq_true rfl) dX11_rule_24 ⟨Nat.zero_le _, Nat.zero_le _⟩ (fun r6 hm => ?_)
    refine lv_iconst (v := (-1 : Int32)) hx hb dX11_rule_27 (by decide) ?_
    refine lv_ixor hx hb dX11_rule_28 ?_
    refine lv_iand hx hb dX11_rule_29 ?_
    refine lv_goto (tgt := 39) hx hb dX11_rule_30 (by decide) ?_
    exact x_iretW (wf := (fun u => WM cs ad u)) hx hb hr hlk hK hP hD hS hm dX11_rule_39
noncomputable def mX11_note (S : MS) (a1 : Int32) (a2 : Int32) (a3 : Int32) : Option (Int32 × MS) := (mX11_isFiction S a1).bind fun r1 => (if r1 = 0 then (mX11_refuse S (-2 : Int32)).bind fun ⟨r3, S2⟩ => some (r3, S2) else (mX11_in a2 (nI 0) (nI 20)).bind fun r4 => (if r4 = 0 then (mX11_refuse S (-2 : Int32)).bind fun ⟨r6, S5⟩ => some (r6, S5) else (mX11_in a3 (nI 0) (nI 60)).bind fun r7 => (if r7 = 0 then (mX11_refuse S (-2 : Int32)).bind fun ⟨r20, S19⟩ => some (r20, S19) else ald (S.1 0) 288 (nI 38) fun v8 => (if v8 = (nI 6) then (mX11_refuse S (-4 : Int32)).bind fun ⟨r18, S17⟩ => some (r18, S17) else ald (S.1 0) 288 (nI 38) fun v9 => nm ((nI 39) + ((nI 3) * v9)) fun x10 => ast 288 x10 <| nm (mA S 0 x10.toNatClampNeg a1) fun S11 => ast 288 (x10 + (nI 1)) <| nm (mA S11 0 ((x10 + (nI 1)).toNatClampNeg) a2) fun S12 => ast 288 (x10 + (nI 2)) <| nm (mA S12 0 ((x10 + (nI 2)).toNatClampNeg) a3) fun S13 => ald (S13.1 0) 288 (nI 38) fun v14 => ast 288 (nI 38) <| nm (mA S13 0 ((nI 38).toNatClampNeg) (v14 + (nI 1))) fun S15 => ald (S15.1 0) 288 (nI 38) fun v16 => some (v16, S15)))))
set_option maxHeartbeats 4000000 in
set_option maxRecDepth 100000 in
theorem tcX11_note (l : Launch) (D : va_G) (cs : CS) (ad : Nat → Nat) (sz : Nat) (S : MS) (a1 : Int32) (a2 : Int32) (a3 : Int32) (z : Int32 × MS) (hm : mX11_note S a1 a2 a3 = some z) : Met l yX11_note (Cond.code yX11_note cX11_note 5 (some .int) :: gw_tbl) ({ frames := 2, cells := 0, slots := 0, locals := 43 }) (PcW D cs sz (WM cs ad S) [.ref (ad 22), .int a1, .int a2, .int a3]) (QWi D cs (va_A (WM cs ad S) sz) (fun u => WM cs ad u) z) 0 0 (va_A (WM cs ad S) sz) := by
  refine met_W rfl (Nat.le_of_ble_eq_true rfl) (fun p e s m below meth c E hP hD hS hA ls hl => ?_)
  generalize va_A (WM cs ad S) sz = A at hD hS hA ⊢
  obtain ⟨hx, hb, hr, hml, hown, hlk, hT, hN, hK⟩ := id E
  obtain ⟨H, hH⟩ : ∃ H, H = s.heap := ⟨_, rfl⟩
  obtain ⟨locs, hlo⟩ : ∃ L : List Loc, L = [] := ⟨_, rfl⟩
  have hP : va_P D classes (WM cs ad S) H := by rw [hH]; exact hP
  have hS : va_S A s.heap H locs := by rw [hH, hlo]; exact hS
  rw [show W p l e _ s m _ below meth c s.heap [] 0 0 = W p l e _ s m _ below meth c H locs 0 0 by rw [hH, hlo]]
  have hl : lv_has ls 5 [(0, .ref (ad 22)), (1, .int a1), (2, .int a2), (3, .int a3)] := hl
  unfold mX11_note at hm
  refine lv_aload_n hx hb dX11_note_0 rfl (lv_at hl 0 rfl) ?_
  refine lv_iload_n hx hb dX11_note_1 rfl (lv_at hl 1 rfl) ?_
  refine xV_i (As := [.int a1]) (rest := []) hx hb hml hown hT hN hK hP cw_X11_141 hm (fun z h => tcX11_isFiction l D cs ad S a1 z h) ⟨rfl, rfl⟩ ⟨by decide, by decide⟩ (b := (ad 22)) 0 rfl rfl rfl hl.1 rfl rfl (Nat.le_of_ble_eq_true rfl) dX11_note_2 ⟨Nat.zero_le _, Nat.zero_le _⟩ (fun r1 hm => ?_)
  refine x_if_eq (tgt := 28) hx hb dX11_note_5 (by decide) hm (fun hm => ?_) (fun hm => ?_)
  · refine lv_aload_n hx hb dX11_note_28 rfl (lv_at hl 0 rfl) ?_
    refine lv_bipush (v := (-2 : Int32)) hx hb dX11_note_29 (by decide) ?_
    refine xVW_i (As := [.int (-2 : Int32)]) (rest := []) (wr := []) (wg := (fun u => WM cs ad u)) hx hb hml hown hT hN hK hP hD hS hA cw_X11_48 hm (fun z h => tcX11_refuse l D cs ad H.size S (-2 : Int32) z h) ⟨rfl, rfl⟩ ⟨by decide, by decide⟩ [0, 1, 2, 3, 4, 5, 6, 7, 8, 9, 10, 11] [] [0, 1, 2, 3, 4, 5, 6, 7, 8, 9, 10, 11] rfl (by decide) rfl (by decide) (by decide) (fun _ => rfl) (by decide) (b := (ad 22)) 0 rfl rfl rfl hl.1 rfl rfl (Nat.le_of_ble_eq_true rfl) dX11_note_31 ⟨Nat.zero_le _, Nat.zero_le _⟩ (fun r3 S2 H locs hm hP hD hS => ?_)
    exact x_iretW (wf := (fun u => WM cs ad u)) hx hb hr hlk hK hP hD hS hm dX11_note_34
  · refine lv_iload_n hx hb dX11_note_8 rfl (lv_at hl 2 rfl) ?_
    refine lv_iconst (v := (nI 0)) hx hb dX11_note_9 (by decide) ?_
    refine lv_bipush (v := (nI 20)) hx hb dX11_note_10 (by decide) ?_
    refine xS_i (As := [.int a2, .int (nI 0), .int (nI 20)]) (rest := []) hx hb hml hown hT hN hK (hP.sub (ws' := []) [] rfl) cw_X11_52 hm (fun z h => tcX11_in l D cs a2 (nI 0) (nI 20) z h) ⟨rfl, rfl⟩ ⟨by decide, by decide⟩ hl.1 rfl rfl (Nat.le_of_ble_eq_true rfl) dX11_note_12 ⟨Nat.zero_le _, Nat.zero_le _⟩ (fun r4 hm => ?_)
    refine x_if_eq (tgt := 28) hx hb dX11_note_15 (by decide) hm (fun hm => ?_) (fun hm => ?_)
    · refine lv_aload_n hx hb dX11_note_28 rfl (lv_at hl 0 rfl) ?_
      refine lv_bipush (v := (-2 : Int32)) hx hb dX11_note_29 (by decide) ?_
      refine xVW_i (As := [.int (-2 : Int32)]) (rest := []) (wr := []) (wg := (fun u => WM cs ad u)) hx hb hml hown hT hN hK hP hD hS hA cw_X11_48 hm (fun z h => tcX11_refuse l D cs ad H.size S (-2 : Int32) z h) ⟨rfl, rfl⟩ ⟨by decide, by decide⟩ [0, 1, 2, 3, 4, 5, 6, 7, 8, 9, 10, 11] [] [0, 1, 2, 3, 4, 5, 6, 7, 8, 9, 10, 11] rfl (by decide) rfl (by decide) (by decide) (fun _ => rfl) (by decide) (b := (ad 22)) 0 rfl rfl rfl hl.1 rfl rfl (Nat.le_of_ble_eq_true rfl) dX11_note_31 ⟨Nat.zero_le _, Nat.zero_le _⟩ (fun r6 S5 H locs hm hP hD hS => ?_)
      exact x_iretW (wf := (fun u => WM cs ad u)) hx hb hr hlk hK hP hD hS hm dX11_note_34
    · refine lv_iload_n hx hb dX11_note_18 rfl (lv_at hl 3 rfl) ?_
      refine lv_iconst (v := (nI 0)) hx hb dX11_note_19 (by decide) ?_
      refine lv_bipush (v := (nI 60)) hx hb dX11_note_20 (by decide) ?_
      refine xS_i (As := [.int a3, .int (nI 0), .int (nI 60)]) (rest := []) hx hb hml hown hT hN hK (hP.sub (ws' := []) [] rfl) cw_X11_52 hm (fun z h => tcX11_in l D cs a3 (nI 0) (nI 60) z h) ⟨rfl, rfl⟩ ⟨by decide, by decide⟩ hl.1 rfl rfl (Nat.le_of_ble_eq_true rfl) dX11_note_22 ⟨Nat.zero_le _, Nat.zero_le _⟩ (fun r7 hm => ?_)
      refine x_if_ne (tgt := 35) hx hb dX11_note_25 (by decide) hm (fun hm => ?_) (fun hm => ?_)
      · refine lv_aload_n hx hb dX11_note_35 rfl (lv_at hl 0 rfl) ?_
        refine gf_X11_7 (v := .ref (ad 0)) hx hb hT hown hK hP 0 rfl rfl dX11_note_36 ?_
        refine lv_bipush (v := (nI 38)) hx hb dX11_note_39 (by decide) ?_
        refine x_iald hx hb hK hP 1 rfl hm dX11_note_41 (fun v8 hm => ?_)
        refine lv_bipush (v := (nI 6)) hx hb dX11_note_42 (by decide) ?_
        refine x_icmp_ne (tgt := 54) hx hb dX11_note_44 (by decide) hm (fun hm => ?_) (fun hm => ?_)
        · refine lv_bipush (v := (nI 39)) hx hb dX11_note_54 (by decide) ?_
          refine lv_iconst (v := (nI 3)) hx hb dX11_note_56 (by decide) ?_
          refine lv_aload_n hx hb dX11_note_57 rfl (lv_at hl 0 rfl) ?_
          refine gf_X11_7 (v := .ref (ad 0)) hx hb hT hown hK hP 0 rfl rfl dX11_note_58 ?_
          refine lv_bipush (v := (nI 38)) hx hb dX11_note_61 (by decide) ?_
          refine x_iald hx hb hK hP 1 rfl hm dX11_note_63 (fun v9 hm => ?_)
          refine lv_imul hx hb dX11_note_64 ?_
          refine lv_iadd hx hb dX11_note_65 ?_
          refine xi_nm hm (fun x10 hm => ?_)
          refine lv_istore (lv' := [(4, .int x10), (0, .ref (ad 22)), (1, .int a1), (2, .int a2), (3, .int a3)]) hx hb dX11_note_66 hl (by decide) rfl (fun ls hl => ?_)
          refine lv_aload_n hx hb dX11_note_68 rfl (lv_at hl 1 rfl) ?_
          refine gf_X11_7 (v := .ref (ad 0)) hx hb hT hown hK hP 0 rfl rfl dX11_note_69 ?_
          refine lv_iload hx hb dX11_note_72 (lv_at hl 0 rfl) ?_
          refine lv_iload_n hx hb dX11_note_74 rfl (lv_at hl 2 rfl) ?_
          refine x_iast hx hb hK hP hD hS 1 rfl (fun j => mA S 0 j a1) (fun u => WM cs ad u) (fun _ => rfl) hm dX11_note_75 (fun S11 H locs hm hP hD hS => ?_)
          refine lv_aload_n hx hb dX11_note_76 rfl (lv_at hl 1 rfl) ?_
          refine gf_X11_7 (v := .ref (ad 0)) hx hb hT hown hK hP 0 rfl rfl dX11_note_77 ?_
          refine lv_iload hx hb dX11_note_80 (lv_at hl 0 rfl) ?_
          refine lv_iconst (v := (nI 1)) hx hb dX11_note_82 (by decide) ?_
          refine lv_iadd hx hb dX11_note_83 ?_
          refine lv_iload_n hx hb dX11_note_84 rfl (lv_at hl 3 rfl) ?_
          refine x_iast hx hb hK hP hD hS 1 rfl (fun j => mA S11 0 j a2) (fun u => WM cs ad u) (fun _ => rfl) hm dX11_note_85 (fun S12 H locs hm hP hD hS => ?_)
          refine lv_aload_n hx hb dX11_note_86 rfl (lv_at hl 1 rfl) ?_
          refine gf_X11_7 (v := .ref (ad 0)) hx hb hT hown hK hP 0 rfl rfl dX11_note_87 ?_
          refine lv_iload hx hb dX11_note_90 (lv_at hl 0 rfl) ?_
          refine lv_iconst (v := (nI 2)) hx hb dX11_note_92 (by decide) ?_
          refine lv_iadd hx hb dX11_note_93 ?_
          refine lv_iload_n hx hb dX11_note_94 rfl (lv_at hl 4 rfl) ?_
          refine x_iast hx hb hK hP hD hS 1 rfl (fun j => mA S12 0 j a3) (fun u => WM cs ad u) (fun _ => rfl) hm dX11_note_95 (fun S13 H locs hm hP hD hS => ?_)
          refine lv_aload_n hx hb dX11_note_96 rfl (lv_at hl 1 rfl) ?_
          refine gf_X11_7 (v := .ref (ad 0)) hx hb hT hown hK hP 0 rfl rfl dX11_note_97 ?_
          refine lv_bipush (v := (nI 38)) hx hb dX11_note_100 (by decide) ?_
          refine lv_dup2_11 hx hb dX11_note_102 rfl rfl ?_
          refine x_iald hx hb hK hP 1 rfl hm dX11_note_103 (fun v14 hm => ?_)
          refine lv_iconst (v := (nI 1)) hx hb dX11_note_104 (by decide) ?_
          refine lv_iadd hx hb dX11_note_105 ?_
          refine x_iast hx hb hK hP hD hS 1 rfl (fun j => mA S13 0 j (v14 + (nI 1))) (fun u => WM cs ad u) (fun _ => rfl) hm dX11_note_106 (fun S15 H locs hm hP hD hS => ?_)
          refine lv_aload_n hx hb dX11_note_107 rfl (lv_at hl 1 rfl) ?_
          refine gf_X11_7 (v := .ref (ad 0)) hx hb hT hown hK hP 0 rfl rfl dX11_note_108 ?_
          refine lv_bipush (v := (nI 38)) hx hb dX11_note_111 (by decide) ?_
          refine x_iald hx hb hK hP 1 rfl hm dX11_note_113 (fun v16 hm => ?_)
          exact x_iretW (wf := (fun u => WM cs ad u)) hx hb hr hlk hK hP hD hS hm dX11_note_114
        · refine lv_aload_n hx hb dX11_note_47 rfl (lv_at hl 0 rfl) ?_
          refine lv_bipush (v := (-4 : Int32)) hx hb dX11_note_48 (by decide) ?_
          refine xVW_i (As := [.int (-4 : Int32)]) (rest := []) (wr := []) (wg := (fun u => WM cs ad u)) hx hb hml hown hT hN hK hP hD hS hA cw_X11_48 hm (fun z h => tcX11_refuse l D cs ad H.size S (-4 : Int32) z h) ⟨rfl, rfl⟩ ⟨by decide, by decide⟩ [0, 1, 2, 3, 4, 5, 6, 7, 8, 9, 10, 11] [] [0, 1, 2, 3, 4, 5, 6, 7, 8, 9, 10, 11] rfl (by decide) rfl (by decide) (by decide) (fun _ => rfl) (by decide) (b := (ad 22)) 0 rfl rfl rfl hl.1 rfl rfl (Nat.le_of_ble_eq_true rfl) dX11_note_50 ⟨Nat.zero_le _, Nat.zero_le _⟩ (fun r18 S17 H locs hm hP hD hS => ?_)
          exact x_iretW (wf := (fun u => WM cs ad u)) hx hb hr hlk hK hP hD hS hm dX11_note_53
      · refine lv_aload_n hx hb dX11_note_28 rfl (lv_at hl 0 rfl) ?_
        refine lv_bipush (v := (-2 : Int32)) hx hb dX11_note_29 (by decide) ?_
        refine xVW_i (As := [.int (-2 : Int32)]) (rest := []) (wr := []) (wg := (fun u => WM cs ad u)) hx hb hml hown hT hN hK hP hD hS hA cw_X11_48 hm (fun z h => tcX11_refuse l D cs ad H.size S (-2 : Int32) z h) ⟨rfl, rfl⟩ ⟨by decide, by decide⟩ [0, 1, 2, 3, 4, 5, 6, 7, 8, 9, 10, 11] [] [0, 1, 2, 3, 4, 5, 6, 7, 8, 9, 10, 11] rfl (by decide) rfl (by decide) (by decide) (fun _ => rfl) (by decide) (b := (ad 22)) 0 rfl rfl rfl hl.1 rfl rfl (Nat.le_of_ble_eq_true rfl) dX11_note_31 ⟨Nat.zero_le _, Nat.zero_le _⟩ (fun r20 S19 H locs hm hP hD hS => ?_)
        exact x_iretW (wf := (fun u => WM cs ad u)) hx hb hr hlk hK hP hD hS hm dX11_note_34
noncomputable def mX11_heard (S : MS) (a1 : Int32) (a2 : Int32) : Option (Int32 × MS) := (mX11_isCourt S a1).bind fun r1 => (if r1 = 0 then (mX11_refuse S (-2 : Int32)).bind fun ⟨r3, S2⟩ => some (r3, S2) else (mX11_in a2 (nI 0) (nI 1)).bind fun r4 => (if r4 = 0 then (mX11_refuse S (-2 : Int32)).bind fun ⟨r16, S15⟩ => some (r16, S15) else ald (S.1 0) 288 (nI 57) fun v5 => (if v5 = (nI 6) then (mX11_refuse S (-4 : Int32)).bind fun ⟨r14, S13⟩ => some (r14, S13) else ald (S.1 0) 288 (nI 57) fun v6 => ast 288 ((nI 58) + ((nI 2) * v6)) <| nm (mA S 0 (((nI 58) + ((nI 2) * v6)).toNatClampNeg) a1) fun S7 => ald (S7.1 0) 288 (nI 57) fun v8 => ast 288 (((nI 58) + ((nI 2) * v8)) + (nI 1)) <| nm (mA S7 0 ((((nI 58) + ((nI 2) * v8)) + (nI 1)).toNatClampNeg) a2) fun S9 => ald (S9.1 0) 288 (nI 57) fun v10 => ast 288 (nI 57) <| nm (mA S9 0 ((nI 57).toNatClampNeg) (v10 + (nI 1))) fun S11 => ald (S11.1 0) 288 (nI 57) fun v12 => some (v12, S11))))
set_option maxHeartbeats 4000000 in
set_option maxRecDepth 100000 in
theorem tcX11_heard (l : Launch) (D : va_G) (cs : CS) (ad : Nat → Nat) (sz : Nat) (S : MS) (a1 : Int32) (a2 : Int32) (z : Int32 × MS) (hm : mX11_heard S a1 a2 = some z) : Met l yX11_heard (Cond.code yX11_heard cX11_heard 3 (some .int) :: gw_tbl) ({ frames := 2, cells := 0, slots := 0, locals := 43 }) (PcW D cs sz (WM cs ad S) [.ref (ad 22), .int a1, .int a2]) (QWi D cs (va_A (WM cs ad S) sz) (fun u => WM cs ad u) z) 0 0 (va_A (WM cs ad S) sz) := by
  refine met_W rfl (Nat.le_of_ble_eq_true rfl) (fun p e s m below meth c E hP hD hS hA ls hl => ?_)
  generalize va_A (WM cs ad S) sz = A at hD hS hA ⊢
  obtain ⟨hx, hb, hr, hml, hown, hlk, hT, hN, hK⟩ := id E
  obtain ⟨H, hH⟩ : ∃ H, H = s.heap := ⟨_, rfl⟩
  obtain ⟨locs, hlo⟩ : ∃ L : List Loc, L = [] := ⟨_, rfl⟩
  have hP : va_P D classes (WM cs ad S) H := by rw [hH]; exact hP
  have hS : va_S A s.heap H locs := by rw [hH, hlo]; exact hS
  rw [show W p l e _ s m _ below meth c s.heap [] 0 0 = W p l e _ s m _ below meth c H locs 0 0 by rw [hH, hlo]]
  have hl : lv_has ls 3 [(0, .ref (ad 22)), (1, .int a1), (2, .int a2)] := hl
  unfold mX11_heard at hm
  refine lv_aload_n hx hb dX11_heard_0 rfl (lv_at hl 0 rfl) ?_
  refine lv_iload_n hx hb dX11_heard_1 rfl (lv_at hl 1 rfl) ?_
  refine xV_i (As := [.int a1]) (rest := []) hx hb hml hown hT hN hK hP cw_X11_184 hm (fun z h => tcX11_isCourt l D cs ad S a1 z h) ⟨rfl, rfl⟩ ⟨by decide, by decide⟩ (b := (ad 22)) 0 rfl rfl rfl hl.1 rfl rfl (Nat.le_of_ble_eq_true rfl) dX11_heard_2 ⟨Nat.zero_le _, Nat.zero_le _⟩ (fun r1 hm => ?_)
  refine x_if_eq (tgt := 17) hx hb dX11_heard_5 (by decide) hm (fun hm => ?_) (fun hm => ?_)
  · refine lv_aload_n hx hb dX11_heard_17 rfl (lv_at hl 0 rfl) ?_
    refine lv_bipush (v := (-2 : Int32)) hx hb dX11_heard_18 (by decide) ?_
    refine xVW_i (As := [.int (-2 : Int32)]) (rest := []) (wr := []) (wg := (fun u => WM cs ad u)) hx hb hml hown hT hN hK hP hD hS hA cw_X11_48 hm (fun z h => tcX11_refuse l D cs ad H.size S (-2 : Int32) z h) ⟨rfl, rfl⟩ ⟨by decide, by decide⟩ [0, 1, 2, 3, 4, 5, 6, 7, 8, 9, 10, 11] [] [0, 1, 2, 3, 4, 5, 6, 7, 8, 9, 10, 11] rfl (by decide) rfl (by decide) (by decide) (fun _ => rfl) (by decide) (b := (ad 22)) 0 rfl rfl rfl hl.1 rfl rfl (Nat.le_of_ble_eq_true rfl) dX11_heard_20 ⟨Nat.zero_le _, Nat.zero_le _⟩ (fun r3 S2 H locs hm hP hD hS => ?_)
    exact x_iretW (wf := (fun u => WM cs ad u)) hx hb hr hlk hK hP hD hS hm dX11_heard_23
  · refine lv_iload_n hx hb dX11_heard_8 rfl (lv_at hl 2 rfl) ?_
    refine lv_iconst (v := (nI 0)) hx hb dX11_heard_9 (by decide) ?_
    refine lv_iconst (v := (nI 1)) hx hb dX11_heard_10 (by decide) ?_
    refine xS_i (As := [.int a2, .int (nI 0), .int (nI 1)]) (rest := []) hx hb hml hown hT hN hK (hP.sub (ws' := []) [] rfl) cw_X11_52 hm (fun z h => tcX11_in l D cs a2 (nI 0) (nI 1) z h) ⟨rfl, rfl⟩ ⟨by decide, by decide⟩ hl.1 rfl rfl (Nat.le_of_ble_eq_true rfl) dX11_heard_11 ⟨Nat.zero_le _, Nat.zero_le _⟩ (fun r4 hm => ?_)
    refine x_if_ne (tgt := 24) hx hb dX11_heard_14 (by decide) hm (fun hm => ?_) (fun hm => ?_)
    · refine lv_aload_n hx hb dX11_heard_24 rfl (lv_at hl 0 rfl) ?_
      refine gf_X11_7 (v := .ref (ad 0)) hx hb hT hown hK hP 0 rfl rfl dX11_heard_25 ?_
      refine lv_bipush (v := (nI 57)) hx hb dX11_heard_28 (by decide) ?_
      refine x_iald hx hb hK hP 1 rfl hm dX11_heard_30 (fun v5 hm => ?_)
      refine lv_bipush (v := (nI 6)) hx hb dX11_heard_31 (by decide) ?_
      refine x_icmp_ne (tgt := 43) hx hb dX11_heard_33 (by decide) hm (fun hm => ?_) (fun hm => ?_)
      · refine lv_aload_n hx hb dX11_heard_43 rfl (lv_at hl 0 rfl) ?_
        refine gf_X11_7 (v := .ref (ad 0)) hx hb hT hown hK hP 0 rfl rfl dX11_heard_44 ?_
        refine lv_bipush (v := (nI 58)) hx hb dX11_heard_47 (by decide) ?_
        refine lv_iconst (v := (nI 2)) hx hb dX11_heard_49 (by decide) ?_
        refine lv_aload_n hx hb dX11_heard_50 rfl (lv_at hl 0 rfl) ?_
        refine gf_X11_7 (v := .ref (ad 0)) hx hb hT hown hK hP 0 rfl rfl dX11_heard_51 ?_
        refine lv_bipush (v := (nI 57)) hx hb dX11_heard_54 (by decide) ?_
        refine x_iald hx hb hK hP 1 rfl hm dX11_heard_56 (fun v6 hm => ?_)
        refine lv_imul hx hb dX11_heard_57 ?_
        refine lv_iadd hx hb dX11_heard_58 ?_
        refine lv_iload_n hx hb dX11_heard_59 rfl (lv_at hl 1 rfl) ?_
        refine x_iast hx hb hK hP hD hS 1 rfl (fun j => mA S 0 j a1) (fun u => WM cs ad u) (fun _ => rfl) hm dX11_heard_60 (fun S7 H locs hm hP hD hS => ?_)
        refine lv_aload_n hx hb dX11_heard_61 rfl (lv_at hl 0 rfl) ?_
        refine gf_X11_7 (v := .ref (ad 0)) hx hb hT hown hK hP 0 rfl rfl dX11_heard_62 ?_
        refine lv_bipush (v := (nI 58)) hx hb dX11_heard_65 (by decide) ?_
        refine lv_iconst (v := (nI 2)) hx hb dX11_heard_67 (by decide) ?_
        refine lv_aload_n hx hb dX11_heard_68 rfl (lv_at hl 0 rfl) ?_
        refine gf_X11_7 (v := .ref (ad 0)) hx hb hT hown hK hP 0 rfl rfl dX11_heard_69 ?_
        refine lv_bipush (v := (nI 57)) hx hb dX11_heard_72 (by decide) ?_
        refine x_iald hx hb hK hP 1 rfl hm dX11_heard_74 (fun v8 hm => ?_)
        refine lv_imul hx hb dX11_heard_75 ?_
        refine lv_iadd hx hb dX11_heard_76 ?_
        refine lv_iconst (v := (nI 1)) hx hb dX11_heard_77 (by decide) ?_
        refine lv_iadd hx hb dX11_heard_78 ?_
        refine lv_iload_n hx hb dX11_heard_79 rfl (lv_at hl 2 rfl) ?_
        refine x_iast hx hb hK hP hD hS 1 rfl (fun j => mA S7 0 j a2) (fun u => WM cs ad u) (fun _ => rfl) hm dX11_heard_80 (fun S9 H locs hm hP hD hS => ?_)
        refine lv_aload_n hx hb dX11_heard_81 rfl (lv_at hl 0 rfl) ?_
        refine gf_X11_7 (v := .ref (ad 0)) hx hb hT hown hK hP 0 rfl rfl dX11_heard_82 ?_
        refine lv_bipush (v := (nI 57)) hx hb dX11_heard_85 (by decide) ?_
        refine lv_dup2_11 hx hb dX11_heard_87 rfl rfl ?_
        refine x_iald hx hb hK hP 1 rfl hm dX11_heard_88 (fun v10 hm => ?_)
        refine lv_iconst (v := (nI 1)) hx hb dX11_heard_89 (by decide) ?_
        refine lv_iadd hx hb dX11_heard_90 ?_
        refine x_iast hx hb hK hP hD hS 1 rfl (fun j => mA S9 0 j (v10 + (nI 1))) (fun u => WM cs ad u) (fun _ => rfl) hm dX11_heard_91 (fun S11 H locs hm hP hD hS => ?_)
        refine lv_aload_n hx hb dX11_heard_92 rfl (lv_at hl 0 rfl) ?_
        refine gf_X11_7 (v := .ref (ad 0)) hx hb hT hown hK hP 0 rfl rfl dX11_heard_93 ?_
        refine lv_bipush (v := (nI 57)) hx hb dX11_heard_96 (by decide) ?_
        refine x_iald hx hb hK hP 1 rfl hm dX11_heard_98 (fun v12 hm => ?_)
        exact x_iretW (wf := (fun u => WM cs ad u)) hx hb hr hlk hK hP hD hS hm dX11_heard_99
      · refine lv_aload_n hx hb dX11_heard_36 rfl (lv_at hl 0 rfl) ?_
        refine lv_bipush (v := (-4 : Int32)) hx hb dX11_heard_37 (by decide) ?_
        refine xVW_i (As := [.int (-4 : Int32)]) (rest := []) (wr := []) (wg := (fun u => WM cs ad u)) hx hb hml hown hT hN hK hP hD hS hA cw_X11_48 hm (fun z h => tcX11_refuse l D cs ad H.size S (-4 : Int32) z h) ⟨rfl, rfl⟩ ⟨by decide, by decide⟩ [0, 1, 2, 3, 4, 5, 6, 7, 8, 9, 10, 11] [] [0, 1, 2, 3, 4, 5, 6, 7, 8, 9, 10, 11] rfl (by decide) rfl (by decide) (by decide) (fun _ => rfl) (by decide) (b := (ad 22)) 0 rfl rfl rfl hl.1 rfl rfl (Nat.le_of_ble_eq_true rfl) dX11_heard_39 ⟨Nat.zero_le _, Nat.zero_le _⟩ (fun r14 S13 H locs hm hP hD hS => ?_)
        exact x_iretW (wf := (fun u => WM cs ad u)) hx hb hr hlk hK hP hD hS hm dX11_heard_42
    · refine lv_aload_n hx hb dX11_heard_17 rfl (lv_at hl 0 rfl) ?_
      refine lv_bipush (v := (-2 : Int32)) hx hb dX11_heard_18 (by decide) ?_
      refine xVW_i (As := [.int (-2 : Int32)]) (rest := []) (wr := []) (wg := (fun u => WM cs ad u)) hx hb hml hown hT hN hK hP hD hS hA cw_X11_48 hm (fun z h => tcX11_refuse l D cs ad H.size S (-2 : Int32) z h) ⟨rfl, rfl⟩ ⟨by decide, by decide⟩ [0, 1, 2, 3, 4, 5, 6, 7, 8, 9, 10, 11] [] [0, 1, 2, 3, 4, 5, 6, 7, 8, 9, 10, 11] rfl (by decide) rfl (by decide) (by decide) (fun _ => rfl) (by decide) (b := (ad 22)) 0 rfl rfl rfl hl.1 rfl rfl (Nat.le_of_ble_eq_true rfl) dX11_heard_20 ⟨Nat.zero_le _, Nat.zero_le _⟩ (fun r16 S15 H locs hm hP hD hS => ?_)
      exact x_iretW (wf := (fun u => WM cs ad u)) hx hb hr hlk hK hP hD hS hm dX11_heard_23
noncomputable def mX11_forget (S : MS) (a1 : Int32) : Option (Int32 × MS) := (mX11_in a1 (nI 0) (nI 1)).bind fun r1 => (if r1 = 0 then (mX11_refuse S (-2 : Int32)).bind fun ⟨r7, S6⟩ => some (r7, S6) else (if a1 = 0 then ald (S.1 0) 288 (nI 38) fun v4 => ast 288 (nI 38) <| nm (mA S 0 ((nI 38).toNatClampNeg) (nI 0)) fun S5 => some (v4, S5) else ald (S.1 0) 288 (nI 57) fun v2 => ast 288 (nI 57) <| nm (mA S 0 ((nI 57).toNatClampNeg) (nI 0)) fun S3 => some (v2, S3)))
set_option maxHeartbeats 4000000 in
set_option maxRecDepth 100000 in
theorem tcX11_forget (l : Launch) (D : va_G) (cs : CS) (ad : Nat → Nat) (sz : Nat) (S : MS) (a1 : Int32) (z : Int32 × MS) (hm : mX11_forget S a1 = some z) : Met l yX11_forget (Cond.code yX11_forget cX11_forget 4 (some .int) :: gw_tbl) ({ frames := 1, cells := 0, slots := 0, locals := 22 }) (PcW D cs sz (WM cs ad S) [.ref (ad 22), .int a1]) (QWi D cs (va_A (WM cs ad S) sz) (fun u => WM cs ad u) z) 0 0 (va_A (WM cs ad S) sz) := by
  refine met_W rfl (Nat.le_of_ble_eq_true rfl) (fun p e s m below meth c E hP hD hS hA ls hl => ?_)
  generalize va_A (WM cs ad S) sz = A at hD hS hA ⊢
  obtain ⟨hx, hb, hr, hml, hown, hlk, hT, hN, hK⟩ := id E
  obtain ⟨H, hH⟩ : ∃ H, H = s.heap := ⟨_, rfl⟩
  obtain ⟨locs, hlo⟩ : ∃ L : List Loc, L = [] := ⟨_, rfl⟩
  have hP : va_P D classes (WM cs ad S) H := by rw [hH]; exact hP
  have hS : va_S A s.heap H locs := by rw [hH, hlo]; exact hS
  rw [show W p l e _ s m _ below meth c s.heap [] 0 0 = W p l e _ s m _ below meth c H locs 0 0 by rw [hH, hlo]]
  have hl : lv_has ls 4 [(0, .ref (ad 22)), (1, .int a1)] := hl
  unfold mX11_forget at hm
  refine lv_iload_n hx hb dX11_forget_0 rfl (lv_at hl 1 rfl) ?_
  refine lv_iconst (v := (nI 0)) hx hb dX11_forget_1 (by decide) ?_
  refine lv_iconst (v := (nI 1)) hx hb dX11_forget_2 (by decide) ?_
  refine xS_i (As := [.int a1, .int (nI 0), .int (nI 1)]) (rest := []) hx hb hml hown hT hN hK (hP.sub (ws' := []) [] rfl) cw_X11_52 hm (fun z h => tcX11_in l D cs a1 (nI 0) (nI 1) z h) ⟨rfl, rfl⟩ ⟨by decide, by decide⟩ hl.1 rfl rfl (Nat.le_of_ble_eq_true rfl) dX11_forget_3 ⟨Nat.zero_le _, Nat.zero_le _⟩ (fun r1 hm => ?_)
  refine x_if_ne (tgt := 16) hx hb dX11_forget_6 (by decide) hm (fun hm => ?_) (fun hm => ?_)
  · refine lv_iload_n hx hb dX11_forget_16 rfl (lv_at hl 1 rfl) ?_
    refine x_if_ne (tgt := 25) hx hb dX11_forget_17 (by decide) hm (fun hm => ?_) (fun hm => ?_)
    · refine lv_bipush (v := (nI 57)) hx hb dX11_forget_25 (by decide) ?_
      refine lv_istore_n (lv' := [(2, .int (nI 57)), (0, .ref (ad 22)), (1, .int a1)]) hx hb dX11_forget_27 rfl hl (by decide) rfl (fun ls hl => ?_)
      refine lv_aload_n hx hb dX11_forget_28 rfl (lv_at hl 1 rfl) ?_
      refine gf_X11_7 (v := .ref (ad 0)) hx hb hT hown hK hP 0 rfl rfl dX11_forget_29 ?_
      refine lv_iload_n hx hb dX11_forget_32 rfl (lv_at hl 0 rfl) ?_
      refine x_iald hx hb hK hP 1 rfl hm dX11_forget_33 (fun v2 hm => ?_)
      refine lv_istore_n (lv' := [(3, .int v2), (2, .int (nI 57)), (0, .ref (ad 22)), (1, .int a1)]) hx hb dX11_forget_34 rfl hl (by decide) rfl (fun ls hl => ?_)
      refine lv_aload_n hx hb dX11_forget_35 rfl (lv_at hl 2 rfl) ?_
      refine gf_X11_7 (v := .ref (ad 0)) hx hb hT hown hK hP 0 rfl rfl dX11_forget_36 ?_
      refine lv_iload_n hx hb dX11_forget_39 rfl (lv_at hl 1 rfl) ?_
      refine lv_iconst (v := (nI 0)) hx hb dX11_forget_40 (by decide) ?_
      refine x_iast hx hb hK hP hD hS 1 rfl (fun j => mA S 0 j (nI 0)) (fun u => WM cs ad u) (fun _ => rfl) hm dX11_forget_41 (fun S3 H locs hm hP hD hS => ?_)
      refine lv_iload_n hx hb dX11_forget_42 rfl (lv_at hl 0 rfl) ?_
      exact x_iretW (wf := (fun u => WM cs ad u)) hx hb hr hlk hK hP hD hS hm dX11_forget_43
    · refine lv_bipush (v := (nI 38)) hx hb dX11_forget_20 (by decide) ?_
      refine lv_goto (tgt := 27) hx hb dX11_forget_22 (by decide) ?_
      refine lv_istore_n (lv' := [(2, .int (nI 38)), (0, .ref (ad 22)), (1, .int a1)]) hx hb dX11_forget_27 rfl hl (by decide) rfl (fun ls hl => ?_)
      refine lv_aload_n hx hb dX11_forget_28 rfl (lv_at hl 1 rfl) ?_
      refine gf_X11_7 (v := .ref (ad 0)) hx hb hT hown hK hP 0 rfl rfl dX11_forget_29 ?_
      refine lv_iload_n hx hb dX11_forget_32 rfl (lv_at hl 0 rfl) ?_
      refine x_iald hx hb hK hP 1 rfl hm dX11_forget_33 (fun v4 hm => ?_)
      refine lv_istore_n (lv' := [(3, .int v4), (2, .int (nI 38)), (0, .ref (ad 22)), (1, .int a1)]) hx hb dX11_forget_34 rfl hl (by decide) rfl (fun ls hl => ?_)
      refine lv_aload_n hx hb dX11_forget_35 rfl (lv_at hl 2 rfl) ?_
      refine gf_X11_7 (v := .ref (ad 0)) hx hb hT hown hK hP 0 rfl rfl dX11_forget_36 ?_
      refine lv_iload_n hx hb dX11_forget_39 rfl (lv_at hl 1 rfl) ?_
      refine lv_iconst (v := (nI 0)) hx hb dX11_forget_40 (by decide) ?_
      refine x_iast hx hb hK hP hD hS 1 rfl (fun j => mA S 0 j (nI 0)) (fun u => WM cs ad u) (fun _ => rfl) hm dX11_forget_41 (fun S5 H locs hm hP hD hS => ?_)
      refine lv_iload_n hx hb dX11_forget_42 rfl (lv_at hl 0 rfl) ?_
      exact x_iretW (wf := (fun u => WM cs ad u)) hx hb hr hlk hK hP hD hS hm dX11_forget_43
  · refine lv_aload_n hx hb dX11_forget_9 rfl (lv_at hl 0 rfl) ?_
    refine lv_bipush (v := (-2 : Int32)) hx hb dX11_forget_10 (by decide) ?_
    refine xVW_i (As := [.int (-2 : Int32)]) (rest := []) (wr := []) (wg := (fun u => WM cs ad u)) hx hb hml hown hT hN hK hP hD hS hA cw_X11_48 hm (fun z h => tcX11_refuse l D cs ad H.size S (-2 : Int32) z h) ⟨rfl, rfl⟩ ⟨by decide, by decide⟩ [0, 1, 2, 3, 4, 5, 6, 7, 8, 9, 10, 11] [] [0, 1, 2, 3, 4, 5, 6, 7, 8, 9, 10, 11] rfl (by decide) rfl (by decide) (by decide) (fun _ => rfl) (by decide) (b := (ad 22)) 0 rfl rfl rfl hl.1 rfl rfl (Nat.le_of_ble_eq_true rfl) dX11_forget_12 ⟨Nat.zero_le _, Nat.zero_le _⟩ (fun r7 S6 H locs hm hP hD hS => ?_)
    exact x_iretW (wf := (fun u => WM cs ad u)) hx hb hr hlk hK hP hD hS hm dX11_forget_15
noncomputable def mX11_is (S : MS) (a1 : Int32) : Option (Int32 × MS) := (mX11_isFiction S a1).bind fun r1 => (if r1 = 0 then (mX11_refuse S (-2 : Int32)).bind fun ⟨r3, S2⟩ => some (r3, S2) else (mX11_kindsOf S a1).bind fun r4 => some (r4, S))
set_option maxHeartbeats 4000000 in
set_option maxRecDepth 100000 in
theorem tcX11_is (l : Launch) (D : va_G) (cs : CS) (ad : Nat → Nat) (sz : Nat) (S : MS) (a1 : Int32) (z : Int32 × MS) (hm : mX11_is S a1 = some z) : Met l yX11_is (Cond.code yX11_is cX11_is 2 (some .int) :: gw_tbl) ({ frames := 2, cells := 0, slots := 0, locals := 48 }) (PcW D cs sz (WM cs ad S) [.ref (ad 22), .int a1]) (QWi D cs (va_A (WM cs ad S) sz) (fun u => WM cs ad u) z) 0 0 (va_A (WM cs ad S) sz) := by
  refine met_W rfl (Nat.le_of_ble_eq_true rfl) (fun p e s m below meth c E hP hD hS hA ls hl => ?_)
  generalize va_A (WM cs ad S) sz = A at hD hS hA ⊢
  obtain ⟨hx, hb, hr, hml, hown, hlk, hT, hN, hK⟩ := id E
  obtain ⟨H, hH⟩ : ∃ H, H = s.heap := ⟨_, rfl⟩
  obtain ⟨locs, hlo⟩ : ∃ L : List Loc, L = [] := ⟨_, rfl⟩
  have hP : va_P D classes (WM cs ad S) H := by rw [hH]; exact hP
  have hS : va_S A s.heap H locs := by rw [hH, hlo]; exact hS
  rw [show W p l e _ s m _ below meth c s.heap [] 0 0 = W p l e _ s m _ below meth c H locs 0 0 by rw [hH, hlo]]
  have hl : lv_has ls 2 [(0, .ref (ad 22)), (1, .int a1)] := hl
  unfold mX11_is at hm
  refine lv_aload_n hx hb dX11_is_0 rfl (lv_at hl 0 rfl) ?_
  refine lv_iload_n hx hb dX11_is_1 rfl (lv_at hl 1 rfl) ?_
  refine xV_i (As := [.int a1]) (rest := []) hx hb hml hown hT hN hK hP cw_X11_141 hm (fun z h => tcX11_isFiction l D cs ad S a1 z h) ⟨rfl, rfl⟩ ⟨by decide, by decide⟩ (b := (ad 22)) 0 rfl rfl rfl hl.1 rfl rfl (Nat.le_of_ble_eq_true rfl) dX11_is_2 ⟨Nat.zero_le _, Nat.zero_le _⟩ (fun r1 hm => ?_)
  refine x_if_eq (tgt := 16) hx hb dX11_is_5 (by decide) hm (fun hm => ?_) (fun hm => ?_)
  · refine lv_aload_n hx hb dX11_is_16 rfl (lv_at hl 0 rfl) ?_
    refine lv_bipush (v := (-2 : Int32)) hx hb dX11_is_17 (by decide) ?_
    refine xVW_i (As := [.int (-2 : Int32)]) (rest := []) (wr := []) (wg := (fun u => WM cs ad u)) hx hb hml hown hT hN hK hP hD hS hA cw_X11_48 hm (fun z h => tcX11_refuse l D cs ad H.size S (-2 : Int32) z h) ⟨rfl, rfl⟩ ⟨by decide, by decide⟩ [0, 1, 2, 3, 4, 5, 6, 7, 8, 9, 10, 11] [] [0, 1, 2, 3, 4, 5, 6, 7, 8, 9, 10, 11] rfl (by decide) rfl (by decide) (by decide) (fun _ => rfl) (by decide) (b := (ad 22)) 0 rfl rfl rfl hl.1 rfl rfl (Nat.le_of_ble_eq_true rfl) dX11_is_19 ⟨Nat.zero_le _, Nat.zero_le _⟩ (fun r3 S2 H locs hm hP hD hS => ?_)
    exact x_iretW (wf := (fun u => WM cs ad u)) hx hb hr hlk hK hP hD hS hm dX11_is_22
  · refine lv_aload_n hx hb dX11_is_8 rfl (lv_at hl 0 rfl) ?_
    refine lv_iload_n hx hb dX11_is_9 rfl (lv_at hl 1 rfl) ?_
    refine xV_i (As := [.int a1]) (rest := []) hx hb hml hown hT hN hK hP cw_X11_203 hm (fun z h => tcX11_kindsOf l D cs ad S a1 z h) ⟨rfl, rfl⟩ ⟨by decide, by decide⟩ (b := (ad 22)) 0 rfl rfl rfl hl.1 rfl rfl (Nat.le_of_ble_eq_true rfl) dX11_is_10 ⟨Nat.zero_le _, Nat.zero_le _⟩ (fun r4 hm => ?_)
    refine lv_goto (tgt := 22) hx hb dX11_is_13 (by decide) ?_
    exact x_iretW (wf := (fun u => WM cs ad u)) hx hb hr hlk hK hP hD hS hm dX11_is_22
noncomputable def mX11_look_L30  : Nat → Int32 → Int32 → Int32 → Int32 → Int32 → MS → Option (Int32 × MS) := fun n => Nat.rec (motive := fun _ => Int32 → Int32 → Int32 → Int32 → Int32 → MS → Option (Int32 × MS)) (fun _ _ _ _ _ _ => none) (fun _ rc => fun y1 y2 y3 y4 y5 S => (if (nI 10) ≤ y5 then some (y3, S) else (if y2 = 0 then some (y3, S) else (mX11_mostAlike S y1 y2 y5).bind fun r3 => (if y4 ≤ r3 then (if y4 ≤ r3 then nm (y5 + (nI 1)) fun x4 => rc y1 y2 y3 y4 x4 S else nm (y5 + (nI 1)) fun x5 => rc y1 y2 y3 r3 x5 S) else (if y4 ≤ r3 then nm (y5 + (nI 1)) fun x6 => rc y1 y2 y5 y4 x6 S else nm (y5 + (nI 1)) fun x7 => rc y1 y2 y5 r3 x7 S))))) n
theorem mX11_look_L30_s  (n : Nat) (y1 : Int32) (y2 : Int32) (y3 : Int32) (y4 : Int32) (y5 : Int32) (S : MS) : mX11_look_L30  (n + 1) y1 y2 y3 y4 y5 S = (if (nI 10) ≤ y5 then some (y3, S) else (if y2 = 0 then some (y3, S) else (mX11_mostAlike S y1 y2 y5).bind fun r3 => (if y4 ≤ r3 then (if y4 ≤ r3 then nm (y5 + (nI 1)) fun x4 => (mX11_look_L30  n) y1 y2 y3 y4 x4 S else nm (y5 + (nI 1)) fun x5 => (mX11_look_L30  n) y1 y2 y3 r3 x5 S) else (if y4 ≤ r3 then nm (y5 + (nI 1)) fun x6 => (mX11_look_L30  n) y1 y2 y5 y4 x6 S else nm (y5 + (nI 1)) fun x7 => (mX11_look_L30  n) y1 y2 y5 r3 x7 S)))) := rfl
noncomputable def mX11_look (S : MS) (a1 : Int32) : Option (Int32 × MS) := (mX11_isFiction S a1).bind fun r1 => (if r1 = 0 then (mX11_refuse S (-2 : Int32)).bind fun ⟨r9, S8⟩ => some (r9, S8) else (mX11_kindsOf S a1).bind fun r2 => mX11_look_L30 FU a1 r2 (-1 : Int32) (nI 99) (nI 0) S)
set_option maxHeartbeats 4000000 in
set_option maxRecDepth 100000 in
theorem kX11_look_L30 {p : Program} {l : Launch} {e : Env} {s : State} {m : MethodId} {below : List Frame} {meth : Method} {c : Code} {D : va_G} {cs : CS} {A : Nat → Prop}  {ad : Nat → Nat} {a1 : Int32} (E : EV p s m [.ref (ad 22), .int a1].toArray meth c cX11_look 7 RX11 (some .int) D cs) (hA : ∀ q : Nat, s.heap.size ≤ q → A q) (z : Int32 × MS) : ∀ (n : Nat) (y1 : Int32) (y2 : Int32) (y3 : Int32) (y4 : Int32) (y5 : Int32) (S : MS), mX11_look_L30  n y1 y2 y3 y4 y5 S = some z → ∀ (H : Heap) (locs : List Loc), va_P D classes (WM cs ad S) H → va_D A (WM cs ad S) → va_S A s.heap H locs → ∀ ls : Array Slot, lv_has ls 7 [(0, .ref (ad 22)), (1, .int y1), (2, .int y2), (3, .int y3), (4, .int y4), (5, .int y5)] → W p l e ({ frames := 2, cells := 0, slots := 0, locals := 49 }) s m [.ref (ad 22), .int a1].toArray below meth c H locs 0 0 (MQ below (QWi D cs A (fun u => WM cs ad u) z) [.ref (ad 22), .int a1].toArray s 0 0 A) (F0 m 30 ls []) := by
  obtain ⟨hx, hb, hr, hml, hown, hlk, hT, hN, hK⟩ := id E
  intro n
  induction n with
  | zero =>
    intro y1 y2 y3 y4 y5 S hm
    exact nomatch (show (none : Option (Int32 × MS)) = some z from hm)
  | succ n ih =>
    intro y1 y2 y3 y4 y5 S hm H locs hP hD hS ls hl
    rw [mX11_look_L30_s] at hm
    refine lv_iload hx hb dX11_look_30 (lv_at hl 5 rfl) ?_
    refine lv_bipush (v := (nI 10)) hx hb dX11_look_32 (by decide) ?_
    refine x_icmp_ge (tgt := 87) hx hb dX11_look_34 (by decide) hm (fun hm => ?_) (fun hm => ?_)
    · refine lv_iload_n hx hb dX11_look_87 rfl (lv_at hl 3 rfl) ?_
      exact x_iretW (wf := (fun u => WM cs ad u)) hx hb hr hlk hK hP hD hS hm dX11_look_88
    · refine lv_iload_n hx hb dX11_look_37 rfl (lv_at hl 2 rfl) ?_
      refine x_if_eq (tgt := 87) hx hb dX11_look_38 (by decide) hm (fun hm => ?_) (fun hm => ?_)
      · refine lv_iload_n hx hb dX11_look_87 rfl (lv_at hl 3 rfl) ?_
        exact x_iretW (wf := (fun u => WM cs ad u)) hx hb hr hlk hK hP hD hS hm dX11_look_88
      · refine lv_aload_n hx hb dX11_look_41 rfl (lv_at hl 0 rfl) ?_
        refine lv_iload_n hx hb dX11_look_42 rfl (lv_at hl 1 rfl) ?_
        refine lv_iload_n hx hb dX11_look_43 rfl (lv_at hl 2 rfl) ?_
        refine lv_iload hx hb dX11_look_44 (lv_at hl 5 rfl) ?_
        refine xV_i (As := [.int y1, .int y2, .int y5]) (rest := []) hx hb hml hown hT hN hK hP cw_X11_206 hm (fun z h => tcX11_mostAlike l D cs ad S y1 y2 y5 z h) ⟨rfl, rfl⟩ ⟨by decide, by decide⟩ (b := (ad 22)) 0 rfl rfl rfl hl.1 rfl rfl (Nat.le_of_ble_eq_true rfl) dX11_look_46 ⟨Nat.zero_le _, Nat.zero_le _⟩ (fun r3 hm => ?_)
        refine lv_istore (lv' := [(6, .int r3), (0, .ref (ad 22)), (1, .int y1), (2, .int y2), (3, .int y3), (4, .int y4), (5, .int y5)]) hx hb dX11_look_49 hl (by decide) rfl (fun ls hl => ?_)
        refine lv_iload hx hb dX11_look_51 (lv_at hl 0 rfl) ?_
        refine lv_iload hx hb dX11_look_53 (lv_at hl 5 rfl) ?_
        refine x_icmp_ge (tgt := 63) hx hb dX11_look_55 (by decide) hm (fun hm => ?_) (fun hm => ?_)
        · refine lv_iload_n hx hb dX11_look_63 rfl (lv_at hl 4 rfl) ?_
          refine lv_istore_n (lv' := [(3, .int y3), (6, .int r3), (0, .ref (ad 22)), (1, .int y1), (2, .int y2), (4, .int y4), (5, .int y5)]) hx hb dX11_look_64 rfl hl (by decide) rfl (fun ls hl => ?_)
          refine lv_iload hx hb dX11_look_65 (lv_at hl 1 rfl) ?_
          refine lv_iload hx hb dX11_look_67 (lv_at hl 5 rfl) ?_
          refine x_icmp_ge (tgt := 77) hx hb dX11_look_69 (by decide) hm (fun hm => ?_) (fun hm => ?_)
          · refine lv_iload hx hb dX11_look_77 (lv_at hl 5 rfl) ?_
            refine lv_istore (lv' := [(4, .int y4), (3, .int y3), (6, .int r3), (0, .ref (ad 22)), (1, .int y1), (2, .int y2), (5, .int y5)]) hx hb dX11_look_79 hl (by decide) rfl (fun ls hl => ?_)
            refine x_iinc (lv' := fun x4 => [(5, .int x4), (4, .int y4), (3, .int y3), (6, .int r3), (0, .ref (ad 22)), (1, .int y1), (2, .int y2)]) hx hb dX11_look_81 hl (k := 6) rfl (by decide) (v0 := (nI 1)) (by decide) (fun _ => rfl) hm (fun x4 ls hm hl => ?_)
            refine lv_goto (tgt := 30) hx hb dX11_look_84 (by decide) ?_
            exact ih y1 y2 y3 y4 x4 S hm H locs hP hD hS ls (lv_sub hl [4, 5, 6, 2, 1, 0] rfl)
          · refine lv_iload hx hb dX11_look_72 (lv_at hl 1 rfl) ?_
            refine lv_goto (tgt := 79) hx hb dX11_look_74 (by decide) ?_
            refine lv_istore (lv' := [(4, .int r3), (3, .int y3), (6, .int r3), (0, .ref (ad 22)), (1, .int y1), (2, .int y2), (5, .int y5)]) hx hb dX11_look_79 hl (by decide) rfl (fun ls hl => ?_)
            refine x_iinc (lv' := fun x5 => [(5, .int x5), (4, .int r3), (3, .int y3), (6, .int r3), (0, .ref (ad 22)), (1, .int y1), (2, .int y2)]) hx hb dX11_look_81 hl (k := 6) rfl (by decide) (v0 := (nI 1)) (by decide) (fun _ => rfl) hm (fun x5 ls hm hl => ?_)
            refine lv_goto (tgt := 30) hx hb dX11_look_84 (by decide) ?_
            exact ih y1 y2 y3 r3 x5 S hm H locs hP hD hS ls (lv_sub hl [4, 5, 6, 2, 1, 0] rfl)
        · refine lv_iload hx hb dX11_look_58 (lv_at hl 6 rfl) ?_
          refine lv_goto (tgt := 64) hx hb dX11_look_60 (by decide) ?_
          refine lv_istore_n (lv' := [(3, .int y5), (6, .int r3), (0, .ref (ad 22)), (1, .int y1), (2, .int y2), (4, .int y4), (5, .int y5)]) hx hb dX11_look_64 rfl hl (by decide) rfl (fun ls hl => ?_)
          refine lv_iload hx hb dX11_look_65 (lv_at hl 1 rfl) ?_
          refine lv_iload hx hb dX11_look_67 (lv_at hl 5 rfl) ?_
          refine x_icmp_ge (tgt := 77) hx hb dX11_look_69 (by decide) hm (fun hm => ?_) (fun hm => ?_)
          · refine lv_iload hx hb dX11_look_77 (lv_at hl 5 rfl) ?_
            refine lv_istore (lv' := [(4, .int y4), (3, .int y5), (6, .int r3), (0, .ref (ad 22)), (1, .int y1), (2, .int y2), (5, .int y5)]) hx hb dX11_look_79 hl (by decide) rfl (fun ls hl => ?_)
            refine x_iinc (lv' := fun x6 => [(5, .int x6), (4, .int y4), (3, .int y5), (6, .int r3), (0, .ref (ad 22)), (1, .int y1), (2, .int y2)]) hx hb dX11_look_81 hl (k := 6) rfl (by decide) (v0 := (nI 1)) (by decide) (fun _ => rfl) hm (fun x6 ls hm hl => ?_)
            refine lv_goto (tgt := 30) hx hb dX11_look_84 (by decide) ?_
            exact ih y1 y2 y5 y4 x6 S hm H locs hP hD hS ls (lv_sub hl [4, 5, 6, 2, 1, 0] rfl)
          · refine lv_iload hx hb dX11_look_72 (lv_at hl 1 rfl) ?_
            refine lv_goto (tgt := 79) hx hb dX11_look_74 (by decide) ?_
            refine lv_istore (lv' := [(4, .int r3), (3, .int y5), (6, .int r3), (0, .ref (ad 22)), (1, .int y1), (2, .int y2), (5, .int y5)]) hx hb dX11_look_79 hl (by decide) rfl (fun ls hl => ?_)
            refine x_iinc (lv' := fun x7 => [(5, .int x7), (4, .int r3), (3, .int y5), (6, .int r3), (0, .ref (ad 22)), (1, .int y1), (2, .int y2)]) hx hb dX11_look_81 hl (k := 6) rfl (by decide) (v0 := (nI 1)) (by decide) (fun _ => rfl) hm (fun x7 ls hm hl => ?_)
            refine lv_goto (tgt := 30) hx hb dX11_look_84 (by decide) ?_
            exact ih y1 y2 y5 r3 x7 S hm H locs hP hD hS ls (lv_sub hl [4, 5, 6, 2, 1, 0] rfl)
set_option maxHeartbeats 4000000 in
set_option maxRecDepth 100000 in
theorem tcX11_look (l : Launch) (D : va_G) (cs : CS) (ad : Nat → Nat) (sz : Nat) (S : MS) (a1 : Int32) (z : Int32 × MS) (hm : mX11_look S a1 = some z) : Met l yX11_look (Cond.code yX11_look cX11_look 7 (some .int) :: gw_tbl) ({ frames := 2, cells := 0, slots := 0, locals := 49 }) (PcW D cs sz (WM cs ad S) [.ref (ad 22), .int a1]) (QWi D cs (va_A (WM cs ad S) sz) (fun u => WM cs ad u) z) 0 0 (va_A (WM cs ad S) sz) := by
  refine met_W rfl (Nat.le_of_ble_eq_true rfl) (fun p e s m below meth c E hP hD hS hA ls hl => ?_)
  generalize va_A (WM cs ad S) sz = A at hD hS hA ⊢
  obtain ⟨hx, hb, hr, hml, hown, hlk, hT, hN, hK⟩ := id E
  obtain ⟨H, hH⟩ : ∃ H, H = s.heap := ⟨_, rfl⟩
  obtain ⟨locs, hlo⟩ : ∃ L : List Loc, L = [] := ⟨_, rfl⟩
  have hP : va_P D classes (WM cs ad S) H := by rw [hH]; exact hP
  have hS : va_S A s.heap H locs := by rw [hH, hlo]; exact hS
  rw [show W p l e _ s m _ below meth c s.heap [] 0 0 = W p l e _ s m _ below meth c H locs 0 0 by rw [hH, hlo]]
  have hl : lv_has ls 7 [(0, .ref (ad 22)), (1, .int a1)] := hl
  unfold mX11_look at hm
  refine lv_aload_n hx hb dX11_look_0 rfl (lv_at hl 0 rfl) ?_
  refine lv_iload_n hx hb dX11_look_1 rfl (lv_at hl 1 rfl) ?_
  refine xV_i (As := [.int a1]) (rest := []) hx hb hml hown hT hN hK hP cw_X11_141 hm (fun z h => tcX11_isFiction l D cs ad S a1 z h) ⟨rfl, rfl⟩ ⟨by decide, by decide⟩ (b := (ad 22)) 0 rfl rfl rfl hl.1 rfl rfl (Nat.le_of_ble_eq_true rfl) dX11_look_2 ⟨Nat.zero_le _, Nat.zero_le _⟩ (fun r1 hm => ?_)
  refine x_if_ne (tgt := 15) hx hb dX11_look_5 (by decide) hm (fun hm => ?_) (fun hm => ?_)
  · refine lv_aload_n hx hb dX11_look_15 rfl (lv_at hl 0 rfl) ?_
    refine lv_iload_n hx hb dX11_look_16 rfl (lv_at hl 1 rfl) ?_
    refine xV_i (As := [.int a1]) (rest := []) hx hb hml hown hT hN hK hP cw_X11_203 hm (fun z h => tcX11_kindsOf l D cs ad S a1 z h) ⟨rfl, rfl⟩ ⟨by decide, by decide⟩ (b := (ad 22)) 0 rfl rfl rfl hl.1 rfl rfl (Nat.le_of_ble_eq_true rfl) dX11_look_17 ⟨Nat.zero_le _, Nat.zero_le _⟩ (fun r2 hm => ?_)
    refine lv_istore_n (lv' := [(2, .int r2), (0, .ref (ad 22)), (1, .int a1)]) hx hb dX11_look_20 rfl hl (by decide) rfl (fun ls hl => ?_)
    refine lv_iconst (v := (-1 : Int32)) hx hb dX11_look_21 (by decide) ?_
    refine lv_istore_n (lv' := [(3, .int (-1 : Int32)), (2, .int r2), (0, .ref (ad 22)), (1, .int a1)]) hx hb dX11_look_22 rfl hl (by decide) rfl (fun ls hl => ?_)
    refine lv_bipush (v := (nI 99)) hx hb dX11_look_23 (by decide) ?_
    refine lv_istore (lv' := [(4, .int (nI 99)), (3, .int (-1 : Int32)), (2, .int r2), (0, .ref (ad 22)), (1, .int a1)]) hx hb dX11_look_25 hl (by decide) rfl (fun ls hl => ?_)
    refine lv_iconst (v := (nI 0)) hx hb dX11_look_27 (by decide) ?_
    refine lv_istore (lv' := [(5, .int (nI 0)), (4, .int (nI 99)), (3, .int (-1 : Int32)), (2, .int r2), (0, .ref (ad 22)), (1, .int a1)]) hx hb dX11_look_28 hl (by decide) rfl (fun ls hl => ?_)
    exact kX11_look_L30 E hA _ FU a1 r2 (-1 : Int32) (nI 99) (nI 0) S hm H locs hP hD hS ls (lv_sub hl [4, 5, 3, 2, 1, 0] rfl)
  · refine lv_aload_n hx hb dX11_look_8 rfl (lv_at hl 0 rfl) ?_
    refine lv_bipush (v := (-2 : Int32)) hx hb dX11_look_9 (by decide) ?_
    refine xVW_i (As := [.int (-2 : Int32)]) (rest := []) (wr := []) (wg := (fun u => WM cs ad u)) hx hb hml hown hT hN hK hP hD hS hA cw_X11_48 hm (fun z h => tcX11_refuse l D cs ad H.size S (-2 : Int32) z h) ⟨rfl, rfl⟩ ⟨by decide, by decide⟩ [0, 1, 2, 3, 4, 5, 6, 7, 8, 9, 10, 11] [] [0, 1, 2, 3, 4, 5, 6, 7, 8, 9, 10, 11] rfl (by decide) rfl (by decide) (by decide) (fun _ => rfl) (by decide) (b := (ad 22)) 0 rfl rfl rfl hl.1 rfl rfl (Nat.le_of_ble_eq_true rfl) dX11_look_11 ⟨Nat.zero_le _, Nat.zero_le _⟩ (fun r9 S8 H locs hm hP hD hS => ?_)
    exact x_iretW (wf := (fun u => WM cs ad u)) hx hb hr hlk hK hP hD hS hm dX11_look_14
noncomputable def mX11_truth_L28  : Nat → Int32 → Int32 → Int32 → Int32 → Int32 → MS → Option (Int32 × MS) := fun n => Nat.rec (motive := fun _ => Int32 → Int32 → Int32 → Int32 → Int32 → MS → Option (Int32 × MS)) (fun _ _ _ _ _ _ => none) (fun _ rc => fun y1 y2 y3 y4 y5 S => (if (nI 256) ≤ y5 then (if y1 = 0 then some (y2, S) else (if y1 = (nI 2) then some (y4, S) else (if y2 = 0 then some ((-1 : Int32), S) else some (y3, S)))) else (mX11_mayBeTrue S y5).bind fun r2 => (if r2 = 0 then nm (y5 + (nI 1)) fun x3 => rc y1 y2 y3 y4 x3 S else nm (y2 + (nI 1)) fun x4 => nm (y3 &&& y5) fun x5 => nm (y4 ||| y5) fun x6 => nm (y5 + (nI 1)) fun x7 => rc y1 x4 x5 x6 x7 S))) n
theorem mX11_truth_L28_s  (n : Nat) (y1 : Int32) (y2 : Int32) (y3 : Int32) (y4 : Int32) (y5 : Int32) (S : MS) : mX11_truth_L28  (n + 1) y1 y2 y3 y4 y5 S = (if (nI 256) ≤ y5 then (if y1 = 0 then some (y2, S) else (if y1 = (nI 2) then some (y4, S) else (if y2 = 0 then some ((-1 : Int32), S) else some (y3, S)))) else (mX11_mayBeTrue S y5).bind fun r2 => (if r2 = 0 then nm (y5 + (nI 1)) fun x3 => (mX11_truth_L28  n) y1 y2 y3 y4 x3 S else nm (y2 + (nI 1)) fun x4 => nm (y3 &&& y5) fun x5 => nm (y4 ||| y5) fun x6 => nm (y5 + (nI 1)) fun x7 => (mX11_truth_L28  n) y1 x4 x5 x6 x7 S)) := rfl
noncomputable def mX11_truth (S : MS) (a1 : Int32) : Option (Int32 × MS) := (mX11_in a1 (nI 0) (nI 2)).bind fun r1 => (if r1 = 0 then (mX11_refuse S (-2 : Int32)).bind fun ⟨r9, S8⟩ => some (r9, S8) else mX11_truth_L28 FU a1 (nI 0) (nI 255) (nI 0) (nI 0) S)
set_option maxHeartbeats 4000000 in
set_option maxRecDepth 100000 in
theorem kX11_truth_L28 {p : Program} {l : Launch} {e : Env} {s : State} {m : MethodId} {below : List Frame} {meth : Method} {c : Code} {D : va_G} {cs : CS} {A : Nat → Prop}  {ad : Nat → Nat} {a1 : Int32} (E : EV p s m [.ref (ad 22), .int a1].toArray meth c cX11_truth 6 RX11 (some .int) D cs) (hA : ∀ q : Nat, s.heap.size ≤ q → A q) (z : Int32 × MS) : ∀ (n : Nat) (y1 : Int32) (y2 : Int32) (y3 : Int32) (y4 : Int32) (y5 : Int32) (S : MS), mX11_truth_L28  n y1 y2 y3 y4 y5 S = some z → ∀ (H : Heap) (locs : List Loc), va_P D classes (WM cs ad S) H → va_D A (WM cs ad S) → va_S A s.heap H locs → ∀ ls : Array Slot, lv_has ls 6 [(0, .ref (ad 22)), (1, .int y1), (2, .int y2), (3, .int y3), (4, .int y4), (5, .int y5)] → W p l e ({ frames := 2, cells := 0, slots := 0, locals := 45 }) s m [.ref (ad 22), .int a1].toArray below meth c H locs 0 0 (MQ below (QWi D cs A (fun u => WM cs ad u) z) [.ref (ad 22), .int a1].toArray s 0 0 A) (F0 m 28 ls []) := by
  obtain ⟨hx, hb, hr, hml, hown, hlk, hT, hN, hK⟩ := id E
  intro n
  induction n with
  | zero =>
    intro y1 y2 y3 y4 y5 S hm
    exact nomatch (show (none : Option (Int32 × MS)) = some z from hm)
  | succ n ih =>
    intro y1 y2 y3 y4 y5 S hm H locs hP hD hS ls hl
    rw [mX11_truth_L28_s] at hm
    refine lv_iload hx hb dX11_truth_28 (lv_at hl 5 rfl) ?_
    refine lv_sipush (v := (nI 256)) hx hb dX11_truth_30 (by decide) ?_
    refine x_icmp_ge (tgt := 66) hx hb dX11_truth_33 (by decide) hm (fun hm => ?_) (fun hm => ?_)
    · refine lv_iload_n hx hb dX11_truth_66 rfl (lv_at hl 1 rfl) ?_
      refine x_if_ne (tgt := 74) hx hb dX11_truth_67 (by decide) hm (fun hm => ?_) (fun hm => ?_)
      · refine lv_iload_n hx hb dX11_truth_74 rfl (lv_at hl 1 rfl) ?_
        refine lv_iconst (v := (nI 2)) hx hb dX11_truth_75 (by decide) ?_
        refine x_icmp_ne (tgt := 84) hx hb dX11_truth_76 (by decide) hm (fun hm => ?_) (fun hm => ?_)
        · refine lv_iload_n hx hb dX11_truth_84 rfl (lv_at hl 2 rfl) ?_
          refine x_if_ne (tgt := 92) hx hb dX11_truth_85 (by decide) hm (fun hm => ?_) (fun hm => ?_)
          · refine lv_iload_n hx hb dX11_truth_92 rfl (lv_at hl 3 rfl) ?_
            exact x_iretW (wf := (fun u => WM cs ad u)) hx hb hr hlk hK hP hD hS hm dX11_truth_93
          · refine lv_iconst (v := (-1 : Int32)) hx hb dX11_truth_88 (by decide) ?_
            refine lv_goto (tgt := 93) hx hb dX11_truth_89 (by decide) ?_
            exact x_iretW (wf := (fun u => WM cs ad u)) hx hb hr hlk hK hP hD hS hm dX11_truth_93
        · refine lv_iload hx hb dX11_truth_79 (lv_at hl 4 rfl) ?_
          refine lv_goto (tgt := 93) hx hb dX11_truth_81 (by decide) ?_
          exact x_iretW (wf := (fun u => WM cs ad u)) hx hb hr hlk hK hP hD hS hm dX11_truth_93
      · refine lv_iload_n hx hb dX11_truth_70 rfl (lv_at hl 2 rfl) ?_
        refine lv_goto (tgt := 93) hx hb dX11_truth_71 (by decide) ?_
        exact x_iretW (wf := (fun u => WM cs ad u)) hx hb hr hlk hK hP hD hS hm dX11_truth_93
    · refine lv_aload_n hx hb dX11_truth_36 rfl (lv_at hl 0 rfl) ?_
      refine lv_iload hx hb dX11_truth_37 (lv_at hl 5 rfl) ?_
      refine xV_i (As := [.int y5]) (rest := []) hx hb hml hown hT hN hK hP cw_X11_209 hm (fun z h => tcX11_mayBeTrue l D cs ad S y5 z h) ⟨rfl, rfl⟩ ⟨by decide, by decide⟩ (b := (ad 22)) 0 rfl rfl rfl hl.1 rfl rfl (Nat.le_of_ble_eq_true rfl) dX11_truth_39 ⟨Nat.zero_le _, Nat.zero_le _⟩ (fun r2 hm => ?_)
      refine x_if_eq (tgt := 60) hx hb dX11_truth_42 (by decide) hm (fun hm => ?_) (fun hm => ?_)
      · refine x_iinc (lv' := fun x3 => [(5, .int x3), (0, .ref (ad 22)), (1, .int y1), (2, .int y2), (3, .int y3), (4, .int y4)]) hx hb dX11_truth_60 hl (k := 5) rfl (by decide) (v0 := (nI 1)) (by decide) (fun _ => rfl) hm (fun x3 ls hm hl => ?_)
        refine lv_goto (tgt := 28) hx hb dX11_truth_63 (by decide) ?_
        exact ih y1 y2 y3 y4 x3 S hm H locs hP hD hS ls (lv_sub hl [1, 2, 3, 4, 5, 0] rfl)
      · refine x_iinc (lv' := fun x4 => [(2, .int x4), (0, .ref (ad 22)), (1, .int y1), (3, .int y3), (4, .int y4), (5, .int y5)]) hx hb dX11_truth_45 hl (k := 2) rfl (by decide) (v0 := (nI 1)) (by decide) (fun _ => rfl) hm (fun x4 ls hm hl => ?_)
        refine lv_iload_n hx hb dX11_truth_48 rfl (lv_at hl 3 rfl) ?_
        refine lv_iload hx hb dX11_truth_49 (lv_at hl 5 rfl) ?_
        refine lv_iand hx hb dX11_truth_51 ?_
        refine xi_nm hm (fun x5 hm => ?_)
        refine lv_istore_n (lv' := [(3, .int x5), (2, .int x4), (0, .ref (ad 22)), (1, .int y1), (4, .int y4), (5, .int y5)]) hx hb dX11_truth_52 rfl hl (by decide) rfl (fun ls hl => ?_)
        refine lv_iload hx hb dX11_truth_53 (lv_at hl 4 rfl) ?_
        refine lv_iload hx hb dX11_truth_55 (lv_at hl 5 rfl) ?_
        refine lv_ior hx hb dX11_truth_57 ?_
        refine xi_nm hm (fun x6 hm => ?_)
        refine lv_istore (lv' := [(4, .int x6), (3, .int x5), (2, .int x4), (0, .ref (ad 22)), (1, .int y1), (5, .int y5)]) hx hb dX11_truth_58 hl (by decide) rfl (fun ls hl => ?_)
        refine x_iinc (lv' := fun x7 => [(5, .int x7), (4, .int x6), (3, .int x5), (2, .int x4), (0, .ref (ad 22)), (1, .int y1)]) hx hb dX11_truth_60 hl (k := 5) rfl (by decide) (v0 := (nI 1)) (by decide) (fun _ => rfl) hm (fun x7 ls hm hl => ?_)
        refine lv_goto (tgt := 28) hx hb dX11_truth_63 (by decide) ?_
        exact ih y1 x4 x5 x6 x7 S hm H locs hP hD hS ls (lv_sub hl [4, 5, 3, 2, 1, 0] rfl)
set_option maxHeartbeats 4000000 in
set_option maxRecDepth 100000 in
theorem tcX11_truth (l : Launch) (D : va_G) (cs : CS) (ad : Nat → Nat) (sz : Nat) (S : MS) (a1 : Int32) (z : Int32 × MS) (hm : mX11_truth S a1 = some z) : Met l yX11_truth (Cond.code yX11_truth cX11_truth 6 (some .int) :: gw_tbl) ({ frames := 2, cells := 0, slots := 0, locals := 45 }) (PcW D cs sz (WM cs ad S) [.ref (ad 22), .int a1]) (QWi D cs (va_A (WM cs ad S) sz) (fun u => WM cs ad u) z) 0 0 (va_A (WM cs ad S) sz) := by
  refine met_W rfl (Nat.le_of_ble_eq_true rfl) (fun p e s m below meth c E hP hD hS hA ls hl => ?_)
  generalize va_A (WM cs ad S) sz = A at hD hS hA ⊢
  obtain ⟨hx, hb, hr, hml, hown, hlk, hT, hN, hK⟩ := id E
  obtain ⟨H, hH⟩ : ∃ H, H = s.heap := ⟨_, rfl⟩
  obtain ⟨locs, hlo⟩ : ∃ L : List Loc, L = [] := ⟨_, rfl⟩
  have hP : va_P D classes (WM cs ad S) H := by rw [hH]; exact hP
  have hS : va_S A s.heap H locs := by rw [hH, hlo]; exact hS
  rw [show W p l e _ s m _ below meth c s.heap [] 0 0 = W p l e _ s m _ below meth c H locs 0 0 by rw [hH, hlo]]
  have hl : lv_has ls 6 [(0, .ref (ad 22)), (1, .int a1)] := hl
  unfold mX11_truth at hm
  refine lv_iload_n hx hb dX11_truth_0 rfl (lv_at hl 1 rfl) ?_
  refine lv_iconst (v := (nI 0)) hx hb dX11_truth_1 (by decide) ?_
  refine lv_iconst (v := (nI 2)) hx hb dX11_truth_2 (by decide) ?_
  refine xS_i (As := [.int a1, .int (nI 0), .int (nI 2)]) (rest := []) hx hb hml hown hT hN hK (hP.sub (ws' := []) [] rfl) cw_X11_52 hm (fun z h => tcX11_in l D cs a1 (nI 0) (nI 2) z h) ⟨rfl, rfl⟩ ⟨by decide, by decide⟩ hl.1 rfl rfl (Nat.le_of_ble_eq_true rfl) dX11_truth_3 ⟨Nat.zero_le _, Nat.zero_le _⟩ (fun r1 hm => ?_)
  refine x_if_ne (tgt := 16) hx hb dX11_truth_6 (by decide) hm (fun hm => ?_) (fun hm => ?_)
  · refine lv_iconst (v := (nI 0)) hx hb dX11_truth_16 (by decide) ?_
    refine lv_istore_n (lv' := [(2, .int (nI 0)), (0, .ref (ad 22)), (1, .int a1)]) hx hb dX11_truth_17 rfl hl (by decide) rfl (fun ls hl => ?_)
    refine lv_sipush (v := (nI 255)) hx hb dX11_truth_18 (by decide) ?_
    refine lv_istore_n (lv' := [(3, .int (nI 255)), (2, .int (nI 0)), (0, .ref (ad 22)), (1, .int a1)]) hx hb dX11_truth_21 rfl hl (by decide) rfl (fun ls hl => ?_)
    refine lv_iconst (v := (nI 0)) hx hb dX11_truth_22 (by decide) ?_
    refine lv_istore (lv' := [(4, .int (nI 0)), (3, .int (nI 255)), (2, .int (nI 0)), (0, .ref (ad 22)), (1, .int a1)]) hx hb dX11_truth_23 hl (by decide) rfl (fun ls hl => ?_)
    refine lv_iconst (v := (nI 0)) hx hb dX11_truth_25 (by decide) ?_
    refine lv_istore (lv' := [(5, .int (nI 0)), (4, .int (nI 0)), (3, .int (nI 255)), (2, .int (nI 0)), (0, .ref (ad 22)), (1, .int a1)]) hx hb dX11_truth_26 hl (by decide) rfl (fun ls hl => ?_)
    exact kX11_truth_L28 E hA _ FU a1 (nI 0) (nI 255) (nI 0) (nI 0) S hm H locs hP hD hS ls (lv_sub hl [4, 5, 3, 2, 1, 0] rfl)
  · refine lv_aload_n hx hb dX11_truth_9 rfl (lv_at hl 0 rfl) ?_
    refine lv_bipush (v := (-2 : Int32)) hx hb dX11_truth_10 (by decide) ?_
    refine xVW_i (As := [.int (-2 : Int32)]) (rest := []) (wr := []) (wg := (fun u => WM cs ad u)) hx hb hml hown hT hN hK hP hD hS hA cw_X11_48 hm (fun z h => tcX11_refuse l D cs ad H.size S (-2 : Int32) z h) ⟨rfl, rfl⟩ ⟨by decide, by decide⟩ [0, 1, 2, 3, 4, 5, 6, 7, 8, 9, 10, 11] [] [0, 1, 2, 3, 4, 5, 6, 7, 8, 9, 10, 11] rfl (by decide) rfl (by decide) (by decide) (fun _ => rfl) (by decide) (b := (ad 22)) 0 rfl rfl rfl hl.1 rfl rfl (Nat.le_of_ble_eq_true rfl) dX11_truth_12 ⟨Nat.zero_le _, Nat.zero_le _⟩ (fun r9 S8 H locs hm hP hD hS => ?_)
    exact x_iretW (wf := (fun u => WM cs ad u)) hx hb hr hlk hK hP hD hS hm dX11_truth_15
noncomputable def mX11_tellPart_L6  : Nat → Int64 → Int64 → Int64 → Int64 → MS → Option MS := fun n => Nat.rec (motive := fun _ => Int64 → Int64 → Int64 → Int64 → MS → Option MS) (fun _ _ _ _ _ => none) (fun _ rc => fun y1 y3 y5 y7 S => (if y7 = (lN 0) then nzl y5 <| nm (mL S 3 (y1 / y5)) fun S1 => nzl y5 <| nm (mL S1 4 (y3 / y5)) fun S2 => some S2 else nzl y7 <| nm (y5 - y5 / y7 * y7) fun x3 => rc y1 y3 y7 x3 S)) n
theorem mX11_tellPart_L6_s  (n : Nat) (y1 : Int64) (y3 : Int64) (y5 : Int64) (y7 : Int64) (S : MS) : mX11_tellPart_L6  (n + 1) y1 y3 y5 y7 S = (if y7 = (lN 0) then nzl y5 <| nm (mL S 3 (y1 / y5)) fun S1 => nzl y5 <| nm (mL S1 4 (y3 / y5)) fun S2 => some S2 else nzl y7 <| nm (y5 - y5 / y7 * y7) fun x3 => (mX11_tellPart_L6  n) y1 y3 y7 x3 S) := rfl
noncomputable def mX11_tellPart (S : MS) (a1 : Int64) (a2 : Int64) : Option MS := mX11_tellPart_L6 FU a1 a2 a1 a2 S
set_option maxHeartbeats 4000000 in
set_option maxRecDepth 100000 in
theorem kX11_tellPart_L6 {p : Program} {l : Launch} {e : Env} {s : State} {m : MethodId} {below : List Frame} {meth : Method} {c : Code} {D : va_G} {cs : CS} {A : Nat → Prop}  {ad : Nat → Nat} {a1 : Int64} {a2 : Int64} (E : EV p s m [.ref (ad 22), .long a1, .long a2].toArray meth c cX11_tellPart 11 RX11 none D cs) (hA : ∀ q : Nat, s.heap.size ≤ q → A q) (z : MS) : ∀ (n : Nat) (y1 : Int64) (y3 : Int64) (y5 : Int64) (y7 : Int64) (S : MS), mX11_tellPart_L6  n y1 y3 y5 y7 S = some z → ∀ (H : Heap) (locs : List Loc), va_P D classes (WM cs ad S) H → va_D A (WM cs ad S) → va_S A s.heap H locs → ∀ ls : Array Slot, lv_has ls 11 [(0, .ref (ad 22)), (1, .long y1), (3, .long y3), (5, .long y5), (7, .long y7)] → W p l e ({ frames := 0, cells := 0, slots := 0, locals := 0 }) s m [.ref (ad 22), .long a1, .long a2].toArray below meth c H locs 0 0 (MQ below (QWv D cs A (fun u => WM cs ad u) z) [.ref (ad 22), .long a1, .long a2].toArray s 0 0 A) (F0 m 6 ls []) := by
  obtain ⟨hx, hb, hr, hml, hown, hlk, hT, hN, hK⟩ := id E
  intro n
  induction n with
  | zero =>
    intro y1 y3 y5 y7 S hm
    exact nomatch (show (none : Option MS) = some z from hm)
  | succ n ih =>
    intro y1 y3 y5 y7 S hm H locs hP hD hS ls hl
    rw [mX11_tellPart_L6_s] at hm
    refine lv_lload hx hb dX11_tellPart_6 (lv_at hl 4 rfl) ?_
    refine lv_lconst (v := (lN 0)) hx hb dX11_tellPart_8 (by decide) ?_
    refine x_lcmp_eq (tgt := 31) hx hb dX11_tellPart_9 dX11_tellPart_10 (by decide) hm (fun hm => ?_) (fun hm => ?_)
    · refine lv_aload_n hx hb dX11_tellPart_31 rfl (lv_at hl 0 rfl) ?_
      refine lv_lload_n hx hb dX11_tellPart_32 rfl (lv_at hl 1 rfl) ?_
      refine lv_lload hx hb dX11_tellPart_33 (lv_at hl 3 rfl) ?_
      refine x_ldiv hx hb hm dX11_tellPart_35 (fun hm => ?_)
      refine pf_X11_212 (wf := (fun u => WM cs ad u)) (u0 := mL S 3 (y1 / y5)) hx hb hT hown hK hP hD hS 0 rfl (Nat.le_of_ble_eq_true rfl) rfl rfl rfl hm dX11_tellPart_36 (fun S1 H locs hm hP hD hS => ?_)
      refine lv_aload_n hx hb dX11_tellPart_39 rfl (lv_at hl 0 rfl) ?_
      refine lv_lload_n hx hb dX11_tellPart_40 rfl (lv_at hl 2 rfl) ?_
      refine lv_lload hx hb dX11_tellPart_41 (lv_at hl 3 rfl) ?_
      refine x_ldiv hx hb hm dX11_tellPart_43 (fun hm => ?_)
      refine pf_X11_20 (wf := (fun u => WM cs ad u)) (u0 := mL S1 4 (y3 / y5)) hx hb hT hown hK hP hD hS 0 rfl (Nat.le_of_ble_eq_true rfl) rfl rfl rfl hm dX11_tellPart_44 (fun S2 H locs hm hP hD hS => ?_)
      exact x_vretW (wf := (fun u => WM cs ad u)) hx hb hr hlk hK hP hD hS hm dX11_tellPart_47
    · refine lv_lload hx hb dX11_tellPart_13 (lv_at hl 3 rfl) ?_
      refine lv_lload hx hb dX11_tellPart_15 (lv_at hl 4 rfl) ?_
      refine x_lrem hx hb hm dX11_tellPart_17 (fun hm => ?_)
      refine xl_nm hm (fun x3 hm => ?_)
      refine lv_lstore (lv' := [(9, .long x3), (0, .ref (ad 22)), (1, .long y1), (3, .long y3), (5, .long y5), (7, .long y7)]) hx hb dX11_tellPart_18 hl (by decide) rfl (fun ls hl => ?_)
      refine lv_lload hx hb dX11_tellPart_20 (lv_at hl 5 rfl) ?_
      refine lv_lstore (lv' := [(5, .long y7), (9, .long x3), (0, .ref (ad 22)), (1, .long y1), (3, .long y3), (7, .long y7)]) hx hb dX11_tellPart_22 hl (by decide) rfl (fun ls hl => ?_)
      refine lv_lload hx hb dX11_tellPart_24 (lv_at hl 1 rfl) ?_
      refine lv_lstore (lv' := [(7, .long x3), (5, .long y7), (9, .long x3), (0, .ref (ad 22)), (1, .long y1), (3, .long y3)]) hx hb dX11_tellPart_26 hl (by decide) rfl (fun ls hl => ?_)
      refine lv_goto (tgt := 6) hx hb dX11_tellPart_28 (by decide) ?_
      exact ih y1 y3 y7 x3 S hm H locs hP hD hS ls (lv_sub hl [3, 4, 5, 1, 0] rfl)
set_option maxHeartbeats 4000000 in
set_option maxRecDepth 100000 in
theorem tcX11_tellPart (l : Launch) (D : va_G) (cs : CS) (ad : Nat → Nat) (sz : Nat) (S : MS) (a1 : Int64) (a2 : Int64) (z : MS) (hm : mX11_tellPart S a1 a2 = some z) : Met l yX11_tellPart (Cond.code yX11_tellPart cX11_tellPart 11 none :: gw_tbl) ({ frames := 0, cells := 0, slots := 0, locals := 0 }) (PcW D cs sz (WM cs ad S) [.ref (ad 22), .long a1, .long a2]) (QWv D cs (va_A (WM cs ad S) sz) (fun u => WM cs ad u) z) 0 0 (va_A (WM cs ad S) sz) := by
  refine met_W rfl (Nat.le_of_ble_eq_true rfl) (fun p e s m below meth c E hP hD hS hA ls hl => ?_)
  generalize va_A (WM cs ad S) sz = A at hD hS hA ⊢
  obtain ⟨hx, hb, hr, hml, hown, hlk, hT, hN, hK⟩ := id E
  obtain ⟨H, hH⟩ : ∃ H, H = s.heap := ⟨_, rfl⟩
  obtain ⟨locs, hlo⟩ : ∃ L : List Loc, L = [] := ⟨_, rfl⟩
  have hP : va_P D classes (WM cs ad S) H := by rw [hH]; exact hP
  have hS : va_S A s.heap H locs := by rw [hH, hlo]; exact hS
  rw [show W p l e _ s m _ below meth c s.heap [] 0 0 = W p l e _ s m _ below meth c H locs 0 0 by rw [hH, hlo]]
  have hl : lv_has ls 11 [(0, .ref (ad 22)), (1, .long a1), (3, .long a2)] := hl
  unfold mX11_tellPart at hm
  refine lv_lload_n hx hb dX11_tellPart_0 rfl (lv_at hl 1 rfl) ?_
  refine lv_lstore (lv' := [(5, .long a1), (0, .ref (ad 22)), (1, .long a1), (3, .long a2)]) hx hb dX11_tellPart_1 hl (by decide) rfl (fun ls hl => ?_)
  refine lv_lload_n hx hb dX11_tellPart_3 rfl (lv_at hl 3 rfl) ?_
  refine lv_lstore (lv' := [(7, .long a2), (5, .long a1), (0, .ref (ad 22)), (1, .long a1), (3, .long a2)]) hx hb dX11_tellPart_4 hl (by decide) rfl (fun ls hl => ?_)
  exact kX11_tellPart_L6 E hA _ FU a1 a2 a1 a2 S hm H locs hP hD hS ls (lv_sub hl [2, 3, 4, 1, 0] rfl)
noncomputable def mX11_odds_L64 (S : MS) : Nat → Int32 → Int32 → Int64 → Int64 → Int32 → Int64 → Int32 → Option Int64 := fun n => Nat.rec (motive := fun _ => Int32 → Int32 → Int64 → Int64 → Int32 → Int64 → Int32 → Option Int64) (fun _ _ _ _ _ _ _ => none) (fun _ rc => fun y1 y2 y3 y5 y7 y8 y10 => ald (S.1 0) 288 (nI 4) fun v7 => (if v7 ≤ y10 then some y8 else ald (S.1 0) 288 (nI 0) fun v8 => (mX11_has v8 y10).bind fun r9 => (if r9 = 0 then (mX11_has y7 y10).bind fun r10 => (if r10 = 0 then nm (y8 * (lN 1)) fun x11 => nm (y10 + (nI 1)) fun x12 => rc y1 y2 y3 y5 y7 x11 x12 else nm (y8 * (lN 0)) fun x13 => nm (y10 + (nI 1)) fun x14 => rc y1 y2 y3 y5 y7 x13 x14) else (mX11_wins S y10).bind fun r15 => (if r15 = 0 then (mX11_has y7 y10).bind fun r16 => (if r16 = 0 then nm (y8 * (lN 1)) fun x17 => nm (y10 + (nI 1)) fun x18 => rc y1 y2 y3 y5 y7 x17 x18 else nm (y8 * (lN 0)) fun x19 => nm (y10 + (nI 1)) fun x20 => rc y1 y2 y3 y5 y7 x19 x20) else (mX11_has y7 y10).bind fun r21 => (if r21 = 0 then nm (y8 * ((nI 10) - y2).toInt64) fun x22 => nm (y10 + (nI 1)) fun x23 => rc y1 y2 y3 y5 y7 x22 x23 else nm (y8 * y2.toInt64) fun x24 => nm (y10 + (nI 1)) fun x25 => rc y1 y2 y3 y5 y7 x24 x25))))) n
theorem mX11_odds_L64_s (S : MS) (n : Nat) (y1 : Int32) (y2 : Int32) (y3 : Int64) (y5 : Int64) (y7 : Int32) (y8 : Int64) (y10 : Int32) : mX11_odds_L64 S (n + 1) y1 y2 y3 y5 y7 y8 y10 = ald (S.1 0) 288 (nI 4) fun v7 => (if v7 ≤ y10 then some y8 else ald (S.1 0) 288 (nI 0) fun v8 => (mX11_has v8 y10).bind fun r9 => (if r9 = 0 then (mX11_has y7 y10).bind fun r10 => (if r10 = 0 then nm (y8 * (lN 1)) fun x11 => nm (y10 + (nI 1)) fun x12 => (mX11_odds_L64 S n) y1 y2 y3 y5 y7 x11 x12 else nm (y8 * (lN 0)) fun x13 => nm (y10 + (nI 1)) fun x14 => (mX11_odds_L64 S n) y1 y2 y3 y5 y7 x13 x14) else (mX11_wins S y10).bind fun r15 => (if r15 = 0 then (mX11_has y7 y10).bind fun r16 => (if r16 = 0 then nm (y8 * (lN 1)) fun x17 => nm (y10 + (nI 1)) fun x18 => (mX11_odds_L64 S n) y1 y2 y3 y5 y7 x17 x18 else nm (y8 * (lN 0)) fun x19 => nm (y10 + (nI 1)) fun x20 => (mX11_odds_L64 S n) y1 y2 y3 y5 y7 x19 x20) else (mX11_has y7 y10).bind fun r21 => (if r21 = 0 then nm (y8 * ((nI 10) - y2).toInt64) fun x22 => nm (y10 + (nI 1)) fun x23 => (mX11_odds_L64 S n) y1 y2 y3 y5 y7 x22 x23 else nm (y8 * y2.toInt64) fun x24 => nm (y10 + (nI 1)) fun x25 => (mX11_odds_L64 S n) y1 y2 y3 y5 y7 x24 x25)))) := rfl
noncomputable def mX11_odds_L33  : Nat → Int32 → Int32 → Int64 → Int64 → Int32 → MS → Option (Int32 × MS) := fun n => Nat.rec (motive := fun _ => Int32 → Int32 → Int64 → Int64 → Int32 → MS → Option (Int32 × MS)) (fun _ _ _ _ _ _ => none) (fun _ rc => fun y1 y2 y3 y5 y7 S => (if (nI 64) ≤ y7 then (mX11_tellPart S y3 y5).bind fun S5 => some ((nI 1), S5) else ald (S.1 0) 288 (nI 0) fun v6 => (if (y7 &&& (v6 ^^^ (-1 : Int32))) = 0 then (mX11_odds_L64 S FU y1 y2 y3 y5 y7 (lN 1) (nI 0)).bind fun x36 => ald (S.1 0) 288 (nI 0) fun v37 => (mX11_supposedBy S (v37 &&& (y7 ^^^ (-1 : Int32)))).bind fun r38 => (mX11_hears S y1 r38).bind fun r39 => (if r39 = 0 then nm (y3 + (lN 0)) fun x40 => nm (y5 + x36) fun x41 => nm (y7 + (nI 1)) fun x42 => rc y1 y2 x40 x41 x42 S else nm (y3 + x36) fun x43 => nm (y5 + x36) fun x44 => nm (y7 + (nI 1)) fun x45 => rc y1 y2 x43 x44 x45 S) else (mX11_odds_L64 S FU y1 y2 y3 y5 y7 (lN 0) (nI 0)).bind fun x26 => ald (S.1 0) 288 (nI 0) fun v27 => (mX11_supposedBy S (v27 &&& (y7 ^^^ (-1 : Int32)))).bind fun r28 => (mX11_hears S y1 r28).bind fun r29 => (if r29 = 0 then nm (y3 + (lN 0)) fun x30 => nm (y5 + x26) fun x31 => nm (y7 + (nI 1)) fun x32 => rc y1 y2 x30 x31 x32 S else nm (y3 + x26) fun x33 => nm (y5 + x26) fun x34 => nm (y7 + (nI 1)) fun x35 => rc y1 y2 x33 x34 x35 S)))) n
theorem mX11_odds_L33_s  (n : Nat) (y1 : Int32) (y2 : Int32) (y3 : Int64) (y5 : Int64) (y7 : Int32) (S : MS) : mX11_odds_L33  (n + 1) y1 y2 y3 y5 y7 S = (if (nI 64) ≤ y7 then (mX11_tellPart S y3 y5).bind fun S5 => some ((nI 1), S5) else ald (S.1 0) 288 (nI 0) fun v6 => (if (y7 &&& (v6 ^^^ (-1 : Int32))) = 0 then (mX11_odds_L64 S FU y1 y2 y3 y5 y7 (lN 1) (nI 0)).bind fun x36 => ald (S.1 0) 288 (nI 0) fun v37 => (mX11_supposedBy S (v37 &&& (y7 ^^^ (-1 : Int32)))).bind fun r38 => (mX11_hears S y1 r38).bind fun r39 => (if r39 = 0 then nm (y3 + (lN 0)) fun x40 => nm (y5 + x36) fun x41 => nm (y7 + (nI 1)) fun x42 => (mX11_odds_L33  n) y1 y2 x40 x41 x42 S else nm (y3 + x36) fun x43 => nm (y5 + x36) fun x44 => nm (y7 + (nI 1)) fun x45 => (mX11_odds_L33  n) y1 y2 x43 x44 x45 S) else (mX11_odds_L64 S FU y1 y2 y3 y5 y7 (lN 0) (nI 0)).bind fun x26 => ald (S.1 0) 288 (nI 0) fun v27 => (mX11_supposedBy S (v27 &&& (y7 ^^^ (-1 : Int32)))).bind fun r28 => (mX11_hears S y1 r28).bind fun r29 => (if r29 = 0 then nm (y3 + (lN 0)) fun x30 => nm (y5 + x26) fun x31 => nm (y7 + (nI 1)) fun x32 => (mX11_odds_L33  n) y1 y2 x30 x31 x32 S else nm (y3 + x26) fun x33 => nm (y5 + x26) fun x34 => nm (y7 + (nI 1)) fun x35 => (mX11_odds_L33  n) y1 y2 x33 x34 x35 S))) := rfl
noncomputable def mX11_odds (S : MS) (a1 : Int32) (a2 : Int32) : Option (Int32 × MS) := (mX11_isCourt S a1).bind fun r1 => (if r1 = 0 then (mX11_refuse S (-2 : Int32)).bind fun ⟨r3, S2⟩ => some (r3, S2) else (mX11_in a2 (nI 0) (nI 10)).bind fun r4 => (if r4 = 0 then (mX11_refuse S (-2 : Int32)).bind fun ⟨r47, S46⟩ => some (r47, S46) else mX11_odds_L33 FU a1 a2 (lN 0) (lN 0) (nI 0) S))
set_option maxHeartbeats 4000000 in
set_option maxRecDepth 100000 in
theorem kX11_odds_L64 {p : Program} {l : Launch} {e : Env} {s : State} {m : MethodId} {below : List Frame} {meth : Method} {c : Code} {D : va_G} {cs : CS} {A : Nat → Prop}  {ad : Nat → Nat} {S : MS} {a1 : Int32} {a2 : Int32} (E : EV p s m [.ref (ad 22), .int a1, .int a2].toArray meth c cX11_odds 12 RX11 (some .int) D cs) (hA : ∀ q : Nat, s.heap.size ≤ q → A q) {Q : State → Prop} (z : Int64) : ∀ (n : Nat) (y1 : Int32) (y2 : Int32) (y3 : Int64) (y5 : Int64) (y7 : Int32) (y8 : Int64) (y10 : Int32), mX11_odds_L64 S n y1 y2 y3 y5 y7 y8 y10 = some z → ∀ (H : Heap) (locs : List Loc), va_P D classes (WM cs ad S) H → va_D A (WM cs ad S) → va_S A s.heap H locs → ∀ ls : Array Slot, lv_has ls 12 [(0, .ref (ad 22)), (1, .int y1), (2, .int y2), (3, .long y3), (5, .long y5), (7, .int y7), (8, .long y8), (10, .int y10)] → (∀ ls : Array Slot, lv_has ls 12 [(0, .ref (ad 22)), (1, .int y1), (2, .int y2), (3, .long y3), (5, .long y5), (7, .int y7), (8, .long z)] → W p l e ({ frames := 2, cells := 0, slots := 0, locals := 44 }) s m [.ref (ad 22), .int a1, .int a2].toArray below meth c H locs 0 0 Q (F0 m 159 ls [])) → W p l e ({ frames := 2, cells := 0, slots := 0, locals := 44 }) s m [.ref (ad 22), .int a1, .int a2].toArray below meth c H locs 0 0 Q (F0 m 64 ls []) := by
  obtain ⟨hx, hb, hr, hml, hown, hlk, hT, hN, hK⟩ := id E
  intro n
  induction n with
  | zero =>
    intro y1 y2 y3 y5 y7 y8 y10 hm
    exact nomatch (show (none : Option Int64) = some z from hm)
  | succ n ih =>
    intro y1 y2 y3 y5 y7 y8 y10 hm H locs hP hD hS ls hl kk
    rw [mX11_odds_L64_s] at hm
    refine lv_iload hx hb dX11_odds_64 (lv_at hl 7 rfl) ?_
    refine lv_aload_n hx hb dX11_odds_66 rfl (lv_at hl 0 rfl) ?_
    refine gf_X11_7 (v := .ref (ad 0)) hx hb hT hown hK hP 0 rfl rfl dX11_odds_67 ?_
    refine lv_iconst (v := (nI 4)) hx hb dX11_odds_70 (by decide) ?_
    refine x_iald hx hb hK hP 1 rfl hm dX11_odds_71 (fun v7 hm => ?_)
    refine x_icmp_ge (tgt := 159) hx hb dX11_odds_72 (by decide) hm (fun hm => ?_) (fun hm => ?_)
    · cases hm
      exact kk ls (lv_sub hl [0, 1, 2, 3, 4, 5, 6] rfl)
    · refine lv_aload_n hx hb dX11_odds_75 rfl (lv_at hl 0 rfl) ?_
      refine gf_X11_7 (v := .ref (ad 0)) hx hb hT hown hK hP 0 rfl rfl dX11_odds_76 ?_
      refine lv_iconst (v := (nI 0)) hx hb dX11_odds_79 (by decide) ?_
      refine x_iald hx hb hK hP 1 rfl hm dX11_odds_80 (fun v8 hm => ?_)
      refine lv_iload hx hb dX11_odds_81 (lv_at hl 7 rfl) ?_
      refine xS_i (As := [.int v8, .int y10]) (rest := []) hx hb hml hown hT hN hK (hP.sub (ws' := []) [] rfl) cw_X11_124 hm (fun z h => tcX11_has l D cs v8 y10 z h) ⟨rfl, rfl⟩ ⟨by decide, by decide⟩ hl.1 rfl rfl (Nat.le_of_ble_eq_true rfl) dX11_odds_83 ⟨Nat.zero_le _, Nat.zero_le _⟩ (fun r9 hm => ?_)
      refine x_if_eq (tgt := 102) hx hb dX11_odds_86 (by decide) hm (fun hm => ?_) (fun hm => ?_)
      · refine lv_iconst (v := (nI 0)) hx hb dX11_odds_102 (by decide) ?_
        refine lv_istore (lv' := [(11, .int (nI 0)), (0, .ref (ad 22)), (1, .int y1), (2, .int y2), (3, .long y3), (5, .long y5), (7, .int y7), (8, .long y8), (10, .int y10)]) hx hb dX11_odds_103 hl (by decide) rfl (fun ls hl => ?_)
        refine lv_lload hx hb dX11_odds_105 (lv_at hl 7 rfl) ?_
        refine lv_iload hx hb dX11_odds_107 (lv_at hl 0 rfl) ?_
        refine lv_if_eq (tgt := 135) hx hb dX11_odds_109 (by decide) (fun _ => ?_) (fun h => absurd h (by decide))
        refine lv_iload hx hb dX11_odds_135 (lv_at hl 6 rfl) ?_
        refine lv_iload hx hb dX11_odds_137 (lv_at hl 8 rfl) ?_
        refine xS_i (As := [.int y7, .int y10]) (rest := [.long y8]) hx hb hml hown hT hN hK (hP.sub (ws' := []) [] rfl) cw_X11_124 hm (fun z h => tcX11_has l D cs y7 y10 z h) ⟨rfl, rfl⟩ ⟨by decide, by decide⟩ hl.1 rfl rfl (Nat.le_of_ble_eq_true rfl) dX11_odds_139 ⟨Nat.zero_le _, Nat.zero_le _⟩ (fun r10 hm => ?_)
        refine x_if_eq (tgt := 149) hx hb dX11_odds_142 (by decide) hm (fun hm => ?_) (fun hm => ?_)
        · refine lv_lconst (v := (lN 1)) hx hb dX11_odds_149 (by decide) ?_
          refine lv_lmul hx hb dX11_odds_150 ?_
          refine xl_nm hm (fun x11 hm => ?_)
          refine lv_lstore (lv' := [(8, .long x11), (11, .int (nI 0)), (0, .ref (ad 22)), (1, .int y1), (2, .int y2), (3, .long y3), (5, .long y5), (7, .int y7), (10, .int y10)]) hx hb dX11_odds_151 hl (by decide) rfl (fun ls hl => ?_)
          refine x_iinc (lv' := fun x12 => [(10, .int x12), (8, .long x11), (11, .int (nI 0)), (0, .ref (ad 22)), (1, .int y1), (2, .int y2), (3, .long y3), (5, .long y5), (7, .int y7)]) hx hb dX11_odds_153 hl (k := 8) rfl (by decide) (v0 := (nI 1)) (by decide) (fun _ => rfl) hm (fun x12 ls hm hl => ?_)
          refine lv_goto (tgt := 64) hx hb dX11_odds_156 (by decide) ?_
          exact ih y1 y2 y3 y5 y7 x11 x12 hm H locs hP hD hS ls (lv_sub hl [3, 4, 5, 6, 7, 8, 1, 0] rfl) kk
        · refine lv_lconst (v := (lN 0)) hx hb dX11_odds_145 (by decide) ?_
          refine lv_goto (tgt := 150) hx hb dX11_odds_146 (by decide) ?_
          refine lv_lmul hx hb dX11_odds_150 ?_
          refine xl_nm hm (fun x13 hm => ?_)
          refine lv_lstore (lv' := [(8, .long x13), (11, .int (nI 0)), (0, .ref (ad 22)), (1, .int y1), (2, .int y2), (3, .long y3), (5, .long y5), (7, .int y7), (10, .int y10)]) hx hb dX11_odds_151 hl (by decide) rfl (fun ls hl => ?_)
          refine x_iinc (lv' := fun x14 => [(10, .int x14), (8, .long x13), (11, .int (nI 0)), (0, .ref (ad 22)), (1, .int y1), (2, .int y2), (3, .long y3), (5, .long y5), (7, .int y7)]) hx hb dX11_odds_153 hl (k := 8) rfl (by decide) (v0 := (nI 1)) (by decide) (fun _ => rfl) hm (fun x14 ls hm hl => ?_)
          refine lv_goto (tgt := 64) hx hb dX11_odds_156 (by decide) ?_
          exact ih y1 y2 y3 y5 y7 x13 x14 hm H locs hP hD hS ls (lv_sub hl [3, 4, 5, 6, 7, 8, 1, 0] rfl) kk
      · refine lv_aload_n hx hb dX11_odds_89 rfl (lv_at hl 0 rfl) ?_
        refine lv_iload hx hb dX11_odds_90 (lv_at hl 7 rfl) ?_
        refine xV_i (As := [.int y10]) (rest := []) hx hb hml hown hT hN hK hP cw_X11_153 hm (fun z h => tcX11_wins l D cs ad S y10 z h) ⟨rfl, rfl⟩ ⟨by decide, by decide⟩ (b := (ad 22)) 0 rfl rfl rfl hl.1 rfl rfl (Nat.le_of_ble_eq_true rfl) dX11_odds_92 ⟨Nat.zero_le _, Nat.zero_le _⟩ (fun r15 hm => ?_)
        refine x_if_eq (tgt := 102) hx hb dX11_odds_95 (by decide) hm (fun hm => ?_) (fun hm => ?_)
        · refine lv_iconst (v := (nI 0)) hx hb dX11_odds_102 (by decide) ?_
          refine lv_istore (lv' := [(11, .int (nI 0)), (0, .ref (ad 22)), (1, .int y1), (2, .int y2), (3, .long y3), (5, .long y5), (7, .int y7), (8, .long y8), (10, .int y10)]) hx hb dX11_odds_103 hl (by decide) rfl (fun ls hl => ?_)
          refine lv_lload hx hb dX11_odds_105 (lv_at hl 7 rfl) ?_
          refine lv_iload hx hb dX11_odds_107 (lv_at hl 0 rfl) ?_
          refine lv_if_eq (tgt := 135) hx hb dX11_odds_109 (by decide) (fun _ => ?_) (fun h => absurd h (by decide))
          refine lv_iload hx hb dX11_odds_135 (lv_at hl 6 rfl) ?_
          refine lv_iload hx hb dX11_odds_137 (lv_at hl 8 rfl) ?_
          refine xS_i (As := [.int y7, .int y10]) (rest := [.long y8]) hx hb hml hown hT hN hK (hP.sub (ws' := []) [] rfl) cw_X11_124 hm (fun z h => tcX11_has l D cs y7 y10 z h) ⟨rfl, rfl⟩ ⟨by decide, by decide⟩ hl.1 rfl rfl (Nat.le_of_ble_eq_true rfl) dX11_odds_139 ⟨Nat.zero_le _, Nat.zero_le _⟩ (fun r16 hm => ?_)
          refine x_if_eq (tgt := 149) hx hb dX11_odds_142 (by decide) hm (fun hm => ?_) (fun hm => ?_)
          · refine lv_lconst (v := (lN 1)) hx hb dX11_odds_149 (by decide) ?_
            refine lv_lmul hx hb dX11_odds_150 ?_
            refine xl_nm hm (fun x17 hm => ?_)
            refine lv_lstore (lv' := [(8, .long x17), (11, .int (nI 0)), (0, .ref (ad 22)), (1, .int y1), (2, .int y2), (3, .long y3), (5, .long y5), (7, .int y7), (10, .int y10)]) hx hb dX11_odds_151 hl (by decide) rfl (fun ls hl => ?_)
            refine x_iinc (lv' := fun x18 => [(10, .int x18), (8, .long x17), (11, .int (nI 0)), (0, .ref (ad 22)), (1, .int y1), (2, .int y2), (3, .long y3), (5, .long y5), (7, .int y7)]) hx hb dX11_odds_153 hl (k := 8) rfl (by decide) (v0 := (nI 1)) (by decide) (fun _ => rfl) hm (fun x18 ls hm hl => ?_)
            refine lv_goto (tgt := 64) hx hb dX11_odds_156 (by decide) ?_
            exact ih y1 y2 y3 y5 y7 x17 x18 hm H locs hP hD hS ls (lv_sub hl [3, 4, 5, 6, 7, 8, 1, 0] rfl) kk
          · refine lv_lconst (v := (lN 0)) hx hb dX11_odds_145 (by decide) ?_
            refine lv_goto (tgt := 150) hx hb dX11_odds_146 (by decide) ?_
            refine lv_lmul hx hb dX11_odds_150 ?_
            refine xl_nm hm (fun x19 hm => ?_)
            refine lv_lstore (lv' := [(8, .long x19), (11, .int (nI 0)), (0, .ref (ad 22)), (1, .int y1), (2, .int y2), (3, .long y3), (5, .long y5), (7, .int y7), (10, .int y10)]) hx hb dX11_odds_151 hl (by decide) rfl (fun ls hl => ?_)
            refine x_iinc (lv' := fun x20 => [(10, .int x20), (8, .long x19), (11, .int (nI 0)), (0, .ref (ad 22)), (1, .int y1), (2, .int y2), (3, .long y3), (5, .long y5), (7, .int y7)]) hx hb dX11_odds_153 hl (k := 8) rfl (by decide) (v0 := (nI 1)) (by decide) (fun _ => rfl) hm (fun x20 ls hm hl => ?_)
            refine lv_goto (tgt := 64) hx hb dX11_odds_156 (by decide) ?_
            exact ih y1 y2 y3 y5 y7 x19 x20 hm H locs hP hD hS ls (lv_sub hl [3, 4, 5, 6, 7, 8, 1, 0] rfl) kk
        · refine lv_iconst (v := (nI 1)) hx hb dX11_odds_98 (by decide) ?_
          refine lv_goto (tgt := 103) hx hb dX11_odds_99 (by decide) ?_
          refine lv_istore (lv' := [(11, .int (nI 1)), (0, .ref (ad 22)), (1, .int y1), (2, .int y2), (3, .long y3), (5, .long y5), (7, .int y7), (8, .long y8), (10, .int y10)]) hx hb dX11_odds_103 hl (by decide) rfl (fun ls hl => ?_)
          refine lv_lload hx hb dX11_odds_105 (lv_at hl 7 rfl) ?_
          refine lv_iload hx hb dX11_odds_107 (lv_at hl 0 rfl) ?_
          refine lv_if_eq (tgt := 135) hx hb dX11_odds_109 (by decide) (fun h => absurd h (by decide)) (fun _ => ?_)
          refine lv_iload hx hb dX11_odds_112 (lv_at hl 6 rfl) ?_
          refine lv_iload hx hb dX11_odds_114 (lv_at hl 8 rfl) ?_
          refine xS_i (As := [.int y7, .int y10]) (rest := [.long y8]) hx hb hml hown hT hN hK (hP.sub (ws' := []) [] rfl) cw_X11_124 hm (fun z h => tcX11_has l D cs y7 y10 z h) ⟨rfl, rfl⟩ ⟨by decide, by decide⟩ hl.1 rfl rfl (Nat.le_of_ble_eq_true rfl) dX11_odds_116 ⟨Nat.zero_le _, Nat.zero_le _⟩ (fun r21 hm => ?_)
          refine x_if_eq (tgt := 127) hx hb dX11_odds_119 (by decide) hm (fun hm => ?_) (fun hm => ?_)
          · refine lv_bipush (v := (nI 10)) hx hb dX11_odds_127 (by decide) ?_
            refine lv_iload_n hx hb dX11_odds_129 rfl (lv_at hl 3 rfl) ?_
            refine lv_isub hx hb dX11_odds_130 ?_
            refine lv_i2l hx hb dX11_odds_131 rfl ?_
            refine lv_goto (tgt := 150) hx hb dX11_odds_132 (by decide) ?_
            refine lv_lmul hx hb dX11_odds_150 ?_
            refine xl_nm hm (fun x22 hm => ?_)
            refine lv_lstore (lv' := [(8, .long x22), (11, .int (nI 1)), (0, .ref (ad 22)), (1, .int y1), (2, .int y2), (3, .long y3), (5, .long y5), (7, .int y7), (10, .int y10)]) hx hb dX11_odds_151 hl (by decide) rfl (fun ls hl => ?_)
            refine x_iinc (lv' := fun x23 => [(10, .int x23), (8, .long x22), (11, .int (nI 1)), (0, .ref (ad 22)), (1, .int y1), (2, .int y2), (3, .long y3), (5, .long y5), (7, .int y7)]) hx hb dX11_odds_153 hl (k := 8) rfl (by decide) (v0 := (nI 1)) (by decide) (fun _ => rfl) hm (fun x23 ls hm hl => ?_)
            refine lv_goto (tgt := 64) hx hb dX11_odds_156 (by decide) ?_
            exact ih y1 y2 y3 y5 y7 x22 x23 hm H locs hP hD hS ls (lv_sub hl [3, 4, 5, 6, 7, 8, 1, 0] rfl) kk
          · refine lv_iload_n hx hb dX11_odds_122 rfl (lv_at hl 3 rfl) ?_
            refine lv_i2l hx hb dX11_odds_123 rfl ?_
            refine lv_goto (tgt := 150) hx hb dX11_odds_124 (by decide) ?_
            refine lv_lmul hx hb dX11_odds_150 ?_
            refine xl_nm hm (fun x24 hm => ?_)
            refine lv_lstore (lv' := [(8, .long x24), (11, .int (nI 1)), (0, .ref (ad 22)), (1, .int y1), (2, .int y2), (3, .long y3), (5, .long y5), (7, .int y7), (10, .int y10)]) hx hb dX11_odds_151 hl (by decide) rfl (fun ls hl => ?_)
            refine x_iinc (lv' := fun x25 => [(10, .int x25), (8, .long x24), (11, .int (nI 1)), (0, .ref (ad 22)), (1, .int y1), (2, .int y2), (3, .long y3), (5, .long y5), (7, .int y7)]) hx hb dX11_odds_153 hl (k := 8) rfl (by decide) (v0 := (nI 1)) (by decide) (fun _ => rfl) hm (fun x25 ls hm hl => ?_)
            refine lv_goto (tgt := 64) hx hb dX11_odds_156 (by decide) ?_
            exact ih y1 y2 y3 y5 y7 x24 x25 hm H locs hP hD hS ls (lv_sub hl [3, 4, 5, 6, 7, 8, 1, 0] rfl) kk
set_option maxHeartbeats 4000000 in
set_option maxRecDepth 100000 in
theorem kX11_odds_L33 {p : Program} {l : Launch} {e : Env} {s : State} {m : MethodId} {below : List Frame} {meth : Method} {c : Code} {D : va_G} {cs : CS} {A : Nat → Prop}  {ad : Nat → Nat} {a1 : Int32} {a2 : Int32} (E : EV p s m [.ref (ad 22), .int a1, .int a2].toArray meth c cX11_odds 12 RX11 (some .int) D cs) (hA : ∀ q : Nat, s.heap.size ≤ q → A q) (z : Int32 × MS) : ∀ (n : Nat) (y1 : Int32) (y2 : Int32) (y3 : Int64) (y5 : Int64) (y7 : Int32) (S : MS), mX11_odds_L33  n y1 y2 y3 y5 y7 S = some z → ∀ (H : Heap) (locs : List Loc), va_P D classes (WM cs ad S) H → va_D A (WM cs ad S) → va_S A s.heap H locs → ∀ ls : Array Slot, lv_has ls 12 [(0, .ref (ad 22)), (1, .int y1), (2, .int y2), (3, .long y3), (5, .long y5), (7, .int y7)] → W p l e ({ frames := 2, cells := 0, slots := 0, locals := 44 }) s m [.ref (ad 22), .int a1, .int a2].toArray below meth c H locs 0 0 (MQ below (QWi D cs A (fun u => WM cs ad u) z) [.ref (ad 22), .int a1, .int a2].toArray s 0 0 A) (F0 m 33 ls []) := by
  obtain ⟨hx, hb, hr, hml, hown, hlk, hT, hN, hK⟩ := id E
  intro n
  induction n with
  | zero =>
    intro y1 y2 y3 y5 y7 S hm
    exact nomatch (show (none : Option (Int32 × MS)) = some z from hm)
  | succ n ih =>
    intro y1 y2 y3 y5 y7 S hm H locs hP hD hS ls hl
    rw [mX11_odds_L33_s] at hm
    refine lv_iload hx hb dX11_odds_33 (lv_at hl 5 rfl) ?_
    refine lv_bipush (v := (nI 64)) hx hb dX11_odds_35 (by decide) ?_
    refine x_icmp_ge (tgt := 204) hx hb dX11_odds_37 (by decide) hm (fun hm => ?_) (fun hm => ?_)
    · refine lv_aload_n hx hb dX11_odds_204 rfl (lv_at hl 0 rfl) ?_
      refine lv_lload_n hx hb dX11_odds_205 rfl (lv_at hl 3 rfl) ?_
      refine lv_lload hx hb dX11_odds_206 (lv_at hl 4 rfl) ?_
      refine xVW_v (As := [.long y3, .long y5]) (rest := []) (wr := []) (wg := (fun u => WM cs ad u)) hx hb hml hown hT hN hK hP hD hS hA cw_X11_215 hm (fun z h => tcX11_tellPart l D cs ad H.size S y3 y5 z h) ⟨rfl, rfl⟩ ⟨by decide, by decide⟩ [0, 1, 2, 3, 4, 5, 6, 7, 8, 9, 10, 11] [] [0, 1, 2, 3, 4, 5, 6, 7, 8, 9, 10, 11] rfl (by decide) rfl (by decide) (by decide) (fun _ => rfl) (by decide) (b := (ad 22)) 0 rfl rfl rfl hl.1 rfl rfl (Nat.le_of_ble_eq_true rfl) dX11_odds_208 ⟨Nat.zero_le _, Nat.zero_le _⟩ (fun S5 H locs hm hP hD hS => ?_)
      refine lv_iconst (v := (nI 1)) hx hb dX11_odds_211 (by decide) ?_
      exact x_iretW (wf := (fun u => WM cs ad u)) hx hb hr hlk hK hP hD hS hm dX11_odds_212
    · refine lv_iload hx hb dX11_odds_40 (lv_at hl 5 rfl) ?_
      refine lv_aload_n hx hb dX11_odds_42 rfl (lv_at hl 0 rfl) ?_
      refine gf_X11_7 (v := .ref (ad 0)) hx hb hT hown hK hP 0 rfl rfl dX11_odds_43 ?_
      refine lv_iconst (v := (nI 0)) hx hb dX11_odds_46 (by decide) ?_
      refine x_iald hx hb hK hP 1 rfl hm dX11_odds_47 (fun v6 hm => ?_)
      refine lv_iconst (v := (-1 : Int32)) hx hb dX11_odds_48 (by decide) ?_
      refine lv_ixor hx hb dX11_odds_49 ?_
      refine lv_iand hx hb dX11_odds_50 ?_
      refine x_if_ne (tgt := 58) hx hb dX11_odds_51 (by decide) hm (fun hm => ?_) (fun hm => ?_)
      · refine lv_lconst (v := (lN 0)) hx hb dX11_odds_58 (by decide) ?_
        refine lv_lstore (lv' := [(8, .long (lN 0)), (0, .ref (ad 22)), (1, .int y1), (2, .int y2), (3, .long y3), (5, .long y5), (7, .int y7)]) hx hb dX11_odds_59 hl (by decide) rfl (fun ls hl => ?_)
        refine lv_iconst (v := (nI 0)) hx hb dX11_odds_61 (by decide) ?_
        refine lv_istore (lv' := [(10, .int (nI 0)), (8, .long (lN 0)), (0, .ref (ad 22)), (1, .int y1), (2, .int y2), (3, .long y3), (5, .long y5), (7, .int y7)]) hx hb dX11_odds_62 hl (by decide) rfl (fun ls hl => ?_)
        obtain ⟨x26, he, hm⟩ := ob_some hm
        refine kX11_odds_L64 E hA _ FU y1 y2 y3 y5 y7 (lN 0) (nI 0) he H locs hP hD hS ls (lv_sub hl [2, 3, 4, 5, 6, 7, 1, 0] rfl) (fun ls hl => ?_)
        refine lv_lload_n hx hb dX11_odds_159 rfl (lv_at hl 3 rfl) ?_
        refine lv_aload_n hx hb dX11_odds_160 rfl (lv_at hl 0 rfl) ?_
        refine lv_iload_n hx hb dX11_odds_161 rfl (lv_at hl 1 rfl) ?_
        refine lv_aload_n hx hb dX11_odds_162 rfl (lv_at hl 0 rfl) ?_
        refine lv_aload_n hx hb dX11_odds_163 rfl (lv_at hl 0 rfl) ?_
        refine gf_X11_7 (v := .ref (ad 0)) hx hb hT hown hK hP 0 rfl rfl dX11_odds_164 ?_
        refine lv_iconst (v := (nI 0)) hx hb dX11_odds_167 (by decide) ?_
        refine x_iald hx hb hK hP 1 rfl hm dX11_odds_168 (fun v27 hm => ?_)
        refine lv_iload hx hb dX11_odds_169 (lv_at hl 5 rfl) ?_
        refine lv_iconst (v := (-1 : Int32)) hx hb dX11_odds_171 (by decide) ?_
        refine lv_ixor hx hb dX11_odds_172 ?_
        refine lv_iand hx hb dX11_odds_173 ?_
        refine xV_i (As := [.int (v27 &&& (y7 ^^^ (-1 : Int32)))]) (rest := [.int y1, .ref (ad 22), .long y3]) hx hb hml hown hT hN hK hP cw_X11_135 hm (fun z h => tcX11_supposedBy l D cs ad S (v27 &&& (y7 ^^^ (-1 : Int32))) z h) ⟨rfl, rfl⟩ ⟨by decide, by decide⟩ (b := (ad 22)) 0 rfl rfl rfl hl.1 rfl rfl (Nat.le_of_ble_eq_true rfl) dX11_odds_174 ⟨Nat.zero_le _, Nat.zero_le _⟩ (fun r28 hm => ?_)
        refine xV_i (As := [.int y1, .int r28]) (rest := [.long y3]) hx hb hml hown hT hN hK hP cw_X11_162 hm (fun z h => tcX11_hears l D cs ad S y1 r28 z h) ⟨rfl, rfl⟩ ⟨by decide, by decide⟩ (b := (ad 22)) 0 rfl rfl rfl hl.1 rfl rfl (Nat.le_of_ble_eq_true rfl) dX11_odds_177 ⟨Nat.zero_le _, Nat.zero_le _⟩ (fun r29 hm => ?_)
        refine x_if_eq (tgt := 188) hx hb dX11_odds_180 (by decide) hm (fun hm => ?_) (fun hm => ?_)
        · refine lv_lconst (v := (lN 0)) hx hb dX11_odds_188 (by decide) ?_
          refine lv_ladd hx hb dX11_odds_189 ?_
          refine xl_nm hm (fun x30 hm => ?_)
          refine lv_lstore_n (lv' := [(3, .long x30), (0, .ref (ad 22)), (1, .int y1), (2, .int y2), (5, .long y5), (7, .int y7), (8, .long x26)]) hx hb dX11_odds_190 rfl hl (by decide) rfl (fun ls hl => ?_)
          refine lv_lload hx hb dX11_odds_191 (lv_at hl 4 rfl) ?_
          refine lv_lload hx hb dX11_odds_193 (lv_at hl 6 rfl) ?_
          refine lv_ladd hx hb dX11_odds_195 ?_
          refine xl_nm hm (fun x31 hm => ?_)
          refine lv_lstore (lv' := [(5, .long x31), (3, .long x30), (0, .ref (ad 22)), (1, .int y1), (2, .int y2), (7, .int y7), (8, .long x26)]) hx hb dX11_odds_196 hl (by decide) rfl (fun ls hl => ?_)
          refine x_iinc (lv' := fun x32 => [(7, .int x32), (5, .long x31), (3, .long x30), (0, .ref (ad 22)), (1, .int y1), (2, .int y2), (8, .long x26)]) hx hb dX11_odds_198 hl (k := 5) rfl (by decide) (v0 := (nI 1)) (by decide) (fun _ => rfl) hm (fun x32 ls hm hl => ?_)
          refine lv_goto (tgt := 33) hx hb dX11_odds_201 (by decide) ?_
          exact ih y1 y2 x30 x31 x32 S hm H locs hP hD hS ls (lv_sub hl [3, 4, 5, 2, 1, 0] rfl)
        · refine lv_lload hx hb dX11_odds_183 (lv_at hl 6 rfl) ?_
          refine lv_goto (tgt := 189) hx hb dX11_odds_185 (by decide) ?_
          refine lv_ladd hx hb dX11_odds_189 ?_
          refine xl_nm hm (fun x33 hm => ?_)
          refine lv_lstore_n (lv' := [(3, .long x33), (0, .ref (ad 22)), (1, .int y1), (2, .int y2), (5, .long y5), (7, .int y7), (8, .long x26)]) hx hb dX11_odds_190 rfl hl (by decide) rfl (fun ls hl => ?_)
          refine lv_lload hx hb dX11_odds_191 (lv_at hl 4 rfl) ?_
          refine lv_lload hx hb dX11_odds_193 (lv_at hl 6 rfl) ?_
          refine lv_ladd hx hb dX11_odds_195 ?_
          refine xl_nm hm (fun x34 hm => ?_)
          refine lv_lstore (lv' := [(5, .long x34), (3, .long x33), (0, .ref (ad 22)), (1, .int y1), (2, .int y2), (7, .int y7), (8, .long x26)]) hx hb dX11_odds_196 hl (by decide) rfl (fun ls hl => ?_)
          refine x_iinc (lv' := fun x35 => [(7, .int x35), (5, .long x34), (3, .long x33), (0, .ref (ad 22)), (1, .int y1), (2, .int y2), (8, .long x26)]) hx hb dX11_odds_198 hl (k := 5) rfl (by decide) (v0 := (nI 1)) (by decide) (fun _ => rfl) hm (fun x35 ls hm hl => ?_)
          refine lv_goto (tgt := 33) hx hb dX11_odds_201 (by decide) ?_
          exact ih y1 y2 x33 x34 x35 S hm H locs hP hD hS ls (lv_sub hl [3, 4, 5, 2, 1, 0] rfl)
      · refine lv_lconst (v := (lN 1)) hx hb dX11_odds_54 (by decide) ?_
        refine lv_goto (tgt := 59) hx hb dX11_odds_55 (by decide) ?_
        refine lv_lstore (lv' := [(8, .long (lN 1)), (0, .ref (ad 22)), (1, .int y1), (2, .int y2), (3, .long y3), (5, .long y5), (7, .int y7)]) hx hb dX11_odds_59 hl (by decide) rfl (fun ls hl => ?_)
        refine lv_iconst (v := (nI 0)) hx hb dX11_odds_61 (by decide) ?_
        refine lv_istore (lv' := [(10, .int (nI 0)), (8, .long (lN 1)), (0, .ref (ad 22)), (1, .int y1), (2, .int y2), (3, .long y3), (5, .long y5), (7, .int y7)]) hx hb dX11_odds_62 hl (by decide) rfl (fun ls hl => ?_)
        obtain ⟨x36, he, hm⟩ := ob_some hm
        refine kX11_odds_L64 E hA _ FU y1 y2 y3 y5 y7 (lN 1) (nI 0) he H locs hP hD hS ls (lv_sub hl [2, 3, 4, 5, 6, 7, 1, 0] rfl) (fun ls hl => ?_)
        refine lv_lload_n hx hb dX11_odds_159 rfl (lv_at hl 3 rfl) ?_
        refine lv_aload_n hx hb dX11_odds_160 rfl (lv_at hl 0 rfl) ?_
        refine lv_iload_n hx hb dX11_odds_161 rfl (lv_at hl 1 rfl) ?_
        refine lv_aload_n hx hb dX11_odds_162 rfl (lv_at hl 0 rfl) ?_
        refine lv_aload_n hx hb dX11_odds_163 rfl (lv_at hl 0 rfl) ?_
        refine gf_X11_7 (v := .ref (ad 0)) hx hb hT hown hK hP 0 rfl rfl dX11_odds_164 ?_
        refine lv_iconst (v := (nI 0)) hx hb dX11_odds_167 (by decide) ?_
        refine x_iald hx hb hK hP 1 rfl hm dX11_odds_168 (fun v37 hm => ?_)
        refine lv_iload hx hb dX11_odds_169 (lv_at hl 5 rfl) ?_
        refine lv_iconst (v := (-1 : Int32)) hx hb dX11_odds_171 (by decide) ?_
        refine lv_ixor hx hb dX11_odds_172 ?_
        refine lv_iand hx hb dX11_odds_173 ?_
        refine xV_i (As := [.int (v37 &&& (y7 ^^^ (-1 : Int32)))]) (rest := [.int y1, .ref (ad 22), .long y3]) hx hb hml hown hT hN hK hP cw_X11_135 hm (fun z h => tcX11_supposedBy l D cs ad S (v37 &&& (y7 ^^^ (-1 : Int32))) z h) ⟨rfl, rfl⟩ ⟨by decide, by decide⟩ (b := (ad 22)) 0 rfl rfl rfl hl.1 rfl rfl (Nat.le_of_ble_eq_true rfl) dX11_odds_174 ⟨Nat.zero_le _, Nat.zero_le _⟩ (fun r38 hm => ?_)
        refine xV_i (As := [.int y1, .int r38]) (rest := [.long y3]) hx hb hml hown hT hN hK hP cw_X11_162 hm (fun z h => tcX11_hears l D cs ad S y1 r38 z h) ⟨rfl, rfl⟩ ⟨by decide, by decide⟩ (b := (ad 22)) 0 rfl rfl rfl hl.1 rfl rfl (Nat.le_of_ble_eq_true rfl) dX11_odds_177 ⟨Nat.zero_le _, Nat.zero_le _⟩ (fun r39 hm => ?_)
        refine x_if_eq (tgt := 188) hx hb dX11_odds_180 (by decide) hm (fun hm => ?_) (fun hm => ?_)
        · refine lv_lconst (v := (lN 0)) hx hb dX11_odds_188 (by decide) ?_
          refine lv_ladd hx hb dX11_odds_189 ?_
          refine xl_nm hm (fun x40 hm => ?_)
          refine lv_lstore_n (lv' := [(3, .long x40), (0, .ref (ad 22)), (1, .int y1), (2, .int y2), (5, .long y5), (7, .int y7), (8, .long x36)]) hx hb dX11_odds_190 rfl hl (by decide) rfl (fun ls hl => ?_)
          refine lv_lload hx hb dX11_odds_191 (lv_at hl 4 rfl) ?_
          refine lv_lload hx hb dX11_odds_193 (lv_at hl 6 rfl) ?_
          refine lv_ladd hx hb dX11_odds_195 ?_
          refine xl_nm hm (fun x41 hm => ?_)
          refine lv_lstore (lv' := [(5, .long x41), (3, .long x40), (0, .ref (ad 22)), (1, .int y1), (2, .int y2), (7, .int y7), (8, .long x36)]) hx hb dX11_odds_196 hl (by decide) rfl (fun ls hl => ?_)
          refine x_iinc (lv' := fun x42 => [(7, .int x42), (5, .long x41), (3, .long x40), (0, .ref (ad 22)), (1, .int y1), (2, .int y2), (8, .long x36)]) hx hb dX11_odds_198 hl (k := 5) rfl (by decide) (v0 := (nI 1)) (by decide) (fun _ => rfl) hm (fun x42 ls hm hl => ?_)
          refine lv_goto (tgt := 33) hx hb dX11_odds_201 (by decide) ?_
          exact ih y1 y2 x40 x41 x42 S hm H locs hP hD hS ls (lv_sub hl [3, 4, 5, 2, 1, 0] rfl)
        · refine lv_lload hx hb dX11_odds_183 (lv_at hl 6 rfl) ?_
          refine lv_goto (tgt := 189) hx hb dX11_odds_185 (by decide) ?_
          refine lv_ladd hx hb dX11_odds_189 ?_
          refine xl_nm hm (fun x43 hm => ?_)
          refine lv_lstore_n (lv' := [(3, .long x43), (0, .ref (ad 22)), (1, .int y1), (2, .int y2), (5, .long y5), (7, .int y7), (8, .long x36)]) hx hb dX11_odds_190 rfl hl (by decide) rfl (fun ls hl => ?_)
          refine lv_lload hx hb dX11_odds_191 (lv_at hl 4 rfl) ?_
          refine lv_lload hx hb dX11_odds_193 (lv_at hl 6 rfl) ?_
          refine lv_ladd hx hb dX11_odds_195 ?_
          refine xl_nm hm (fun x44 hm => ?_)
          refine lv_lstore (lv' := [(5, .long x44), (3, .long x43), (0, .ref (ad 22)), (1, .int y1), (2, .int y2), (7, .int y7), (8, .long x36)]) hx hb dX11_odds_196 hl (by decide) rfl (fun ls hl => ?_)
          refine x_iinc (lv' := fun x45 => [(7, .int x45), (5, .long x44), (3, .long x43), (0, .ref (ad 22)), (1, .int y1), (2, .int y2), (8, .long x36)]) hx hb dX11_odds_198 hl (k := 5) rfl (by decide) (v0 := (nI 1)) (by decide) (fun _ => rfl) hm (fun x45 ls hm hl => ?_)
          refine lv_goto (tgt := 33) hx hb dX11_odds_201 (by decide) ?_
          exact ih y1 y2 x43 x44 x45 S hm H locs hP hD hS ls (lv_sub hl [3, 4, 5, 2, 1, 0] rfl)
set_option maxHeartbeats 4000000 in
set_option maxRecDepth 100000 in
theorem tcX11_odds (l : Launch) (D : va_G) (cs : CS) (ad : Nat → Nat) (sz : Nat) (S : MS) (a1 : Int32) (a2 : Int32) (z : Int32 × MS) (hm : mX11_odds S a1 a2 = some z) : Met l yX11_odds (Cond.code yX11_odds cX11_odds 12 (some .int) :: gw_tbl) ({ frames := 2, cells := 0, slots := 0, locals := 44 }) (PcW D cs sz (WM cs ad S) [.ref (ad 22), .int a1, .int a2]) (QWi D cs (va_A (WM cs ad S) sz) (fun u => WM cs ad u) z) 0 0 (va_A (WM cs ad S) sz) := by
  refine met_W rfl (Nat.le_of_ble_eq_true rfl) (fun p e s m below meth c E hP hD hS hA ls hl => ?_)
  generalize va_A (WM cs ad S) sz = A at hD hS hA ⊢
  obtain ⟨hx, hb, hr, hml, hown, hlk, hT, hN, hK⟩ := id E
  obtain ⟨H, hH⟩ : ∃ H, H = s.heap := ⟨_, rfl⟩
  obtain ⟨locs, hlo⟩ : ∃ L : List Loc, L = [] := ⟨_, rfl⟩
  have hP : va_P D classes (WM cs ad S) H := by rw [hH]; exact hP
  have hS : va_S A s.heap H locs := by rw [hH, hlo]; exact hS
  rw [show W p l e _ s m _ below meth c s.heap [] 0 0 = W p l e _ s m _ below meth c H locs 0 0 by rw [hH, hlo]]
  have hl : lv_has ls 12 [(0, .ref (ad 22)), (1, .int a1), (2, .int a2)] := hl
  unfold mX11_odds at hm
  refine lv_aload_n hx hb dX11_odds_0 rfl (lv_at hl 0 rfl) ?_
  refine lv_iload_n hx hb dX11_odds_1 rfl (lv_at hl 1 rfl) ?_
  refine xV_i (As := [.int a1]) (rest := []) hx hb hml hown hT hN hK hP cw_X11_184 hm (fun z h => tcX11_isCourt l D cs ad S a1 z h) ⟨rfl, rfl⟩ ⟨by decide, by decide⟩ (b := (ad 22)) 0 rfl rfl rfl hl.1 rfl rfl (Nat.le_of_ble_eq_true rfl) dX11_odds_2 ⟨Nat.zero_le _, Nat.zero_le _⟩ (fun r1 hm => ?_)
  refine x_if_eq (tgt := 18) hx hb dX11_odds_5 (by decide) hm (fun hm => ?_) (fun hm => ?_)
  · refine lv_aload_n hx hb dX11_odds_18 rfl (lv_at hl 0 rfl) ?_
    refine lv_bipush (v := (-2 : Int32)) hx hb dX11_odds_19 (by decide) ?_
    refine xVW_i (As := [.int (-2 : Int32)]) (rest := []) (wr := []) (wg := (fun u => WM cs ad u)) hx hb hml hown hT hN hK hP hD hS hA cw_X11_48 hm (fun z h => tcX11_refuse l D cs ad H.size S (-2 : Int32) z h) ⟨rfl, rfl⟩ ⟨by decide, by decide⟩ [0, 1, 2, 3, 4, 5, 6, 7, 8, 9, 10, 11] [] [0, 1, 2, 3, 4, 5, 6, 7, 8, 9, 10, 11] rfl (by decide) rfl (by decide) (by decide) (fun _ => rfl) (by decide) (b := (ad 22)) 0 rfl rfl rfl hl.1 rfl rfl (Nat.le_of_ble_eq_true rfl) dX11_odds_21 ⟨Nat.zero_le _, Nat.zero_le _⟩ (fun r3 S2 H locs hm hP hD hS => ?_)
    exact x_iretW (wf := (fun u => WM cs ad u)) hx hb hr hlk hK hP hD hS hm dX11_odds_24
  · refine lv_iload_n hx hb dX11_odds_8 rfl (lv_at hl 2 rfl) ?_
    refine lv_iconst (v := (nI 0)) hx hb dX11_odds_9 (by decide) ?_
    refine lv_bipush (v := (nI 10)) hx hb dX11_odds_10 (by decide) ?_
    refine xS_i (As := [.int a2, .int (nI 0), .int (nI 10)]) (rest := []) hx hb hml hown hT hN hK (hP.sub (ws' := []) [] rfl) cw_X11_52 hm (fun z h => tcX11_in l D cs a2 (nI 0) (nI 10) z h) ⟨rfl, rfl⟩ ⟨by decide, by decide⟩ hl.1 rfl rfl (Nat.le_of_ble_eq_true rfl) dX11_odds_12 ⟨Nat.zero_le _, Nat.zero_le _⟩ (fun r4 hm => ?_)
    refine x_if_ne (tgt := 25) hx hb dX11_odds_15 (by decide) hm (fun hm => ?_) (fun hm => ?_)
    · refine lv_lconst (v := (lN 0)) hx hb dX11_odds_25 (by decide) ?_
      refine lv_lstore_n (lv' := [(3, .long (lN 0)), (0, .ref (ad 22)), (1, .int a1), (2, .int a2)]) hx hb dX11_odds_26 rfl hl (by decide) rfl (fun ls hl => ?_)
      refine lv_lconst (v := (lN 0)) hx hb dX11_odds_27 (by decide) ?_
      refine lv_lstore (lv' := [(5, .long (lN 0)), (3, .long (lN 0)), (0, .ref (ad 22)), (1, .int a1), (2, .int a2)]) hx hb dX11_odds_28 hl (by decide) rfl (fun ls hl => ?_)
      refine lv_iconst (v := (nI 0)) hx hb dX11_odds_30 (by decide) ?_
      refine lv_istore (lv' := [(7, .int (nI 0)), (5, .long (lN 0)), (3, .long (lN 0)), (0, .ref (ad 22)), (1, .int a1), (2, .int a2)]) hx hb dX11_odds_31 hl (by decide) rfl (fun ls hl => ?_)
      exact kX11_odds_L33 E hA _ FU a1 a2 (lN 0) (lN 0) (nI 0) S hm H locs hP hD hS ls (lv_sub hl [3, 4, 5, 2, 1, 0] rfl)
    · refine lv_aload_n hx hb dX11_odds_18 rfl (lv_at hl 0 rfl) ?_
      refine lv_bipush (v := (-2 : Int32)) hx hb dX11_odds_19 (by decide) ?_
      refine xVW_i (As := [.int (-2 : Int32)]) (rest := []) (wr := []) (wg := (fun u => WM cs ad u)) hx hb hml hown hT hN hK hP hD hS hA cw_X11_48 hm (fun z h => tcX11_refuse l D cs ad H.size S (-2 : Int32) z h) ⟨rfl, rfl⟩ ⟨by decide, by decide⟩ [0, 1, 2, 3, 4, 5, 6, 7, 8, 9, 10, 11] [] [0, 1, 2, 3, 4, 5, 6, 7, 8, 9, 10, 11] rfl (by decide) rfl (by decide) (by decide) (fun _ => rfl) (by decide) (b := (ad 22)) 0 rfl rfl rfl hl.1 rfl rfl (Nat.le_of_ble_eq_true rfl) dX11_odds_21 ⟨Nat.zero_le _, Nat.zero_le _⟩ (fun r47 S46 H locs hm hP hD hS => ?_)
      exact x_iretW (wf := (fun u => WM cs ad u)) hx hb hr hlk hK hP hD hS hm dX11_odds_24
noncomputable def mX11_terms_L62  : Nat → Int32 → Int64 → Int32 → MS → Option (Int32 × MS) := fun n => Nat.rec (motive := fun _ => Int32 → Int64 → Int32 → MS → Option (Int32 × MS)) (fun _ _ _ _ => none) (fun _ rc => fun y2 y3 y5 S => (if y2 ≤ y5 then ald (S.1 0) 288 (nI 285) fun v6 => (mX11_hearBy S v6).bind fun r7 => (mX11_bits r7).bind fun r8 => some (r8, S) else nm (((y3 * (lN 1103515245)) + (lN 12345)) - ((y3 * (lN 1103515245)) + (lN 12345)) / (lN 2147483648) * (lN 2147483648)) fun x9 => nm (((x9 / (lN 65536)) - (x9 / (lN 65536)) / (lN 6) * (lN 6)).toInt32) fun x10 => (mX11_isFiction S x10).bind fun r11 => (if r11 = 0 then ald (S.1 0) 288 (nI 285) fun v12 => (mX11_has v12 x10).bind fun r13 => (if r13 = 0 then nm (y5 + (nI 1)) fun x14 => rc y2 x9 x14 S else (mX11_denyAt S (nI 285) x10).bind fun ⟨r16, S15⟩ => nm (y5 + (nI 1)) fun x17 => rc y2 x9 x17 S15) else ald (S.1 0) 288 (nI 285) fun v18 => ald (S.1 0) 288 (nI 286) fun v19 => (mX11_mayPlead S x10 v18 v19).bind fun r20 => (if r20 = 0 then ald (S.1 0) 288 (nI 285) fun v21 => (mX11_has v21 x10).bind fun r22 => (if r22 = 0 then nm (y5 + (nI 1)) fun x23 => rc y2 x9 x23 S else (mX11_denyAt S (nI 285) x10).bind fun ⟨r25, S24⟩ => nm (y5 + (nI 1)) fun x26 => rc y2 x9 x26 S24) else (mX11_pleadAt S (nI 285) x10).bind fun S27 => nm (y5 + (nI 1)) fun x28 => rc y2 x9 x28 S27)))) n
theorem mX11_terms_L62_s  (n : Nat) (y2 : Int32) (y3 : Int64) (y5 : Int32) (S : MS) : mX11_terms_L62  (n + 1) y2 y3 y5 S = (if y2 ≤ y5 then ald (S.1 0) 288 (nI 285) fun v6 => (mX11_hearBy S v6).bind fun r7 => (mX11_bits r7).bind fun r8 => some (r8, S) else nm (((y3 * (lN 1103515245)) + (lN 12345)) - ((y3 * (lN 1103515245)) + (lN 12345)) / (lN 2147483648) * (lN 2147483648)) fun x9 => nm (((x9 / (lN 65536)) - (x9 / (lN 65536)) / (lN 6) * (lN 6)).toInt32) fun x10 => (mX11_isFiction S x10).bind fun r11 => (if r11 = 0 then ald (S.1 0) 288 (nI 285) fun v12 => (mX11_has v12 x10).bind fun r13 => (if r13 = 0 then nm (y5 + (nI 1)) fun x14 => (mX11_terms_L62  n) y2 x9 x14 S else (mX11_denyAt S (nI 285) x10).bind fun ⟨r16, S15⟩ => nm (y5 + (nI 1)) fun x17 => (mX11_terms_L62  n) y2 x9 x17 S15) else ald (S.1 0) 288 (nI 285) fun v18 => ald (S.1 0) 288 (nI 286) fun v19 => (mX11_mayPlead S x10 v18 v19).bind fun r20 => (if r20 = 0 then ald (S.1 0) 288 (nI 285) fun v21 => (mX11_has v21 x10).bind fun r22 => (if r22 = 0 then nm (y5 + (nI 1)) fun x23 => (mX11_terms_L62  n) y2 x9 x23 S else (mX11_denyAt S (nI 285) x10).bind fun ⟨r25, S24⟩ => nm (y5 + (nI 1)) fun x26 => (mX11_terms_L62  n) y2 x9 x26 S24) else (mX11_pleadAt S (nI 285) x10).bind fun S27 => nm (y5 + (nI 1)) fun x28 => (mX11_terms_L62  n) y2 x9 x28 S27))) := rfl
noncomputable def mX11_terms_L29  : Nat → Int32 → Int32 → Int32 → MS → Option (Int32 × MS) := fun n => Nat.rec (motive := fun _ => Int32 → Int32 → Int32 → MS → Option (Int32 × MS)) (fun _ _ _ _ => none) (fun _ rc => fun y1 y2 y3 S => (if (nI 3) ≤ y3 then nm y1.toInt64 fun x5 => mX11_terms_L62 FU y2 x5 (nI 0) S else ald (S.1 0) 288 y3 fun v29 => ast 288 ((nI 285) + y3) <| nm (mA S 0 (((nI 285) + y3).toNatClampNeg) v29) fun S30 => nm (y3 + (nI 1)) fun x31 => rc y1 y2 x31 S30)) n
theorem mX11_terms_L29_s  (n : Nat) (y1 : Int32) (y2 : Int32) (y3 : Int32) (S : MS) : mX11_terms_L29  (n + 1) y1 y2 y3 S = (if (nI 3) ≤ y3 then nm y1.toInt64 fun x5 => mX11_terms_L62 FU y2 x5 (nI 0) S else ald (S.1 0) 288 y3 fun v29 => ast 288 ((nI 285) + y3) <| nm (mA S 0 (((nI 285) + y3).toNatClampNeg) v29) fun S30 => nm (y3 + (nI 1)) fun x31 => (mX11_terms_L29  n) y1 y2 x31 S30) := rfl
noncomputable def mX11_terms (S : MS) (a1 : Int32) (a2 : Int32) : Option (Int32 × MS) := (mX11_in a1 (nI 0) (nI 999999)).bind fun r1 => (if r1 = 0 then (mX11_refuse S (-2 : Int32)).bind fun ⟨r3, S2⟩ => some (r3, S2) else (mX11_in a2 (nI 0) (nI 60)).bind fun r4 => (if r4 = 0 then (mX11_refuse S (-2 : Int32)).bind fun ⟨r33, S32⟩ => some (r33, S32) else mX11_terms_L29 FU a1 a2 (nI 0) S))
set_option maxHeartbeats 4000000 in
set_option maxRecDepth 100000 in
theorem kX11_terms_L62 {p : Program} {l : Launch} {e : Env} {s : State} {m : MethodId} {below : List Frame} {meth : Method} {c : Code} {D : va_G} {cs : CS} {A : Nat → Prop}  {ad : Nat → Nat} {a1 : Int32} {a2 : Int32} (E : EV p s m [.ref (ad 22), .int a1, .int a2].toArray meth c cX11_terms 7 RX11 (some .int) D cs) (hA : ∀ q : Nat, s.heap.size ≤ q → A q) (z : Int32 × MS) : ∀ (n : Nat) (y2 : Int32) (y3 : Int64) (y5 : Int32) (S : MS), mX11_terms_L62  n y2 y3 y5 S = some z → ∀ (H : Heap) (locs : List Loc), va_P D classes (WM cs ad S) H → va_D A (WM cs ad S) → va_S A s.heap H locs → ∀ ls : Array Slot, lv_has ls 7 [(0, .ref (ad 22)), (2, .int y2), (3, .long y3), (5, .int y5)] → W p l e ({ frames := 3, cells := 0, slots := 0, locals := 70 }) s m [.ref (ad 22), .int a1, .int a2].toArray below meth c H locs 0 0 (MQ below (QWi D cs A (fun u => WM cs ad u) z) [.ref (ad 22), .int a1, .int a2].toArray s 0 0 A) (F0 m 62 ls []) := by
  obtain ⟨hx, hb, hr, hml, hown, hlk, hT, hN, hK⟩ := id E
  intro n
  induction n with
  | zero =>
    intro y2 y3 y5 S hm
    exact nomatch (show (none : Option (Int32 × MS)) = some z from hm)
  | succ n ih =>
    intro y2 y3 y5 S hm H locs hP hD hS ls hl
    rw [mX11_terms_L62_s] at hm
    refine lv_iload hx hb dX11_terms_62 (lv_at hl 3 rfl) ?_
    refine lv_iload_n hx hb dX11_terms_64 rfl (lv_at hl 1 rfl) ?_
    refine x_icmp_ge (tgt := 172) hx hb dX11_terms_65 (by decide) hm (fun hm => ?_) (fun hm => ?_)
    · refine lv_aload_n hx hb dX11_terms_172 rfl (lv_at hl 0 rfl) ?_
      refine lv_aload_n hx hb dX11_terms_173 rfl (lv_at hl 0 rfl) ?_
      refine gf_X11_7 (v := .ref (ad 0)) hx hb hT hown hK hP 0 rfl rfl dX11_terms_174 ?_
      refine lv_sipush (v := (nI 285)) hx hb dX11_terms_177 (by decide) ?_
      refine x_iald hx hb hK hP 1 rfl hm dX11_terms_180 (fun v6 hm => ?_)
      refine xV_i (As := [.int v6]) (rest := []) hx hb hml hown hT hN hK hP cw_X11_165 hm (fun z h => tcX11_hearBy l D cs ad S v6 z h) ⟨rfl, rfl⟩ ⟨by decide, by decide⟩ (b := (ad 22)) 0 rfl rfl rfl hl.1 rfl rfl (Nat.le_of_ble_eq_true rfl) dX11_terms_181 ⟨Nat.zero_le _, Nat.zero_le _⟩ (fun r7 hm => ?_)
      refine xS_i (As := [.int r7]) (rest := []) hx hb hml hown hT hN hK (hP.sub (ws' := []) [] rfl) cw_X11_132 hm (fun z h => tcX11_bits l D cs r7 z h) ⟨rfl, rfl⟩ ⟨by decide, by decide⟩ hl.1 rfl rfl (Nat.le_of_ble_eq_true rfl) dX11_terms_184 ⟨Nat.zero_le _, Nat.zero_le _⟩ (fun r8 hm => ?_)
      exact x_iretW (wf := (fun u => WM cs ad u)) hx hb hr hlk hK hP hD hS hm dX11_terms_187
    · refine lv_lload_n hx hb dX11_terms_68 rfl (lv_at hl 2 rfl) ?_
      refine lv_ldc2 hx hb hown (hT _ tw_1165) dX11_terms_69 ?_
      refine lv_lmul hx hb dX11_terms_72 ?_
      refine lv_ldc2 hx hb hown (hT _ tw_1166) dX11_terms_73 ?_
      refine lv_ladd hx hb dX11_terms_76 ?_
      refine lv_ldc2 hx hb hown (hT _ tw_1167) dX11_terms_77 ?_
      refine lv_lrem hx hb dX11_terms_80 (by decide) ?_
      refine xl_nm hm (fun x9 hm => ?_)
      refine lv_lstore_n (lv' := [(3, .long x9), (0, .ref (ad 22)), (2, .int y2), (5, .int y5)]) hx hb dX11_terms_81 rfl hl (by decide) rfl (fun ls hl => ?_)
      refine lv_lload_n hx hb dX11_terms_82 rfl (lv_at hl 0 rfl) ?_
      refine lv_ldc2 hx hb hown (hT _ tw_1168) dX11_terms_83 ?_
      refine lv_ldiv hx hb dX11_terms_86 (by decide) ?_
      refine lv_ldc2 hx hb hown (hT _ tw_1169) dX11_terms_87 ?_
      refine lv_lrem hx hb dX11_terms_90 (by decide) ?_
      refine lv_l2i hx hb dX11_terms_91 rfl ?_
      refine xi_nm hm (fun x10 hm => ?_)
      refine lv_istore (lv' := [(6, .int x10), (3, .long x9), (0, .ref (ad 22)), (2, .int y2), (5, .int y5)]) hx hb dX11_terms_92 hl (by decide) rfl (fun ls hl => ?_)
      refine lv_aload_n hx hb dX11_terms_94 rfl (lv_at hl 2 rfl) ?_
      refine lv_iload hx hb dX11_terms_95 (lv_at hl 0 rfl) ?_
      refine xV_i (As := [.int x10]) (rest := []) hx hb hml hown hT hN hK hP cw_X11_141 hm (fun z h => tcX11_isFiction l D cs ad S x10 z h) ⟨rfl, rfl⟩ ⟨by decide, by decide⟩ (b := (ad 22)) 0 rfl rfl rfl hl.1 rfl rfl (Nat.le_of_ble_eq_true rfl) dX11_terms_97 ⟨Nat.zero_le _, Nat.zero_le _⟩ (fun r11 hm => ?_)
      refine x_if_eq (tgt := 140) hx hb dX11_terms_100 (by decide) hm (fun hm => ?_) (fun hm => ?_)
      · refine lv_aload_n hx hb dX11_terms_140 rfl (lv_at hl 2 rfl) ?_
        refine gf_X11_7 (v := .ref (ad 0)) hx hb hT hown hK hP 0 rfl rfl dX11_terms_141 ?_
        refine lv_sipush (v := (nI 285)) hx hb dX11_terms_144 (by decide) ?_
        refine x_iald hx hb hK hP 1 rfl hm dX11_terms_147 (fun v12 hm => ?_)
        refine lv_iload hx hb dX11_terms_148 (lv_at hl 0 rfl) ?_
        refine xS_i (As := [.int v12, .int x10]) (rest := []) hx hb hml hown hT hN hK (hP.sub (ws' := []) [] rfl) cw_X11_124 hm (fun z h => tcX11_has l D cs v12 x10 z h) ⟨rfl, rfl⟩ ⟨by decide, by decide⟩ hl.1 rfl rfl (Nat.le_of_ble_eq_true rfl) dX11_terms_150 ⟨Nat.zero_le _, Nat.zero_le _⟩ (fun r13 hm => ?_)
        refine x_if_eq (tgt := 166) hx hb dX11_terms_153 (by decide) hm (fun hm => ?_) (fun hm => ?_)
        · refine x_iinc (lv' := fun x14 => [(5, .int x14), (6, .int x10), (3, .long x9), (0, .ref (ad 22)), (2, .int y2)]) hx hb dX11_terms_166 hl (k := 4) rfl (by decide) (v0 := (nI 1)) (by decide) (fun _ => rfl) hm (fun x14 ls hm hl => ?_)
          refine lv_goto (tgt := 62) hx hb dX11_terms_169 (by decide) ?_
          exact ih y2 x9 x14 S hm H locs hP hD hS ls (lv_sub hl [3, 4, 2, 0] rfl)
        · refine lv_aload_n hx hb dX11_terms_156 rfl (lv_at hl 2 rfl) ?_
          refine lv_sipush (v := (nI 285)) hx hb dX11_terms_157 (by decide) ?_
          refine lv_iload hx hb dX11_terms_160 (lv_at hl 0 rfl) ?_
          refine xVW_i (As := [.int (nI 285), .int x10]) (rest := []) (wr := []) (wg := (fun u => WM cs ad u)) hx hb hml hown hT hN hK hP hD hS hA cw_X11_156 hm (fun z h => tcX11_denyAt l D cs ad H.size S (nI 285) x10 z h) ⟨rfl, rfl⟩ ⟨by decide, by decide⟩ [0, 1, 2, 3, 4, 5, 6, 7, 8, 9, 10, 11] [] [0, 1, 2, 3, 4, 5, 6, 7, 8, 9, 10, 11] rfl (by decide) rfl (by decide) (by decide) (fun _ => rfl) (by decide) (b := (ad 22)) 0 rfl rfl rfl hl.1 rfl rfl (Nat.le_of_ble_eq_true rfl) dX11_terms_162 ⟨Nat.zero_le _, Nat.zero_le _⟩ (fun r16 S15 H locs hm hP hD hS => ?_)
          refine lv_pop hx hb dX11_terms_165 rfl ?_
          refine x_iinc (lv' := fun x17 => [(5, .int x17), (6, .int x10), (3, .long x9), (0, .ref (ad 22)), (2, .int y2)]) hx hb dX11_terms_166 hl (k := 4) rfl (by decide) (v0 := (nI 1)) (by decide) (fun _ => rfl) hm (fun x17 ls hm hl => ?_)
          refine lv_goto (tgt := 62) hx hb dX11_terms_169 (by decide) ?_
          exact ih y2 x9 x17 S15 hm H locs hP hD hS ls (lv_sub hl [3, 4, 2, 0] rfl)
      · refine lv_aload_n hx hb dX11_terms_103 rfl (lv_at hl 2 rfl) ?_
        refine lv_iload hx hb dX11_terms_104 (lv_at hl 0 rfl) ?_
        refine lv_aload_n hx hb dX11_terms_106 rfl (lv_at hl 2 rfl) ?_
        refine gf_X11_7 (v := .ref (ad 0)) hx hb hT hown hK hP 0 rfl rfl dX11_terms_107 ?_
        refine lv_sipush (v := (nI 285)) hx hb dX11_terms_110 (by decide) ?_
        refine x_iald hx hb hK hP 1 rfl hm dX11_terms_113 (fun v18 hm => ?_)
        refine lv_aload_n hx hb dX11_terms_114 rfl (lv_at hl 2 rfl) ?_
        refine gf_X11_7 (v := .ref (ad 0)) hx hb hT hown hK hP 0 rfl rfl dX11_terms_115 ?_
        refine lv_sipush (v := (nI 286)) hx hb dX11_terms_118 (by decide) ?_
        refine x_iald hx hb hK hP 1 rfl hm dX11_terms_121 (fun v19 hm => ?_)
        refine xV_i (As := [.int x10, .int v18, .int v19]) (rest := []) hx hb hml hown hT hN hK hP cw_X11_144 hm (fun z h => tcX11_mayPlead l D cs ad S x10 v18 v19 z h) ⟨rfl, rfl⟩ ⟨by decide, by decide⟩ (b := (ad 22)) 0 rfl rfl rfl hl.1 rfl rfl (Nat.le_of_ble_eq_true rfl) dX11_terms_122 ⟨Nat.zero_le _, Nat.zero_le _⟩ (fun r20 hm => ?_)
        refine x_if_eq (tgt := 140) hx hb dX11_terms_125 (by decide) hm (fun hm => ?_) (fun hm => ?_)
        · refine lv_aload_n hx hb dX11_terms_140 rfl (lv_at hl 2 rfl) ?_
          refine gf_X11_7 (v := .ref (ad 0)) hx hb hT hown hK hP 0 rfl rfl dX11_terms_141 ?_
          refine lv_sipush (v := (nI 285)) hx hb dX11_terms_144 (by decide) ?_
          refine x_iald hx hb hK hP 1 rfl hm dX11_terms_147 (fun v21 hm => ?_)
          refine lv_iload hx hb dX11_terms_148 (lv_at hl 0 rfl) ?_
          refine xS_i (As := [.int v21, .int x10]) (rest := []) hx hb hml hown hT hN hK (hP.sub (ws' := []) [] rfl) cw_X11_124 hm (fun z h => tcX11_has l D cs v21 x10 z h) ⟨rfl, rfl⟩ ⟨by decide, by decide⟩ hl.1 rfl rfl (Nat.le_of_ble_eq_true rfl) dX11_terms_150 ⟨Nat.zero_le _, Nat.zero_le _⟩ (fun r22 hm => ?_)
          refine x_if_eq (tgt := 166) hx hb dX11_terms_153 (by decide) hm (fun hm => ?_) (fun hm => ?_)
          · refine x_iinc (lv' := fun x23 => [(5, .int x23), (6, .int x10), (3, .long x9), (0, .ref (ad 22)), (2, .int y2)]) hx hb dX11_terms_166 hl (k := 4) rfl (by decide) (v0 := (nI 1)) (by decide) (fun _ => rfl) hm (fun x23 ls hm hl => ?_)
            refine lv_goto (tgt := 62) hx hb dX11_terms_169 (by decide) ?_
            exact ih y2 x9 x23 S hm H locs hP hD hS ls (lv_sub hl [3, 4, 2, 0] rfl)
          · refine lv_aload_n hx hb dX11_terms_156 rfl (lv_at hl 2 rfl) ?_
            refine lv_sipush (v := (nI 285)) hx hb dX11_terms_157 (by decide) ?_
            refine lv_iload hx hb dX11_terms_160 (lv_at hl 0 rfl) ?_
            refine xVW_i (As := [.int (nI 285), .int x10]) (rest := []) (wr := []) (wg := (fun u => WM cs ad u)) hx hb hml hown hT hN hK hP hD hS hA cw_X11_156 hm (fun z h => tcX11_denyAt l D cs ad H.size S (nI 285) x10 z h) ⟨rfl, rfl⟩ ⟨by decide, by decide⟩ [0, 1, 2, 3, 4, 5, 6, 7, 8, 9, 10, 11] [] [0, 1, 2, 3, 4, 5, 6, 7, 8, 9, 10, 11] rfl (by decide) rfl (by decide) (by decide) (fun _ => rfl) (by decide) (b := (ad 22)) 0 rfl rfl rfl hl.1 rfl rfl (Nat.le_of_ble_eq_true rfl) dX11_terms_162 ⟨Nat.zero_le _, Nat.zero_le _⟩ (fun r25 S24 H locs hm hP hD hS => ?_)
            refine lv_pop hx hb dX11_terms_165 rfl ?_
            refine x_iinc (lv' := fun x26 => [(5, .int x26), (6, .int x10), (3, .long x9), (0, .ref (ad 22)), (2, .int y2)]) hx hb dX11_terms_166 hl (k := 4) rfl (by decide) (v0 := (nI 1)) (by decide) (fun _ => rfl) hm (fun x26 ls hm hl => ?_)
            refine lv_goto (tgt := 62) hx hb dX11_terms_169 (by decide) ?_
            exact ih y2 x9 x26 S24 hm H locs hP hD hS ls (lv_sub hl [3, 4, 2, 0] rfl)
        · refine lv_aload_n hx hb dX11_terms_128 rfl (lv_at hl 2 rfl) ?_
          refine lv_sipush (v := (nI 285)) hx hb dX11_terms_129 (by decide) ?_
          refine lv_iload hx hb dX11_terms_132 (lv_at hl 0 rfl) ?_
          refine xVW_v (As := [.int (nI 285), .int x10]) (rest := []) (wr := []) (wg := (fun u => WM cs ad u)) hx hb hml hown hT hN hK hP hD hS hA cw_X11_150 hm (fun z h => tcX11_pleadAt l D cs ad H.size S (nI 285) x10 z h) ⟨rfl, rfl⟩ ⟨by decide, by decide⟩ [0, 1, 2, 3, 4, 5, 6, 7, 8, 9, 10, 11] [] [0, 1, 2, 3, 4, 5, 6, 7, 8, 9, 10, 11] rfl (by decide) rfl (by decide) (by decide) (fun _ => rfl) (by decide) (b := (ad 22)) 0 rfl rfl rfl hl.1 rfl rfl (Nat.le_of_ble_eq_true rfl) dX11_terms_134 ⟨Nat.zero_le _, Nat.zero_le _⟩ (fun S27 H locs hm hP hD hS => ?_)
          refine lv_goto (tgt := 166) hx hb dX11_terms_137 (by decide) ?_
          refine x_iinc (lv' := fun x28 => [(5, .int x28), (6, .int x10), (3, .long x9), (0, .ref (ad 22)), (2, .int y2)]) hx hb dX11_terms_166 hl (k := 4) rfl (by decide) (v0 := (nI 1)) (by decide) (fun _ => rfl) hm (fun x28 ls hm hl => ?_)
          refine lv_goto (tgt := 62) hx hb dX11_terms_169 (by decide) ?_
          exact ih y2 x9 x28 S27 hm H locs hP hD hS ls (lv_sub hl [3, 4, 2, 0] rfl)
set_option maxHeartbeats 4000000 in
set_option maxRecDepth 100000 in
theorem kX11_terms_L29 {p : Program} {l : Launch} {e : Env} {s : State} {m : MethodId} {below : List Frame} {meth : Method} {c : Code} {D : va_G} {cs : CS} {A : Nat → Prop}  {ad : Nat → Nat} {a1 : Int32} {a2 : Int32} (E : EV p s m [.ref (ad 22), .int a1, .int a2].toArray meth c cX11_terms 7 RX11 (some .int) D cs) (hA : ∀ q : Nat, s.heap.size ≤ q → A q) (z : Int32 × MS) : ∀ (n : Nat) (y1 : Int32) (y2 : Int32) (y3 : Int32) (S : MS), mX11_terms_L29  n y1 y2 y3 S = some z → ∀ (H : Heap) (locs : List Loc), va_P D classes (WM cs ad S) H → va_D A (WM cs ad S) → va_S A s.heap H locs → ∀ ls : Array Slot, lv_has ls 7 [(0, .ref (ad 22)), (1, .int y1), (2, .int y2), (3, .int y3)] → W p l e ({ frames := 3, cells := 0, slots := 0, locals := 70 }) s m [.ref (ad 22), .int a1, .int a2].toArray below meth c H locs 0 0 (MQ below (QWi D cs A (fun u => WM cs ad u) z) [.ref (ad 22), .int a1, .int a2].toArray s 0 0 A) (F0 m 29 ls []) := by
  obtain ⟨hx, hb, hr, hml, hown, hlk, hT, hN, hK⟩ := id E
  intro n
  induction n with
  | zero =>
    intro y1 y2 y3 S hm
    exact nomatch (show (none : Option (Int32 × MS)) = some z from hm)
  | succ n ih =>
    intro y1 y2 y3 S hm H locs hP hD hS ls hl
    rw [mX11_terms_L29_s] at hm
    refine lv_iload_n hx hb dX11_terms_29 rfl (lv_at hl 3 rfl) ?_
    refine lv_iconst (v := (nI 3)) hx hb dX11_terms_30 (by decide) ?_
    refine x_icmp_ge (tgt := 56) hx hb dX11_terms_31 (by decide) hm (fun hm => ?_) (fun hm => ?_)
    · refine lv_iload_n hx hb dX11_terms_56 rfl (lv_at hl 1 rfl) ?_
      refine lv_i2l hx hb dX11_terms_57 rfl ?_
      refine xl_nm hm (fun x5 hm => ?_)
      refine lv_lstore_n (lv' := [(3, .long x5), (0, .ref (ad 22)), (1, .int y1), (2, .int y2)]) hx hb dX11_terms_58 rfl hl (by decide) rfl (fun ls hl => ?_)
      refine lv_iconst (v := (nI 0)) hx hb dX11_terms_59 (by decide) ?_
      refine lv_istore (lv' := [(5, .int (nI 0)), (3, .long x5), (0, .ref (ad 22)), (1, .int y1), (2, .int y2)]) hx hb dX11_terms_60 hl (by decide) rfl (fun ls hl => ?_)
      exact kX11_terms_L62 E hA _ FU y2 x5 (nI 0) S hm H locs hP hD hS ls (lv_sub hl [2, 4, 1, 0] rfl)
    · refine lv_aload_n hx hb dX11_terms_34 rfl (lv_at hl 0 rfl) ?_
      refine gf_X11_7 (v := .ref (ad 0)) hx hb hT hown hK hP 0 rfl rfl dX11_terms_35 ?_
      refine lv_sipush (v := (nI 285)) hx hb dX11_terms_38 (by decide) ?_
      refine lv_iload_n hx hb dX11_terms_41 rfl (lv_at hl 3 rfl) ?_
      refine lv_iadd hx hb dX11_terms_42 ?_
      refine lv_aload_n hx hb dX11_terms_43 rfl (lv_at hl 0 rfl) ?_
      refine gf_X11_7 (v := .ref (ad 0)) hx hb hT hown hK hP 0 rfl rfl dX11_terms_44 ?_
      refine lv_iload_n hx hb dX11_terms_47 rfl (lv_at hl 3 rfl) ?_
      refine x_iald hx hb hK hP 1 rfl hm dX11_terms_48 (fun v29 hm => ?_)
      refine x_iast hx hb hK hP hD hS 1 rfl (fun j => mA S 0 j v29) (fun u => WM cs ad u) (fun _ => rfl) hm dX11_terms_49 (fun S30 H locs hm hP hD hS => ?_)
      refine x_iinc (lv' := fun x31 => [(3, .int x31), (0, .ref (ad 22)), (1, .int y1), (2, .int y2)]) hx hb dX11_terms_50 hl (k := 3) rfl (by decide) (v0 := (nI 1)) (by decide) (fun _ => rfl) hm (fun x31 ls hm hl => ?_)
      refine lv_goto (tgt := 29) hx hb dX11_terms_53 (by decide) ?_
      exact ih y1 y2 x31 S30 hm H locs hP hD hS ls (lv_sub hl [1, 2, 3, 0] rfl)
set_option maxHeartbeats 4000000 in
set_option maxRecDepth 100000 in
theorem tcX11_terms (l : Launch) (D : va_G) (cs : CS) (ad : Nat → Nat) (sz : Nat) (S : MS) (a1 : Int32) (a2 : Int32) (z : Int32 × MS) (hm : mX11_terms S a1 a2 = some z) : Met l yX11_terms (Cond.code yX11_terms cX11_terms 7 (some .int) :: gw_tbl) ({ frames := 3, cells := 0, slots := 0, locals := 70 }) (PcW D cs sz (WM cs ad S) [.ref (ad 22), .int a1, .int a2]) (QWi D cs (va_A (WM cs ad S) sz) (fun u => WM cs ad u) z) 0 0 (va_A (WM cs ad S) sz) := by
  refine met_W rfl (Nat.le_of_ble_eq_true rfl) (fun p e s m below meth c E hP hD hS hA ls hl => ?_)
  generalize va_A (WM cs ad S) sz = A at hD hS hA ⊢
  obtain ⟨hx, hb, hr, hml, hown, hlk, hT, hN, hK⟩ := id E
  obtain ⟨H, hH⟩ : ∃ H, H = s.heap := ⟨_, rfl⟩
  obtain ⟨locs, hlo⟩ : ∃ L : List Loc, L = [] := ⟨_, rfl⟩
  have hP : va_P D classes (WM cs ad S) H := by rw [hH]; exact hP
  have hS : va_S A s.heap H locs := by rw [hH, hlo]; exact hS
  rw [show W p l e _ s m _ below meth c s.heap [] 0 0 = W p l e _ s m _ below meth c H locs 0 0 by rw [hH, hlo]]
  have hl : lv_has ls 7 [(0, .ref (ad 22)), (1, .int a1), (2, .int a2)] := hl
  unfold mX11_terms at hm
  refine lv_iload_n hx hb dX11_terms_0 rfl (lv_at hl 1 rfl) ?_
  refine lv_iconst (v := (nI 0)) hx hb dX11_terms_1 (by decide) ?_
  refine lv_ldc hx hb hown (hT _ tw_1164) dX11_terms_2 ?_
  refine xS_i (As := [.int a1, .int (nI 0), .int (nI 999999)]) (rest := []) hx hb hml hown hT hN hK (hP.sub (ws' := []) [] rfl) cw_X11_52 hm (fun z h => tcX11_in l D cs a1 (nI 0) (nI 999999) z h) ⟨rfl, rfl⟩ ⟨by decide, by decide⟩ hl.1 rfl rfl (Nat.le_of_ble_eq_true rfl) dX11_terms_4 ⟨Nat.zero_le _, Nat.zero_le _⟩ (fun r1 hm => ?_)
  refine x_if_eq (tgt := 20) hx hb dX11_terms_7 (by decide) hm (fun hm => ?_) (fun hm => ?_)
  · refine lv_aload_n hx hb dX11_terms_20 rfl (lv_at hl 0 rfl) ?_
    refine lv_bipush (v := (-2 : Int32)) hx hb dX11_terms_21 (by decide) ?_
    refine xVW_i (As := [.int (-2 : Int32)]) (rest := []) (wr := []) (wg := (fun u => WM cs ad u)) hx hb hml hown hT hN hK hP hD hS hA cw_X11_48 hm (fun z h => tcX11_refuse l D cs ad H.size S (-2 : Int32) z h) ⟨rfl, rfl⟩ ⟨by decide, by decide⟩ [0, 1, 2, 3, 4, 5, 6, 7, 8, 9, 10, 11] [] [0, 1, 2, 3, 4, 5, 6, 7, 8, 9, 10, 11] rfl (by decide) rfl (by decide) (by decide) (fun _ => rfl) (by decide) (b := (ad 22)) 0 rfl rfl rfl hl.1 rfl rfl (Nat.le_of_ble_eq_true rfl) dX11_terms_23 ⟨Nat.zero_le _, Nat.zero_le _⟩ (fun r3 S2 H locs hm hP hD hS => ?_)
    exact x_iretW (wf := (fun u => WM cs ad u)) hx hb hr hlk hK hP hD hS hm dX11_terms_26
  · refine lv_iload_n hx hb dX11_terms_10 rfl (lv_at hl 2 rfl) ?_
    refine lv_iconst (v := (nI 0)) hx hb dX11_terms_11 (by decide) ?_
    refine lv_bipush (v := (nI 60)) hx hb dX11_terms_12 (by decide) ?_
    refine xS_i (As := [.int a2, .int (nI 0), .int (nI 60)]) (rest := []) hx hb hml hown hT hN hK (hP.sub (ws' := []) [] rfl) cw_X11_52 hm (fun z h => tcX11_in l D cs a2 (nI 0) (nI 60) z h) ⟨rfl, rfl⟩ ⟨by decide, by decide⟩ hl.1 rfl rfl (Nat.le_of_ble_eq_true rfl) dX11_terms_14 ⟨Nat.zero_le _, Nat.zero_le _⟩ (fun r4 hm => ?_)
    refine x_if_ne (tgt := 27) hx hb dX11_terms_17 (by decide) hm (fun hm => ?_) (fun hm => ?_)
    · refine lv_iconst (v := (nI 0)) hx hb dX11_terms_27 (by decide) ?_
      refine lv_istore_n (lv' := [(3, .int (nI 0)), (0, .ref (ad 22)), (1, .int a1), (2, .int a2)]) hx hb dX11_terms_28 rfl hl (by decide) rfl (fun ls hl => ?_)
      exact kX11_terms_L29 E hA _ FU a1 a2 (nI 0) S hm H locs hP hD hS ls (lv_sub hl [1, 2, 3, 0] rfl)
    · refine lv_aload_n hx hb dX11_terms_20 rfl (lv_at hl 0 rfl) ?_
      refine lv_bipush (v := (-2 : Int32)) hx hb dX11_terms_21 (by decide) ?_
      refine xVW_i (As := [.int (-2 : Int32)]) (rest := []) (wr := []) (wg := (fun u => WM cs ad u)) hx hb hml hown hT hN hK hP hD hS hA cw_X11_48 hm (fun z h => tcX11_refuse l D cs ad H.size S (-2 : Int32) z h) ⟨rfl, rfl⟩ ⟨by decide, by decide⟩ [0, 1, 2, 3, 4, 5, 6, 7, 8, 9, 10, 11] [] [0, 1, 2, 3, 4, 5, 6, 7, 8, 9, 10, 11] rfl (by decide) rfl (by decide) (by decide) (fun _ => rfl) (by decide) (b := (ad 22)) 0 rfl rfl rfl hl.1 rfl rfl (Nat.le_of_ble_eq_true rfl) dX11_terms_23 ⟨Nat.zero_le _, Nat.zero_le _⟩ (fun r33 S32 H locs hm hP hD hS => ?_)
      exact x_iretW (wf := (fun u => WM cs ad u)) hx hb hr hlk hK hP hD hS hm dX11_terms_26
noncomputable def mX11_part (S : MS) (a1 : Int32) : Option (Int64 × MS) := (if a1 = 0 then some ((S.2.2 3), S) else (if a1 = (nI 1) then some ((S.2.2 4), S) else (mX11_refuse S (-2 : Int32)).bind fun ⟨r2, S1⟩ => some (r2.toInt64, S1)))
set_option maxHeartbeats 4000000 in
set_option maxRecDepth 100000 in
theorem tcX11_part (l : Launch) (D : va_G) (cs : CS) (ad : Nat → Nat) (sz : Nat) (S : MS) (a1 : Int32) (z : Int64 × MS) (hm : mX11_part S a1 = some z) : Met l yX11_part (Cond.code yX11_part cX11_part 2 (some .long) :: gw_tbl) ({ frames := 1, cells := 0, slots := 0, locals := 21 }) (PcW D cs sz (WM cs ad S) [.ref (ad 22), .int a1]) (QWl D cs (va_A (WM cs ad S) sz) (fun u => WM cs ad u) z) 0 0 (va_A (WM cs ad S) sz) := by
  refine met_W rfl (Nat.le_of_ble_eq_true rfl) (fun p e s m below meth c E hP hD hS hA ls hl => ?_)
  generalize va_A (WM cs ad S) sz = A at hD hS hA ⊢
  obtain ⟨hx, hb, hr, hml, hown, hlk, hT, hN, hK⟩ := id E
  obtain ⟨H, hH⟩ : ∃ H, H = s.heap := ⟨_, rfl⟩
  obtain ⟨locs, hlo⟩ : ∃ L : List Loc, L = [] := ⟨_, rfl⟩
  have hP : va_P D classes (WM cs ad S) H := by rw [hH]; exact hP
  have hS : va_S A s.heap H locs := by rw [hH, hlo]; exact hS
  rw [show W p l e _ s m _ below meth c s.heap [] 0 0 = W p l e _ s m _ below meth c H locs 0 0 by rw [hH, hlo]]
  have hl : lv_has ls 2 [(0, .ref (ad 22)), (1, .int a1)] := hl
  unfold mX11_part at hm
  refine lv_iload_n hx hb dX11_part_0 rfl (lv_at hl 1 rfl) ?_
  refine x_if_ne (tgt := 11) hx hb dX11_part_1 (by decide) hm (fun hm => ?_) (fun hm => ?_)
  · refine lv_iload_n hx hb dX11_part_11 rfl (lv_at hl 1 rfl) ?_
    refine lv_iconst (v := (nI 1)) hx hb dX11_part_12 (by decide) ?_
    refine x_icmp_ne (tgt := 23) hx hb dX11_part_13 (by decide) hm (fun hm => ?_) (fun hm => ?_)
    · refine lv_aload_n hx hb dX11_part_23 rfl (lv_at hl 0 rfl) ?_
      refine lv_bipush (v := (-2 : Int32)) hx hb dX11_part_24 (by decide) ?_
      refine xVW_i (As := [.int (-2 : Int32)]) (rest := []) (wr := []) (wg := (fun u => WM cs ad u)) hx hb hml hown hT hN hK hP hD hS hA cw_X11_48 hm (fun z h => tcX11_refuse l D cs ad H.size S (-2 : Int32) z h) ⟨rfl, rfl⟩ ⟨by decide, by decide⟩ [0, 1, 2, 3, 4, 5, 6, 7, 8, 9, 10, 11] [] [0, 1, 2, 3, 4, 5, 6, 7, 8, 9, 10, 11] rfl (by decide) rfl (by decide) (by decide) (fun _ => rfl) (by decide) (b := (ad 22)) 0 rfl rfl rfl hl.1 rfl rfl (Nat.le_of_ble_eq_true rfl) dX11_part_26 ⟨Nat.zero_le _, Nat.zero_le _⟩ (fun r2 S1 H locs hm hP hD hS => ?_)
      refine lv_i2l hx hb dX11_part_29 rfl ?_
      exact x_lretW (wf := (fun u => WM cs ad u)) hx hb hr hlk hK hP hD hS hm dX11_part_30
    · refine lv_aload_n hx hb dX11_part_16 rfl (lv_at hl 0 rfl) ?_
      refine gf_X11_20 (v := .long (S.2.2 4)) hx hb hT hown hK hP 0 rfl rfl dX11_part_17 ?_
      refine lv_goto (tgt := 30) hx hb dX11_part_20 (by decide) ?_
      exact x_lretW (wf := (fun u => WM cs ad u)) hx hb hr hlk hK hP hD hS hm dX11_part_30
  · refine lv_aload_n hx hb dX11_part_4 rfl (lv_at hl 0 rfl) ?_
    refine gf_X11_212 (v := .long (S.2.2 3)) hx hb hT hown hK hP 0 rfl rfl dX11_part_5 ?_
    refine lv_goto (tgt := 30) hx hb dX11_part_8 (by decide) ?_
    exact x_lretW (wf := (fun u => WM cs ad u)) hx hb hr hlk hK hP hD hS hm dX11_part_30
noncomputable def mX11_image_L18  : Nat → Int32 → Int32 → MS → Option (Int32 × MS) := fun n => Nat.rec (motive := fun _ => Int32 → Int32 → MS → Option (Int32 × MS)) (fun _ _ _ => none) (fun _ rc => fun y1 y2 S => (if (nI 95) ≤ y2 then ast 2 y1 <| nm (mA S 1 y1.toNatClampNeg (nI 1)) fun S2 => some ((nI 1), S2) else ald (S.1 0) 288 y2 fun v3 => ast 288 (((nI 95) + ((nI 95) * y1)) + y2) <| nm (mA S 0 ((((nI 95) + ((nI 95) * y1)) + y2).toNatClampNeg) v3) fun S4 => nm (y2 + (nI 1)) fun x5 => rc y1 x5 S4)) n
theorem mX11_image_L18_s  (n : Nat) (y1 : Int32) (y2 : Int32) (S : MS) : mX11_image_L18  (n + 1) y1 y2 S = (if (nI 95) ≤ y2 then ast 2 y1 <| nm (mA S 1 y1.toNatClampNeg (nI 1)) fun S2 => some ((nI 1), S2) else ald (S.1 0) 288 y2 fun v3 => ast 288 (((nI 95) + ((nI 95) * y1)) + y2) <| nm (mA S 0 ((((nI 95) + ((nI 95) * y1)) + y2).toNatClampNeg) v3) fun S4 => nm (y2 + (nI 1)) fun x5 => (mX11_image_L18  n) y1 x5 S4) := rfl
noncomputable def mX11_image (S : MS) (a1 : Int32) : Option (Int32 × MS) := (mX11_in a1 (nI 0) (nI 1)).bind fun r1 => (if r1 = 0 then (mX11_refuse S (-2 : Int32)).bind fun ⟨r7, S6⟩ => some (r7, S6) else mX11_image_L18 FU a1 (nI 0) S)
set_option maxHeartbeats 4000000 in
set_option maxRecDepth 100000 in
theorem kX11_image_L18 {p : Program} {l : Launch} {e : Env} {s : State} {m : MethodId} {below : List Frame} {meth : Method} {c : Code} {D : va_G} {cs : CS} {A : Nat → Prop}  {ad : Nat → Nat} {a1 : Int32} (E : EV p s m [.ref (ad 22), .int a1].toArray meth c cX11_image 3 RX11 (some .int) D cs) (hA : ∀ q : Nat, s.heap.size ≤ q → A q) (z : Int32 × MS) : ∀ (n : Nat) (y1 : Int32) (y2 : Int32) (S : MS), mX11_image_L18  n y1 y2 S = some z → ∀ (H : Heap) (locs : List Loc), va_P D classes (WM cs ad S) H → va_D A (WM cs ad S) → va_S A s.heap H locs → ∀ ls : Array Slot, lv_has ls 3 [(0, .ref (ad 22)), (1, .int y1), (2, .int y2)] → W p l e ({ frames := 1, cells := 0, slots := 0, locals := 22 }) s m [.ref (ad 22), .int a1].toArray below meth c H locs 0 0 (MQ below (QWi D cs A (fun u => WM cs ad u) z) [.ref (ad 22), .int a1].toArray s 0 0 A) (F0 m 18 ls []) := by
  obtain ⟨hx, hb, hr, hml, hown, hlk, hT, hN, hK⟩ := id E
  intro n
  induction n with
  | zero =>
    intro y1 y2 S hm
    exact nomatch (show (none : Option (Int32 × MS)) = some z from hm)
  | succ n ih =>
    intro y1 y2 S hm H locs hP hD hS ls hl
    rw [mX11_image_L18_s] at hm
    refine lv_iload_n hx hb dX11_image_18 rfl (lv_at hl 2 rfl) ?_
    refine lv_bipush (v := (nI 95)) hx hb dX11_image_19 (by decide) ?_
    refine x_icmp_ge (tgt := 50) hx hb dX11_image_21 (by decide) hm (fun hm => ?_) (fun hm => ?_)
    · refine lv_aload_n hx hb dX11_image_50 rfl (lv_at hl 0 rfl) ?_
      refine gf_X11_13 (v := .ref (ad 1)) hx hb hT hown hK hP 0 rfl rfl dX11_image_51 ?_
      refine lv_iload_n hx hb dX11_image_54 rfl (lv_at hl 1 rfl) ?_
      refine lv_iconst (v := (nI 1)) hx hb dX11_image_55 (by decide) ?_
      refine x_zast hx hb hK hP hD hS 2 rfl (by decide +kernel) (fun j => mA S 1 j (nI 1)) (fun u => WM cs ad u) (fun _ => rfl) hm dX11_image_56 (fun S2 H locs hm hP hD hS => ?_)
      refine lv_iconst (v := (nI 1)) hx hb dX11_image_57 (by decide) ?_
      exact x_iretW (wf := (fun u => WM cs ad u)) hx hb hr hlk hK hP hD hS hm dX11_image_58
    · refine lv_aload_n hx hb dX11_image_24 rfl (lv_at hl 0 rfl) ?_
      refine gf_X11_7 (v := .ref (ad 0)) hx hb hT hown hK hP 0 rfl rfl dX11_image_25 ?_
      refine lv_bipush (v := (nI 95)) hx hb dX11_image_28 (by decide) ?_
      refine lv_bipush (v := (nI 95)) hx hb dX11_image_30 (by decide) ?_
      refine lv_iload_n hx hb dX11_image_32 rfl (lv_at hl 1 rfl) ?_
      refine lv_imul hx hb dX11_image_33 ?_
      refine lv_iadd hx hb dX11_image_34 ?_
      refine lv_iload_n hx hb dX11_image_35 rfl (lv_at hl 2 rfl) ?_
      refine lv_iadd hx hb dX11_image_36 ?_
      refine lv_aload_n hx hb dX11_image_37 rfl (lv_at hl 0 rfl) ?_
      refine gf_X11_7 (v := .ref (ad 0)) hx hb hT hown hK hP 0 rfl rfl dX11_image_38 ?_
      refine lv_iload_n hx hb dX11_image_41 rfl (lv_at hl 2 rfl) ?_
      refine x_iald hx hb hK hP 1 rfl hm dX11_image_42 (fun v3 hm => ?_)
      refine x_iast hx hb hK hP hD hS 1 rfl (fun j => mA S 0 j v3) (fun u => WM cs ad u) (fun _ => rfl) hm dX11_image_43 (fun S4 H locs hm hP hD hS => ?_)
      refine x_iinc (lv' := fun x5 => [(2, .int x5), (0, .ref (ad 22)), (1, .int y1)]) hx hb dX11_image_44 hl (k := 2) rfl (by decide) (v0 := (nI 1)) (by decide) (fun _ => rfl) hm (fun x5 ls hm hl => ?_)
      refine lv_goto (tgt := 18) hx hb dX11_image_47 (by decide) ?_
      exact ih y1 x5 S4 hm H locs hP hD hS ls (lv_sub hl [1, 2, 0] rfl)
set_option maxHeartbeats 4000000 in
set_option maxRecDepth 100000 in
theorem tcX11_image (l : Launch) (D : va_G) (cs : CS) (ad : Nat → Nat) (sz : Nat) (S : MS) (a1 : Int32) (z : Int32 × MS) (hm : mX11_image S a1 = some z) : Met l yX11_image (Cond.code yX11_image cX11_image 3 (some .int) :: gw_tbl) ({ frames := 1, cells := 0, slots := 0, locals := 22 }) (PcW D cs sz (WM cs ad S) [.ref (ad 22), .int a1]) (QWi D cs (va_A (WM cs ad S) sz) (fun u => WM cs ad u) z) 0 0 (va_A (WM cs ad S) sz) := by
  refine met_W rfl (Nat.le_of_ble_eq_true rfl) (fun p e s m below meth c E hP hD hS hA ls hl => ?_)
  generalize va_A (WM cs ad S) sz = A at hD hS hA ⊢
  obtain ⟨hx, hb, hr, hml, hown, hlk, hT, hN, hK⟩ := id E
  obtain ⟨H, hH⟩ : ∃ H, H = s.heap := ⟨_, rfl⟩
  obtain ⟨locs, hlo⟩ : ∃ L : List Loc, L = [] := ⟨_, rfl⟩
  have hP : va_P D classes (WM cs ad S) H := by rw [hH]; exact hP
  have hS : va_S A s.heap H locs := by rw [hH, hlo]; exact hS
  rw [show W p l e _ s m _ below meth c s.heap [] 0 0 = W p l e _ s m _ below meth c H locs 0 0 by rw [hH, hlo]]
  have hl : lv_has ls 3 [(0, .ref (ad 22)), (1, .int a1)] := hl
  unfold mX11_image at hm
  refine lv_iload_n hx hb dX11_image_0 rfl (lv_at hl 1 rfl) ?_
  refine lv_iconst (v := (nI 0)) hx hb dX11_image_1 (by decide) ?_
  refine lv_iconst (v := (nI 1)) hx hb dX11_image_2 (by decide) ?_
  refine xS_i (As := [.int a1, .int (nI 0), .int (nI 1)]) (rest := []) hx hb hml hown hT hN hK (hP.sub (ws' := []) [] rfl) cw_X11_52 hm (fun z h => tcX11_in l D cs a1 (nI 0) (nI 1) z h) ⟨rfl, rfl⟩ ⟨by decide, by decide⟩ hl.1 rfl rfl (Nat.le_of_ble_eq_true rfl) dX11_image_3 ⟨Nat.zero_le _, Nat.zero_le _⟩ (fun r1 hm => ?_)
  refine x_if_ne (tgt := 16) hx hb dX11_image_6 (by decide) hm (fun hm => ?_) (fun hm => ?_)
  · refine lv_iconst (v := (nI 0)) hx hb dX11_image_16 (by decide) ?_
    refine lv_istore_n (lv' := [(2, .int (nI 0)), (0, .ref (ad 22)), (1, .int a1)]) hx hb dX11_image_17 rfl hl (by decide) rfl (fun ls hl => ?_)
    exact kX11_image_L18 E hA _ FU a1 (nI 0) S hm H locs hP hD hS ls (lv_sub hl [1, 2, 0] rfl)
  · refine lv_aload_n hx hb dX11_image_9 rfl (lv_at hl 0 rfl) ?_
    refine lv_bipush (v := (-2 : Int32)) hx hb dX11_image_10 (by decide) ?_
    refine xVW_i (As := [.int (-2 : Int32)]) (rest := []) (wr := []) (wg := (fun u => WM cs ad u)) hx hb hml hown hT hN hK hP hD hS hA cw_X11_48 hm (fun z h => tcX11_refuse l D cs ad H.size S (-2 : Int32) z h) ⟨rfl, rfl⟩ ⟨by decide, by decide⟩ [0, 1, 2, 3, 4, 5, 6, 7, 8, 9, 10, 11] [] [0, 1, 2, 3, 4, 5, 6, 7, 8, 9, 10, 11] rfl (by decide) rfl (by decide) (by decide) (fun _ => rfl) (by decide) (b := (ad 22)) 0 rfl rfl rfl hl.1 rfl rfl (Nat.le_of_ble_eq_true rfl) dX11_image_12 ⟨Nat.zero_le _, Nat.zero_le _⟩ (fun r7 S6 H locs hm hP hD hS => ?_)
    exact x_iretW (wf := (fun u => WM cs ad u)) hx hb hr hlk hK hP hD hS hm dX11_image_15
noncomputable def mX11_from_L34  : Nat → Int32 → Int32 → MS → Option (Int32 × MS) := fun n => Nat.rec (motive := fun _ => Int32 → Int32 → MS → Option (Int32 × MS)) (fun _ _ _ => none) (fun _ rc => fun y1 y2 S => (if (nI 95) ≤ y2 then some ((nI 1), S) else ald (S.1 0) 288 (((nI 95) + ((nI 95) * y1)) + y2) fun v3 => ast 288 y2 <| nm (mA S 0 y2.toNatClampNeg v3) fun S4 => nm (y2 + (nI 1)) fun x5 => rc y1 x5 S4)) n
theorem mX11_from_L34_s  (n : Nat) (y1 : Int32) (y2 : Int32) (S : MS) : mX11_from_L34  (n + 1) y1 y2 S = (if (nI 95) ≤ y2 then some ((nI 1), S) else ald (S.1 0) 288 (((nI 95) + ((nI 95) * y1)) + y2) fun v3 => ast 288 y2 <| nm (mA S 0 y2.toNatClampNeg v3) fun S4 => nm (y2 + (nI 1)) fun x5 => (mX11_from_L34  n) y1 x5 S4) := rfl
noncomputable def mX11_from (S : MS) (a1 : Int32) : Option (Int32 × MS) := (mX11_in a1 (nI 0) (nI 1)).bind fun r1 => (if r1 = 0 then (mX11_refuse S (-2 : Int32)).bind fun ⟨r9, S8⟩ => some (r9, S8) else ald (S.1 1) 2 a1 fun v2 => (if v2 = 0 then (mX11_refuse S (-3 : Int32)).bind fun ⟨r7, S6⟩ => some (r7, S6) else mX11_from_L34 FU a1 (nI 0) S))
set_option maxHeartbeats 4000000 in
set_option maxRecDepth 100000 in
theorem kX11_from_L34 {p : Program} {l : Launch} {e : Env} {s : State} {m : MethodId} {below : List Frame} {meth : Method} {c : Code} {D : va_G} {cs : CS} {A : Nat → Prop}  {ad : Nat → Nat} {a1 : Int32} (E : EV p s m [.ref (ad 22), .int a1].toArray meth c cX11_from 3 RX11 (some .int) D cs) (hA : ∀ q : Nat, s.heap.size ≤ q → A q) (z : Int32 × MS) : ∀ (n : Nat) (y1 : Int32) (y2 : Int32) (S : MS), mX11_from_L34  n y1 y2 S = some z → ∀ (H : Heap) (locs : List Loc), va_P D classes (WM cs ad S) H → va_D A (WM cs ad S) → va_S A s.heap H locs → ∀ ls : Array Slot, lv_has ls 3 [(0, .ref (ad 22)), (1, .int y1), (2, .int y2)] → W p l e ({ frames := 1, cells := 0, slots := 0, locals := 22 }) s m [.ref (ad 22), .int a1].toArray below meth c H locs 0 0 (MQ below (QWi D cs A (fun u => WM cs ad u) z) [.ref (ad 22), .int a1].toArray s 0 0 A) (F0 m 34 ls []) := by
  obtain ⟨hx, hb, hr, hml, hown, hlk, hT, hN, hK⟩ := id E
  intro n
  induction n with
  | zero =>
    intro y1 y2 S hm
    exact nomatch (show (none : Option (Int32 × MS)) = some z from hm)
  | succ n ih =>
    intro y1 y2 S hm H locs hP hD hS ls hl
    rw [mX11_from_L34_s] at hm
    refine lv_iload_n hx hb dX11_from_34 rfl (lv_at hl 2 rfl) ?_
    refine lv_bipush (v := (nI 95)) hx hb dX11_from_35 (by decide) ?_
    refine x_icmp_ge (tgt := 66) hx hb dX11_from_37 (by decide) hm (fun hm => ?_) (fun hm => ?_)
    · refine lv_iconst (v := (nI 1)) hx hb dX11_from_66 (by decide) ?_
      exact x_iretW (wf := (fun u => WM cs ad u)) hx hb hr hlk hK hP hD hS hm dX11_from_67
    · refine lv_aload_n hx hb dX11_from_40 rfl (lv_at hl 0 rfl) ?_
      refine gf_X11_7 (v := .ref (ad 0)) hx hb hT hown hK hP 0 rfl rfl dX11_from_41 ?_
      refine lv_iload_n hx hb dX11_from_44 rfl (lv_at hl 2 rfl) ?_
      refine lv_aload_n hx hb dX11_from_45 rfl (lv_at hl 0 rfl) ?_
      refine gf_X11_7 (v := .ref (ad 0)) hx hb hT hown hK hP 0 rfl rfl dX11_from_46 ?_
      refine lv_bipush (v := (nI 95)) hx hb dX11_from_49 (by decide) ?_
      refine lv_bipush (v := (nI 95)) hx hb dX11_from_51 (by decide) ?_
      refine lv_iload_n hx hb dX11_from_53 rfl (lv_at hl 1 rfl) ?_
      refine lv_imul hx hb dX11_from_54 ?_
      refine lv_iadd hx hb dX11_from_55 ?_
      refine lv_iload_n hx hb dX11_from_56 rfl (lv_at hl 2 rfl) ?_
      refine lv_iadd hx hb dX11_from_57 ?_
      refine x_iald hx hb hK hP 1 rfl hm dX11_from_58 (fun v3 hm => ?_)
      refine x_iast hx hb hK hP hD hS 1 rfl (fun j => mA S 0 j v3) (fun u => WM cs ad u) (fun _ => rfl) hm dX11_from_59 (fun S4 H locs hm hP hD hS => ?_)
      refine x_iinc (lv' := fun x5 => [(2, .int x5), (0, .ref (ad 22)), (1, .int y1)]) hx hb dX11_from_60 hl (k := 2) rfl (by decide) (v0 := (nI 1)) (by decide) (fun _ => rfl) hm (fun x5 ls hm hl => ?_)
      refine lv_goto (tgt := 34) hx hb dX11_from_63 (by decide) ?_
      exact ih y1 x5 S4 hm H locs hP hD hS ls (lv_sub hl [1, 2, 0] rfl)
set_option maxHeartbeats 4000000 in
set_option maxRecDepth 100000 in
theorem tcX11_from (l : Launch) (D : va_G) (cs : CS) (ad : Nat → Nat) (sz : Nat) (S : MS) (a1 : Int32) (z : Int32 × MS) (hm : mX11_from S a1 = some z) : Met l yX11_from (Cond.code yX11_from cX11_from 3 (some .int) :: gw_tbl) ({ frames := 1, cells := 0, slots := 0, locals := 22 }) (PcW D cs sz (WM cs ad S) [.ref (ad 22), .int a1]) (QWi D cs (va_A (WM cs ad S) sz) (fun u => WM cs ad u) z) 0 0 (va_A (WM cs ad S) sz) := by
  refine met_W rfl (Nat.le_of_ble_eq_true rfl) (fun p e s m below meth c E hP hD hS hA ls hl => ?_)
  generalize va_A (WM cs ad S) sz = A at hD hS hA ⊢
  obtain ⟨hx, hb, hr, hml, hown, hlk, hT, hN, hK⟩ := id E
  obtain ⟨H, hH⟩ : ∃ H, H = s.heap := ⟨_, rfl⟩
  obtain ⟨locs, hlo⟩ : ∃ L : List Loc, L = [] := ⟨_, rfl⟩
  have hP : va_P D classes (WM cs ad S) H := by rw [hH]; exact hP
  have hS : va_S A s.heap H locs := by rw [hH, hlo]; exact hS
  rw [show W p l e _ s m _ below meth c s.heap [] 0 0 = W p l e _ s m _ below meth c H locs 0 0 by rw [hH, hlo]]
  have hl : lv_has ls 3 [(0, .ref (ad 22)), (1, .int a1)] := hl
  unfold mX11_from at hm
  refine lv_iload_n hx hb dX11_from_0 rfl (lv_at hl 1 rfl) ?_
  refine lv_iconst (v := (nI 0)) hx hb dX11_from_1 (by decide) ?_
  refine lv_iconst (v := (nI 1)) hx hb dX11_from_2 (by decide) ?_
  refine xS_i (As := [.int a1, .int (nI 0), .int (nI 1)]) (rest := []) hx hb hml hown hT hN hK (hP.sub (ws' := []) [] rfl) cw_X11_52 hm (fun z h => tcX11_in l D cs a1 (nI 0) (nI 1) z h) ⟨rfl, rfl⟩ ⟨by decide, by decide⟩ hl.1 rfl rfl (Nat.le_of_ble_eq_true rfl) dX11_from_3 ⟨Nat.zero_le _, Nat.zero_le _⟩ (fun r1 hm => ?_)
  refine x_if_ne (tgt := 16) hx hb dX11_from_6 (by decide) hm (fun hm => ?_) (fun hm => ?_)
  · refine lv_aload_n hx hb dX11_from_16 rfl (lv_at hl 0 rfl) ?_
    refine gf_X11_13 (v := .ref (ad 1)) hx hb hT hown hK hP 0 rfl rfl dX11_from_17 ?_
    refine lv_iload_n hx hb dX11_from_20 rfl (lv_at hl 1 rfl) ?_
    refine x_zald hx hb hK hP 2 rfl hm dX11_from_21 (fun v2 hm => ?_)
    refine x_if_ne (tgt := 32) hx hb dX11_from_22 (by decide) hm (fun hm => ?_) (fun hm => ?_)
    · refine lv_iconst (v := (nI 0)) hx hb dX11_from_32 (by decide) ?_
      refine lv_istore_n (lv' := [(2, .int (nI 0)), (0, .ref (ad 22)), (1, .int a1)]) hx hb dX11_from_33 rfl hl (by decide) rfl (fun ls hl => ?_)
      exact kX11_from_L34 E hA _ FU a1 (nI 0) S hm H locs hP hD hS ls (lv_sub hl [1, 2, 0] rfl)
    · refine lv_aload_n hx hb dX11_from_25 rfl (lv_at hl 0 rfl) ?_
      refine lv_bipush (v := (-3 : Int32)) hx hb dX11_from_26 (by decide) ?_
      refine xVW_i (As := [.int (-3 : Int32)]) (rest := []) (wr := []) (wg := (fun u => WM cs ad u)) hx hb hml hown hT hN hK hP hD hS hA cw_X11_48 hm (fun z h => tcX11_refuse l D cs ad H.size S (-3 : Int32) z h) ⟨rfl, rfl⟩ ⟨by decide, by decide⟩ [0, 1, 2, 3, 4, 5, 6, 7, 8, 9, 10, 11] [] [0, 1, 2, 3, 4, 5, 6, 7, 8, 9, 10, 11] rfl (by decide) rfl (by decide) (by decide) (fun _ => rfl) (by decide) (b := (ad 22)) 0 rfl rfl rfl hl.1 rfl rfl (Nat.le_of_ble_eq_true rfl) dX11_from_28 ⟨Nat.zero_le _, Nat.zero_le _⟩ (fun r7 S6 H locs hm hP hD hS => ?_)
      exact x_iretW (wf := (fun u => WM cs ad u)) hx hb hr hlk hK hP hD hS hm dX11_from_31
  · refine lv_aload_n hx hb dX11_from_9 rfl (lv_at hl 0 rfl) ?_
    refine lv_bipush (v := (-2 : Int32)) hx hb dX11_from_10 (by decide) ?_
    refine xVW_i (As := [.int (-2 : Int32)]) (rest := []) (wr := []) (wg := (fun u => WM cs ad u)) hx hb hml hown hT hN hK hP hD hS hA cw_X11_48 hm (fun z h => tcX11_refuse l D cs ad H.size S (-2 : Int32) z h) ⟨rfl, rfl⟩ ⟨by decide, by decide⟩ [0, 1, 2, 3, 4, 5, 6, 7, 8, 9, 10, 11] [] [0, 1, 2, 3, 4, 5, 6, 7, 8, 9, 10, 11] rfl (by decide) rfl (by decide) (by decide) (fun _ => rfl) (by decide) (b := (ad 22)) 0 rfl rfl rfl hl.1 rfl rfl (Nat.le_of_ble_eq_true rfl) dX11_from_12 ⟨Nat.zero_le _, Nat.zero_le _⟩ (fun r9 S8 H locs hm hP hD hS => ?_)
    exact x_iretW (wf := (fun u => WM cs ad u)) hx hb hr hlk hK hP hD hS hm dX11_from_15
noncomputable def mX11_status (S : MS) (a1 : Int32) : Option (Int32 × MS) := (mX11_in a1 (nI 0) (nI 2)).bind fun r1 => (if r1 = 0 then (mX11_refuse S (-2 : Int32)).bind fun ⟨r4, S3⟩ => some ((-1 : Int32), S3) else ald (S.1 2) 3 a1 fun v2 => some (v2, S))
set_option maxHeartbeats 4000000 in
set_option maxRecDepth 100000 in
theorem tcX11_status (l : Launch) (D : va_G) (cs : CS) (ad : Nat → Nat) (sz : Nat) (S : MS) (a1 : Int32) (z : Int32 × MS) (hm : mX11_status S a1 = some z) : Met l yX11_status (Cond.code yX11_status cX11_status 2 (some .int) :: gw_tbl) ({ frames := 1, cells := 0, slots := 0, locals := 22 }) (PcW D cs sz (WM cs ad S) [.ref (ad 22), .int a1]) (QWi D cs (va_A (WM cs ad S) sz) (fun u => WM cs ad u) z) 0 0 (va_A (WM cs ad S) sz) := by
  refine met_W rfl (Nat.le_of_ble_eq_true rfl) (fun p e s m below meth c E hP hD hS hA ls hl => ?_)
  generalize va_A (WM cs ad S) sz = A at hD hS hA ⊢
  obtain ⟨hx, hb, hr, hml, hown, hlk, hT, hN, hK⟩ := id E
  obtain ⟨H, hH⟩ : ∃ H, H = s.heap := ⟨_, rfl⟩
  obtain ⟨locs, hlo⟩ : ∃ L : List Loc, L = [] := ⟨_, rfl⟩
  have hP : va_P D classes (WM cs ad S) H := by rw [hH]; exact hP
  have hS : va_S A s.heap H locs := by rw [hH, hlo]; exact hS
  rw [show W p l e _ s m _ below meth c s.heap [] 0 0 = W p l e _ s m _ below meth c H locs 0 0 by rw [hH, hlo]]
  have hl : lv_has ls 2 [(0, .ref (ad 22)), (1, .int a1)] := hl
  unfold mX11_status at hm
  refine lv_iload_n hx hb dX11_status_0 rfl (lv_at hl 1 rfl) ?_
  refine lv_iconst (v := (nI 0)) hx hb dX11_status_1 (by decide) ?_
  refine lv_iconst (v := (nI 2)) hx hb dX11_status_2 (by decide) ?_
  refine xS_i (As := [.int a1, .int (nI 0), .int (nI 2)]) (rest := []) hx hb hml hown hT hN hK (hP.sub (ws' := []) [] rfl) cw_X11_52 hm (fun z h => tcX11_in l D cs a1 (nI 0) (nI 2) z h) ⟨rfl, rfl⟩ ⟨by decide, by decide⟩ hl.1 rfl rfl (Nat.le_of_ble_eq_true rfl) dX11_status_3 ⟨Nat.zero_le _, Nat.zero_le _⟩ (fun r1 hm => ?_)
  refine x_if_ne (tgt := 18) hx hb dX11_status_6 (by decide) hm (fun hm => ?_) (fun hm => ?_)
  · refine lv_aload_n hx hb dX11_status_18 rfl (lv_at hl 0 rfl) ?_
    refine gf_X11_17 (v := .ref (ad 2)) hx hb hT hown hK hP 0 rfl rfl dX11_status_19 ?_
    refine lv_iload_n hx hb dX11_status_22 rfl (lv_at hl 1 rfl) ?_
    refine x_iald hx hb hK hP 3 rfl hm dX11_status_23 (fun v2 hm => ?_)
    exact x_iretW (wf := (fun u => WM cs ad u)) hx hb hr hlk hK hP hD hS hm dX11_status_24
  · refine lv_aload_n hx hb dX11_status_9 rfl (lv_at hl 0 rfl) ?_
    refine lv_bipush (v := (-2 : Int32)) hx hb dX11_status_10 (by decide) ?_
    refine xVW_i (As := [.int (-2 : Int32)]) (rest := []) (wr := []) (wg := (fun u => WM cs ad u)) hx hb hml hown hT hN hK hP hD hS hA cw_X11_48 hm (fun z h => tcX11_refuse l D cs ad H.size S (-2 : Int32) z h) ⟨rfl, rfl⟩ ⟨by decide, by decide⟩ [0, 1, 2, 3, 4, 5, 6, 7, 8, 9, 10, 11] [] [0, 1, 2, 3, 4, 5, 6, 7, 8, 9, 10, 11] rfl (by decide) rfl (by decide) (by decide) (fun _ => rfl) (by decide) (b := (ad 22)) 0 rfl rfl rfl hl.1 rfl rfl (Nat.le_of_ble_eq_true rfl) dX11_status_12 ⟨Nat.zero_le _, Nat.zero_le _⟩ (fun r4 S3 H locs hm hP hD hS => ?_)
    refine lv_pop hx hb dX11_status_15 rfl ?_
    refine lv_iconst (v := (-1 : Int32)) hx hb dX11_status_16 (by decide) ?_
    exact x_iretW (wf := (fun u => WM cs ad u)) hx hb hr hlk hK hP hD hS hm dX11_status_17
noncomputable def mX11_count (S : MS) (a1 : Int32) : Option (Int32 × MS) := (mX11_in a1 (nI 0) (nI 7)).bind fun r1 => (if r1 = 0 then (mX11_refuse S (-2 : Int32)).bind fun ⟨r3, S2⟩ => some (r3, S2) else (mX11_countOf S a1).bind fun r4 => some (r4, S))
set_option maxHeartbeats 4000000 in
set_option maxRecDepth 100000 in
theorem tcX11_count (l : Launch) (D : va_G) (cs : CS) (ad : Nat → Nat) (sz : Nat) (S : MS) (a1 : Int32) (z : Int32 × MS) (hm : mX11_count S a1 = some z) : Met l yX11_count (Cond.code yX11_count cX11_count 2 (some .int) :: gw_tbl) ({ frames := 3, cells := 0, slots := 0, locals := 65 }) (PcW D cs sz (WM cs ad S) [.ref (ad 22), .int a1]) (QWi D cs (va_A (WM cs ad S) sz) (fun u => WM cs ad u) z) 0 0 (va_A (WM cs ad S) sz) := by
  refine met_W rfl (Nat.le_of_ble_eq_true rfl) (fun p e s m below meth c E hP hD hS hA ls hl => ?_)
  generalize va_A (WM cs ad S) sz = A at hD hS hA ⊢
  obtain ⟨hx, hb, hr, hml, hown, hlk, hT, hN, hK⟩ := id E
  obtain ⟨H, hH⟩ : ∃ H, H = s.heap := ⟨_, rfl⟩
  obtain ⟨locs, hlo⟩ : ∃ L : List Loc, L = [] := ⟨_, rfl⟩
  have hP : va_P D classes (WM cs ad S) H := by rw [hH]; exact hP
  have hS : va_S A s.heap H locs := by rw [hH, hlo]; exact hS
  rw [show W p l e _ s m _ below meth c s.heap [] 0 0 = W p l e _ s m _ below meth c H locs 0 0 by rw [hH, hlo]]
  have hl : lv_has ls 2 [(0, .ref (ad 22)), (1, .int a1)] := hl
  unfold mX11_count at hm
  refine lv_iload_n hx hb dX11_count_0 rfl (lv_at hl 1 rfl) ?_
  refine lv_iconst (v := (nI 0)) hx hb dX11_count_1 (by decide) ?_
  refine lv_bipush (v := (nI 7)) hx hb dX11_count_2 (by decide) ?_
  refine xS_i (As := [.int a1, .int (nI 0), .int (nI 7)]) (rest := []) hx hb hml hown hT hN hK (hP.sub (ws' := []) [] rfl) cw_X11_52 hm (fun z h => tcX11_in l D cs a1 (nI 0) (nI 7) z h) ⟨rfl, rfl⟩ ⟨by decide, by decide⟩ hl.1 rfl rfl (Nat.le_of_ble_eq_true rfl) dX11_count_4 ⟨Nat.zero_le _, Nat.zero_le _⟩ (fun r1 hm => ?_)
  refine x_if_eq (tgt := 18) hx hb dX11_count_7 (by decide) hm (fun hm => ?_) (fun hm => ?_)
  · refine lv_aload_n hx hb dX11_count_18 rfl (lv_at hl 0 rfl) ?_
    refine lv_bipush (v := (-2 : Int32)) hx hb dX11_count_19 (by decide) ?_
    refine xVW_i (As := [.int (-2 : Int32)]) (rest := []) (wr := []) (wg := (fun u => WM cs ad u)) hx hb hml hown hT hN hK hP hD hS hA cw_X11_48 hm (fun z h => tcX11_refuse l D cs ad H.size S (-2 : Int32) z h) ⟨rfl, rfl⟩ ⟨by decide, by decide⟩ [0, 1, 2, 3, 4, 5, 6, 7, 8, 9, 10, 11] [] [0, 1, 2, 3, 4, 5, 6, 7, 8, 9, 10, 11] rfl (by decide) rfl (by decide) (by decide) (fun _ => rfl) (by decide) (b := (ad 22)) 0 rfl rfl rfl hl.1 rfl rfl (Nat.le_of_ble_eq_true rfl) dX11_count_21 ⟨Nat.zero_le _, Nat.zero_le _⟩ (fun r3 S2 H locs hm hP hD hS => ?_)
    exact x_iretW (wf := (fun u => WM cs ad u)) hx hb hr hlk hK hP hD hS hm dX11_count_24
  · refine lv_aload_n hx hb dX11_count_10 rfl (lv_at hl 0 rfl) ?_
    refine lv_iload_n hx hb dX11_count_11 rfl (lv_at hl 1 rfl) ?_
    refine xV_i (As := [.int a1]) (rest := []) hx hb hml hown hT hN hK hP cw_X11_230 hm (fun z h => tcX11_countOf l D cs ad S a1 z h) ⟨rfl, rfl⟩ ⟨by decide, by decide⟩ (b := (ad 22)) 0 rfl rfl rfl hl.1 rfl rfl (Nat.le_of_ble_eq_true rfl) dX11_count_12 ⟨Nat.zero_le _, Nat.zero_le _⟩ (fun r4 hm => ?_)
    refine lv_goto (tgt := 24) hx hb dX11_count_15 (by decide) ?_
    exact x_iretW (wf := (fun u => WM cs ad u)) hx hb hr hlk hK hP hD hS hm dX11_count_24
