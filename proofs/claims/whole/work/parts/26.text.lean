noncomputable def mX0_isLetter (a1 : Int32) : Option Int32 := (if a1 < (nI 97) then zo (nI 0) (some (nI 0)) else (if (nI 122) < a1 then zo (nI 0) (some (nI 0)) else zo (nI 1) (some (nI 1))))
set_option maxHeartbeats 4000000 in
set_option maxRecDepth 100000 in
theorem tcX0_isLetter (l : Launch) (D : va_G) (cs : CS) (a1 : Int32) (z : Int32) (hm : mX0_isLetter a1 = some z) : Met l yX0_isLetter (Cond.code yX0_isLetter cX0_isLetter 1 (some .boolean) :: gw_tbl) ({ frames := 0, cells := 0, slots := 0, locals := 0 }) (PcR D cs ([]) [.int a1]) (QRi z) 0 0 NoF := by
  refine met_R rfl (Nat.le_of_ble_eq_true rfl) (fun p e s m below meth c E hP ls hl => ?_)
  obtain ⟨hx, hb, hr, hml, hown, hlk, hT, hN, hK⟩ := id E
  have hl : lv_has ls 1 [(0, .int a1)] := hl
  unfold mX0_isLetter at hm
  refine lv_iload_n hx hb dX0_isLetter_0 rfl (lv_at hl 0 rfl) ?_
  refine lv_bipush (v := (nI 97)) hx hb dX0_isLetter_1 (by decide) ?_
  refine x_icmp_lt (tgt := 16) hx hb dX0_isLetter_3 (by decide) hm (fun hm => ?_) (fun hm => ?_)
  · refine lv_iconst (v := (nI 0)) hx hb dX0_isLetter_16 (by decide) ?_
    exact x_zretR hx hb hr hlk hm dX0_isLetter_17
  · refine lv_iload_n hx hb dX0_isLetter_6 rfl (lv_at hl 0 rfl) ?_
    refine lv_bipush (v := (nI 122)) hx hb dX0_isLetter_7 (by decide) ?_
    refine x_icmp_gt (tgt := 16) hx hb dX0_isLetter_9 (by decide) hm (fun hm => ?_) (fun hm => ?_)
    · refine lv_iconst (v := (nI 0)) hx hb dX0_isLetter_16 (by decide) ?_
      exact x_zretR hx hb hr hlk hm dX0_isLetter_17
    · refine lv_iconst (v := (nI 1)) hx hb dX0_isLetter_12 (by decide) ?_
      refine lv_goto (tgt := 17) hx hb dX0_isLetter_13 (by decide) ?_
      exact x_zretR hx hb hr hlk hm dX0_isLetter_17
noncomputable def mX0_isFigure (a1 : Int32) : Option Int32 := (if a1 < (nI 48) then zo (nI 0) (some (nI 0)) else (if (nI 57) < a1 then zo (nI 0) (some (nI 0)) else zo (nI 1) (some (nI 1))))
set_option maxHeartbeats 4000000 in
set_option maxRecDepth 100000 in
theorem tcX0_isFigure (l : Launch) (D : va_G) (cs : CS) (a1 : Int32) (z : Int32) (hm : mX0_isFigure a1 = some z) : Met l yX0_isFigure (Cond.code yX0_isFigure cX0_isFigure 1 (some .boolean) :: gw_tbl) ({ frames := 0, cells := 0, slots := 0, locals := 0 }) (PcR D cs ([]) [.int a1]) (QRi z) 0 0 NoF := by
  refine met_R rfl (Nat.le_of_ble_eq_true rfl) (fun p e s m below meth c E hP ls hl => ?_)
  obtain ⟨hx, hb, hr, hml, hown, hlk, hT, hN, hK⟩ := id E
  have hl : lv_has ls 1 [(0, .int a1)] := hl
  unfold mX0_isFigure at hm
  refine lv_iload_n hx hb dX0_isFigure_0 rfl (lv_at hl 0 rfl) ?_
  refine lv_bipush (v := (nI 48)) hx hb dX0_isFigure_1 (by decide) ?_
  refine x_icmp_lt (tgt := 16) hx hb dX0_isFigure_3 (by decide) hm (fun hm => ?_) (fun hm => ?_)
  · refine lv_iconst (v := (nI 0)) hx hb dX0_isFigure_16 (by decide) ?_
    exact x_zretR hx hb hr hlk hm dX0_isFigure_17
  · refine lv_iload_n hx hb dX0_isFigure_6 rfl (lv_at hl 0 rfl) ?_
    refine lv_bipush (v := (nI 57)) hx hb dX0_isFigure_7 (by decide) ?_
    refine x_icmp_gt (tgt := 16) hx hb dX0_isFigure_9 (by decide) hm (fun hm => ?_) (fun hm => ?_)
    · refine lv_iconst (v := (nI 0)) hx hb dX0_isFigure_16 (by decide) ?_
      exact x_zretR hx hb hr hlk hm dX0_isFigure_17
    · refine lv_iconst (v := (nI 1)) hx hb dX0_isFigure_12 (by decide) ?_
      refine lv_goto (tgt := 17) hx hb dX0_isFigure_13 (by decide) ?_
      exact x_zretR hx hb hr hlk hm dX0_isFigure_17
noncomputable def mX0_isFull (S : TX) : Option Int32 := (if (S.2 1) < (nI 150) then zo (nI 0) (some (nI 0)) else zo (nI 1) (some (nI 1)))
set_option maxHeartbeats 4000000 in
set_option maxRecDepth 100000 in
theorem tcX0_isFull (l : Launch) (D : va_G) (cs : CS) (ad : Nat → Nat) (S : TX) (z : Int32) (hm : mX0_isFull S = some z) : Met l yX0_isFull (Cond.code yX0_isFull cX0_isFull 1 (some .boolean) :: gw_tbl) ({ frames := 0, cells := 0, slots := 0, locals := 0 }) (PcR D cs (WX cs ad S) [.ref (ad 90)]) (QRi z) 0 0 NoF := by
  refine met_R rfl (Nat.le_of_ble_eq_true rfl) (fun p e s m below meth c E hP ls hl => ?_)
  obtain ⟨hx, hb, hr, hml, hown, hlk, hT, hN, hK⟩ := id E
  have hl : lv_has ls 1 [(0, .ref (ad 90))] := hl
  unfold mX0_isFull at hm
  refine lv_aload_n hx hb dX0_isFull_0 rfl (lv_at hl 0 rfl) ?_
  refine gf_X0_15 (v := .int (S.2 1)) hx hb hT hown hK hP 0 rfl rfl dX0_isFull_1 ?_
  refine lv_sipush (v := (nI 150)) hx hb dX0_isFull_4 (by decide) ?_
  refine x_icmp_lt (tgt := 14) hx hb dX0_isFull_7 (by decide) hm (fun hm => ?_) (fun hm => ?_)
  · refine lv_iconst (v := (nI 0)) hx hb dX0_isFull_14 (by decide) ?_
    exact x_zretR hx hb hr hlk hm dX0_isFull_15
  · refine lv_iconst (v := (nI 1)) hx hb dX0_isFull_10 (by decide) ?_
    refine lv_goto (tgt := 15) hx hb dX0_isFull_11 (by decide) ?_
    exact x_zretR hx hb hr hlk hm dX0_isFull_15
noncomputable def mX0_add (S : TX) (a1 : Int32) : Option TX := (if (S.2 1) < 0 then some S else (if (nI 150) ≤ (S.2 1) then some S else ast 150 (S.2 1) <| nm (upd S.1 ((S.2 1).toNatClampNeg) a1, S.2) fun S1 => nm (xI S1 1 ((S1.2 1) + (nI 1))) fun S2 => some S2))
set_option maxHeartbeats 4000000 in
set_option maxRecDepth 100000 in
theorem tcX0_add (l : Launch) (D : va_G) (cs : CS) (ad : Nat → Nat) (sz : Nat) (S : TX) (a1 : Int32) (z : TX) (hm : mX0_add S a1 = some z) : Met l yX0_add (Cond.code yX0_add cX0_add 2 none :: gw_tbl) ({ frames := 0, cells := 0, slots := 0, locals := 0 }) (PcW D cs sz (WX cs ad S) [.ref (ad 90), .int a1]) (QWv D cs (va_A (WX cs ad S) sz) (fun u => WX cs ad u) z) 0 0 (va_A (WX cs ad S) sz) := by
  refine met_W rfl (Nat.le_of_ble_eq_true rfl) (fun p e s m below meth c E hP hD hS hA ls hl => ?_)
  generalize va_A (WX cs ad S) sz = A at hD hS hA ⊢
  obtain ⟨hx, hb, hr, hml, hown, hlk, hT, hN, hK⟩ := id E
  obtain ⟨H, hH⟩ : ∃ H, H = s.heap := ⟨_, rfl⟩
  obtain ⟨locs, hlo⟩ : ∃ L : List Loc, L = [] := ⟨_, rfl⟩
  have hP : va_P D classes (WX cs ad S) H := by rw [hH]; exact hP
  have hS : va_S A s.heap H locs := by rw [hH, hlo]; exact hS
  rw [show W p l e _ s m _ below meth c s.heap [] 0 0 = W p l e _ s m _ below meth c H locs 0 0 by rw [hH, hlo]]
  have hl : lv_has ls 2 [(0, .ref (ad 90)), (1, .int a1)] := hl
  unfold mX0_add at hm
  refine lv_aload_n hx hb dX0_add_0 rfl (lv_at hl 0 rfl) ?_
  refine gf_X0_15 (v := .int (S.2 1)) hx hb hT hown hK hP 0 rfl rfl dX0_add_1 ?_
  refine x_if_lt (tgt := 39) hx hb dX0_add_4 (by decide) hm (fun hm => ?_) (fun hm => ?_)
  · exact x_vretW (wf := (fun u => WX cs ad u)) hx hb hr hlk hK hP hD hS hm dX0_add_39
  · refine lv_aload_n hx hb dX0_add_7 rfl (lv_at hl 0 rfl) ?_
    refine gf_X0_15 (v := .int (S.2 1)) hx hb hT hown hK hP 0 rfl rfl dX0_add_8 ?_
    refine lv_aload_n hx hb dX0_add_11 rfl (lv_at hl 0 rfl) ?_
    refine gf_X0_9 (v := .ref (ad 91)) hx hb hT hown hK hP 0 rfl rfl dX0_add_12 ?_
    refine va_alen (v := (nI 150)) hx hb hK hP 1 0 rfl rfl rfl dX0_add_15 ?_
    refine x_icmp_ge (tgt := 39) hx hb dX0_add_16 (by decide) hm (fun hm => ?_) (fun hm => ?_)
    · exact x_vretW (wf := (fun u => WX cs ad u)) hx hb hr hlk hK hP hD hS hm dX0_add_39
    · refine lv_aload_n hx hb dX0_add_19 rfl (lv_at hl 0 rfl) ?_
      refine gf_X0_9 (v := .ref (ad 91)) hx hb hT hown hK hP 0 rfl rfl dX0_add_20 ?_
      refine lv_aload_n hx hb dX0_add_23 rfl (lv_at hl 0 rfl) ?_
      refine gf_X0_15 (v := .int (S.2 1)) hx hb hT hown hK hP 0 rfl rfl dX0_add_24 ?_
      refine lv_iload_n hx hb dX0_add_27 rfl (lv_at hl 1 rfl) ?_
      refine x_iast hx hb hK hP hD hS 1 rfl (fun j => (upd S.1 j a1, S.2)) (fun u => WX cs ad u) (fun _ => rfl) hm dX0_add_28 (fun S1 H locs hm hP hD hS => ?_)
      refine lv_aload_n hx hb dX0_add_29 rfl (lv_at hl 0 rfl) ?_
      refine lv_dup hx hb dX0_add_30 rfl ?_
      refine gf_X0_15 (v := .int (S1.2 1)) hx hb hT hown hK hP 0 rfl rfl dX0_add_31 ?_
      refine lv_iconst (v := (nI 1)) hx hb dX0_add_34 (by decide) ?_
      refine lv_iadd hx hb dX0_add_35 ?_
      refine pf_X0_15 (wf := (fun u => WX cs ad u)) (u0 := xI S1 1 ((S1.2 1) + (nI 1))) hx hb hT hown hK hP hD hS 0 rfl (Nat.le_of_ble_eq_true rfl) rfl rfl rfl hm dX0_add_36 (fun S2 H locs hm hP hD hS => ?_)
      exact x_vretW (wf := (fun u => WX cs ad u)) hx hb hr hlk hK hP hD hS hm dX0_add_39
noncomputable def mX0_byteAt (S : TX) (a1 : Int32) : Option Int32 := (if a1 < 0 then some (-1 : Int32) else (if (S.2 1) ≤ a1 then some (-1 : Int32) else (if (nI 150) ≤ a1 then some (-1 : Int32) else ald S.1 150 a1 fun v1 => some v1)))
set_option maxHeartbeats 4000000 in
set_option maxRecDepth 100000 in
theorem tcX0_byteAt (l : Launch) (D : va_G) (cs : CS) (ad : Nat → Nat) (S : TX) (a1 : Int32) (z : Int32) (hm : mX0_byteAt S a1 = some z) : Met l yX0_byteAt (Cond.code yX0_byteAt cX0_byteAt 2 (some .int) :: gw_tbl) ({ frames := 0, cells := 0, slots := 0, locals := 0 }) (PcR D cs (WX cs ad S) [.ref (ad 90), .int a1]) (QRi z) 0 0 NoF := by
  refine met_R rfl (Nat.le_of_ble_eq_true rfl) (fun p e s m below meth c E hP ls hl => ?_)
  obtain ⟨hx, hb, hr, hml, hown, hlk, hT, hN, hK⟩ := id E
  have hl : lv_has ls 2 [(0, .ref (ad 90)), (1, .int a1)] := hl
  unfold mX0_byteAt at hm
  refine lv_iload_n hx hb dX0_byteAt_0 rfl (lv_at hl 1 rfl) ?_
  refine x_if_lt (tgt := 30) hx hb dX0_byteAt_1 (by decide) hm (fun hm => ?_) (fun hm => ?_)
  · refine lv_iconst (v := (-1 : Int32)) hx hb dX0_byteAt_30 (by decide) ?_
    exact x_iretR hx hb hr hlk hm dX0_byteAt_31
  · refine lv_iload_n hx hb dX0_byteAt_4 rfl (lv_at hl 1 rfl) ?_
    refine lv_aload_n hx hb dX0_byteAt_5 rfl (lv_at hl 0 rfl) ?_
    refine gf_X0_15 (v := .int (S.2 1)) hx hb hT hown hK hP 0 rfl rfl dX0_byteAt_6 ?_
    refine x_icmp_ge (tgt := 30) hx hb dX0_byteAt_9 (by decide) hm (fun hm => ?_) (fun hm => ?_)
    · refine lv_iconst (v := (-1 : Int32)) hx hb dX0_byteAt_30 (by decide) ?_
      exact x_iretR hx hb hr hlk hm dX0_byteAt_31
    · refine lv_iload_n hx hb dX0_byteAt_12 rfl (lv_at hl 1 rfl) ?_
      refine lv_aload_n hx hb dX0_byteAt_13 rfl (lv_at hl 0 rfl) ?_
      refine gf_X0_9 (v := .ref (ad 91)) hx hb hT hown hK hP 0 rfl rfl dX0_byteAt_14 ?_
      refine va_alen (v := (nI 150)) hx hb hK hP 1 0 rfl rfl rfl dX0_byteAt_17 ?_
      refine x_icmp_ge (tgt := 30) hx hb dX0_byteAt_18 (by decide) hm (fun hm => ?_) (fun hm => ?_)
      · refine lv_iconst (v := (-1 : Int32)) hx hb dX0_byteAt_30 (by decide) ?_
        exact x_iretR hx hb hr hlk hm dX0_byteAt_31
      · refine lv_aload_n hx hb dX0_byteAt_21 rfl (lv_at hl 0 rfl) ?_
        refine gf_X0_9 (v := .ref (ad 91)) hx hb hT hown hK hP 0 rfl rfl dX0_byteAt_22 ?_
        refine lv_iload_n hx hb dX0_byteAt_25 rfl (lv_at hl 1 rfl) ?_
        refine x_iald hx hb hK hP 1 rfl hm dX0_byteAt_26 (fun v1 hm => ?_)
        refine lv_goto (tgt := 31) hx hb dX0_byteAt_27 (by decide) ?_
        exact x_iretR hx hb hr hlk hm dX0_byteAt_31
noncomputable def mX0_standsThere_L20 (i : Nat) (S : TX) : Nat → Int32 → Option Int32 := fun n => Nat.rec (motive := fun _ => Int32 → Option Int32) (fun _ => none) (fun _ rc => fun y2 => (if (nI (sLen.getD i 0)) ≤ y2 then zo (nI 1) (some (nI 1)) else (mX0_byteAt S ((S.2 3) + y2)).bind fun r3 => (sch i y2).bind fun r4 => (if r3 = r4 then nm (y2 + (nI 1)) fun x5 => rc x5 else zo (nI 0) (some (nI 0))))) n
theorem mX0_standsThere_L20_s (i : Nat) (S : TX) (n : Nat) (y2 : Int32) : mX0_standsThere_L20 i S (n + 1) y2 = (if (nI (sLen.getD i 0)) ≤ y2 then zo (nI 1) (some (nI 1)) else (mX0_byteAt S ((S.2 3) + y2)).bind fun r3 => (sch i y2).bind fun r4 => (if r3 = r4 then nm (y2 + (nI 1)) fun x5 => (mX0_standsThere_L20 i S n) x5 else zo (nI 0) (some (nI 0)))) := rfl
noncomputable def mX0_standsThere (i : Nat) (S : TX) : Option Int32 := (if ((S.2 5) - (S.2 3)) = (nI (sLen.getD i 0)) then mX0_standsThere_L20 i S FU (nI 0) else zo (nI 0) (some (nI 0)))
set_option maxHeartbeats 4000000 in
set_option maxRecDepth 100000 in
theorem kX0_standsThere_L20 {p : Program} {l : Launch} {e : Env} {s : State} {m : MethodId} {below : List Frame} {meth : Method} {c : Code} {D : va_G} {cs : CS} {kS vS : Nat → Nat} {SA : Nat → Prop} {ad : Nat → Nat} {i : Nat} {S : TX}  (E : EV p s m [.ref (ad 90), .ref (kS i)].toArray meth c cX0_standsThere 3 RX0 (some .boolean) D cs) (hE : SEnv kS vS SA s) (hi : i < 3) (hP : va_P D classes (WX cs ad S) s.heap) (z : Int32) : ∀ (n : Nat) (y2 : Int32), mX0_standsThere_L20 i S n y2 = some z → ∀ ls : Array Slot, lv_has ls 3 [(0, .ref (ad 90)), (1, .ref (kS i)), (2, .int y2)] → W p l e ({ frames := 4, cells := 0, slots := 0, locals := 85 }) s m [.ref (ad 90), .ref (kS i)].toArray below meth c s.heap [] 0 0 (MQ below (QRi z) [.ref (ad 90), .ref (kS i)].toArray s 0 0 NoF) (F0 m 20 ls []) := by
  obtain ⟨hx, hb, hr, hml, hown, hlk, hT, hN, hK⟩ := id E
  intro n
  induction n with
  | zero =>
    intro y2 hm
    exact nomatch (show (none : Option Int32) = some z from hm)
  | succ n ih =>
    intro y2 hm ls hl
    rw [mX0_standsThere_L20_s] at hm
    refine lv_iload_n hx hb dX0_standsThere_20 rfl (lv_at hl 2 rfl) ?_
    refine lv_aload_n hx hb dX0_standsThere_21 rfl (lv_at hl 1 rfl) ?_
    refine xVS_i (f := some (nI (sLen.getD i 0))) (k := some) (As := []) (rest := [.int y2]) (b := kS i) hx hb hml hown hT hN (hE.at va_S.rf (fun _ h => h)) hK (hP.sub (ws' := []) [] rfl) cw_X0_126 (z := (nI (sLen.getD i 0))) rfl (fun z h => by cases h; exact tcJ0_len l D cs kS vS SA i hi) ⟨rfl, rfl⟩ ⟨by decide, by decide⟩ (vk_recv hE.2.1 hi va_S.rf) hl.1 rfl rfl (Nat.le_of_ble_eq_true rfl) dX0_standsThere_22 ⟨Nat.zero_le _, Nat.zero_le _⟩ (fun _ h2 => ?_)
    cases h2
    refine x_icmp_ge (tgt := 54) hx hb dX0_standsThere_25 (by decide) hm (fun hm => ?_) (fun hm => ?_)
    · refine lv_iconst (v := (nI 1)) hx hb dX0_standsThere_54 (by decide) ?_
      exact x_zretR hx hb hr hlk hm dX0_standsThere_55
    · refine lv_aload_n hx hb dX0_standsThere_28 rfl (lv_at hl 0 rfl) ?_
      refine lv_aload_n hx hb dX0_standsThere_29 rfl (lv_at hl 0 rfl) ?_
      refine gf_X0_41 (v := .int (S.2 3)) hx hb hT hown hK hP 0 rfl rfl dX0_standsThere_30 ?_
      refine lv_iload_n hx hb dX0_standsThere_33 rfl (lv_at hl 2 rfl) ?_
      refine lv_iadd hx hb dX0_standsThere_34 ?_
      refine xV_i (As := [.int ((S.2 3) + y2)]) (rest := []) hx hb hml hown hT hN hK hP cw_X0_99 hm (fun z h => tcX0_byteAt l D cs ad S ((S.2 3) + y2) z h) ⟨rfl, rfl⟩ ⟨by decide, by decide⟩ (b := (ad 90)) 0 rfl rfl rfl hl.1 rfl rfl (Nat.le_of_ble_eq_true rfl) dX0_standsThere_35 ⟨Nat.zero_le _, Nat.zero_le _⟩ (fun r3 hm => ?_)
      refine lv_aload_n hx hb dX0_standsThere_38 rfl (lv_at hl 1 rfl) ?_
      refine lv_iload_n hx hb dX0_standsThere_39 rfl (lv_at hl 2 rfl) ?_
      refine xVS_i (As := [.int y2]) (rest := [.int r3]) (b := kS i) hx hb hml hown hT hN (hE.at va_S.rf (fun _ h => h)) hK (hP.sub (ws' := []) [] rfl) cw_X0_130 hm (fun z h => tcJ0_charAt l D cs kS vS SA i hi y2 z h) ⟨rfl, rfl⟩ ⟨by decide, by decide⟩ (vk_recv hE.2.1 hi va_S.rf) hl.1 rfl rfl (Nat.le_of_ble_eq_true rfl) dX0_standsThere_40 ⟨Nat.zero_le _, Nat.zero_le _⟩ (fun r4 hm => ?_)
      refine x_icmp_eq (tgt := 48) hx hb dX0_standsThere_43 (by decide) hm (fun hm => ?_) (fun hm => ?_)
      · refine x_iinc (lv' := fun x5 => [(2, .int x5), (0, .ref (ad 90)), (1, .ref (kS i))]) hx hb dX0_standsThere_48 hl (k := 2) rfl (by decide) (v0 := (nI 1)) (by decide) (fun _ => rfl) hm (fun x5 ls hm hl => ?_)
        refine lv_goto (tgt := 20) hx hb dX0_standsThere_51 (by decide) ?_
        exact ih x5 hm ls (lv_sub hl [1, 2, 0] rfl)
      · refine lv_iconst (v := (nI 0)) hx hb dX0_standsThere_46 (by decide) ?_
        exact x_zretR hx hb hr hlk hm dX0_standsThere_47
set_option maxHeartbeats 4000000 in
set_option maxRecDepth 100000 in
theorem tcX0_standsThere (l : Launch) (D : va_G) (cs : CS) (kS vS : Nat → Nat) (SA : Nat → Prop) (ad : Nat → Nat) (i : Nat) (hi : i < 3) (S : TX) (z : Int32) (hm : mX0_standsThere i S = some z) : Met l yX0_standsThere (Cond.code yX0_standsThere cX0_standsThere 3 (some .boolean) :: gw_tbl) ({ frames := 4, cells := 0, slots := 0, locals := 85 }) (PcRS D cs kS vS SA (WX cs ad S) [.ref (ad 90), .ref (kS i)]) (QRi z) 0 0 NoF := by
  refine met_RS rfl (Nat.le_of_ble_eq_true rfl) (fun p e s m below meth c E hE hP ls hl => ?_)
  obtain ⟨hx, hb, hr, hml, hown, hlk, hT, hN, hK⟩ := id E
  have hl : lv_has ls 3 [(0, .ref (ad 90)), (1, .ref (kS i))] := hl
  unfold mX0_standsThere at hm
  refine lv_aload_n hx hb dX0_standsThere_0 rfl (lv_at hl 0 rfl) ?_
  refine gf_X0_25 (v := .int (S.2 5)) hx hb hT hown hK hP 0 rfl rfl dX0_standsThere_1 ?_
  refine lv_aload_n hx hb dX0_standsThere_4 rfl (lv_at hl 0 rfl) ?_
  refine gf_X0_41 (v := .int (S.2 3)) hx hb hT hown hK hP 0 rfl rfl dX0_standsThere_5 ?_
  refine lv_isub hx hb dX0_standsThere_8 ?_
  refine lv_aload_n hx hb dX0_standsThere_9 rfl (lv_at hl 1 rfl) ?_
  refine xVS_i (f := some (nI (sLen.getD i 0))) (k := some) (As := []) (rest := [.int ((S.2 5) - (S.2 3))]) (b := kS i) hx hb hml hown hT hN (hE.at va_S.rf (fun _ h => h)) hK (hP.sub (ws' := []) [] rfl) cw_X0_126 (z := (nI (sLen.getD i 0))) rfl (fun z h => by cases h; exact tcJ0_len l D cs kS vS SA i hi) ⟨rfl, rfl⟩ ⟨by decide, by decide⟩ (vk_recv hE.2.1 hi va_S.rf) hl.1 rfl rfl (Nat.le_of_ble_eq_true rfl) dX0_standsThere_10 ⟨Nat.zero_le _, Nat.zero_le _⟩ (fun _ h1 => ?_)
  cases h1
  refine x_icmp_eq (tgt := 18) hx hb dX0_standsThere_13 (by decide) hm (fun hm => ?_) (fun hm => ?_)
  · refine lv_iconst (v := (nI 0)) hx hb dX0_standsThere_18 (by decide) ?_
    refine lv_istore_n (lv' := [(2, .int (nI 0)), (0, .ref (ad 90)), (1, .ref (kS i))]) hx hb dX0_standsThere_19 rfl hl (by decide) rfl (fun ls hl => ?_)
    exact kX0_standsThere_L20 E hE hi hP _ FU (nI 0) hm ls (lv_sub hl [1, 2, 0] rfl)
  · refine lv_iconst (v := (nI 0)) hx hb dX0_standsThere_16 (by decide) ?_
    exact x_zretR hx hb hr hlk hm dX0_standsThere_17
noncomputable def mX0_advanceOverFigures_L5  : Nat → TX → Option TX := fun n => Nat.rec (motive := fun _ => TX → Option TX) (fun _ => none) (fun _ rc => fun S => (if (S.2 1) ≤ (S.2 5) then (if (nI 2) < ((S.2 5) - (S.2 3)) then nm (xI S 2 (nI 1)) fun S2 => some S2 else nm (xI S 2 (nI 3)) fun S3 => some S3) else (mX0_byteAt S (S.2 5)).bind fun r4 => (mX0_isFigure r4).bind fun r5 => (if r5 = 0 then (if (nI 2) < ((S.2 5) - (S.2 3)) then nm (xI S 2 (nI 1)) fun S6 => some S6 else nm (xI S 2 (nI 3)) fun S7 => some S7) else (if (nI 2) ≤ ((S.2 5) - (S.2 3)) then nm (xI S 5 ((S.2 5) + (nI 1))) fun S8 => rc S8 else (mX0_byteAt S (S.2 5)).bind fun r9 => nm (xI S 4 ((((nI 10) * (S.2 4)) + r9) - (nI 48))) fun S10 => nm (xI S10 5 ((S10.2 5) + (nI 1))) fun S11 => rc S11)))) n
theorem mX0_advanceOverFigures_L5_s  (n : Nat) (S : TX) : mX0_advanceOverFigures_L5  (n + 1) S = (if (S.2 1) ≤ (S.2 5) then (if (nI 2) < ((S.2 5) - (S.2 3)) then nm (xI S 2 (nI 1)) fun S2 => some S2 else nm (xI S 2 (nI 3)) fun S3 => some S3) else (mX0_byteAt S (S.2 5)).bind fun r4 => (mX0_isFigure r4).bind fun r5 => (if r5 = 0 then (if (nI 2) < ((S.2 5) - (S.2 3)) then nm (xI S 2 (nI 1)) fun S6 => some S6 else nm (xI S 2 (nI 3)) fun S7 => some S7) else (if (nI 2) ≤ ((S.2 5) - (S.2 3)) then nm (xI S 5 ((S.2 5) + (nI 1))) fun S8 => (mX0_advanceOverFigures_L5  n) S8 else (mX0_byteAt S (S.2 5)).bind fun r9 => nm (xI S 4 ((((nI 10) * (S.2 4)) + r9) - (nI 48))) fun S10 => nm (xI S10 5 ((S10.2 5) + (nI 1))) fun S11 => (mX0_advanceOverFigures_L5  n) S11))) := rfl
noncomputable def mX0_advanceOverFigures (S : TX) : Option TX := nm (xI S 4 (nI 0)) fun S1 => mX0_advanceOverFigures_L5 FU S1
set_option maxHeartbeats 4000000 in
set_option maxRecDepth 100000 in
theorem kX0_advanceOverFigures_L5 {p : Program} {l : Launch} {e : Env} {s : State} {m : MethodId} {below : List Frame} {meth : Method} {c : Code} {D : va_G} {cs : CS} {A : Nat → Prop}  {ad : Nat → Nat}  (E : EV p s m [.ref (ad 90)].toArray meth c cX0_advanceOverFigures 1 RX0 none D cs) (hA : ∀ q : Nat, s.heap.size ≤ q → A q) (z : TX) : ∀ (n : Nat) (S : TX), mX0_advanceOverFigures_L5  n S = some z → ∀ (H : Heap) (locs : List Loc), va_P D classes (WX cs ad S) H → va_D A (WX cs ad S) → va_S A s.heap H locs → ∀ ls : Array Slot, lv_has ls 1 [(0, .ref (ad 90))] → W p l e ({ frames := 1, cells := 0, slots := 0, locals := 21 }) s m [.ref (ad 90)].toArray below meth c H locs 0 0 (MQ below (QWv D cs A (fun u => WX cs ad u) z) [.ref (ad 90)].toArray s 0 0 A) (F0 m 5 ls []) := by
  obtain ⟨hx, hb, hr, hml, hown, hlk, hT, hN, hK⟩ := id E
  intro n
  induction n with
  | zero =>
    intro S hm
    exact nomatch (show (none : Option TX) = some z from hm)
  | succ n ih =>
    intro S hm H locs hP hD hS ls hl
    rw [mX0_advanceOverFigures_L5_s] at hm
    refine lv_aload_n hx hb dX0_advanceOverFigures_5 rfl (lv_at hl 0 rfl) ?_
    refine gf_X0_25 (v := .int (S.2 5)) hx hb hT hown hK hP 0 rfl rfl dX0_advanceOverFigures_6 ?_
    refine lv_aload_n hx hb dX0_advanceOverFigures_9 rfl (lv_at hl 0 rfl) ?_
    refine gf_X0_15 (v := .int (S.2 1)) hx hb hT hown hK hP 0 rfl rfl dX0_advanceOverFigures_10 ?_
    refine x_icmp_ge (tgt := 79) hx hb dX0_advanceOverFigures_13 (by decide) hm (fun hm => ?_) (fun hm => ?_)
    · refine lv_aload_n hx hb dX0_advanceOverFigures_79 rfl (lv_at hl 0 rfl) ?_
      refine lv_aload_n hx hb dX0_advanceOverFigures_80 rfl (lv_at hl 0 rfl) ?_
      refine gf_X0_25 (v := .int (S.2 5)) hx hb hT hown hK hP 0 rfl rfl dX0_advanceOverFigures_81 ?_
      refine lv_aload_n hx hb dX0_advanceOverFigures_84 rfl (lv_at hl 0 rfl) ?_
      refine gf_X0_41 (v := .int (S.2 3)) hx hb hT hown hK hP 0 rfl rfl dX0_advanceOverFigures_85 ?_
      refine lv_isub hx hb dX0_advanceOverFigures_88 ?_
      refine lv_iconst (v := (nI 2)) hx hb dX0_advanceOverFigures_89 (by decide) ?_
      refine x_icmp_gt (tgt := 97) hx hb dX0_advanceOverFigures_90 (by decide) hm (fun hm => ?_) (fun hm => ?_)
      · refine lv_iconst (v := (nI 1)) hx hb dX0_advanceOverFigures_97 (by decide) ?_
        refine pf_X0_34 (wf := (fun u => WX cs ad u)) (u0 := xI S 2 (nI 1)) hx hb hT hown hK hP hD hS 0 rfl (Nat.le_of_ble_eq_true rfl) rfl rfl rfl hm dX0_advanceOverFigures_98 (fun S2 H locs hm hP hD hS => ?_)
        exact x_vretW (wf := (fun u => WX cs ad u)) hx hb hr hlk hK hP hD hS hm dX0_advanceOverFigures_101
      · refine lv_iconst (v := (nI 3)) hx hb dX0_advanceOverFigures_93 (by decide) ?_
        refine lv_goto (tgt := 98) hx hb dX0_advanceOverFigures_94 (by decide) ?_
        refine pf_X0_34 (wf := (fun u => WX cs ad u)) (u0 := xI S 2 (nI 3)) hx hb hT hown hK hP hD hS 0 rfl (Nat.le_of_ble_eq_true rfl) rfl rfl rfl hm dX0_advanceOverFigures_98 (fun S3 H locs hm hP hD hS => ?_)
        exact x_vretW (wf := (fun u => WX cs ad u)) hx hb hr hlk hK hP hD hS hm dX0_advanceOverFigures_101
    · refine lv_aload_n hx hb dX0_advanceOverFigures_16 rfl (lv_at hl 0 rfl) ?_
      refine lv_aload_n hx hb dX0_advanceOverFigures_17 rfl (lv_at hl 0 rfl) ?_
      refine gf_X0_25 (v := .int (S.2 5)) hx hb hT hown hK hP 0 rfl rfl dX0_advanceOverFigures_18 ?_
      refine xV_i (As := [.int (S.2 5)]) (rest := []) hx hb hml hown hT hN hK hP cw_X0_99 hm (fun z h => tcX0_byteAt l D cs ad S (S.2 5) z h) ⟨rfl, rfl⟩ ⟨by decide, by decide⟩ (b := (ad 90)) 0 rfl rfl rfl hl.1 rfl rfl (Nat.le_of_ble_eq_true rfl) dX0_advanceOverFigures_21 ⟨Nat.zero_le _, Nat.zero_le _⟩ (fun r4 hm => ?_)
      refine xS_i (As := [.int r4]) (rest := []) hx hb hml hown hT hN hK (hP.sub (ws' := []) [] rfl) cw_X0_110 hm (fun z h => tcX0_isFigure l D cs r4 z h) ⟨rfl, rfl⟩ ⟨by decide, by decide⟩ hl.1 rfl rfl (Nat.le_of_ble_eq_true rfl) dX0_advanceOverFigures_24 ⟨Nat.zero_le _, Nat.zero_le _⟩ (fun r5 hm => ?_)
      refine x_if_eq (tgt := 79) hx hb dX0_advanceOverFigures_27 (by decide) hm (fun hm => ?_) (fun hm => ?_)
      · refine lv_aload_n hx hb dX0_advanceOverFigures_79 rfl (lv_at hl 0 rfl) ?_
        refine lv_aload_n hx hb dX0_advanceOverFigures_80 rfl (lv_at hl 0 rfl) ?_
        refine gf_X0_25 (v := .int (S.2 5)) hx hb hT hown hK hP 0 rfl rfl dX0_advanceOverFigures_81 ?_
        refine lv_aload_n hx hb dX0_advanceOverFigures_84 rfl (lv_at hl 0 rfl) ?_
        refine gf_X0_41 (v := .int (S.2 3)) hx hb hT hown hK hP 0 rfl rfl dX0_advanceOverFigures_85 ?_
        refine lv_isub hx hb dX0_advanceOverFigures_88 ?_
        refine lv_iconst (v := (nI 2)) hx hb dX0_advanceOverFigures_89 (by decide) ?_
        refine x_icmp_gt (tgt := 97) hx hb dX0_advanceOverFigures_90 (by decide) hm (fun hm => ?_) (fun hm => ?_)
        · refine lv_iconst (v := (nI 1)) hx hb dX0_advanceOverFigures_97 (by decide) ?_
          refine pf_X0_34 (wf := (fun u => WX cs ad u)) (u0 := xI S 2 (nI 1)) hx hb hT hown hK hP hD hS 0 rfl (Nat.le_of_ble_eq_true rfl) rfl rfl rfl hm dX0_advanceOverFigures_98 (fun S6 H locs hm hP hD hS => ?_)
          exact x_vretW (wf := (fun u => WX cs ad u)) hx hb hr hlk hK hP hD hS hm dX0_advanceOverFigures_101
        · refine lv_iconst (v := (nI 3)) hx hb dX0_advanceOverFigures_93 (by decide) ?_
          refine lv_goto (tgt := 98) hx hb dX0_advanceOverFigures_94 (by decide) ?_
          refine pf_X0_34 (wf := (fun u => WX cs ad u)) (u0 := xI S 2 (nI 3)) hx hb hT hown hK hP hD hS 0 rfl (Nat.le_of_ble_eq_true rfl) rfl rfl rfl hm dX0_advanceOverFigures_98 (fun S7 H locs hm hP hD hS => ?_)
          exact x_vretW (wf := (fun u => WX cs ad u)) hx hb hr hlk hK hP hD hS hm dX0_advanceOverFigures_101
      · refine lv_aload_n hx hb dX0_advanceOverFigures_30 rfl (lv_at hl 0 rfl) ?_
        refine gf_X0_25 (v := .int (S.2 5)) hx hb hT hown hK hP 0 rfl rfl dX0_advanceOverFigures_31 ?_
        refine lv_aload_n hx hb dX0_advanceOverFigures_34 rfl (lv_at hl 0 rfl) ?_
        refine gf_X0_41 (v := .int (S.2 3)) hx hb hT hown hK hP 0 rfl rfl dX0_advanceOverFigures_35 ?_
        refine lv_isub hx hb dX0_advanceOverFigures_38 ?_
        refine lv_iconst (v := (nI 2)) hx hb dX0_advanceOverFigures_39 (by decide) ?_
        refine x_icmp_ge (tgt := 66) hx hb dX0_advanceOverFigures_40 (by decide) hm (fun hm => ?_) (fun hm => ?_)
        · refine lv_aload_n hx hb dX0_advanceOverFigures_66 rfl (lv_at hl 0 rfl) ?_
          refine lv_dup hx hb dX0_advanceOverFigures_67 rfl ?_
          refine gf_X0_25 (v := .int (S.2 5)) hx hb hT hown hK hP 0 rfl rfl dX0_advanceOverFigures_68 ?_
          refine lv_iconst (v := (nI 1)) hx hb dX0_advanceOverFigures_71 (by decide) ?_
          refine lv_iadd hx hb dX0_advanceOverFigures_72 ?_
          refine pf_X0_25 (wf := (fun u => WX cs ad u)) (u0 := xI S 5 ((S.2 5) + (nI 1))) hx hb hT hown hK hP hD hS 0 rfl (Nat.le_of_ble_eq_true rfl) rfl rfl rfl hm dX0_advanceOverFigures_73 (fun S8 H locs hm hP hD hS => ?_)
          refine lv_goto (tgt := 5) hx hb dX0_advanceOverFigures_76 (by decide) ?_
          exact ih S8 hm H locs hP hD hS ls (lv_sub hl [0] rfl)
        · refine lv_aload_n hx hb dX0_advanceOverFigures_43 rfl (lv_at hl 0 rfl) ?_
          refine lv_bipush (v := (nI 10)) hx hb dX0_advanceOverFigures_44 (by decide) ?_
          refine lv_aload_n hx hb dX0_advanceOverFigures_46 rfl (lv_at hl 0 rfl) ?_
          refine gf_X0_58 (v := .int (S.2 4)) hx hb hT hown hK hP 0 rfl rfl dX0_advanceOverFigures_47 ?_
          refine lv_imul hx hb dX0_advanceOverFigures_50 ?_
          refine lv_aload_n hx hb dX0_advanceOverFigures_51 rfl (lv_at hl 0 rfl) ?_
          refine lv_aload_n hx hb dX0_advanceOverFigures_52 rfl (lv_at hl 0 rfl) ?_
          refine gf_X0_25 (v := .int (S.2 5)) hx hb hT hown hK hP 0 rfl rfl dX0_advanceOverFigures_53 ?_
          refine xV_i (As := [.int (S.2 5)]) (rest := [.int ((nI 10) * (S.2 4)), .ref (ad 90)]) hx hb hml hown hT hN hK hP cw_X0_99 hm (fun z h => tcX0_byteAt l D cs ad S (S.2 5) z h) ⟨rfl, rfl⟩ ⟨by decide, by decide⟩ (b := (ad 90)) 0 rfl rfl rfl hl.1 rfl rfl (Nat.le_of_ble_eq_true rfl) dX0_advanceOverFigures_56 ⟨Nat.zero_le _, Nat.zero_le _⟩ (fun r9 hm => ?_)
          refine lv_iadd hx hb dX0_advanceOverFigures_59 ?_
          refine lv_bipush (v := (nI 48)) hx hb dX0_advanceOverFigures_60 (by decide) ?_
          refine lv_isub hx hb dX0_advanceOverFigures_62 ?_
          refine pf_X0_58 (wf := (fun u => WX cs ad u)) (u0 := xI S 4 ((((nI 10) * (S.2 4)) + r9) - (nI 48))) hx hb hT hown hK hP hD hS 0 rfl (Nat.le_of_ble_eq_true rfl) rfl rfl rfl hm dX0_advanceOverFigures_63 (fun S10 H locs hm hP hD hS => ?_)
          refine lv_aload_n hx hb dX0_advanceOverFigures_66 rfl (lv_at hl 0 rfl) ?_
          refine lv_dup hx hb dX0_advanceOverFigures_67 rfl ?_
          refine gf_X0_25 (v := .int (S10.2 5)) hx hb hT hown hK hP 0 rfl rfl dX0_advanceOverFigures_68 ?_
          refine lv_iconst (v := (nI 1)) hx hb dX0_advanceOverFigures_71 (by decide) ?_
          refine lv_iadd hx hb dX0_advanceOverFigures_72 ?_
          refine pf_X0_25 (wf := (fun u => WX cs ad u)) (u0 := xI S10 5 ((S10.2 5) + (nI 1))) hx hb hT hown hK hP hD hS 0 rfl (Nat.le_of_ble_eq_true rfl) rfl rfl rfl hm dX0_advanceOverFigures_73 (fun S11 H locs hm hP hD hS => ?_)
          refine lv_goto (tgt := 5) hx hb dX0_advanceOverFigures_76 (by decide) ?_
          exact ih S11 hm H locs hP hD hS ls (lv_sub hl [0] rfl)
set_option maxHeartbeats 4000000 in
set_option maxRecDepth 100000 in
theorem tcX0_advanceOverFigures (l : Launch) (D : va_G) (cs : CS) (ad : Nat → Nat) (sz : Nat) (S : TX) (z : TX) (hm : mX0_advanceOverFigures S = some z) : Met l yX0_advanceOverFigures (Cond.code yX0_advanceOverFigures cX0_advanceOverFigures 1 none :: gw_tbl) ({ frames := 1, cells := 0, slots := 0, locals := 21 }) (PcW D cs sz (WX cs ad S) [.ref (ad 90)]) (QWv D cs (va_A (WX cs ad S) sz) (fun u => WX cs ad u) z) 0 0 (va_A (WX cs ad S) sz) := by
  refine met_W rfl (Nat.le_of_ble_eq_true rfl) (fun p e s m below meth c E hP hD hS hA ls hl => ?_)
  generalize va_A (WX cs ad S) sz = A at hD hS hA ⊢
  obtain ⟨hx, hb, hr, hml, hown, hlk, hT, hN, hK⟩ := id E
  obtain ⟨H, hH⟩ : ∃ H, H = s.heap := ⟨_, rfl⟩
  obtain ⟨locs, hlo⟩ : ∃ L : List Loc, L = [] := ⟨_, rfl⟩
  have hP : va_P D classes (WX cs ad S) H := by rw [hH]; exact hP
  have hS : va_S A s.heap H locs := by rw [hH, hlo]; exact hS
  rw [show W p l e _ s m _ below meth c s.heap [] 0 0 = W p l e _ s m _ below meth c H locs 0 0 by rw [hH, hlo]]
  have hl : lv_has ls 1 [(0, .ref (ad 90))] := hl
  unfold mX0_advanceOverFigures at hm
  refine lv_aload_n hx hb dX0_advanceOverFigures_0 rfl (lv_at hl 0 rfl) ?_
  refine lv_iconst (v := (nI 0)) hx hb dX0_advanceOverFigures_1 (by decide) ?_
  refine pf_X0_58 (wf := (fun u => WX cs ad u)) (u0 := xI S 4 (nI 0)) hx hb hT hown hK hP hD hS 0 rfl (Nat.le_of_ble_eq_true rfl) rfl rfl rfl hm dX0_advanceOverFigures_2 (fun S1 H locs hm hP hD hS => ?_)
  exact kX0_advanceOverFigures_L5 E hA _ FU S1 hm H locs hP hD hS ls (lv_sub hl [0] rfl)
noncomputable def mX0_advanceOverWord_L0  : Nat → TX → Option TX := fun n => Nat.rec (motive := fun _ => TX → Option TX) (fun _ => none) (fun _ rc => fun S => (if (S.2 1) ≤ (S.2 5) then (mX0_standsThere 0 S).bind fun r1 => (if r1 = 0 then (mX0_standsThere 1 S).bind fun r2 => (if r2 = 0 then (mX0_standsThere 2 S).bind fun r3 => (if r3 = 0 then nm (xI S 2 (nI 1)) fun S4 => some S4 else nm (xI S 2 (nI 6)) fun S5 => some S5) else nm (xI S 2 (nI 5)) fun S6 => some S6) else nm (xI S 2 (nI 4)) fun S7 => some S7) else (mX0_byteAt S (S.2 5)).bind fun r8 => (mX0_isLetter r8).bind fun r9 => (if r9 = 0 then (mX0_standsThere 0 S).bind fun r10 => (if r10 = 0 then (mX0_standsThere 1 S).bind fun r11 => (if r11 = 0 then (mX0_standsThere 2 S).bind fun r12 => (if r12 = 0 then nm (xI S 2 (nI 1)) fun S13 => some S13 else nm (xI S 2 (nI 6)) fun S14 => some S14) else nm (xI S 2 (nI 5)) fun S15 => some S15) else nm (xI S 2 (nI 4)) fun S16 => some S16) else nm (xI S 5 ((S.2 5) + (nI 1))) fun S17 => rc S17))) n
theorem mX0_advanceOverWord_L0_s  (n : Nat) (S : TX) : mX0_advanceOverWord_L0  (n + 1) S = (if (S.2 1) ≤ (S.2 5) then (mX0_standsThere 0 S).bind fun r1 => (if r1 = 0 then (mX0_standsThere 1 S).bind fun r2 => (if r2 = 0 then (mX0_standsThere 2 S).bind fun r3 => (if r3 = 0 then nm (xI S 2 (nI 1)) fun S4 => some S4 else nm (xI S 2 (nI 6)) fun S5 => some S5) else nm (xI S 2 (nI 5)) fun S6 => some S6) else nm (xI S 2 (nI 4)) fun S7 => some S7) else (mX0_byteAt S (S.2 5)).bind fun r8 => (mX0_isLetter r8).bind fun r9 => (if r9 = 0 then (mX0_standsThere 0 S).bind fun r10 => (if r10 = 0 then (mX0_standsThere 1 S).bind fun r11 => (if r11 = 0 then (mX0_standsThere 2 S).bind fun r12 => (if r12 = 0 then nm (xI S 2 (nI 1)) fun S13 => some S13 else nm (xI S 2 (nI 6)) fun S14 => some S14) else nm (xI S 2 (nI 5)) fun S15 => some S15) else nm (xI S 2 (nI 4)) fun S16 => some S16) else nm (xI S 5 ((S.2 5) + (nI 1))) fun S17 => (mX0_advanceOverWord_L0  n) S17)) := rfl
noncomputable def mX0_advanceOverWord (S : TX) : Option TX := mX0_advanceOverWord_L0 FU S
set_option maxHeartbeats 4000000 in
set_option maxRecDepth 100000 in
theorem kX0_advanceOverWord_L0 {p : Program} {l : Launch} {e : Env} {s : State} {m : MethodId} {below : List Frame} {meth : Method} {c : Code} {D : va_G} {cs : CS} {A : Nat → Prop} {kS vS : Nat → Nat} {SA : Nat → Prop} {ad : Nat → Nat}  (E : EV p s m [.ref (ad 90)].toArray meth c cX0_advanceOverWord 1 RX0 none D cs) (hE : SEnv kS vS SA s) (hSA : ∀ q, A q → SA q) (hA : ∀ q : Nat, s.heap.size ≤ q → A q) (z : TX) : ∀ (n : Nat) (S : TX), mX0_advanceOverWord_L0  n S = some z → ∀ (H : Heap) (locs : List Loc), va_P D classes (WX cs ad S) H → va_D A (WX cs ad S) → va_S A s.heap H locs → ∀ ls : Array Slot, lv_has ls 1 [(0, .ref (ad 90))] → W p l e ({ frames := 5, cells := 0, slots := 0, locals := 107 }) s m [.ref (ad 90)].toArray below meth c H locs 0 0 (MQ below (QWv D cs A (fun u => WX cs ad u) z) [.ref (ad 90)].toArray s 0 0 A) (F0 m 0 ls []) := by
  obtain ⟨hx, hb, hr, hml, hown, hlk, hT, hN, hK⟩ := id E
  intro n
  induction n with
  | zero =>
    intro S hm
    exact nomatch (show (none : Option TX) = some z from hm)
  | succ n ih =>
    intro S hm H locs hP hD hS ls hl
    rw [mX0_advanceOverWord_L0_s] at hm
    refine lv_aload_n hx hb dX0_advanceOverWord_0 rfl (lv_at hl 0 rfl) ?_
    refine gf_X0_25 (v := .int (S.2 5)) hx hb hT hown hK hP 0 rfl rfl dX0_advanceOverWord_1 ?_
    refine lv_aload_n hx hb dX0_advanceOverWord_4 rfl (lv_at hl 0 rfl) ?_
    refine gf_X0_15 (v := .int (S.2 1)) hx hb hT hown hK hP 0 rfl rfl dX0_advanceOverWord_5 ?_
    refine x_icmp_ge (tgt := 38) hx hb dX0_advanceOverWord_8 (by decide) hm (fun hm => ?_) (fun hm => ?_)
    · refine lv_aload_n hx hb dX0_advanceOverWord_38 rfl (lv_at hl 0 rfl) ?_
      refine va_ldcS hx hb hown hE.1.1 dX0_advanceOverWord_39 ?_
      refine xVS_i (As := [.ref (kS 0)]) (rest := []) hx hb hml hown hT hN (hE.at hS hSA) hK hP cw_X0_118 hm (fun z h => tcX0_standsThere l D cs kS vS SA ad 0 (by decide) S z h) ⟨rfl, rfl⟩ ⟨by decide, by decide⟩ (b := (ad 90)) (va_recv hK (hP.sub (ws' := WX cs ad S) [0, 1] rfl) (q0 := 0) rfl rfl) hl.1 rfl rfl (Nat.le_of_ble_eq_true rfl) dX0_advanceOverWord_41 ⟨Nat.zero_le _, Nat.zero_le _⟩ (fun r1 hm => ?_)
      refine x_if_eq (tgt := 55) hx hb dX0_advanceOverWord_44 (by decide) hm (fun hm => ?_) (fun hm => ?_)
      · refine lv_aload_n hx hb dX0_advanceOverWord_55 rfl (lv_at hl 0 rfl) ?_
        refine va_ldcS hx hb hown hE.1.2.1 dX0_advanceOverWord_56 ?_
        refine xVS_i (As := [.ref (kS 1)]) (rest := []) hx hb hml hown hT hN (hE.at hS hSA) hK hP cw_X0_118 hm (fun z h => tcX0_standsThere l D cs kS vS SA ad 1 (by decide) S z h) ⟨rfl, rfl⟩ ⟨by decide, by decide⟩ (b := (ad 90)) (va_recv hK (hP.sub (ws' := WX cs ad S) [0, 1] rfl) (q0 := 0) rfl rfl) hl.1 rfl rfl (Nat.le_of_ble_eq_true rfl) dX0_advanceOverWord_58 ⟨Nat.zero_le _, Nat.zero_le _⟩ (fun r2 hm => ?_)
        refine x_if_eq (tgt := 72) hx hb dX0_advanceOverWord_61 (by decide) hm (fun hm => ?_) (fun hm => ?_)
        · refine lv_aload_n hx hb dX0_advanceOverWord_72 rfl (lv_at hl 0 rfl) ?_
          refine va_ldcS hx hb hown hE.1.2.2 dX0_advanceOverWord_73 ?_
          refine xVS_i (As := [.ref (kS 2)]) (rest := []) hx hb hml hown hT hN (hE.at hS hSA) hK hP cw_X0_118 hm (fun z h => tcX0_standsThere l D cs kS vS SA ad 2 (by decide) S z h) ⟨rfl, rfl⟩ ⟨by decide, by decide⟩ (b := (ad 90)) (va_recv hK (hP.sub (ws' := WX cs ad S) [0, 1] rfl) (q0 := 0) rfl rfl) hl.1 rfl rfl (Nat.le_of_ble_eq_true rfl) dX0_advanceOverWord_75 ⟨Nat.zero_le _, Nat.zero_le _⟩ (fun r3 hm => ?_)
          refine x_if_eq (tgt := 90) hx hb dX0_advanceOverWord_78 (by decide) hm (fun hm => ?_) (fun hm => ?_)
          · refine lv_aload_n hx hb dX0_advanceOverWord_90 rfl (lv_at hl 0 rfl) ?_
            refine lv_iconst (v := (nI 1)) hx hb dX0_advanceOverWord_91 (by decide) ?_
            refine pf_X0_34 (wf := (fun u => WX cs ad u)) (u0 := xI S 2 (nI 1)) hx hb hT hown hK hP hD hS 0 rfl (Nat.le_of_ble_eq_true rfl) rfl rfl rfl hm dX0_advanceOverWord_92 (fun S4 H locs hm hP hD hS => ?_)
            exact x_vretW (wf := (fun u => WX cs ad u)) hx hb hr hlk hK hP hD hS hm dX0_advanceOverWord_95
          · refine lv_aload_n hx hb dX0_advanceOverWord_81 rfl (lv_at hl 0 rfl) ?_
            refine lv_bipush (v := (nI 6)) hx hb dX0_advanceOverWord_82 (by decide) ?_
            refine pf_X0_34 (wf := (fun u => WX cs ad u)) (u0 := xI S 2 (nI 6)) hx hb hT hown hK hP hD hS 0 rfl (Nat.le_of_ble_eq_true rfl) rfl rfl rfl hm dX0_advanceOverWord_84 (fun S5 H locs hm hP hD hS => ?_)
            refine lv_goto (tgt := 95) hx hb dX0_advanceOverWord_87 (by decide) ?_
            exact x_vretW (wf := (fun u => WX cs ad u)) hx hb hr hlk hK hP hD hS hm dX0_advanceOverWord_95
        · refine lv_aload_n hx hb dX0_advanceOverWord_64 rfl (lv_at hl 0 rfl) ?_
          refine lv_iconst (v := (nI 5)) hx hb dX0_advanceOverWord_65 (by decide) ?_
          refine pf_X0_34 (wf := (fun u => WX cs ad u)) (u0 := xI S 2 (nI 5)) hx hb hT hown hK hP hD hS 0 rfl (Nat.le_of_ble_eq_true rfl) rfl rfl rfl hm dX0_advanceOverWord_66 (fun S6 H locs hm hP hD hS => ?_)
          refine lv_goto (tgt := 95) hx hb dX0_advanceOverWord_69 (by decide) ?_
          exact x_vretW (wf := (fun u => WX cs ad u)) hx hb hr hlk hK hP hD hS hm dX0_advanceOverWord_95
      · refine lv_aload_n hx hb dX0_advanceOverWord_47 rfl (lv_at hl 0 rfl) ?_
        refine lv_iconst (v := (nI 4)) hx hb dX0_advanceOverWord_48 (by decide) ?_
        refine pf_X0_34 (wf := (fun u => WX cs ad u)) (u0 := xI S 2 (nI 4)) hx hb hT hown hK hP hD hS 0 rfl (Nat.le_of_ble_eq_true rfl) rfl rfl rfl hm dX0_advanceOverWord_49 (fun S7 H locs hm hP hD hS => ?_)
        refine lv_goto (tgt := 95) hx hb dX0_advanceOverWord_52 (by decide) ?_
        exact x_vretW (wf := (fun u => WX cs ad u)) hx hb hr hlk hK hP hD hS hm dX0_advanceOverWord_95
    · refine lv_aload_n hx hb dX0_advanceOverWord_11 rfl (lv_at hl 0 rfl) ?_
      refine lv_aload_n hx hb dX0_advanceOverWord_12 rfl (lv_at hl 0 rfl) ?_
      refine gf_X0_25 (v := .int (S.2 5)) hx hb hT hown hK hP 0 rfl rfl dX0_advanceOverWord_13 ?_
      refine xV_i (As := [.int (S.2 5)]) (rest := []) hx hb hml hown hT hN hK hP cw_X0_99 hm (fun z h => tcX0_byteAt l D cs ad S (S.2 5) z h) ⟨rfl, rfl⟩ ⟨by decide, by decide⟩ (b := (ad 90)) 0 rfl rfl rfl hl.1 rfl rfl (Nat.le_of_ble_eq_true rfl) dX0_advanceOverWord_16 ⟨Nat.zero_le _, Nat.zero_le _⟩ (fun r8 hm => ?_)
      refine xS_i (As := [.int r8]) (rest := []) hx hb hml hown hT hN hK (hP.sub (ws' := []) [] rfl) cw_X0_103 hm (fun z h => tcX0_isLetter l D cs r8 z h) ⟨rfl, rfl⟩ ⟨by decide, by decide⟩ hl.1 rfl rfl (Nat.le_of_ble_eq_true rfl) dX0_advanceOverWord_19 ⟨Nat.zero_le _, Nat.zero_le _⟩ (fun r9 hm => ?_)
      refine x_if_eq (tgt := 38) hx hb dX0_advanceOverWord_22 (by decide) hm (fun hm => ?_) (fun hm => ?_)
      · refine lv_aload_n hx hb dX0_advanceOverWord_38 rfl (lv_at hl 0 rfl) ?_
        refine va_ldcS hx hb hown hE.1.1 dX0_advanceOverWord_39 ?_
        refine xVS_i (As := [.ref (kS 0)]) (rest := []) hx hb hml hown hT hN (hE.at hS hSA) hK hP cw_X0_118 hm (fun z h => tcX0_standsThere l D cs kS vS SA ad 0 (by decide) S z h) ⟨rfl, rfl⟩ ⟨by decide, by decide⟩ (b := (ad 90)) (va_recv hK (hP.sub (ws' := WX cs ad S) [0, 1] rfl) (q0 := 0) rfl rfl) hl.1 rfl rfl (Nat.le_of_ble_eq_true rfl) dX0_advanceOverWord_41 ⟨Nat.zero_le _, Nat.zero_le _⟩ (fun r10 hm => ?_)
        refine x_if_eq (tgt := 55) hx hb dX0_advanceOverWord_44 (by decide) hm (fun hm => ?_) (fun hm => ?_)
        · refine lv_aload_n hx hb dX0_advanceOverWord_55 rfl (lv_at hl 0 rfl) ?_
          refine va_ldcS hx hb hown hE.1.2.1 dX0_advanceOverWord_56 ?_
          refine xVS_i (As := [.ref (kS 1)]) (rest := []) hx hb hml hown hT hN (hE.at hS hSA) hK hP cw_X0_118 hm (fun z h => tcX0_standsThere l D cs kS vS SA ad 1 (by decide) S z h) ⟨rfl, rfl⟩ ⟨by decide, by decide⟩ (b := (ad 90)) (va_recv hK (hP.sub (ws' := WX cs ad S) [0, 1] rfl) (q0 := 0) rfl rfl) hl.1 rfl rfl (Nat.le_of_ble_eq_true rfl) dX0_advanceOverWord_58 ⟨Nat.zero_le _, Nat.zero_le _⟩ (fun r11 hm => ?_)
          refine x_if_eq (tgt := 72) hx hb dX0_advanceOverWord_61 (by decide) hm (fun hm => ?_) (fun hm => ?_)
          · refine lv_aload_n hx hb dX0_advanceOverWord_72 rfl (lv_at hl 0 rfl) ?_
            refine va_ldcS hx hb hown hE.1.2.2 dX0_advanceOverWord_73 ?_
            refine xVS_i (As := [.ref (kS 2)]) (rest := []) hx hb hml hown hT hN (hE.at hS hSA) hK hP cw_X0_118 hm (fun z h => tcX0_standsThere l D cs kS vS SA ad 2 (by decide) S z h) ⟨rfl, rfl⟩ ⟨by decide, by decide⟩ (b := (ad 90)) (va_recv hK (hP.sub (ws' := WX cs ad S) [0, 1] rfl) (q0 := 0) rfl rfl) hl.1 rfl rfl (Nat.le_of_ble_eq_true rfl) dX0_advanceOverWord_75 ⟨Nat.zero_le _, Nat.zero_le _⟩ (fun r12 hm => ?_)
            refine x_if_eq (tgt := 90) hx hb dX0_advanceOverWord_78 (by decide) hm (fun hm => ?_) (fun hm => ?_)
            · refine lv_aload_n hx hb dX0_advanceOverWord_90 rfl (lv_at hl 0 rfl) ?_
              refine lv_iconst (v := (nI 1)) hx hb dX0_advanceOverWord_91 (by decide) ?_
              refine pf_X0_34 (wf := (fun u => WX cs ad u)) (u0 := xI S 2 (nI 1)) hx hb hT hown hK hP hD hS 0 rfl (Nat.le_of_ble_eq_true rfl) rfl rfl rfl hm dX0_advanceOverWord_92 (fun S13 H locs hm hP hD hS => ?_)
              exact x_vretW (wf := (fun u => WX cs ad u)) hx hb hr hlk hK hP hD hS hm dX0_advanceOverWord_95
            · refine lv_aload_n hx hb dX0_advanceOverWord_81 rfl (lv_at hl 0 rfl) ?_
              refine lv_bipush (v := (nI 6)) hx hb dX0_advanceOverWord_82 (by decide) ?_
              refine pf_X0_34 (wf := (fun u => WX cs ad u)) (u0 := xI S 2 (nI 6)) hx hb hT hown hK hP hD hS 0 rfl (Nat.le_of_ble_eq_true rfl) rfl rfl rfl hm dX0_advanceOverWord_84 (fun S14 H locs hm hP hD hS => ?_)
              refine lv_goto (tgt := 95) hx hb dX0_advanceOverWord_87 (by decide) ?_
              exact x_vretW (wf := (fun u => WX cs ad u)) hx hb hr hlk hK hP hD hS hm dX0_advanceOverWord_95
          · refine lv_aload_n hx hb dX0_advanceOverWord_64 rfl (lv_at hl 0 rfl) ?_
            refine lv_iconst (v := (nI 5)) hx hb dX0_advanceOverWord_65 (by decide) ?_
            refine pf_X0_34 (wf := (fun u => WX cs ad u)) (u0 := xI S 2 (nI 5)) hx hb hT hown hK hP hD hS 0 rfl (Nat.le_of_ble_eq_true rfl) rfl rfl rfl hm dX0_advanceOverWord_66 (fun S15 H locs hm hP hD hS => ?_)
            refine lv_goto (tgt := 95) hx hb dX0_advanceOverWord_69 (by decide) ?_
            exact x_vretW (wf := (fun u => WX cs ad u)) hx hb hr hlk hK hP hD hS hm dX0_advanceOverWord_95
        · refine lv_aload_n hx hb dX0_advanceOverWord_47 rfl (lv_at hl 0 rfl) ?_
          refine lv_iconst (v := (nI 4)) hx hb dX0_advanceOverWord_48 (by decide) ?_
          refine pf_X0_34 (wf := (fun u => WX cs ad u)) (u0 := xI S 2 (nI 4)) hx hb hT hown hK hP hD hS 0 rfl (Nat.le_of_ble_eq_true rfl) rfl rfl rfl hm dX0_advanceOverWord_49 (fun S16 H locs hm hP hD hS => ?_)
          refine lv_goto (tgt := 95) hx hb dX0_advanceOverWord_52 (by decide) ?_
          exact x_vretW (wf := (fun u => WX cs ad u)) hx hb hr hlk hK hP hD hS hm dX0_advanceOverWord_95
      · refine lv_aload_n hx hb dX0_advanceOverWord_25 rfl (lv_at hl 0 rfl) ?_
        refine lv_dup hx hb dX0_advanceOverWord_26 rfl ?_
        refine gf_X0_25 (v := .int (S.2 5)) hx hb hT hown hK hP 0 rfl rfl dX0_advanceOverWord_27 ?_
        refine lv_iconst (v := (nI 1)) hx hb dX0_advanceOverWord_30 (by decide) ?_
        refine lv_iadd hx hb dX0_advanceOverWord_31 ?_
        refine pf_X0_25 (wf := (fun u => WX cs ad u)) (u0 := xI S 5 ((S.2 5) + (nI 1))) hx hb hT hown hK hP hD hS 0 rfl (Nat.le_of_ble_eq_true rfl) rfl rfl rfl hm dX0_advanceOverWord_32 (fun S17 H locs hm hP hD hS => ?_)
        refine lv_goto (tgt := 0) hx hb dX0_advanceOverWord_35 (by decide) ?_
        exact ih S17 hm H locs hP hD hS ls (lv_sub hl [0] rfl)
set_option maxHeartbeats 4000000 in
set_option maxRecDepth 100000 in
theorem tcX0_advanceOverWord (l : Launch) (D : va_G) (cs : CS) (kS vS : Nat → Nat) (SA : Nat → Prop) (ad : Nat → Nat) (sz : Nat) (S : TX) (z : TX) (hm : mX0_advanceOverWord S = some z) (hSA : ∀ q, va_A (WX cs ad S) sz q → SA q) : Met l yX0_advanceOverWord (Cond.code yX0_advanceOverWord cX0_advanceOverWord 1 none :: gw_tbl) ({ frames := 5, cells := 0, slots := 0, locals := 107 }) (PcWS D cs kS vS SA sz (WX cs ad S) [.ref (ad 90)]) (QWv D cs (va_A (WX cs ad S) sz) (fun u => WX cs ad u) z) 0 0 (va_A (WX cs ad S) sz) := by
  refine met_WS rfl (Nat.le_of_ble_eq_true rfl) (fun p e s m below meth c E hE hP hD hS hA ls hl => ?_)
  generalize va_A (WX cs ad S) sz = A at hD hS hA hSA ⊢
  obtain ⟨hx, hb, hr, hml, hown, hlk, hT, hN, hK⟩ := id E
  obtain ⟨H, hH⟩ : ∃ H, H = s.heap := ⟨_, rfl⟩
  obtain ⟨locs, hlo⟩ : ∃ L : List Loc, L = [] := ⟨_, rfl⟩
  have hP : va_P D classes (WX cs ad S) H := by rw [hH]; exact hP
  have hS : va_S A s.heap H locs := by rw [hH, hlo]; exact hS
  rw [show W p l e _ s m _ below meth c s.heap [] 0 0 = W p l e _ s m _ below meth c H locs 0 0 by rw [hH, hlo]]
  have hl : lv_has ls 1 [(0, .ref (ad 90))] := hl
  unfold mX0_advanceOverWord at hm
  exact kX0_advanceOverWord_L0 E hE hSA hA _ FU S hm H locs hP hD hS ls (lv_sub hl [0] rfl)
noncomputable def mX0_advance_L0  : Nat → TX → Option TX := fun n => Nat.rec (motive := fun _ => TX → Option TX) (fun _ => none) (fun _ rc => fun S => (if (S.2 1) ≤ (S.2 5) then nm (xI S 3 (S.2 5)) fun S1 => (mX0_byteAt S1 (S1.2 5)).bind fun r2 => (if r2 = (-1 : Int32) then nm (xI S1 2 (nI 0)) fun S10 => some S10 else (mX0_isLetter r2).bind fun r3 => (if r3 = 0 then (mX0_isFigure r2).bind fun r4 => (if r4 = 0 then nm (xI S1 5 ((S1.2 5) + (nI 1))) fun S5 => (if r2 = (nI 59) then nm (xI S5 2 (nI 2)) fun S7 => some S7 else nm (xI S5 2 (nI 1)) fun S6 => some S6) else (mX0_advanceOverFigures S1).bind fun S8 => some S8) else (mX0_advanceOverWord S1).bind fun S9 => some S9)) else (mX0_byteAt S (S.2 5)).bind fun r11 => (if r11 = (nI 32) then nm (xI S 5 ((S.2 5) + (nI 1))) fun S22 => rc S22 else nm (xI S 3 (S.2 5)) fun S12 => (mX0_byteAt S12 (S12.2 5)).bind fun r13 => (if r13 = (-1 : Int32) then nm (xI S12 2 (nI 0)) fun S21 => some S21 else (mX0_isLetter r13).bind fun r14 => (if r14 = 0 then (mX0_isFigure r13).bind fun r15 => (if r15 = 0 then nm (xI S12 5 ((S12.2 5) + (nI 1))) fun S16 => (if r13 = (nI 59) then nm (xI S16 2 (nI 2)) fun S18 => some S18 else nm (xI S16 2 (nI 1)) fun S17 => some S17) else (mX0_advanceOverFigures S12).bind fun S19 => some S19) else (mX0_advanceOverWord S12).bind fun S20 => some S20))))) n
theorem mX0_advance_L0_s  (n : Nat) (S : TX) : mX0_advance_L0  (n + 1) S = (if (S.2 1) ≤ (S.2 5) then nm (xI S 3 (S.2 5)) fun S1 => (mX0_byteAt S1 (S1.2 5)).bind fun r2 => (if r2 = (-1 : Int32) then nm (xI S1 2 (nI 0)) fun S10 => some S10 else (mX0_isLetter r2).bind fun r3 => (if r3 = 0 then (mX0_isFigure r2).bind fun r4 => (if r4 = 0 then nm (xI S1 5 ((S1.2 5) + (nI 1))) fun S5 => (if r2 = (nI 59) then nm (xI S5 2 (nI 2)) fun S7 => some S7 else nm (xI S5 2 (nI 1)) fun S6 => some S6) else (mX0_advanceOverFigures S1).bind fun S8 => some S8) else (mX0_advanceOverWord S1).bind fun S9 => some S9)) else (mX0_byteAt S (S.2 5)).bind fun r11 => (if r11 = (nI 32) then nm (xI S 5 ((S.2 5) + (nI 1))) fun S22 => (mX0_advance_L0  n) S22 else nm (xI S 3 (S.2 5)) fun S12 => (mX0_byteAt S12 (S12.2 5)).bind fun r13 => (if r13 = (-1 : Int32) then nm (xI S12 2 (nI 0)) fun S21 => some S21 else (mX0_isLetter r13).bind fun r14 => (if r14 = 0 then (mX0_isFigure r13).bind fun r15 => (if r15 = 0 then nm (xI S12 5 ((S12.2 5) + (nI 1))) fun S16 => (if r13 = (nI 59) then nm (xI S16 2 (nI 2)) fun S18 => some S18 else nm (xI S16 2 (nI 1)) fun S17 => some S17) else (mX0_advanceOverFigures S12).bind fun S19 => some S19) else (mX0_advanceOverWord S12).bind fun S20 => some S20)))) := rfl
noncomputable def mX0_advance (S : TX) : Option TX := mX0_advance_L0 FU S
set_option maxHeartbeats 4000000 in
set_option maxRecDepth 100000 in
theorem kX0_advance_L0 {p : Program} {l : Launch} {e : Env} {s : State} {m : MethodId} {below : List Frame} {meth : Method} {c : Code} {D : va_G} {cs : CS} {A : Nat → Prop} {kS vS : Nat → Nat} {SA : Nat → Prop} {ad : Nat → Nat}  (E : EV p s m [.ref (ad 90)].toArray meth c cX0_advance 2 RX0 none D cs) (hE : SEnv kS vS SA s) (hSA : ∀ q, A q → SA q) (hA : ∀ q : Nat, s.heap.size ≤ q → A q) (z : TX) : ∀ (n : Nat) (S : TX), mX0_advance_L0  n S = some z → ∀ (H : Heap) (locs : List Loc), va_P D classes (WX cs ad S) H → va_D A (WX cs ad S) → va_S A s.heap H locs → ∀ ls : Array Slot, lv_has ls 2 [(0, .ref (ad 90))] → W p l e ({ frames := 6, cells := 0, slots := 0, locals := 127 }) s m [.ref (ad 90)].toArray below meth c H locs 0 0 (MQ below (QWv D cs A (fun u => WX cs ad u) z) [.ref (ad 90)].toArray s 0 0 A) (F0 m 0 ls []) := by
  obtain ⟨hx, hb, hr, hml, hown, hlk, hT, hN, hK⟩ := id E
  intro n
  induction n with
  | zero =>
    intro S hm
    exact nomatch (show (none : Option TX) = some z from hm)
  | succ n ih =>
    intro S hm H locs hP hD hS ls hl
    rw [mX0_advance_L0_s] at hm
    refine lv_aload_n hx hb dX0_advance_0 rfl (lv_at hl 0 rfl) ?_
    refine gf_X0_25 (v := .int (S.2 5)) hx hb hT hown hK hP 0 rfl rfl dX0_advance_1 ?_
    refine lv_aload_n hx hb dX0_advance_4 rfl (lv_at hl 0 rfl) ?_
    refine gf_X0_15 (v := .int (S.2 1)) hx hb hT hown hK hP 0 rfl rfl dX0_advance_5 ?_
    refine x_icmp_ge (tgt := 37) hx hb dX0_advance_8 (by decide) hm (fun hm => ?_) (fun hm => ?_)
    · refine lv_aload_n hx hb dX0_advance_37 rfl (lv_at hl 0 rfl) ?_
      refine lv_aload_n hx hb dX0_advance_38 rfl (lv_at hl 0 rfl) ?_
      refine gf_X0_25 (v := .int (S.2 5)) hx hb hT hown hK hP 0 rfl rfl dX0_advance_39 ?_
      refine pf_X0_41 (wf := (fun u => WX cs ad u)) (u0 := xI S 3 (S.2 5)) hx hb hT hown hK hP hD hS 0 rfl (Nat.le_of_ble_eq_true rfl) rfl rfl rfl hm dX0_advance_42 (fun S1 H locs hm hP hD hS => ?_)
      refine lv_aload_n hx hb dX0_advance_45 rfl (lv_at hl 0 rfl) ?_
      refine lv_aload_n hx hb dX0_advance_46 rfl (lv_at hl 0 rfl) ?_
      refine gf_X0_25 (v := .int (S1.2 5)) hx hb hT hown hK hP 0 rfl rfl dX0_advance_47 ?_
      refine xV_i (As := [.int (S1.2 5)]) (rest := []) hx hb hml hown hT hN hK hP cw_X0_99 hm (fun z h => tcX0_byteAt l D cs ad S1 (S1.2 5) z h) ⟨rfl, rfl⟩ ⟨by decide, by decide⟩ (b := (ad 90)) 0 rfl rfl rfl hl.1 rfl rfl (Nat.le_of_ble_eq_true rfl) dX0_advance_50 ⟨Nat.zero_le _, Nat.zero_le _⟩ (fun r2 hm => ?_)
      refine lv_istore_n (lv' := [(1, .int r2), (0, .ref (ad 90))]) hx hb dX0_advance_53 rfl hl (by decide) rfl (fun ls hl => ?_)
      refine lv_iload_n hx hb dX0_advance_54 rfl (lv_at hl 0 rfl) ?_
      refine lv_iconst (v := (-1 : Int32)) hx hb dX0_advance_55 (by decide) ?_
      refine x_icmp_ne (tgt := 67) hx hb dX0_advance_56 (by decide) hm (fun hm => ?_) (fun hm => ?_)
      · refine lv_iload_n hx hb dX0_advance_67 rfl (lv_at hl 0 rfl) ?_
        refine xS_i (As := [.int r2]) (rest := []) hx hb hml hown hT hN hK (hP.sub (ws' := []) [] rfl) cw_X0_103 hm (fun z h => tcX0_isLetter l D cs r2 z h) ⟨rfl, rfl⟩ ⟨by decide, by decide⟩ hl.1 rfl rfl (Nat.le_of_ble_eq_true rfl) dX0_advance_68 ⟨Nat.zero_le _, Nat.zero_le _⟩ (fun r3 hm => ?_)
        refine x_if_eq (tgt := 81) hx hb dX0_advance_71 (by decide) hm (fun hm => ?_) (fun hm => ?_)
        · refine lv_iload_n hx hb dX0_advance_81 rfl (lv_at hl 0 rfl) ?_
          refine xS_i (As := [.int r2]) (rest := []) hx hb hml hown hT hN hK (hP.sub (ws' := []) [] rfl) cw_X0_110 hm (fun z h => tcX0_isFigure l D cs r2 z h) ⟨rfl, rfl⟩ ⟨by decide, by decide⟩ hl.1 rfl rfl (Nat.le_of_ble_eq_true rfl) dX0_advance_82 ⟨Nat.zero_le _, Nat.zero_le _⟩ (fun r4 hm => ?_)
          refine x_if_eq (tgt := 95) hx hb dX0_advance_85 (by decide) hm (fun hm => ?_) (fun hm => ?_)
          · refine lv_aload_n hx hb dX0_advance_95 rfl (lv_at hl 1 rfl) ?_
            refine lv_dup hx hb dX0_advance_96 rfl ?_
            refine gf_X0_25 (v := .int (S1.2 5)) hx hb hT hown hK hP 0 rfl rfl dX0_advance_97 ?_
            refine lv_iconst (v := (nI 1)) hx hb dX0_advance_100 (by decide) ?_
            refine lv_iadd hx hb dX0_advance_101 ?_
            refine pf_X0_25 (wf := (fun u => WX cs ad u)) (u0 := xI S1 5 ((S1.2 5) + (nI 1))) hx hb hT hown hK hP hD hS 0 rfl (Nat.le_of_ble_eq_true rfl) rfl rfl rfl hm dX0_advance_102 (fun S5 H locs hm hP hD hS => ?_)
            refine lv_aload_n hx hb dX0_advance_105 rfl (lv_at hl 1 rfl) ?_
            refine lv_iload_n hx hb dX0_advance_106 rfl (lv_at hl 0 rfl) ?_
            refine lv_bipush (v := (nI 59)) hx hb dX0_advance_107 (by decide) ?_
            refine x_icmp_ne (tgt := 116) hx hb dX0_advance_109 (by decide) hm (fun hm => ?_) (fun hm => ?_)
            · refine lv_iconst (v := (nI 1)) hx hb dX0_advance_116 (by decide) ?_
              refine pf_X0_34 (wf := (fun u => WX cs ad u)) (u0 := xI S5 2 (nI 1)) hx hb hT hown hK hP hD hS 0 rfl (Nat.le_of_ble_eq_true rfl) rfl rfl rfl hm dX0_advance_117 (fun S6 H locs hm hP hD hS => ?_)
              exact x_vretW (wf := (fun u => WX cs ad u)) hx hb hr hlk hK hP hD hS hm dX0_advance_120
            · refine lv_iconst (v := (nI 2)) hx hb dX0_advance_112 (by decide) ?_
              refine lv_goto (tgt := 117) hx hb dX0_advance_113 (by decide) ?_
              refine pf_X0_34 (wf := (fun u => WX cs ad u)) (u0 := xI S5 2 (nI 2)) hx hb hT hown hK hP hD hS 0 rfl (Nat.le_of_ble_eq_true rfl) rfl rfl rfl hm dX0_advance_117 (fun S7 H locs hm hP hD hS => ?_)
              exact x_vretW (wf := (fun u => WX cs ad u)) hx hb hr hlk hK hP hD hS hm dX0_advance_120
          · refine lv_aload_n hx hb dX0_advance_88 rfl (lv_at hl 1 rfl) ?_
            refine xVW_v (As := []) (rest := []) (wr := []) (wg := (fun u => WX cs ad u)) hx hb hml hown hT hN hK hP hD hS hA cw_X0_113 hm (fun z h => tcX0_advanceOverFigures l D cs ad H.size S1 z h) ⟨rfl, rfl⟩ ⟨by decide, by decide⟩ [0, 1] [] [0, 1] rfl (by decide) rfl (by decide) (by decide) (fun _ => rfl) (by decide) (b := (ad 90)) 0 rfl rfl rfl hl.1 rfl rfl (Nat.le_of_ble_eq_true rfl) dX0_advance_89 ⟨Nat.zero_le _, Nat.zero_le _⟩ (fun S8 H locs hm hP hD hS => ?_)
            refine lv_goto (tgt := 120) hx hb dX0_advance_92 (by decide) ?_
            exact x_vretW (wf := (fun u => WX cs ad u)) hx hb hr hlk hK hP hD hS hm dX0_advance_120
        · refine lv_aload_n hx hb dX0_advance_74 rfl (lv_at hl 1 rfl) ?_
          refine xVSW_v (As := []) (rest := []) (wr := []) (wg := (fun u => WX cs ad u)) hx hb hml hown hT hN (hE.at hS hSA) hK hP hD hS hA hSA cw_X0_107 hm (fun z h => tcX0_advanceOverWord l D cs kS vS SA ad H.size S1 z h) ⟨rfl, rfl⟩ ⟨by decide, by decide⟩ [0, 1] [] [0, 1] rfl (by decide) rfl (by decide) (by decide) (fun _ => rfl) (by decide) (b := (ad 90)) 0 rfl rfl rfl hl.1 rfl rfl (Nat.le_of_ble_eq_true rfl) dX0_advance_75 ⟨Nat.zero_le _, Nat.zero_le _⟩ (fun S9 H locs hm hP hD hS => ?_)
          refine lv_goto (tgt := 120) hx hb dX0_advance_78 (by decide) ?_
          exact x_vretW (wf := (fun u => WX cs ad u)) hx hb hr hlk hK hP hD hS hm dX0_advance_120
      · refine lv_aload_n hx hb dX0_advance_59 rfl (lv_at hl 1 rfl) ?_
        refine lv_iconst (v := (nI 0)) hx hb dX0_advance_60 (by decide) ?_
        refine pf_X0_34 (wf := (fun u => WX cs ad u)) (u0 := xI S1 2 (nI 0)) hx hb hT hown hK hP hD hS 0 rfl (Nat.le_of_ble_eq_true rfl) rfl rfl rfl hm dX0_advance_61 (fun S10 H locs hm hP hD hS => ?_)
        refine lv_goto (tgt := 120) hx hb dX0_advance_64 (by decide) ?_
        exact x_vretW (wf := (fun u => WX cs ad u)) hx hb hr hlk hK hP hD hS hm dX0_advance_120
    · refine lv_aload_n hx hb dX0_advance_11 rfl (lv_at hl 0 rfl) ?_
      refine lv_aload_n hx hb dX0_advance_12 rfl (lv_at hl 0 rfl) ?_
      refine gf_X0_25 (v := .int (S.2 5)) hx hb hT hown hK hP 0 rfl rfl dX0_advance_13 ?_
      refine xV_i (As := [.int (S.2 5)]) (rest := []) hx hb hml hown hT hN hK hP cw_X0_99 hm (fun z h => tcX0_byteAt l D cs ad S (S.2 5) z h) ⟨rfl, rfl⟩ ⟨by decide, by decide⟩ (b := (ad 90)) 0 rfl rfl rfl hl.1 rfl rfl (Nat.le_of_ble_eq_true rfl) dX0_advance_16 ⟨Nat.zero_le _, Nat.zero_le _⟩ (fun r11 hm => ?_)
      refine lv_bipush (v := (nI 32)) hx hb dX0_advance_19 (by decide) ?_
      refine x_icmp_ne (tgt := 37) hx hb dX0_advance_21 (by decide) hm (fun hm => ?_) (fun hm => ?_)
      · refine lv_aload_n hx hb dX0_advance_37 rfl (lv_at hl 0 rfl) ?_
        refine lv_aload_n hx hb dX0_advance_38 rfl (lv_at hl 0 rfl) ?_
        refine gf_X0_25 (v := .int (S.2 5)) hx hb hT hown hK hP 0 rfl rfl dX0_advance_39 ?_
        refine pf_X0_41 (wf := (fun u => WX cs ad u)) (u0 := xI S 3 (S.2 5)) hx hb hT hown hK hP hD hS 0 rfl (Nat.le_of_ble_eq_true rfl) rfl rfl rfl hm dX0_advance_42 (fun S12 H locs hm hP hD hS => ?_)
        refine lv_aload_n hx hb dX0_advance_45 rfl (lv_at hl 0 rfl) ?_
        refine lv_aload_n hx hb dX0_advance_46 rfl (lv_at hl 0 rfl) ?_
        refine gf_X0_25 (v := .int (S12.2 5)) hx hb hT hown hK hP 0 rfl rfl dX0_advance_47 ?_
        refine xV_i (As := [.int (S12.2 5)]) (rest := []) hx hb hml hown hT hN hK hP cw_X0_99 hm (fun z h => tcX0_byteAt l D cs ad S12 (S12.2 5) z h) ⟨rfl, rfl⟩ ⟨by decide, by decide⟩ (b := (ad 90)) 0 rfl rfl rfl hl.1 rfl rfl (Nat.le_of_ble_eq_true rfl) dX0_advance_50 ⟨Nat.zero_le _, Nat.zero_le _⟩ (fun r13 hm => ?_)
        refine lv_istore_n (lv' := [(1, .int r13), (0, .ref (ad 90))]) hx hb dX0_advance_53 rfl hl (by decide) rfl (fun ls hl => ?_)
        refine lv_iload_n hx hb dX0_advance_54 rfl (lv_at hl 0 rfl) ?_
        refine lv_iconst (v := (-1 : Int32)) hx hb dX0_advance_55 (by decide) ?_
        refine x_icmp_ne (tgt := 67) hx hb dX0_advance_56 (by decide) hm (fun hm => ?_) (fun hm => ?_)
        · refine lv_iload_n hx hb dX0_advance_67 rfl (lv_at hl 0 rfl) ?_
          refine xS_i (As := [.int r13]) (rest := []) hx hb hml hown hT hN hK (hP.sub (ws' := []) [] rfl) cw_X0_103 hm (fun z h => tcX0_isLetter l D cs r13 z h) ⟨rfl, rfl⟩ ⟨by decide, by decide⟩ hl.1 rfl rfl (Nat.le_of_ble_eq_true rfl) dX0_advance_68 ⟨Nat.zero_le _, Nat.zero_le _⟩ (fun r14 hm => ?_)
          refine x_if_eq (tgt := 81) hx hb dX0_advance_71 (by decide) hm (fun hm => ?_) (fun hm => ?_)
          · refine lv_iload_n hx hb dX0_advance_81 rfl (lv_at hl 0 rfl) ?_
            refine xS_i (As := [.int r13]) (rest := []) hx hb hml hown hT hN hK (hP.sub (ws' := []) [] rfl) cw_X0_110 hm (fun z h => tcX0_isFigure l D cs r13 z h) ⟨rfl, rfl⟩ ⟨by decide, by decide⟩ hl.1 rfl rfl (Nat.le_of_ble_eq_true rfl) dX0_advance_82 ⟨Nat.zero_le _, Nat.zero_le _⟩ (fun r15 hm => ?_)
            refine x_if_eq (tgt := 95) hx hb dX0_advance_85 (by decide) hm (fun hm => ?_) (fun hm => ?_)
            · refine lv_aload_n hx hb dX0_advance_95 rfl (lv_at hl 1 rfl) ?_
              refine lv_dup hx hb dX0_advance_96 rfl ?_
              refine gf_X0_25 (v := .int (S12.2 5)) hx hb hT hown hK hP 0 rfl rfl dX0_advance_97 ?_
              refine lv_iconst (v := (nI 1)) hx hb dX0_advance_100 (by decide) ?_
              refine lv_iadd hx hb dX0_advance_101 ?_
              refine pf_X0_25 (wf := (fun u => WX cs ad u)) (u0 := xI S12 5 ((S12.2 5) + (nI 1))) hx hb hT hown hK hP hD hS 0 rfl (Nat.le_of_ble_eq_true rfl) rfl rfl rfl hm dX0_advance_102 (fun S16 H locs hm hP hD hS => ?_)
              refine lv_aload_n hx hb dX0_advance_105 rfl (lv_at hl 1 rfl) ?_
              refine lv_iload_n hx hb dX0_advance_106 rfl (lv_at hl 0 rfl) ?_
              refine lv_bipush (v := (nI 59)) hx hb dX0_advance_107 (by decide) ?_
              refine x_icmp_ne (tgt := 116) hx hb dX0_advance_109 (by decide) hm (fun hm => ?_) (fun hm => ?_)
              · refine lv_iconst (v := (nI 1)) hx hb dX0_advance_116 (by decide) ?_
                refine pf_X0_34 (wf := (fun u => WX cs ad u)) (u0 := xI S16 2 (nI 1)) hx hb hT hown hK hP hD hS 0 rfl (Nat.le_of_ble_eq_true rfl) rfl rfl rfl hm dX0_advance_117 (fun S17 H locs hm hP hD hS => ?_)
                exact x_vretW (wf := (fun u => WX cs ad u)) hx hb hr hlk hK hP hD hS hm dX0_advance_120
              · refine lv_iconst (v := (nI 2)) hx hb dX0_advance_112 (by decide) ?_
                refine lv_goto (tgt := 117) hx hb dX0_advance_113 (by decide) ?_
                refine pf_X0_34 (wf := (fun u => WX cs ad u)) (u0 := xI S16 2 (nI 2)) hx hb hT hown hK hP hD hS 0 rfl (Nat.le_of_ble_eq_true rfl) rfl rfl rfl hm dX0_advance_117 (fun S18 H locs hm hP hD hS => ?_)
                exact x_vretW (wf := (fun u => WX cs ad u)) hx hb hr hlk hK hP hD hS hm dX0_advance_120
            · refine lv_aload_n hx hb dX0_advance_88 rfl (lv_at hl 1 rfl) ?_
              refine xVW_v (As := []) (rest := []) (wr := []) (wg := (fun u => WX cs ad u)) hx hb hml hown hT hN hK hP hD hS hA cw_X0_113 hm (fun z h => tcX0_advanceOverFigures l D cs ad H.size S12 z h) ⟨rfl, rfl⟩ ⟨by decide, by decide⟩ [0, 1] [] [0, 1] rfl (by decide) rfl (by decide) (by decide) (fun _ => rfl) (by decide) (b := (ad 90)) 0 rfl rfl rfl hl.1 rfl rfl (Nat.le_of_ble_eq_true rfl) dX0_advance_89 ⟨Nat.zero_le _, Nat.zero_le _⟩ (fun S19 H locs hm hP hD hS => ?_)
              refine lv_goto (tgt := 120) hx hb dX0_advance_92 (by decide) ?_
              exact x_vretW (wf := (fun u => WX cs ad u)) hx hb hr hlk hK hP hD hS hm dX0_advance_120
          · refine lv_aload_n hx hb dX0_advance_74 rfl (lv_at hl 1 rfl) ?_
            refine xVSW_v (As := []) (rest := []) (wr := []) (wg := (fun u => WX cs ad u)) hx hb hml hown hT hN (hE.at hS hSA) hK hP hD hS hA hSA cw_X0_107 hm (fun z h => tcX0_advanceOverWord l D cs kS vS SA ad H.size S12 z h) ⟨rfl, rfl⟩ ⟨by decide, by decide⟩ [0, 1] [] [0, 1] rfl (by decide) rfl (by decide) (by decide) (fun _ => rfl) (by decide) (b := (ad 90)) 0 rfl rfl rfl hl.1 rfl rfl (Nat.le_of_ble_eq_true rfl) dX0_advance_75 ⟨Nat.zero_le _, Nat.zero_le _⟩ (fun S20 H locs hm hP hD hS => ?_)
            refine lv_goto (tgt := 120) hx hb dX0_advance_78 (by decide) ?_
            exact x_vretW (wf := (fun u => WX cs ad u)) hx hb hr hlk hK hP hD hS hm dX0_advance_120
        · refine lv_aload_n hx hb dX0_advance_59 rfl (lv_at hl 1 rfl) ?_
          refine lv_iconst (v := (nI 0)) hx hb dX0_advance_60 (by decide) ?_
          refine pf_X0_34 (wf := (fun u => WX cs ad u)) (u0 := xI S12 2 (nI 0)) hx hb hT hown hK hP hD hS 0 rfl (Nat.le_of_ble_eq_true rfl) rfl rfl rfl hm dX0_advance_61 (fun S21 H locs hm hP hD hS => ?_)
          refine lv_goto (tgt := 120) hx hb dX0_advance_64 (by decide) ?_
          exact x_vretW (wf := (fun u => WX cs ad u)) hx hb hr hlk hK hP hD hS hm dX0_advance_120
      · refine lv_aload_n hx hb dX0_advance_24 rfl (lv_at hl 0 rfl) ?_
        refine lv_dup hx hb dX0_advance_25 rfl ?_
        refine gf_X0_25 (v := .int (S.2 5)) hx hb hT hown hK hP 0 rfl rfl dX0_advance_26 ?_
        refine lv_iconst (v := (nI 1)) hx hb dX0_advance_29 (by decide) ?_
        refine lv_iadd hx hb dX0_advance_30 ?_
        refine pf_X0_25 (wf := (fun u => WX cs ad u)) (u0 := xI S 5 ((S.2 5) + (nI 1))) hx hb hT hown hK hP hD hS 0 rfl (Nat.le_of_ble_eq_true rfl) rfl rfl rfl hm dX0_advance_31 (fun S22 H locs hm hP hD hS => ?_)
        refine lv_goto (tgt := 0) hx hb dX0_advance_34 (by decide) ?_
        exact ih S22 hm H locs hP hD hS ls (lv_sub hl [0] rfl)
set_option maxHeartbeats 4000000 in
set_option maxRecDepth 100000 in
theorem tcX0_advance (l : Launch) (D : va_G) (cs : CS) (kS vS : Nat → Nat) (SA : Nat → Prop) (ad : Nat → Nat) (sz : Nat) (S : TX) (z : TX) (hm : mX0_advance S = some z) (hSA : ∀ q, va_A (WX cs ad S) sz q → SA q) : Met l yX0_advance (Cond.code yX0_advance cX0_advance 2 none :: gw_tbl) ({ frames := 6, cells := 0, slots := 0, locals := 127 }) (PcWS D cs kS vS SA sz (WX cs ad S) [.ref (ad 90)]) (QWv D cs (va_A (WX cs ad S) sz) (fun u => WX cs ad u) z) 0 0 (va_A (WX cs ad S) sz) := by
  refine met_WS rfl (Nat.le_of_ble_eq_true rfl) (fun p e s m below meth c E hE hP hD hS hA ls hl => ?_)
  generalize va_A (WX cs ad S) sz = A at hD hS hA hSA ⊢
  obtain ⟨hx, hb, hr, hml, hown, hlk, hT, hN, hK⟩ := id E
  obtain ⟨H, hH⟩ : ∃ H, H = s.heap := ⟨_, rfl⟩
  obtain ⟨locs, hlo⟩ : ∃ L : List Loc, L = [] := ⟨_, rfl⟩
  have hP : va_P D classes (WX cs ad S) H := by rw [hH]; exact hP
  have hS : va_S A s.heap H locs := by rw [hH, hlo]; exact hS
  rw [show W p l e _ s m _ below meth c s.heap [] 0 0 = W p l e _ s m _ below meth c H locs 0 0 by rw [hH, hlo]]
  have hl : lv_has ls 2 [(0, .ref (ad 90))] := hl
  unfold mX0_advance at hm
  exact kX0_advance_L0 E hE hSA hA _ FU S hm H locs hP hD hS ls (lv_sub hl [0] rfl)
noncomputable def mX0_numbersAhead (S : TX) : Option Int32 := (if (S.2 6) = (nI 5) then some (nI 3) else (if (S.2 6) = (nI 6) then some (nI 1) else some (nI 0)))
set_option maxHeartbeats 4000000 in
set_option maxRecDepth 100000 in
theorem tcX0_numbersAhead (l : Launch) (D : va_G) (cs : CS) (ad : Nat → Nat) (S : TX) (z : Int32) (hm : mX0_numbersAhead S = some z) : Met l yX0_numbersAhead (Cond.code yX0_numbersAhead cX0_numbersAhead 1 (some .int) :: gw_tbl) ({ frames := 0, cells := 0, slots := 0, locals := 0 }) (PcR D cs (WX cs ad S) [.ref (ad 90)]) (QRi z) 0 0 NoF := by
  refine met_R rfl (Nat.le_of_ble_eq_true rfl) (fun p e s m below meth c E hP ls hl => ?_)
  obtain ⟨hx, hb, hr, hml, hown, hlk, hT, hN, hK⟩ := id E
  have hl : lv_has ls 1 [(0, .ref (ad 90))] := hl
  unfold mX0_numbersAhead at hm
  refine lv_aload_n hx hb dX0_numbersAhead_0 rfl (lv_at hl 0 rfl) ?_
  refine gf_X0_28 (v := .int (S.2 6)) hx hb hT hown hK hP 0 rfl rfl dX0_numbersAhead_1 ?_
  refine lv_iconst (v := (nI 5)) hx hb dX0_numbersAhead_4 (by decide) ?_
  refine x_icmp_ne (tgt := 10) hx hb dX0_numbersAhead_5 (by decide) hm (fun hm => ?_) (fun hm => ?_)
  · refine lv_aload_n hx hb dX0_numbersAhead_10 rfl (lv_at hl 0 rfl) ?_
    refine gf_X0_28 (v := .int (S.2 6)) hx hb hT hown hK hP 0 rfl rfl dX0_numbersAhead_11 ?_
    refine lv_bipush (v := (nI 6)) hx hb dX0_numbersAhead_14 (by decide) ?_
    refine x_icmp_ne (tgt := 23) hx hb dX0_numbersAhead_16 (by decide) hm (fun hm => ?_) (fun hm => ?_)
    · refine lv_iconst (v := (nI 0)) hx hb dX0_numbersAhead_23 (by decide) ?_
      exact x_iretR hx hb hr hlk hm dX0_numbersAhead_24
    · refine lv_iconst (v := (nI 1)) hx hb dX0_numbersAhead_19 (by decide) ?_
      refine lv_goto (tgt := 24) hx hb dX0_numbersAhead_20 (by decide) ?_
      exact x_iretR hx hb hr hlk hm dX0_numbersAhead_24
  · refine lv_iconst (v := (nI 3)) hx hb dX0_numbersAhead_8 (by decide) ?_
    exact x_iretR hx hb hr hlk hm dX0_numbersAhead_9
noncomputable def mX0_mostHere (S : TX) : Option Int32 := (if (S.2 6) = (nI 5) then (if (S.2 7) = 0 then some (nI 5) else (mX0_numbersAhead S).bind fun r2 => (if (S.2 7) = (r2 - (nI 1)) then some (nI 20) else some (nI 7))) else (mX0_numbersAhead S).bind fun r1 => (if (S.2 7) = (r1 - (nI 1)) then some (nI 20) else some (nI 7)))
set_option maxHeartbeats 4000000 in
set_option maxRecDepth 100000 in
theorem tcX0_mostHere (l : Launch) (D : va_G) (cs : CS) (ad : Nat → Nat) (S : TX) (z : Int32) (hm : mX0_mostHere S = some z) : Met l yX0_mostHere (Cond.code yX0_mostHere cX0_mostHere 1 (some .int) :: gw_tbl) ({ frames := 1, cells := 0, slots := 0, locals := 20 }) (PcR D cs (WX cs ad S) [.ref (ad 90)]) (QRi z) 0 0 NoF := by
  refine met_R rfl (Nat.le_of_ble_eq_true rfl) (fun p e s m below meth c E hP ls hl => ?_)
  obtain ⟨hx, hb, hr, hml, hown, hlk, hT, hN, hK⟩ := id E
  have hl : lv_has ls 1 [(0, .ref (ad 90))] := hl
  unfold mX0_mostHere at hm
  refine lv_aload_n hx hb dX0_mostHere_0 rfl (lv_at hl 0 rfl) ?_
  refine gf_X0_28 (v := .int (S.2 6)) hx hb hT hown hK hP 0 rfl rfl dX0_mostHere_1 ?_
  refine lv_iconst (v := (nI 5)) hx hb dX0_mostHere_4 (by decide) ?_
  refine x_icmp_ne (tgt := 17) hx hb dX0_mostHere_5 (by decide) hm (fun hm => ?_) (fun hm => ?_)
  · refine lv_aload_n hx hb dX0_mostHere_17 rfl (lv_at hl 0 rfl) ?_
    refine gf_X0_47 (v := .int (S.2 7)) hx hb hT hown hK hP 0 rfl rfl dX0_mostHere_18 ?_
    refine lv_aload_n hx hb dX0_mostHere_21 rfl (lv_at hl 0 rfl) ?_
    refine xV_i (As := []) (rest := [.int (S.2 7)]) hx hb hml hown hT hN hK hP cw_X0_50 hm (fun z h => tcX0_numbersAhead l D cs ad S z h) ⟨rfl, rfl⟩ ⟨by decide, by decide⟩ (b := (ad 90)) 0 rfl rfl rfl hl.1 rfl rfl (Nat.le_of_ble_eq_true rfl) dX0_mostHere_22 ⟨Nat.zero_le _, Nat.zero_le _⟩ (fun r1 hm => ?_)
    refine lv_iconst (v := (nI 1)) hx hb dX0_mostHere_25 (by decide) ?_
    refine lv_isub hx hb dX0_mostHere_26 ?_
    refine x_icmp_ne (tgt := 35) hx hb dX0_mostHere_27 (by decide) hm (fun hm => ?_) (fun hm => ?_)
    · refine lv_bipush (v := (nI 7)) hx hb dX0_mostHere_35 (by decide) ?_
      exact x_iretR hx hb hr hlk hm dX0_mostHere_37
    · refine lv_bipush (v := (nI 20)) hx hb dX0_mostHere_30 (by decide) ?_
      refine lv_goto (tgt := 37) hx hb dX0_mostHere_32 (by decide) ?_
      exact x_iretR hx hb hr hlk hm dX0_mostHere_37
  · refine lv_aload_n hx hb dX0_mostHere_8 rfl (lv_at hl 0 rfl) ?_
    refine gf_X0_47 (v := .int (S.2 7)) hx hb hT hown hK hP 0 rfl rfl dX0_mostHere_9 ?_
    refine x_if_ne (tgt := 17) hx hb dX0_mostHere_12 (by decide) hm (fun hm => ?_) (fun hm => ?_)
    · refine lv_aload_n hx hb dX0_mostHere_17 rfl (lv_at hl 0 rfl) ?_
      refine gf_X0_47 (v := .int (S.2 7)) hx hb hT hown hK hP 0 rfl rfl dX0_mostHere_18 ?_
      refine lv_aload_n hx hb dX0_mostHere_21 rfl (lv_at hl 0 rfl) ?_
      refine xV_i (As := []) (rest := [.int (S.2 7)]) hx hb hml hown hT hN hK hP cw_X0_50 hm (fun z h => tcX0_numbersAhead l D cs ad S z h) ⟨rfl, rfl⟩ ⟨by decide, by decide⟩ (b := (ad 90)) 0 rfl rfl rfl hl.1 rfl rfl (Nat.le_of_ble_eq_true rfl) dX0_mostHere_22 ⟨Nat.zero_le _, Nat.zero_le _⟩ (fun r2 hm => ?_)
      refine lv_iconst (v := (nI 1)) hx hb dX0_mostHere_25 (by decide) ?_
      refine lv_isub hx hb dX0_mostHere_26 ?_
      refine x_icmp_ne (tgt := 35) hx hb dX0_mostHere_27 (by decide) hm (fun hm => ?_) (fun hm => ?_)
      · refine lv_bipush (v := (nI 7)) hx hb dX0_mostHere_35 (by decide) ?_
        exact x_iretR hx hb hr hlk hm dX0_mostHere_37
      · refine lv_bipush (v := (nI 20)) hx hb dX0_mostHere_30 (by decide) ?_
        refine lv_goto (tgt := 37) hx hb dX0_mostHere_32 (by decide) ?_
        exact x_iretR hx hb hr hlk hm dX0_mostHere_37
    · refine lv_iconst (v := (nI 5)) hx hb dX0_mostHere_15 (by decide) ?_
      exact x_iretR hx hb hr hlk hm dX0_mostHere_16
noncomputable def mX0_takeNumber (S : TX) : Option TX := (mX0_numbersAhead S).bind fun r1 => (if (S.2 7) < r1 then nm (xI S 8 (S.2 9)) fun S2 => nm (xI S2 9 (S2.2 10)) fun S3 => nm (xI S3 10 (S3.2 4)) fun S4 => nm (xI S4 7 ((S4.2 7) + (nI 1))) fun S5 => some S5 else nm (xI S 11 ((S.2 11) ||| ((nI 1) <<< ((S.2 4) &&& 31)))) fun S6 => nm (xI S6 7 ((S6.2 7) + (nI 1))) fun S7 => some S7)
set_option maxHeartbeats 4000000 in
set_option maxRecDepth 100000 in
theorem tcX0_takeNumber (l : Launch) (D : va_G) (cs : CS) (ad : Nat → Nat) (sz : Nat) (S : TX) (z : TX) (hm : mX0_takeNumber S = some z) : Met l yX0_takeNumber (Cond.code yX0_takeNumber cX0_takeNumber 1 none :: gw_tbl) ({ frames := 1, cells := 0, slots := 0, locals := 20 }) (PcW D cs sz (WX cs ad S) [.ref (ad 90)]) (QWv D cs (va_A (WX cs ad S) sz) (fun u => WX cs ad u) z) 0 0 (va_A (WX cs ad S) sz) := by
  refine met_W rfl (Nat.le_of_ble_eq_true rfl) (fun p e s m below meth c E hP hD hS hA ls hl => ?_)
  generalize va_A (WX cs ad S) sz = A at hD hS hA ⊢
  obtain ⟨hx, hb, hr, hml, hown, hlk, hT, hN, hK⟩ := id E
  obtain ⟨H, hH⟩ : ∃ H, H = s.heap := ⟨_, rfl⟩
  obtain ⟨locs, hlo⟩ : ∃ L : List Loc, L = [] := ⟨_, rfl⟩
  have hP : va_P D classes (WX cs ad S) H := by rw [hH]; exact hP
  have hS : va_S A s.heap H locs := by rw [hH, hlo]; exact hS
  rw [show W p l e _ s m _ below meth c s.heap [] 0 0 = W p l e _ s m _ below meth c H locs 0 0 by rw [hH, hlo]]
  have hl : lv_has ls 1 [(0, .ref (ad 90))] := hl
  unfold mX0_takeNumber at hm
  refine lv_aload_n hx hb dX0_takeNumber_0 rfl (lv_at hl 0 rfl) ?_
  refine gf_X0_47 (v := .int (S.2 7)) hx hb hT hown hK hP 0 rfl rfl dX0_takeNumber_1 ?_
  refine lv_aload_n hx hb dX0_takeNumber_4 rfl (lv_at hl 0 rfl) ?_
  refine xV_i (As := []) (rest := [.int (S.2 7)]) hx hb hml hown hT hN hK hP cw_X0_50 hm (fun z h => tcX0_numbersAhead l D cs ad S z h) ⟨rfl, rfl⟩ ⟨by decide, by decide⟩ (b := (ad 90)) 0 rfl rfl rfl hl.1 rfl rfl (Nat.le_of_ble_eq_true rfl) dX0_takeNumber_5 ⟨Nat.zero_le _, Nat.zero_le _⟩ (fun r1 hm => ?_)
  refine x_icmp_lt (tgt := 29) hx hb dX0_takeNumber_8 (by decide) hm (fun hm => ?_) (fun hm => ?_)
  · refine lv_aload_n hx hb dX0_takeNumber_29 rfl (lv_at hl 0 rfl) ?_
    refine lv_aload_n hx hb dX0_takeNumber_30 rfl (lv_at hl 0 rfl) ?_
    refine gf_X0_83 (v := .int (S.2 9)) hx hb hT hown hK hP 0 rfl rfl dX0_takeNumber_31 ?_
    refine pf_X0_86 (wf := (fun u => WX cs ad u)) (u0 := xI S 8 (S.2 9)) hx hb hT hown hK hP hD hS 0 rfl (Nat.le_of_ble_eq_true rfl) rfl rfl rfl hm dX0_takeNumber_34 (fun S2 H locs hm hP hD hS => ?_)
    refine lv_aload_n hx hb dX0_takeNumber_37 rfl (lv_at hl 0 rfl) ?_
    refine lv_aload_n hx hb dX0_takeNumber_38 rfl (lv_at hl 0 rfl) ?_
    refine gf_X0_89 (v := .int (S2.2 10)) hx hb hT hown hK hP 0 rfl rfl dX0_takeNumber_39 ?_
    refine pf_X0_83 (wf := (fun u => WX cs ad u)) (u0 := xI S2 9 (S2.2 10)) hx hb hT hown hK hP hD hS 0 rfl (Nat.le_of_ble_eq_true rfl) rfl rfl rfl hm dX0_takeNumber_42 (fun S3 H locs hm hP hD hS => ?_)
    refine lv_aload_n hx hb dX0_takeNumber_45 rfl (lv_at hl 0 rfl) ?_
    refine lv_aload_n hx hb dX0_takeNumber_46 rfl (lv_at hl 0 rfl) ?_
    refine gf_X0_58 (v := .int (S3.2 4)) hx hb hT hown hK hP 0 rfl rfl dX0_takeNumber_47 ?_
    refine pf_X0_89 (wf := (fun u => WX cs ad u)) (u0 := xI S3 10 (S3.2 4)) hx hb hT hown hK hP hD hS 0 rfl (Nat.le_of_ble_eq_true rfl) rfl rfl rfl hm dX0_takeNumber_50 (fun S4 H locs hm hP hD hS => ?_)
    refine lv_aload_n hx hb dX0_takeNumber_53 rfl (lv_at hl 0 rfl) ?_
    refine lv_dup hx hb dX0_takeNumber_54 rfl ?_
    refine gf_X0_47 (v := .int (S4.2 7)) hx hb hT hown hK hP 0 rfl rfl dX0_takeNumber_55 ?_
    refine lv_iconst (v := (nI 1)) hx hb dX0_takeNumber_58 (by decide) ?_
    refine lv_iadd hx hb dX0_takeNumber_59 ?_
    refine pf_X0_47 (wf := (fun u => WX cs ad u)) (u0 := xI S4 7 ((S4.2 7) + (nI 1))) hx hb hT hown hK hP hD hS 0 rfl (Nat.le_of_ble_eq_true rfl) rfl rfl rfl hm dX0_takeNumber_60 (fun S5 H locs hm hP hD hS => ?_)
    exact x_vretW (wf := (fun u => WX cs ad u)) hx hb hr hlk hK hP hD hS hm dX0_takeNumber_63
  · refine lv_aload_n hx hb dX0_takeNumber_11 rfl (lv_at hl 0 rfl) ?_
    refine lv_dup hx hb dX0_takeNumber_12 rfl ?_
    refine gf_X0_80 (v := .int (S.2 11)) hx hb hT hown hK hP 0 rfl rfl dX0_takeNumber_13 ?_
    refine lv_iconst (v := (nI 1)) hx hb dX0_takeNumber_16 (by decide) ?_
    refine lv_aload_n hx hb dX0_takeNumber_17 rfl (lv_at hl 0 rfl) ?_
    refine gf_X0_58 (v := .int (S.2 4)) hx hb hT hown hK hP 0 rfl rfl dX0_takeNumber_18 ?_
    refine lv_ishl hx hb dX0_takeNumber_21 ?_
    refine lv_ior hx hb dX0_takeNumber_22 ?_
    refine pf_X0_80 (wf := (fun u => WX cs ad u)) (u0 := xI S 11 ((S.2 11) ||| ((nI 1) <<< ((S.2 4) &&& 31)))) hx hb hT hown hK hP hD hS 0 rfl (Nat.le_of_ble_eq_true rfl) rfl rfl rfl hm dX0_takeNumber_23 (fun S6 H locs hm hP hD hS => ?_)
    refine lv_goto (tgt := 53) hx hb dX0_takeNumber_26 (by decide) ?_
    refine lv_aload_n hx hb dX0_takeNumber_53 rfl (lv_at hl 0 rfl) ?_
    refine lv_dup hx hb dX0_takeNumber_54 rfl ?_
    refine gf_X0_47 (v := .int (S6.2 7)) hx hb hT hown hK hP 0 rfl rfl dX0_takeNumber_55 ?_
    refine lv_iconst (v := (nI 1)) hx hb dX0_takeNumber_58 (by decide) ?_
    refine lv_iadd hx hb dX0_takeNumber_59 ?_
    refine pf_X0_47 (wf := (fun u => WX cs ad u)) (u0 := xI S6 7 ((S6.2 7) + (nI 1))) hx hb hT hown hK hP hD hS 0 rfl (Nat.le_of_ble_eq_true rfl) rfl rfl rfl hm dX0_takeNumber_60 (fun S7 H locs hm hP hD hS => ?_)
    exact x_vretW (wf := (fun u => WX cs ad u)) hx hb hr hlk hK hP hD hS hm dX0_takeNumber_63
noncomputable def mX0_beginItem (S : (TX × MT)) (a2 : Int32) : Option (Int32 × (TX × MT)) := (if a2 = 0 then (if ((S.1).2 2) = (nI 5) then (mX7_isFull (nI 6) (nI 4) 24 (S.2.1 0)).bind fun r5 => (if r5 = 0 then nm (xI (S.1) 6 ((S.1).2 2), S.2) fun S6 => nm (xI (S6.1) 7 (nI 0), S6.2) fun S7 => nm (xI (S7.1) 11 (nI 0), S7.2) fun S8 => zo (nI 1) (some ((nI 1), S8)) else (if ((S.1).2 2) = (nI 6) then (mX7_isFull (nI 4) (nI 2) 8 (S.2.1 1)).bind fun r9 => (if r9 = 0 then nm (xI (S.1) 6 ((S.1).2 2), S.2) fun S10 => nm (xI (S10.1) 7 (nI 0), S10.2) fun S11 => nm (xI (S11.1) 11 (nI 0), S11.2) fun S12 => zo (nI 1) (some ((nI 1), S12)) else zo (nI 0) (some ((nI 0), S))) else zo (nI 0) (some ((nI 0), S)))) else (if ((S.1).2 2) = (nI 6) then (mX7_isFull (nI 4) (nI 2) 8 (S.2.1 1)).bind fun r1 => (if r1 = 0 then nm (xI (S.1) 6 ((S.1).2 2), S.2) fun S2 => nm (xI (S2.1) 7 (nI 0), S2.2) fun S3 => nm (xI (S3.1) 11 (nI 0), S3.2) fun S4 => zo (nI 1) (some ((nI 1), S4)) else zo (nI 0) (some ((nI 0), S))) else zo (nI 0) (some ((nI 0), S)))) else (if ((S.1).2 2) = (nI 4) then nm (xI (S.1) 6 ((S.1).2 2), S.2) fun S13 => nm (xI (S13.1) 7 (nI 0), S13.2) fun S14 => nm (xI (S14.1) 11 (nI 0), S14.2) fun S15 => zo (nI 1) (some ((nI 1), S15)) else zo (nI 0) (some ((nI 0), S))))
set_option maxHeartbeats 4000000 in
set_option maxRecDepth 100000 in
theorem tcX0_beginItem (l : Launch) (D : va_G) (cs : CS) (ad : Nat → Nat) (b : Nat) (sz : Nat) (S : (TX × MT)) (a2 : Int32) (z : Int32 × (TX × MT)) (hm : mX0_beginItem S a2 = some z) : Met l yX0_beginItem (Cond.code yX0_beginItem cX0_beginItem 4 (some .boolean) :: gw_tbl) ({ frames := 1, cells := 0, slots := 0, locals := 20 }) (PcW D cs sz (WXM cs ad b S) [.ref (ad 90), .ref (ad b), .int a2]) (QWi D cs (va_A (WXM cs ad b S) sz) (fun u => WXM cs ad b u) z) 0 0 (va_A (WXM cs ad b S) sz) := by
  refine met_W rfl (Nat.le_of_ble_eq_true rfl) (fun p e s m below meth c E hP hD hS hA ls hl => ?_)
  generalize va_A (WXM cs ad b S) sz = A at hD hS hA ⊢
  obtain ⟨hx, hb, hr, hml, hown, hlk, hT, hN, hK⟩ := id E
  obtain ⟨H, hH⟩ : ∃ H, H = s.heap := ⟨_, rfl⟩
  obtain ⟨locs, hlo⟩ : ∃ L : List Loc, L = [] := ⟨_, rfl⟩
  have hP : va_P D classes (WXM cs ad b S) H := by rw [hH]; exact hP
  have hS : va_S A s.heap H locs := by rw [hH, hlo]; exact hS
  rw [show W p l e _ s m _ below meth c s.heap [] 0 0 = W p l e _ s m _ below meth c H locs 0 0 by rw [hH, hlo]]
  have hl : lv_has ls 4 [(0, .ref (ad 90)), (1, .ref (ad b)), (2, .int a2)] := hl
  unfold mX0_beginItem at hm
  refine lv_iload_n hx hb dX0_beginItem_0 rfl (lv_at hl 2 rfl) ?_
  refine x_if_eq (tgt := 20) hx hb dX0_beginItem_1 (by decide) hm (fun hm => ?_) (fun hm => ?_)
  · refine lv_aload_n hx hb dX0_beginItem_20 rfl (lv_at hl 0 rfl) ?_
    refine gf_X0_34 (v := .int ((S.1).2 2)) hx hb hT hown hK hP 0 rfl rfl dX0_beginItem_21 ?_
    refine lv_iconst (v := (nI 5)) hx hb dX0_beginItem_24 (by decide) ?_
    refine x_icmp_ne (tgt := 38) hx hb dX0_beginItem_25 (by decide) hm (fun hm => ?_) (fun hm => ?_)
    · refine lv_aload_n hx hb dX0_beginItem_38 rfl (lv_at hl 0 rfl) ?_
      refine gf_X0_34 (v := .int ((S.1).2 2)) hx hb hT hown hK hP 0 rfl rfl dX0_beginItem_39 ?_
      refine lv_bipush (v := (nI 6)) hx hb dX0_beginItem_42 (by decide) ?_
      refine x_icmp_ne (tgt := 61) hx hb dX0_beginItem_44 (by decide) hm (fun hm => ?_) (fun hm => ?_)
      · refine lv_iconst (v := (nI 0)) hx hb dX0_beginItem_61 (by decide) ?_
        refine lv_istore_n (lv' := [(3, .int (nI 0)), (0, .ref (ad 90)), (1, .ref (ad b)), (2, .int a2)]) hx hb dX0_beginItem_62 rfl hl (by decide) rfl (fun ls hl => ?_)
        refine lv_iload_n hx hb dX0_beginItem_63 rfl (lv_at hl 0 rfl) ?_
        refine lv_if_eq (tgt := 85) hx hb dX0_beginItem_64 (by decide) (fun _ => ?_) (fun h => absurd h (by decide))
        refine lv_iload_n hx hb dX0_beginItem_85 rfl (lv_at hl 0 rfl) ?_
        exact x_zretW (wf := (fun u => WXM cs ad b u)) hx hb hr hlk hK hP hD hS hm dX0_beginItem_86
      · refine lv_aload_n hx hb dX0_beginItem_47 rfl (lv_at hl 1 rfl) ?_
        refine gf_X0_77 (v := .ref (ad (b + 4))) hx hb hT hown hK hP 2 rfl rfl dX0_beginItem_48 ?_
        refine xV_i (As := []) (rest := []) hx hb hml hown hT hN hK (hP.sub (ws' := WR cs ad (b + 4) (nI 4) (nI 2) 8 (S.2.1 1)) [6, 7] rfl) cw_X0_71 hm (fun z h => tcX7_isFull l D cs ad (b + 4) (nI 4) (nI 2) 8 (S.2.1 1) z h) ⟨rfl, rfl⟩ ⟨by decide, by decide⟩ (b := (ad (b + 4))) 0 rfl rfl rfl hl.1 rfl rfl (Nat.le_of_ble_eq_true rfl) dX0_beginItem_51 ⟨Nat.zero_le _, Nat.zero_le _⟩ (fun r1 hm => ?_)
        refine x_if_ne (tgt := 61) hx hb dX0_beginItem_54 (by decide) hm (fun hm => ?_) (fun hm => ?_)
        · refine lv_iconst (v := (nI 0)) hx hb dX0_beginItem_61 (by decide) ?_
          refine lv_istore_n (lv' := [(3, .int (nI 0)), (0, .ref (ad 90)), (1, .ref (ad b)), (2, .int a2)]) hx hb dX0_beginItem_62 rfl hl (by decide) rfl (fun ls hl => ?_)
          refine lv_iload_n hx hb dX0_beginItem_63 rfl (lv_at hl 0 rfl) ?_
          refine lv_if_eq (tgt := 85) hx hb dX0_beginItem_64 (by decide) (fun _ => ?_) (fun h => absurd h (by decide))
          refine lv_iload_n hx hb dX0_beginItem_85 rfl (lv_at hl 0 rfl) ?_
          exact x_zretW (wf := (fun u => WXM cs ad b u)) hx hb hr hlk hK hP hD hS hm dX0_beginItem_86
        · refine lv_iconst (v := (nI 1)) hx hb dX0_beginItem_57 (by decide) ?_
          refine lv_goto (tgt := 62) hx hb dX0_beginItem_58 (by decide) ?_
          refine lv_istore_n (lv' := [(3, .int (nI 1)), (0, .ref (ad 90)), (1, .ref (ad b)), (2, .int a2)]) hx hb dX0_beginItem_62 rfl hl (by decide) rfl (fun ls hl => ?_)
          refine lv_iload_n hx hb dX0_beginItem_63 rfl (lv_at hl 0 rfl) ?_
          refine lv_if_eq (tgt := 85) hx hb dX0_beginItem_64 (by decide) (fun h => absurd h (by decide)) (fun _ => ?_)
          refine lv_aload_n hx hb dX0_beginItem_67 rfl (lv_at hl 1 rfl) ?_
          refine lv_aload_n hx hb dX0_beginItem_68 rfl (lv_at hl 1 rfl) ?_
          refine gf_X0_34 (v := .int ((S.1).2 2)) hx hb hT hown hK hP 0 rfl rfl dX0_beginItem_69 ?_
          refine pf_X0_28 (wf := (fun u => WXM cs ad b u)) (u0 := (xI (S.1) 6 ((S.1).2 2), S.2)) hx hb hT hown hK hP hD hS 0 rfl (Nat.le_of_ble_eq_true rfl) rfl rfl rfl hm dX0_beginItem_72 (fun S2 H locs hm hP hD hS => ?_)
          refine lv_aload_n hx hb dX0_beginItem_75 rfl (lv_at hl 1 rfl) ?_
          refine lv_iconst (v := (nI 0)) hx hb dX0_beginItem_76 (by decide) ?_
          refine pf_X0_47 (wf := (fun u => WXM cs ad b u)) (u0 := (xI (S2.1) 7 (nI 0), S2.2)) hx hb hT hown hK hP hD hS 0 rfl (Nat.le_of_ble_eq_true rfl) rfl rfl rfl hm dX0_beginItem_77 (fun S3 H locs hm hP hD hS => ?_)
          refine lv_aload_n hx hb dX0_beginItem_80 rfl (lv_at hl 1 rfl) ?_
          refine lv_iconst (v := (nI 0)) hx hb dX0_beginItem_81 (by decide) ?_
          refine pf_X0_80 (wf := (fun u => WXM cs ad b u)) (u0 := (xI (S3.1) 11 (nI 0), S3.2)) hx hb hT hown hK hP hD hS 0 rfl (Nat.le_of_ble_eq_true rfl) rfl rfl rfl hm dX0_beginItem_82 (fun S4 H locs hm hP hD hS => ?_)
          refine lv_iload_n hx hb dX0_beginItem_85 rfl (lv_at hl 0 rfl) ?_
          exact x_zretW (wf := (fun u => WXM cs ad b u)) hx hb hr hlk hK hP hD hS hm dX0_beginItem_86
    · refine lv_aload_n hx hb dX0_beginItem_28 rfl (lv_at hl 1 rfl) ?_
      refine gf_X0_67 (v := .ref (ad (b + 2))) hx hb hT hown hK hP 2 rfl rfl dX0_beginItem_29 ?_
      refine xV_i (As := []) (rest := []) hx hb hml hown hT hN hK (hP.sub (ws' := WR cs ad (b + 2) (nI 6) (nI 4) 24 (S.2.1 0)) [4, 5] rfl) cw_X0_71 hm (fun z h => tcX7_isFull l D cs ad (b + 2) (nI 6) (nI 4) 24 (S.2.1 0) z h) ⟨rfl, rfl⟩ ⟨by decide, by decide⟩ (b := (ad (b + 2))) 0 rfl rfl rfl hl.1 rfl rfl (Nat.le_of_ble_eq_true rfl) dX0_beginItem_32 ⟨Nat.zero_le _, Nat.zero_le _⟩ (fun r5 hm => ?_)
      refine x_if_eq (tgt := 57) hx hb dX0_beginItem_35 (by decide) hm (fun hm => ?_) (fun hm => ?_)
      · refine lv_iconst (v := (nI 1)) hx hb dX0_beginItem_57 (by decide) ?_
        refine lv_goto (tgt := 62) hx hb dX0_beginItem_58 (by decide) ?_
        refine lv_istore_n (lv' := [(3, .int (nI 1)), (0, .ref (ad 90)), (1, .ref (ad b)), (2, .int a2)]) hx hb dX0_beginItem_62 rfl hl (by decide) rfl (fun ls hl => ?_)
        refine lv_iload_n hx hb dX0_beginItem_63 rfl (lv_at hl 0 rfl) ?_
        refine lv_if_eq (tgt := 85) hx hb dX0_beginItem_64 (by decide) (fun h => absurd h (by decide)) (fun _ => ?_)
        refine lv_aload_n hx hb dX0_beginItem_67 rfl (lv_at hl 1 rfl) ?_
        refine lv_aload_n hx hb dX0_beginItem_68 rfl (lv_at hl 1 rfl) ?_
        refine gf_X0_34 (v := .int ((S.1).2 2)) hx hb hT hown hK hP 0 rfl rfl dX0_beginItem_69 ?_
        refine pf_X0_28 (wf := (fun u => WXM cs ad b u)) (u0 := (xI (S.1) 6 ((S.1).2 2), S.2)) hx hb hT hown hK hP hD hS 0 rfl (Nat.le_of_ble_eq_true rfl) rfl rfl rfl hm dX0_beginItem_72 (fun S6 H locs hm hP hD hS => ?_)
        refine lv_aload_n hx hb dX0_beginItem_75 rfl (lv_at hl 1 rfl) ?_
        refine lv_iconst (v := (nI 0)) hx hb dX0_beginItem_76 (by decide) ?_
        refine pf_X0_47 (wf := (fun u => WXM cs ad b u)) (u0 := (xI (S6.1) 7 (nI 0), S6.2)) hx hb hT hown hK hP hD hS 0 rfl (Nat.le_of_ble_eq_true rfl) rfl rfl rfl hm dX0_beginItem_77 (fun S7 H locs hm hP hD hS => ?_)
        refine lv_aload_n hx hb dX0_beginItem_80 rfl (lv_at hl 1 rfl) ?_
        refine lv_iconst (v := (nI 0)) hx hb dX0_beginItem_81 (by decide) ?_
        refine pf_X0_80 (wf := (fun u => WXM cs ad b u)) (u0 := (xI (S7.1) 11 (nI 0), S7.2)) hx hb hT hown hK hP hD hS 0 rfl (Nat.le_of_ble_eq_true rfl) rfl rfl rfl hm dX0_beginItem_82 (fun S8 H locs hm hP hD hS => ?_)
        refine lv_iload_n hx hb dX0_beginItem_85 rfl (lv_at hl 0 rfl) ?_
        exact x_zretW (wf := (fun u => WXM cs ad b u)) hx hb hr hlk hK hP hD hS hm dX0_beginItem_86
      · refine lv_aload_n hx hb dX0_beginItem_38 rfl (lv_at hl 0 rfl) ?_
        refine gf_X0_34 (v := .int ((S.1).2 2)) hx hb hT hown hK hP 0 rfl rfl dX0_beginItem_39 ?_
        refine lv_bipush (v := (nI 6)) hx hb dX0_beginItem_42 (by decide) ?_
        refine x_icmp_ne (tgt := 61) hx hb dX0_beginItem_44 (by decide) hm (fun hm => ?_) (fun hm => ?_)
        · refine lv_iconst (v := (nI 0)) hx hb dX0_beginItem_61 (by decide) ?_
          refine lv_istore_n (lv' := [(3, .int (nI 0)), (0, .ref (ad 90)), (1, .ref (ad b)), (2, .int a2)]) hx hb dX0_beginItem_62 rfl hl (by decide) rfl (fun ls hl => ?_)
          refine lv_iload_n hx hb dX0_beginItem_63 rfl (lv_at hl 0 rfl) ?_
          refine lv_if_eq (tgt := 85) hx hb dX0_beginItem_64 (by decide) (fun _ => ?_) (fun h => absurd h (by decide))
          refine lv_iload_n hx hb dX0_beginItem_85 rfl (lv_at hl 0 rfl) ?_
          exact x_zretW (wf := (fun u => WXM cs ad b u)) hx hb hr hlk hK hP hD hS hm dX0_beginItem_86
        · refine lv_aload_n hx hb dX0_beginItem_47 rfl (lv_at hl 1 rfl) ?_
          refine gf_X0_77 (v := .ref (ad (b + 4))) hx hb hT hown hK hP 2 rfl rfl dX0_beginItem_48 ?_
          refine xV_i (As := []) (rest := []) hx hb hml hown hT hN hK (hP.sub (ws' := WR cs ad (b + 4) (nI 4) (nI 2) 8 (S.2.1 1)) [6, 7] rfl) cw_X0_71 hm (fun z h => tcX7_isFull l D cs ad (b + 4) (nI 4) (nI 2) 8 (S.2.1 1) z h) ⟨rfl, rfl⟩ ⟨by decide, by decide⟩ (b := (ad (b + 4))) 0 rfl rfl rfl hl.1 rfl rfl (Nat.le_of_ble_eq_true rfl) dX0_beginItem_51 ⟨Nat.zero_le _, Nat.zero_le _⟩ (fun r9 hm => ?_)
          refine x_if_ne (tgt := 61) hx hb dX0_beginItem_54 (by decide) hm (fun hm => ?_) (fun hm => ?_)
          · refine lv_iconst (v := (nI 0)) hx hb dX0_beginItem_61 (by decide) ?_
            refine lv_istore_n (lv' := [(3, .int (nI 0)), (0, .ref (ad 90)), (1, .ref (ad b)), (2, .int a2)]) hx hb dX0_beginItem_62 rfl hl (by decide) rfl (fun ls hl => ?_)
            refine lv_iload_n hx hb dX0_beginItem_63 rfl (lv_at hl 0 rfl) ?_
            refine lv_if_eq (tgt := 85) hx hb dX0_beginItem_64 (by decide) (fun _ => ?_) (fun h => absurd h (by decide))
            refine lv_iload_n hx hb dX0_beginItem_85 rfl (lv_at hl 0 rfl) ?_
            exact x_zretW (wf := (fun u => WXM cs ad b u)) hx hb hr hlk hK hP hD hS hm dX0_beginItem_86
          · refine lv_iconst (v := (nI 1)) hx hb dX0_beginItem_57 (by decide) ?_
            refine lv_goto (tgt := 62) hx hb dX0_beginItem_58 (by decide) ?_
            refine lv_istore_n (lv' := [(3, .int (nI 1)), (0, .ref (ad 90)), (1, .ref (ad b)), (2, .int a2)]) hx hb dX0_beginItem_62 rfl hl (by decide) rfl (fun ls hl => ?_)
            refine lv_iload_n hx hb dX0_beginItem_63 rfl (lv_at hl 0 rfl) ?_
            refine lv_if_eq (tgt := 85) hx hb dX0_beginItem_64 (by decide) (fun h => absurd h (by decide)) (fun _ => ?_)
            refine lv_aload_n hx hb dX0_beginItem_67 rfl (lv_at hl 1 rfl) ?_
            refine lv_aload_n hx hb dX0_beginItem_68 rfl (lv_at hl 1 rfl) ?_
            refine gf_X0_34 (v := .int ((S.1).2 2)) hx hb hT hown hK hP 0 rfl rfl dX0_beginItem_69 ?_
            refine pf_X0_28 (wf := (fun u => WXM cs ad b u)) (u0 := (xI (S.1) 6 ((S.1).2 2), S.2)) hx hb hT hown hK hP hD hS 0 rfl (Nat.le_of_ble_eq_true rfl) rfl rfl rfl hm dX0_beginItem_72 (fun S10 H locs hm hP hD hS => ?_)
            refine lv_aload_n hx hb dX0_beginItem_75 rfl (lv_at hl 1 rfl) ?_
            refine lv_iconst (v := (nI 0)) hx hb dX0_beginItem_76 (by decide) ?_
            refine pf_X0_47 (wf := (fun u => WXM cs ad b u)) (u0 := (xI (S10.1) 7 (nI 0), S10.2)) hx hb hT hown hK hP hD hS 0 rfl (Nat.le_of_ble_eq_true rfl) rfl rfl rfl hm dX0_beginItem_77 (fun S11 H locs hm hP hD hS => ?_)
            refine lv_aload_n hx hb dX0_beginItem_80 rfl (lv_at hl 1 rfl) ?_
            refine lv_iconst (v := (nI 0)) hx hb dX0_beginItem_81 (by decide) ?_
            refine pf_X0_80 (wf := (fun u => WXM cs ad b u)) (u0 := (xI (S11.1) 11 (nI 0), S11.2)) hx hb hT hown hK hP hD hS 0 rfl (Nat.le_of_ble_eq_true rfl) rfl rfl rfl hm dX0_beginItem_82 (fun S12 H locs hm hP hD hS => ?_)
            refine lv_iload_n hx hb dX0_beginItem_85 rfl (lv_at hl 0 rfl) ?_
            exact x_zretW (wf := (fun u => WXM cs ad b u)) hx hb hr hlk hK hP hD hS hm dX0_beginItem_86
  · refine lv_aload_n hx hb dX0_beginItem_4 rfl (lv_at hl 0 rfl) ?_
    refine gf_X0_34 (v := .int ((S.1).2 2)) hx hb hT hown hK hP 0 rfl rfl dX0_beginItem_5 ?_
    refine lv_iconst (v := (nI 4)) hx hb dX0_beginItem_8 (by decide) ?_
    refine x_icmp_ne (tgt := 16) hx hb dX0_beginItem_9 (by decide) hm (fun hm => ?_) (fun hm => ?_)
    · refine lv_iconst (v := (nI 0)) hx hb dX0_beginItem_16 (by decide) ?_
      refine lv_goto (tgt := 62) hx hb dX0_beginItem_17 (by decide) ?_
      refine lv_istore_n (lv' := [(3, .int (nI 0)), (0, .ref (ad 90)), (1, .ref (ad b)), (2, .int a2)]) hx hb dX0_beginItem_62 rfl hl (by decide) rfl (fun ls hl => ?_)
      refine lv_iload_n hx hb dX0_beginItem_63 rfl (lv_at hl 0 rfl) ?_
      refine lv_if_eq (tgt := 85) hx hb dX0_beginItem_64 (by decide) (fun _ => ?_) (fun h => absurd h (by decide))
      refine lv_iload_n hx hb dX0_beginItem_85 rfl (lv_at hl 0 rfl) ?_
      exact x_zretW (wf := (fun u => WXM cs ad b u)) hx hb hr hlk hK hP hD hS hm dX0_beginItem_86
    · refine lv_iconst (v := (nI 1)) hx hb dX0_beginItem_12 (by decide) ?_
      refine lv_goto (tgt := 62) hx hb dX0_beginItem_13 (by decide) ?_
      refine lv_istore_n (lv' := [(3, .int (nI 1)), (0, .ref (ad 90)), (1, .ref (ad b)), (2, .int a2)]) hx hb dX0_beginItem_62 rfl hl (by decide) rfl (fun ls hl => ?_)
      refine lv_iload_n hx hb dX0_beginItem_63 rfl (lv_at hl 0 rfl) ?_
      refine lv_if_eq (tgt := 85) hx hb dX0_beginItem_64 (by decide) (fun h => absurd h (by decide)) (fun _ => ?_)
      refine lv_aload_n hx hb dX0_beginItem_67 rfl (lv_at hl 1 rfl) ?_
      refine lv_aload_n hx hb dX0_beginItem_68 rfl (lv_at hl 1 rfl) ?_
      refine gf_X0_34 (v := .int ((S.1).2 2)) hx hb hT hown hK hP 0 rfl rfl dX0_beginItem_69 ?_
      refine pf_X0_28 (wf := (fun u => WXM cs ad b u)) (u0 := (xI (S.1) 6 ((S.1).2 2), S.2)) hx hb hT hown hK hP hD hS 0 rfl (Nat.le_of_ble_eq_true rfl) rfl rfl rfl hm dX0_beginItem_72 (fun S13 H locs hm hP hD hS => ?_)
      refine lv_aload_n hx hb dX0_beginItem_75 rfl (lv_at hl 1 rfl) ?_
      refine lv_iconst (v := (nI 0)) hx hb dX0_beginItem_76 (by decide) ?_
      refine pf_X0_47 (wf := (fun u => WXM cs ad b u)) (u0 := (xI (S13.1) 7 (nI 0), S13.2)) hx hb hT hown hK hP hD hS 0 rfl (Nat.le_of_ble_eq_true rfl) rfl rfl rfl hm dX0_beginItem_77 (fun S14 H locs hm hP hD hS => ?_)
      refine lv_aload_n hx hb dX0_beginItem_80 rfl (lv_at hl 1 rfl) ?_
      refine lv_iconst (v := (nI 0)) hx hb dX0_beginItem_81 (by decide) ?_
      refine pf_X0_80 (wf := (fun u => WXM cs ad b u)) (u0 := (xI (S14.1) 11 (nI 0), S14.2)) hx hb hT hown hK hP hD hS 0 rfl (Nat.le_of_ble_eq_true rfl) rfl rfl rfl hm dX0_beginItem_82 (fun S15 H locs hm hP hD hS => ?_)
      refine lv_iload_n hx hb dX0_beginItem_85 rfl (lv_at hl 0 rfl) ?_
      exact x_zretW (wf := (fun u => WXM cs ad b u)) hx hb hr hlk hK hP hD hS hm dX0_beginItem_86
noncomputable def mX0_endItem (S : (TX × MT)) : Option (TX × MT) := (if ((S.1).2 6) = (nI 5) then (mX7_add (nI 6) (nI 4) 24 (S.2.1 0) ((S.1).2 8) ((S.1).2 11) ((S.1).2 9) ((S.1).2 10)).bind fun u7 => nm (S.1, tR (S.2) 0 u7) fun S6 => nm (xI (S6.1) 6 (-1 : Int32), S6.2) fun S8 => some S8 else (if ((S.1).2 6) = (nI 6) then (mX7_add (nI 4) (nI 2) 8 (S.2.1 1) ((S.1).2 11) ((S.1).2 10) (nI 0) (nI 0)).bind fun u4 => nm (S.1, tR (S.2) 1 u4) fun S3 => nm (xI (S3.1) 6 (-1 : Int32), S3.2) fun S5 => some S5 else nm (S.1, tI (S.2) 7 ((S.1).2 11)) fun S1 => nm (xI (S1.1) 6 (-1 : Int32), S1.2) fun S2 => some S2))
set_option maxHeartbeats 4000000 in
set_option maxRecDepth 100000 in
theorem tcX0_endItem (l : Launch) (D : va_G) (cs : CS) (ad : Nat → Nat) (b : Nat) (sz : Nat) (S : (TX × MT)) (z : (TX × MT)) (hm : mX0_endItem S = some z) : Met l yX0_endItem (Cond.code yX0_endItem cX0_endItem 2 none :: gw_tbl) ({ frames := 2, cells := 0, slots := 0, locals := 48 }) (PcW D cs sz (WXM cs ad b S) [.ref (ad 90), .ref (ad b)]) (QWv D cs (va_A (WXM cs ad b S) sz) (fun u => WXM cs ad b u) z) 0 0 (va_A (WXM cs ad b S) sz) := by
  refine met_W rfl (Nat.le_of_ble_eq_true rfl) (fun p e s m below meth c E hP hD hS hA ls hl => ?_)
  generalize va_A (WXM cs ad b S) sz = A at hD hS hA ⊢
  obtain ⟨hx, hb, hr, hml, hown, hlk, hT, hN, hK⟩ := id E
  obtain ⟨H, hH⟩ : ∃ H, H = s.heap := ⟨_, rfl⟩
  obtain ⟨locs, hlo⟩ : ∃ L : List Loc, L = [] := ⟨_, rfl⟩
  have hP : va_P D classes (WXM cs ad b S) H := by rw [hH]; exact hP
  have hS : va_S A s.heap H locs := by rw [hH, hlo]; exact hS
  rw [show W p l e _ s m _ below meth c s.heap [] 0 0 = W p l e _ s m _ below meth c H locs 0 0 by rw [hH, hlo]]
  have hl : lv_has ls 2 [(0, .ref (ad 90)), (1, .ref (ad b))] := hl
  unfold mX0_endItem at hm
  refine lv_aload_n hx hb dX0_endItem_0 rfl (lv_at hl 0 rfl) ?_
  refine gf_X0_28 (v := .int ((S.1).2 6)) hx hb hT hown hK hP 0 rfl rfl dX0_endItem_1 ?_
  refine lv_iconst (v := (nI 5)) hx hb dX0_endItem_4 (by decide) ?_
  refine x_icmp_ne (tgt := 34) hx hb dX0_endItem_5 (by decide) hm (fun hm => ?_) (fun hm => ?_)
  · refine lv_aload_n hx hb dX0_endItem_34 rfl (lv_at hl 0 rfl) ?_
    refine gf_X0_28 (v := .int ((S.1).2 6)) hx hb hT hown hK hP 0 rfl rfl dX0_endItem_35 ?_
    refine lv_bipush (v := (nI 6)) hx hb dX0_endItem_38 (by decide) ?_
    refine x_icmp_ne (tgt := 63) hx hb dX0_endItem_40 (by decide) hm (fun hm => ?_) (fun hm => ?_)
    · refine lv_aload_n hx hb dX0_endItem_63 rfl (lv_at hl 1 rfl) ?_
      refine lv_aload_n hx hb dX0_endItem_64 rfl (lv_at hl 0 rfl) ?_
      refine gf_X0_80 (v := .int ((S.1).2 11)) hx hb hT hown hK hP 0 rfl rfl dX0_endItem_65 ?_
      refine pf_X0_96 (wf := (fun u => WXM cs ad b u)) (u0 := (S.1, tI (S.2) 7 ((S.1).2 11))) hx hb hT hown hK hP hD hS 2 rfl (Nat.le_of_ble_eq_true rfl) rfl rfl rfl hm dX0_endItem_68 (fun S1 H locs hm hP hD hS => ?_)
      refine lv_aload_n hx hb dX0_endItem_71 rfl (lv_at hl 0 rfl) ?_
      refine lv_iconst (v := (-1 : Int32)) hx hb dX0_endItem_72 (by decide) ?_
      refine pf_X0_28 (wf := (fun u => WXM cs ad b u)) (u0 := (xI (S1.1) 6 (-1 : Int32), S1.2)) hx hb hT hown hK hP hD hS 0 rfl (Nat.le_of_ble_eq_true rfl) rfl rfl rfl hm dX0_endItem_73 (fun S2 H locs hm hP hD hS => ?_)
      exact x_vretW (wf := (fun u => WXM cs ad b u)) hx hb hr hlk hK hP hD hS hm dX0_endItem_76
    · refine lv_aload_n hx hb dX0_endItem_43 rfl (lv_at hl 1 rfl) ?_
      refine gf_X0_77 (v := .ref (ad (b + 4))) hx hb hT hown hK hP 2 rfl rfl dX0_endItem_44 ?_
      refine lv_aload_n hx hb dX0_endItem_47 rfl (lv_at hl 0 rfl) ?_
      refine gf_X0_80 (v := .int ((S.1).2 11)) hx hb hT hown hK hP 0 rfl rfl dX0_endItem_48 ?_
      refine lv_aload_n hx hb dX0_endItem_51 rfl (lv_at hl 0 rfl) ?_
      refine gf_X0_89 (v := .int ((S.1).2 10)) hx hb hT hown hK hP 0 rfl rfl dX0_endItem_52 ?_
      refine lv_iconst (v := (nI 0)) hx hb dX0_endItem_55 (by decide) ?_
      refine lv_iconst (v := (nI 0)) hx hb dX0_endItem_56 (by decide) ?_
      refine xVW_v (As := [.int ((S.1).2 11), .int ((S.1).2 10), .int (nI 0), .int (nI 0)]) (rest := []) (wr := [((ad 90), .inr (0, [.ref (ad 91), .int ((S.1).2 1), .int ((S.1).2 2), .int ((S.1).2 3), .int ((S.1).2 4), .int ((S.1).2 5), .int ((S.1).2 6), .int ((S.1).2 7), .int ((S.1).2 8), .int ((S.1).2 9), .int ((S.1).2 10), .int ((S.1).2 11)])), ((ad 91), .inl (cs 0, 150, .inl ((S.1).1))), ((ad b), .inr (3, [.ref (ad 1), .ref (ad (b + 1)), .ref (ad (b + 2)), .ref (ad (b + 4)), .ref (ad (b + 6)), .ref (ad (b + 8)), .ref (ad (b + 10)), .int ((S.2).2 7), .int ((S.2).2 8), .int ((S.2).2 9), .int ((S.2).2 10)])), ((ad (b + 1)), .inr (6, [])), ((ad (b + 2)), .inr (7, [.int (nI 6), .int (nI 4), .ref (ad (b + 3)), .int (((S.2).1 0).1)])), ((ad (b + 3)), .inl (cs 0, 24, .inl (((S.2).1 0).2))), ((ad (b + 6)), .inr (7, [.int (nI 6), .int (nI 3), .ref (ad (b + 7)), .int (((S.2).1 2).1)])), ((ad (b + 7)), .inl (cs 0, 18, .inl (((S.2).1 2).2))), ((ad (b + 8)), .inr (7, [.int (nI 6), .int (nI 2), .ref (ad (b + 9)), .int (((S.2).1 3).1)])), ((ad (b + 9)), .inl (cs 0, 12, .inl (((S.2).1 3).2))), ((ad (b + 10)), .inr (7, [.int (nI 8), .int (nI 3), .ref (ad (b + 11)), .int (((S.2).1 4).1)])), ((ad (b + 11)), .inl (cs 0, 24, .inl (((S.2).1 4).2))), ((ad 1), .inl (cs 2, 6, .inr (.inr (.inr (.inr (fun k => some (ad (2 + k)))))))), ((ad 2), .inr (6, [])), ((ad 3), .inr (5, [])), ((ad 4), .inr (1, [])), ((ad 5), .inr (9, [])), ((ad 6), .inr (2, [])), ((ad 7), .inr (8, []))]) (wg := fun u4 => WXM cs ad b (S.1, tR (S.2) 1 u4)) hx hb hml hown hT hN hK hP hD hS hA cw_X0_92 hm (fun z h => tcX7_add l D cs ad (b + 4) (nI 4) (nI 2) 8 H.size (S.2.1 1) ((S.1).2 11) ((S.1).2 10) (nI 0) (nI 0) z h) ⟨rfl, rfl⟩ ⟨by decide, by decide⟩ [6, 7] [0, 1, 2, 3, 4, 5, 8, 9, 10, 11, 12, 13, 14, 15, 16, 17, 18, 19, 20] [0, 1, 2, 3, 4, 5, 19, 20, 6, 7, 8, 9, 10, 11, 12, 13, 14, 15, 16, 17, 18] rfl (by decide) rfl (by decide) (by decide) (fun _ => rfl) (by decide) (b := (ad (b + 4))) 0 rfl rfl rfl hl.1 rfl rfl (Nat.le_of_ble_eq_true rfl) dX0_endItem_57 ⟨Nat.zero_le _, Nat.zero_le _⟩ (fun u4 H locs hm hP hD hS => ?_)
      obtain ⟨S3, hm, eS3⟩ := nm_ex hm
      rw [← eS3] at hP hD
      refine lv_goto (tgt := 71) hx hb dX0_endItem_60 (by decide) ?_
      refine lv_aload_n hx hb dX0_endItem_71 rfl (lv_at hl 0 rfl) ?_
      refine lv_iconst (v := (-1 : Int32)) hx hb dX0_endItem_72 (by decide) ?_
      refine pf_X0_28 (wf := (fun u => WXM cs ad b u)) (u0 := (xI (S3.1) 6 (-1 : Int32), S3.2)) hx hb hT hown hK hP hD hS 0 rfl (Nat.le_of_ble_eq_true rfl) rfl rfl rfl hm dX0_endItem_73 (fun S5 H locs hm hP hD hS => ?_)
      exact x_vretW (wf := (fun u => WXM cs ad b u)) hx hb hr hlk hK hP hD hS hm dX0_endItem_76
  · refine lv_aload_n hx hb dX0_endItem_8 rfl (lv_at hl 1 rfl) ?_
    refine gf_X0_67 (v := .ref (ad (b + 2))) hx hb hT hown hK hP 2 rfl rfl dX0_endItem_9 ?_
    refine lv_aload_n hx hb dX0_endItem_12 rfl (lv_at hl 0 rfl) ?_
    refine gf_X0_86 (v := .int ((S.1).2 8)) hx hb hT hown hK hP 0 rfl rfl dX0_endItem_13 ?_
    refine lv_aload_n hx hb dX0_endItem_16 rfl (lv_at hl 0 rfl) ?_
    refine gf_X0_80 (v := .int ((S.1).2 11)) hx hb hT hown hK hP 0 rfl rfl dX0_endItem_17 ?_
    refine lv_aload_n hx hb dX0_endItem_20 rfl (lv_at hl 0 rfl) ?_
    refine gf_X0_83 (v := .int ((S.1).2 9)) hx hb hT hown hK hP 0 rfl rfl dX0_endItem_21 ?_
    refine lv_aload_n hx hb dX0_endItem_24 rfl (lv_at hl 0 rfl) ?_
    refine gf_X0_89 (v := .int ((S.1).2 10)) hx hb hT hown hK hP 0 rfl rfl dX0_endItem_25 ?_
    refine xVW_v (As := [.int ((S.1).2 8), .int ((S.1).2 11), .int ((S.1).2 9), .int ((S.1).2 10)]) (rest := []) (wr := [((ad 90), .inr (0, [.ref (ad 91), .int ((S.1).2 1), .int ((S.1).2 2), .int ((S.1).2 3), .int ((S.1).2 4), .int ((S.1).2 5), .int ((S.1).2 6), .int ((S.1).2 7), .int ((S.1).2 8), .int ((S.1).2 9), .int ((S.1).2 10), .int ((S.1).2 11)])), ((ad 91), .inl (cs 0, 150, .inl ((S.1).1))), ((ad b), .inr (3, [.ref (ad 1), .ref (ad (b + 1)), .ref (ad (b + 2)), .ref (ad (b + 4)), .ref (ad (b + 6)), .ref (ad (b + 8)), .ref (ad (b + 10)), .int ((S.2).2 7), .int ((S.2).2 8), .int ((S.2).2 9), .int ((S.2).2 10)])), ((ad (b + 1)), .inr (6, [])), ((ad (b + 4)), .inr (7, [.int (nI 4), .int (nI 2), .ref (ad (b + 5)), .int (((S.2).1 1).1)])), ((ad (b + 5)), .inl (cs 0, 8, .inl (((S.2).1 1).2))), ((ad (b + 6)), .inr (7, [.int (nI 6), .int (nI 3), .ref (ad (b + 7)), .int (((S.2).1 2).1)])), ((ad (b + 7)), .inl (cs 0, 18, .inl (((S.2).1 2).2))), ((ad (b + 8)), .inr (7, [.int (nI 6), .int (nI 2), .ref (ad (b + 9)), .int (((S.2).1 3).1)])), ((ad (b + 9)), .inl (cs 0, 12, .inl (((S.2).1 3).2))), ((ad (b + 10)), .inr (7, [.int (nI 8), .int (nI 3), .ref (ad (b + 11)), .int (((S.2).1 4).1)])), ((ad (b + 11)), .inl (cs 0, 24, .inl (((S.2).1 4).2))), ((ad 1), .inl (cs 2, 6, .inr (.inr (.inr (.inr (fun k => some (ad (2 + k)))))))), ((ad 2), .inr (6, [])), ((ad 3), .inr (5, [])), ((ad 4), .inr (1, [])), ((ad 5), .inr (9, [])), ((ad 6), .inr (2, [])), ((ad 7), .inr (8, []))]) (wg := fun u7 => WXM cs ad b (S.1, tR (S.2) 0 u7)) hx hb hml hown hT hN hK hP hD hS hA cw_X0_92 hm (fun z h => tcX7_add l D cs ad (b + 2) (nI 6) (nI 4) 24 H.size (S.2.1 0) ((S.1).2 8) ((S.1).2 11) ((S.1).2 9) ((S.1).2 10) z h) ⟨rfl, rfl⟩ ⟨by decide, by decide⟩ [4, 5] [0, 1, 2, 3, 6, 7, 8, 9, 10, 11, 12, 13, 14, 15, 16, 17, 18, 19, 20] [0, 1, 2, 3, 19, 20, 4, 5, 6, 7, 8, 9, 10, 11, 12, 13, 14, 15, 16, 17, 18] rfl (by decide) rfl (by decide) (by decide) (fun _ => rfl) (by decide) (b := (ad (b + 2))) 0 rfl rfl rfl hl.1 rfl rfl (Nat.le_of_ble_eq_true rfl) dX0_endItem_28 ⟨Nat.zero_le _, Nat.zero_le _⟩ (fun u7 H locs hm hP hD hS => ?_)
    obtain ⟨S6, hm, eS6⟩ := nm_ex hm
    rw [← eS6] at hP hD
    refine lv_goto (tgt := 71) hx hb dX0_endItem_31 (by decide) ?_
    refine lv_aload_n hx hb dX0_endItem_71 rfl (lv_at hl 0 rfl) ?_
    refine lv_iconst (v := (-1 : Int32)) hx hb dX0_endItem_72 (by decide) ?_
    refine pf_X0_28 (wf := (fun u => WXM cs ad b u)) (u0 := (xI (S6.1) 6 (-1 : Int32), S6.2)) hx hb hT hown hK hP hD hS 0 rfl (Nat.le_of_ble_eq_true rfl) rfl rfl rfl hm dX0_endItem_73 (fun S8 H locs hm hP hD hS => ?_)
    exact x_vretW (wf := (fun u => WXM cs ad b u)) hx hb hr hlk hK hP hD hS hm dX0_endItem_76
noncomputable def mX0_takeToken (S : (TX × MT)) (a2 : Int32) : Option (Int32 × (TX × MT)) := (if ((S.1).2 6) = (-1 : Int32) then (mX0_beginItem S a2).bind fun ⟨r10, S9⟩ => zo r10 (some (r10, S9)) else (if ((S.1).2 2) = (nI 2) then (mX0_numbersAhead (S.1)).bind fun r4 => (if ((S.1).2 7) < r4 then (if ((S.1).2 2) = (nI 3) then (mX0_mostHere (S.1)).bind fun r5 => (if r5 < ((S.1).2 4) then zo (nI 0) (some ((nI 0), S)) else (mX0_takeNumber (S.1)).bind fun u7 => nm (u7, S.2) fun S6 => zo (nI 1) (some ((nI 1), S6))) else zo (nI 0) (some ((nI 0), S))) else (mX0_endItem S).bind fun S8 => zo (nI 1) (some ((nI 1), S8))) else (if ((S.1).2 2) = (nI 3) then (mX0_mostHere (S.1)).bind fun r1 => (if r1 < ((S.1).2 4) then zo (nI 0) (some ((nI 0), S)) else (mX0_takeNumber (S.1)).bind fun u3 => nm (u3, S.2) fun S2 => zo (nI 1) (some ((nI 1), S2))) else zo (nI 0) (some ((nI 0), S)))))
set_option maxHeartbeats 4000000 in
set_option maxRecDepth 100000 in
theorem tcX0_takeToken (l : Launch) (D : va_G) (cs : CS) (ad : Nat → Nat) (b : Nat) (sz : Nat) (S : (TX × MT)) (a2 : Int32) (z : Int32 × (TX × MT)) (hm : mX0_takeToken S a2 = some z) : Met l yX0_takeToken (Cond.code yX0_takeToken cX0_takeToken 3 (some .boolean) :: gw_tbl) ({ frames := 3, cells := 0, slots := 0, locals := 69 }) (PcW D cs sz (WXM cs ad b S) [.ref (ad 90), .ref (ad b), .int a2]) (QWi D cs (va_A (WXM cs ad b S) sz) (fun u => WXM cs ad b u) z) 0 0 (va_A (WXM cs ad b S) sz) := by
  refine met_W rfl (Nat.le_of_ble_eq_true rfl) (fun p e s m below meth c E hP hD hS hA ls hl => ?_)
  generalize va_A (WXM cs ad b S) sz = A at hD hS hA ⊢
  obtain ⟨hx, hb, hr, hml, hown, hlk, hT, hN, hK⟩ := id E
  obtain ⟨H, hH⟩ : ∃ H, H = s.heap := ⟨_, rfl⟩
  obtain ⟨locs, hlo⟩ : ∃ L : List Loc, L = [] := ⟨_, rfl⟩
  have hP : va_P D classes (WXM cs ad b S) H := by rw [hH]; exact hP
  have hS : va_S A s.heap H locs := by rw [hH, hlo]; exact hS
  rw [show W p l e _ s m _ below meth c s.heap [] 0 0 = W p l e _ s m _ below meth c H locs 0 0 by rw [hH, hlo]]
  have hl : lv_has ls 3 [(0, .ref (ad 90)), (1, .ref (ad b)), (2, .int a2)] := hl
  unfold mX0_takeToken at hm
  refine lv_aload_n hx hb dX0_takeToken_0 rfl (lv_at hl 0 rfl) ?_
  refine gf_X0_28 (v := .int ((S.1).2 6)) hx hb hT hown hK hP 0 rfl rfl dX0_takeToken_1 ?_
  refine lv_iconst (v := (-1 : Int32)) hx hb dX0_takeToken_4 (by decide) ?_
  refine x_icmp_ne (tgt := 15) hx hb dX0_takeToken_5 (by decide) hm (fun hm => ?_) (fun hm => ?_)
  · refine lv_aload_n hx hb dX0_takeToken_15 rfl (lv_at hl 0 rfl) ?_
    refine gf_X0_34 (v := .int ((S.1).2 2)) hx hb hT hown hK hP 0 rfl rfl dX0_takeToken_16 ?_
    refine lv_iconst (v := (nI 2)) hx hb dX0_takeToken_19 (by decide) ?_
    refine x_icmp_ne (tgt := 41) hx hb dX0_takeToken_20 (by decide) hm (fun hm => ?_) (fun hm => ?_)
    · refine lv_aload_n hx hb dX0_takeToken_41 rfl (lv_at hl 0 rfl) ?_
      refine gf_X0_34 (v := .int ((S.1).2 2)) hx hb hT hown hK hP 0 rfl rfl dX0_takeToken_42 ?_
      refine lv_iconst (v := (nI 3)) hx hb dX0_takeToken_45 (by decide) ?_
      refine x_icmp_ne (tgt := 66) hx hb dX0_takeToken_46 (by decide) hm (fun hm => ?_) (fun hm => ?_)
      · refine lv_iconst (v := (nI 0)) hx hb dX0_takeToken_66 (by decide) ?_
        exact x_zretW (wf := (fun u => WXM cs ad b u)) hx hb hr hlk hK hP hD hS hm dX0_takeToken_67
      · refine lv_aload_n hx hb dX0_takeToken_49 rfl (lv_at hl 0 rfl) ?_
        refine gf_X0_58 (v := .int ((S.1).2 4)) hx hb hT hown hK hP 0 rfl rfl dX0_takeToken_50 ?_
        refine lv_aload_n hx hb dX0_takeToken_53 rfl (lv_at hl 0 rfl) ?_
        refine xV_i (As := []) (rest := [.int ((S.1).2 4)]) hx hb hml hown hT hN hK (hP.sub (ws' := WX cs ad (S.1)) [0, 1] rfl) cw_X0_61 hm (fun z h => tcX0_mostHere l D cs ad (S.1) z h) ⟨rfl, rfl⟩ ⟨by decide, by decide⟩ (b := (ad 90)) 0 rfl rfl rfl hl.1 rfl rfl (Nat.le_of_ble_eq_true rfl) dX0_takeToken_54 ⟨Nat.zero_le _, Nat.zero_le _⟩ (fun r1 hm => ?_)
        refine x_icmp_gt (tgt := 66) hx hb dX0_takeToken_57 (by decide) hm (fun hm => ?_) (fun hm => ?_)
        · refine lv_iconst (v := (nI 0)) hx hb dX0_takeToken_66 (by decide) ?_
          exact x_zretW (wf := (fun u => WXM cs ad b u)) hx hb hr hlk hK hP hD hS hm dX0_takeToken_67
        · refine lv_aload_n hx hb dX0_takeToken_60 rfl (lv_at hl 0 rfl) ?_
          refine xVW_v (As := []) (rest := []) (wr := [((ad b), .inr (3, [.ref (ad 1), .ref (ad (b + 1)), .ref (ad (b + 2)), .ref (ad (b + 4)), .ref (ad (b + 6)), .ref (ad (b + 8)), .ref (ad (b + 10)), .int ((S.2).2 7), .int ((S.2).2 8), .int ((S.2).2 9), .int ((S.2).2 10)])), ((ad (b + 1)), .inr (6, [])), ((ad (b + 2)), .inr (7, [.int (nI 6), .int (nI 4), .ref (ad (b + 3)), .int (((S.2).1 0).1)])), ((ad (b + 3)), .inl (cs 0, 24, .inl (((S.2).1 0).2))), ((ad (b + 4)), .inr (7, [.int (nI 4), .int (nI 2), .ref (ad (b + 5)), .int (((S.2).1 1).1)])), ((ad (b + 5)), .inl (cs 0, 8, .inl (((S.2).1 1).2))), ((ad (b + 6)), .inr (7, [.int (nI 6), .int (nI 3), .ref (ad (b + 7)), .int (((S.2).1 2).1)])), ((ad (b + 7)), .inl (cs 0, 18, .inl (((S.2).1 2).2))), ((ad (b + 8)), .inr (7, [.int (nI 6), .int (nI 2), .ref (ad (b + 9)), .int (((S.2).1 3).1)])), ((ad (b + 9)), .inl (cs 0, 12, .inl (((S.2).1 3).2))), ((ad (b + 10)), .inr (7, [.int (nI 8), .int (nI 3), .ref (ad (b + 11)), .int (((S.2).1 4).1)])), ((ad (b + 11)), .inl (cs 0, 24, .inl (((S.2).1 4).2))), ((ad 1), .inl (cs 2, 6, .inr (.inr (.inr (.inr (fun k => some (ad (2 + k)))))))), ((ad 2), .inr (6, [])), ((ad 3), .inr (5, [])), ((ad 4), .inr (1, [])), ((ad 5), .inr (9, [])), ((ad 6), .inr (2, [])), ((ad 7), .inr (8, []))]) (wg := fun u3 => WXM cs ad b (u3, S.2)) hx hb hml hown hT hN hK hP hD hS hA cw_X0_64 hm (fun z h => tcX0_takeNumber l D cs ad H.size (S.1) z h) ⟨rfl, rfl⟩ ⟨by decide, by decide⟩ [0, 1] [2, 3, 4, 5, 6, 7, 8, 9, 10, 11, 12, 13, 14, 15, 16, 17, 18, 19, 20] [19, 20, 0, 1, 2, 3, 4, 5, 6, 7, 8, 9, 10, 11, 12, 13, 14, 15, 16, 17, 18] rfl (by decide) rfl (by decide) (by decide) (fun _ => rfl) (by decide) (b := (ad 90)) 0 rfl rfl rfl hl.1 rfl rfl (Nat.le_of_ble_eq_true rfl) dX0_takeToken_61 ⟨Nat.zero_le _, Nat.zero_le _⟩ (fun u3 H locs hm hP hD hS => ?_)
          obtain ⟨S2, hm, eS2⟩ := nm_ex hm
          rw [← eS2] at hP hD
          refine lv_iconst (v := (nI 1)) hx hb dX0_takeToken_64 (by decide) ?_
          exact x_zretW (wf := (fun u => WXM cs ad b u)) hx hb hr hlk hK hP hD hS hm dX0_takeToken_65
    · refine lv_aload_n hx hb dX0_takeToken_23 rfl (lv_at hl 0 rfl) ?_
      refine gf_X0_47 (v := .int ((S.1).2 7)) hx hb hT hown hK hP 0 rfl rfl dX0_takeToken_24 ?_
      refine lv_aload_n hx hb dX0_takeToken_27 rfl (lv_at hl 0 rfl) ?_
      refine xV_i (As := []) (rest := [.int ((S.1).2 7)]) hx hb hml hown hT hN hK (hP.sub (ws' := WX cs ad (S.1)) [0, 1] rfl) cw_X0_50 hm (fun z h => tcX0_numbersAhead l D cs ad (S.1) z h) ⟨rfl, rfl⟩ ⟨by decide, by decide⟩ (b := (ad 90)) 0 rfl rfl rfl hl.1 rfl rfl (Nat.le_of_ble_eq_true rfl) dX0_takeToken_28 ⟨Nat.zero_le _, Nat.zero_le _⟩ (fun r4 hm => ?_)
      refine x_icmp_lt (tgt := 41) hx hb dX0_takeToken_31 (by decide) hm (fun hm => ?_) (fun hm => ?_)
      · refine lv_aload_n hx hb dX0_takeToken_41 rfl (lv_at hl 0 rfl) ?_
        refine gf_X0_34 (v := .int ((S.1).2 2)) hx hb hT hown hK hP 0 rfl rfl dX0_takeToken_42 ?_
        refine lv_iconst (v := (nI 3)) hx hb dX0_takeToken_45 (by decide) ?_
        refine x_icmp_ne (tgt := 66) hx hb dX0_takeToken_46 (by decide) hm (fun hm => ?_) (fun hm => ?_)
        · refine lv_iconst (v := (nI 0)) hx hb dX0_takeToken_66 (by decide) ?_
          exact x_zretW (wf := (fun u => WXM cs ad b u)) hx hb hr hlk hK hP hD hS hm dX0_takeToken_67
        · refine lv_aload_n hx hb dX0_takeToken_49 rfl (lv_at hl 0 rfl) ?_
          refine gf_X0_58 (v := .int ((S.1).2 4)) hx hb hT hown hK hP 0 rfl rfl dX0_takeToken_50 ?_
          refine lv_aload_n hx hb dX0_takeToken_53 rfl (lv_at hl 0 rfl) ?_
          refine xV_i (As := []) (rest := [.int ((S.1).2 4)]) hx hb hml hown hT hN hK (hP.sub (ws' := WX cs ad (S.1)) [0, 1] rfl) cw_X0_61 hm (fun z h => tcX0_mostHere l D cs ad (S.1) z h) ⟨rfl, rfl⟩ ⟨by decide, by decide⟩ (b := (ad 90)) 0 rfl rfl rfl hl.1 rfl rfl (Nat.le_of_ble_eq_true rfl) dX0_takeToken_54 ⟨Nat.zero_le _, Nat.zero_le _⟩ (fun r5 hm => ?_)
          refine x_icmp_gt (tgt := 66) hx hb dX0_takeToken_57 (by decide) hm (fun hm => ?_) (fun hm => ?_)
          · refine lv_iconst (v := (nI 0)) hx hb dX0_takeToken_66 (by decide) ?_
            exact x_zretW (wf := (fun u => WXM cs ad b u)) hx hb hr hlk hK hP hD hS hm dX0_takeToken_67
          · refine lv_aload_n hx hb dX0_takeToken_60 rfl (lv_at hl 0 rfl) ?_
            refine xVW_v (As := []) (rest := []) (wr := [((ad b), .inr (3, [.ref (ad 1), .ref (ad (b + 1)), .ref (ad (b + 2)), .ref (ad (b + 4)), .ref (ad (b + 6)), .ref (ad (b + 8)), .ref (ad (b + 10)), .int ((S.2).2 7), .int ((S.2).2 8), .int ((S.2).2 9), .int ((S.2).2 10)])), ((ad (b + 1)), .inr (6, [])), ((ad (b + 2)), .inr (7, [.int (nI 6), .int (nI 4), .ref (ad (b + 3)), .int (((S.2).1 0).1)])), ((ad (b + 3)), .inl (cs 0, 24, .inl (((S.2).1 0).2))), ((ad (b + 4)), .inr (7, [.int (nI 4), .int (nI 2), .ref (ad (b + 5)), .int (((S.2).1 1).1)])), ((ad (b + 5)), .inl (cs 0, 8, .inl (((S.2).1 1).2))), ((ad (b + 6)), .inr (7, [.int (nI 6), .int (nI 3), .ref (ad (b + 7)), .int (((S.2).1 2).1)])), ((ad (b + 7)), .inl (cs 0, 18, .inl (((S.2).1 2).2))), ((ad (b + 8)), .inr (7, [.int (nI 6), .int (nI 2), .ref (ad (b + 9)), .int (((S.2).1 3).1)])), ((ad (b + 9)), .inl (cs 0, 12, .inl (((S.2).1 3).2))), ((ad (b + 10)), .inr (7, [.int (nI 8), .int (nI 3), .ref (ad (b + 11)), .int (((S.2).1 4).1)])), ((ad (b + 11)), .inl (cs 0, 24, .inl (((S.2).1 4).2))), ((ad 1), .inl (cs 2, 6, .inr (.inr (.inr (.inr (fun k => some (ad (2 + k)))))))), ((ad 2), .inr (6, [])), ((ad 3), .inr (5, [])), ((ad 4), .inr (1, [])), ((ad 5), .inr (9, [])), ((ad 6), .inr (2, [])), ((ad 7), .inr (8, []))]) (wg := fun u7 => WXM cs ad b (u7, S.2)) hx hb hml hown hT hN hK hP hD hS hA cw_X0_64 hm (fun z h => tcX0_takeNumber l D cs ad H.size (S.1) z h) ⟨rfl, rfl⟩ ⟨by decide, by decide⟩ [0, 1] [2, 3, 4, 5, 6, 7, 8, 9, 10, 11, 12, 13, 14, 15, 16, 17, 18, 19, 20] [19, 20, 0, 1, 2, 3, 4, 5, 6, 7, 8, 9, 10, 11, 12, 13, 14, 15, 16, 17, 18] rfl (by decide) rfl (by decide) (by decide) (fun _ => rfl) (by decide) (b := (ad 90)) 0 rfl rfl rfl hl.1 rfl rfl (Nat.le_of_ble_eq_true rfl) dX0_takeToken_61 ⟨Nat.zero_le _, Nat.zero_le _⟩ (fun u7 H locs hm hP hD hS => ?_)
            obtain ⟨S6, hm, eS6⟩ := nm_ex hm
            rw [← eS6] at hP hD
            refine lv_iconst (v := (nI 1)) hx hb dX0_takeToken_64 (by decide) ?_
            exact x_zretW (wf := (fun u => WXM cs ad b u)) hx hb hr hlk hK hP hD hS hm dX0_takeToken_65
      · refine lv_aload_n hx hb dX0_takeToken_34 rfl (lv_at hl 0 rfl) ?_
        refine lv_aload_n hx hb dX0_takeToken_35 rfl (lv_at hl 1 rfl) ?_
        refine xVW_v (As := [.ref (ad b)]) (rest := []) (wr := []) (wg := (fun u => WXM cs ad b u)) hx hb hml hown hT hN hK hP hD hS hA cw_X0_54 hm (fun z h => tcX0_endItem l D cs ad b H.size S z h) ⟨rfl, rfl⟩ ⟨by decide, by decide⟩ [0, 1, 2, 3, 4, 5, 6, 7, 8, 9, 10, 11, 12, 13, 14, 15, 16, 17, 18, 19, 20] [] [0, 1, 2, 3, 4, 5, 6, 7, 8, 9, 10, 11, 12, 13, 14, 15, 16, 17, 18, 19, 20] rfl (by decide) rfl (by decide) (by decide) (fun _ => rfl) (by decide) (b := (ad 90)) 0 rfl rfl rfl hl.1 rfl rfl (Nat.le_of_ble_eq_true rfl) dX0_takeToken_36 ⟨Nat.zero_le _, Nat.zero_le _⟩ (fun S8 H locs hm hP hD hS => ?_)
        refine lv_iconst (v := (nI 1)) hx hb dX0_takeToken_39 (by decide) ?_
        exact x_zretW (wf := (fun u => WXM cs ad b u)) hx hb hr hlk hK hP hD hS hm dX0_takeToken_40
  · refine lv_aload_n hx hb dX0_takeToken_8 rfl (lv_at hl 0 rfl) ?_
    refine lv_aload_n hx hb dX0_takeToken_9 rfl (lv_at hl 1 rfl) ?_
    refine lv_iload_n hx hb dX0_takeToken_10 rfl (lv_at hl 2 rfl) ?_
    refine xVW_i (As := [.ref (ad b), .int a2]) (rest := []) (wr := []) (wg := (fun u => WXM cs ad b u)) hx hb hml hown hT hN hK hP hD hS hA cw_X0_44 hm (fun z h => tcX0_beginItem l D cs ad b H.size S a2 z h) ⟨rfl, rfl⟩ ⟨by decide, by decide⟩ [0, 1, 2, 3, 4, 5, 6, 7, 8, 9, 10, 11, 12, 13, 14, 15, 16, 17, 18, 19, 20] [] [0, 1, 2, 3, 4, 5, 6, 7, 8, 9, 10, 11, 12, 13, 14, 15, 16, 17, 18, 19, 20] rfl (by decide) rfl (by decide) (by decide) (fun _ => rfl) (by decide) (b := (ad 90)) 0 rfl rfl rfl hl.1 rfl rfl (Nat.le_of_ble_eq_true rfl) dX0_takeToken_11 ⟨Nat.zero_le _, Nat.zero_le _⟩ (fun r10 S9 H locs hm hP hD hS => ?_)
    exact x_zretW (wf := (fun u => WXM cs ad b u)) hx hb hr hlk hK hP hD hS hm dX0_takeToken_14
noncomputable def mX0_readInto_L19  : Nat → Int32 → Int32 → (TX × MT) → Option (Int32 × (TX × MT)) := fun n => Nat.rec (motive := fun _ => Int32 → Int32 → (TX × MT) → Option (Int32 × (TX × MT))) (fun _ _ _ => none) (fun _ rc => fun y2 y3 S => (if (nI 150) < y3 then (if ((S.1).2 2) = 0 then (if ((S.1).2 6) = (-1 : Int32) then (if y2 ≤ 0 then some (((-10 : Int32) - ((S.1).2 3)), S) else some (y2, S)) else some (((-10 : Int32) - ((S.1).2 3)), S)) else some (((-10 : Int32) - ((S.1).2 3)), S)) else (mX0_advance (S.1)).bind fun u6 => nm (u6, S.2) fun S5 => (if ((S5.1).2 2) = 0 then (if ((S5.1).2 2) = 0 then (if ((S5.1).2 6) = (-1 : Int32) then (if y2 ≤ 0 then some (((-10 : Int32) - ((S5.1).2 3)), S5) else some (y2, S5)) else some (((-10 : Int32) - ((S5.1).2 3)), S5)) else some (((-10 : Int32) - ((S5.1).2 3)), S5)) else (if y2 = 0 then (mX0_takeToken S5 (nI 1)).bind fun ⟨r13, S12⟩ => (if r13 = 0 then (if ((S12.1).2 2) = 0 then (if ((S12.1).2 6) = (-1 : Int32) then (if y2 ≤ 0 then some (((-10 : Int32) - ((S12.1).2 3)), S12) else some (y2, S12)) else some (((-10 : Int32) - ((S12.1).2 3)), S12)) else some (((-10 : Int32) - ((S12.1).2 3)), S12)) else (if ((S12.1).2 2) = (nI 2) then nm (y2 + (nI 1)) fun x15 => nm (y3 + (nI 1)) fun x16 => rc x15 x16 S12 else nm (y3 + (nI 1)) fun x14 => rc y2 x14 S12)) else (mX0_takeToken S5 (nI 0)).bind fun ⟨r8, S7⟩ => (if r8 = 0 then (if ((S7.1).2 2) = 0 then (if ((S7.1).2 6) = (-1 : Int32) then (if y2 ≤ 0 then some (((-10 : Int32) - ((S7.1).2 3)), S7) else some (y2, S7)) else some (((-10 : Int32) - ((S7.1).2 3)), S7)) else some (((-10 : Int32) - ((S7.1).2 3)), S7)) else (if ((S7.1).2 2) = (nI 2) then nm (y2 + (nI 1)) fun x10 => nm (y3 + (nI 1)) fun x11 => rc x10 x11 S7 else nm (y3 + (nI 1)) fun x9 => rc y2 x9 S7)))))) n
theorem mX0_readInto_L19_s  (n : Nat) (y2 : Int32) (y3 : Int32) (S : (TX × MT)) : mX0_readInto_L19  (n + 1) y2 y3 S = (if (nI 150) < y3 then (if ((S.1).2 2) = 0 then (if ((S.1).2 6) = (-1 : Int32) then (if y2 ≤ 0 then some (((-10 : Int32) - ((S.1).2 3)), S) else some (y2, S)) else some (((-10 : Int32) - ((S.1).2 3)), S)) else some (((-10 : Int32) - ((S.1).2 3)), S)) else (mX0_advance (S.1)).bind fun u6 => nm (u6, S.2) fun S5 => (if ((S5.1).2 2) = 0 then (if ((S5.1).2 2) = 0 then (if ((S5.1).2 6) = (-1 : Int32) then (if y2 ≤ 0 then some (((-10 : Int32) - ((S5.1).2 3)), S5) else some (y2, S5)) else some (((-10 : Int32) - ((S5.1).2 3)), S5)) else some (((-10 : Int32) - ((S5.1).2 3)), S5)) else (if y2 = 0 then (mX0_takeToken S5 (nI 1)).bind fun ⟨r13, S12⟩ => (if r13 = 0 then (if ((S12.1).2 2) = 0 then (if ((S12.1).2 6) = (-1 : Int32) then (if y2 ≤ 0 then some (((-10 : Int32) - ((S12.1).2 3)), S12) else some (y2, S12)) else some (((-10 : Int32) - ((S12.1).2 3)), S12)) else some (((-10 : Int32) - ((S12.1).2 3)), S12)) else (if ((S12.1).2 2) = (nI 2) then nm (y2 + (nI 1)) fun x15 => nm (y3 + (nI 1)) fun x16 => (mX0_readInto_L19  n) x15 x16 S12 else nm (y3 + (nI 1)) fun x14 => (mX0_readInto_L19  n) y2 x14 S12)) else (mX0_takeToken S5 (nI 0)).bind fun ⟨r8, S7⟩ => (if r8 = 0 then (if ((S7.1).2 2) = 0 then (if ((S7.1).2 6) = (-1 : Int32) then (if y2 ≤ 0 then some (((-10 : Int32) - ((S7.1).2 3)), S7) else some (y2, S7)) else some (((-10 : Int32) - ((S7.1).2 3)), S7)) else some (((-10 : Int32) - ((S7.1).2 3)), S7)) else (if ((S7.1).2 2) = (nI 2) then nm (y2 + (nI 1)) fun x10 => nm (y3 + (nI 1)) fun x11 => (mX0_readInto_L19  n) x10 x11 S7 else nm (y3 + (nI 1)) fun x9 => (mX0_readInto_L19  n) y2 x9 S7))))) := rfl
noncomputable def mX0_readInto (S : (TX × MT)) : Option (Int32 × (TX × MT)) := (mX3_begin (S.2) (nI 0)).bind fun u2 => nm (S.1, u2) fun S1 => nm (xI (S1.1) 5 (nI 0), S1.2) fun S3 => nm (xI (S3.1) 6 (-1 : Int32), S3.2) fun S4 => mX0_readInto_L19 FU (nI 0) (nI 0) S4
set_option maxHeartbeats 4000000 in
set_option maxRecDepth 100000 in
theorem kX0_readInto_L19 {p : Program} {l : Launch} {e : Env} {s : State} {m : MethodId} {below : List Frame} {meth : Method} {c : Code} {D : va_G} {cs : CS} {A : Nat → Prop} {kS vS : Nat → Nat} {SA : Nat → Prop} {ad : Nat → Nat} {b : Nat}  (E : EV p s m [.ref (ad 90), .ref (ad b)].toArray meth c cX0_readInto 4 RX0 (some .int) D cs) (hE : SEnv kS vS SA s) (hSA : ∀ q, A q → SA q) (hA : ∀ q : Nat, s.heap.size ≤ q → A q) (z : Int32 × (TX × MT)) : ∀ (n : Nat) (y2 : Int32) (y3 : Int32) (S : (TX × MT)), mX0_readInto_L19  n y2 y3 S = some z → ∀ (H : Heap) (locs : List Loc), va_P D classes (WXM cs ad b S) H → va_D A (WXM cs ad b S) → va_S A s.heap H locs → ∀ ls : Array Slot, lv_has ls 4 [(0, .ref (ad 90)), (1, .ref (ad b)), (2, .int y2), (3, .int y3)] → W p l e ({ frames := 7, cells := 0, slots := 0, locals := 148 }) s m [.ref (ad 90), .ref (ad b)].toArray below meth c H locs 0 0 (MQ below (QWi D cs A (fun u => WXM cs ad b u) z) [.ref (ad 90), .ref (ad b)].toArray s 0 0 A) (F0 m 19 ls []) := by
  obtain ⟨hx, hb, hr, hml, hown, hlk, hT, hN, hK⟩ := id E
  intro n
  induction n with
  | zero =>
    intro y2 y3 S hm
    exact nomatch (show (none : Option (Int32 × (TX × MT))) = some z from hm)
  | succ n ih =>
    intro y2 y3 S hm H locs hP hD hS ls hl
    rw [mX0_readInto_L19_s] at hm
    refine lv_iload_n hx hb dX0_readInto_19 rfl (lv_at hl 3 rfl) ?_
    refine lv_sipush (v := (nI 150)) hx hb dX0_readInto_20 (by decide) ?_
    refine x_icmp_gt (tgt := 74) hx hb dX0_readInto_23 (by decide) hm (fun hm => ?_) (fun hm => ?_)
    · refine lv_aload_n hx hb dX0_readInto_74 rfl (lv_at hl 0 rfl) ?_
      refine gf_X0_34 (v := .int ((S.1).2 2)) hx hb hT hown hK hP 0 rfl rfl dX0_readInto_75 ?_
      refine x_if_ne (tgt := 97) hx hb dX0_readInto_78 (by decide) hm (fun hm => ?_) (fun hm => ?_)
      · refine lv_iconst (v := (nI 0)) hx hb dX0_readInto_97 (by decide) ?_
        refine lv_istore_n (lv' := [(3, .int (nI 0)), (0, .ref (ad 90)), (1, .ref (ad b)), (2, .int y2)]) hx hb dX0_readInto_98 rfl hl (by decide) rfl (fun ls hl => ?_)
        refine lv_iload_n hx hb dX0_readInto_99 rfl (lv_at hl 0 rfl) ?_
        refine lv_if_eq (tgt := 107) hx hb dX0_readInto_100 (by decide) (fun _ => ?_) (fun h => absurd h (by decide))
        refine lv_bipush (v := (-10 : Int32)) hx hb dX0_readInto_107 (by decide) ?_
        refine lv_aload_n hx hb dX0_readInto_109 rfl (lv_at hl 1 rfl) ?_
        refine gf_X0_41 (v := .int ((S.1).2 3)) hx hb hT hown hK hP 0 rfl rfl dX0_readInto_110 ?_
        refine lv_isub hx hb dX0_readInto_113 ?_
        exact x_iretW (wf := (fun u => WXM cs ad b u)) hx hb hr hlk hK hP hD hS hm dX0_readInto_114
      · refine lv_aload_n hx hb dX0_readInto_81 rfl (lv_at hl 0 rfl) ?_
        refine gf_X0_28 (v := .int ((S.1).2 6)) hx hb hT hown hK hP 0 rfl rfl dX0_readInto_82 ?_
        refine lv_iconst (v := (-1 : Int32)) hx hb dX0_readInto_85 (by decide) ?_
        refine x_icmp_ne (tgt := 97) hx hb dX0_readInto_86 (by decide) hm (fun hm => ?_) (fun hm => ?_)
        · refine lv_iconst (v := (nI 0)) hx hb dX0_readInto_97 (by decide) ?_
          refine lv_istore_n (lv' := [(3, .int (nI 0)), (0, .ref (ad 90)), (1, .ref (ad b)), (2, .int y2)]) hx hb dX0_readInto_98 rfl hl (by decide) rfl (fun ls hl => ?_)
          refine lv_iload_n hx hb dX0_readInto_99 rfl (lv_at hl 0 rfl) ?_
          refine lv_if_eq (tgt := 107) hx hb dX0_readInto_100 (by decide) (fun _ => ?_) (fun h => absurd h (by decide))
          refine lv_bipush (v := (-10 : Int32)) hx hb dX0_readInto_107 (by decide) ?_
          refine lv_aload_n hx hb dX0_readInto_109 rfl (lv_at hl 1 rfl) ?_
          refine gf_X0_41 (v := .int ((S.1).2 3)) hx hb hT hown hK hP 0 rfl rfl dX0_readInto_110 ?_
          refine lv_isub hx hb dX0_readInto_113 ?_
          exact x_iretW (wf := (fun u => WXM cs ad b u)) hx hb hr hlk hK hP hD hS hm dX0_readInto_114
        · refine lv_iload_n hx hb dX0_readInto_89 rfl (lv_at hl 2 rfl) ?_
          refine x_if_le (tgt := 97) hx hb dX0_readInto_90 (by decide) hm (fun hm => ?_) (fun hm => ?_)
          · refine lv_iconst (v := (nI 0)) hx hb dX0_readInto_97 (by decide) ?_
            refine lv_istore_n (lv' := [(3, .int (nI 0)), (0, .ref (ad 90)), (1, .ref (ad b)), (2, .int y2)]) hx hb dX0_readInto_98 rfl hl (by decide) rfl (fun ls hl => ?_)
            refine lv_iload_n hx hb dX0_readInto_99 rfl (lv_at hl 0 rfl) ?_
            refine lv_if_eq (tgt := 107) hx hb dX0_readInto_100 (by decide) (fun _ => ?_) (fun h => absurd h (by decide))
            refine lv_bipush (v := (-10 : Int32)) hx hb dX0_readInto_107 (by decide) ?_
            refine lv_aload_n hx hb dX0_readInto_109 rfl (lv_at hl 1 rfl) ?_
            refine gf_X0_41 (v := .int ((S.1).2 3)) hx hb hT hown hK hP 0 rfl rfl dX0_readInto_110 ?_
            refine lv_isub hx hb dX0_readInto_113 ?_
            exact x_iretW (wf := (fun u => WXM cs ad b u)) hx hb hr hlk hK hP hD hS hm dX0_readInto_114
          · refine lv_iconst (v := (nI 1)) hx hb dX0_readInto_93 (by decide) ?_
            refine lv_goto (tgt := 98) hx hb dX0_readInto_94 (by decide) ?_
            refine lv_istore_n (lv' := [(3, .int (nI 1)), (0, .ref (ad 90)), (1, .ref (ad b)), (2, .int y2)]) hx hb dX0_readInto_98 rfl hl (by decide) rfl (fun ls hl => ?_)
            refine lv_iload_n hx hb dX0_readInto_99 rfl (lv_at hl 0 rfl) ?_
            refine lv_if_eq (tgt := 107) hx hb dX0_readInto_100 (by decide) (fun h => absurd h (by decide)) (fun _ => ?_)
            refine lv_iload_n hx hb dX0_readInto_103 rfl (lv_at hl 3 rfl) ?_
            refine lv_goto (tgt := 114) hx hb dX0_readInto_104 (by decide) ?_
            exact x_iretW (wf := (fun u => WXM cs ad b u)) hx hb hr hlk hK hP hD hS hm dX0_readInto_114
    · refine lv_aload_n hx hb dX0_readInto_26 rfl (lv_at hl 0 rfl) ?_
      refine xVSW_v (As := []) (rest := []) (wr := [((ad b), .inr (3, [.ref (ad 1), .ref (ad (b + 1)), .ref (ad (b + 2)), .ref (ad (b + 4)), .ref (ad (b + 6)), .ref (ad (b + 8)), .ref (ad (b + 10)), .int ((S.2).2 7), .int ((S.2).2 8), .int ((S.2).2 9), .int ((S.2).2 10)])), ((ad (b + 1)), .inr (6, [])), ((ad (b + 2)), .inr (7, [.int (nI 6), .int (nI 4), .ref (ad (b + 3)), .int (((S.2).1 0).1)])), ((ad (b + 3)), .inl (cs 0, 24, .inl (((S.2).1 0).2))), ((ad (b + 4)), .inr (7, [.int (nI 4), .int (nI 2), .ref (ad (b + 5)), .int (((S.2).1 1).1)])), ((ad (b + 5)), .inl (cs 0, 8, .inl (((S.2).1 1).2))), ((ad (b + 6)), .inr (7, [.int (nI 6), .int (nI 3), .ref (ad (b + 7)), .int (((S.2).1 2).1)])), ((ad (b + 7)), .inl (cs 0, 18, .inl (((S.2).1 2).2))), ((ad (b + 8)), .inr (7, [.int (nI 6), .int (nI 2), .ref (ad (b + 9)), .int (((S.2).1 3).1)])), ((ad (b + 9)), .inl (cs 0, 12, .inl (((S.2).1 3).2))), ((ad (b + 10)), .inr (7, [.int (nI 8), .int (nI 3), .ref (ad (b + 11)), .int (((S.2).1 4).1)])), ((ad (b + 11)), .inl (cs 0, 24, .inl (((S.2).1 4).2))), ((ad 1), .inl (cs 2, 6, .inr (.inr (.inr (.inr (fun k => some (ad (2 + k)))))))), ((ad 2), .inr (6, [])), ((ad 3), .inr (5, [])), ((ad 4), .inr (1, [])), ((ad 5), .inr (9, [])), ((ad 6), .inr (2, [])), ((ad 7), .inr (8, []))]) (wg := fun u6 => WXM cs ad b (u6, S.2)) hx hb hml hown hT hN (hE.at hS hSA) hK hP hD hS hA hSA cw_X0_31 hm (fun z h => tcX0_advance l D cs kS vS SA ad H.size (S.1) z h) ⟨rfl, rfl⟩ ⟨by decide, by decide⟩ [0, 1] [2, 3, 4, 5, 6, 7, 8, 9, 10, 11, 12, 13, 14, 15, 16, 17, 18, 19, 20] [19, 20, 0, 1, 2, 3, 4, 5, 6, 7, 8, 9, 10, 11, 12, 13, 14, 15, 16, 17, 18] rfl (by decide) rfl (by decide) (by decide) (fun _ => rfl) (by decide) (b := (ad 90)) 0 rfl rfl rfl hl.1 rfl rfl (Nat.le_of_ble_eq_true rfl) dX0_readInto_27 ⟨Nat.zero_le _, Nat.zero_le _⟩ (fun u6 H locs hm hP hD hS => ?_)
      obtain ⟨S5, hm, eS5⟩ := nm_ex hm
      rw [← eS5] at hP hD
      refine lv_aload_n hx hb dX0_readInto_30 rfl (lv_at hl 0 rfl) ?_
      refine gf_X0_34 (v := .int ((S5.1).2 2)) hx hb hT hown hK hP 0 rfl rfl dX0_readInto_31 ?_
      refine x_if_eq (tgt := 74) hx hb dX0_readInto_34 (by decide) hm (fun hm => ?_) (fun hm => ?_)
      · refine lv_aload_n hx hb dX0_readInto_74 rfl (lv_at hl 0 rfl) ?_
        refine gf_X0_34 (v := .int ((S5.1).2 2)) hx hb hT hown hK hP 0 rfl rfl dX0_readInto_75 ?_
        refine x_if_ne (tgt := 97) hx hb dX0_readInto_78 (by decide) hm (fun hm => ?_) (fun hm => ?_)
        · refine lv_iconst (v := (nI 0)) hx hb dX0_readInto_97 (by decide) ?_
          refine lv_istore_n (lv' := [(3, .int (nI 0)), (0, .ref (ad 90)), (1, .ref (ad b)), (2, .int y2)]) hx hb dX0_readInto_98 rfl hl (by decide) rfl (fun ls hl => ?_)
          refine lv_iload_n hx hb dX0_readInto_99 rfl (lv_at hl 0 rfl) ?_
          refine lv_if_eq (tgt := 107) hx hb dX0_readInto_100 (by decide) (fun _ => ?_) (fun h => absurd h (by decide))
          refine lv_bipush (v := (-10 : Int32)) hx hb dX0_readInto_107 (by decide) ?_
          refine lv_aload_n hx hb dX0_readInto_109 rfl (lv_at hl 1 rfl) ?_
          refine gf_X0_41 (v := .int ((S5.1).2 3)) hx hb hT hown hK hP 0 rfl rfl dX0_readInto_110 ?_
          refine lv_isub hx hb dX0_readInto_113 ?_
          exact x_iretW (wf := (fun u => WXM cs ad b u)) hx hb hr hlk hK hP hD hS hm dX0_readInto_114
        · refine lv_aload_n hx hb dX0_readInto_81 rfl (lv_at hl 0 rfl) ?_
          refine gf_X0_28 (v := .int ((S5.1).2 6)) hx hb hT hown hK hP 0 rfl rfl dX0_readInto_82 ?_
          refine lv_iconst (v := (-1 : Int32)) hx hb dX0_readInto_85 (by decide) ?_
          refine x_icmp_ne (tgt := 97) hx hb dX0_readInto_86 (by decide) hm (fun hm => ?_) (fun hm => ?_)
          · refine lv_iconst (v := (nI 0)) hx hb dX0_readInto_97 (by decide) ?_
            refine lv_istore_n (lv' := [(3, .int (nI 0)), (0, .ref (ad 90)), (1, .ref (ad b)), (2, .int y2)]) hx hb dX0_readInto_98 rfl hl (by decide) rfl (fun ls hl => ?_)
            refine lv_iload_n hx hb dX0_readInto_99 rfl (lv_at hl 0 rfl) ?_
            refine lv_if_eq (tgt := 107) hx hb dX0_readInto_100 (by decide) (fun _ => ?_) (fun h => absurd h (by decide))
            refine lv_bipush (v := (-10 : Int32)) hx hb dX0_readInto_107 (by decide) ?_
            refine lv_aload_n hx hb dX0_readInto_109 rfl (lv_at hl 1 rfl) ?_
            refine gf_X0_41 (v := .int ((S5.1).2 3)) hx hb hT hown hK hP 0 rfl rfl dX0_readInto_110 ?_
            refine lv_isub hx hb dX0_readInto_113 ?_
            exact x_iretW (wf := (fun u => WXM cs ad b u)) hx hb hr hlk hK hP hD hS hm dX0_readInto_114
          · refine lv_iload_n hx hb dX0_readInto_89 rfl (lv_at hl 2 rfl) ?_
            refine x_if_le (tgt := 97) hx hb dX0_readInto_90 (by decide) hm (fun hm => ?_) (fun hm => ?_)
            · refine lv_iconst (v := (nI 0)) hx hb dX0_readInto_97 (by decide) ?_
              refine lv_istore_n (lv' := [(3, .int (nI 0)), (0, .ref (ad 90)), (1, .ref (ad b)), (2, .int y2)]) hx hb dX0_readInto_98 rfl hl (by decide) rfl (fun ls hl => ?_)
              refine lv_iload_n hx hb dX0_readInto_99 rfl (lv_at hl 0 rfl) ?_
              refine lv_if_eq (tgt := 107) hx hb dX0_readInto_100 (by decide) (fun _ => ?_) (fun h => absurd h (by decide))
              refine lv_bipush (v := (-10 : Int32)) hx hb dX0_readInto_107 (by decide) ?_
              refine lv_aload_n hx hb dX0_readInto_109 rfl (lv_at hl 1 rfl) ?_
              refine gf_X0_41 (v := .int ((S5.1).2 3)) hx hb hT hown hK hP 0 rfl rfl dX0_readInto_110 ?_
              refine lv_isub hx hb dX0_readInto_113 ?_
              exact x_iretW (wf := (fun u => WXM cs ad b u)) hx hb hr hlk hK hP hD hS hm dX0_readInto_114
            · refine lv_iconst (v := (nI 1)) hx hb dX0_readInto_93 (by decide) ?_
              refine lv_goto (tgt := 98) hx hb dX0_readInto_94 (by decide) ?_
              refine lv_istore_n (lv' := [(3, .int (nI 1)), (0, .ref (ad 90)), (1, .ref (ad b)), (2, .int y2)]) hx hb dX0_readInto_98 rfl hl (by decide) rfl (fun ls hl => ?_)
              refine lv_iload_n hx hb dX0_readInto_99 rfl (lv_at hl 0 rfl) ?_
              refine lv_if_eq (tgt := 107) hx hb dX0_readInto_100 (by decide) (fun h => absurd h (by decide)) (fun _ => ?_)
              refine lv_iload_n hx hb dX0_readInto_103 rfl (lv_at hl 3 rfl) ?_
              refine lv_goto (tgt := 114) hx hb dX0_readInto_104 (by decide) ?_
              exact x_iretW (wf := (fun u => WXM cs ad b u)) hx hb hr hlk hK hP hD hS hm dX0_readInto_114
      · refine lv_aload_n hx hb dX0_readInto_37 rfl (lv_at hl 0 rfl) ?_
        refine lv_aload_n hx hb dX0_readInto_38 rfl (lv_at hl 1 rfl) ?_
        refine lv_iload_n hx hb dX0_readInto_39 rfl (lv_at hl 2 rfl) ?_
        refine x_if_ne (tgt := 47) hx hb dX0_readInto_40 (by decide) hm (fun hm => ?_) (fun hm => ?_)
        · refine lv_iconst (v := (nI 0)) hx hb dX0_readInto_47 (by decide) ?_
          refine xVW_i (As := [.ref (ad b), .int (nI 0)]) (rest := []) (wr := []) (wg := (fun u => WXM cs ad b u)) hx hb hml hown hT hN hK hP hD hS hA cw_X0_37 hm (fun z h => tcX0_takeToken l D cs ad b H.size S5 (nI 0) z h) ⟨rfl, rfl⟩ ⟨by decide, by decide⟩ [0, 1, 2, 3, 4, 5, 6, 7, 8, 9, 10, 11, 12, 13, 14, 15, 16, 17, 18, 19, 20] [] [0, 1, 2, 3, 4, 5, 6, 7, 8, 9, 10, 11, 12, 13, 14, 15, 16, 17, 18, 19, 20] rfl (by decide) rfl (by decide) (by decide) (fun _ => rfl) (by decide) (b := (ad 90)) 0 rfl rfl rfl hl.1 rfl rfl (Nat.le_of_ble_eq_true rfl) dX0_readInto_48 ⟨Nat.zero_le _, Nat.zero_le _⟩ (fun r8 S7 H locs hm hP hD hS => ?_)
          refine x_if_ne (tgt := 57) hx hb dX0_readInto_51 (by decide) hm (fun hm => ?_) (fun hm => ?_)
          · refine lv_aload_n hx hb dX0_readInto_57 rfl (lv_at hl 0 rfl) ?_
            refine gf_X0_34 (v := .int ((S7.1).2 2)) hx hb hT hown hK hP 0 rfl rfl dX0_readInto_58 ?_
            refine lv_iconst (v := (nI 2)) hx hb dX0_readInto_61 (by decide) ?_
            refine x_icmp_ne (tgt := 68) hx hb dX0_readInto_62 (by decide) hm (fun hm => ?_) (fun hm => ?_)
            · refine x_iinc (lv' := fun x9 => [(3, .int x9), (0, .ref (ad 90)), (1, .ref (ad b)), (2, .int y2)]) hx hb dX0_readInto_68 hl (k := 3) rfl (by decide) (v0 := (nI 1)) (by decide) (fun _ => rfl) hm (fun x9 ls hm hl => ?_)
              refine lv_goto (tgt := 19) hx hb dX0_readInto_71 (by decide) ?_
              exact ih y2 x9 S7 hm H locs hP hD hS ls (lv_sub hl [1, 2, 3, 0] rfl)
            · refine x_iinc (lv' := fun x10 => [(2, .int x10), (0, .ref (ad 90)), (1, .ref (ad b)), (3, .int y3)]) hx hb dX0_readInto_65 hl (k := 2) rfl (by decide) (v0 := (nI 1)) (by decide) (fun _ => rfl) hm (fun x10 ls hm hl => ?_)
              refine x_iinc (lv' := fun x11 => [(3, .int x11), (2, .int x10), (0, .ref (ad 90)), (1, .ref (ad b))]) hx hb dX0_readInto_68 hl (k := 3) rfl (by decide) (v0 := (nI 1)) (by decide) (fun _ => rfl) hm (fun x11 ls hm hl => ?_)
              refine lv_goto (tgt := 19) hx hb dX0_readInto_71 (by decide) ?_
              exact ih x10 x11 S7 hm H locs hP hD hS ls (lv_sub hl [2, 3, 1, 0] rfl)
          · refine lv_goto (tgt := 74) hx hb dX0_readInto_54 (by decide) ?_
            refine lv_aload_n hx hb dX0_readInto_74 rfl (lv_at hl 0 rfl) ?_
            refine gf_X0_34 (v := .int ((S7.1).2 2)) hx hb hT hown hK hP 0 rfl rfl dX0_readInto_75 ?_
            refine x_if_ne (tgt := 97) hx hb dX0_readInto_78 (by decide) hm (fun hm => ?_) (fun hm => ?_)
            · refine lv_iconst (v := (nI 0)) hx hb dX0_readInto_97 (by decide) ?_
              refine lv_istore_n (lv' := [(3, .int (nI 0)), (0, .ref (ad 90)), (1, .ref (ad b)), (2, .int y2)]) hx hb dX0_readInto_98 rfl hl (by decide) rfl (fun ls hl => ?_)
              refine lv_iload_n hx hb dX0_readInto_99 rfl (lv_at hl 0 rfl) ?_
              refine lv_if_eq (tgt := 107) hx hb dX0_readInto_100 (by decide) (fun _ => ?_) (fun h => absurd h (by decide))
              refine lv_bipush (v := (-10 : Int32)) hx hb dX0_readInto_107 (by decide) ?_
              refine lv_aload_n hx hb dX0_readInto_109 rfl (lv_at hl 1 rfl) ?_
              refine gf_X0_41 (v := .int ((S7.1).2 3)) hx hb hT hown hK hP 0 rfl rfl dX0_readInto_110 ?_
              refine lv_isub hx hb dX0_readInto_113 ?_
              exact x_iretW (wf := (fun u => WXM cs ad b u)) hx hb hr hlk hK hP hD hS hm dX0_readInto_114
            · refine lv_aload_n hx hb dX0_readInto_81 rfl (lv_at hl 0 rfl) ?_
              refine gf_X0_28 (v := .int ((S7.1).2 6)) hx hb hT hown hK hP 0 rfl rfl dX0_readInto_82 ?_
              refine lv_iconst (v := (-1 : Int32)) hx hb dX0_readInto_85 (by decide) ?_
              refine x_icmp_ne (tgt := 97) hx hb dX0_readInto_86 (by decide) hm (fun hm => ?_) (fun hm => ?_)
              · refine lv_iconst (v := (nI 0)) hx hb dX0_readInto_97 (by decide) ?_
                refine lv_istore_n (lv' := [(3, .int (nI 0)), (0, .ref (ad 90)), (1, .ref (ad b)), (2, .int y2)]) hx hb dX0_readInto_98 rfl hl (by decide) rfl (fun ls hl => ?_)
                refine lv_iload_n hx hb dX0_readInto_99 rfl (lv_at hl 0 rfl) ?_
                refine lv_if_eq (tgt := 107) hx hb dX0_readInto_100 (by decide) (fun _ => ?_) (fun h => absurd h (by decide))
                refine lv_bipush (v := (-10 : Int32)) hx hb dX0_readInto_107 (by decide) ?_
                refine lv_aload_n hx hb dX0_readInto_109 rfl (lv_at hl 1 rfl) ?_
                refine gf_X0_41 (v := .int ((S7.1).2 3)) hx hb hT hown hK hP 0 rfl rfl dX0_readInto_110 ?_
                refine lv_isub hx hb dX0_readInto_113 ?_
                exact x_iretW (wf := (fun u => WXM cs ad b u)) hx hb hr hlk hK hP hD hS hm dX0_readInto_114
              · refine lv_iload_n hx hb dX0_readInto_89 rfl (lv_at hl 2 rfl) ?_
                refine x_if_le (tgt := 97) hx hb dX0_readInto_90 (by decide) hm (fun hm => ?_) (fun hm => ?_)
                · refine lv_iconst (v := (nI 0)) hx hb dX0_readInto_97 (by decide) ?_
                  refine lv_istore_n (lv' := [(3, .int (nI 0)), (0, .ref (ad 90)), (1, .ref (ad b)), (2, .int y2)]) hx hb dX0_readInto_98 rfl hl (by decide) rfl (fun ls hl => ?_)
                  refine lv_iload_n hx hb dX0_readInto_99 rfl (lv_at hl 0 rfl) ?_
                  refine lv_if_eq (tgt := 107) hx hb dX0_readInto_100 (by decide) (fun _ => ?_) (fun h => absurd h (by decide))
                  refine lv_bipush (v := (-10 : Int32)) hx hb dX0_readInto_107 (by decide) ?_
                  refine lv_aload_n hx hb dX0_readInto_109 rfl (lv_at hl 1 rfl) ?_
                  refine gf_X0_41 (v := .int ((S7.1).2 3)) hx hb hT hown hK hP 0 rfl rfl dX0_readInto_110 ?_
                  refine lv_isub hx hb dX0_readInto_113 ?_
                  exact x_iretW (wf := (fun u => WXM cs ad b u)) hx hb hr hlk hK hP hD hS hm dX0_readInto_114
                · refine lv_iconst (v := (nI 1)) hx hb dX0_readInto_93 (by decide) ?_
                  refine lv_goto (tgt := 98) hx hb dX0_readInto_94 (by decide) ?_
                  refine lv_istore_n (lv' := [(3, .int (nI 1)), (0, .ref (ad 90)), (1, .ref (ad b)), (2, .int y2)]) hx hb dX0_readInto_98 rfl hl (by decide) rfl (fun ls hl => ?_)
                  refine lv_iload_n hx hb dX0_readInto_99 rfl (lv_at hl 0 rfl) ?_
                  refine lv_if_eq (tgt := 107) hx hb dX0_readInto_100 (by decide) (fun h => absurd h (by decide)) (fun _ => ?_)
                  refine lv_iload_n hx hb dX0_readInto_103 rfl (lv_at hl 3 rfl) ?_
                  refine lv_goto (tgt := 114) hx hb dX0_readInto_104 (by decide) ?_
                  exact x_iretW (wf := (fun u => WXM cs ad b u)) hx hb hr hlk hK hP hD hS hm dX0_readInto_114
        · refine lv_iconst (v := (nI 1)) hx hb dX0_readInto_43 (by decide) ?_
          refine lv_goto (tgt := 48) hx hb dX0_readInto_44 (by decide) ?_
          refine xVW_i (As := [.ref (ad b), .int (nI 1)]) (rest := []) (wr := []) (wg := (fun u => WXM cs ad b u)) hx hb hml hown hT hN hK hP hD hS hA cw_X0_37 hm (fun z h => tcX0_takeToken l D cs ad b H.size S5 (nI 1) z h) ⟨rfl, rfl⟩ ⟨by decide, by decide⟩ [0, 1, 2, 3, 4, 5, 6, 7, 8, 9, 10, 11, 12, 13, 14, 15, 16, 17, 18, 19, 20] [] [0, 1, 2, 3, 4, 5, 6, 7, 8, 9, 10, 11, 12, 13, 14, 15, 16, 17, 18, 19, 20] rfl (by decide) rfl (by decide) (by decide) (fun _ => rfl) (by decide) (b := (ad 90)) 0 rfl rfl rfl hl.1 rfl rfl (Nat.le_of_ble_eq_true rfl) dX0_readInto_48 ⟨Nat.zero_le _, Nat.zero_le _⟩ (fun r13 S12 H locs hm hP hD hS => ?_)
          refine x_if_ne (tgt := 57) hx hb dX0_readInto_51 (by decide) hm (fun hm => ?_) (fun hm => ?_)
          · refine lv_aload_n hx hb dX0_readInto_57 rfl (lv_at hl 0 rfl) ?_
            refine gf_X0_34 (v := .int ((S12.1).2 2)) hx hb hT hown hK hP 0 rfl rfl dX0_readInto_58 ?_
            refine lv_iconst (v := (nI 2)) hx hb dX0_readInto_61 (by decide) ?_
            refine x_icmp_ne (tgt := 68) hx hb dX0_readInto_62 (by decide) hm (fun hm => ?_) (fun hm => ?_)
            · refine x_iinc (lv' := fun x14 => [(3, .int x14), (0, .ref (ad 90)), (1, .ref (ad b)), (2, .int y2)]) hx hb dX0_readInto_68 hl (k := 3) rfl (by decide) (v0 := (nI 1)) (by decide) (fun _ => rfl) hm (fun x14 ls hm hl => ?_)
              refine lv_goto (tgt := 19) hx hb dX0_readInto_71 (by decide) ?_
              exact ih y2 x14 S12 hm H locs hP hD hS ls (lv_sub hl [1, 2, 3, 0] rfl)
            · refine x_iinc (lv' := fun x15 => [(2, .int x15), (0, .ref (ad 90)), (1, .ref (ad b)), (3, .int y3)]) hx hb dX0_readInto_65 hl (k := 2) rfl (by decide) (v0 := (nI 1)) (by decide) (fun _ => rfl) hm (fun x15 ls hm hl => ?_)
              refine x_iinc (lv' := fun x16 => [(3, .int x16), (2, .int x15), (0, .ref (ad 90)), (1, .ref (ad b))]) hx hb dX0_readInto_68 hl (k := 3) rfl (by decide) (v0 := (nI 1)) (by decide) (fun _ => rfl) hm (fun x16 ls hm hl => ?_)
              refine lv_goto (tgt := 19) hx hb dX0_readInto_71 (by decide) ?_
              exact ih x15 x16 S12 hm H locs hP hD hS ls (lv_sub hl [2, 3, 1, 0] rfl)
          · refine lv_goto (tgt := 74) hx hb dX0_readInto_54 (by decide) ?_
            refine lv_aload_n hx hb dX0_readInto_74 rfl (lv_at hl 0 rfl) ?_
            refine gf_X0_34 (v := .int ((S12.1).2 2)) hx hb hT hown hK hP 0 rfl rfl dX0_readInto_75 ?_
            refine x_if_ne (tgt := 97) hx hb dX0_readInto_78 (by decide) hm (fun hm => ?_) (fun hm => ?_)
            · refine lv_iconst (v := (nI 0)) hx hb dX0_readInto_97 (by decide) ?_
              refine lv_istore_n (lv' := [(3, .int (nI 0)), (0, .ref (ad 90)), (1, .ref (ad b)), (2, .int y2)]) hx hb dX0_readInto_98 rfl hl (by decide) rfl (fun ls hl => ?_)
              refine lv_iload_n hx hb dX0_readInto_99 rfl (lv_at hl 0 rfl) ?_
              refine lv_if_eq (tgt := 107) hx hb dX0_readInto_100 (by decide) (fun _ => ?_) (fun h => absurd h (by decide))
              refine lv_bipush (v := (-10 : Int32)) hx hb dX0_readInto_107 (by decide) ?_
              refine lv_aload_n hx hb dX0_readInto_109 rfl (lv_at hl 1 rfl) ?_
              refine gf_X0_41 (v := .int ((S12.1).2 3)) hx hb hT hown hK hP 0 rfl rfl dX0_readInto_110 ?_
              refine lv_isub hx hb dX0_readInto_113 ?_
              exact x_iretW (wf := (fun u => WXM cs ad b u)) hx hb hr hlk hK hP hD hS hm dX0_readInto_114
            · refine lv_aload_n hx hb dX0_readInto_81 rfl (lv_at hl 0 rfl) ?_
              refine gf_X0_28 (v := .int ((S12.1).2 6)) hx hb hT hown hK hP 0 rfl rfl dX0_readInto_82 ?_
              refine lv_iconst (v := (-1 : Int32)) hx hb dX0_readInto_85 (by decide) ?_
              refine x_icmp_ne (tgt := 97) hx hb dX0_readInto_86 (by decide) hm (fun hm => ?_) (fun hm => ?_)
              · refine lv_iconst (v := (nI 0)) hx hb dX0_readInto_97 (by decide) ?_
                refine lv_istore_n (lv' := [(3, .int (nI 0)), (0, .ref (ad 90)), (1, .ref (ad b)), (2, .int y2)]) hx hb dX0_readInto_98 rfl hl (by decide) rfl (fun ls hl => ?_)
                refine lv_iload_n hx hb dX0_readInto_99 rfl (lv_at hl 0 rfl) ?_
                refine lv_if_eq (tgt := 107) hx hb dX0_readInto_100 (by decide) (fun _ => ?_) (fun h => absurd h (by decide))
                refine lv_bipush (v := (-10 : Int32)) hx hb dX0_readInto_107 (by decide) ?_
                refine lv_aload_n hx hb dX0_readInto_109 rfl (lv_at hl 1 rfl) ?_
                refine gf_X0_41 (v := .int ((S12.1).2 3)) hx hb hT hown hK hP 0 rfl rfl dX0_readInto_110 ?_
                refine lv_isub hx hb dX0_readInto_113 ?_
                exact x_iretW (wf := (fun u => WXM cs ad b u)) hx hb hr hlk hK hP hD hS hm dX0_readInto_114
              · refine lv_iload_n hx hb dX0_readInto_89 rfl (lv_at hl 2 rfl) ?_
                refine x_if_le (tgt := 97) hx hb dX0_readInto_90 (by decide) hm (fun hm => ?_) (fun hm => ?_)
                · refine lv_iconst (v := (nI 0)) hx hb dX0_readInto_97 (by decide) ?_
                  refine lv_istore_n (lv' := [(3, .int (nI 0)), (0, .ref (ad 90)), (1, .ref (ad b)), (2, .int y2)]) hx hb dX0_readInto_98 rfl hl (by decide) rfl (fun ls hl => ?_)
                  refine lv_iload_n hx hb dX0_readInto_99 rfl (lv_at hl 0 rfl) ?_
                  refine lv_if_eq (tgt := 107) hx hb dX0_readInto_100 (by decide) (fun _ => ?_) (fun h => absurd h (by decide))
                  refine lv_bipush (v := (-10 : Int32)) hx hb dX0_readInto_107 (by decide) ?_
                  refine lv_aload_n hx hb dX0_readInto_109 rfl (lv_at hl 1 rfl) ?_
                  refine gf_X0_41 (v := .int ((S12.1).2 3)) hx hb hT hown hK hP 0 rfl rfl dX0_readInto_110 ?_
                  refine lv_isub hx hb dX0_readInto_113 ?_
                  exact x_iretW (wf := (fun u => WXM cs ad b u)) hx hb hr hlk hK hP hD hS hm dX0_readInto_114
                · refine lv_iconst (v := (nI 1)) hx hb dX0_readInto_93 (by decide) ?_
                  refine lv_goto (tgt := 98) hx hb dX0_readInto_94 (by decide) ?_
                  refine lv_istore_n (lv' := [(3, .int (nI 1)), (0, .ref (ad 90)), (1, .ref (ad b)), (2, .int y2)]) hx hb dX0_readInto_98 rfl hl (by decide) rfl (fun ls hl => ?_)
                  refine lv_iload_n hx hb dX0_readInto_99 rfl (lv_at hl 0 rfl) ?_
                  refine lv_if_eq (tgt := 107) hx hb dX0_readInto_100 (by decide) (fun h => absurd h (by decide)) (fun _ => ?_)
                  refine lv_iload_n hx hb dX0_readInto_103 rfl (lv_at hl 3 rfl) ?_
                  refine lv_goto (tgt := 114) hx hb dX0_readInto_104 (by decide) ?_
                  exact x_iretW (wf := (fun u => WXM cs ad b u)) hx hb hr hlk hK hP hD hS hm dX0_readInto_114
set_option maxHeartbeats 4000000 in
set_option maxRecDepth 100000 in
theorem tcX0_readInto (l : Launch) (D : va_G) (cs : CS) (kS vS : Nat → Nat) (SA : Nat → Prop) (ad : Nat → Nat) (b : Nat) (sz : Nat) (S : (TX × MT)) (z : Int32 × (TX × MT)) (hm : mX0_readInto S = some z) (hSA : ∀ q, va_A (WXM cs ad b S) sz q → SA q) : Met l yX0_readInto (Cond.code yX0_readInto cX0_readInto 4 (some .int) :: gw_tbl) ({ frames := 7, cells := 0, slots := 0, locals := 148 }) (PcWS D cs kS vS SA sz (WXM cs ad b S) [.ref (ad 90), .ref (ad b)]) (QWi D cs (va_A (WXM cs ad b S) sz) (fun u => WXM cs ad b u) z) 0 0 (va_A (WXM cs ad b S) sz) := by
  refine met_WS rfl (Nat.le_of_ble_eq_true rfl) (fun p e s m below meth c E hE hP hD hS hA ls hl => ?_)
  generalize va_A (WXM cs ad b S) sz = A at hD hS hA hSA ⊢
  obtain ⟨hx, hb, hr, hml, hown, hlk, hT, hN, hK⟩ := id E
  obtain ⟨H, hH⟩ : ∃ H, H = s.heap := ⟨_, rfl⟩
  obtain ⟨locs, hlo⟩ : ∃ L : List Loc, L = [] := ⟨_, rfl⟩
  have hP : va_P D classes (WXM cs ad b S) H := by rw [hH]; exact hP
  have hS : va_S A s.heap H locs := by rw [hH, hlo]; exact hS
  rw [show W p l e _ s m _ below meth c s.heap [] 0 0 = W p l e _ s m _ below meth c H locs 0 0 by rw [hH, hlo]]
  have hl : lv_has ls 4 [(0, .ref (ad 90)), (1, .ref (ad b))] := hl
  unfold mX0_readInto at hm
  refine lv_aload_n hx hb dX0_readInto_0 rfl (lv_at hl 1 rfl) ?_
  refine lv_iconst (v := (nI 0)) hx hb dX0_readInto_1 (by decide) ?_
  refine xVW_v (As := [.int (nI 0)]) (rest := []) (wr := [((ad 90), .inr (0, [.ref (ad 91), .int ((S.1).2 1), .int ((S.1).2 2), .int ((S.1).2 3), .int ((S.1).2 4), .int ((S.1).2 5), .int ((S.1).2 6), .int ((S.1).2 7), .int ((S.1).2 8), .int ((S.1).2 9), .int ((S.1).2 10), .int ((S.1).2 11)])), ((ad 91), .inl (cs 0, 150, .inl ((S.1).1)))]) (wg := fun u2 => WXM cs ad b (S.1, u2)) hx hb hml hown hT hN hK hP hD hS hA cw_X0_19 hm (fun z h => tcX3_begin l D cs ad b H.size (S.2) (nI 0) z h) ⟨rfl, rfl⟩ ⟨by decide, by decide⟩ [2, 3, 4, 5, 6, 7, 8, 9, 10, 11, 12, 13, 14, 15, 16, 17, 18, 19, 20] [0, 1] [0, 1, 2, 3, 4, 5, 6, 7, 8, 9, 10, 11, 12, 13, 14, 15, 16, 17, 18, 19, 20] rfl (by decide) rfl (by decide) (by decide) (fun _ => rfl) (by decide) (b := (ad b)) 0 rfl rfl rfl hl.1 rfl rfl (Nat.le_of_ble_eq_true rfl) dX0_readInto_2 ⟨Nat.zero_le _, Nat.zero_le _⟩ (fun u2 H locs hm hP hD hS => ?_)
  obtain ⟨S1, hm, eS1⟩ := nm_ex hm
  rw [← eS1] at hP hD
  refine lv_aload_n hx hb dX0_readInto_5 rfl (lv_at hl 0 rfl) ?_
  refine lv_iconst (v := (nI 0)) hx hb dX0_readInto_6 (by decide) ?_
  refine pf_X0_25 (wf := (fun u => WXM cs ad b u)) (u0 := (xI (S1.1) 5 (nI 0), S1.2)) hx hb hT hown hK hP hD hS 0 rfl (Nat.le_of_ble_eq_true rfl) rfl rfl rfl hm dX0_readInto_7 (fun S3 H locs hm hP hD hS => ?_)
  refine lv_aload_n hx hb dX0_readInto_10 rfl (lv_at hl 0 rfl) ?_
  refine lv_iconst (v := (-1 : Int32)) hx hb dX0_readInto_11 (by decide) ?_
  refine pf_X0_28 (wf := (fun u => WXM cs ad b u)) (u0 := (xI (S3.1) 6 (-1 : Int32), S3.2)) hx hb hT hown hK hP hD hS 0 rfl (Nat.le_of_ble_eq_true rfl) rfl rfl rfl hm dX0_readInto_12 (fun S4 H locs hm hP hD hS => ?_)
  refine lv_iconst (v := (nI 0)) hx hb dX0_readInto_15 (by decide) ?_
  refine lv_istore_n (lv' := [(2, .int (nI 0)), (0, .ref (ad 90)), (1, .ref (ad b))]) hx hb dX0_readInto_16 rfl hl (by decide) rfl (fun ls hl => ?_)
  refine lv_iconst (v := (nI 0)) hx hb dX0_readInto_17 (by decide) ?_
  refine lv_istore_n (lv' := [(3, .int (nI 0)), (2, .int (nI 0)), (0, .ref (ad 90)), (1, .ref (ad b))]) hx hb dX0_readInto_18 rfl hl (by decide) rfl (fun ls hl => ?_)
  exact kX0_readInto_L19 E hE hSA hA _ FU (nI 0) (nI 0) S4 hm H locs hP hD hS ls (lv_sub hl [2, 3, 1, 0] rfl)
