/-! the law, from its entry -/
section KI
variable {p : Program} {l : Launch} {e : Env} {R : Room} {s : State} {m : MethodId} {args : Array Value} {below : List Frame} {meth : Method} {c : Code} {H : Heap} {locs : List Loc} {cells slots : Nat} {Q : State → Prop} {cc : ByteArray} {pc : Nat} {ls : Array Slot} {rest : List Value} {D : va_G} {cs : CS} {ws : va_W} {A : Nat → Prop} {H0 : Heap} {nL : Nat} {own : String} {y : MethodName} {bytes : ByteArray} {maxL n idx : Nat} {rm : Room} {b : Addr} {As : List Value} {wc wr : va_W} {st0 : List Value} {mc ms : Nat}
/-- a constructor that makes cells, and says something of where -/
theorem xIWp {σ : Type} {wf : σ → va_W} {Pp : σ → Prop} {ex : State → Prop} (hex : ∀ U : State, s.WarmedH U.vm → ex U) (hbl : ∀ (U : State) (g : JFrame) (mk : MethodId) (a : Array Value), ex U → ex (U.calling g mk a)) (hx : p.tables.exec = Jvm.exec) (hb : c.code = cc) (hml : c.maxLocals = nL) (hown : s.vm.findClass own = some m.cls) (hT : ∀ w ∈ gw_tbl, w.before args s = true) (hN : NW s) (hK : va_K D classes (tyz cs) s) (hP : va_P D classes ws H) (hD : va_D A ws) (hS : va_S A H0 H locs) (hA : ∀ q : Nat, H0.size ≤ q → A q) (cw : CWI own idx y bytes maxL n) (hM : Met l y (Cond.code y bytes maxL none :: gw_tbl) rm (PcC ex D cs H.size wc (.ref b :: As)) (va_Qv Pp (BW D cs (va_A wc H.size) wf) (va_A wc H.size)) mc ms (va_A wc H.size)) (h0 : rm.cells = mc ∧ rm.slots = ms) (hr : RoomOk rm R maxL)
    (isC isR : List Nat) (hC1 : isC.map (fun i => ws[i]?) = wc.map some) (hC2 : va_nd isC = true) (hR1 : isR.map (fun i => ws[i]?) = wr.map some) (hR2 : va_nd isR = true) (hdis : ∀ i ∈ isR, i ∉ isC) (hls : ls.size = nL) (hn : As.length = n) (hst : st0 = As.reverse ++ .ref b :: rest) (hW : (rest.map fun v => v.category).sum ≤ 8) (hdg : decode cc pc = .ok (.invokespecial idx, 3)) (hcl : cells + mc ≤ R.cells ∧ slots + ms ≤ R.slots)
    (kk : ∀ (u : σ) (H1 : Heap) (locs1 : List Loc), Pp u → va_P D classes (wr ++ wf u) H1 → va_D A (wr ++ wf u) → va_S A H0 H1 locs1 → W p l e R s m args below meth c H1 locs1 (cells + mc) (slots + ms) Q (F0 m (pc + 3) ls rest)) : W p l e R s m args below meth c H locs cells slots Q (F0 m pc ls st0) := by
  have hPc : va_P D classes wc H := hP.sub isC (fm_of hC1)
  have hDc := hD.sub isC hC2 hC1
  have hFc := va_free hD hS hA isC hC1
  refine va_callv (va_runI (n := n) (b := b) (As := As) (rest := rest) ⟨hx, hb, hml, hown, hT⟩ hM (CWI.mk hT cw h0.1 h0.2 hr) ⟨PcC_blind hbl, pcC_at hex hN hK hPc hDc⟩ rfl hn hls hst (lv_room hW) hdg hcl) hS (fun q _ h => hFc q h) hFc (fun u t H1 locs1 ht hvm hp hB hz1 hk1 hS1 => ?_)
  obtain ⟨hP1, hK1, hD1⟩ := hB
  rw [ht] at hP1
  obtain ⟨hP2, hD2⟩ := va_join hP hD isC isR hC1 hR1 hR2 hdis hk1 hFc hP1 hD1
  exact kk u _ _ hp hP2 hD2 hS1
end KI
theorem cwi_L_9 : CWI RL 9 yX10_init cX10_init 2 0 := ⟨tw_21, tw_22, tw_1, tw_23, rfl, ⟨by decide, by decide, by decide +kernel⟩⟩
theorem cwi_L_12 : CWI RL 12 yX11_init cX11_init 1 0 := ⟨tw_815, tw_816, tw_13, tw_817, rfl, ⟨by decide, by decide, by decide +kernel⟩⟩
def sTm (i : Nat) : Term := if i = 0 then .string RX0 116 else if i = 1 then .string RX0 122 else .string RX0 124
abbrev sF : List Cond := flatC (Jvm.Cond.and given_1 narrow_1)
theorem sF_ex : ∀ i, i < 3 → (Cond.exactly (sTm i) "java/lang/String") ∈ sF := by decide +kernel
theorem sF_co : ∀ i, i < 3 → (Cond.eq (.field (sTm i) "java/lang/String" "coder" "B") (.int 0)) ∈ sF := by decide +kernel
theorem sF_ar : ∀ i, i < 3 → (Cond.arrayOf (.field (sTm i) "java/lang/String" "value" "[B") .byte) ∈ sF := by decide +kernel
theorem sF_le : ∀ i, i < 3 → (Cond.eq (.length (.field (sTm i) "java/lang/String" "value" "[B")) (.int (Int32.ofNat (sLen.getD i 0)))) ∈ sF := by decide +kernel
theorem sF_el : ∀ i, i < 3 → ∀ j, j < sLen.getD i 0 → (Cond.eq (.elem (.field (sTm i) "java/lang/String" "value" "[B") (.int (Int32.ofNat j))) (.int ((sByt.getD i []).getD j 0))) ∈ sF := by decide +kernel
theorem sF_ne : ∀ i, i < 3 → ∀ j, j < 3 → i ≠ j → ((Cond.not (Cond.eq (sTm i) (sTm j))) ∈ sF ∨ (Cond.not (Cond.eq (sTm j) (sTm i))) ∈ sF) := by decide +kernel
theorem sF_cs : (Cond.eq (.static "java/lang/String" "COMPACT_STRINGS" "Z") (.int 1)) ∈ sF := by decide +kernel
theorem sF_si : (Cond.isRef (.static "jdk/internal/util/Preconditions" "SIOOBE_FORMATTER" "Ljava/util/function/BiFunction;")) ∈ sF := by decide +kernel
theorem tw_353 : (Jvm.Cond.laysStatic "java/lang/String" "COMPACT_STRINGS" "Z") ∈ lw_tbl := lw_ch ch_11_ok 1 rfl
theorem tw_369 : (Jvm.Cond.laysStatic "jdk/internal/util/Preconditions" "SIOOBE_FORMATTER" "Ljava/util/function/BiFunction;") ∈ lw_tbl := lw_ch ch_11_ok 17 rfl
theorem env_v {args : Array Value} {s : State} (hgv : (Jvm.Cond.and given_1 narrow_1).before args s = true) (hts : ∀ w ∈ lw_tbl, w.before args s = true) : ∃ kS vS, SEnv kS vS (LA s) s := by
  have hs := flat_of_before _ hgv
  have hA : ∀ a : Nat, a < s.heap.size → ¬ LA s a := fun a h => Nat.not_le.mpr h
  obtain ⟨kS, vS, h1, h2⟩ := vk_Sof (args := args) (s := s) (N := 3) (tm := sTm) (len := sLen) (byt := sByt) (A := LA s) (by decide) (fun i hi => hs _ (sF_ex i hi)) (fun i hi => hs _ (sF_co i hi)) (fun i hi => hs _ (sF_ar i hi)) (fun i hi => hs _ (sF_le i hi)) (fun i hi j hj => hs _ (sF_el i hi j hj)) (fun i j hi hj hij => by
    rcases sF_ne i hi j hj hij with h | h
    · exact Or.inl (hs _ h)
    · exact Or.inr (hs _ h)) hA
  exact ⟨kS, vS, ⟨vk_R.of (hts _ tw_339) (h2 0 (by decide)), vk_R.of (hts _ tw_392) (h2 1 (by decide)), vk_R.of (hts _ tw_393) (h2 2 (by decide))⟩, h1, va_Zof (hts _ tw_353) (hts _ (gw_lw tw_14)) (va_eqi (hs _ sF_cs)) hA, va_Zqof (hts _ tw_369) (hts _ (gw_lw tw_16)) (hs _ sF_si) hA⟩
theorem nw_on : ∀ w ∈ nw_l, w.onTables = true := by decide +kernel
theorem nw_v {args : Array Value} {s : State} (hts : ∀ w ∈ lw_tbl, w.before args s = true) : NW s := fun w hw => va_Nw.of (nw_on w hw) (hts w (nw_l_in w hw))
theorem kn_v {args : Array Value} {s : State} (hT : ∀ w ∈ gw_tbl, w.before args s = true) : ∃ D : va_G, ∀ (k : Nat) (q : vw_C), classes[k]? = some q → u_Kn s q.1 q.2.1 q.2.2 (D.1 k) (D.2 k) := by
  obtain ⟨c0, i0, h0⟩ := u_known (C := RX0) (T := TX0) (N := 12) (n := 12) hT inZ0 (hT _ tw_154)
  obtain ⟨c1, i1, h1⟩ := u_known (C := RX1) (T := TX1) (N := 0) (n := 0) hT inZ1 (hT _ tw_43)
  obtain ⟨c2, i2, h2⟩ := u_known (C := RX2) (T := TX2) (N := 0) (n := 0) hT inZ2 (hT _ tw_57)
  obtain ⟨c3, i3, h3⟩ := u_known (C := RX3) (T := TX3) (N := 11) (n := 11) hT inZ3 (hT _ tw_71)
  obtain ⟨c4, i4, h4⟩ := u_known (C := RX4) (T := TX4) (N := 2) (n := 2) hT inZ4 (hT _ tw_198)
  obtain ⟨c5, i5, h5⟩ := u_known (C := RX5) (T := TX5) (N := 0) (n := 0) hT inZ5 (hT _ tw_36)
  obtain ⟨c6, i6, h6⟩ := u_known (C := RX6) (T := TX6) (N := 0) (n := 0) hT inZ6 (hT _ tw_29)
  obtain ⟨c7, i7, h7⟩ := u_known (C := RX7) (T := TX7) (N := 4) (n := 4) hT inZ7 (hT _ tw_79)
  obtain ⟨c8, i8, h8⟩ := u_known (C := RX8) (T := TX8) (N := 0) (n := 0) hT inZ8 (hT _ tw_64)
  obtain ⟨c9, i9, h9⟩ := u_known (C := RX9) (T := TX9) (N := 0) (n := 0) hT inZ9 (hT _ tw_50)
  obtain ⟨c10, i10, h10⟩ := u_known (C := RX10) (T := TX10) (N := 13) (n := 13) hT inZ10 (hT _ tw_20)
  obtain ⟨c11, i11, h11⟩ := u_known (C := RX11) (T := TX11) (N := 22) (n := 22) hT inZ11 (hT _ tw_814)
  refine ⟨(fun k => [c0, c1, c2, c3, c4, c5, c6, c7, c8, c9, c10, c11].getD k c0, fun k => [i0, i1, i2, i3, i4, i5, i6, i7, i8, i9, i10, i11].getD k i0), fun k q hq => ?_⟩
  match k, hq with
  | 0, hq => cases hq; exact h0
  | 1, hq => cases hq; exact h1
  | 2, hq => cases hq; exact h2
  | 3, hq => cases hq; exact h3
  | 4, hq => cases hq; exact h4
  | 5, hq => cases hq; exact h5
  | 6, hq => cases hq; exact h6
  | 7, hq => cases hq; exact h7
  | 8, hq => cases hq; exact h8
  | 9, hq => cases hq; exact h9
  | 10, hq => cases hq; exact h10
  | 11, hq => cases hq; exact h11
  | k + 12, hq => simp [classes] at hq
theorem ka_v {args : Array Value} {s : State} (hT : ∀ w ∈ gw_tbl, w.before args s = true) (hao : va_AO "DoeRoe$Plain" s) : ∃ cs : CS, ∀ (k : Nat) (q : ClassId × FieldType), (tyz cs)[k]? = some q → ArrOfT s q.1 q.2 ∧ va_RA s q.1 q.2 := by
  obtain ⟨c0, k0, m0, a1, a2, a3⟩ := Cond.arrayClass_spec (hT _ tw_103)
  obtain ⟨c1, k1, m1, b1, b2, b3⟩ := Cond.arrayClass_spec (hT _ tw_886)
  obtain ⟨m2, c2, k2, d1, d2, d3, d4, d5⟩ := Cond.arrayOver_spec hao
  refine ⟨fun k => if k = 0 then c0 else if k = 1 then c1 else c2, fun k q hq => ?_⟩
  match k, hq with
  | 0, hq => cases hq; exact ⟨fun n z => ⟨fun k h => (by cases h), k0, a2, m0, a3⟩, a1⟩
  | 1, hq => cases hq; exact ⟨fun n z => ⟨fun k h => (by cases h), k1, b2, m1, b3⟩, b1⟩
  | 2, hq => cases hq; exact ⟨fun n z => ⟨fun k h => (by cases h), k2, d3, m2, d4⟩, k2, m2, d3, d4, d1, d5⟩
  | k + 3, hq => simp [tyz] at hq
