/-! texts that are constants: what stands of them, the JDK's own methods that read them -/
def sLen : List Nat := [4, 7, 5]
def sByt : List (List Int32) := [[98, 111, 111, 107], [102, 105, 99, 116, 105, 111, 110], [99, 111, 117, 114, 116]]
def SEnv (kS vS : Nat → Nat) (SA : Nat → Prop) (U : State) : Prop := (vk_R RX0 116 "book" (kS 0) U ∧ vk_R RX0 122 "fiction" (kS 1) U ∧ vk_R RX0 124 "court" (kS 2) U) ∧ vk_S 3 sLen sByt kS vS SA U U.heap ∧ va_Z "java/lang/String" "COMPACT_STRINGS" "Z" (.int 1) SA U U.heap ∧ va_Zq "jdk/internal/util/Preconditions" "SIOOBE_FORMATTER" "Ljava/util/function/BiFunction;" SA U U.heap
theorem SEnv.at {kS vS : Nat → Nat} {SA A : Nat → Prop} {s : State} {H : Heap} {locs : List Loc} (h : SEnv kS vS SA s) (hS : va_S A s.heap H locs) (hSA : ∀ q, A q → SA q) : ∀ U : State, U.heap = H → s.WarmedH U.vm → SEnv kS vS SA U := by
  intro U hU hW
  obtain ⟨⟨h1, h2, h3⟩, h4, h5, h6⟩ := h
  have hq : ∀ a : Nat, a < s.heap.size → ¬ SA a → H[a]? = s.heap[a]? := fun a ha hn => hS.2.1 a ha (fun q => hn (hSA a q))
  refine ⟨⟨h1.warm hW, h2.warm hW, h3.warm hW⟩, ?_, ?_, ?_⟩
  · rw [hU]; exact vk_S.moved hW.alike (h4.kept hq)
  · rw [hU]; exact va_Z.moved hW.alike (h5.kept hq)
  · rw [hU]; exact va_Zq.moved hW.alike (h6.kept hq)
theorem SEnv.calling {kS vS : Nat → Nat} {SA : Nat → Prop} {U : State} {g : JFrame} {mk : MethodId} {a : Array Value} (h : SEnv kS vS SA U) : SEnv kS vS SA (U.calling g mk a) := by
  obtain ⟨⟨h1, h2, h3⟩, h4, h5, h6⟩ := h
  exact ⟨⟨h1.same rfl, h2.same rfl, h3.same rfl⟩, vk_S.moved (u := U) (U := U.calling g mk a) (Vm.Alike.refl U.vm) h4, va_Z.moved (u := U) (U := U.calling g mk a) (Vm.Alike.refl U.vm) h5, va_Zq.moved (u := U) (U := U.calling g mk a) (Vm.Alike.refl U.vm) h6⟩
def PcRS (D : va_G) (cs : CS) (kS vS : Nat → Nat) (SA : Nat → Prop) (ws : va_W) (av : List Value) : Array Value → State → Prop := va_Pc av (fun U => NW U ∧ SEnv kS vS SA U ∧ va_P D classes ws U.heap ∧ va_K D classes (tyz cs) U)
def PcWS (D : va_G) (cs : CS) (kS vS : Nat → Nat) (SA : Nat → Prop) (sz : Nat) (ws : va_W) (av : List Value) : Array Value → State → Prop := va_Pc av (fun U => NW U ∧ SEnv kS vS SA U ∧ U.heap.size = sz ∧ va_P D classes ws U.heap ∧ va_K D classes (tyz cs) U ∧ va_D (fun _ => True) ws)
abbrev QRv : Array Value → State → Outcome → State → Prop := va_Sv (fun _ => True)
section KS
variable {p : Program} {l : Launch} {e : Env} {R : Room} {s : State} {m : MethodId} {args : Array Value} {below : List Frame} {meth : Method} {c : Code} {H : Heap} {locs : List Loc} {cells slots : Nat} {Q : State → Prop} {cc : ByteArray} {pc : Nat} {ls : Array Slot} {rest : List Value} {D : va_G} {cs : CS} {kS vS : Nat → Nat} {SA : Nat → Prop} {ws : va_W} {A : Nat → Prop} {β : Type} {z : β} {nL : Nat} {own : String} {y : MethodName} {bytes : ByteArray} {maxL n idx : Nat} {ret : Option FieldType} {rm : Room} {C : String} {b : Addr} {As : List Value} {wc wr : va_W} {st0 : List Value}
theorem PcRS_blind {av : List Value} : FrameBlind (PcRS D cs kS vS SA ws av) := by
  intro a U g mk h
  obtain ⟨h0, h1, hE, h2, h3⟩ := h
  exact ⟨h0, h1.calling, hE.calling, h2, va_K.moved (u := U) (U := U.calling g mk a) (Vm.Alike.refl U.vm) h3⟩
theorem PcWS_blind {av : List Value} {sz : Nat} : FrameBlind (PcWS D cs kS vS SA sz ws av) := by
  intro a U g mk h
  obtain ⟨h0, h1, hE, h2, h3, h4, h5⟩ := h
  exact ⟨h0, h1.calling, hE.calling, h2, h3, va_K.moved (u := U) (U := U.calling g mk a) (Vm.Alike.refl U.vm) h4, h5⟩
theorem pcRS_at {av : List Value} (hN : NW s) (hEH : ∀ U : State, U.heap = H → s.WarmedH U.vm → SEnv kS vS SA U) (hK : va_K D classes (tyz cs) s) (hP : va_P D classes wc H) : ∀ U : State, U.heap = H → s.WarmedH U.vm → PcRS D cs kS vS SA wc av av.toArray U := by
  intro U hU hW
  exact ⟨rfl, hN.warm hW, hEH U hU hW, by rw [hU]; exact hP, va_K.moved hW.alike hK⟩
theorem pcWS_at {av : List Value} (hN : NW s) (hEH : ∀ U : State, U.heap = H → s.WarmedH U.vm → SEnv kS vS SA U) (hK : va_K D classes (tyz cs) s) (hP : va_P D classes wc H) (hD : va_D A wc) : ∀ U : State, U.heap = H → s.WarmedH U.vm → PcWS D cs kS vS SA H.size wc av av.toArray U := by
  intro U hU hW
  exact ⟨rfl, hN.warm hW, hEH U hU hW, by rw [hU], by rw [hU]; exact hP, va_K.moved hW.alike hK, hD.weaken (fun _ _ _ _ => trivial)⟩
theorem xVS_i {f : Option Int32} {k : Int32 → Option β} (hx : p.tables.exec = Jvm.exec) (hb : c.code = cc) (hml : c.maxLocals = nL) (hown : s.vm.findClass own = some m.cls) (hT : ∀ w ∈ gw_tbl, w.before args s = true) (hN : NW s) (hEH : ∀ U : State, U.heap = H → s.WarmedH U.vm → SEnv kS vS SA U) (hK : va_K D classes (tyz cs) s) (hP : va_P D classes wc H) (cw : CWV own idx C y bytes maxL ret n) (hm : f.bind k = some z) (hM : ∀ r, f = some r → Met l y (Cond.code y bytes maxL ret :: gw_tbl) rm (PcRS D cs kS vS SA wc (.ref b :: As)) (QRi r) 0 0 NoF) (h0 : rm.cells = 0 ∧ rm.slots = 0) (hr : RoomOk rm R maxL) (hrecv : ∃ cell : Cell, H[b]? = some cell ∧ cell.vm.isStatics = false ∧ s.vm.findClass C = some cell.cls) (hls : ls.size = nL) (hn : As.length = n) (hst : st0 = As.reverse ++ .ref b :: rest) (hW : (rest.map fun v => v.category).sum ≤ 8) (hdg : decode cc pc = .ok (.invokevirtual idx, 3)) (hcl : cells ≤ R.cells ∧ slots ≤ R.slots)
    (kk : ∀ r : Int32, k r = some z → W p l e R s m args below meth c H locs cells slots Q (F0 m (pc + 3) ls (.int r :: rest))) : W p l e R s m args below meth c H locs cells slots Q (F0 m pc ls st0) := by
  obtain ⟨r, hf, hm⟩ := ob_some hm
  refine vp_callSi (run_drop (va_runV (n := n) (b := b) (As := As) (rest := rest) ⟨hx, hb, hml, hown, hT⟩ (hM r hf) (CWV.mk hT cw h0.1 h0.2 hr) ⟨PcRS_blind, hrecv, pcRS_at hN hEH hK hP⟩ rfl hn hls hst (lv_room hW) hdg hcl)) (fun r' hr' => ?_)
  subst hr'
  exact kk _ hm
theorem xSS_i {f : Option Int32} {k : Int32 → Option β} (hx : p.tables.exec = Jvm.exec) (hb : c.code = cc) (hml : c.maxLocals = nL) (hown : s.vm.findClass own = some m.cls) (hT : ∀ w ∈ gw_tbl, w.before args s = true) (hN : NW s) (hEH : ∀ U : State, U.heap = H → s.WarmedH U.vm → SEnv kS vS SA U) (hK : va_K D classes (tyz cs) s) (hP : va_P D classes wc H) (cw : CWS own idx y bytes maxL ret n) (hm : f.bind k = some z) (hM : ∀ r, f = some r → Met l y (Cond.code y bytes maxL ret :: gw_tbl) rm (PcRS D cs kS vS SA wc As) (QRi r) 0 0 NoF) (h0 : rm.cells = 0 ∧ rm.slots = 0) (hr : RoomOk rm R maxL)  (hls : ls.size = nL) (hn : As.length = n) (hst : st0 = As.reverse ++ rest) (hW : (rest.map fun v => v.category).sum ≤ 8) (hdg : decode cc pc = .ok (.invokestatic idx, 3)) (hcl : cells ≤ R.cells ∧ slots ≤ R.slots)
    (kk : ∀ r : Int32, k r = some z → W p l e R s m args below meth c H locs cells slots Q (F0 m (pc + 3) ls (.int r :: rest))) : W p l e R s m args below meth c H locs cells slots Q (F0 m pc ls st0) := by
  obtain ⟨r, hf, hm⟩ := ob_some hm
  refine vp_callSi (run_drop (va_runS (n := n) (As := As) (rest := rest) ⟨hx, hb, hml, hown, hT⟩ (hM r hf) (CWS.mk hT cw h0.1 h0.2 hr) ⟨PcRS_blind, pcRS_at hN hEH hK hP⟩ rfl hn hls hst (lv_room hW) hdg hcl)) (fun r' hr' => ?_)
  subst hr'
  exact kk _ hm
theorem xSS_v (hx : p.tables.exec = Jvm.exec) (hb : c.code = cc) (hml : c.maxLocals = nL) (hown : s.vm.findClass own = some m.cls) (hT : ∀ w ∈ gw_tbl, w.before args s = true) (hN : NW s) (hEH : ∀ U : State, U.heap = H → s.WarmedH U.vm → SEnv kS vS SA U) (hK : va_K D classes (tyz cs) s) (hP : va_P D classes wc H) (cw : CWS own idx y bytes maxL ret n) (hM : Met l y (Cond.code y bytes maxL ret :: gw_tbl) rm (PcRS D cs kS vS SA wc As) QRv 0 0 NoF) (h0 : rm.cells = 0 ∧ rm.slots = 0) (hr : RoomOk rm R maxL) (hls : ls.size = nL) (hn : As.length = n) (hst : st0 = As.reverse ++ rest) (hW : (rest.map fun v => v.category).sum ≤ 8) (hdg : decode cc pc = .ok (.invokestatic idx, 3)) (hcl : cells ≤ R.cells ∧ slots ≤ R.slots)
    (kk : W p l e R s m args below meth c H locs cells slots Q (F0 m (pc + 3) ls rest)) : W p l e R s m args below meth c H locs cells slots Q (F0 m pc ls st0) := by
  refine va_csv (run_drop (va_runS (n := n) (As := As) (rest := rest) ⟨hx, hb, hml, hown, hT⟩ hM (CWS.mk hT cw h0.1 h0.2 hr) ⟨PcRS_blind, pcRS_at hN hEH hK hP⟩ rfl hn hls hst (lv_room hW) hdg hcl)) (fun _ => kk)
theorem xVSW_i {σ : Type} {wf wg : σ → va_W} {f : Option (Int32 × σ)} {k : (Int32 × σ) → Option β} (hx : p.tables.exec = Jvm.exec) (hb : c.code = cc) (hml : c.maxLocals = nL) (hown : s.vm.findClass own = some m.cls) (hT : ∀ w ∈ gw_tbl, w.before args s = true) (hN : NW s) (hEH : ∀ U : State, U.heap = H → s.WarmedH U.vm → SEnv kS vS SA U) (hK : va_K D classes (tyz cs) s) (hP : va_P D classes ws H) (hD : va_D A ws) {H0 : Heap} (hS : va_S A H0 H locs) (hA : ∀ q : Nat, H0.size ≤ q → A q) (hSA : ∀ q, A q → SA q) (cw : CWV own idx C y bytes maxL ret n) (hm : f.bind k = some z) (hM : ∀ r, f = some r → (∀ q, va_A wc H.size q → SA q) → Met l y (Cond.code y bytes maxL ret :: gw_tbl) rm (PcWS D cs kS vS SA H.size wc (.ref b :: As)) (QWi D cs (va_A wc H.size) wf r) 0 0 (va_A wc H.size)) (h0 : rm.cells = 0 ∧ rm.slots = 0) (hr : RoomOk rm R maxL)
    (isC isR isQ : List Nat) (hC1 : isC.map (fun i => ws[i]?) = wc.map some) (hC2 : va_nd isC = true) (hR1 : isR.map (fun i => ws[i]?) = wr.map some) (hR2 : va_nd isR = true) (hdis : ∀ i ∈ isR, i ∉ isC) (hQ1 : ∀ u, isQ.map (fun i => (wr ++ wf u)[i]?) = (wg u).map some) (hQ2 : va_nd isQ = true) (q0 : Nat) {ci : Nat} {q : vw_C} {fs : List Value} (hc : classes[ci]? = some q) (he : wc[q0]? = some (b, .inr (ci, fs))) (hC : q.1 = C) (hls : ls.size = nL) (hn : As.length = n) (hst : st0 = As.reverse ++ .ref b :: rest) (hW : (rest.map fun v => v.category).sum ≤ 8) (hdg : decode cc pc = .ok (.invokevirtual idx, 3)) (hcl : cells ≤ R.cells ∧ slots ≤ R.slots)
    (kk : ∀ (r : Int32) (u : σ) (H1 : Heap) (locs1 : List Loc), k (r, u) = some z → va_P D classes (wg u) H1 → va_D A (wg u) → va_S A H0 H1 locs1 → W p l e R s m args below meth c H1 locs1 cells slots Q (F0 m (pc + 3) ls (.int r :: rest))) : W p l e R s m args below meth c H locs cells slots Q (F0 m pc ls st0) := by
  obtain ⟨r0, hf, hm⟩ := ob_some hm
  have hPc : va_P D classes wc H := hP.sub isC (fm_of hC1)
  have hDc := hD.sub isC hC2 hC1
  have hFc := va_free hD hS hA isC hC1
  refine va_calli (va_runV (n := n) (b := b) (As := As) (rest := rest) ⟨hx, hb, hml, hown, hT⟩ (hM r0 hf (fun q h => hSA q (hFc q h))) (CWV.mk hT cw h0.1 h0.2 hr) ⟨PcWS_blind, (by rw [← hC]; exact va_recv hK hPc hc he), pcWS_at hN hEH hK hPc hDc⟩ rfl hn hls hst (lv_room hW) hdg hcl) hS (fun q _ h => hFc q h) hFc (fun r u t H1 locs1 ht hvm hp hB hz1 hk1 hS1 => ?_)
  cases hp
  obtain ⟨hP1, hK1, hD1⟩ := hB
  rw [ht] at hP1
  obtain ⟨hP2, hD2⟩ := va_join hP hD isC isR hC1 hR1 hR2 hdis hk1 hFc hP1 hD1
  exact kk _ _ _ _ hm (hP2.sub isQ (fm_of (hQ1 _))) (hD2.sub isQ hQ2 (hQ1 _)) hS1
theorem xVSW_v {σ : Type} {wf wg : σ → va_W} {f : Option (σ)} {k : σ → Option β} (hx : p.tables.exec = Jvm.exec) (hb : c.code = cc) (hml : c.maxLocals = nL) (hown : s.vm.findClass own = some m.cls) (hT : ∀ w ∈ gw_tbl, w.before args s = true) (hN : NW s) (hEH : ∀ U : State, U.heap = H → s.WarmedH U.vm → SEnv kS vS SA U) (hK : va_K D classes (tyz cs) s) (hP : va_P D classes ws H) (hD : va_D A ws) {H0 : Heap} (hS : va_S A H0 H locs) (hA : ∀ q : Nat, H0.size ≤ q → A q) (hSA : ∀ q, A q → SA q) (cw : CWV own idx C y bytes maxL ret n) (hm : f.bind k = some z) (hM : ∀ r, f = some r → (∀ q, va_A wc H.size q → SA q) → Met l y (Cond.code y bytes maxL ret :: gw_tbl) rm (PcWS D cs kS vS SA H.size wc (.ref b :: As)) (QWv D cs (va_A wc H.size) wf r) 0 0 (va_A wc H.size)) (h0 : rm.cells = 0 ∧ rm.slots = 0) (hr : RoomOk rm R maxL)
    (isC isR isQ : List Nat) (hC1 : isC.map (fun i => ws[i]?) = wc.map some) (hC2 : va_nd isC = true) (hR1 : isR.map (fun i => ws[i]?) = wr.map some) (hR2 : va_nd isR = true) (hdis : ∀ i ∈ isR, i ∉ isC) (hQ1 : ∀ u, isQ.map (fun i => (wr ++ wf u)[i]?) = (wg u).map some) (hQ2 : va_nd isQ = true) (q0 : Nat) {ci : Nat} {q : vw_C} {fs : List Value} (hc : classes[ci]? = some q) (he : wc[q0]? = some (b, .inr (ci, fs))) (hC : q.1 = C) (hls : ls.size = nL) (hn : As.length = n) (hst : st0 = As.reverse ++ .ref b :: rest) (hW : (rest.map fun v => v.category).sum ≤ 8) (hdg : decode cc pc = .ok (.invokevirtual idx, 3)) (hcl : cells ≤ R.cells ∧ slots ≤ R.slots)
    (kk : ∀ (u : σ) (H1 : Heap) (locs1 : List Loc), k u = some z → va_P D classes (wg u) H1 → va_D A (wg u) → va_S A H0 H1 locs1 → W p l e R s m args below meth c H1 locs1 cells slots Q (F0 m (pc + 3) ls (rest))) : W p l e R s m args below meth c H locs cells slots Q (F0 m pc ls st0) := by
  obtain ⟨r0, hf, hm⟩ := ob_some hm
  have hPc : va_P D classes wc H := hP.sub isC (fm_of hC1)
  have hDc := hD.sub isC hC2 hC1
  have hFc := va_free hD hS hA isC hC1
  refine va_callv (va_runV (n := n) (b := b) (As := As) (rest := rest) ⟨hx, hb, hml, hown, hT⟩ (hM r0 hf (fun q h => hSA q (hFc q h))) (CWV.mk hT cw h0.1 h0.2 hr) ⟨PcWS_blind, (by rw [← hC]; exact va_recv hK hPc hc he), pcWS_at hN hEH hK hPc hDc⟩ rfl hn hls hst (lv_room hW) hdg hcl) hS (fun q _ h => hFc q h) hFc (fun u t H1 locs1 ht hvm hp hB hz1 hk1 hS1 => ?_)
  subst hp
  obtain ⟨hP1, hK1, hD1⟩ := hB
  rw [ht] at hP1
  obtain ⟨hP2, hD2⟩ := va_join hP hD isC isR hC1 hR1 hR2 hdis hk1 hFc hP1 hD1
  exact kk  _ _ _ hm (hP2.sub isQ (fm_of (hQ1 _))) (hD2.sub isQ hQ2 (hQ1 _)) hS1
end KS
section KSM
variable {l : Launch} {y : MethodName} {bytes : ByteArray} {maxL : Nat} {ret : Option FieldType} {rm : Room} {D : va_G} {cs : CS} {kS vS : Nat → Nat} {SA : Nat → Prop} {ws : va_W} {av : List Value}
theorem met_RS {Qc : Array Value → State → Outcome → State → Prop} (hy : plainName y.cls = true) (hav : (lg_sl av).length ≤ maxL)
    (body : ∀ (p : Program) (e : Env) (s : State) (m : MethodId) (below : List Frame) (meth : Method) (c : Code), EV p s m av.toArray meth c bytes maxL y.cls ret D cs → SEnv kS vS SA s → va_P D classes ws s.heap → ∀ ls : Array Slot, lv_has ls maxL (lv_args 0 av) →
      W p l e rm s m av.toArray below meth c s.heap [] 0 0 (MQ below Qc av.toArray s 0 0 NoF) (F0 m 0 ls [])) : Met l y (Cond.code y bytes maxL ret :: gw_tbl) rm (PcRS D cs kS vS SA ws av) Qc 0 0 NoF := by
  refine Met.ofW (cc := bytes) (maxL := maxL) (ret := ret) hy rfl ?_
  intro p e s m args below meth c s₁ B hml hv
  obtain ⟨rfl, hN, hE, hP, hK⟩ := hv
  have hts := atoms_spec (ws := Cond.code y bytes maxL ret :: gw_tbl) B.pre
  rw [lg_entry_eq]
  exact body p e s m below meth c ⟨B.exec, B.bytes, B.returns, hml, findClass_of_methodNamed B.named, B.notSynchronized, fun w h => hts w (List.mem_cons_of_mem _ h), hN, hK⟩ hE hP _ (lv_entry av hav)
theorem met_WS {Qc : Array Value → State → Outcome → State → Prop} {sz : Nat} (hy : plainName y.cls = true) (hav : (lg_sl av).length ≤ maxL)
    (body : ∀ (p : Program) (e : Env) (s : State) (m : MethodId) (below : List Frame) (meth : Method) (c : Code), EV p s m av.toArray meth c bytes maxL y.cls ret D cs → SEnv kS vS SA s → va_P D classes ws s.heap → va_D (va_A ws sz) ws → va_S (va_A ws sz) s.heap s.heap [] → (∀ q : Nat, s.heap.size ≤ q → va_A ws sz q) → ∀ ls : Array Slot, lv_has ls maxL (lv_args 0 av) →
      W p l e rm s m av.toArray below meth c s.heap [] 0 0 (MQ below Qc av.toArray s 0 0 (va_A ws sz)) (F0 m 0 ls [])) : Met l y (Cond.code y bytes maxL ret :: gw_tbl) rm (PcWS D cs kS vS SA sz ws av) Qc 0 0 (va_A ws sz) := by
  refine Met.ofW (cc := bytes) (maxL := maxL) (ret := ret) hy rfl ?_
  intro p e s m args below meth c s₁ B hml hv
  obtain ⟨rfl, hN, hE, hsz, hP, hK, hD⟩ := hv
  have hts := atoms_spec (ws := Cond.code y bytes maxL ret :: gw_tbl) B.pre
  rw [lg_entry_eq]
  subst hsz
  exact body p e s m below meth c ⟨B.exec, B.bytes, B.returns, hml, findClass_of_methodNamed B.named, B.notSynchronized, fun w h => hts w (List.mem_cons_of_mem _ h), hN, hK⟩ hE hP hD.self va_S.rf (fun q h => Or.inr h) _ (lv_entry av hav)
end KSM
def sch (i : Nat) (k : Int32) : Option Int32 := if k < 0 ∨ sLen.getD i 0 ≤ k.toNatClampNeg then none else some ((sByt.getD i []).getD k.toNatClampNeg 0)
theorem sch_nar (i j : Nat) (hi : i < 3) (hj : j < sLen.getD i 0) : ((((sByt.getD i []).getD j 0) &&& 255).toUInt32 % 65536).toInt32 = (sByt.getD i []).getD j 0 ∧ narrow .char (.int ((sByt.getD i []).getD j 0)) = .int ((sByt.getD i []).getD j 0) := by
  have h : ∀ i, i < 3 → ∀ j, j < 7 → (j < sLen.getD i 0 → ((((sByt.getD i []).getD j 0) &&& 255).toUInt32 % 65536).toInt32 = (sByt.getD i []).getD j 0 ∧ narrow .char (.int ((sByt.getD i []).getD j 0)) = .int ((sByt.getD i []).getD j 0)) := by decide +kernel
  have h7 : ∀ i, i < 3 → sLen.getD i 0 ≤ 7 := by decide
  exact h i hi j (Nat.lt_of_lt_of_le hj (h7 i hi)) hj
theorem tcJ3_chkR (l : Launch) (D : va_G) (cs : CS) (a1 a2 : Int32) (t : Nat) (h1 : ¬ a1 < 0) (h2 : a1 < a2) : Met l yJ3_checkIndex_8e157 (Cond.code yJ3_checkIndex_8e157 cJ3_checkIndex_8e157 3 (some .int) :: gw_tbl) ({ frames := 0, cells := 0, slots := 0, locals := 0 }) (PcR D cs [] [.int a1, .int a2, .ref t]) (QRi a1) 0 0 NoF := by
  refine met_R rfl (Nat.le_of_ble_eq_true rfl) (fun p e s m below meth c E hP ls hl => ?_)
  obtain ⟨hx, hb, hr, hml, hown, hlk, hT, hN, hK⟩ := id E
  have hl : lv_has ls 3 [(0, .int a1), (1, .int a2), (2, .ref t)] := hl
  refine lv_iload_n hx hb dJ3_checkIndex_8e157_0 rfl (lv_at hl 0 rfl) ?_
  refine lv_if_lt (tgt := 9) hx hb dJ3_checkIndex_8e157_1 (by decide) (fun h => absurd h h1) (fun _ => ?_)
  refine lv_iload_n hx hb dJ3_checkIndex_8e157_4 rfl (lv_at hl 0 rfl) ?_
  refine lv_iload_n hx hb dJ3_checkIndex_8e157_5 rfl (lv_at hl 1 rfl) ?_
  refine lv_icmp_lt (tgt := 16) hx hb dJ3_checkIndex_8e157_6 (by decide) (fun _ => ?_) (fun h => absurd h2 h)
  refine lv_iload_n hx hb dJ3_checkIndex_8e157_16 rfl (lv_at hl 0 rfl) ?_
  exact x_iretR hx hb hr hlk rfl dJ3_checkIndex_8e157_17
theorem tcJ3_chkN (l : Launch) (D : va_G) (cs : CS) (a1 a2 : Int32) (h1 : ¬ a1 < 0) (h2 : a1 < a2) : Met l yJ3_checkIndex_8e157 (Cond.code yJ3_checkIndex_8e157 cJ3_checkIndex_8e157 3 (some .int) :: gw_tbl) ({ frames := 0, cells := 0, slots := 0, locals := 0 }) (PcR D cs [] [.int a1, .int a2, .null]) (QRi a1) 0 0 NoF := by
  refine met_R rfl (Nat.le_of_ble_eq_true rfl) (fun p e s m below meth c E hP ls hl => ?_)
  obtain ⟨hx, hb, hr, hml, hown, hlk, hT, hN, hK⟩ := id E
  have hl : lv_has ls 3 [(0, .int a1), (1, .int a2), (2, .null)] := hl
  refine lv_iload_n hx hb dJ3_checkIndex_8e157_0 rfl (lv_at hl 0 rfl) ?_
  refine lv_if_lt (tgt := 9) hx hb dJ3_checkIndex_8e157_1 (by decide) (fun h => absurd h h1) (fun _ => ?_)
  refine lv_iload_n hx hb dJ3_checkIndex_8e157_4 rfl (lv_at hl 0 rfl) ?_
  refine lv_iload_n hx hb dJ3_checkIndex_8e157_5 rfl (lv_at hl 1 rfl) ?_
  refine lv_icmp_lt (tgt := 16) hx hb dJ3_checkIndex_8e157_6 (by decide) (fun _ => ?_) (fun h => absurd h2 h)
  refine lv_iload_n hx hb dJ3_checkIndex_8e157_16 rfl (lv_at hl 0 rfl) ?_
  exact x_iretR hx hb hr hlk rfl dJ3_checkIndex_8e157_17
theorem tcJ0_chk (l : Launch) (D : va_G) (cs : CS) (kS vS : Nat → Nat) (SA : Nat → Prop) (a1 a2 : Int32) (h1 : ¬ a1 < 0) (h2 : a1 < a2) : Met l yJ0_checkIndex_df160 (Cond.code yJ0_checkIndex_df160 cJ0_checkIndex_df160 2 none :: gw_tbl) ({ frames := 1, cells := 0, slots := 0, locals := 22 }) (PcRS D cs kS vS SA [] [.int a1, .int a2]) QRv 0 0 NoF := by
  refine met_RS rfl (Nat.le_of_ble_eq_true rfl) (fun p e s m below meth c E hE hP ls hl => ?_)
  obtain ⟨hx, hb, hr, hml, hown, hlk, hT, hN, hK⟩ := id E
  have hl : lv_has ls 2 [(0, .int a1), (1, .int a2)] := hl
  refine lv_iload_n hx hb dJ0_checkIndex_df160_0 rfl (lv_at hl 0 rfl) ?_
  refine lv_iload_n hx hb dJ0_checkIndex_df160_1 rfl (lv_at hl 1 rfl) ?_
  rcases hE.2.2.2 with hZ | ⟨t, hZ⟩
  · refine va_gets hx hb hZ va_S.rf hown (hT _ tw_368) (fun _ h => h) dJ0_checkIndex_df160_2 ?_
    refine xS_i (f := some a1) (k := some) (As := [.int a1, .int a2, .null]) (rest := []) hx hb hml hown hT hN hK hP cw_J0_1059 (z := a1) rfl (fun z h => by cases h; exact tcJ3_chkN l D cs a1 a2 h1 h2) ⟨rfl, rfl⟩ ⟨by decide, by decide⟩ hl.1 rfl rfl (Nat.le_of_ble_eq_true rfl) dJ0_checkIndex_df160_5 ⟨Nat.zero_le _, Nat.zero_le _⟩ (fun r _ => ?_)
    refine lv_pop hx hb dJ0_checkIndex_df160_8 rfl ?_
    exact W.vret hx hb hr (fun t ht _ => ⟨rfl, trivial, ht⟩) (fun _ h => nomatch h) dJ0_checkIndex_df160_9 hlk
  · refine va_gets hx hb hZ va_S.rf hown (hT _ tw_368) (fun _ h => h) dJ0_checkIndex_df160_2 ?_
    refine xS_i (f := some a1) (k := some) (As := [.int a1, .int a2, .ref t]) (rest := []) hx hb hml hown hT hN hK hP cw_J0_1059 (z := a1) rfl (fun z h => by cases h; exact tcJ3_chkR l D cs a1 a2 t h1 h2) ⟨rfl, rfl⟩ ⟨by decide, by decide⟩ hl.1 rfl rfl (Nat.le_of_ble_eq_true rfl) dJ0_checkIndex_df160_5 ⟨Nat.zero_le _, Nat.zero_le _⟩ (fun r _ => ?_)
    refine lv_pop hx hb dJ0_checkIndex_df160_8 rfl ?_
    exact W.vret hx hb hr (fun t ht _ => ⟨rfl, trivial, ht⟩) (fun _ h => nomatch h) dJ0_checkIndex_df160_9 hlk
theorem tcJ0_coder (l : Launch) (D : va_G) (cs : CS) (kS vS : Nat → Nat) (SA : Nat → Prop) (i : Nat) (hi : i < 3) : Met l yJ0_coder_7d493 (Cond.code yJ0_coder_7d493 cJ0_coder_7d493 1 (some .byte) :: gw_tbl) ({ frames := 0, cells := 0, slots := 0, locals := 0 }) (PcRS D cs kS vS SA [] [.ref (kS i)]) (QRi 0) 0 0 NoF := by
  refine met_RS rfl (Nat.le_of_ble_eq_true rfl) (fun p e s m below meth c E hE hP ls hl => ?_)
  obtain ⟨hx, hb, hr, hml, hown, hlk, hT, hN, hK⟩ := id E
  have hl : lv_has ls 1 [(0, .ref (kS i))] := hl
  refine va_gets hx hb hE.2.2.1 va_S.rf hown (hT _ tw_352) (fun _ h => h) dJ0_coder_7d493_0 ?_
  refine lv_if_eq (tgt := 13) hx hb dJ0_coder_7d493_3 (by decide) (fun h => absurd h (by decide)) (fun _ => ?_)
  refine lv_aload_n hx hb dJ0_coder_7d493_6 rfl (lv_at hl 0 rfl) ?_
  refine vk_getf hx hb (hE.2.1.1 i hi).2.1 va_S.rf hown (hT _ tw_1207) (fun _ h => h) dJ0_coder_7d493_7 ?_
  refine lv_goto (tgt := 14) hx hb dJ0_coder_7d493_10 (by decide) ?_
  exact W.zret hx hb hr (by decide +kernel) (fun t ht _ => ⟨0, rfl, rfl, ht⟩) (fun _ h => nomatch h) dJ0_coder_7d493_14 hlk
theorem tcJ0_lat (l : Launch) (D : va_G) (cs : CS) (kS vS : Nat → Nat) (SA : Nat → Prop) (i : Nat) (hi : i < 3) : Met l yJ0_isLatin1_aae02 (Cond.code yJ0_isLatin1_aae02 cJ0_isLatin1_aae02 1 (some .boolean) :: gw_tbl) ({ frames := 0, cells := 0, slots := 0, locals := 0 }) (PcRS D cs kS vS SA [] [.ref (kS i)]) (QRi 1) 0 0 NoF := by
  refine met_RS rfl (Nat.le_of_ble_eq_true rfl) (fun p e s m below meth c E hE hP ls hl => ?_)
  obtain ⟨hx, hb, hr, hml, hown, hlk, hT, hN, hK⟩ := id E
  have hl : lv_has ls 1 [(0, .ref (kS i))] := hl
  refine va_gets hx hb hE.2.2.1 va_S.rf hown (hT _ tw_352) (fun _ h => h) dJ0_isLatin1_aae02_0 ?_
  refine lv_if_eq (tgt := 17) hx hb dJ0_isLatin1_aae02_3 (by decide) (fun h => absurd h (by decide)) (fun _ => ?_)
  refine lv_aload_n hx hb dJ0_isLatin1_aae02_6 rfl (lv_at hl 0 rfl) ?_
  refine vk_getf hx hb (hE.2.1.1 i hi).2.1 va_S.rf hown (hT _ tw_1207) (fun _ h => h) dJ0_isLatin1_aae02_7 ?_
  refine lv_if_ne (tgt := 17) hx hb dJ0_isLatin1_aae02_10 (by decide) (fun h => absurd rfl h) (fun _ => ?_)
  refine lv_iconst (v := (1 : Int32)) hx hb dJ0_isLatin1_aae02_13 (by decide) ?_
  refine lv_goto (tgt := 18) hx hb dJ0_isLatin1_aae02_14 (by decide) ?_
  exact W.zret hx hb hr (by decide +kernel) (fun t ht _ => ⟨1, rfl, rfl, ht⟩) (fun _ h => nomatch h) dJ0_isLatin1_aae02_18 hlk
theorem tcJ0_len (l : Launch) (D : va_G) (cs : CS) (kS vS : Nat → Nat) (SA : Nat → Prop) (i : Nat) (hi : i < 3) : Met l yJ0_length_8abf5 (Cond.code yJ0_length_8abf5 cJ0_length_8abf5 1 (some .int) :: gw_tbl) ({ frames := 1, cells := 0, slots := 0, locals := 20 }) (PcRS D cs kS vS SA [] [.ref (kS i)]) (QRi (nI (sLen.getD i 0))) 0 0 NoF := by
  refine met_RS rfl (Nat.le_of_ble_eq_true rfl) (fun p e s m below meth c E hE hP ls hl => ?_)
  obtain ⟨hx, hb, hr, hml, hown, hlk, hT, hN, hK⟩ := id E
  have hl : lv_has ls 1 [(0, .ref (kS i))] := hl
  refine lv_aload_n hx hb dJ0_length_8abf5_0 rfl (lv_at hl 0 rfl) ?_
  refine vk_getf hx hb (hE.2.1.1 i hi).2.2.1 va_S.rf hown (hT _ tw_1206) (fun _ h => h) dJ0_length_8abf5_1 ?_
  refine va_tlen (v := nI (sLen.getD i 0)) hx hb (hE.2.1.1 i hi).2.2.2 va_S.rf rfl dJ0_length_8abf5_4 ?_
  refine lv_aload_n hx hb dJ0_length_8abf5_5 rfl (lv_at hl 0 rfl) ?_
  refine xVS_i (f := some 0) (k := some) (As := []) (rest := [.int (nI (sLen.getD i 0))]) hx hb hml hown hT hN (hE.at va_S.rf (fun _ h => h)) hK hP cw_J0_335 (z := (0 : Int32)) rfl (fun z h => by cases h; exact tcJ0_coder l D cs kS vS SA i hi) ⟨rfl, rfl⟩ ⟨by decide, by decide⟩ (vk_recv hE.2.1 hi va_S.rf) hl.1 rfl rfl (Nat.le_of_ble_eq_true rfl) dJ0_length_8abf5_6 ⟨Nat.zero_le _, Nat.zero_le _⟩ (fun r hm => ?_)
  cases hm
  refine lv_ishr hx hb dJ0_length_8abf5_9 ?_
  have hq : ∀ i, i < 3 → nI (sLen.getD i 0) >>> ((0 : Int32) &&& 31) = nI (sLen.getD i 0) := by decide +kernel
  exact x_iretR hx hb hr hlk (by rw [hq i hi]) dJ0_length_8abf5_10
theorem tcJ1_charAt (l : Launch) (D : va_G) (cs : CS) (kS vS : Nat → Nat) (SA : Nat → Prop) (i : Nat) (hi : i < 3) (a1 z : Int32) (hm : sch i a1 = some z) : Met l yJ1_charAt_3b067 (Cond.code yJ1_charAt_3b067 cJ1_charAt_3b067 2 (some .char) :: gw_tbl) ({ frames := 2, cells := 0, slots := 0, locals := 43 }) (PcRS D cs kS vS SA [] [.ref (vS i), .int a1]) (QRi z) 0 0 NoF := by
  refine met_RS rfl (Nat.le_of_ble_eq_true rfl) (fun p e s m below meth c E hE hP ls hl => ?_)
  obtain ⟨hx, hb, hr, hml, hown, hlk, hT, hN, hK⟩ := id E
  have hl : lv_has ls 2 [(0, .ref (vS i)), (1, .int a1)] := hl
  unfold sch at hm
  by_cases hc : a1 < 0 ∨ sLen.getD i 0 ≤ a1.toNatClampNeg
  · rw [if_pos hc] at hm; cases hm
  · rw [if_neg hc] at hm
    have h7 : ∀ i, i < 3 → sLen.getD i 0 ≤ 7 := by decide
    have h1 : ¬ a1 < 0 := fun h => hc (Or.inl h)
    obtain ⟨j, hj, rfl⟩ := vp_in_of (x := a1) (n := sLen.getD i 0) hc (Nat.lt_of_le_of_lt (h7 i hi) (by decide))
    have hj2 : j < 2 ^ 31 := Nat.lt_of_lt_of_le hj (Nat.le_trans (h7 i hi) (by decide))
    have h2 : nI j < nI (sLen.getD i 0) := nI_lt hj (Nat.lt_of_le_of_lt (h7 i hi) (by decide))
    refine lv_iload_n hx hb dJ1_charAt_3b067_0 rfl (lv_at hl 1 rfl) ?_
    refine lv_aload_n hx hb dJ1_charAt_3b067_1 rfl (lv_at hl 0 rfl) ?_
    refine va_tlen (v := nI (sLen.getD i 0)) hx hb (hE.2.1.1 i hi).2.2.2 va_S.rf rfl dJ1_charAt_3b067_2 ?_
    refine xSS_v (As := [.int (nI j), .int (nI (sLen.getD i 0))]) (rest := []) hx hb hml hown hT hN (hE.at va_S.rf (fun _ h => h)) hK hP cw_J1_9 (tcJ0_chk l D cs kS vS SA (nI j) (nI (sLen.getD i 0)) h1 h2) ⟨rfl, rfl⟩ ⟨by decide, by decide⟩ hl.1 rfl rfl (Nat.le_of_ble_eq_true rfl) dJ1_charAt_3b067_3 ⟨Nat.zero_le _, Nat.zero_le _⟩ ?_
    refine lv_aload_n hx hb dJ1_charAt_3b067_6 rfl (lv_at hl 0 rfl) ?_
    refine lv_iload_n hx hb dJ1_charAt_3b067_7 rfl (lv_at hl 1 rfl) ?_
    refine va_tb hx hb (hE.2.1.1 i hi).2.2.2 va_S.rf hc rfl dJ1_charAt_3b067_8 ?_
    refine lv_sipush (v := (255 : Int32)) hx hb dJ1_charAt_3b067_9 (by decide) ?_
    refine lv_iand hx hb dJ1_charAt_3b067_12 ?_
    rw [nI_clamp hj2] at hm ⊢
    obtain ⟨e1, e2⟩ := sch_nar i j hi hj
    refine lv_i2c (v := (sByt.getD i []).getD j 0) hx hb dJ1_charAt_3b067_13 e1 ?_
    exact W.zret hx hb hr e2 (fun t ht _ => ⟨_, rfl, Option.some.inj hm, ht⟩) (fun _ h => nomatch h) dJ1_charAt_3b067_14 hlk
theorem tcJ0_charAt (l : Launch) (D : va_G) (cs : CS) (kS vS : Nat → Nat) (SA : Nat → Prop) (i : Nat) (hi : i < 3) (a1 z : Int32) (hm : sch i a1 = some z) : Met l yJ0_charAt_5068e (Cond.code yJ0_charAt_5068e cJ0_charAt_5068e 2 (some .char) :: gw_tbl) ({ frames := 3, cells := 0, slots := 0, locals := 64 }) (PcRS D cs kS vS SA [] [.ref (kS i), .int a1]) (QRi z) 0 0 NoF := by
  refine met_RS rfl (Nat.le_of_ble_eq_true rfl) (fun p e s m below meth c E hE hP ls hl => ?_)
  obtain ⟨hx, hb, hr, hml, hown, hlk, hT, hN, hK⟩ := id E
  have hl : lv_has ls 2 [(0, .ref (kS i)), (1, .int a1)] := hl
  refine lv_aload_n hx hb dJ0_charAt_5068e_0 rfl (lv_at hl 0 rfl) ?_
  refine xVS_i (f := some 1) (k := some) (As := []) (rest := []) hx hb hml hown hT hN (hE.at va_S.rf (fun _ h => h)) hK hP cw_J0_492 (z := (1 : Int32)) rfl (fun z h => by cases h; exact tcJ0_lat l D cs kS vS SA i hi) ⟨rfl, rfl⟩ ⟨by decide, by decide⟩ (vk_recv hE.2.1 hi va_S.rf) hl.1 rfl rfl (Nat.le_of_ble_eq_true rfl) dJ0_charAt_5068e_1 ⟨Nat.zero_le _, Nat.zero_le _⟩ (fun r h1 => ?_)
  cases h1
  refine lv_if_eq (tgt := 16) hx hb dJ0_charAt_5068e_4 (by decide) (fun h => absurd h (by decide)) (fun _ => ?_)
  refine lv_aload_n hx hb dJ0_charAt_5068e_7 rfl (lv_at hl 0 rfl) ?_
  refine vk_getf hx hb (hE.2.1.1 i hi).2.2.1 va_S.rf hown (hT _ tw_1206) (fun _ h => h) dJ0_charAt_5068e_8 ?_
  refine lv_iload_n hx hb dJ0_charAt_5068e_11 rfl (lv_at hl 1 rfl) ?_
  refine xSS_i (f := sch i a1) (k := some) (As := [.ref (vS i), .int a1]) (rest := []) hx hb hml hown hT hN (hE.at va_S.rf (fun _ h => h)) hK hP cw_J0_495 (z := z) (by rw [hm]; rfl) (fun z h => tcJ1_charAt l D cs kS vS SA i hi a1 z h) ⟨rfl, rfl⟩ ⟨by decide, by decide⟩ hl.1 rfl rfl (Nat.le_of_ble_eq_true rfl) dJ0_charAt_5068e_12 ⟨Nat.zero_le _, Nat.zero_le _⟩ (fun r h1 => ?_)
  cases h1
  have hnar : narrow .char (.int z) = .int z := by
    unfold sch at hm
    by_cases hc : a1 < 0 ∨ sLen.getD i 0 ≤ a1.toNatClampNeg
    · rw [if_pos hc] at hm; cases hm
    · rw [if_neg hc] at hm
      rw [← Option.some.inj hm]
      exact (sch_nar i a1.toNatClampNeg hi (Nat.not_le.mp (fun h => hc (Or.inr h)))).2
  exact W.zret hx hb hr hnar (fun t ht _ => ⟨z, rfl, rfl, ht⟩) (fun _ h => nomatch h) dJ0_charAt_5068e_15 hlk
