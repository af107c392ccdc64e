/-! a method of a superclass called on this; a method of the KINDS called by the receiver's own class -/
theorem nm_ex {α β : Type} {x : α} {k : α → Option β} {z : β} (hm : nm x k = some z) : ∃ u, k u = some z ∧ u = x := ⟨x, hm, rfl⟩
def CWU (own : String) (idx : Nat) (x : MethodName) (owner : String) (y : MethodName) (bytes : ByteArray) (maxL : Nat) (ret : Option FieldType) (n : Nat) : Prop :=
  Cond.methodLink own idx x ∈ gw_tbl ∧ Cond.sameMethod x.cls owner x.name x.desc ∈ gw_tbl ∧ Cond.superclass own x.cls ∈ gw_tbl ∧ Cond.instanceMethod y ∈ gw_tbl ∧ Cond.initialized y.cls ∈ gw_tbl ∧ Cond.code y bytes maxL ret ∈ gw_tbl ∧ y = ⟨owner, x.name, x.desc⟩ ∧ x.name ≠ "<init>" ∧ (parseMethodDescriptor y.desc).map (fun d => d.parameters.length) = some n
def CWO (own : String) (idx : Nat) (C : String) (x y : MethodName) (bytes : ByteArray) (maxL : Nat) (ret : Option FieldType) (n : Nat) : Prop :=
  Cond.methodLink own idx x ∈ gw_tbl ∧ Cond.sameMethod x.cls x.cls x.name x.desc ∈ gw_tbl ∧ Cond.selects C x y ∈ gw_tbl ∧ Cond.instanceMethod y ∈ gw_tbl ∧ Cond.initialized y.cls ∈ gw_tbl ∧ Cond.code y bytes maxL ret ∈ gw_tbl ∧ Cond.instanceMethod x ∈ gw_tbl ∧ (∃ b0 m0 r0, Cond.code x b0 m0 r0 ∈ gw_tbl) ∧ x.cls ≠ "java/lang/invoke/MethodHandle" ∧ x.cls ≠ "java/lang/invoke/VarHandle" ∧ (parseMethodDescriptor x.desc).map (fun d => d.parameters.length) = some n
theorem sub_refl {s : State} {y : MethodName} {cn r0 : ClassId} (h1 : s.vm.findClass y.cls = some cn) (h2 : s.vm.findClass y.cls = some r0) : s.vm.isSubclass cn r0 = true := by
  have h : cn = r0 := Option.some.inj (h1.symm.trans h2)
  rw [h]
  simp [Vm.isSubclass, Vm.isSubclassAux]
theorem sub_step {s : State} {args : Array Value} {A B : String} {cn r0 : ClassId} (hs : (Cond.superclass A B).before args s = true) (h1 : s.vm.findClass A = some cn) (h2 : s.vm.findClass B = some r0) : s.vm.isSubclass cn r0 = true := by
  obtain ⟨ps, dk, kp, hps, hdk, hkp, hsuper, -, -, -⟩ := Cond.superclass_spec h1 hs
  have h : ps = r0 := Option.some.inj (hps.symm.trans h2)
  subst h
  have hlt : 0 < s.vm.classes.size := Nat.lt_of_le_of_lt (Nat.zero_le _) (Array.getElem?_eq_some_iff.mp hdk).1
  obtain ⟨k, hk⟩ : ∃ k, s.vm.classes.size = k + 1 := ⟨s.vm.classes.size - 1, by omega⟩
  simp [Vm.isSubclass, hk, Vm.isSubclassAux, hdk, hsuper]
section KU
variable {p : Program} {l : Launch} {e : Env} {R : Room} {s : State} {m : MethodId} {args : Array Value} {below : List Frame} {meth : Method} {c : Code}
theorem my_callSU {T : State} {locs : List Loc} {cells slots : Nat} (X : Stand p l e R s m args below meth c T locs cells slots) (hexec : p.tables.exec = Jvm.exec) {own owner : String} {index : Nat} {x y : MethodName} {bytes : ByteArray} {maxL : Nat} {ret : Option FieldType} (hy : y = ⟨owner, x.name, x.desc⟩)
    (hown : s.vm.findClass own = some m.cls) (hlink : (Cond.methodLink own index x).before args s = true) (hsame : (Cond.sameMethod x.cls owner x.name x.desc).before args s = true) (hsup : (Cond.superclass own x.cls).before args s = true)
    (hsubc : ∀ cn r0, s.vm.findClass x.cls = some cn → s.vm.findClass y.cls = some r0 → s.vm.isSubclass cn r0 = true)
    (hinst : (Cond.instanceMethod y).before args s = true) (hcode : (Cond.code y bytes maxL ret).before args s = true) (hno : x.name ≠ "<init>")
    {W : Nat} {Pre : Pt → Array Value → Prop} {Post : Pt → Array Value → Option Value → Pt → Prop} (hK : Back l R p e below s args y 3 W Pre Post)
    {b : Addr} {cellB : Cell} {kB : Class} (hcell : T.heap[b]? = some cellB) (hobj : cellB.vm.isStatics = false) (hkB : s.vm.classes[cellB.cls]? = some kB)
    {g : JFrame} (hg : g.method = m) (hsize : g.locals.size = c.maxLocals) {argsL rest : List Value} (hlen : ∀ sig, parseMethodDescriptor y.desc = some sig → argsL.length = sig.parameters.length)
    (hstack : g.stack = argsL.reverse ++ .ref b :: rest) (hW : 2 * g.monitorRoom + (rest.map fun v => v.category).sum ≤ W) (hdg : decode c.code g.pc = .ok (.invokespecial index, 3))
    (hpre : ∀ vm₁, s.WarmedH vm₁ → Pre ⟨T.setVm vm₁, locs, cells, slots⟩ (Value.ref b :: argsL).toArray) :
    ∃ (v : Option Value) (vm₁ : Vm) (B : Pt), s.WarmedH vm₁ ∧ Stand p l e R s m args below meth c B.U B.locs B.cells B.slots ∧ Post ⟨T.setVm vm₁, locs, cells, slots⟩ (Value.ref b :: argsL).toArray v B ∧
      ∀ target, Steps p.tables e below (B.U.setTop { g with pc := g.pc + 3, stack := v.toList ++ rest }) target → Steps p.tables e below (T.setTop g) target := by
  obtain ⟨mk, methM, hnamed, hmethM, hstM, habM⟩ := Cond.instanceMethod_spec hinst
  obtain ⟨methM', cM, hmethM', -, -, -, -, -, -, hsigM⟩ := Cond.code_spec hnamed hcode
  cases hmethM.symm.trans hmethM'
  obtain ⟨ps, dk, kp, hps, hdk, hkp, hsuper, -, -, hnid⟩ := Cond.superclass_spec hown hsup
  have hsub := hsubc ps mk.cls hps (findClass_of_methodNamed hnamed)
  have hn : s.methodNamed? ⟨owner, x.name, x.desc⟩ = some mk := by rw [← hy]; exact hnamed
  obtain ⟨vm₁, X₁, hstep₁⟩ := X.invokespecialUp hexec hown hlink hsame hn hmethM hstM habM hno hdk hnid hps hsuper hsub (a := b) (cell := cellB) hcell
    (fun z h => by rw [h] at hobj; cases hobj) hkB (g := g) hg (argsL := argsL) (rest := rest) (hlen _ hsigM) hstack hdg
  obtain ⟨v, B, X', hpost, hsteps⟩ := hK m meth c ⟨T.setVm vm₁, locs, cells, slots⟩ { g with stack := rest } (.invokespecial index) mk (Value.ref b :: argsL).toArray X₁ hg hsize hdg hW (X₁.named hnamed) (hpre vm₁ X₁.warmed)
  exact ⟨v, vm₁, B, X₁.warmed, X', hpost, fun target h => hstep₁ _ (by rw [doInvoke_state]; exact hsteps.trans h)⟩
variable {H : Heap} {locs : List Loc} {cells slots : Nat} {Q : State → Prop} {cc : ByteArray} {pc : Nat} {ls : Array Slot} {rest : List Value} {D : va_G} {cs : CS} {β : Type} {z : β} {nL : Nat} {own : String} {y : MethodName} {bytes : ByteArray} {maxL n idx : Nat} {ret : Option FieldType} {rm : Room} {b : Addr} {As : List Value} {st0 : List Value} {ci : Nat}
theorem xU_i {f : Option Int32} {k : Int32 → Option β} (hx : p.tables.exec = Jvm.exec) (hb : c.code = cc) (hml : c.maxLocals = nL) (hown : s.vm.findClass own = some m.cls) (hT : ∀ w ∈ gw_tbl, w.before args s = true) (hN : NW s) (hK : va_K D classes (tyz cs) s) (hP : va_P D classes [(b, .inr (ci, []))] H) (hci : ci < 12) {x : MethodName} {owner : String} (cw : CWU own idx x owner y bytes maxL ret n) (hsub : ∀ cn r0, s.vm.findClass x.cls = some cn → s.vm.findClass y.cls = some r0 → s.vm.isSubclass cn r0 = true) (hm : f.bind k = some z) (hM : ∀ r, f = some r → Met l y (Cond.code y bytes maxL ret :: gw_tbl) rm (PcR D cs [(b, .inr (ci, []))] (.ref b :: As)) (QRi r) 0 0 NoF) (h0 : rm.cells = 0 ∧ rm.slots = 0) (hr : RoomOk rm R maxL) (hls : ls.size = nL) (hn : As.length = n) (hst : st0 = As.reverse ++ .ref b :: rest) (hW : (rest.map fun v => v.category).sum ≤ 8) (hdg : decode cc pc = .ok (.invokespecial idx, 3)) (hcl : cells ≤ R.cells ∧ slots ≤ R.slots)
    (kk : ∀ r : Int32, k r = some z → W p l e R s m args below meth c H locs cells slots Q (F0 m (pc + 3) ls (.int r :: rest))) : W p l e R s m args below meth c H locs cells slots Q (F0 m pc ls st0) := by
  obtain ⟨r, hf, hm⟩ := ob_some hm
  obtain ⟨a1, a2, a3, a4, a5, a6, a7, a8, a9⟩ := cw
  obtain ⟨q, hq⟩ : ∃ q, classes[ci]? = some q := ⟨_, List.getElem?_eq_getElem hci⟩
  obtain ⟨cellB, hcB, hoB, hclB⟩ := va_recv hK hP hq (q0 := 0) rfl
  obtain ⟨-, hfc, kB, hkB, -⟩ := hK.1 ci q hq
  have hce : D.1 ci = cellB.cls := Option.some.inj (hfc.symm.trans hclB)
  rw [hce] at hkB
  have hBk : Back l R p e below s args y 3 8 (PreOf R 0 0 (PcR D cs [(b, .inr (ci, []))] (.ref b :: As))) (PostOf (QRi r) 0 0 NoF) := back_of (bytes := bytes) (maxL := maxL) (ret := ret) (hM r hf) PcR_blind h0.1 h0.2 hr.1 hr.2 (gw_pay hT a6) List.mem_cons_self (fun a' U hW => word_at hW (gw_good a5) (hT _ a5))
  refine vp_callSi (rest := rest) (post := fun r' => r' = r) (a := (Value.ref b :: As).toArray) ?_ (fun r' hr' => ?_)
  · intro T hTT X
    obtain ⟨v, vm₁, ⟨U', l2, c2, s2⟩, hW₁, X', ⟨g', mk, t, L, e1, e2, hq, h1, hL, h2, h3⟩, st⟩ := my_callSU X hx (bytes := bytes) (maxL := maxL) (ret := ret) a7 hown (hT _ a1) (hT _ a2) (hT _ a3) hsub (hT _ a4) (hT _ a6) a8 hBk (by rw [hTT]; exact hcB) hoB hkB (g := F0 m pc ls st0) rfl (hls.trans hml.symm) (argsL := As) (rest := rest) (fun sig h => by rw [h] at a9; exact hn.trans (Option.some.inj a9).symm) hst (lv_room hW) (by rw [hb]; exact hdg)
      (fun vm₁ hW₁ => ⟨hcl.1, hcl.2, pcR_at hN hK hP _ hTT hW₁⟩)
    dsimp only [Pt.U, Pt.locs, Pt.cells, Pt.slots] at X' e1 e2 h1 h2 h3 st
    subst h1; subst h2; subst h3
    exact ⟨v, (T.setVm vm₁).calling g' mk (Value.ref b :: As).toArray, t, U', L, hTT, X', hL, e1, hq, st⟩
  · subst hr'
    exact kk _ hm
theorem xO_i {f : Option Int32} {k : Int32 → Option β} (hx : p.tables.exec = Jvm.exec) (hb : c.code = cc) (hml : c.maxLocals = nL) (hown : s.vm.findClass own = some m.cls) (hT : ∀ w ∈ gw_tbl, w.before args s = true) (hN : NW s) (hK : va_K D classes (tyz cs) s) (hP : va_P D classes [(b, .inr (ci, []))] H) {q : vw_C} (hq : classes[ci]? = some q) {x : MethodName} (cw : CWO own idx q.1 x y bytes maxL ret n) (hm : f.bind k = some z) (hM : ∀ r, f = some r → Met l y (Cond.code y bytes maxL ret :: gw_tbl) rm (PcR D cs [(b, .inr (ci, []))] (.ref b :: As)) (QRi r) 0 0 NoF) (h0 : rm.cells = 0 ∧ rm.slots = 0) (hr : RoomOk rm R maxL) (hls : ls.size = nL) (hn : As.length = n) (hst : st0 = As.reverse ++ .ref b :: rest) (hW : (rest.map fun v => v.category).sum ≤ 8) (hdg : decode cc pc = .ok (.invokevirtual idx, 3)) (hcl : cells ≤ R.cells ∧ slots ≤ R.slots)
    (kk : ∀ r : Int32, k r = some z → W p l e R s m args below meth c H locs cells slots Q (F0 m (pc + 3) ls (.int r :: rest))) : W p l e R s m args below meth c H locs cells slots Q (F0 m pc ls st0) := by
  obtain ⟨r, hf, hm⟩ := ob_some hm
  obtain ⟨a1, a2, a3, a4, a5, a6, a7, ⟨b0, m0, r0, a8⟩, a9, a10, a11⟩ := cw
  have cu : va_CU R s args own q.1 x.cls idx x y bytes maxL ret (Cond.code y bytes maxL ret :: gw_tbl) rm 0 0 n := by
    refine ⟨⟨h0.1, h0.2, hr.1, hr.2, gw_pay hT a6, List.mem_cons_self⟩, hT _ a6, hT _ a5, ⟨a9, a10⟩, fun sig h => ?_, hT _ a1, hT _ a2, va_Decl.of (hT _ a7) (hT _ a8), hT _ a3, hT _ a4⟩
    rw [h] at a11
    exact (Option.some.inj a11).symm
  refine vp_callSi (run_drop (va_runU (n := n) (b := b) (As := As) (rest := rest) ⟨hx, hb, hml, hown, hT⟩ (hM r hf) cu ⟨PcR_blind, va_recv hK hP hq (q0 := 0) rfl, pcR_at hN hK hP⟩ rfl hn hls hst (lv_room hW) hdg hcl)) (fun r' hr' => ?_)
  subst hr'
  exact kk _ hm
end KU
def adq {β : Type} (n : Nat) (i : Int32) (k : Nat → Option β) : Option β := if i < 0 ∨ n ≤ i.toNatClampNeg then none else k i.toNatClampNeg
abbrev QRa (ad : Nat → Nat) (z : Nat) := va_Sr (fun k => k < 6 ∧ k = z) (fun k => Value.ref (ad (2 + k)))
section KV
variable {p : Program} {l : Launch} {e : Env} {R : Room} {s : State} {m : MethodId} {args : Array Value} {below : List Frame} {meth : Method} {c : Code} {H : Heap} {locs : List Loc} {cells slots : Nat} {Q : State → Prop} {cc : ByteArray} {pc : Nat} {ls : Array Slot} {rest : List Value} {D : va_G} {cs : CS} {ws : va_W} {β : Type} {z : β} {ad : Nat → Nat}
theorem x_aald (hx : p.tables.exec = Jvm.exec) (hb : c.code = cc) (hK : va_K D classes (tyz cs) s) (hP : va_P D classes ws H) {a : Nat} (q0 : Nat) (ha : ws[q0]? = some (a, .inl (cs 2, 6, .inr (.inr (.inr (.inr (fun k => some (ad (2 + k))))))))) {i : Int32} {k : Nat → Option β} (hm : adq 6 i k = some z) (hdg : decode cc pc = .ok (.aaload, 1))
    (kk : ∀ j : Nat, j < 6 → k j = some z → W p l e R s m args below meth c H locs cells slots Q (F0 m (pc + 1) ls (.ref (ad (2 + j)) :: rest))) : W p l e R s m args below meth c H locs cells slots Q (F0 m pc ls (.int i :: .ref a :: rest)) := by
  unfold adq at hm
  by_cases hc : i < 0 ∨ 6 ≤ i.toNatClampNeg
  · rw [if_pos hc] at hm; cases hm
  · rw [if_neg hc] at hm
    exact va_aldq hx hb hK hP q0 2 ha rfl hc hdg (kk _ (by omega) hm)
theorem x_aretR {v z : Nat} {N : String} (hx : p.tables.exec = Jvm.exec) (hb : c.code = cc) (hr : meth.sig.returnType = some (.object N)) (hlk : meth.locks = false) (hv : v < 6) (hm : some v = some z) (hdg : decode cc pc = .ok (.areturn, 1)) : W p l e R s m args below meth c s.heap [] 0 0 (MQ below (QRa ad z) args s 0 0 NoF) (F0 m pc ls [.ref (ad (2 + v))]) :=
  W.aret hx hb hr (Or.inl ⟨N, rfl⟩) (Or.inr ⟨_, rfl⟩) (fun t ht _ => ⟨v, rfl, ⟨hv, Option.some.inj hm⟩, ht⟩) (fun _ h => nomatch h) hdg hlk
variable {y : MethodName} {bytes : ByteArray} {maxL n idx nL : Nat} {ret : Option FieldType} {rm : Room} {own C : String} {b : Addr} {As : List Value} {wc : va_W} {st0 : List Value}
theorem xV_a {f : Option Nat} {k : Nat → Option β} (hx : p.tables.exec = Jvm.exec) (hb : c.code = cc) (hml : c.maxLocals = nL) (hown : s.vm.findClass own = some m.cls) (hT : ∀ w ∈ gw_tbl, w.before args s = true) (hN : NW s) (hK : va_K D classes (tyz cs) s) (hP : va_P D classes wc H) (cw : CWV own idx C y bytes maxL ret n) (hm : f.bind k = some z) (hM : ∀ r, f = some r → Met l y (Cond.code y bytes maxL ret :: gw_tbl) rm (PcR D cs wc (.ref b :: As)) (QRa ad r) 0 0 NoF) (h0 : rm.cells = 0 ∧ rm.slots = 0) (hr : RoomOk rm R maxL) (q0 : Nat) {ci : Nat} {q : vw_C} {fs : List Value} (hc : classes[ci]? = some q) (he : wc[q0]? = some (b, .inr (ci, fs))) (hC : q.1 = C) (hls : ls.size = nL) (hn : As.length = n) (hst : st0 = As.reverse ++ .ref b :: rest) (hW : (rest.map fun v => v.category).sum ≤ 8) (hdg : decode cc pc = .ok (.invokevirtual idx, 3)) (hcl : cells ≤ R.cells ∧ slots ≤ R.slots)
    (kk : ∀ r : Nat, r < 6 → k r = some z → W p l e R s m args below meth c H locs cells slots Q (F0 m (pc + 3) ls (.ref (ad (2 + r)) :: rest))) : W p l e R s m args below meth c H locs cells slots Q (F0 m pc ls st0) := by
  obtain ⟨r, hf, hm⟩ := ob_some hm
  refine va_csr (run_drop (va_runV (n := n) (b := b) (As := As) (rest := rest) ⟨hx, hb, hml, hown, hT⟩ (hM r hf) (CWV.mk hT cw h0.1 h0.2 hr) ⟨PcR_blind, (by rw [← hC]; exact va_recv hK hP hc he), pcR_at hN hK hP⟩ rfl hn hls hst (lv_room hW) hdg hcl)) (fun r' hr' => ?_)
  obtain ⟨h6, rfl⟩ := hr'
  exact kk _ h6 hm
end KV
theorem cwu_X1_7 : CWU RX1 7 ⟨"DoeRoe$Plain", "allows", "(III)Z"⟩ RX6 yX6_allows cX6_allows 4 (some .boolean) 3 := ⟨tw_495, tw_491, tw_48, tw_489, tw_2, tw_508, rfl, by decide, by decide +kernel⟩
theorem cwu_X1_11 : CWU RX1 11 ⟨"DoeRoe$Plain", "cost", "(II)I"⟩ RX6 yX6_cost cX6_cost 3 (some .int) 2 := ⟨tw_524, tw_520, tw_48, tw_518, tw_2, tw_535, rfl, by decide, by decide +kernel⟩
theorem cwu_X2_7 : CWU RX2 7 ⟨"DoeRoe$Plain", "allows", "(III)Z"⟩ RX6 yX6_allows cX6_allows 4 (some .boolean) 3 := ⟨tw_499, tw_491, tw_62, tw_489, tw_2, tw_508, rfl, by decide, by decide +kernel⟩
theorem cwu_X5_7 : CWU RX5 7 ⟨"DoeRoe$Plain", "cost", "(II)I"⟩ RX6 yX6_cost cX6_cost 3 (some .int) 2 := ⟨tw_529, tw_520, tw_41, tw_518, tw_2, tw_535, rfl, by decide, by decide +kernel⟩
theorem cwu_X8_7 : CWU RX8 7 ⟨"DoeRoe$Force", "cost", "(II)I"⟩ RX1 yX1_cost cX1_cost 3 (some .int) 2 := ⟨tw_533, tw_1200, tw_69, tw_522, tw_4, tw_523, rfl, by decide, by decide +kernel⟩
theorem cwu_X9_7 : CWU RX9 7 ⟨"DoeRoe$Persons", "allows", "(III)Z"⟩ RX6 yX6_allows cX6_allows 4 (some .boolean) 3 := ⟨tw_505, tw_506, tw_55, tw_489, tw_2, tw_508, rfl, by decide, by decide +kernel⟩
theorem hsub_X1 {s : State} {args : Array Value} {y : MethodName} (_ : ∀ w ∈ gw_tbl, w.before args s = true) : ∀ cn r0, s.vm.findClass y.cls = some cn → s.vm.findClass y.cls = some r0 → s.vm.isSubclass cn r0 = true := fun _ _ h1 h2 => sub_refl h1 h2
theorem hsub_X2 {s : State} {args : Array Value} {y : MethodName} (_ : ∀ w ∈ gw_tbl, w.before args s = true) : ∀ cn r0, s.vm.findClass y.cls = some cn → s.vm.findClass y.cls = some r0 → s.vm.isSubclass cn r0 = true := fun _ _ h1 h2 => sub_refl h1 h2
theorem hsub_X5 {s : State} {args : Array Value} {y : MethodName} (_ : ∀ w ∈ gw_tbl, w.before args s = true) : ∀ cn r0, s.vm.findClass y.cls = some cn → s.vm.findClass y.cls = some r0 → s.vm.isSubclass cn r0 = true := fun _ _ h1 h2 => sub_refl h1 h2
theorem hsub_X8 {s : State} {args : Array Value} {y : MethodName} (_ : ∀ w ∈ gw_tbl, w.before args s = true) : ∀ cn r0, s.vm.findClass y.cls = some cn → s.vm.findClass y.cls = some r0 → s.vm.isSubclass cn r0 = true := fun _ _ h1 h2 => sub_refl h1 h2
theorem hsub_X9 {s : State} {args : Array Value} (hT : ∀ w ∈ gw_tbl, w.before args s = true) : ∀ cn r0, s.vm.findClass "DoeRoe$Persons" = some cn → s.vm.findClass yX6_allows.cls = some r0 → s.vm.isSubclass cn r0 = true := fun _ _ h1 h2 => sub_step (hT _ tw_41) h1 h2
noncomputable def mX6_allows (a1 : Int32) (a2 : Int32) (a3 : Int32) : Option Int32 := (if a2 = a1 then zo (nI 1) (some (nI 1)) else zo (nI 0) (some (nI 0)))
set_option maxHeartbeats 4000000 in
set_option maxRecDepth 100000 in
theorem tcX6_allows (l : Launch) (D : va_G) (cs : CS) (ho ci : Nat) (hci : ci < 12) (a1 : Int32) (a2 : Int32) (a3 : Int32) (z : Int32) (hm : mX6_allows a1 a2 a3 = some z) : Met l yX6_allows (Cond.code yX6_allows cX6_allows 4 (some .boolean) :: gw_tbl) ({ frames := 0, cells := 0, slots := 0, locals := 0 }) (PcR D cs ([(ho, .inr (ci, []))]) [.ref ho, .int a1, .int a2, .int a3]) (QRi z) 0 0 NoF := by
  refine met_R rfl (Nat.le_of_ble_eq_true rfl) (fun p e s m below meth c E hP ls hl => ?_)
  obtain ⟨hx, hb, hr, hml, hown, hlk, hT, hN, hK⟩ := id E
  have hl : lv_has ls 4 [(0, .ref ho), (1, .int a1), (2, .int a2), (3, .int a3)] := hl
  unfold mX6_allows at hm
  refine lv_iload_n hx hb dX6_allows_0 rfl (lv_at hl 2 rfl) ?_
  refine lv_iload_n hx hb dX6_allows_1 rfl (lv_at hl 1 rfl) ?_
  refine x_icmp_ne (tgt := 9) hx hb dX6_allows_2 (by decide) hm (fun hm => ?_) (fun hm => ?_)
  · refine lv_iconst (v := (nI 0)) hx hb dX6_allows_9 (by decide) ?_
    exact x_zretR hx hb hr hlk hm dX6_allows_10
  · refine lv_iconst (v := (nI 1)) hx hb dX6_allows_5 (by decide) ?_
    refine lv_goto (tgt := 10) hx hb dX6_allows_6 (by decide) ?_
    exact x_zretR hx hb hr hlk hm dX6_allows_10
noncomputable def mX6_cost (a1 : Int32) (a2 : Int32) : Option Int32 := some a1
set_option maxHeartbeats 4000000 in
set_option maxRecDepth 100000 in
theorem tcX6_cost (l : Launch) (D : va_G) (cs : CS) (ho ci : Nat) (hci : ci < 12) (a1 : Int32) (a2 : Int32) (z : Int32) (hm : mX6_cost a1 a2 = some z) : Met l yX6_cost (Cond.code yX6_cost cX6_cost 3 (some .int) :: gw_tbl) ({ frames := 0, cells := 0, slots := 0, locals := 0 }) (PcR D cs ([(ho, .inr (ci, []))]) [.ref ho, .int a1, .int a2]) (QRi z) 0 0 NoF := by
  refine met_R rfl (Nat.le_of_ble_eq_true rfl) (fun p e s m below meth c E hP ls hl => ?_)
  obtain ⟨hx, hb, hr, hml, hown, hlk, hT, hN, hK⟩ := id E
  have hl : lv_has ls 3 [(0, .ref ho), (1, .int a1), (2, .int a2)] := hl
  unfold mX6_cost at hm
  refine lv_iload_n hx hb dX6_cost_0 rfl (lv_at hl 1 rfl) ?_
  exact x_iretR hx hb hr hlk hm dX6_cost_1
noncomputable def mX6_losesWith (a1 : Int32) : Option Int32 := zo (nI 0) (some (nI 0))
set_option maxHeartbeats 4000000 in
set_option maxRecDepth 100000 in
theorem tcX6_losesWith (l : Launch) (D : va_G) (cs : CS) (ho ci : Nat) (hci : ci < 12) (a1 : Int32) (z : Int32) (hm : mX6_losesWith a1 = some z) : Met l yX6_losesWith (Cond.code yX6_losesWith cX6_losesWith 2 (some .boolean) :: gw_tbl) ({ frames := 0, cells := 0, slots := 0, locals := 0 }) (PcR D cs ([(ho, .inr (ci, []))]) [.ref ho, .int a1]) (QRi z) 0 0 NoF := by
  refine met_R rfl (Nat.le_of_ble_eq_true rfl) (fun p e s m below meth c E hP ls hl => ?_)
  obtain ⟨hx, hb, hr, hml, hown, hlk, hT, hN, hK⟩ := id E
  have hl : lv_has ls 2 [(0, .ref ho), (1, .int a1)] := hl
  unfold mX6_losesWith at hm
  refine lv_iconst (v := (nI 0)) hx hb dX6_losesWith_0 (by decide) ?_
  exact x_zretR hx hb hr hlk hm dX6_losesWith_1
noncomputable def mX5_cost (a1 : Int32) (a2 : Int32) : Option Int32 := (mX6_cost a1 a2).bind fun r1 => (if a2 < (nI 2) then some r1 else some ((r1 + (nI 1)) / (nI 2)))
set_option maxHeartbeats 4000000 in
set_option maxRecDepth 100000 in
theorem tcX5_cost (l : Launch) (D : va_G) (cs : CS) (ho ci : Nat) (hci : ci < 12) (a1 : Int32) (a2 : Int32) (z : Int32) (hm : mX5_cost a1 a2 = some z) : Met l yX5_cost (Cond.code yX5_cost cX5_cost 4 (some .int) :: gw_tbl) ({ frames := 1, cells := 0, slots := 0, locals := 22 }) (PcR D cs ([(ho, .inr (ci, []))]) [.ref ho, .int a1, .int a2]) (QRi z) 0 0 NoF := by
  refine met_R rfl (Nat.le_of_ble_eq_true rfl) (fun p e s m below meth c E hP ls hl => ?_)
  obtain ⟨hx, hb, hr, hml, hown, hlk, hT, hN, hK⟩ := id E
  have hl : lv_has ls 4 [(0, .ref ho), (1, .int a1), (2, .int a2)] := hl
  unfold mX5_cost at hm
  refine lv_aload_n hx hb dX5_cost_0 rfl (lv_at hl 0 rfl) ?_
  refine lv_iload_n hx hb dX5_cost_1 rfl (lv_at hl 1 rfl) ?_
  refine lv_iload_n hx hb dX5_cost_2 rfl (lv_at hl 2 rfl) ?_
  refine xU_i (As := [.int a1, .int a2]) (rest := []) hx hb hml hown hT hN hK hP hci cwu_X5_7 (hsub_X5 hT) hm (fun z h => tcX6_cost l D cs ho ci hci a1 a2 z h) ⟨rfl, rfl⟩ ⟨by decide, by decide⟩ hl.1 rfl rfl (Nat.le_of_ble_eq_true rfl) dX5_cost_3 ⟨Nat.zero_le _, Nat.zero_le _⟩ (fun r1 hm => ?_)
  refine lv_istore_n (lv' := [(3, .int r1), (0, .ref ho), (1, .int a1), (2, .int a2)]) hx hb dX5_cost_6 rfl hl (by decide) rfl (fun ls hl => ?_)
  refine lv_iload_n hx hb dX5_cost_7 rfl (lv_at hl 3 rfl) ?_
  refine lv_iconst (v := (nI 2)) hx hb dX5_cost_8 (by decide) ?_
  refine x_icmp_lt (tgt := 20) hx hb dX5_cost_9 (by decide) hm (fun hm => ?_) (fun hm => ?_)
  · refine lv_iload_n hx hb dX5_cost_20 rfl (lv_at hl 0 rfl) ?_
    exact x_iretR hx hb hr hlk hm dX5_cost_21
  · refine lv_iload_n hx hb dX5_cost_12 rfl (lv_at hl 0 rfl) ?_
    refine lv_iconst (v := (nI 1)) hx hb dX5_cost_13 (by decide) ?_
    refine lv_iadd hx hb dX5_cost_14 ?_
    refine lv_iconst (v := (nI 2)) hx hb dX5_cost_15 (by decide) ?_
    refine lv_idiv hx hb dX5_cost_16 (by decide) ?_
    refine lv_goto (tgt := 21) hx hb dX5_cost_17 (by decide) ?_
    exact x_iretR hx hb hr hlk hm dX5_cost_21
noncomputable def mX5_losesWith (a1 : Int32) : Option Int32 := (if a1 < (nI 2) then zo (nI 0) (some (nI 0)) else zo (nI 1) (some (nI 1)))
set_option maxHeartbeats 4000000 in
set_option maxRecDepth 100000 in
theorem tcX5_losesWith (l : Launch) (D : va_G) (cs : CS) (ho ci : Nat) (hci : ci < 12) (a1 : Int32) (z : Int32) (hm : mX5_losesWith a1 = some z) : Met l yX5_losesWith (Cond.code yX5_losesWith cX5_losesWith 2 (some .boolean) :: gw_tbl) ({ frames := 0, cells := 0, slots := 0, locals := 0 }) (PcR D cs ([(ho, .inr (ci, []))]) [.ref ho, .int a1]) (QRi z) 0 0 NoF := by
  refine met_R rfl (Nat.le_of_ble_eq_true rfl) (fun p e s m below meth c E hP ls hl => ?_)
  obtain ⟨hx, hb, hr, hml, hown, hlk, hT, hN, hK⟩ := id E
  have hl : lv_has ls 2 [(0, .ref ho), (1, .int a1)] := hl
  unfold mX5_losesWith at hm
  refine lv_iload_n hx hb dX5_losesWith_0 rfl (lv_at hl 1 rfl) ?_
  refine lv_iconst (v := (nI 2)) hx hb dX5_losesWith_1 (by decide) ?_
  refine x_icmp_lt (tgt := 9) hx hb dX5_losesWith_2 (by decide) hm (fun hm => ?_) (fun hm => ?_)
  · refine lv_iconst (v := (nI 0)) hx hb dX5_losesWith_9 (by decide) ?_
    exact x_zretR hx hb hr hlk hm dX5_losesWith_10
  · refine lv_iconst (v := (nI 1)) hx hb dX5_losesWith_5 (by decide) ?_
    refine lv_goto (tgt := 10) hx hb dX5_losesWith_6 (by decide) ?_
    exact x_zretR hx hb hr hlk hm dX5_losesWith_10
noncomputable def mX1_allows (a1 : Int32) (a2 : Int32) (a3 : Int32) : Option Int32 := (if a3 = 0 then zo (nI 1) (some (nI 1)) else (mX6_allows a1 a2 a3).bind fun r1 => (if r1 = 0 then zo (nI 0) (some (nI 0)) else zo (nI 1) (some (nI 1))))
set_option maxHeartbeats 4000000 in
set_option maxRecDepth 100000 in
theorem tcX1_allows (l : Launch) (D : va_G) (cs : CS) (ho ci : Nat) (hci : ci < 12) (a1 : Int32) (a2 : Int32) (a3 : Int32) (z : Int32) (hm : mX1_allows a1 a2 a3 = some z) : Met l yX1_allows (Cond.code yX1_allows cX1_allows 4 (some .boolean) :: gw_tbl) ({ frames := 1, cells := 0, slots := 0, locals := 23 }) (PcR D cs ([(ho, .inr (ci, []))]) [.ref ho, .int a1, .int a2, .int a3]) (QRi z) 0 0 NoF := by
  refine met_R rfl (Nat.le_of_ble_eq_true rfl) (fun p e s m below meth c E hP ls hl => ?_)
  obtain ⟨hx, hb, hr, hml, hown, hlk, hT, hN, hK⟩ := id E
  have hl : lv_has ls 4 [(0, .ref ho), (1, .int a1), (2, .int a2), (3, .int a3)] := hl
  unfold mX1_allows at hm
  refine lv_iload_n hx hb dX1_allows_0 rfl (lv_at hl 3 rfl) ?_
  refine x_if_eq (tgt := 14) hx hb dX1_allows_1 (by decide) hm (fun hm => ?_) (fun hm => ?_)
  · refine lv_iconst (v := (nI 1)) hx hb dX1_allows_14 (by decide) ?_
    refine lv_goto (tgt := 19) hx hb dX1_allows_15 (by decide) ?_
    exact x_zretR hx hb hr hlk hm dX1_allows_19
  · refine lv_aload_n hx hb dX1_allows_4 rfl (lv_at hl 0 rfl) ?_
    refine lv_iload_n hx hb dX1_allows_5 rfl (lv_at hl 1 rfl) ?_
    refine lv_iload_n hx hb dX1_allows_6 rfl (lv_at hl 2 rfl) ?_
    refine lv_iload_n hx hb dX1_allows_7 rfl (lv_at hl 3 rfl) ?_
    refine xU_i (As := [.int a1, .int a2, .int a3]) (rest := []) hx hb hml hown hT hN hK hP hci cwu_X1_7 (hsub_X1 hT) hm (fun z h => tcX6_allows l D cs ho ci hci a1 a2 a3 z h) ⟨rfl, rfl⟩ ⟨by decide, by decide⟩ hl.1 rfl rfl (Nat.le_of_ble_eq_true rfl) dX1_allows_8 ⟨Nat.zero_le _, Nat.zero_le _⟩ (fun r1 hm => ?_)
    refine x_if_eq (tgt := 18) hx hb dX1_allows_11 (by decide) hm (fun hm => ?_) (fun hm => ?_)
    · refine lv_iconst (v := (nI 0)) hx hb dX1_allows_18 (by decide) ?_
      exact x_zretR hx hb hr hlk hm dX1_allows_19
    · refine lv_iconst (v := (nI 1)) hx hb dX1_allows_14 (by decide) ?_
      refine lv_goto (tgt := 19) hx hb dX1_allows_15 (by decide) ?_
      exact x_zretR hx hb hr hlk hm dX1_allows_19
noncomputable def mX1_cost (a1 : Int32) (a2 : Int32) : Option Int32 := (mX6_cost a1 a2).bind fun r1 => some (r1 + (nI 2))
set_option maxHeartbeats 4000000 in
set_option maxRecDepth 100000 in
theorem tcX1_cost (l : Launch) (D : va_G) (cs : CS) (ho ci : Nat) (hci : ci < 12) (a1 : Int32) (a2 : Int32) (z : Int32) (hm : mX1_cost a1 a2 = some z) : Met l yX1_cost (Cond.code yX1_cost cX1_cost 3 (some .int) :: gw_tbl) ({ frames := 1, cells := 0, slots := 0, locals := 22 }) (PcR D cs ([(ho, .inr (ci, []))]) [.ref ho, .int a1, .int a2]) (QRi z) 0 0 NoF := by
  refine met_R rfl (Nat.le_of_ble_eq_true rfl) (fun p e s m below meth c E hP ls hl => ?_)
  obtain ⟨hx, hb, hr, hml, hown, hlk, hT, hN, hK⟩ := id E
  have hl : lv_has ls 3 [(0, .ref ho), (1, .int a1), (2, .int a2)] := hl
  unfold mX1_cost at hm
  refine lv_aload_n hx hb dX1_cost_0 rfl (lv_at hl 0 rfl) ?_
  refine lv_iload_n hx hb dX1_cost_1 rfl (lv_at hl 1 rfl) ?_
  refine lv_iload_n hx hb dX1_cost_2 rfl (lv_at hl 2 rfl) ?_
  refine xU_i (As := [.int a1, .int a2]) (rest := []) hx hb hml hown hT hN hK hP hci cwu_X1_11 (hsub_X1 hT) hm (fun z h => tcX6_cost l D cs ho ci hci a1 a2 z h) ⟨rfl, rfl⟩ ⟨by decide, by decide⟩ hl.1 rfl rfl (Nat.le_of_ble_eq_true rfl) dX1_cost_3 ⟨Nat.zero_le _, Nat.zero_le _⟩ (fun r1 hm => ?_)
  refine lv_iconst (v := (nI 2)) hx hb dX1_cost_6 (by decide) ?_
  refine lv_iadd hx hb dX1_cost_7 ?_
  exact x_iretR hx hb hr hlk hm dX1_cost_8
noncomputable def mX9_allows (a1 : Int32) (a2 : Int32) (a3 : Int32) : Option Int32 := (if (a3 &&& (nI 1)) = (nI 1) then (mX6_allows a1 a2 a3).bind fun r1 => (if r1 = 0 then zo (nI 0) (some (nI 0)) else zo (nI 1) (some (nI 1))) else zo (nI 0) (some (nI 0)))
set_option maxHeartbeats 4000000 in
set_option maxRecDepth 100000 in
theorem tcX9_allows (l : Launch) (D : va_G) (cs : CS) (ho ci : Nat) (hci : ci < 12) (a1 : Int32) (a2 : Int32) (a3 : Int32) (z : Int32) (hm : mX9_allows a1 a2 a3 = some z) : Met l yX9_allows (Cond.code yX9_allows cX9_allows 4 (some .boolean) :: gw_tbl) ({ frames := 1, cells := 0, slots := 0, locals := 23 }) (PcR D cs ([(ho, .inr (ci, []))]) [.ref ho, .int a1, .int a2, .int a3]) (QRi z) 0 0 NoF := by
  refine met_R rfl (Nat.le_of_ble_eq_true rfl) (fun p e s m below meth c E hP ls hl => ?_)
  obtain ⟨hx, hb, hr, hml, hown, hlk, hT, hN, hK⟩ := id E
  have hl : lv_has ls 4 [(0, .ref ho), (1, .int a1), (2, .int a2), (3, .int a3)] := hl
  unfold mX9_allows at hm
  refine lv_iload_n hx hb dX9_allows_0 rfl (lv_at hl 3 rfl) ?_
  refine lv_iconst (v := (nI 1)) hx hb dX9_allows_1 (by decide) ?_
  refine lv_iand hx hb dX9_allows_2 ?_
  refine lv_iconst (v := (nI 1)) hx hb dX9_allows_3 (by decide) ?_
  refine x_icmp_ne (tgt := 21) hx hb dX9_allows_4 (by decide) hm (fun hm => ?_) (fun hm => ?_)
  · refine lv_iconst (v := (nI 0)) hx hb dX9_allows_21 (by decide) ?_
    exact x_zretR hx hb hr hlk hm dX9_allows_22
  · refine lv_aload_n hx hb dX9_allows_7 rfl (lv_at hl 0 rfl) ?_
    refine lv_iload_n hx hb dX9_allows_8 rfl (lv_at hl 1 rfl) ?_
    refine lv_iload_n hx hb dX9_allows_9 rfl (lv_at hl 2 rfl) ?_
    refine lv_iload_n hx hb dX9_allows_10 rfl (lv_at hl 3 rfl) ?_
    refine xU_i (As := [.int a1, .int a2, .int a3]) (rest := []) hx hb hml hown hT hN hK hP hci cwu_X9_7 (hsub_X9 hT) hm (fun z h => tcX6_allows l D cs ho ci hci a1 a2 a3 z h) ⟨rfl, rfl⟩ ⟨by decide, by decide⟩ hl.1 rfl rfl (Nat.le_of_ble_eq_true rfl) dX9_allows_11 ⟨Nat.zero_le _, Nat.zero_le _⟩ (fun r1 hm => ?_)
    refine x_if_eq (tgt := 21) hx hb dX9_allows_14 (by decide) hm (fun hm => ?_) (fun hm => ?_)
    · refine lv_iconst (v := (nI 0)) hx hb dX9_allows_21 (by decide) ?_
      exact x_zretR hx hb hr hlk hm dX9_allows_22
    · refine lv_iconst (v := (nI 1)) hx hb dX9_allows_17 (by decide) ?_
      refine lv_goto (tgt := 22) hx hb dX9_allows_18 (by decide) ?_
      exact x_zretR hx hb hr hlk hm dX9_allows_22
noncomputable def mX9_losesWith (a1 : Int32) : Option Int32 := (if a1 < (nI 1) then zo (nI 0) (some (nI 0)) else zo (nI 1) (some (nI 1)))
set_option maxHeartbeats 4000000 in
set_option maxRecDepth 100000 in
theorem tcX9_losesWith (l : Launch) (D : va_G) (cs : CS) (ho ci : Nat) (hci : ci < 12) (a1 : Int32) (z : Int32) (hm : mX9_losesWith a1 = some z) : Met l yX9_losesWith (Cond.code yX9_losesWith cX9_losesWith 2 (some .boolean) :: gw_tbl) ({ frames := 0, cells := 0, slots := 0, locals := 0 }) (PcR D cs ([(ho, .inr (ci, []))]) [.ref ho, .int a1]) (QRi z) 0 0 NoF := by
  refine met_R rfl (Nat.le_of_ble_eq_true rfl) (fun p e s m below meth c E hP ls hl => ?_)
  obtain ⟨hx, hb, hr, hml, hown, hlk, hT, hN, hK⟩ := id E
  have hl : lv_has ls 2 [(0, .ref ho), (1, .int a1)] := hl
  unfold mX9_losesWith at hm
  refine lv_iload_n hx hb dX9_losesWith_0 rfl (lv_at hl 1 rfl) ?_
  refine lv_iconst (v := (nI 1)) hx hb dX9_losesWith_1 (by decide) ?_
  refine x_icmp_lt (tgt := 9) hx hb dX9_losesWith_2 (by decide) hm (fun hm => ?_) (fun hm => ?_)
  · refine lv_iconst (v := (nI 0)) hx hb dX9_losesWith_9 (by decide) ?_
    exact x_zretR hx hb hr hlk hm dX9_losesWith_10
  · refine lv_iconst (v := (nI 1)) hx hb dX9_losesWith_5 (by decide) ?_
    refine lv_goto (tgt := 10) hx hb dX9_losesWith_6 (by decide) ?_
    exact x_zretR hx hb hr hlk hm dX9_losesWith_10
noncomputable def mX2_allows (a1 : Int32) (a2 : Int32) (a3 : Int32) : Option Int32 := (if (nI 1) ≤ a2 then zo (nI 1) (some (nI 1)) else (mX6_allows a1 a2 a3).bind fun r1 => (if r1 = 0 then zo (nI 0) (some (nI 0)) else zo (nI 1) (some (nI 1))))
set_option maxHeartbeats 4000000 in
set_option maxRecDepth 100000 in
theorem tcX2_allows (l : Launch) (D : va_G) (cs : CS) (ho ci : Nat) (hci : ci < 12) (a1 : Int32) (a2 : Int32) (a3 : Int32) (z : Int32) (hm : mX2_allows a1 a2 a3 = some z) : Met l yX2_allows (Cond.code yX2_allows cX2_allows 4 (some .boolean) :: gw_tbl) ({ frames := 1, cells := 0, slots := 0, locals := 23 }) (PcR D cs ([(ho, .inr (ci, []))]) [.ref ho, .int a1, .int a2, .int a3]) (QRi z) 0 0 NoF := by
  refine met_R rfl (Nat.le_of_ble_eq_true rfl) (fun p e s m below meth c E hP ls hl => ?_)
  obtain ⟨hx, hb, hr, hml, hown, hlk, hT, hN, hK⟩ := id E
  have hl : lv_has ls 4 [(0, .ref ho), (1, .int a1), (2, .int a2), (3, .int a3)] := hl
  unfold mX2_allows at hm
  refine lv_iload_n hx hb dX2_allows_0 rfl (lv_at hl 2 rfl) ?_
  refine lv_iconst (v := (nI 1)) hx hb dX2_allows_1 (by decide) ?_
  refine x_icmp_ge (tgt := 15) hx hb dX2_allows_2 (by decide) hm (fun hm => ?_) (fun hm => ?_)
  · refine lv_iconst (v := (nI 1)) hx hb dX2_allows_15 (by decide) ?_
    refine lv_goto (tgt := 20) hx hb dX2_allows_16 (by decide) ?_
    exact x_zretR hx hb hr hlk hm dX2_allows_20
  · refine lv_aload_n hx hb dX2_allows_5 rfl (lv_at hl 0 rfl) ?_
    refine lv_iload_n hx hb dX2_allows_6 rfl (lv_at hl 1 rfl) ?_
    refine lv_iload_n hx hb dX2_allows_7 rfl (lv_at hl 2 rfl) ?_
    refine lv_iload_n hx hb dX2_allows_8 rfl (lv_at hl 3 rfl) ?_
    refine xU_i (As := [.int a1, .int a2, .int a3]) (rest := []) hx hb hml hown hT hN hK hP hci cwu_X2_7 (hsub_X2 hT) hm (fun z h => tcX6_allows l D cs ho ci hci a1 a2 a3 z h) ⟨rfl, rfl⟩ ⟨by decide, by decide⟩ hl.1 rfl rfl (Nat.le_of_ble_eq_true rfl) dX2_allows_9 ⟨Nat.zero_le _, Nat.zero_le _⟩ (fun r1 hm => ?_)
    refine x_if_eq (tgt := 19) hx hb dX2_allows_12 (by decide) hm (fun hm => ?_) (fun hm => ?_)
    · refine lv_iconst (v := (nI 0)) hx hb dX2_allows_19 (by decide) ?_
      exact x_zretR hx hb hr hlk hm dX2_allows_20
    · refine lv_iconst (v := (nI 1)) hx hb dX2_allows_15 (by decide) ?_
      refine lv_goto (tgt := 20) hx hb dX2_allows_16 (by decide) ?_
      exact x_zretR hx hb hr hlk hm dX2_allows_20
noncomputable def mX8_cost (a1 : Int32) (a2 : Int32) : Option Int32 := (mX1_cost a1 a2).bind fun r1 => some (r1 + a2)
set_option maxHeartbeats 4000000 in
set_option maxRecDepth 100000 in
theorem tcX8_cost (l : Launch) (D : va_G) (cs : CS) (ho ci : Nat) (hci : ci < 12) (a1 : Int32) (a2 : Int32) (z : Int32) (hm : mX8_cost a1 a2 = some z) : Met l yX8_cost (Cond.code yX8_cost cX8_cost 3 (some .int) :: gw_tbl) ({ frames := 2, cells := 0, slots := 0, locals := 44 }) (PcR D cs ([(ho, .inr (ci, []))]) [.ref ho, .int a1, .int a2]) (QRi z) 0 0 NoF := by
  refine met_R rfl (Nat.le_of_ble_eq_true rfl) (fun p e s m below meth c E hP ls hl => ?_)
  obtain ⟨hx, hb, hr, hml, hown, hlk, hT, hN, hK⟩ := id E
  have hl : lv_has ls 3 [(0, .ref ho), (1, .int a1), (2, .int a2)] := hl
  unfold mX8_cost at hm
  refine lv_aload_n hx hb dX8_cost_0 rfl (lv_at hl 0 rfl) ?_
  refine lv_iload_n hx hb dX8_cost_1 rfl (lv_at hl 1 rfl) ?_
  refine lv_iload_n hx hb dX8_cost_2 rfl (lv_at hl 2 rfl) ?_
  refine xU_i (As := [.int a1, .int a2]) (rest := []) hx hb hml hown hT hN hK hP hci cwu_X8_7 (hsub_X8 hT) hm (fun z h => tcX1_cost l D cs ho ci hci a1 a2 z h) ⟨rfl, rfl⟩ ⟨by decide, by decide⟩ hl.1 rfl rfl (Nat.le_of_ble_eq_true rfl) dX8_cost_3 ⟨Nat.zero_le _, Nat.zero_le _⟩ (fun r1 hm => ?_)
  refine lv_iload_n hx hb dX8_cost_6 rfl (lv_at hl 2 rfl) ?_
  refine lv_iadd hx hb dX8_cost_7 ?_
  exact x_iretR hx hb hr hlk hm dX8_cost_8
noncomputable def mX8_losesWith (a1 : Int32) : Option Int32 := (if a1 < (nI 3) then zo (nI 0) (some (nI 0)) else zo (nI 1) (some (nI 1)))
set_option maxHeartbeats 4000000 in
set_option maxRecDepth 100000 in
theorem tcX8_losesWith (l : Launch) (D : va_G) (cs : CS) (ho ci : Nat) (hci : ci < 12) (a1 : Int32) (z : Int32) (hm : mX8_losesWith a1 = some z) : Met l yX8_losesWith (Cond.code yX8_losesWith cX8_losesWith 2 (some .boolean) :: gw_tbl) ({ frames := 0, cells := 0, slots := 0, locals := 0 }) (PcR D cs ([(ho, .inr (ci, []))]) [.ref ho, .int a1]) (QRi z) 0 0 NoF := by
  refine met_R rfl (Nat.le_of_ble_eq_true rfl) (fun p e s m below meth c E hP ls hl => ?_)
  obtain ⟨hx, hb, hr, hml, hown, hlk, hT, hN, hK⟩ := id E
  have hl : lv_has ls 2 [(0, .ref ho), (1, .int a1)] := hl
  unfold mX8_losesWith at hm
  refine lv_iload_n hx hb dX8_losesWith_0 rfl (lv_at hl 1 rfl) ?_
  refine lv_iconst (v := (nI 3)) hx hb dX8_losesWith_1 (by decide) ?_
  refine x_icmp_lt (tgt := 9) hx hb dX8_losesWith_2 (by decide) hm (fun hm => ?_) (fun hm => ?_)
  · refine lv_iconst (v := (nI 0)) hx hb dX8_losesWith_9 (by decide) ?_
    exact x_zretR hx hb hr hlk hm dX8_losesWith_10
  · refine lv_iconst (v := (nI 1)) hx hb dX8_losesWith_5 (by decide) ?_
    refine lv_goto (tgt := 10) hx hb dX8_losesWith_6 (by decide) ?_
    exact x_zretR hx hb hr hlk hm dX8_losesWith_10
noncomputable def v_allows (k : Nat) (a1 a2 a3 : Int32) : Option Int32 := match k with
  | 0 => mX6_allows a1 a2 a3
  | 1 => mX6_allows a1 a2 a3
  | 2 => mX1_allows a1 a2 a3
  | 3 => mX9_allows a1 a2 a3
  | 4 => mX2_allows a1 a2 a3
  | _ => mX1_allows a1 a2 a3
theorem cwo_97_0 : CWO RX3 97 RX6 yX6_allows yX6_allows cX6_allows 4 (some .boolean) 3 := ⟨tw_488, tw_491, tw_490, tw_489, tw_2, tw_508, tw_489, ⟨_, _, _, tw_508⟩, by decide, by decide, by decide +kernel⟩
theorem cwo_97_1 : CWO RX3 97 RX5 yX6_allows yX6_allows cX6_allows 4 (some .boolean) 3 := ⟨tw_488, tw_491, tw_500, tw_489, tw_2, tw_508, tw_489, ⟨_, _, _, tw_508⟩, by decide, by decide, by decide +kernel⟩
theorem cwo_97_2 : CWO RX3 97 RX1 yX6_allows yX1_allows cX1_allows 4 (some .boolean) 3 := ⟨tw_488, tw_491, tw_492, tw_493, tw_4, tw_494, tw_489, ⟨_, _, _, tw_508⟩, by decide, by decide, by decide +kernel⟩
theorem cwo_97_3 : CWO RX3 97 RX9 yX6_allows yX9_allows cX9_allows 4 (some .boolean) 3 := ⟨tw_488, tw_491, tw_502, tw_503, tw_5, tw_504, tw_489, ⟨_, _, _, tw_508⟩, by decide, by decide, by decide +kernel⟩
theorem cwo_97_4 : CWO RX3 97 RX2 yX6_allows yX2_allows cX2_allows 4 (some .boolean) 3 := ⟨tw_488, tw_491, tw_496, tw_497, tw_6, tw_498, tw_489, ⟨_, _, _, tw_508⟩, by decide, by decide, by decide +kernel⟩
theorem cwo_97_5 : CWO RX3 97 RX8 yX6_allows yX1_allows cX1_allows 4 (some .boolean) 3 := ⟨tw_488, tw_491, tw_501, tw_493, tw_4, tw_494, tw_489, ⟨_, _, _, tw_508⟩, by decide, by decide, by decide +kernel⟩
set_option maxHeartbeats 4000000 in
theorem xK_97 {p : Program} {l : Launch} {e : Env} {R : Room} {s : State} {m : MethodId} {args : Array Value} {below : List Frame} {meth : Method} {c : Code} {H : Heap} {locs : List Loc} {cells slots : Nat} {Q : State → Prop} {cc : ByteArray} {pc : Nat} {ls : Array Slot} {rest : List Value} {D : va_G} {cs : CS} {β : Type} {z : β} {ad : Nat → Nat} {b nL : Nat} {M : MT} {a1 a2 a3 : Int32} {j : Nat} {kf : Int32 → Option β} (hx : p.tables.exec = Jvm.exec) (hb : c.code = cc) (hml : c.maxLocals = nL) (hown : s.vm.findClass RX3 = some m.cls) (hT : ∀ w ∈ gw_tbl, w.before args s = true) (hN : NW s) (hK : va_K D classes (tyz cs) s) (hP : va_P D classes (WT cs ad b M) H) (hj : j < 6) (hm : (v_allows j a1 a2 a3).bind kf = some z) (hR : 2 ≤ R.frames ∧ 46 ≤ R.locals) (hls : ls.size = nL) (hW : (rest.map fun v => v.category).sum ≤ 8) (hdg : decode cc pc = .ok (.invokevirtual 97, 3)) (hcl : cells ≤ R.cells ∧ slots ≤ R.slots)
    (kk : ∀ r : Int32, kf r = some z → W p l e R s m args below meth c H locs cells slots Q (F0 m (pc + 3) ls (.int r :: rest))) : W p l e R s m args below meth c H locs cells slots Q (F0 m pc ls (.int a3 :: .int a2 :: .int a1 :: .ref (ad (2 + j)) :: rest)) := by
  match j, hj with
  | 0, _ => exact xO_i (As := [.int a1, .int a2, .int a3]) (rest := rest) (b := ad 2) (ci := 6) hx hb hml hown hT hN hK (hP.sub (ws' := [(ad 2, .inr (6, []))]) [13] rfl) rfl cwo_97_0 hm (fun z h => tcX6_allows l D cs (ad 2) 6 (by decide) a1 a2 a3 z h) ⟨rfl, rfl⟩ ⟨Nat.le_trans (by decide) hR.1, Nat.le_trans (by decide) hR.2⟩ hls rfl rfl hW hdg hcl kk
  | 1, _ => exact xO_i (As := [.int a1, .int a2, .int a3]) (rest := rest) (b := ad 3) (ci := 5) hx hb hml hown hT hN hK (hP.sub (ws' := [(ad 3, .inr (5, []))]) [14] rfl) rfl cwo_97_1 hm (fun z h => tcX6_allows l D cs (ad 3) 5 (by decide) a1 a2 a3 z h) ⟨rfl, rfl⟩ ⟨Nat.le_trans (by decide) hR.1, Nat.le_trans (by decide) hR.2⟩ hls rfl rfl hW hdg hcl kk
  | 2, _ => exact xO_i (As := [.int a1, .int a2, .int a3]) (rest := rest) (b := ad 4) (ci := 1) hx hb hml hown hT hN hK (hP.sub (ws' := [(ad 4, .inr (1, []))]) [15] rfl) rfl cwo_97_2 hm (fun z h => tcX1_allows l D cs (ad 4) 1 (by decide) a1 a2 a3 z h) ⟨rfl, rfl⟩ ⟨Nat.le_trans (by decide) hR.1, Nat.le_trans (by decide) hR.2⟩ hls rfl rfl hW hdg hcl kk
  | 3, _ => exact xO_i (As := [.int a1, .int a2, .int a3]) (rest := rest) (b := ad 5) (ci := 9) hx hb hml hown hT hN hK (hP.sub (ws' := [(ad 5, .inr (9, []))]) [16] rfl) rfl cwo_97_3 hm (fun z h => tcX9_allows l D cs (ad 5) 9 (by decide) a1 a2 a3 z h) ⟨rfl, rfl⟩ ⟨Nat.le_trans (by decide) hR.1, Nat.le_trans (by decide) hR.2⟩ hls rfl rfl hW hdg hcl kk
  | 4, _ => exact xO_i (As := [.int a1, .int a2, .int a3]) (rest := rest) (b := ad 6) (ci := 2) hx hb hml hown hT hN hK (hP.sub (ws' := [(ad 6, .inr (2, []))]) [17] rfl) rfl cwo_97_4 hm (fun z h => tcX2_allows l D cs (ad 6) 2 (by decide) a1 a2 a3 z h) ⟨rfl, rfl⟩ ⟨Nat.le_trans (by decide) hR.1, Nat.le_trans (by decide) hR.2⟩ hls rfl rfl hW hdg hcl kk
  | 5, _ => exact xO_i (As := [.int a1, .int a2, .int a3]) (rest := rest) (b := ad 7) (ci := 8) hx hb hml hown hT hN hK (hP.sub (ws' := [(ad 7, .inr (8, []))]) [18] rfl) rfl cwo_97_5 hm (fun z h => tcX1_allows l D cs (ad 7) 8 (by decide) a1 a2 a3 z h) ⟨rfl, rfl⟩ ⟨Nat.le_trans (by decide) hR.1, Nat.le_trans (by decide) hR.2⟩ hls rfl rfl hW hdg hcl kk
noncomputable def v_cost (k : Nat) (a1 a2 : Int32) : Option Int32 := match k with
  | 0 => mX6_cost a1 a2
  | 1 => mX5_cost a1 a2
  | 2 => mX1_cost a1 a2
  | 3 => mX5_cost a1 a2
  | 4 => mX6_cost a1 a2
  | _ => mX8_cost a1 a2
theorem cwo_101_0 : CWO RX3 101 RX6 yX6_cost yX6_cost cX6_cost 3 (some .int) 2 := ⟨tw_517, tw_520, tw_519, tw_518, tw_2, tw_535, tw_518, ⟨_, _, _, tw_535⟩, by decide, by decide, by decide +kernel⟩
theorem cwo_101_1 : CWO RX3 101 RX5 yX6_cost yX5_cost cX5_cost 4 (some .int) 2 := ⟨tw_517, tw_520, tw_526, tw_527, tw_3, tw_528, tw_518, ⟨_, _, _, tw_535⟩, by decide, by decide, by decide +kernel⟩
theorem cwo_101_2 : CWO RX3 101 RX1 yX6_cost yX1_cost cX1_cost 3 (some .int) 2 := ⟨tw_517, tw_520, tw_521, tw_522, tw_4, tw_523, tw_518, ⟨_, _, _, tw_535⟩, by decide, by decide, by decide +kernel⟩
theorem cwo_101_3 : CWO RX3 101 RX9 yX6_cost yX5_cost cX5_cost 4 (some .int) 2 := ⟨tw_517, tw_520, tw_534, tw_527, tw_3, tw_528, tw_518, ⟨_, _, _, tw_535⟩, by decide, by decide, by decide +kernel⟩
theorem cwo_101_4 : CWO RX3 101 RX2 yX6_cost yX6_cost cX6_cost 3 (some .int) 2 := ⟨tw_517, tw_520, tw_525, tw_518, tw_2, tw_535, tw_518, ⟨_, _, _, tw_535⟩, by decide, by decide, by decide +kernel⟩
theorem cwo_101_5 : CWO RX3 101 RX8 yX6_cost yX8_cost cX8_cost 3 (some .int) 2 := ⟨tw_517, tw_520, tw_530, tw_531, tw_7, tw_532, tw_518, ⟨_, _, _, tw_535⟩, by decide, by decide, by decide +kernel⟩
set_option maxHeartbeats 4000000 in
theorem xK_101 {p : Program} {l : Launch} {e : Env} {R : Room} {s : State} {m : MethodId} {args : Array Value} {below : List Frame} {meth : Method} {c : Code} {H : Heap} {locs : List Loc} {cells slots : Nat} {Q : State → Prop} {cc : ByteArray} {pc : Nat} {ls : Array Slot} {rest : List Value} {D : va_G} {cs : CS} {β : Type} {z : β} {ad : Nat → Nat} {b nL : Nat} {M : MT} {a1 a2 : Int32} {j : Nat} {kf : Int32 → Option β} (hx : p.tables.exec = Jvm.exec) (hb : c.code = cc) (hml : c.maxLocals = nL) (hown : s.vm.findClass RX3 = some m.cls) (hT : ∀ w ∈ gw_tbl, w.before args s = true) (hN : NW s) (hK : va_K D classes (tyz cs) s) (hP : va_P D classes (WT cs ad b M) H) (hj : j < 6) (hm : (v_cost j a1 a2).bind kf = some z) (hR : 3 ≤ R.frames ∧ 66 ≤ R.locals) (hls : ls.size = nL) (hW : (rest.map fun v => v.category).sum ≤ 8) (hdg : decode cc pc = .ok (.invokevirtual 101, 3)) (hcl : cells ≤ R.cells ∧ slots ≤ R.slots)
    (kk : ∀ r : Int32, kf r = some z → W p l e R s m args below meth c H locs cells slots Q (F0 m (pc + 3) ls (.int r :: rest))) : W p l e R s m args below meth c H locs cells slots Q (F0 m pc ls (.int a2 :: .int a1 :: .ref (ad (2 + j)) :: rest)) := by
  match j, hj with
  | 0, _ => exact xO_i (As := [.int a1, .int a2]) (rest := rest) (b := ad 2) (ci := 6) hx hb hml hown hT hN hK (hP.sub (ws' := [(ad 2, .inr (6, []))]) [13] rfl) rfl cwo_101_0 hm (fun z h => tcX6_cost l D cs (ad 2) 6 (by decide) a1 a2 z h) ⟨rfl, rfl⟩ ⟨Nat.le_trans (by decide) hR.1, Nat.le_trans (by decide) hR.2⟩ hls rfl rfl hW hdg hcl kk
  | 1, _ => exact xO_i (As := [.int a1, .int a2]) (rest := rest) (b := ad 3) (ci := 5) hx hb hml hown hT hN hK (hP.sub (ws' := [(ad 3, .inr (5, []))]) [14] rfl) rfl cwo_101_1 hm (fun z h => tcX5_cost l D cs (ad 3) 5 (by decide) a1 a2 z h) ⟨rfl, rfl⟩ ⟨Nat.le_trans (by decide) hR.1, Nat.le_trans (by decide) hR.2⟩ hls rfl rfl hW hdg hcl kk
  | 2, _ => exact xO_i (As := [.int a1, .int a2]) (rest := rest) (b := ad 4) (ci := 1) hx hb hml hown hT hN hK (hP.sub (ws' := [(ad 4, .inr (1, []))]) [15] rfl) rfl cwo_101_2 hm (fun z h => tcX1_cost l D cs (ad 4) 1 (by decide) a1 a2 z h) ⟨rfl, rfl⟩ ⟨Nat.le_trans (by decide) hR.1, Nat.le_trans (by decide) hR.2⟩ hls rfl rfl hW hdg hcl kk
  | 3, _ => exact xO_i (As := [.int a1, .int a2]) (rest := rest) (b := ad 5) (ci := 9) hx hb hml hown hT hN hK (hP.sub (ws' := [(ad 5, .inr (9, []))]) [16] rfl) rfl cwo_101_3 hm (fun z h => tcX5_cost l D cs (ad 5) 9 (by decide) a1 a2 z h) ⟨rfl, rfl⟩ ⟨Nat.le_trans (by decide) hR.1, Nat.le_trans (by decide) hR.2⟩ hls rfl rfl hW hdg hcl kk
  | 4, _ => exact xO_i (As := [.int a1, .int a2]) (rest := rest) (b := ad 6) (ci := 2) hx hb hml hown hT hN hK (hP.sub (ws' := [(ad 6, .inr (2, []))]) [17] rfl) rfl cwo_101_4 hm (fun z h => tcX6_cost l D cs (ad 6) 2 (by decide) a1 a2 z h) ⟨rfl, rfl⟩ ⟨Nat.le_trans (by decide) hR.1, Nat.le_trans (by decide) hR.2⟩ hls rfl rfl hW hdg hcl kk
  | 5, _ => exact xO_i (As := [.int a1, .int a2]) (rest := rest) (b := ad 7) (ci := 8) hx hb hml hown hT hN hK (hP.sub (ws' := [(ad 7, .inr (8, []))]) [18] rfl) rfl cwo_101_5 hm (fun z h => tcX8_cost l D cs (ad 7) 8 (by decide) a1 a2 z h) ⟨rfl, rfl⟩ ⟨Nat.le_trans (by decide) hR.1, Nat.le_trans (by decide) hR.2⟩ hls rfl rfl hW hdg hcl kk
noncomputable def v_losesWith (k : Nat) (a1 : Int32) : Option Int32 := match k with
  | 0 => mX6_losesWith a1
  | 1 => mX5_losesWith a1
  | 2 => mX6_losesWith a1
  | 3 => mX9_losesWith a1
  | 4 => mX6_losesWith a1
  | _ => mX8_losesWith a1
theorem cwo_104_0 : CWO RX3 104 RX6 yX6_losesWith yX6_losesWith cX6_losesWith 2 (some .boolean) 1 := ⟨tw_558, tw_561, tw_560, tw_559, tw_2, tw_573, tw_559, ⟨_, _, _, tw_573⟩, by decide, by decide, by decide +kernel⟩
theorem cwo_104_1 : CWO RX3 104 RX5 yX6_losesWith yX5_losesWith cX5_losesWith 2 (some .boolean) 1 := ⟨tw_558, tw_561, tw_564, tw_565, tw_3, tw_566, tw_559, ⟨_, _, _, tw_573⟩, by decide, by decide, by decide +kernel⟩
theorem cwo_104_2 : CWO RX3 104 RX1 yX6_losesWith yX6_losesWith cX6_losesWith 2 (some .boolean) 1 := ⟨tw_558, tw_561, tw_562, tw_559, tw_2, tw_573, tw_559, ⟨_, _, _, tw_573⟩, by decide, by decide, by decide +kernel⟩
theorem cwo_104_3 : CWO RX3 104 RX9 yX6_losesWith yX9_losesWith cX9_losesWith 2 (some .boolean) 1 := ⟨tw_558, tw_561, tw_570, tw_571, tw_5, tw_572, tw_559, ⟨_, _, _, tw_573⟩, by decide, by decide, by decide +kernel⟩
theorem cwo_104_4 : CWO RX3 104 RX2 yX6_losesWith yX6_losesWith cX6_losesWith 2 (some .boolean) 1 := ⟨tw_558, tw_561, tw_563, tw_559, tw_2, tw_573, tw_559, ⟨_, _, _, tw_573⟩, by decide, by decide, by decide +kernel⟩
theorem cwo_104_5 : CWO RX3 104 RX8 yX6_losesWith yX8_losesWith cX8_losesWith 2 (some .boolean) 1 := ⟨tw_558, tw_561, tw_567, tw_568, tw_7, tw_569, tw_559, ⟨_, _, _, tw_573⟩, by decide, by decide, by decide +kernel⟩
set_option maxHeartbeats 4000000 in
theorem xK_104 {p : Program} {l : Launch} {e : Env} {R : Room} {s : State} {m : MethodId} {args : Array Value} {below : List Frame} {meth : Method} {c : Code} {H : Heap} {locs : List Loc} {cells slots : Nat} {Q : State → Prop} {cc : ByteArray} {pc : Nat} {ls : Array Slot} {rest : List Value} {D : va_G} {cs : CS} {β : Type} {z : β} {ad : Nat → Nat} {b nL : Nat} {M : MT} {a1 : Int32} {j : Nat} {kf : Int32 → Option β} (hx : p.tables.exec = Jvm.exec) (hb : c.code = cc) (hml : c.maxLocals = nL) (hown : s.vm.findClass RX3 = some m.cls) (hT : ∀ w ∈ gw_tbl, w.before args s = true) (hN : NW s) (hK : va_K D classes (tyz cs) s) (hP : va_P D classes (WT cs ad b M) H) (hj : j < 6) (hm : (v_losesWith j a1).bind kf = some z) (hR : 1 ≤ R.frames ∧ 21 ≤ R.locals) (hls : ls.size = nL) (hW : (rest.map fun v => v.category).sum ≤ 8) (hdg : decode cc pc = .ok (.invokevirtual 104, 3)) (hcl : cells ≤ R.cells ∧ slots ≤ R.slots)
    (kk : ∀ r : Int32, kf r = some z → W p l e R s m args below meth c H locs cells slots Q (F0 m (pc + 3) ls (.int r :: rest))) : W p l e R s m args below meth c H locs cells slots Q (F0 m pc ls (.int a1 :: .ref (ad (2 + j)) :: rest)) := by
  match j, hj with
  | 0, _ => exact xO_i (As := [.int a1]) (rest := rest) (b := ad 2) (ci := 6) hx hb hml hown hT hN hK (hP.sub (ws' := [(ad 2, .inr (6, []))]) [13] rfl) rfl cwo_104_0 hm (fun z h => tcX6_losesWith l D cs (ad 2) 6 (by decide) a1 z h) ⟨rfl, rfl⟩ ⟨Nat.le_trans (by decide) hR.1, Nat.le_trans (by decide) hR.2⟩ hls rfl rfl hW hdg hcl kk
  | 1, _ => exact xO_i (As := [.int a1]) (rest := rest) (b := ad 3) (ci := 5) hx hb hml hown hT hN hK (hP.sub (ws' := [(ad 3, .inr (5, []))]) [14] rfl) rfl cwo_104_1 hm (fun z h => tcX5_losesWith l D cs (ad 3) 5 (by decide) a1 z h) ⟨rfl, rfl⟩ ⟨Nat.le_trans (by decide) hR.1, Nat.le_trans (by decide) hR.2⟩ hls rfl rfl hW hdg hcl kk
  | 2, _ => exact xO_i (As := [.int a1]) (rest := rest) (b := ad 4) (ci := 1) hx hb hml hown hT hN hK (hP.sub (ws' := [(ad 4, .inr (1, []))]) [15] rfl) rfl cwo_104_2 hm (fun z h => tcX6_losesWith l D cs (ad 4) 1 (by decide) a1 z h) ⟨rfl, rfl⟩ ⟨Nat.le_trans (by decide) hR.1, Nat.le_trans (by decide) hR.2⟩ hls rfl rfl hW hdg hcl kk
  | 3, _ => exact xO_i (As := [.int a1]) (rest := rest) (b := ad 5) (ci := 9) hx hb hml hown hT hN hK (hP.sub (ws' := [(ad 5, .inr (9, []))]) [16] rfl) rfl cwo_104_3 hm (fun z h => tcX9_losesWith l D cs (ad 5) 9 (by decide) a1 z h) ⟨rfl, rfl⟩ ⟨Nat.le_trans (by decide) hR.1, Nat.le_trans (by decide) hR.2⟩ hls rfl rfl hW hdg hcl kk
  | 4, _ => exact xO_i (As := [.int a1]) (rest := rest) (b := ad 6) (ci := 2) hx hb hml hown hT hN hK (hP.sub (ws' := [(ad 6, .inr (2, []))]) [17] rfl) rfl cwo_104_4 hm (fun z h => tcX6_losesWith l D cs (ad 6) 2 (by decide) a1 z h) ⟨rfl, rfl⟩ ⟨Nat.le_trans (by decide) hR.1, Nat.le_trans (by decide) hR.2⟩ hls rfl rfl hW hdg hcl kk
  | 5, _ => exact xO_i (As := [.int a1]) (rest := rest) (b := ad 7) (ci := 8) hx hb hml hown hT hN hK (hP.sub (ws' := [(ad 7, .inr (8, []))]) [18] rfl) rfl cwo_104_5 hm (fun z h => tcX8_losesWith l D cs (ad 7) 8 (by decide) a1 z h) ⟨rfl, rfl⟩ ⟨Nat.le_trans (by decide) hR.1, Nat.le_trans (by decide) hR.2⟩ hls rfl rfl hW hdg hcl kk
