/-! our own rows: a method's bytecode is held against a plain function of ours ('its picture', an Option); hm: the picture answers z -/
def nm {α β : Type} (x : α) (k : α → Option β) : Option β := k x
def ald {β : Type} (f : Nat → Int32) (n : Nat) (i : Int32) (k : Int32 → Option β) : Option β := if i < 0 ∨ n ≤ i.toNatClampNeg then none else k (f i.toNatClampNeg)
def ast {β : Type} (n : Nat) (i : Int32) (k : Option β) : Option β := if i < 0 ∨ n ≤ i.toNatClampNeg then none else k
def nzl {β : Type} (y : Int64) (k : Option β) : Option β := if y = 0 then none else k
def nzi {β : Type} (y : Int32) (k : Option β) : Option β := if y = 0 then none else k
def zo {β : Type} (x : Int32) (k : Option β) : Option β := if x = 0 ∨ x = 1 then k else none
def FU : Nat := 1000000
def nw_l : List Cond := [(.methodLinkNest RX10 9 yX6_init "DoeRoe" : Cond), (.methodLinkNest RX10 12 yX5_init "DoeRoe" : Cond), (.methodLinkNest RX5 1 yX6_init "DoeRoe" : Cond), (.methodLinkNest RX10 15 yX1_init "DoeRoe" : Cond), (.methodLinkNest RX1 1 yX6_init "DoeRoe" : Cond), (.methodLinkNest RX10 18 yX9_init "DoeRoe" : Cond), (.methodLinkNest RX9 1 yX5_init "DoeRoe" : Cond), (.methodLinkNest RX10 21 yX2_init "DoeRoe" : Cond), (.methodLinkNest RX2 1 yX6_init "DoeRoe" : Cond), (.methodLinkNest RX10 24 yX8_init "DoeRoe" : Cond), (.methodLinkNest RX8 1 yX1_init "DoeRoe" : Cond), (.methodLinkNest RX3 17 yX6_init "DoeRoe" : Cond), (.methodLinkNest RX3 108 yX10_holds "DoeRoe" : Cond), (.declares yX6_allows : Cond), (.methodLinkNest RX4 57 yX10_holds "DoeRoe" : Cond), (Jvm.Cond.castable "DoeRoe$Persons" "DoeRoe$Plain"), (Jvm.Cond.castable "DoeRoe$Force" "DoeRoe$Plain"), (Jvm.Cond.castable "DoeRoe$Time" "DoeRoe$Plain"), (Jvm.Cond.castable "DoeRoe$Letter" "DoeRoe$Plain"), (Jvm.Cond.castable "DoeRoe$Ship" "DoeRoe$Plain")]
theorem nw_l_in : ∀ w ∈ nw_l, w ∈ lw_tbl := by
  intro w h
  simp only [nw_l, List.mem_cons, List.not_mem_nil, or_false] at h
  rcases h with rfl | rfl | rfl | rfl | rfl | rfl | rfl | rfl | rfl | rfl | rfl | rfl | rfl | rfl | rfl | rfl | rfl | rfl | rfl | rfl
  all_goals first | exact tw_30 | exact tw_37 | exact tw_40 | exact tw_44 | exact tw_47 | exact tw_51 | exact tw_54 | exact tw_58 | exact tw_61 | exact tw_65 | exact tw_68 | exact tw_77 | exact tw_474 | exact tw_507 | exact tw_640 | exact tw_1201 | exact tw_1202 | exact tw_1203 | exact tw_1204 | exact tw_1205
def NW (U : State) : Prop := ∀ w ∈ nw_l, va_Nw w U
theorem NW.warm {s U : State} (hW : s.WarmedH U.vm) (h : NW s) : NW U := by
  intro w hw
  have h1 := h w hw
  simp only [nw_l, List.mem_cons, List.not_mem_nil, or_false] at hw
  rcases hw with rfl | rfl | rfl | rfl | rfl | rfl | rfl | rfl | rfl | rfl | rfl | rfl | rfl | rfl | rfl | rfl | rfl | rfl | rfl | rfl
  all_goals first | exact va_Nw.warmM hW h1 | exact va_Nw.warmC hW h1 | exact va_Nw.warmD hW h1
theorem NW.calling {U : State} {g : JFrame} {mk : MethodId} {a : Array Value} (h : NW U) : NW (U.calling g mk a) := by
  intro w hw
  have h1 := h w hw
  refine va_Nw.same ?_ (rfl : U.vm = (U.calling g mk a).vm) h1
  simp only [nw_l, List.mem_cons, List.not_mem_nil, or_false] at hw
  rcases hw with rfl | rfl | rfl | rfl | rfl | rfl | rfl | rfl | rfl | rfl | rfl | rfl | rfl | rfl | rfl | rfl | rfl | rfl | rfl | rfl <;> rfl
abbrev CS : Type := Nat → ClassId
abbrev tyz (cs : CS) : List (ClassId × FieldType) := [(cs 0, .int), (cs 1, .boolean), (cs 2, .object "DoeRoe$Plain")]
def PcR (D : va_G) (cs : CS) (ws : va_W) (av : List Value) : Array Value → State → Prop := va_Pc av (fun U => NW U ∧ va_P D classes ws U.heap ∧ va_K D classes (tyz cs) U)
def PcW (D : va_G) (cs : CS) (sz : Nat) (ws : va_W) (av : List Value) : Array Value → State → Prop := va_Pc av (fun U => NW U ∧ U.heap.size = sz ∧ va_P D classes ws U.heap ∧ va_K D classes (tyz cs) U ∧ va_D (fun _ => True) ws)
def BW (D : va_G) (cs : CS) (A : Nat → Prop) {σ : Type} (wf : σ → va_W) : σ → State → Prop := fun u t => va_P D classes (wf u) t.heap ∧ va_K D classes (tyz cs) t ∧ va_D A (wf u)
abbrev QWi (D : va_G) (cs : CS) (A : Nat → Prop) {σ : Type} (wf : σ → va_W) (z : Int32 × σ) := va_Qi (fun r u => (r, u) = z) (BW D cs A wf) A
abbrev QWl (D : va_G) (cs : CS) (A : Nat → Prop) {σ : Type} (wf : σ → va_W) (z : Int64 × σ) := va_Ql (fun r u => (r, u) = z) (BW D cs A wf) A
abbrev QWv (D : va_G) (cs : CS) (A : Nat → Prop) {σ : Type} (wf : σ → va_W) (z : σ) := va_Qv (fun u => u = z) (BW D cs A wf) A
abbrev QRi (z : Int32) := vp_Si (fun r => r = z)
abbrev QRl (z : Int64) := vp_Sl (fun r => r = z)
abbrev NoF : Addr → Prop := fun _ => False
theorem PcR_blind {D : va_G} {cs : CS} {ws : va_W} {av : List Value} : FrameBlind (PcR D cs ws av) := by
  intro a U g mk h
  obtain ⟨h0, h1, h2, h3⟩ := h
  exact ⟨h0, h1.calling, h2, va_K.moved (u := U) (U := U.calling g mk a) (Vm.Alike.refl U.vm) h3⟩
theorem PcW_blind {D : va_G} {cs : CS} {sz : Nat} {ws : va_W} {av : List Value} : FrameBlind (PcW D cs sz ws av) := by
  intro a U g mk h
  obtain ⟨h0, h1, h2, h3, h4, h5⟩ := h
  exact ⟨h0, h1.calling, h2, h3, va_K.moved (u := U) (U := U.calling g mk a) (Vm.Alike.refl U.vm) h4, h5⟩
/-- what a method's walk knows of its frame -/
def EV (p : Program) (s : State) (m : MethodId) (args : Array Value) (meth : Method) (c : Code) (cc : ByteArray) (nL : Nat) (own : String) (ret : Option FieldType) (D : va_G) (cs : CS) : Prop :=
  p.tables.exec = Jvm.exec ∧ c.code = cc ∧ meth.sig.returnType = ret ∧ c.maxLocals = nL ∧ s.vm.findClass own = some m.cls ∧ meth.locks = false ∧ (∀ w ∈ gw_tbl, w.before args s = true) ∧ NW s ∧ va_K D classes (tyz cs) s
/-- words of a call -/
def CWV (own : String) (idx : Nat) (C : String) (y : MethodName) (bytes : ByteArray) (maxL : Nat) (ret : Option FieldType) (n : Nat) : Prop :=
  Cond.methodLink own idx y ∈ gw_tbl ∧ Cond.instanceMethod y ∈ gw_tbl ∧ Cond.selects C y y ∈ gw_tbl ∧ Cond.initialized y.cls ∈ gw_tbl ∧ Cond.code y bytes maxL ret ∈ gw_tbl ∧ (y.cls ≠ "java/lang/invoke/MethodHandle" ∧ y.cls ≠ "java/lang/invoke/VarHandle" ∧ (parseMethodDescriptor y.desc).map (fun d => d.parameters.length) = some n)
def CWS (own : String) (idx : Nat) (y : MethodName) (bytes : ByteArray) (maxL : Nat) (ret : Option FieldType) (n : Nat) : Prop :=
  Cond.methodLink own idx y ∈ gw_tbl ∧ Cond.static y ∈ gw_tbl ∧ Cond.initialized y.cls ∈ gw_tbl ∧ Cond.code y bytes maxL ret ∈ gw_tbl ∧ (y.cls ≠ "java/lang/invoke/MethodHandle" ∧ y.cls ≠ "java/lang/invoke/VarHandle" ∧ (parseMethodDescriptor y.desc).map (fun d => d.parameters.length) = some n)
def CWN (own : String) (idx : Nat) (y : MethodName) (host : String) (bytes : ByteArray) (maxL : Nat) (ret : Option FieldType) (n : Nat) : Prop :=
  Cond.methodLinkNest own idx y host ∈ nw_l ∧ Cond.static y ∈ gw_tbl ∧ Cond.initialized y.cls ∈ gw_tbl ∧ Cond.code y bytes maxL ret ∈ gw_tbl ∧ (y.cls ≠ "java/lang/invoke/MethodHandle" ∧ y.cls ≠ "java/lang/invoke/VarHandle" ∧ (parseMethodDescriptor y.desc).map (fun d => d.parameters.length) = some n)
abbrev RoomOk (rm R : Room) (maxL : Nat) : Prop := rm.frames + 1 ≤ R.frames ∧ 8 + (maxL + 11) + rm.locals ≤ R.locals
theorem gw_pay {s : State} {args : Array Value} {z : Cond} (hT : ∀ w ∈ gw_tbl, w.before args s = true) (hz : z ∈ gw_tbl) : ∀ w ∈ z :: gw_tbl, ∀ (a' : Array Value) (U : State), s.WarmedH U.vm → w.before a' U = true := by
  intro w hw a' U hW
  have h : w ∈ gw_tbl := by
    rcases List.mem_cons.mp hw with rfl | h
    · exact hz
    · exact h
  exact word_at hW (gw_good h) (hT w h)
theorem CWV.mk {R : Room} {s : State} {args : Array Value} {own C : String} {idx maxL n : Nat} {y : MethodName} {bytes : ByteArray} {ret : Option FieldType} {rm : Room} {mc ms : Nat} (hT : ∀ w ∈ gw_tbl, w.before args s = true) (cw : CWV own idx C y bytes maxL ret n) (h1 : rm.cells = mc) (h2 : rm.slots = ms) (hr : RoomOk rm R maxL) : CallW R s args own C idx y bytes maxL ret (Cond.code y bytes maxL ret :: gw_tbl) rm mc ms n := by
  obtain ⟨a1, a2, a3, a4, a5, a6, a7, a8⟩ := cw
  refine ⟨⟨h1, h2, hr.1, hr.2, gw_pay hT a5, List.mem_cons_self, hT _ a5, hT _ a4, ⟨a6, a7⟩, fun sig h => ?_, hT _ a1⟩, hT _ a2, hT _ a3⟩
  rw [h] at a8
  exact (Option.some.inj a8).symm
theorem CWS.mk {R : Room} {s : State} {args : Array Value} {own : String} {idx maxL n : Nat} {y : MethodName} {bytes : ByteArray} {ret : Option FieldType} {rm : Room} {mc ms : Nat} (hT : ∀ w ∈ gw_tbl, w.before args s = true) (cw : CWS own idx y bytes maxL ret n) (h1 : rm.cells = mc) (h2 : rm.slots = ms) (hr : RoomOk rm R maxL) : CallB R s args own idx y bytes maxL ret (Cond.code y bytes maxL ret :: gw_tbl) rm mc ms n ∧ (Cond.static y).before args s = true := by
  obtain ⟨a1, a2, a4, a5, a6, a7, a8⟩ := cw
  refine ⟨⟨h1, h2, hr.1, hr.2, gw_pay hT a5, List.mem_cons_self, hT _ a5, hT _ a4, ⟨a6, a7⟩, fun sig h => ?_, hT _ a1⟩, hT _ a2⟩
  rw [h] at a8
  exact (Option.some.inj a8).symm
theorem CWN.mk {R : Room} {s : State} {args : Array Value} {own host : String} {idx maxL n : Nat} {y : MethodName} {bytes : ByteArray} {ret : Option FieldType} {rm : Room} {mc ms : Nat} (hT : ∀ w ∈ gw_tbl, w.before args s = true) (hN : NW s) (cw : CWN own idx y host bytes maxL ret n) (h1 : rm.cells = mc) (h2 : rm.slots = ms) (hr : RoomOk rm R maxL) : va_CN R s args own idx y host bytes maxL ret (Cond.code y bytes maxL ret :: gw_tbl) rm mc ms n ∧ (Cond.static y).before args s = true ∧ True := by
  obtain ⟨a1, a2, a4, a5, a6, a7, a8⟩ := cw
  refine ⟨⟨⟨h1, h2, hr.1, hr.2, gw_pay hT a5, List.mem_cons_self⟩, hT _ a5, hT _ a4, ⟨a6, a7⟩, fun sig h => ?_, va_Nw.use rfl (hN _ a1)⟩, hT _ a2, trivial⟩
  rw [h] at a8
  exact (Option.some.inj a8).symm
section KX
variable {p : Program} {l : Launch} {e : Env} {R : Room} {s : State} {m : MethodId} {args : Array Value} {below : List Frame} {meth : Method} {c : Code} {H : Heap} {locs : List Loc} {cells slots : Nat} {Q : State → Prop} {cc : ByteArray} {pc : Nat} {ls : Array Slot} {rest : List Value} {D : va_G} {cs : CS} {ws : va_W} {A : Nat → Prop} {H0 : Heap} {β : Type} {z : β} {nL : Nat} {own : String} {ret0 : Option FieldType}
theorem xi_nm {x : Int32} {k : Int32 → Option β} (hm : nm x k = some z) (kk : ∀ y : Int32, k y = some z → W p l e R s m args below meth c H locs cells slots Q (F0 m pc ls (.int y :: rest))) : W p l e R s m args below meth c H locs cells slots Q (F0 m pc ls (.int x :: rest)) := kk x hm
theorem xl_nm {x : Int64} {k : Int64 → Option β} (hm : nm x k = some z) (kk : ∀ y : Int64, k y = some z → W p l e R s m args below meth c H locs cells slots Q (F0 m pc ls (.long y :: rest))) : W p l e R s m args below meth c H locs cells slots Q (F0 m pc ls (.long x :: rest)) := kk x hm
theorem x_icmp_eq (hx : p.tables.exec = Jvm.exec) (hb : c.code = cc) {x y : Int32} {off : Int} {tgt : Nat} (hdg : decode cc pc = .ok (.if_icmp .eq off, 3)) (ht : (pc : Int) + off = (tgt : Int)) {a b : Option β} (hm : (if x = y then a else b) = some z) (kt : a = some z → W p l e R s m args below meth c H locs cells slots Q (F0 m tgt ls rest)) (kf : b = some z → W p l e R s m args below meth c H locs cells slots Q (F0 m (pc + 3) ls rest)) : W p l e R s m args below meth c H locs cells slots Q (F0 m pc ls (.int y :: .int x :: rest)) :=
  lv_icmp_eq hx hb hdg ht (fun h => kt (by rw [if_pos h] at hm; exact hm)) (fun h => kf (by rw [if_neg h] at hm; exact hm))
theorem x_if_eq (hx : p.tables.exec = Jvm.exec) (hb : c.code = cc) {x : Int32} {off : Int} {tgt : Nat} (hdg : decode cc pc = .ok (.ifCond .eq off, 3)) (ht : (pc : Int) + off = (tgt : Int)) {a b : Option β} (hm : (if x = 0 then a else b) = some z) (kt : a = some z → W p l e R s m args below meth c H locs cells slots Q (F0 m tgt ls rest)) (kf : b = some z → W p l e R s m args below meth c H locs cells slots Q (F0 m (pc + 3) ls rest)) : W p l e R s m args below meth c H locs cells slots Q (F0 m pc ls (.int x :: rest)) :=
  lv_if_eq hx hb hdg ht (fun h => kt (by rw [if_pos h] at hm; exact hm)) (fun h => kf (by rw [if_neg h] at hm; exact hm))
theorem x_icmp_ne (hx : p.tables.exec = Jvm.exec) (hb : c.code = cc) {x y : Int32} {off : Int} {tgt : Nat} (hdg : decode cc pc = .ok (.if_icmp .ne off, 3)) (ht : (pc : Int) + off = (tgt : Int)) {a b : Option β} (hm : (if x = y then b else a) = some z) (kt : a = some z → W p l e R s m args below meth c H locs cells slots Q (F0 m tgt ls rest)) (kf : b = some z → W p l e R s m args below meth c H locs cells slots Q (F0 m (pc + 3) ls rest)) : W p l e R s m args below meth c H locs cells slots Q (F0 m pc ls (.int y :: .int x :: rest)) :=
  lv_icmp_ne hx hb hdg ht (fun h => kt (by rw [if_neg h] at hm; exact hm)) (fun h => kf (by rw [if_pos h] at hm; exact hm))
theorem x_if_ne (hx : p.tables.exec = Jvm.exec) (hb : c.code = cc) {x : Int32} {off : Int} {tgt : Nat} (hdg : decode cc pc = .ok (.ifCond .ne off, 3)) (ht : (pc : Int) + off = (tgt : Int)) {a b : Option β} (hm : (if x = 0 then b else a) = some z) (kt : a = some z → W p l e R s m args below meth c H locs cells slots Q (F0 m tgt ls rest)) (kf : b = some z → W p l e R s m args below meth c H locs cells slots Q (F0 m (pc + 3) ls rest)) : W p l e R s m args below meth c H locs cells slots Q (F0 m pc ls (.int x :: rest)) :=
  lv_if_ne hx hb hdg ht (fun h => kt (by rw [if_neg h] at hm; exact hm)) (fun h => kf (by rw [if_pos h] at hm; exact hm))
theorem x_icmp_lt (hx : p.tables.exec = Jvm.exec) (hb : c.code = cc) {x y : Int32} {off : Int} {tgt : Nat} (hdg : decode cc pc = .ok (.if_icmp .lt off, 3)) (ht : (pc : Int) + off = (tgt : Int)) {a b : Option β} (hm : (if x < y then a else b) = some z) (kt : a = some z → W p l e R s m args below meth c H locs cells slots Q (F0 m tgt ls rest)) (kf : b = some z → W p l e R s m args below meth c H locs cells slots Q (F0 m (pc + 3) ls rest)) : W p l e R s m args below meth c H locs cells slots Q (F0 m pc ls (.int y :: .int x :: rest)) :=
  lv_icmp_lt hx hb hdg ht (fun h => kt (by rw [if_pos h] at hm; exact hm)) (fun h => kf (by rw [if_neg h] at hm; exact hm))
theorem x_if_lt (hx : p.tables.exec = Jvm.exec) (hb : c.code = cc) {x : Int32} {off : Int} {tgt : Nat} (hdg : decode cc pc = .ok (.ifCond .lt off, 3)) (ht : (pc : Int) + off = (tgt : Int)) {a b : Option β} (hm : (if x < 0 then a else b) = some z) (kt : a = some z → W p l e R s m args below meth c H locs cells slots Q (F0 m tgt ls rest)) (kf : b = some z → W p l e R s m args below meth c H locs cells slots Q (F0 m (pc + 3) ls rest)) : W p l e R s m args below meth c H locs cells slots Q (F0 m pc ls (.int x :: rest)) :=
  lv_if_lt hx hb hdg ht (fun h => kt (by rw [if_pos h] at hm; exact hm)) (fun h => kf (by rw [if_neg h] at hm; exact hm))
theorem x_icmp_ge (hx : p.tables.exec = Jvm.exec) (hb : c.code = cc) {x y : Int32} {off : Int} {tgt : Nat} (hdg : decode cc pc = .ok (.if_icmp .ge off, 3)) (ht : (pc : Int) + off = (tgt : Int)) {a b : Option β} (hm : (if y ≤ x then a else b) = some z) (kt : a = some z → W p l e R s m args below meth c H locs cells slots Q (F0 m tgt ls rest)) (kf : b = some z → W p l e R s m args below meth c H locs cells slots Q (F0 m (pc + 3) ls rest)) : W p l e R s m args below meth c H locs cells slots Q (F0 m pc ls (.int y :: .int x :: rest)) :=
  lv_icmp_ge hx hb hdg ht (fun h => kt (by rw [if_pos h] at hm; exact hm)) (fun h => kf (by rw [if_neg h] at hm; exact hm))
theorem x_if_ge (hx : p.tables.exec = Jvm.exec) (hb : c.code = cc) {x : Int32} {off : Int} {tgt : Nat} (hdg : decode cc pc = .ok (.ifCond .ge off, 3)) (ht : (pc : Int) + off = (tgt : Int)) {a b : Option β} (hm : (if 0 ≤ x then a else b) = some z) (kt : a = some z → W p l e R s m args below meth c H locs cells slots Q (F0 m tgt ls rest)) (kf : b = some z → W p l e R s m args below meth c H locs cells slots Q (F0 m (pc + 3) ls rest)) : W p l e R s m args below meth c H locs cells slots Q (F0 m pc ls (.int x :: rest)) :=
  lv_if_ge hx hb hdg ht (fun h => kt (by rw [if_pos h] at hm; exact hm)) (fun h => kf (by rw [if_neg h] at hm; exact hm))
theorem x_icmp_gt (hx : p.tables.exec = Jvm.exec) (hb : c.code = cc) {x y : Int32} {off : Int} {tgt : Nat} (hdg : decode cc pc = .ok (.if_icmp .gt off, 3)) (ht : (pc : Int) + off = (tgt : Int)) {a b : Option β} (hm : (if y < x then a else b) = some z) (kt : a = some z → W p l e R s m args below meth c H locs cells slots Q (F0 m tgt ls rest)) (kf : b = some z → W p l e R s m args below meth c H locs cells slots Q (F0 m (pc + 3) ls rest)) : W p l e R s m args below meth c H locs cells slots Q (F0 m pc ls (.int y :: .int x :: rest)) :=
  lv_icmp_gt hx hb hdg ht (fun h => kt (by rw [if_pos h] at hm; exact hm)) (fun h => kf (by rw [if_neg h] at hm; exact hm))
theorem x_if_gt (hx : p.tables.exec = Jvm.exec) (hb : c.code = cc) {x : Int32} {off : Int} {tgt : Nat} (hdg : decode cc pc = .ok (.ifCond .gt off, 3)) (ht : (pc : Int) + off = (tgt : Int)) {a b : Option β} (hm : (if 0 < x then a else b) = some z) (kt : a = some z → W p l e R s m args below meth c H locs cells slots Q (F0 m tgt ls rest)) (kf : b = some z → W p l e R s m args below meth c H locs cells slots Q (F0 m (pc + 3) ls rest)) : W p l e R s m args below meth c H locs cells slots Q (F0 m pc ls (.int x :: rest)) :=
  lv_if_gt hx hb hdg ht (fun h => kt (by rw [if_pos h] at hm; exact hm)) (fun h => kf (by rw [if_neg h] at hm; exact hm))
theorem x_icmp_le (hx : p.tables.exec = Jvm.exec) (hb : c.code = cc) {x y : Int32} {off : Int} {tgt : Nat} (hdg : decode cc pc = .ok (.if_icmp .le off, 3)) (ht : (pc : Int) + off = (tgt : Int)) {a b : Option β} (hm : (if x ≤ y then a else b) = some z) (kt : a = some z → W p l e R s m args below meth c H locs cells slots Q (F0 m tgt ls rest)) (kf : b = some z → W p l e R s m args below meth c H locs cells slots Q (F0 m (pc + 3) ls rest)) : W p l e R s m args below meth c H locs cells slots Q (F0 m pc ls (.int y :: .int x :: rest)) :=
  lv_icmp_le hx hb hdg ht (fun h => kt (by rw [if_pos h] at hm; exact hm)) (fun h => kf (by rw [if_neg h] at hm; exact hm))
theorem x_if_le (hx : p.tables.exec = Jvm.exec) (hb : c.code = cc) {x : Int32} {off : Int} {tgt : Nat} (hdg : decode cc pc = .ok (.ifCond .le off, 3)) (ht : (pc : Int) + off = (tgt : Int)) {a b : Option β} (hm : (if x ≤ 0 then a else b) = some z) (kt : a = some z → W p l e R s m args below meth c H locs cells slots Q (F0 m tgt ls rest)) (kf : b = some z → W p l e R s m args below meth c H locs cells slots Q (F0 m (pc + 3) ls rest)) : W p l e R s m args below meth c H locs cells slots Q (F0 m pc ls (.int x :: rest)) :=
  lv_if_le hx hb hdg ht (fun h => kt (by rw [if_pos h] at hm; exact hm)) (fun h => kf (by rw [if_neg h] at hm; exact hm))
theorem x_iald (hx : p.tables.exec = Jvm.exec) (hb : c.code = cc) (hK : va_K D classes (tyz cs) s) (hP : va_P D classes ws H) {a : Nat} (q0 : Nat) {n : Nat} {f : Nat → Int32} (ha : ws[q0]? = some (a, .inl (cs 0, n, .inl f))) {i : Int32} {k : Int32 → Option β} (hm : ald f n i k = some z) (hdg : decode cc pc = .ok (.iaload, 1))
    (kk : ∀ v : Int32, k v = some z → W p l e R s m args below meth c H locs cells slots Q (F0 m (pc + 1) ls (.int v :: rest))) : W p l e R s m args below meth c H locs cells slots Q (F0 m pc ls (.int i :: .ref a :: rest)) := by
  unfold ald at hm
  by_cases hc : i < 0 ∨ n ≤ i.toNatClampNeg
  · rw [if_pos hc] at hm; cases hm
  · rw [if_neg hc] at hm
    exact va_iald hx hb hK hP q0 0 ha rfl hc hdg (kk _ hm)
theorem x_zald (hx : p.tables.exec = Jvm.exec) (hb : c.code = cc) (hK : va_K D classes (tyz cs) s) (hP : va_P D classes ws H) {a : Nat} (q0 : Nat) {n : Nat} {f : Nat → Int32} (ha : ws[q0]? = some (a, .inl (cs 1, n, .inl f))) {i : Int32} {k : Int32 → Option β} (hm : ald f n i k = some z) (hdg : decode cc pc = .ok (.baload, 1))
    (kk : ∀ v : Int32, k v = some z → W p l e R s m args below meth c H locs cells slots Q (F0 m (pc + 1) ls (.int v :: rest))) : W p l e R s m args below meth c H locs cells slots Q (F0 m pc ls (.int i :: .ref a :: rest)) := by
  unfold ald at hm
  by_cases hc : i < 0 ∨ n ≤ i.toNatClampNeg
  · rw [if_pos hc] at hm; cases hm
  · rw [if_neg hc] at hm
    exact va_zald hx hb hK hP q0 1 ha rfl hc hdg (kk _ hm)
/-- a store into an int row: the world as 'wf' has it behind -/
theorem x_iast (hx : p.tables.exec = Jvm.exec) (hb : c.code = cc) (hK : va_K D classes (tyz cs) s) (hP : va_P D classes ws H) (hD : va_D A ws) (hS : va_S A H0 H locs) {a : Nat} (q0 : Nat) {n : Nat} {f : Nat → Int32} (ha : ws[q0]? = some (a, .inl (cs 0, n, .inl f))) {i x : Int32} {σ : Type} (g : Nat → σ) (wf : σ → va_W) (hw : ∀ j, ws.set q0 (a, .inl (cs 0, n, .inl (upd f j x))) = wf (g j)) {k : σ → Option β} (hm : ast n i (nm (g i.toNatClampNeg) k) = some z) (hdg : decode cc pc = .ok (.iastore, 1))
    (kk : ∀ (u : σ) (H1 : Heap) (locs1 : List Loc), k u = some z → va_P D classes (wf u) H1 → va_D A (wf u) → va_S A H0 H1 locs1 → W p l e R s m args below meth c H1 locs1 cells slots Q (F0 m (pc + 1) ls rest)) : W p l e R s m args below meth c H locs cells slots Q (F0 m pc ls (.int x :: .int i :: .ref a :: rest)) := by
  unfold ast at hm
  by_cases hc : i < 0 ∨ n ≤ i.toNatClampNeg
  · rw [if_pos hc] at hm; cases hm
  · rw [if_neg hc] at hm
    refine va_iast hx hb hK hP hD hS q0 0 ha rfl hc hdg (fun H1 locs1 hP hD hS => ?_)
    rw [hw] at hP hD
    exact kk _ H1 locs1 hm hP hD hS
theorem x_zast (hx : p.tables.exec = Jvm.exec) (hb : c.code = cc) (hK : va_K D classes (tyz cs) s) (hP : va_P D classes ws H) (hD : va_D A ws) (hS : va_S A H0 H locs) {a : Nat} (q0 : Nat) {n : Nat} {f : Nat → Int32} (ha : ws[q0]? = some (a, .inl (cs 1, n, .inl f))) {i x : Int32} (h01 : vp_nar .boolean x = x) {σ : Type} (g : Nat → σ) (wf : σ → va_W) (hw : ∀ j, ws.set q0 (a, .inl (cs 1, n, .inl (upd f j x))) = wf (g j)) {k : σ → Option β} (hm : ast n i (nm (g i.toNatClampNeg) k) = some z) (hdg : decode cc pc = .ok (.bastore, 1))
    (kk : ∀ (u : σ) (H1 : Heap) (locs1 : List Loc), k u = some z → va_P D classes (wf u) H1 → va_D A (wf u) → va_S A H0 H1 locs1 → W p l e R s m args below meth c H1 locs1 cells slots Q (F0 m (pc + 1) ls rest)) : W p l e R s m args below meth c H locs cells slots Q (F0 m pc ls (.int x :: .int i :: .ref a :: rest)) := by
  unfold ast at hm
  by_cases hc : i < 0 ∨ n ≤ i.toNatClampNeg
  · rw [if_pos hc] at hm; cases hm
  · rw [if_neg hc] at hm
    refine va_zast hx hb hK hP hD hS q0 1 ha rfl hc hdg (fun H1 locs1 hP hD hS => ?_)
    rw [h01, hw] at hP hD
    exact kk _ H1 locs1 hm hP hD hS
theorem x_lrem {x y : Int64} {k : Option β} (hx : p.tables.exec = Jvm.exec) (hb : c.code = cc) (hm : nzl y k = some z) (hdg : decode cc pc = .ok (.lrem, 1)) (kk : k = some z → W p l e R s m args below meth c H locs cells slots Q (F0 m (pc + 1) ls (.long (x - x / y * y) :: rest))) : W p l e R s m args below meth c H locs cells slots Q (F0 m pc ls (.long y :: .long x :: rest)) := by
  unfold nzl at hm
  by_cases hc : y = 0
  · rw [if_pos hc] at hm; cases hm
  · rw [if_neg hc] at hm
    exact lv_lrem hx hb hdg hc (kk hm)
theorem x_ldiv {x y : Int64} {k : Option β} (hx : p.tables.exec = Jvm.exec) (hb : c.code = cc) (hm : nzl y k = some z) (hdg : decode cc pc = .ok (.ldiv, 1)) (kk : k = some z → W p l e R s m args below meth c H locs cells slots Q (F0 m (pc + 1) ls (.long (x / y) :: rest))) : W p l e R s m args below meth c H locs cells slots Q (F0 m pc ls (.long y :: .long x :: rest)) := by
  unfold nzl at hm
  by_cases hc : y = 0
  · rw [if_pos hc] at hm; cases hm
  · rw [if_neg hc] at hm
    exact lv_ldiv hx hb hdg hc (kk hm)
theorem ob_some {α : Type} {f : Option α} {k : α → Option β} (hm : f.bind k = some z) : ∃ r, f = some r ∧ k r = some z := by
  cases h : f with
  | none => rw [h] at hm; cases hm
  | some r => rw [h] at hm; exact ⟨r, rfl, hm⟩
theorem run_drop {mc ms : Nat} {g : JFrame} {Qa : State → Outcome → State → Prop} {free : Addr → Prop} (h : va_Run p l e R s m args below meth c H locs cells slots mc ms g rest Qa free) : CallRun p l e R s m args below meth c H locs cells slots mc ms g rest Qa free := by
  intro T hT X
  obtain ⟨v, st₀, t, T', L, h0, X', hL, e1, e2, hq, st⟩ := h T hT X
  exact ⟨v, st₀, t, T', L, h0, X', hL, e1, hq, st⟩
theorem pcR_at {wc : va_W} {av : List Value} (hN : NW s) (hK : va_K D classes (tyz cs) s) (hP : va_P D classes wc H) : ∀ U : State, U.heap = H → s.WarmedH U.vm → PcR D cs wc av av.toArray U := by
  intro U hU hW
  exact ⟨rfl, hN.warm hW, by rw [hU]; exact hP, va_K.moved hW.alike hK⟩
theorem pcW_at {wc : va_W} {av : List Value} (hN : NW s) (hK : va_K D classes (tyz cs) s) (hP : va_P D classes wc H) (hD : va_D A wc) : ∀ U : State, U.heap = H → s.WarmedH U.vm → PcW D cs H.size wc av av.toArray U := by
  intro U hU hW
  exact ⟨rfl, hN.warm hW, by rw [hU], by rw [hU]; exact hP, va_K.moved hW.alike hK, hD.weaken (fun _ _ _ _ => trivial)⟩
variable {y : MethodName} {bytes : ByteArray} {maxL n idx : Nat} {ret : Option FieldType} {rm : Room} {C : String} {b : Addr} {As : List Value} {wc wr : va_W} {st0 : List Value}
theorem fm_of {α : Type} {is : List Nat} {g : Nat → Option α} {w : List α} (h : is.map g = w.map some) : is.filterMap g = w := by
  have h1 : is.filterMap g = (is.map g).filterMap id := by rw [List.filterMap_map]; rfl
  rw [h1, h, List.filterMap_map]
  have h2 : (id ∘ some : α → Option α) = some := rfl
  rw [h2]
  exact List.filterMap_some
theorem xV_i {f : Option Int32} {k : Int32 → Option β} (hx : p.tables.exec = Jvm.exec) (hb : c.code = cc) (hml : c.maxLocals = nL) (hown : s.vm.findClass own = some m.cls) (hT : ∀ w ∈ gw_tbl, w.before args s = true) (hN : NW s) (hK : va_K D classes (tyz cs) s) (hP : va_P D classes wc H) (cw : CWV own idx C y bytes maxL ret n) (hm : f.bind k = some z) (hM : ∀ r, f = some r → Met l y (Cond.code y bytes maxL ret :: gw_tbl) rm (PcR D cs wc (.ref b :: As)) (QRi r) 0 0 NoF) (h0 : rm.cells = 0 ∧ rm.slots = 0) (hr : RoomOk rm R maxL) (q0 : Nat) {ci : Nat} {q : vw_C} {fs : List Value} (hc : classes[ci]? = some q) (he : wc[q0]? = some (b, .inr (ci, fs))) (hC : q.1 = C) (hls : ls.size = nL) (hn : As.length = n) (hst : st0 = As.reverse ++ .ref b :: rest) (hW : (rest.map fun v => v.category).sum ≤ 8) (hdg : decode cc pc = .ok (.invokevirtual idx, 3)) (hcl : cells ≤ R.cells ∧ slots ≤ R.slots)
    (kk : ∀ r : Int32, k r = some z → W p l e R s m args below meth c H locs cells slots Q (F0 m (pc + 3) ls (.int r :: rest))) : W p l e R s m args below meth c H locs cells slots Q (F0 m pc ls st0) := by
  obtain ⟨r, hf, hm⟩ := ob_some hm
  refine vp_callSi (run_drop (va_runV (n := n) (b := b) (As := As) (rest := rest) ⟨hx, hb, hml, hown, hT⟩ (hM r hf) (CWV.mk hT cw h0.1 h0.2 hr) ⟨PcR_blind, (by rw [← hC]; exact va_recv hK hP hc he), pcR_at hN hK hP⟩ rfl hn hls hst (lv_room hW) hdg hcl)) (fun r' hr' => ?_)
  subst hr'
  exact kk _ hm
theorem xV_l {f : Option Int64} {k : Int64 → Option β} (hx : p.tables.exec = Jvm.exec) (hb : c.code = cc) (hml : c.maxLocals = nL) (hown : s.vm.findClass own = some m.cls) (hT : ∀ w ∈ gw_tbl, w.before args s = true) (hN : NW s) (hK : va_K D classes (tyz cs) s) (hP : va_P D classes wc H) (cw : CWV own idx C y bytes maxL ret n) (hm : f.bind k = some z) (hM : ∀ r, f = some r → Met l y (Cond.code y bytes maxL ret :: gw_tbl) rm (PcR D cs wc (.ref b :: As)) (QRl r) 0 0 NoF) (h0 : rm.cells = 0 ∧ rm.slots = 0) (hr : RoomOk rm R maxL) (q0 : Nat) {ci : Nat} {q : vw_C} {fs : List Value} (hc : classes[ci]? = some q) (he : wc[q0]? = some (b, .inr (ci, fs))) (hC : q.1 = C) (hls : ls.size = nL) (hn : As.length = n) (hst : st0 = As.reverse ++ .ref b :: rest) (hW : (rest.map fun v => v.category).sum ≤ 8) (hdg : decode cc pc = .ok (.invokevirtual idx, 3)) (hcl : cells ≤ R.cells ∧ slots ≤ R.slots)
    (kk : ∀ r : Int64, k r = some z → W p l e R s m args below meth c H locs cells slots Q (F0 m (pc + 3) ls (.long r :: rest))) : W p l e R s m args below meth c H locs cells slots Q (F0 m pc ls st0) := by
  obtain ⟨r, hf, hm⟩ := ob_some hm
  refine vp_callSl (run_drop (va_runV (n := n) (b := b) (As := As) (rest := rest) ⟨hx, hb, hml, hown, hT⟩ (hM r hf) (CWV.mk hT cw h0.1 h0.2 hr) ⟨PcR_blind, (by rw [← hC]; exact va_recv hK hP hc he), pcR_at hN hK hP⟩ rfl hn hls hst (lv_room hW) hdg hcl)) (fun r' hr' => ?_)
  subst hr'
  exact kk _ hm
theorem xS_i {f : Option Int32} {k : Int32 → Option β} (hx : p.tables.exec = Jvm.exec) (hb : c.code = cc) (hml : c.maxLocals = nL) (hown : s.vm.findClass own = some m.cls) (hT : ∀ w ∈ gw_tbl, w.before args s = true) (hN : NW s) (hK : va_K D classes (tyz cs) s) (hP : va_P D classes wc H) (cw : CWS own idx y bytes maxL ret n) (hm : f.bind k = some z) (hM : ∀ r, f = some r → Met l y (Cond.code y bytes maxL ret :: gw_tbl) rm (PcR D cs wc As) (QRi r) 0 0 NoF) (h0 : rm.cells = 0 ∧ rm.slots = 0) (hr : RoomOk rm R maxL)  (hls : ls.size = nL) (hn : As.length = n) (hst : st0 = As.reverse ++ rest) (hW : (rest.map fun v => v.category).sum ≤ 8) (hdg : decode cc pc = .ok (.invokestatic idx, 3)) (hcl : cells ≤ R.cells ∧ slots ≤ R.slots)
    (kk : ∀ r : Int32, k r = some z → W p l e R s m args below meth c H locs cells slots Q (F0 m (pc + 3) ls (.int r :: rest))) : W p l e R s m args below meth c H locs cells slots Q (F0 m pc ls st0) := by
  obtain ⟨r, hf, hm⟩ := ob_some hm
  refine vp_callSi (run_drop (va_runS (n := n) (As := As) (rest := rest) ⟨hx, hb, hml, hown, hT⟩ (hM r hf) (CWS.mk hT cw h0.1 h0.2 hr) ⟨PcR_blind, pcR_at hN hK hP⟩ rfl hn hls hst (lv_room hW) hdg hcl)) (fun r' hr' => ?_)
  subst hr'
  exact kk _ hm
theorem xS_l {f : Option Int64} {k : Int64 → Option β} (hx : p.tables.exec = Jvm.exec) (hb : c.code = cc) (hml : c.maxLocals = nL) (hown : s.vm.findClass own = some m.cls) (hT : ∀ w ∈ gw_tbl, w.before args s = true) (hN : NW s) (hK : va_K D classes (tyz cs) s) (hP : va_P D classes wc H) (cw : CWS own idx y bytes maxL ret n) (hm : f.bind k = some z) (hM : ∀ r, f = some r → Met l y (Cond.code y bytes maxL ret :: gw_tbl) rm (PcR D cs wc As) (QRl r) 0 0 NoF) (h0 : rm.cells = 0 ∧ rm.slots = 0) (hr : RoomOk rm R maxL)  (hls : ls.size = nL) (hn : As.length = n) (hst : st0 = As.reverse ++ rest) (hW : (rest.map fun v => v.category).sum ≤ 8) (hdg : decode cc pc = .ok (.invokestatic idx, 3)) (hcl : cells ≤ R.cells ∧ slots ≤ R.slots)
    (kk : ∀ r : Int64, k r = some z → W p l e R s m args below meth c H locs cells slots Q (F0 m (pc + 3) ls (.long r :: rest))) : W p l e R s m args below meth c H locs cells slots Q (F0 m pc ls st0) := by
  obtain ⟨r, hf, hm⟩ := ob_some hm
  refine vp_callSl (run_drop (va_runS (n := n) (As := As) (rest := rest) ⟨hx, hb, hml, hown, hT⟩ (hM r hf) (CWS.mk hT cw h0.1 h0.2 hr) ⟨PcR_blind, pcR_at hN hK hP⟩ rfl hn hls hst (lv_room hW) hdg hcl)) (fun r' hr' => ?_)
  subst hr'
  exact kk _ hm
theorem xN_i {f : Option Int32} {k : Int32 → Option β} (hx : p.tables.exec = Jvm.exec) (hb : c.code = cc) (hml : c.maxLocals = nL) (hown : s.vm.findClass own = some m.cls) (hT : ∀ w ∈ gw_tbl, w.before args s = true) (hN : NW s) (hK : va_K D classes (tyz cs) s) (hP : va_P D classes wc H) {host : String} (cw : CWN own idx y host bytes maxL ret n) (hm : f.bind k = some z) (hM : ∀ r, f = some r → Met l y (Cond.code y bytes maxL ret :: gw_tbl) rm (PcR D cs wc As) (QRi r) 0 0 NoF) (h0 : rm.cells = 0 ∧ rm.slots = 0) (hr : RoomOk rm R maxL)  (hls : ls.size = nL) (hn : As.length = n) (hst : st0 = As.reverse ++ rest) (hW : (rest.map fun v => v.category).sum ≤ 8) (hdg : decode cc pc = .ok (.invokestatic idx, 3)) (hcl : cells ≤ R.cells ∧ slots ≤ R.slots)
    (kk : ∀ r : Int32, k r = some z → W p l e R s m args below meth c H locs cells slots Q (F0 m (pc + 3) ls (.int r :: rest))) : W p l e R s m args below meth c H locs cells slots Q (F0 m pc ls st0) := by
  obtain ⟨r, hf, hm⟩ := ob_some hm
  refine vp_callSi (run_drop (va_runSN (n := n) (As := As) (rest := rest) ⟨hx, hb, hml, hown, hT⟩ (hM r hf) (CWN.mk hT hN cw h0.1 h0.2 hr) ⟨PcR_blind, pcR_at hN hK hP⟩ rfl hn hls hst (lv_room hW) hdg hcl)) (fun r' hr' => ?_)
  subst hr'
  exact kk _ hm
theorem xN_l {f : Option Int64} {k : Int64 → Option β} (hx : p.tables.exec = Jvm.exec) (hb : c.code = cc) (hml : c.maxLocals = nL) (hown : s.vm.findClass own = some m.cls) (hT : ∀ w ∈ gw_tbl, w.before args s = true) (hN : NW s) (hK : va_K D classes (tyz cs) s) (hP : va_P D classes wc H) {host : String} (cw : CWN own idx y host bytes maxL ret n) (hm : f.bind k = some z) (hM : ∀ r, f = some r → Met l y (Cond.code y bytes maxL ret :: gw_tbl) rm (PcR D cs wc As) (QRl r) 0 0 NoF) (h0 : rm.cells = 0 ∧ rm.slots = 0) (hr : RoomOk rm R maxL)  (hls : ls.size = nL) (hn : As.length = n) (hst : st0 = As.reverse ++ rest) (hW : (rest.map fun v => v.category).sum ≤ 8) (hdg : decode cc pc = .ok (.invokestatic idx, 3)) (hcl : cells ≤ R.cells ∧ slots ≤ R.slots)
    (kk : ∀ r : Int64, k r = some z → W p l e R s m args below meth c H locs cells slots Q (F0 m (pc + 3) ls (.long r :: rest))) : W p l e R s m args below meth c H locs cells slots Q (F0 m pc ls st0) := by
  obtain ⟨r, hf, hm⟩ := ob_some hm
  refine vp_callSl (run_drop (va_runSN (n := n) (As := As) (rest := rest) ⟨hx, hb, hml, hown, hT⟩ (hM r hf) (CWN.mk hT hN cw h0.1 h0.2 hr) ⟨PcR_blind, pcR_at hN hK hP⟩ rfl hn hls hst (lv_room hW) hdg hcl)) (fun r' hr' => ?_)
  subst hr'
  exact kk _ hm
theorem xVW_i {σ : Type} {wf wg : σ → va_W} {f : Option (Int32 × σ)} {k : (Int32 × σ) → Option β} (hx : p.tables.exec = Jvm.exec) (hb : c.code = cc) (hml : c.maxLocals = nL) (hown : s.vm.findClass own = some m.cls) (hT : ∀ w ∈ gw_tbl, w.before args s = true) (hN : NW s) (hK : va_K D classes (tyz cs) s) (hP : va_P D classes ws H) (hD : va_D A ws) (hS : va_S A H0 H locs) (hA : ∀ q : Nat, H0.size ≤ q → A q) (cw : CWV own idx C y bytes maxL ret n) (hm : f.bind k = some z) (hM : ∀ r, f = some r → Met l y (Cond.code y bytes maxL ret :: gw_tbl) rm (PcW D cs H.size wc (.ref b :: As)) (QWi D cs (va_A wc H.size) wf r) 0 0 (va_A wc H.size)) (h0 : rm.cells = 0 ∧ rm.slots = 0) (hr : RoomOk rm R maxL)
    (isC isR isQ : List Nat) (hC1 : isC.map (fun i => ws[i]?) = wc.map some) (hC2 : va_nd isC = true) (hR1 : isR.map (fun i => ws[i]?) = wr.map some) (hR2 : va_nd isR = true) (hdis : ∀ i ∈ isR, i ∉ isC) (hQ1 : ∀ u, isQ.map (fun i => (wr ++ wf u)[i]?) = (wg u).map some) (hQ2 : va_nd isQ = true) (q0 : Nat) {ci : Nat} {q : vw_C} {fs : List Value} (hc : classes[ci]? = some q) (he : wc[q0]? = some (b, .inr (ci, fs))) (hC : q.1 = C) (hls : ls.size = nL) (hn : As.length = n) (hst : st0 = As.reverse ++ .ref b :: rest) (hW : (rest.map fun v => v.category).sum ≤ 8) (hdg : decode cc pc = .ok (.invokevirtual idx, 3)) (hcl : cells ≤ R.cells ∧ slots ≤ R.slots)
    (kk : ∀ (r : Int32) (u : σ) (H1 : Heap) (locs1 : List Loc), k (r, u) = some z → va_P D classes (wg u) H1 → va_D A (wg u) → va_S A H0 H1 locs1 → W p l e R s m args below meth c H1 locs1 cells slots Q (F0 m (pc + 3) ls (.int r :: rest))) : W p l e R s m args below meth c H locs cells slots Q (F0 m pc ls st0) := by
  obtain ⟨r0, hf, hm⟩ := ob_some hm
  have hPc : va_P D classes wc H := hP.sub isC (fm_of hC1)
  have hDc := hD.sub isC hC2 hC1
  have hFc := va_free hD hS hA isC hC1
  refine va_calli (va_runV (n := n) (b := b) (As := As) (rest := rest) ⟨hx, hb, hml, hown, hT⟩ (hM r0 hf) (CWV.mk hT cw h0.1 h0.2 hr) ⟨PcW_blind, (by rw [← hC]; exact va_recv hK hPc hc he), pcW_at hN hK hPc hDc⟩ rfl hn hls hst (lv_room hW) hdg hcl) hS (fun q _ h => hFc q h) hFc (fun r u t H1 locs1 ht hvm hp hB hz1 hk1 hS1 => ?_)
  cases hp
  obtain ⟨hP1, hK1, hD1⟩ := hB
  rw [ht] at hP1
  obtain ⟨hP2, hD2⟩ := va_join hP hD isC isR hC1 hR1 hR2 hdis hk1 hFc hP1 hD1
  exact kk _ _ _ _ hm (hP2.sub isQ (fm_of (hQ1 _))) (hD2.sub isQ hQ2 (hQ1 _)) hS1
theorem xVW_l {σ : Type} {wf wg : σ → va_W} {f : Option (Int64 × σ)} {k : (Int64 × σ) → Option β} (hx : p.tables.exec = Jvm.exec) (hb : c.code = cc) (hml : c.maxLocals = nL) (hown : s.vm.findClass own = some m.cls) (hT : ∀ w ∈ gw_tbl, w.before args s = true) (hN : NW s) (hK : va_K D classes (tyz cs) s) (hP : va_P D classes ws H) (hD : va_D A ws) (hS : va_S A H0 H locs) (hA : ∀ q : Nat, H0.size ≤ q → A q) (cw : CWV own idx C y bytes maxL ret n) (hm : f.bind k = some z) (hM : ∀ r, f = some r → Met l y (Cond.code y bytes maxL ret :: gw_tbl) rm (PcW D cs H.size wc (.ref b :: As)) (QWl D cs (va_A wc H.size) wf r) 0 0 (va_A wc H.size)) (h0 : rm.cells = 0 ∧ rm.slots = 0) (hr : RoomOk rm R maxL)
    (isC isR isQ : List Nat) (hC1 : isC.map (fun i => ws[i]?) = wc.map some) (hC2 : va_nd isC = true) (hR1 : isR.map (fun i => ws[i]?) = wr.map some) (hR2 : va_nd isR = true) (hdis : ∀ i ∈ isR, i ∉ isC) (hQ1 : ∀ u, isQ.map (fun i => (wr ++ wf u)[i]?) = (wg u).map some) (hQ2 : va_nd isQ = true) (q0 : Nat) {ci : Nat} {q : vw_C} {fs : List Value} (hc : classes[ci]? = some q) (he : wc[q0]? = some (b, .inr (ci, fs))) (hC : q.1 = C) (hls : ls.size = nL) (hn : As.length = n) (hst : st0 = As.reverse ++ .ref b :: rest) (hW : (rest.map fun v => v.category).sum ≤ 8) (hdg : decode cc pc = .ok (.invokevirtual idx, 3)) (hcl : cells ≤ R.cells ∧ slots ≤ R.slots)
    (kk : ∀ (r : Int64) (u : σ) (H1 : Heap) (locs1 : List Loc), k (r, u) = some z → va_P D classes (wg u) H1 → va_D A (wg u) → va_S A H0 H1 locs1 → W p l e R s m args below meth c H1 locs1 cells slots Q (F0 m (pc + 3) ls (.long r :: rest))) : W p l e R s m args below meth c H locs cells slots Q (F0 m pc ls st0) := by
  obtain ⟨r0, hf, hm⟩ := ob_some hm
  have hPc : va_P D classes wc H := hP.sub isC (fm_of hC1)
  have hDc := hD.sub isC hC2 hC1
  have hFc := va_free hD hS hA isC hC1
  refine va_calll (va_runV (n := n) (b := b) (As := As) (rest := rest) ⟨hx, hb, hml, hown, hT⟩ (hM r0 hf) (CWV.mk hT cw h0.1 h0.2 hr) ⟨PcW_blind, (by rw [← hC]; exact va_recv hK hPc hc he), pcW_at hN hK hPc hDc⟩ rfl hn hls hst (lv_room hW) hdg hcl) hS (fun q _ h => hFc q h) hFc (fun r u t H1 locs1 ht hvm hp hB hz1 hk1 hS1 => ?_)
  cases hp
  obtain ⟨hP1, hK1, hD1⟩ := hB
  rw [ht] at hP1
  obtain ⟨hP2, hD2⟩ := va_join hP hD isC isR hC1 hR1 hR2 hdis hk1 hFc hP1 hD1
  exact kk _ _ _ _ hm (hP2.sub isQ (fm_of (hQ1 _))) (hD2.sub isQ hQ2 (hQ1 _)) hS1
theorem xVW_v {σ : Type} {wf wg : σ → va_W} {f : Option (σ)} {k : σ → Option β} (hx : p.tables.exec = Jvm.exec) (hb : c.code = cc) (hml : c.maxLocals = nL) (hown : s.vm.findClass own = some m.cls) (hT : ∀ w ∈ gw_tbl, w.before args s = true) (hN : NW s) (hK : va_K D classes (tyz cs) s) (hP : va_P D classes ws H) (hD : va_D A ws) (hS : va_S A H0 H locs) (hA : ∀ q : Nat, H0.size ≤ q → A q) (cw : CWV own idx C y bytes maxL ret n) (hm : f.bind k = some z) (hM : ∀ r, f = some r → Met l y (Cond.code y bytes maxL ret :: gw_tbl) rm (PcW D cs H.size wc (.ref b :: As)) (QWv D cs (va_A wc H.size) wf r) 0 0 (va_A wc H.size)) (h0 : rm.cells = 0 ∧ rm.slots = 0) (hr : RoomOk rm R maxL)
    (isC isR isQ : List Nat) (hC1 : isC.map (fun i => ws[i]?) = wc.map some) (hC2 : va_nd isC = true) (hR1 : isR.map (fun i => ws[i]?) = wr.map some) (hR2 : va_nd isR = true) (hdis : ∀ i ∈ isR, i ∉ isC) (hQ1 : ∀ u, isQ.map (fun i => (wr ++ wf u)[i]?) = (wg u).map some) (hQ2 : va_nd isQ = true) (q0 : Nat) {ci : Nat} {q : vw_C} {fs : List Value} (hc : classes[ci]? = some q) (he : wc[q0]? = some (b, .inr (ci, fs))) (hC : q.1 = C) (hls : ls.size = nL) (hn : As.length = n) (hst : st0 = As.reverse ++ .ref b :: rest) (hW : (rest.map fun v => v.category).sum ≤ 8) (hdg : decode cc pc = .ok (.invokevirtual idx, 3)) (hcl : cells ≤ R.cells ∧ slots ≤ R.slots)
    (kk : ∀ (u : σ) (H1 : Heap) (locs1 : List Loc), k u = some z → va_P D classes (wg u) H1 → va_D A (wg u) → va_S A H0 H1 locs1 → W p l e R s m args below meth c H1 locs1 cells slots Q (F0 m (pc + 3) ls (rest))) : W p l e R s m args below meth c H locs cells slots Q (F0 m pc ls st0) := by
  obtain ⟨r0, hf, hm⟩ := ob_some hm
  have hPc : va_P D classes wc H := hP.sub isC (fm_of hC1)
  have hDc := hD.sub isC hC2 hC1
  have hFc := va_free hD hS hA isC hC1
  refine va_callv (va_runV (n := n) (b := b) (As := As) (rest := rest) ⟨hx, hb, hml, hown, hT⟩ (hM r0 hf) (CWV.mk hT cw h0.1 h0.2 hr) ⟨PcW_blind, (by rw [← hC]; exact va_recv hK hPc hc he), pcW_at hN hK hPc hDc⟩ rfl hn hls hst (lv_room hW) hdg hcl) hS (fun q _ h => hFc q h) hFc (fun u t H1 locs1 ht hvm hp hB hz1 hk1 hS1 => ?_)
  subst hp
  obtain ⟨hP1, hK1, hD1⟩ := hB
  rw [ht] at hP1
  obtain ⟨hP2, hD2⟩ := va_join hP hD isC isR hC1 hR1 hR2 hdis hk1 hFc hP1 hD1
  exact kk  _ _ _ hm (hP2.sub isQ (fm_of (hQ1 _))) (hD2.sub isQ hQ2 (hQ1 _)) hS1
theorem xSW_i {σ : Type} {wf wg : σ → va_W} {f : Option (Int32 × σ)} {k : (Int32 × σ) → Option β} (hx : p.tables.exec = Jvm.exec) (hb : c.code = cc) (hml : c.maxLocals = nL) (hown : s.vm.findClass own = some m.cls) (hT : ∀ w ∈ gw_tbl, w.before args s = true) (hN : NW s) (hK : va_K D classes (tyz cs) s) (hP : va_P D classes ws H) (hD : va_D A ws) (hS : va_S A H0 H locs) (hA : ∀ q : Nat, H0.size ≤ q → A q) (cw : CWS own idx y bytes maxL ret n) (hm : f.bind k = some z) (hM : ∀ r, f = some r → Met l y (Cond.code y bytes maxL ret :: gw_tbl) rm (PcW D cs H.size wc As) (QWi D cs (va_A wc H.size) wf r) 0 0 (va_A wc H.size)) (h0 : rm.cells = 0 ∧ rm.slots = 0) (hr : RoomOk rm R maxL)
    (isC isR isQ : List Nat) (hC1 : isC.map (fun i => ws[i]?) = wc.map some) (hC2 : va_nd isC = true) (hR1 : isR.map (fun i => ws[i]?) = wr.map some) (hR2 : va_nd isR = true) (hdis : ∀ i ∈ isR, i ∉ isC) (hQ1 : ∀ u, isQ.map (fun i => (wr ++ wf u)[i]?) = (wg u).map some) (hQ2 : va_nd isQ = true)  (hls : ls.size = nL) (hn : As.length = n) (hst : st0 = As.reverse ++ rest) (hW : (rest.map fun v => v.category).sum ≤ 8) (hdg : decode cc pc = .ok (.invokestatic idx, 3)) (hcl : cells ≤ R.cells ∧ slots ≤ R.slots)
    (kk : ∀ (r : Int32) (u : σ) (H1 : Heap) (locs1 : List Loc), k (r, u) = some z → va_P D classes (wg u) H1 → va_D A (wg u) → va_S A H0 H1 locs1 → W p l e R s m args below meth c H1 locs1 cells slots Q (F0 m (pc + 3) ls (.int r :: rest))) : W p l e R s m args below meth c H locs cells slots Q (F0 m pc ls st0) := by
  obtain ⟨r0, hf, hm⟩ := ob_some hm
  have hPc : va_P D classes wc H := hP.sub isC (fm_of hC1)
  have hDc := hD.sub isC hC2 hC1
  have hFc := va_free hD hS hA isC hC1
  refine va_calli (va_runS (n := n) (As := As) (rest := rest) ⟨hx, hb, hml, hown, hT⟩ (hM r0 hf) (CWS.mk hT cw h0.1 h0.2 hr) ⟨PcW_blind, pcW_at hN hK hPc hDc⟩ rfl hn hls hst (lv_room hW) hdg hcl) hS (fun q _ h => hFc q h) hFc (fun r u t H1 locs1 ht hvm hp hB hz1 hk1 hS1 => ?_)
  cases hp
  obtain ⟨hP1, hK1, hD1⟩ := hB
  rw [ht] at hP1
  obtain ⟨hP2, hD2⟩ := va_join hP hD isC isR hC1 hR1 hR2 hdis hk1 hFc hP1 hD1
  exact kk _ _ _ _ hm (hP2.sub isQ (fm_of (hQ1 _))) (hD2.sub isQ hQ2 (hQ1 _)) hS1
theorem xSW_l {σ : Type} {wf wg : σ → va_W} {f : Option (Int64 × σ)} {k : (Int64 × σ) → Option β} (hx : p.tables.exec = Jvm.exec) (hb : c.code = cc) (hml : c.maxLocals = nL) (hown : s.vm.findClass own = some m.cls) (hT : ∀ w ∈ gw_tbl, w.before args s = true) (hN : NW s) (hK : va_K D classes (tyz cs) s) (hP : va_P D classes ws H) (hD : va_D A ws) (hS : va_S A H0 H locs) (hA : ∀ q : Nat, H0.size ≤ q → A q) (cw : CWS own idx y bytes maxL ret n) (hm : f.bind k = some z) (hM : ∀ r, f = some r → Met l y (Cond.code y bytes maxL ret :: gw_tbl) rm (PcW D cs H.size wc As) (QWl D cs (va_A wc H.size) wf r) 0 0 (va_A wc H.size)) (h0 : rm.cells = 0 ∧ rm.slots = 0) (hr : RoomOk rm R maxL)
    (isC isR isQ : List Nat) (hC1 : isC.map (fun i => ws[i]?) = wc.map some) (hC2 : va_nd isC = true) (hR1 : isR.map (fun i => ws[i]?) = wr.map some) (hR2 : va_nd isR = true) (hdis : ∀ i ∈ isR, i ∉ isC) (hQ1 : ∀ u, isQ.map (fun i => (wr ++ wf u)[i]?) = (wg u).map some) (hQ2 : va_nd isQ = true)  (hls : ls.size = nL) (hn : As.length = n) (hst : st0 = As.reverse ++ rest) (hW : (rest.map fun v => v.category).sum ≤ 8) (hdg : decode cc pc = .ok (.invokestatic idx, 3)) (hcl : cells ≤ R.cells ∧ slots ≤ R.slots)
    (kk : ∀ (r : Int64) (u : σ) (H1 : Heap) (locs1 : List Loc), k (r, u) = some z → va_P D classes (wg u) H1 → va_D A (wg u) → va_S A H0 H1 locs1 → W p l e R s m args below meth c H1 locs1 cells slots Q (F0 m (pc + 3) ls (.long r :: rest))) : W p l e R s m args below meth c H locs cells slots Q (F0 m pc ls st0) := by
  obtain ⟨r0, hf, hm⟩ := ob_some hm
  have hPc : va_P D classes wc H := hP.sub isC (fm_of hC1)
  have hDc := hD.sub isC hC2 hC1
  have hFc := va_free hD hS hA isC hC1
  refine va_calll (va_runS (n := n) (As := As) (rest := rest) ⟨hx, hb, hml, hown, hT⟩ (hM r0 hf) (CWS.mk hT cw h0.1 h0.2 hr) ⟨PcW_blind, pcW_at hN hK hPc hDc⟩ rfl hn hls hst (lv_room hW) hdg hcl) hS (fun q _ h => hFc q h) hFc (fun r u t H1 locs1 ht hvm hp hB hz1 hk1 hS1 => ?_)
  cases hp
  obtain ⟨hP1, hK1, hD1⟩ := hB
  rw [ht] at hP1
  obtain ⟨hP2, hD2⟩ := va_join hP hD isC isR hC1 hR1 hR2 hdis hk1 hFc hP1 hD1
  exact kk _ _ _ _ hm (hP2.sub isQ (fm_of (hQ1 _))) (hD2.sub isQ hQ2 (hQ1 _)) hS1
theorem xSW_v {σ : Type} {wf wg : σ → va_W} {f : Option (σ)} {k : σ → Option β} (hx : p.tables.exec = Jvm.exec) (hb : c.code = cc) (hml : c.maxLocals = nL) (hown : s.vm.findClass own = some m.cls) (hT : ∀ w ∈ gw_tbl, w.before args s = true) (hN : NW s) (hK : va_K D classes (tyz cs) s) (hP : va_P D classes ws H) (hD : va_D A ws) (hS : va_S A H0 H locs) (hA : ∀ q : Nat, H0.size ≤ q → A q) (cw : CWS own idx y bytes maxL ret n) (hm : f.bind k = some z) (hM : ∀ r, f = some r → Met l y (Cond.code y bytes maxL ret :: gw_tbl) rm (PcW D cs H.size wc As) (QWv D cs (va_A wc H.size) wf r) 0 0 (va_A wc H.size)) (h0 : rm.cells = 0 ∧ rm.slots = 0) (hr : RoomOk rm R maxL)
    (isC isR isQ : List Nat) (hC1 : isC.map (fun i => ws[i]?) = wc.map some) (hC2 : va_nd isC = true) (hR1 : isR.map (fun i => ws[i]?) = wr.map some) (hR2 : va_nd isR = true) (hdis : ∀ i ∈ isR, i ∉ isC) (hQ1 : ∀ u, isQ.map (fun i => (wr ++ wf u)[i]?) = (wg u).map some) (hQ2 : va_nd isQ = true)  (hls : ls.size = nL) (hn : As.length = n) (hst : st0 = As.reverse ++ rest) (hW : (rest.map fun v => v.category).sum ≤ 8) (hdg : decode cc pc = .ok (.invokestatic idx, 3)) (hcl : cells ≤ R.cells ∧ slots ≤ R.slots)
    (kk : ∀ (u : σ) (H1 : Heap) (locs1 : List Loc), k u = some z → va_P D classes (wg u) H1 → va_D A (wg u) → va_S A H0 H1 locs1 → W p l e R s m args below meth c H1 locs1 cells slots Q (F0 m (pc + 3) ls (rest))) : W p l e R s m args below meth c H locs cells slots Q (F0 m pc ls st0) := by
  obtain ⟨r0, hf, hm⟩ := ob_some hm
  have hPc : va_P D classes wc H := hP.sub isC (fm_of hC1)
  have hDc := hD.sub isC hC2 hC1
  have hFc := va_free hD hS hA isC hC1
  refine va_callv (va_runS (n := n) (As := As) (rest := rest) ⟨hx, hb, hml, hown, hT⟩ (hM r0 hf) (CWS.mk hT cw h0.1 h0.2 hr) ⟨PcW_blind, pcW_at hN hK hPc hDc⟩ rfl hn hls hst (lv_room hW) hdg hcl) hS (fun q _ h => hFc q h) hFc (fun u t H1 locs1 ht hvm hp hB hz1 hk1 hS1 => ?_)
  subst hp
  obtain ⟨hP1, hK1, hD1⟩ := hB
  rw [ht] at hP1
  obtain ⟨hP2, hD2⟩ := va_join hP hD isC isR hC1 hR1 hR2 hdis hk1 hFc hP1 hD1
  exact kk  _ _ _ hm (hP2.sub isQ (fm_of (hQ1 _))) (hD2.sub isQ hQ2 (hQ1 _)) hS1
theorem xNW_i {σ : Type} {wf wg : σ → va_W} {f : Option (Int32 × σ)} {k : (Int32 × σ) → Option β} (hx : p.tables.exec = Jvm.exec) (hb : c.code = cc) (hml : c.maxLocals = nL) (hown : s.vm.findClass own = some m.cls) (hT : ∀ w ∈ gw_tbl, w.before args s = true) (hN : NW s) (hK : va_K D classes (tyz cs) s) (hP : va_P D classes ws H) (hD : va_D A ws) (hS : va_S A H0 H locs) (hA : ∀ q : Nat, H0.size ≤ q → A q) {host : String} (cw : CWN own idx y host bytes maxL ret n) (hm : f.bind k = some z) (hM : ∀ r, f = some r → Met l y (Cond.code y bytes maxL ret :: gw_tbl) rm (PcW D cs H.size wc As) (QWi D cs (va_A wc H.size) wf r) 0 0 (va_A wc H.size)) (h0 : rm.cells = 0 ∧ rm.slots = 0) (hr : RoomOk rm R maxL)
    (isC isR isQ : List Nat) (hC1 : isC.map (fun i => ws[i]?) = wc.map some) (hC2 : va_nd isC = true) (hR1 : isR.map (fun i => ws[i]?) = wr.map some) (hR2 : va_nd isR = true) (hdis : ∀ i ∈ isR, i ∉ isC) (hQ1 : ∀ u, isQ.map (fun i => (wr ++ wf u)[i]?) = (wg u).map some) (hQ2 : va_nd isQ = true)  (hls : ls.size = nL) (hn : As.length = n) (hst : st0 = As.reverse ++ rest) (hW : (rest.map fun v => v.category).sum ≤ 8) (hdg : decode cc pc = .ok (.invokestatic idx, 3)) (hcl : cells ≤ R.cells ∧ slots ≤ R.slots)
    (kk : ∀ (r : Int32) (u : σ) (H1 : Heap) (locs1 : List Loc), k (r, u) = some z → va_P D classes (wg u) H1 → va_D A (wg u) → va_S A H0 H1 locs1 → W p l e R s m args below meth c H1 locs1 cells slots Q (F0 m (pc + 3) ls (.int r :: rest))) : W p l e R s m args below meth c H locs cells slots Q (F0 m pc ls st0) := by
  obtain ⟨r0, hf, hm⟩ := ob_some hm
  have hPc : va_P D classes wc H := hP.sub isC (fm_of hC1)
  have hDc := hD.sub isC hC2 hC1
  have hFc := va_free hD hS hA isC hC1
  refine va_calli (va_runSN (n := n) (As := As) (rest := rest) ⟨hx, hb, hml, hown, hT⟩ (hM r0 hf) (CWN.mk hT hN cw h0.1 h0.2 hr) ⟨PcW_blind, pcW_at hN hK hPc hDc⟩ rfl hn hls hst (lv_room hW) hdg hcl) hS (fun q _ h => hFc q h) hFc (fun r u t H1 locs1 ht hvm hp hB hz1 hk1 hS1 => ?_)
  cases hp
  obtain ⟨hP1, hK1, hD1⟩ := hB
  rw [ht] at hP1
  obtain ⟨hP2, hD2⟩ := va_join hP hD isC isR hC1 hR1 hR2 hdis hk1 hFc hP1 hD1
  exact kk _ _ _ _ hm (hP2.sub isQ (fm_of (hQ1 _))) (hD2.sub isQ hQ2 (hQ1 _)) hS1
theorem xNW_l {σ : Type} {wf wg : σ → va_W} {f : Option (Int64 × σ)} {k : (Int64 × σ) → Option β} (hx : p.tables.exec = Jvm.exec) (hb : c.code = cc) (hml : c.maxLocals = nL) (hown : s.vm.findClass own = some m.cls) (hT : ∀ w ∈ gw_tbl, w.before args s = true) (hN : NW s) (hK : va_K D classes (tyz cs) s) (hP : va_P D classes ws H) (hD : va_D A ws) (hS : va_S A H0 H locs) (hA : ∀ q : Nat, H0.size ≤ q → A q) {host : String} (cw : CWN own idx y host bytes maxL ret n) (hm : f.bind k = some z) (hM : ∀ r, f = some r → Met l y (Cond.code y bytes maxL ret :: gw_tbl) rm (PcW D cs H.size wc As) (QWl D cs (va_A wc H.size) wf r) 0 0 (va_A wc H.size)) (h0 : rm.cells = 0 ∧ rm.slots = 0) (hr : RoomOk rm R maxL)
    (isC isR isQ : List Nat) (hC1 : isC.map (fun i => ws[i]?) = wc.map some) (hC2 : va_nd isC = true) (hR1 : isR.map (fun i => ws[i]?) = wr.map some) (hR2 : va_nd isR = true) (hdis : ∀ i ∈ isR, i ∉ isC) (hQ1 : ∀ u, isQ.map (fun i => (wr ++ wf u)[i]?) = (wg u).map some) (hQ2 : va_nd isQ = true)  (hls : ls.size = nL) (hn : As.length = n) (hst : st0 = As.reverse ++ rest) (hW : (rest.map fun v => v.category).sum ≤ 8) (hdg : decode cc pc = .ok (.invokestatic idx, 3)) (hcl : cells ≤ R.cells ∧ slots ≤ R.slots)
    (kk : ∀ (r : Int64) (u : σ) (H1 : Heap) (locs1 : List Loc), k (r, u) = some z → va_P D classes (wg u) H1 → va_D A (wg u) → va_S A H0 H1 locs1 → W p l e R s m args below meth c H1 locs1 cells slots Q (F0 m (pc + 3) ls (.long r :: rest))) : W p l e R s m args below meth c H locs cells slots Q (F0 m pc ls st0) := by
  obtain ⟨r0, hf, hm⟩ := ob_some hm
  have hPc : va_P D classes wc H := hP.sub isC (fm_of hC1)
  have hDc := hD.sub isC hC2 hC1
  have hFc := va_free hD hS hA isC hC1
  refine va_calll (va_runSN (n := n) (As := As) (rest := rest) ⟨hx, hb, hml, hown, hT⟩ (hM r0 hf) (CWN.mk hT hN cw h0.1 h0.2 hr) ⟨PcW_blind, pcW_at hN hK hPc hDc⟩ rfl hn hls hst (lv_room hW) hdg hcl) hS (fun q _ h => hFc q h) hFc (fun r u t H1 locs1 ht hvm hp hB hz1 hk1 hS1 => ?_)
  cases hp
  obtain ⟨hP1, hK1, hD1⟩ := hB
  rw [ht] at hP1
  obtain ⟨hP2, hD2⟩ := va_join hP hD isC isR hC1 hR1 hR2 hdis hk1 hFc hP1 hD1
  exact kk _ _ _ _ hm (hP2.sub isQ (fm_of (hQ1 _))) (hD2.sub isQ hQ2 (hQ1 _)) hS1
theorem xNW_v {σ : Type} {wf wg : σ → va_W} {f : Option (σ)} {k : σ → Option β} (hx : p.tables.exec = Jvm.exec) (hb : c.code = cc) (hml : c.maxLocals = nL) (hown : s.vm.findClass own = some m.cls) (hT : ∀ w ∈ gw_tbl, w.before args s = true) (hN : NW s) (hK : va_K D classes (tyz cs) s) (hP : va_P D classes ws H) (hD : va_D A ws) (hS : va_S A H0 H locs) (hA : ∀ q : Nat, H0.size ≤ q → A q) {host : String} (cw : CWN own idx y host bytes maxL ret n) (hm : f.bind k = some z) (hM : ∀ r, f = some r → Met l y (Cond.code y bytes maxL ret :: gw_tbl) rm (PcW D cs H.size wc As) (QWv D cs (va_A wc H.size) wf r) 0 0 (va_A wc H.size)) (h0 : rm.cells = 0 ∧ rm.slots = 0) (hr : RoomOk rm R maxL)
    (isC isR isQ : List Nat) (hC1 : isC.map (fun i => ws[i]?) = wc.map some) (hC2 : va_nd isC = true) (hR1 : isR.map (fun i => ws[i]?) = wr.map some) (hR2 : va_nd isR = true) (hdis : ∀ i ∈ isR, i ∉ isC) (hQ1 : ∀ u, isQ.map (fun i => (wr ++ wf u)[i]?) = (wg u).map some) (hQ2 : va_nd isQ = true)  (hls : ls.size = nL) (hn : As.length = n) (hst : st0 = As.reverse ++ rest) (hW : (rest.map fun v => v.category).sum ≤ 8) (hdg : decode cc pc = .ok (.invokestatic idx, 3)) (hcl : cells ≤ R.cells ∧ slots ≤ R.slots)
    (kk : ∀ (u : σ) (H1 : Heap) (locs1 : List Loc), k u = some z → va_P D classes (wg u) H1 → va_D A (wg u) → va_S A H0 H1 locs1 → W p l e R s m args below meth c H1 locs1 cells slots Q (F0 m (pc + 3) ls (rest))) : W p l e R s m args below meth c H locs cells slots Q (F0 m pc ls st0) := by
  obtain ⟨r0, hf, hm⟩ := ob_some hm
  have hPc : va_P D classes wc H := hP.sub isC (fm_of hC1)
  have hDc := hD.sub isC hC2 hC1
  have hFc := va_free hD hS hA isC hC1
  refine va_callv (va_runSN (n := n) (As := As) (rest := rest) ⟨hx, hb, hml, hown, hT⟩ (hM r0 hf) (CWN.mk hT hN cw h0.1 h0.2 hr) ⟨PcW_blind, pcW_at hN hK hPc hDc⟩ rfl hn hls hst (lv_room hW) hdg hcl) hS (fun q _ h => hFc q h) hFc (fun u t H1 locs1 ht hvm hp hB hz1 hk1 hS1 => ?_)
  subst hp
  obtain ⟨hP1, hK1, hD1⟩ := hB
  rw [ht] at hP1
  obtain ⟨hP2, hD2⟩ := va_join hP hD isC isR hC1 hR1 hR2 hdis hk1 hFc hP1 hD1
  exact kk  _ _ _ hm (hP2.sub isQ (fm_of (hQ1 _))) (hD2.sub isQ hQ2 (hQ1 _)) hS1
end KX
section KM
variable {l : Launch} {y : MethodName} {bytes : ByteArray} {maxL : Nat} {ret : Option FieldType} {rm : Room} {D : va_G} {cs : CS} {ws : va_W} {av : List Value}
theorem met_R {Qc : Array Value → State → Outcome → State → Prop} (hy : plainName y.cls = true) (hav : (lg_sl av).length ≤ maxL)
    (body : ∀ (p : Program) (e : Env) (s : State) (m : MethodId) (below : List Frame) (meth : Method) (c : Code), EV p s m av.toArray meth c bytes maxL y.cls ret D cs → va_P D classes ws s.heap → ∀ ls : Array Slot, lv_has ls maxL (lv_args 0 av) →
      W p l e rm s m av.toArray below meth c s.heap [] 0 0 (MQ below Qc av.toArray s 0 0 NoF) (F0 m 0 ls [])) : Met l y (Cond.code y bytes maxL ret :: gw_tbl) rm (PcR D cs ws av) Qc 0 0 NoF := by
  refine Met.ofW (cc := bytes) (maxL := maxL) (ret := ret) hy rfl ?_
  intro p e s m args below meth c s₁ B hml hv
  obtain ⟨rfl, hN, hP, hK⟩ := hv
  have hts := atoms_spec (ws := Cond.code y bytes maxL ret :: gw_tbl) B.pre
  rw [lg_entry_eq]
  exact body p e s m below meth c ⟨B.exec, B.bytes, B.returns, hml, findClass_of_methodNamed B.named, B.notSynchronized, fun w h => hts w (List.mem_cons_of_mem _ h), hN, hK⟩ hP _ (lv_entry av hav)
theorem met_W {Qc : Array Value → State → Outcome → State → Prop} {sz : Nat} (hy : plainName y.cls = true) (hav : (lg_sl av).length ≤ maxL)
    (body : ∀ (p : Program) (e : Env) (s : State) (m : MethodId) (below : List Frame) (meth : Method) (c : Code), EV p s m av.toArray meth c bytes maxL y.cls ret D cs → va_P D classes ws s.heap → va_D (va_A ws sz) ws → va_S (va_A ws sz) s.heap s.heap [] → (∀ q : Nat, s.heap.size ≤ q → va_A ws sz q) → ∀ ls : Array Slot, lv_has ls maxL (lv_args 0 av) →
      W p l e rm s m av.toArray below meth c s.heap [] 0 0 (MQ below Qc av.toArray s 0 0 (va_A ws sz)) (F0 m 0 ls [])) : Met l y (Cond.code y bytes maxL ret :: gw_tbl) rm (PcW D cs sz ws av) Qc 0 0 (va_A ws sz) := by
  refine Met.ofW (cc := bytes) (maxL := maxL) (ret := ret) hy rfl ?_
  intro p e s m args below meth c s₁ B hml hv
  obtain ⟨rfl, hN, hsz, hP, hK, hD⟩ := hv
  have hts := atoms_spec (ws := Cond.code y bytes maxL ret :: gw_tbl) B.pre
  rw [lg_entry_eq]
  subst hsz
  exact body p e s m below meth c ⟨B.exec, B.bytes, B.returns, hml, findClass_of_methodNamed B.named, B.notSynchronized, fun w h => hts w (List.mem_cons_of_mem _ h), hN, hK⟩ hP hD.self va_S.rf (fun q h => Or.inr h) _ (lv_entry av hav)
end KM
section KE
variable {p : Program} {l : Launch} {e : Env} {R : Room} {s : State} {m : MethodId} {args : Array Value} {below : List Frame} {meth : Method} {c : Code} {H : Heap} {locs : List Loc} {cc : ByteArray} {pc : Nat} {ls : Array Slot} {D : va_G} {cs : CS} {A : Nat → Prop} {σ : Type} {wf : σ → va_W}
theorem x_iretR {v z : Int32} (hx : p.tables.exec = Jvm.exec) (hb : c.code = cc) (hr : meth.sig.returnType = some .int) (hlk : meth.locks = false) (hm : some v = some z) (hdg : decode cc pc = .ok (.ireturn, 1)) : W p l e R s m args below meth c s.heap [] 0 0 (MQ below (QRi z) args s 0 0 NoF) (F0 m pc ls [.int v]) :=
  W.iret hx hb hr (fun t ht _ => ⟨v, rfl, Option.some.inj hm, ht⟩) (fun _ h => nomatch h) hdg hlk
theorem nar_zo {v : Int32} (h : v = 0 ∨ v = 1) : narrow .boolean (.int v) = .int v := by rcases h with rfl | rfl <;> decide +kernel
theorem x_zretR {v z : Int32} (hx : p.tables.exec = Jvm.exec) (hb : c.code = cc) (hr : meth.sig.returnType = some .boolean) (hlk : meth.locks = false) (hm : zo v (some v) = some z) (hdg : decode cc pc = .ok (.ireturn, 1)) : W p l e R s m args below meth c s.heap [] 0 0 (MQ below (QRi z) args s 0 0 NoF) (F0 m pc ls [.int v]) := by
  unfold zo at hm
  by_cases hc : v = 0 ∨ v = 1
  · rw [if_pos hc] at hm
    exact W.zret hx hb hr (nar_zo hc) (fun t ht _ => ⟨v, rfl, Option.some.inj hm, ht⟩) (fun _ h => nomatch h) hdg hlk
  · rw [if_neg hc] at hm; cases hm
theorem x_lretR {v z : Int64} (hx : p.tables.exec = Jvm.exec) (hb : c.code = cc) (hr : meth.sig.returnType = some .long) (hlk : meth.locks = false) (hm : some v = some z) (hdg : decode cc pc = .ok (.lreturn, 1)) : W p l e R s m args below meth c s.heap [] 0 0 (MQ below (QRl z) args s 0 0 NoF) (F0 m pc ls [.long v]) :=
  W.lret hx hb hr (fun t ht _ => ⟨v, rfl, Option.some.inj hm, ht⟩) (fun _ h => nomatch h) hdg hlk
theorem x_iretW {v : Int32} {u : σ} {z : Int32 × σ} (hx : p.tables.exec = Jvm.exec) (hb : c.code = cc) (hr : meth.sig.returnType = some .int) (hlk : meth.locks = false) (hK : va_K D classes (tyz cs) s) (hP : va_P D classes (wf u) H) (hD : va_D A (wf u)) (hS : va_S A s.heap H locs) (hm : some (v, u) = some z) (hdg : decode cc pc = .ok (.ireturn, 1)) : W p l e R s m args below meth c H locs 0 0 (MQ below (QWi D cs A wf z) args s 0 0 A) (F0 m pc ls [.int v]) :=
  W.iret hx hb hr (fun t ht hW => ⟨⟨v, u, rfl, Option.some.inj hm, by rw [ht]; exact hP, va_K.moved hW.alike hK, hD⟩, hS.F ht⟩) hS.2.2 hdg hlk
theorem x_zretW {v : Int32} {u : σ} {z : Int32 × σ} (hx : p.tables.exec = Jvm.exec) (hb : c.code = cc) (hr : meth.sig.returnType = some .boolean) (hlk : meth.locks = false) (hK : va_K D classes (tyz cs) s) (hP : va_P D classes (wf u) H) (hD : va_D A (wf u)) (hS : va_S A s.heap H locs) (hm : zo v (some (v, u)) = some z) (hdg : decode cc pc = .ok (.ireturn, 1)) : W p l e R s m args below meth c H locs 0 0 (MQ below (QWi D cs A wf z) args s 0 0 A) (F0 m pc ls [.int v]) := by
  unfold zo at hm
  by_cases hc : v = 0 ∨ v = 1
  · rw [if_pos hc] at hm
    exact W.zret hx hb hr (nar_zo hc) (fun t ht hW => ⟨⟨v, u, rfl, Option.some.inj hm, by rw [ht]; exact hP, va_K.moved hW.alike hK, hD⟩, hS.F ht⟩) hS.2.2 hdg hlk
  · rw [if_neg hc] at hm; cases hm
theorem x_lretW {v : Int64} {u : σ} {z : Int64 × σ} (hx : p.tables.exec = Jvm.exec) (hb : c.code = cc) (hr : meth.sig.returnType = some .long) (hlk : meth.locks = false) (hK : va_K D classes (tyz cs) s) (hP : va_P D classes (wf u) H) (hD : va_D A (wf u)) (hS : va_S A s.heap H locs) (hm : some (v, u) = some z) (hdg : decode cc pc = .ok (.lreturn, 1)) : W p l e R s m args below meth c H locs 0 0 (MQ below (QWl D cs A wf z) args s 0 0 A) (F0 m pc ls [.long v]) :=
  W.lret hx hb hr (fun t ht hW => ⟨⟨v, u, rfl, Option.some.inj hm, by rw [ht]; exact hP, va_K.moved hW.alike hK, hD⟩, hS.F ht⟩) hS.2.2 hdg hlk
theorem x_vretW {u z : σ} (hx : p.tables.exec = Jvm.exec) (hb : c.code = cc) (hr : meth.sig.returnType = none) (hlk : meth.locks = false) (hK : va_K D classes (tyz cs) s) (hP : va_P D classes (wf u) H) (hD : va_D A (wf u)) (hS : va_S A s.heap H locs) (hm : some u = some z) (hdg : decode cc pc = .ok (.return_, 1)) : W p l e R s m args below meth c H locs 0 0 (MQ below (QWv D cs A wf z) args s 0 0 A) (F0 m pc ls []) :=
  W.vret hx hb hr (fun t ht hW => ⟨⟨u, rfl, Option.some.inj hm, by rw [ht]; exact hP, va_K.moved hW.alike hK, hD⟩, hS.F ht⟩) hS.2.2 hdg hlk
end KE
