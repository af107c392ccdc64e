/-! the law: its cases, one a call -/
set_option maxHeartbeats 4000000 in
set_option maxRecDepth 100000 in
theorem lc_book {p : Program} {l : Launch} {e : Env} {s : State} {m : MethodId} {below : List Frame} {meth : Method} {c : Code} {D : va_G} {cs : CS} {kS vS ad ad2 : Nat → Nat} {b L : Nat} {xs : Nat → Int32} {H : Heap} {locs : List Loc} {ls : Array Slot} (hL : LC p s m meth c D cs kS vS b L xs) {K : Nat} {C : CT} {S : MS} (hs : Sim K C S) (hK64 : K ≤ 64) {i : Nat} (hi : i + 5 ≤ L) (h320 : L ≤ 320) (hP : va_P D classes (WC cs ad C ++ WM cs ad2 S) H) (hD : va_D (LA s) (WC cs ad C ++ WM cs ad2 S)) (hS : va_S (LA s) s.heap H locs) (hl : lv_has ls 4 [(0, .ref b), (1, .ref (ad 0)), (2, .ref (ad2 22)), (3, .int (nI i))]) (kont : ∀ (C : CT) (S : MS) (H : Heap) (locs : List Loc), Sim (K + 1) C S → va_P D classes (WC cs ad C ++ WM cs ad2 S) H → va_D (LA s) (WC cs ad C ++ WM cs ad2 S) → va_S (LA s) s.heap H locs → W p l e room_1 s m #[Value.ref b] below meth c H locs 73 1324 (lw_Z below #[Value.ref b] s) (F0 m 1015 ls [])) : W p l e room_1 s m #[Value.ref b] below meth c H locs 73 1324 (lw_Z below #[Value.ref b] s) (F0 m 188 ls []) := by
  obtain ⟨hx, hb, hr, hml, hown, hT, hN, hK, hE, hX, hbl, hlk⟩ := id hL
  have hbA : ¬ LA s b := Nat.not_le.mpr hbl
  have h1 : vp_in (nI i + nI 1) L := by rw [nI_add]; exact vp_in_nI (by omega) (by omega)
  obtain ⟨r, C2, S2, e1, e2, hs2⟩ := g_book hs (xs (nI i + nI 1).toNatClampNeg)
  refine lv_aload_n hx hb dL_law_188 rfl (lv_at hl 1 rfl) ?_
  refine lv_aload_n hx hb dL_law_189 rfl (lv_at hl 0 rfl) ?_
  refine lv_iload_n hx hb dL_law_190 rfl (lv_at hl 3 rfl) ?_
  refine lv_iconst (v := (nI 1)) hx hb dL_law_191 (by decide) ?_
  refine lv_iadd hx hb dL_law_192 ?_
  refine va_sld hx hb hX hbl hbA hS h1 dL_law_193 ?_
  refine LcWi (As := [.int (xs (nI i + nI 1).toNatClampNeg)]) (rest := []) hL hP hD hS cw_L_13 e1 (fun z hz => tcX10_book l D cs ad H.size C (xs (nI i + nI 1).toNatClampNeg) z hz) ⟨rfl, rfl⟩ ⟨Nat.le_of_ble_eq_true rfl, Nat.le_of_ble_eq_true rfl⟩ hl.1 rfl rfl (Nat.le_of_ble_eq_true rfl) dL_law_194 (fun H locs hP hD hS => ?_)
  refine lv_aload_n hx hb dL_law_197 rfl (lv_at hl 2 rfl) ?_
  refine lv_aload_n hx hb dL_law_198 rfl (lv_at hl 0 rfl) ?_
  refine lv_iload_n hx hb dL_law_199 rfl (lv_at hl 3 rfl) ?_
  refine lv_iconst (v := (nI 1)) hx hb dL_law_200 (by decide) ?_
  refine lv_iadd hx hb dL_law_201 ?_
  refine va_sld hx hb hX hbl hbA hS h1 dL_law_202 ?_
  refine LmWi (As := [.int (xs (nI i + nI 1).toNatClampNeg)]) (rest := [.int r]) hL hP hD hS cw_L_17 e2 (fun z hz => tcX11_book l D cs ad2 H.size S (xs (nI i + nI 1).toNatClampNeg) z hz) ⟨rfl, rfl⟩ ⟨Nat.le_of_ble_eq_true rfl, Nat.le_of_ble_eq_true rfl⟩ hl.1 rfl rfl (Nat.le_of_ble_eq_true rfl) dL_law_203 (fun H locs hP hD hS => ?_)
  refine lv_icmp_eq (tgt := 1015) hx hb dL_law_206 (by decide) (fun _ => ?_) (fun q => absurd rfl q)
  exact kont _ _ _ _ hs2 hP hD hS
set_option maxHeartbeats 4000000 in
set_option maxRecDepth 100000 in
theorem lc_fiction {p : Program} {l : Launch} {e : Env} {s : State} {m : MethodId} {below : List Frame} {meth : Method} {c : Code} {D : va_G} {cs : CS} {kS vS ad ad2 : Nat → Nat} {b L : Nat} {xs : Nat → Int32} {H : Heap} {locs : List Loc} {ls : Array Slot} (hL : LC p s m meth c D cs kS vS b L xs) {K : Nat} {C : CT} {S : MS} (hs : Sim K C S) (hK64 : K ≤ 64) {i : Nat} (hi : i + 5 ≤ L) (h320 : L ≤ 320) (hP : va_P D classes (WC cs ad C ++ WM cs ad2 S) H) (hD : va_D (LA s) (WC cs ad C ++ WM cs ad2 S)) (hS : va_S (LA s) s.heap H locs) (hl : lv_has ls 4 [(0, .ref b), (1, .ref (ad 0)), (2, .ref (ad2 22)), (3, .int (nI i))]) (kont : ∀ (C : CT) (S : MS) (H : Heap) (locs : List Loc), Sim (K + 1) C S → va_P D classes (WC cs ad C ++ WM cs ad2 S) H → va_D (LA s) (WC cs ad C ++ WM cs ad2 S) → va_S (LA s) s.heap H locs → W p l e room_1 s m #[Value.ref b] below meth c H locs 73 1324 (lw_Z below #[Value.ref b] s) (F0 m 1015 ls [])) : W p l e room_1 s m #[Value.ref b] below meth c H locs 73 1324 (lw_Z below #[Value.ref b] s) (F0 m 211 ls []) := by
  obtain ⟨hx, hb, hr, hml, hown, hT, hN, hK, hE, hX, hbl, hlk⟩ := id hL
  have hbA : ¬ LA s b := Nat.not_le.mpr hbl
  have h1 : vp_in (nI i + nI 1) L := by rw [nI_add]; exact vp_in_nI (by omega) (by omega)
  have h2 : vp_in (nI i + nI 2) L := by rw [nI_add]; exact vp_in_nI (by omega) (by omega)
  have h3 : vp_in (nI i + nI 3) L := by rw [nI_add]; exact vp_in_nI (by omega) (by omega)
  have h4 : vp_in (nI i + nI 4) L := by rw [nI_add]; exact vp_in_nI (by omega) (by omega)
  obtain ⟨r, C2, S2, e1, e2, hs2⟩ := g_fiction hs (xs (nI i + nI 1).toNatClampNeg) (xs (nI i + nI 2).toNatClampNeg) (xs (nI i + nI 3).toNatClampNeg) (xs (nI i + nI 4).toNatClampNeg)
  refine lv_aload_n hx hb dL_law_211 rfl (lv_at hl 1 rfl) ?_
  refine lv_aload_n hx hb dL_law_212 rfl (lv_at hl 0 rfl) ?_
  refine lv_iload_n hx hb dL_law_213 rfl (lv_at hl 3 rfl) ?_
  refine lv_iconst (v := (nI 1)) hx hb dL_law_214 (by decide) ?_
  refine lv_iadd hx hb dL_law_215 ?_
  refine va_sld hx hb hX hbl hbA hS h1 dL_law_216 ?_
  refine lv_aload_n hx hb dL_law_217 rfl (lv_at hl 0 rfl) ?_
  refine lv_iload_n hx hb dL_law_218 rfl (lv_at hl 3 rfl) ?_
  refine lv_iconst (v := (nI 2)) hx hb dL_law_219 (by decide) ?_
  refine lv_iadd hx hb dL_law_220 ?_
  refine va_sld hx hb hX hbl hbA hS h2 dL_law_221 ?_
  refine lv_aload_n hx hb dL_law_222 rfl (lv_at hl 0 rfl) ?_
  refine lv_iload_n hx hb dL_law_223 rfl (lv_at hl 3 rfl) ?_
  refine lv_iconst (v := (nI 3)) hx hb dL_law_224 (by decide) ?_
  refine lv_iadd hx hb dL_law_225 ?_
  refine va_sld hx hb hX hbl hbA hS h3 dL_law_226 ?_
  refine lv_aload_n hx hb dL_law_227 rfl (lv_at hl 0 rfl) ?_
  refine lv_iload_n hx hb dL_law_228 rfl (lv_at hl 3 rfl) ?_
  refine lv_iconst (v := (nI 4)) hx hb dL_law_229 (by decide) ?_
  refine lv_iadd hx hb dL_law_230 ?_
  refine va_sld hx hb hX hbl hbA hS h4 dL_law_231 ?_
  refine LcWi (As := [.int (xs (nI i + nI 1).toNatClampNeg), .int (xs (nI i + nI 2).toNatClampNeg), .int (xs (nI i + nI 3).toNatClampNeg), .int (xs (nI i + nI 4).toNatClampNeg)]) (rest := []) hL hP hD hS cw_L_18 e1 (fun z hz => tcX10_fiction l D cs ad H.size C (xs (nI i + nI 1).toNatClampNeg) (xs (nI i + nI 2).toNatClampNeg) (xs (nI i + nI 3).toNatClampNeg) (xs (nI i + nI 4).toNatClampNeg) z hz) ⟨rfl, rfl⟩ ⟨Nat.le_of_ble_eq_true rfl, Nat.le_of_ble_eq_true rfl⟩ hl.1 rfl rfl (Nat.le_of_ble_eq_true rfl) dL_law_232 (fun H locs hP hD hS => ?_)
  refine lv_aload_n hx hb dL_law_235 rfl (lv_at hl 2 rfl) ?_
  refine lv_aload_n hx hb dL_law_236 rfl (lv_at hl 0 rfl) ?_
  refine lv_iload_n hx hb dL_law_237 rfl (lv_at hl 3 rfl) ?_
  refine lv_iconst (v := (nI 1)) hx hb dL_law_238 (by decide) ?_
  refine lv_iadd hx hb dL_law_239 ?_
  refine va_sld hx hb hX hbl hbA hS h1 dL_law_240 ?_
  refine lv_aload_n hx hb dL_law_241 rfl (lv_at hl 0 rfl) ?_
  refine lv_iload_n hx hb dL_law_242 rfl (lv_at hl 3 rfl) ?_
  refine lv_iconst (v := (nI 2)) hx hb dL_law_243 (by decide) ?_
  refine lv_iadd hx hb dL_law_244 ?_
  refine va_sld hx hb hX hbl hbA hS h2 dL_law_245 ?_
  refine lv_aload_n hx hb dL_law_246 rfl (lv_at hl 0 rfl) ?_
  refine lv_iload_n hx hb dL_law_247 rfl (lv_at hl 3 rfl) ?_
  refine lv_iconst (v := (nI 3)) hx hb dL_law_248 (by decide) ?_
  refine lv_iadd hx hb dL_law_249 ?_
  refine va_sld hx hb hX hbl hbA hS h3 dL_law_250 ?_
  refine lv_aload_n hx hb dL_law_251 rfl (lv_at hl 0 rfl) ?_
  refine lv_iload_n hx hb dL_law_252 rfl (lv_at hl 3 rfl) ?_
  refine lv_iconst (v := (nI 4)) hx hb dL_law_253 (by decide) ?_
  refine lv_iadd hx hb dL_law_254 ?_
  refine va_sld hx hb hX hbl hbA hS h4 dL_law_255 ?_
  refine LmWi (As := [.int (xs (nI i + nI 1).toNatClampNeg), .int (xs (nI i + nI 2).toNatClampNeg), .int (xs (nI i + nI 3).toNatClampNeg), .int (xs (nI i + nI 4).toNatClampNeg)]) (rest := [.int r]) hL hP hD hS cw_L_22 e2 (fun z hz => tcX11_fiction l D cs ad2 H.size S (xs (nI i + nI 1).toNatClampNeg) (xs (nI i + nI 2).toNatClampNeg) (xs (nI i + nI 3).toNatClampNeg) (xs (nI i + nI 4).toNatClampNeg) z hz) ⟨rfl, rfl⟩ ⟨Nat.le_of_ble_eq_true rfl, Nat.le_of_ble_eq_true rfl⟩ hl.1 rfl rfl (Nat.le_of_ble_eq_true rfl) dL_law_256 (fun H locs hP hD hS => ?_)
  refine lv_icmp_eq (tgt := 1015) hx hb dL_law_259 (by decide) (fun _ => ?_) (fun q => absurd rfl q)
  exact kont _ _ _ _ hs2 hP hD hS
set_option maxHeartbeats 4000000 in
set_option maxRecDepth 100000 in
theorem lc_court {p : Program} {l : Launch} {e : Env} {s : State} {m : MethodId} {below : List Frame} {meth : Method} {c : Code} {D : va_G} {cs : CS} {kS vS ad ad2 : Nat → Nat} {b L : Nat} {xs : Nat → Int32} {H : Heap} {locs : List Loc} {ls : Array Slot} (hL : LC p s m meth c D cs kS vS b L xs) {K : Nat} {C : CT} {S : MS} (hs : Sim K C S) (hK64 : K ≤ 64) {i : Nat} (hi : i + 5 ≤ L) (h320 : L ≤ 320) (hP : va_P D classes (WC cs ad C ++ WM cs ad2 S) H) (hD : va_D (LA s) (WC cs ad C ++ WM cs ad2 S)) (hS : va_S (LA s) s.heap H locs) (hl : lv_has ls 4 [(0, .ref b), (1, .ref (ad 0)), (2, .ref (ad2 22)), (3, .int (nI i))]) (kont : ∀ (C : CT) (S : MS) (H : Heap) (locs : List Loc), Sim (K + 1) C S → va_P D classes (WC cs ad C ++ WM cs ad2 S) H → va_D (LA s) (WC cs ad C ++ WM cs ad2 S) → va_S (LA s) s.heap H locs → W p l e room_1 s m #[Value.ref b] below meth c H locs 73 1324 (lw_Z below #[Value.ref b] s) (F0 m 1015 ls [])) : W p l e room_1 s m #[Value.ref b] below meth c H locs 73 1324 (lw_Z below #[Value.ref b] s) (F0 m 264 ls []) := by
  obtain ⟨hx, hb, hr, hml, hown, hT, hN, hK, hE, hX, hbl, hlk⟩ := id hL
  have hbA : ¬ LA s b := Nat.not_le.mpr hbl
  have h1 : vp_in (nI i + nI 1) L := by rw [nI_add]; exact vp_in_nI (by omega) (by omega)
  have h2 : vp_in (nI i + nI 2) L := by rw [nI_add]; exact vp_in_nI (by omega) (by omega)
  obtain ⟨r, C2, S2, e1, e2, hs2⟩ := g_court hs (xs (nI i + nI 1).toNatClampNeg) (xs (nI i + nI 2).toNatClampNeg)
  refine lv_aload_n hx hb dL_law_264 rfl (lv_at hl 1 rfl) ?_
  refine lv_aload_n hx hb dL_law_265 rfl (lv_at hl 0 rfl) ?_
  refine lv_iload_n hx hb dL_law_266 rfl (lv_at hl 3 rfl) ?_
  refine lv_iconst (v := (nI 1)) hx hb dL_law_267 (by decide) ?_
  refine lv_iadd hx hb dL_law_268 ?_
  refine va_sld hx hb hX hbl hbA hS h1 dL_law_269 ?_
  refine lv_aload_n hx hb dL_law_270 rfl (lv_at hl 0 rfl) ?_
  refine lv_iload_n hx hb dL_law_271 rfl (lv_at hl 3 rfl) ?_
  refine lv_iconst (v := (nI 2)) hx hb dL_law_272 (by decide) ?_
  refine lv_iadd hx hb dL_law_273 ?_
  refine va_sld hx hb hX hbl hbA hS h2 dL_law_274 ?_
  refine LcWi (As := [.int (xs (nI i + nI 1).toNatClampNeg), .int (xs (nI i + nI 2).toNatClampNeg)]) (rest := []) hL hP hD hS cw_L_23 e1 (fun z hz => tcX10_court l D cs ad H.size C (xs (nI i + nI 1).toNatClampNeg) (xs (nI i + nI 2).toNatClampNeg) z hz) ⟨rfl, rfl⟩ ⟨Nat.le_of_ble_eq_true rfl, Nat.le_of_ble_eq_true rfl⟩ hl.1 rfl rfl (Nat.le_of_ble_eq_true rfl) dL_law_275 (fun H locs hP hD hS => ?_)
  refine lv_aload_n hx hb dL_law_278 rfl (lv_at hl 2 rfl) ?_
  refine lv_aload_n hx hb dL_law_279 rfl (lv_at hl 0 rfl) ?_
  refine lv_iload_n hx hb dL_law_280 rfl (lv_at hl 3 rfl) ?_
  refine lv_iconst (v := (nI 1)) hx hb dL_law_281 (by decide) ?_
  refine lv_iadd hx hb dL_law_282 ?_
  refine va_sld hx hb hX hbl hbA hS h1 dL_law_283 ?_
  refine lv_aload_n hx hb dL_law_284 rfl (lv_at hl 0 rfl) ?_
  refine lv_iload_n hx hb dL_law_285 rfl (lv_at hl 3 rfl) ?_
  refine lv_iconst (v := (nI 2)) hx hb dL_law_286 (by decide) ?_
  refine lv_iadd hx hb dL_law_287 ?_
  refine va_sld hx hb hX hbl hbA hS h2 dL_law_288 ?_
  refine LmWi (As := [.int (xs (nI i + nI 1).toNatClampNeg), .int (xs (nI i + nI 2).toNatClampNeg)]) (rest := [.int r]) hL hP hD hS cw_L_27 e2 (fun z hz => tcX11_court l D cs ad2 H.size S (xs (nI i + nI 1).toNatClampNeg) (xs (nI i + nI 2).toNatClampNeg) z hz) ⟨rfl, rfl⟩ ⟨Nat.le_of_ble_eq_true rfl, Nat.le_of_ble_eq_true rfl⟩ hl.1 rfl rfl (Nat.le_of_ble_eq_true rfl) dL_law_289 (fun H locs hP hD hS => ?_)
  refine lv_icmp_eq (tgt := 1015) hx hb dL_law_292 (by decide) (fun _ => ?_) (fun q => absurd rfl q)
  exact kont _ _ _ _ hs2 hP hD hS
set_option maxHeartbeats 4000000 in
set_option maxRecDepth 100000 in
theorem lc_type {p : Program} {l : Launch} {e : Env} {s : State} {m : MethodId} {below : List Frame} {meth : Method} {c : Code} {D : va_G} {cs : CS} {kS vS ad ad2 : Nat → Nat} {b L : Nat} {xs : Nat → Int32} {H : Heap} {locs : List Loc} {ls : Array Slot} (hL : LC p s m meth c D cs kS vS b L xs) {K : Nat} {C : CT} {S : MS} (hs : Sim K C S) (hK64 : K ≤ 64) {i : Nat} (hi : i + 5 ≤ L) (h320 : L ≤ 320) (hP : va_P D classes (WC cs ad C ++ WM cs ad2 S) H) (hD : va_D (LA s) (WC cs ad C ++ WM cs ad2 S)) (hS : va_S (LA s) s.heap H locs) (hl : lv_has ls 4 [(0, .ref b), (1, .ref (ad 0)), (2, .ref (ad2 22)), (3, .int (nI i))]) (kont : ∀ (C : CT) (S : MS) (H : Heap) (locs : List Loc), Sim (K + 1) C S → va_P D classes (WC cs ad C ++ WM cs ad2 S) H → va_D (LA s) (WC cs ad C ++ WM cs ad2 S) → va_S (LA s) s.heap H locs → W p l e room_1 s m #[Value.ref b] below meth c H locs 73 1324 (lw_Z below #[Value.ref b] s) (F0 m 1015 ls [])) : W p l e room_1 s m #[Value.ref b] below meth c H locs 73 1324 (lw_Z below #[Value.ref b] s) (F0 m 297 ls []) := by
  obtain ⟨hx, hb, hr, hml, hown, hT, hN, hK, hE, hX, hbl, hlk⟩ := id hL
  have hbA : ¬ LA s b := Nat.not_le.mpr hbl
  have h1 : vp_in (nI i + nI 1) L := by rw [nI_add]; exact vp_in_nI (by omega) (by omega)
  obtain ⟨r, C2, S2, e1, e2, hs2⟩ := g_type hs (xs (nI i + nI 1).toNatClampNeg)
  refine lv_aload_n hx hb dL_law_297 rfl (lv_at hl 1 rfl) ?_
  refine lv_aload_n hx hb dL_law_298 rfl (lv_at hl 0 rfl) ?_
  refine lv_iload_n hx hb dL_law_299 rfl (lv_at hl 3 rfl) ?_
  refine lv_iconst (v := (nI 1)) hx hb dL_law_300 (by decide) ?_
  refine lv_iadd hx hb dL_law_301 ?_
  refine va_sld hx hb hX hbl hbA hS h1 dL_law_302 ?_
  refine LcWi (As := [.int (xs (nI i + nI 1).toNatClampNeg)]) (rest := []) hL hP hD hS cw_L_28 e1 (fun z hz => tcX10_type l D cs ad H.size C (xs (nI i + nI 1).toNatClampNeg) z hz) ⟨rfl, rfl⟩ ⟨Nat.le_of_ble_eq_true rfl, Nat.le_of_ble_eq_true rfl⟩ hl.1 rfl rfl (Nat.le_of_ble_eq_true rfl) dL_law_303 (fun H locs hP hD hS => ?_)
  refine lv_aload_n hx hb dL_law_306 rfl (lv_at hl 2 rfl) ?_
  refine lv_aload_n hx hb dL_law_307 rfl (lv_at hl 0 rfl) ?_
  refine lv_iload_n hx hb dL_law_308 rfl (lv_at hl 3 rfl) ?_
  refine lv_iconst (v := (nI 1)) hx hb dL_law_309 (by decide) ?_
  refine lv_iadd hx hb dL_law_310 ?_
  refine va_sld hx hb hX hbl hbA hS h1 dL_law_311 ?_
  refine LmWi (As := [.int (xs (nI i + nI 1).toNatClampNeg)]) (rest := [.int r]) hL hP hD hS cw_L_31 e2 (fun z hz => tcX11_type l D cs ad2 H.size S (xs (nI i + nI 1).toNatClampNeg) z hz) ⟨rfl, rfl⟩ ⟨Nat.le_of_ble_eq_true rfl, Nat.le_of_ble_eq_true rfl⟩ hl.1 rfl rfl (Nat.le_of_ble_eq_true rfl) dL_law_312 (fun H locs hP hD hS => ?_)
  refine lv_icmp_eq (tgt := 1015) hx hb dL_law_315 (by decide) (fun _ => ?_) (fun q => absurd rfl q)
  exact kont _ _ _ _ hs2 hP hD hS
set_option maxHeartbeats 4000000 in
set_option maxRecDepth 100000 in
theorem lc_clear {p : Program} {l : Launch} {e : Env} {s : State} {m : MethodId} {below : List Frame} {meth : Method} {c : Code} {D : va_G} {cs : CS} {kS vS ad ad2 : Nat → Nat} {b L : Nat} {xs : Nat → Int32} {H : Heap} {locs : List Loc} {ls : Array Slot} (hL : LC p s m meth c D cs kS vS b L xs) {K : Nat} {C : CT} {S : MS} (hs : Sim K C S) (hK64 : K ≤ 64) {i : Nat} (hi : i + 5 ≤ L) (h320 : L ≤ 320) (hP : va_P D classes (WC cs ad C ++ WM cs ad2 S) H) (hD : va_D (LA s) (WC cs ad C ++ WM cs ad2 S)) (hS : va_S (LA s) s.heap H locs) (hl : lv_has ls 4 [(0, .ref b), (1, .ref (ad 0)), (2, .ref (ad2 22)), (3, .int (nI i))]) (kont : ∀ (C : CT) (S : MS) (H : Heap) (locs : List Loc), Sim (K + 1) C S → va_P D classes (WC cs ad C ++ WM cs ad2 S) H → va_D (LA s) (WC cs ad C ++ WM cs ad2 S) → va_S (LA s) s.heap H locs → W p l e room_1 s m #[Value.ref b] below meth c H locs 73 1324 (lw_Z below #[Value.ref b] s) (F0 m 1015 ls [])) : W p l e room_1 s m #[Value.ref b] below meth c H locs 73 1324 (lw_Z below #[Value.ref b] s) (F0 m 320 ls []) := by
  obtain ⟨hx, hb, hr, hml, hown, hT, hN, hK, hE, hX, hbl, hlk⟩ := id hL
  have hbA : ¬ LA s b := Nat.not_le.mpr hbl
  obtain ⟨r, C2, S2, e1, e2, hs2⟩ := g_clear hs 
  refine lv_aload_n hx hb dL_law_320 rfl (lv_at hl 1 rfl) ?_
  refine LcWi (As := []) (rest := []) hL hP hD hS cw_L_32 e1 (fun z hz => tcX10_clear l D cs ad H.size C z hz) ⟨rfl, rfl⟩ ⟨Nat.le_of_ble_eq_true rfl, Nat.le_of_ble_eq_true rfl⟩ hl.1 rfl rfl (Nat.le_of_ble_eq_true rfl) dL_law_321 (fun H locs hP hD hS => ?_)
  refine lv_aload_n hx hb dL_law_324 rfl (lv_at hl 2 rfl) ?_
  refine LmWi (As := []) (rest := [.int r]) hL hP hD hS cw_L_36 e2 (fun z hz => tcX11_clear l D cs ad2 H.size S z hz) ⟨rfl, rfl⟩ ⟨Nat.le_of_ble_eq_true rfl, Nat.le_of_ble_eq_true rfl⟩ hl.1 rfl rfl (Nat.le_of_ble_eq_true rfl) dL_law_325 (fun H locs hP hD hS => ?_)
  refine lv_icmp_eq (tgt := 1015) hx hb dL_law_328 (by decide) (fun _ => ?_) (fun q => absurd rfl q)
  exact kont _ _ _ _ hs2 hP hD hS
set_option maxHeartbeats 4000000 in
set_option maxRecDepth 100000 in
theorem lc_read {p : Program} {l : Launch} {e : Env} {s : State} {m : MethodId} {below : List Frame} {meth : Method} {c : Code} {D : va_G} {cs : CS} {kS vS ad ad2 : Nat → Nat} {b L : Nat} {xs : Nat → Int32} {H : Heap} {locs : List Loc} {ls : Array Slot} (hL : LC p s m meth c D cs kS vS b L xs) {K : Nat} {C : CT} {S : MS} (hs : Sim K C S) (hK64 : K ≤ 64) {i : Nat} (hi : i + 5 ≤ L) (h320 : L ≤ 320) (hP : va_P D classes (WC cs ad C ++ WM cs ad2 S) H) (hD : va_D (LA s) (WC cs ad C ++ WM cs ad2 S)) (hS : va_S (LA s) s.heap H locs) (hl : lv_has ls 4 [(0, .ref b), (1, .ref (ad 0)), (2, .ref (ad2 22)), (3, .int (nI i))]) (kont : ∀ (C : CT) (S : MS) (H : Heap) (locs : List Loc), Sim (K + 1) C S → va_P D classes (WC cs ad C ++ WM cs ad2 S) H → va_D (LA s) (WC cs ad C ++ WM cs ad2 S) → va_S (LA s) s.heap H locs → W p l e room_1 s m #[Value.ref b] below meth c H locs 73 1324 (lw_Z below #[Value.ref b] s) (F0 m 1015 ls [])) : W p l e room_1 s m #[Value.ref b] below meth c H locs 73 1324 (lw_Z below #[Value.ref b] s) (F0 m 333 ls []) := by
  obtain ⟨hx, hb, hr, hml, hown, hT, hN, hK, hE, hX, hbl, hlk⟩ := id hL
  have hbA : ¬ LA s b := Nat.not_le.mpr hbl
  obtain ⟨r, C2, S2, e1, e2, hs2⟩ := g_read hs 
  refine lv_aload_n hx hb dL_law_333 rfl (lv_at hl 1 rfl) ?_
  refine LcSi (As := []) (rest := []) hL hP hD hS cw_L_37 e1 (fun z hz hq => tcX10_read l D cs kS vS (LA s) ad H.size C z hz hq) ⟨rfl, rfl⟩ ⟨Nat.le_of_ble_eq_true rfl, Nat.le_of_ble_eq_true rfl⟩ hl.1 rfl rfl (Nat.le_of_ble_eq_true rfl) dL_law_334 (fun H locs hP hD hS => ?_)
  refine lv_aload_n hx hb dL_law_337 rfl (lv_at hl 2 rfl) ?_
  refine LmWi (As := []) (rest := [.int r]) hL hP hD hS cw_L_40 e2 (fun z hz => tcX11_read l D cs ad2 H.size S z hz) ⟨rfl, rfl⟩ ⟨Nat.le_of_ble_eq_true rfl, Nat.le_of_ble_eq_true rfl⟩ hl.1 rfl rfl (Nat.le_of_ble_eq_true rfl) dL_law_338 (fun H locs hP hD hS => ?_)
  refine lv_icmp_eq (tgt := 1015) hx hb dL_law_341 (by decide) (fun _ => ?_) (fun q => absurd rfl q)
  exact kont _ _ _ _ hs2 hP hD hS
set_option maxHeartbeats 4000000 in
set_option maxRecDepth 100000 in
theorem lc_suit {p : Program} {l : Launch} {e : Env} {s : State} {m : MethodId} {below : List Frame} {meth : Method} {c : Code} {D : va_G} {cs : CS} {kS vS ad ad2 : Nat → Nat} {b L : Nat} {xs : Nat → Int32} {H : Heap} {locs : List Loc} {ls : Array Slot} (hL : LC p s m meth c D cs kS vS b L xs) {K : Nat} {C : CT} {S : MS} (hs : Sim K C S) (hK64 : K ≤ 64) {i : Nat} (hi : i + 5 ≤ L) (h320 : L ≤ 320) (hP : va_P D classes (WC cs ad C ++ WM cs ad2 S) H) (hD : va_D (LA s) (WC cs ad C ++ WM cs ad2 S)) (hS : va_S (LA s) s.heap H locs) (hl : lv_has ls 4 [(0, .ref b), (1, .ref (ad 0)), (2, .ref (ad2 22)), (3, .int (nI i))]) (kont : ∀ (C : CT) (S : MS) (H : Heap) (locs : List Loc), Sim (K + 1) C S → va_P D classes (WC cs ad C ++ WM cs ad2 S) H → va_D (LA s) (WC cs ad C ++ WM cs ad2 S) → va_S (LA s) s.heap H locs → W p l e room_1 s m #[Value.ref b] below meth c H locs 73 1324 (lw_Z below #[Value.ref b] s) (F0 m 1015 ls [])) : W p l e room_1 s m #[Value.ref b] below meth c H locs 73 1324 (lw_Z below #[Value.ref b] s) (F0 m 346 ls []) := by
  obtain ⟨hx, hb, hr, hml, hown, hT, hN, hK, hE, hX, hbl, hlk⟩ := id hL
  have hbA : ¬ LA s b := Nat.not_le.mpr hbl
  obtain ⟨r, C2, S2, e1, e2, hs2⟩ := g_suit hs 
  refine lv_aload_n hx hb dL_law_346 rfl (lv_at hl 1 rfl) ?_
  refine LcWi (As := []) (rest := []) hL hP hD hS cw_L_41 e1 (fun z hz => tcX10_suit l D cs ad H.size C z hz) ⟨rfl, rfl⟩ ⟨Nat.le_of_ble_eq_true rfl, Nat.le_of_ble_eq_true rfl⟩ hl.1 rfl rfl (Nat.le_of_ble_eq_true rfl) dL_law_347 (fun H locs hP hD hS => ?_)
  refine lv_aload_n hx hb dL_law_350 rfl (lv_at hl 2 rfl) ?_
  refine LmWi (As := []) (rest := [.int r]) hL hP hD hS cw_L_44 e2 (fun z hz => tcX11_suit l D cs ad2 H.size S z hz) ⟨rfl, rfl⟩ ⟨Nat.le_of_ble_eq_true rfl, Nat.le_of_ble_eq_true rfl⟩ hl.1 rfl rfl (Nat.le_of_ble_eq_true rfl) dL_law_351 (fun H locs hP hD hS => ?_)
  refine lv_icmp_eq (tgt := 1015) hx hb dL_law_354 (by decide) (fun _ => ?_) (fun q => absurd rfl q)
  exact kont _ _ _ _ hs2 hP hD hS
set_option maxHeartbeats 4000000 in
set_option maxRecDepth 100000 in
theorem lc_plead {p : Program} {l : Launch} {e : Env} {s : State} {m : MethodId} {below : List Frame} {meth : Method} {c : Code} {D : va_G} {cs : CS} {kS vS ad ad2 : Nat → Nat} {b L : Nat} {xs : Nat → Int32} {H : Heap} {locs : List Loc} {ls : Array Slot} (hL : LC p s m meth c D cs kS vS b L xs) {K : Nat} {C : CT} {S : MS} (hs : Sim K C S) (hK64 : K ≤ 64) {i : Nat} (hi : i + 5 ≤ L) (h320 : L ≤ 320) (hP : va_P D classes (WC cs ad C ++ WM cs ad2 S) H) (hD : va_D (LA s) (WC cs ad C ++ WM cs ad2 S)) (hS : va_S (LA s) s.heap H locs) (hl : lv_has ls 4 [(0, .ref b), (1, .ref (ad 0)), (2, .ref (ad2 22)), (3, .int (nI i))]) (kont : ∀ (C : CT) (S : MS) (H : Heap) (locs : List Loc), Sim (K + 1) C S → va_P D classes (WC cs ad C ++ WM cs ad2 S) H → va_D (LA s) (WC cs ad C ++ WM cs ad2 S) → va_S (LA s) s.heap H locs → W p l e room_1 s m #[Value.ref b] below meth c H locs 73 1324 (lw_Z below #[Value.ref b] s) (F0 m 1015 ls [])) : W p l e room_1 s m #[Value.ref b] below meth c H locs 73 1324 (lw_Z below #[Value.ref b] s) (F0 m 359 ls []) := by
  obtain ⟨hx, hb, hr, hml, hown, hT, hN, hK, hE, hX, hbl, hlk⟩ := id hL
  have hbA : ¬ LA s b := Nat.not_le.mpr hbl
  have h1 : vp_in (nI i + nI 1) L := by rw [nI_add]; exact vp_in_nI (by omega) (by omega)
  obtain ⟨r, C2, S2, e1, e2, hs2⟩ := g_plead hs (by omega) (xs (nI i + nI 1).toNatClampNeg)
  refine lv_aload_n hx hb dL_law_359 rfl (lv_at hl 1 rfl) ?_
  refine lv_aload_n hx hb dL_law_360 rfl (lv_at hl 0 rfl) ?_
  refine lv_iload_n hx hb dL_law_361 rfl (lv_at hl 3 rfl) ?_
  refine lv_iconst (v := (nI 1)) hx hb dL_law_362 (by decide) ?_
  refine lv_iadd hx hb dL_law_363 ?_
  refine va_sld hx hb hX hbl hbA hS h1 dL_law_364 ?_
  refine LcWi (As := [.int (xs (nI i + nI 1).toNatClampNeg)]) (rest := []) hL hP hD hS cw_L_45 e1 (fun z hz => tcX10_plead l D cs ad H.size C (xs (nI i + nI 1).toNatClampNeg) z hz) ⟨rfl, rfl⟩ ⟨Nat.le_of_ble_eq_true rfl, Nat.le_of_ble_eq_true rfl⟩ hl.1 rfl rfl (Nat.le_of_ble_eq_true rfl) dL_law_365 (fun H locs hP hD hS => ?_)
  refine lv_aload_n hx hb dL_law_368 rfl (lv_at hl 2 rfl) ?_
  refine lv_aload_n hx hb dL_law_369 rfl (lv_at hl 0 rfl) ?_
  refine lv_iload_n hx hb dL_law_370 rfl (lv_at hl 3 rfl) ?_
  refine lv_iconst (v := (nI 1)) hx hb dL_law_371 (by decide) ?_
  refine lv_iadd hx hb dL_law_372 ?_
  refine va_sld hx hb hX hbl hbA hS h1 dL_law_373 ?_
  refine LmWi (As := [.int (xs (nI i + nI 1).toNatClampNeg)]) (rest := [.int r]) hL hP hD hS cw_L_48 e2 (fun z hz => tcX11_plead l D cs ad2 H.size S (xs (nI i + nI 1).toNatClampNeg) z hz) ⟨rfl, rfl⟩ ⟨Nat.le_of_ble_eq_true rfl, Nat.le_of_ble_eq_true rfl⟩ hl.1 rfl rfl (Nat.le_of_ble_eq_true rfl) dL_law_374 (fun H locs hP hD hS => ?_)
  refine lv_icmp_eq (tgt := 1015) hx hb dL_law_377 (by decide) (fun _ => ?_) (fun q => absurd rfl q)
  exact kont _ _ _ _ hs2 hP hD hS
set_option maxHeartbeats 4000000 in
set_option maxRecDepth 100000 in
theorem lc_deny {p : Program} {l : Launch} {e : Env} {s : State} {m : MethodId} {below : List Frame} {meth : Method} {c : Code} {D : va_G} {cs : CS} {kS vS ad ad2 : Nat → Nat} {b L : Nat} {xs : Nat → Int32} {H : Heap} {locs : List Loc} {ls : Array Slot} (hL : LC p s m meth c D cs kS vS b L xs) {K : Nat} {C : CT} {S : MS} (hs : Sim K C S) (hK64 : K ≤ 64) {i : Nat} (hi : i + 5 ≤ L) (h320 : L ≤ 320) (hP : va_P D classes (WC cs ad C ++ WM cs ad2 S) H) (hD : va_D (LA s) (WC cs ad C ++ WM cs ad2 S)) (hS : va_S (LA s) s.heap H locs) (hl : lv_has ls 4 [(0, .ref b), (1, .ref (ad 0)), (2, .ref (ad2 22)), (3, .int (nI i))]) (kont : ∀ (C : CT) (S : MS) (H : Heap) (locs : List Loc), Sim (K + 1) C S → va_P D classes (WC cs ad C ++ WM cs ad2 S) H → va_D (LA s) (WC cs ad C ++ WM cs ad2 S) → va_S (LA s) s.heap H locs → W p l e room_1 s m #[Value.ref b] below meth c H locs 73 1324 (lw_Z below #[Value.ref b] s) (F0 m 1015 ls [])) : W p l e room_1 s m #[Value.ref b] below meth c H locs 73 1324 (lw_Z below #[Value.ref b] s) (F0 m 382 ls []) := by
  obtain ⟨hx, hb, hr, hml, hown, hT, hN, hK, hE, hX, hbl, hlk⟩ := id hL
  have hbA : ¬ LA s b := Nat.not_le.mpr hbl
  have h1 : vp_in (nI i + nI 1) L := by rw [nI_add]; exact vp_in_nI (by omega) (by omega)
  obtain ⟨r, C2, S2, e1, e2, hs2⟩ := g_deny hs (xs (nI i + nI 1).toNatClampNeg)
  refine lv_aload_n hx hb dL_law_382 rfl (lv_at hl 1 rfl) ?_
  refine lv_aload_n hx hb dL_law_383 rfl (lv_at hl 0 rfl) ?_
  refine lv_iload_n hx hb dL_law_384 rfl (lv_at hl 3 rfl) ?_
  refine lv_iconst (v := (nI 1)) hx hb dL_law_385 (by decide) ?_
  refine lv_iadd hx hb dL_law_386 ?_
  refine va_sld hx hb hX hbl hbA hS h1 dL_law_387 ?_
  refine LcWi (As := [.int (xs (nI i + nI 1).toNatClampNeg)]) (rest := []) hL hP hD hS cw_L_49 e1 (fun z hz => tcX10_deny l D cs ad H.size C (xs (nI i + nI 1).toNatClampNeg) z hz) ⟨rfl, rfl⟩ ⟨Nat.le_of_ble_eq_true rfl, Nat.le_of_ble_eq_true rfl⟩ hl.1 rfl rfl (Nat.le_of_ble_eq_true rfl) dL_law_388 (fun H locs hP hD hS => ?_)
  refine lv_aload_n hx hb dL_law_391 rfl (lv_at hl 2 rfl) ?_
  refine lv_aload_n hx hb dL_law_392 rfl (lv_at hl 0 rfl) ?_
  refine lv_iload_n hx hb dL_law_393 rfl (lv_at hl 3 rfl) ?_
  refine lv_iconst (v := (nI 1)) hx hb dL_law_394 (by decide) ?_
  refine lv_iadd hx hb dL_law_395 ?_
  refine va_sld hx hb hX hbl hbA hS h1 dL_law_396 ?_
  refine LmWi (As := [.int (xs (nI i + nI 1).toNatClampNeg)]) (rest := [.int r]) hL hP hD hS cw_L_52 e2 (fun z hz => tcX11_deny l D cs ad2 H.size S (xs (nI i + nI 1).toNatClampNeg) z hz) ⟨rfl, rfl⟩ ⟨Nat.le_of_ble_eq_true rfl, Nat.le_of_ble_eq_true rfl⟩ hl.1 rfl rfl (Nat.le_of_ble_eq_true rfl) dL_law_397 (fun H locs hP hD hS => ?_)
  refine lv_icmp_eq (tgt := 1015) hx hb dL_law_400 (by decide) (fun _ => ?_) (fun q => absurd rfl q)
  exact kont _ _ _ _ hs2 hP hD hS
set_option maxHeartbeats 4000000 in
set_option maxRecDepth 100000 in
theorem lc_undo {p : Program} {l : Launch} {e : Env} {s : State} {m : MethodId} {below : List Frame} {meth : Method} {c : Code} {D : va_G} {cs : CS} {kS vS ad ad2 : Nat → Nat} {b L : Nat} {xs : Nat → Int32} {H : Heap} {locs : List Loc} {ls : Array Slot} (hL : LC p s m meth c D cs kS vS b L xs) {K : Nat} {C : CT} {S : MS} (hs : Sim K C S) (hK64 : K ≤ 64) {i : Nat} (hi : i + 5 ≤ L) (h320 : L ≤ 320) (hP : va_P D classes (WC cs ad C ++ WM cs ad2 S) H) (hD : va_D (LA s) (WC cs ad C ++ WM cs ad2 S)) (hS : va_S (LA s) s.heap H locs) (hl : lv_has ls 4 [(0, .ref b), (1, .ref (ad 0)), (2, .ref (ad2 22)), (3, .int (nI i))]) (kont : ∀ (C : CT) (S : MS) (H : Heap) (locs : List Loc), Sim (K + 1) C S → va_P D classes (WC cs ad C ++ WM cs ad2 S) H → va_D (LA s) (WC cs ad C ++ WM cs ad2 S) → va_S (LA s) s.heap H locs → W p l e room_1 s m #[Value.ref b] below meth c H locs 73 1324 (lw_Z below #[Value.ref b] s) (F0 m 1015 ls [])) : W p l e room_1 s m #[Value.ref b] below meth c H locs 73 1324 (lw_Z below #[Value.ref b] s) (F0 m 405 ls []) := by
  obtain ⟨hx, hb, hr, hml, hown, hT, hN, hK, hE, hX, hbl, hlk⟩ := id hL
  have hbA : ¬ LA s b := Nat.not_le.mpr hbl
  obtain ⟨r, C2, S2, e1, e2, hs2⟩ := g_undo hs 
  refine lv_aload_n hx hb dL_law_405 rfl (lv_at hl 1 rfl) ?_
  refine LcWi (As := []) (rest := []) hL hP hD hS cw_L_53 e1 (fun z hz => tcX10_undo l D cs ad H.size C z hz) ⟨rfl, rfl⟩ ⟨Nat.le_of_ble_eq_true rfl, Nat.le_of_ble_eq_true rfl⟩ hl.1 rfl rfl (Nat.le_of_ble_eq_true rfl) dL_law_406 (fun H locs hP hD hS => ?_)
  refine lv_aload_n hx hb dL_law_409 rfl (lv_at hl 2 rfl) ?_
  refine LmWi (As := []) (rest := [.int r]) hL hP hD hS cw_L_56 e2 (fun z hz => tcX11_undo l D cs ad2 H.size S z hz) ⟨rfl, rfl⟩ ⟨Nat.le_of_ble_eq_true rfl, Nat.le_of_ble_eq_true rfl⟩ hl.1 rfl rfl (Nat.le_of_ble_eq_true rfl) dL_law_410 (fun H locs hP hD hS => ?_)
  refine lv_icmp_eq (tgt := 1015) hx hb dL_law_413 (by decide) (fun _ => ?_) (fun q => absurd rfl q)
  exact kont _ _ _ _ hs2 hP hD hS
set_option maxHeartbeats 4000000 in
set_option maxRecDepth 100000 in
theorem lc_of {p : Program} {l : Launch} {e : Env} {s : State} {m : MethodId} {below : List Frame} {meth : Method} {c : Code} {D : va_G} {cs : CS} {kS vS ad ad2 : Nat → Nat} {b L : Nat} {xs : Nat → Int32} {H : Heap} {locs : List Loc} {ls : Array Slot} (hL : LC p s m meth c D cs kS vS b L xs) {K : Nat} {C : CT} {S : MS} (hs : Sim K C S) (hK64 : K ≤ 64) {i : Nat} (hi : i + 5 ≤ L) (h320 : L ≤ 320) (hP : va_P D classes (WC cs ad C ++ WM cs ad2 S) H) (hD : va_D (LA s) (WC cs ad C ++ WM cs ad2 S)) (hS : va_S (LA s) s.heap H locs) (hl : lv_has ls 4 [(0, .ref b), (1, .ref (ad 0)), (2, .ref (ad2 22)), (3, .int (nI i))]) (kont : ∀ (C : CT) (S : MS) (H : Heap) (locs : List Loc), Sim (K + 1) C S → va_P D classes (WC cs ad C ++ WM cs ad2 S) H → va_D (LA s) (WC cs ad C ++ WM cs ad2 S) → va_S (LA s) s.heap H locs → W p l e room_1 s m #[Value.ref b] below meth c H locs 73 1324 (lw_Z below #[Value.ref b] s) (F0 m 1015 ls [])) : W p l e room_1 s m #[Value.ref b] below meth c H locs 73 1324 (lw_Z below #[Value.ref b] s) (F0 m 418 ls []) := by
  obtain ⟨hx, hb, hr, hml, hown, hT, hN, hK, hE, hX, hbl, hlk⟩ := id hL
  have hbA : ¬ LA s b := Nat.not_le.mpr hbl
  have h1 : vp_in (nI i + nI 1) L := by rw [nI_add]; exact vp_in_nI (by omega) (by omega)
  have h2 : vp_in (nI i + nI 2) L := by rw [nI_add]; exact vp_in_nI (by omega) (by omega)
  obtain ⟨r, C2, S2, e1, e2, hs2⟩ := g_of hs (by omega) (xs (nI i + nI 1).toNatClampNeg) (xs (nI i + nI 2).toNatClampNeg)
  refine lv_aload_n hx hb dL_law_418 rfl (lv_at hl 1 rfl) ?_
  refine lv_aload_n hx hb dL_law_419 rfl (lv_at hl 0 rfl) ?_
  refine lv_iload_n hx hb dL_law_420 rfl (lv_at hl 3 rfl) ?_
  refine lv_iconst (v := (nI 1)) hx hb dL_law_421 (by decide) ?_
  refine lv_iadd hx hb dL_law_422 ?_
  refine va_sld hx hb hX hbl hbA hS h1 dL_law_423 ?_
  refine lv_aload_n hx hb dL_law_424 rfl (lv_at hl 0 rfl) ?_
  refine lv_iload_n hx hb dL_law_425 rfl (lv_at hl 3 rfl) ?_
  refine lv_iconst (v := (nI 2)) hx hb dL_law_426 (by decide) ?_
  refine lv_iadd hx hb dL_law_427 ?_
  refine va_sld hx hb hX hbl hbA hS h2 dL_law_428 ?_
  refine LcWi (As := [.int (xs (nI i + nI 1).toNatClampNeg), .int (xs (nI i + nI 2).toNatClampNeg)]) (rest := []) hL hP hD hS cw_L_57 e1 (fun z hz => tcX10_of l D cs ad H.size C (xs (nI i + nI 1).toNatClampNeg) (xs (nI i + nI 2).toNatClampNeg) z hz) ⟨rfl, rfl⟩ ⟨Nat.le_of_ble_eq_true rfl, Nat.le_of_ble_eq_true rfl⟩ hl.1 rfl rfl (Nat.le_of_ble_eq_true rfl) dL_law_429 (fun H locs hP hD hS => ?_)
  refine lv_aload_n hx hb dL_law_432 rfl (lv_at hl 2 rfl) ?_
  refine lv_aload_n hx hb dL_law_433 rfl (lv_at hl 0 rfl) ?_
  refine lv_iload_n hx hb dL_law_434 rfl (lv_at hl 3 rfl) ?_
  refine lv_iconst (v := (nI 1)) hx hb dL_law_435 (by decide) ?_
  refine lv_iadd hx hb dL_law_436 ?_
  refine va_sld hx hb hX hbl hbA hS h1 dL_law_437 ?_
  refine lv_aload_n hx hb dL_law_438 rfl (lv_at hl 0 rfl) ?_
  refine lv_iload_n hx hb dL_law_439 rfl (lv_at hl 3 rfl) ?_
  refine lv_iconst (v := (nI 2)) hx hb dL_law_440 (by decide) ?_
  refine lv_iadd hx hb dL_law_441 ?_
  refine va_sld hx hb hX hbl hbA hS h2 dL_law_442 ?_
  refine LmWi (As := [.int (xs (nI i + nI 1).toNatClampNeg), .int (xs (nI i + nI 2).toNatClampNeg)]) (rest := [.int r]) hL hP hD hS cw_L_60 e2 (fun z hz => tcX11_of l D cs ad2 H.size S (xs (nI i + nI 1).toNatClampNeg) (xs (nI i + nI 2).toNatClampNeg) z hz) ⟨rfl, rfl⟩ ⟨Nat.le_of_ble_eq_true rfl, Nat.le_of_ble_eq_true rfl⟩ hl.1 rfl rfl (Nat.le_of_ble_eq_true rfl) dL_law_443 (fun H locs hP hD hS => ?_)
  refine lv_icmp_eq (tgt := 1015) hx hb dL_law_446 (by decide) (fun _ => ?_) (fun q => absurd rfl q)
  exact kont _ _ _ _ hs2 hP hD hS
set_option maxHeartbeats 4000000 in
set_option maxRecDepth 100000 in
theorem lc_now {p : Program} {l : Launch} {e : Env} {s : State} {m : MethodId} {below : List Frame} {meth : Method} {c : Code} {D : va_G} {cs : CS} {kS vS ad ad2 : Nat → Nat} {b L : Nat} {xs : Nat → Int32} {H : Heap} {locs : List Loc} {ls : Array Slot} (hL : LC p s m meth c D cs kS vS b L xs) {K : Nat} {C : CT} {S : MS} (hs : Sim K C S) (hK64 : K ≤ 64) {i : Nat} (hi : i + 5 ≤ L) (h320 : L ≤ 320) (hP : va_P D classes (WC cs ad C ++ WM cs ad2 S) H) (hD : va_D (LA s) (WC cs ad C ++ WM cs ad2 S)) (hS : va_S (LA s) s.heap H locs) (hl : lv_has ls 4 [(0, .ref b), (1, .ref (ad 0)), (2, .ref (ad2 22)), (3, .int (nI i))]) (kont : ∀ (C : CT) (S : MS) (H : Heap) (locs : List Loc), Sim (K + 1) C S → va_P D classes (WC cs ad C ++ WM cs ad2 S) H → va_D (LA s) (WC cs ad C ++ WM cs ad2 S) → va_S (LA s) s.heap H locs → W p l e room_1 s m #[Value.ref b] below meth c H locs 73 1324 (lw_Z below #[Value.ref b] s) (F0 m 1015 ls [])) : W p l e room_1 s m #[Value.ref b] below meth c H locs 73 1324 (lw_Z below #[Value.ref b] s) (F0 m 451 ls []) := by
  obtain ⟨hx, hb, hr, hml, hown, hT, hN, hK, hE, hX, hbl, hlk⟩ := id hL
  have hbA : ¬ LA s b := Nat.not_le.mpr hbl
  have h1 : vp_in (nI i + nI 1) L := by rw [nI_add]; exact vp_in_nI (by omega) (by omega)
  obtain ⟨r, C2, S2, e1, e2, hs2⟩ := g_now hs (xs (nI i + nI 1).toNatClampNeg)
  refine lv_aload_n hx hb dL_law_451 rfl (lv_at hl 1 rfl) ?_
  refine lv_aload_n hx hb dL_law_452 rfl (lv_at hl 0 rfl) ?_
  refine lv_iload_n hx hb dL_law_453 rfl (lv_at hl 3 rfl) ?_
  refine lv_iconst (v := (nI 1)) hx hb dL_law_454 (by decide) ?_
  refine lv_iadd hx hb dL_law_455 ?_
  refine va_sld hx hb hX hbl hbA hS h1 dL_law_456 ?_
  refine LcWi (As := [.int (xs (nI i + nI 1).toNatClampNeg)]) (rest := []) hL hP hD hS cw_L_61 e1 (fun z hz => tcX10_now l D cs ad H.size C (xs (nI i + nI 1).toNatClampNeg) z hz) ⟨rfl, rfl⟩ ⟨Nat.le_of_ble_eq_true rfl, Nat.le_of_ble_eq_true rfl⟩ hl.1 rfl rfl (Nat.le_of_ble_eq_true rfl) dL_law_457 (fun H locs hP hD hS => ?_)
  refine lv_aload_n hx hb dL_law_460 rfl (lv_at hl 2 rfl) ?_
  refine lv_aload_n hx hb dL_law_461 rfl (lv_at hl 0 rfl) ?_
  refine lv_iload_n hx hb dL_law_462 rfl (lv_at hl 3 rfl) ?_
  refine lv_iconst (v := (nI 1)) hx hb dL_law_463 (by decide) ?_
  refine lv_iadd hx hb dL_law_464 ?_
  refine va_sld hx hb hX hbl hbA hS h1 dL_law_465 ?_
  refine LmWi (As := [.int (xs (nI i + nI 1).toNatClampNeg)]) (rest := [.int r]) hL hP hD hS cw_L_64 e2 (fun z hz => tcX11_now l D cs ad2 H.size S (xs (nI i + nI 1).toNatClampNeg) z hz) ⟨rfl, rfl⟩ ⟨Nat.le_of_ble_eq_true rfl, Nat.le_of_ble_eq_true rfl⟩ hl.1 rfl rfl (Nat.le_of_ble_eq_true rfl) dL_law_466 (fun H locs hP hD hS => ?_)
  refine lv_icmp_eq (tgt := 1015) hx hb dL_law_469 (by decide) (fun _ => ?_) (fun q => absurd rfl q)
  exact kont _ _ _ _ hs2 hP hD hS
set_option maxHeartbeats 4000000 in
set_option maxRecDepth 100000 in
theorem lc_may {p : Program} {l : Launch} {e : Env} {s : State} {m : MethodId} {below : List Frame} {meth : Method} {c : Code} {D : va_G} {cs : CS} {kS vS ad ad2 : Nat → Nat} {b L : Nat} {xs : Nat → Int32} {H : Heap} {locs : List Loc} {ls : Array Slot} (hL : LC p s m meth c D cs kS vS b L xs) {K : Nat} {C : CT} {S : MS} (hs : Sim K C S) (hK64 : K ≤ 64) {i : Nat} (hi : i + 5 ≤ L) (h320 : L ≤ 320) (hP : va_P D classes (WC cs ad C ++ WM cs ad2 S) H) (hD : va_D (LA s) (WC cs ad C ++ WM cs ad2 S)) (hS : va_S (LA s) s.heap H locs) (hl : lv_has ls 4 [(0, .ref b), (1, .ref (ad 0)), (2, .ref (ad2 22)), (3, .int (nI i))]) (kont : ∀ (C : CT) (S : MS) (H : Heap) (locs : List Loc), Sim (K + 1) C S → va_P D classes (WC cs ad C ++ WM cs ad2 S) H → va_D (LA s) (WC cs ad C ++ WM cs ad2 S) → va_S (LA s) s.heap H locs → W p l e room_1 s m #[Value.ref b] below meth c H locs 73 1324 (lw_Z below #[Value.ref b] s) (F0 m 1015 ls [])) : W p l e room_1 s m #[Value.ref b] below meth c H locs 73 1324 (lw_Z below #[Value.ref b] s) (F0 m 474 ls []) := by
  obtain ⟨hx, hb, hr, hml, hown, hT, hN, hK, hE, hX, hbl, hlk⟩ := id hL
  have hbA : ¬ LA s b := Nat.not_le.mpr hbl
  obtain ⟨r, e1, e2⟩ : ∃ r, mX10_may C = some r ∧ mX11_may S = some r := by
    obtain ⟨g, h1, -⟩ := hs
    exact ⟨_, s_may h1 (by omega)⟩
  have hs2 := hs.mono (Nat.le_succ K)
  refine lv_aload_n hx hb dL_law_474 rfl (lv_at hl 1 rfl) ?_
  refine LcRi (As := []) (rest := []) hL hP hD hS cw_L_65 e1 (fun z hz => tcX10_may l D cs ad C z hz) ⟨rfl, rfl⟩ ⟨Nat.le_of_ble_eq_true rfl, Nat.le_of_ble_eq_true rfl⟩ hl.1 rfl rfl (Nat.le_of_ble_eq_true rfl) dL_law_475 ?_
  refine lv_aload_n hx hb dL_law_478 rfl (lv_at hl 2 rfl) ?_
  refine LmRi (As := []) (rest := [.int r]) hL hP hD hS cw_L_68 e2 (fun z hz => tcX11_may l D cs ad2 S z hz) ⟨rfl, rfl⟩ ⟨Nat.le_of_ble_eq_true rfl, Nat.le_of_ble_eq_true rfl⟩ hl.1 rfl rfl (Nat.le_of_ble_eq_true rfl) dL_law_479 ?_
  refine lv_icmp_eq (tgt := 1015) hx hb dL_law_482 (by decide) (fun _ => ?_) (fun q => absurd rfl q)
  exact kont _ _ _ _ hs2 hP hD hS
set_option maxHeartbeats 4000000 in
set_option maxRecDepth 100000 in
theorem lc_hear {p : Program} {l : Launch} {e : Env} {s : State} {m : MethodId} {below : List Frame} {meth : Method} {c : Code} {D : va_G} {cs : CS} {kS vS ad ad2 : Nat → Nat} {b L : Nat} {xs : Nat → Int32} {H : Heap} {locs : List Loc} {ls : Array Slot} (hL : LC p s m meth c D cs kS vS b L xs) {K : Nat} {C : CT} {S : MS} (hs : Sim K C S) (hK64 : K ≤ 64) {i : Nat} (hi : i + 5 ≤ L) (h320 : L ≤ 320) (hP : va_P D classes (WC cs ad C ++ WM cs ad2 S) H) (hD : va_D (LA s) (WC cs ad C ++ WM cs ad2 S)) (hS : va_S (LA s) s.heap H locs) (hl : lv_has ls 4 [(0, .ref b), (1, .ref (ad 0)), (2, .ref (ad2 22)), (3, .int (nI i))]) (kont : ∀ (C : CT) (S : MS) (H : Heap) (locs : List Loc), Sim (K + 1) C S → va_P D classes (WC cs ad C ++ WM cs ad2 S) H → va_D (LA s) (WC cs ad C ++ WM cs ad2 S) → va_S (LA s) s.heap H locs → W p l e room_1 s m #[Value.ref b] below meth c H locs 73 1324 (lw_Z below #[Value.ref b] s) (F0 m 1015 ls [])) : W p l e room_1 s m #[Value.ref b] below meth c H locs 73 1324 (lw_Z below #[Value.ref b] s) (F0 m 487 ls []) := by
  obtain ⟨hx, hb, hr, hml, hown, hT, hN, hK, hE, hX, hbl, hlk⟩ := id hL
  have hbA : ¬ LA s b := Nat.not_le.mpr hbl
  obtain ⟨r, e1, e2⟩ : ∃ r, mX10_hear C = some r ∧ mX11_hear S = some r := by
    obtain ⟨g, h1, -⟩ := hs
    exact ⟨_, s_hear h1⟩
  have hs2 := hs.mono (Nat.le_succ K)
  refine lv_aload_n hx hb dL_law_487 rfl (lv_at hl 1 rfl) ?_
  refine LcRi (As := []) (rest := []) hL hP hD hS cw_L_69 e1 (fun z hz => tcX10_hear l D cs ad C z hz) ⟨rfl, rfl⟩ ⟨Nat.le_of_ble_eq_true rfl, Nat.le_of_ble_eq_true rfl⟩ hl.1 rfl rfl (Nat.le_of_ble_eq_true rfl) dL_law_488 ?_
  refine lv_aload_n hx hb dL_law_491 rfl (lv_at hl 2 rfl) ?_
  refine LmRi (As := []) (rest := [.int r]) hL hP hD hS cw_L_72 e2 (fun z hz => tcX11_hear l D cs ad2 S z hz) ⟨rfl, rfl⟩ ⟨Nat.le_of_ble_eq_true rfl, Nat.le_of_ble_eq_true rfl⟩ hl.1 rfl rfl (Nat.le_of_ble_eq_true rfl) dL_law_492 ?_
  refine lv_icmp_eq (tgt := 1015) hx hb dL_law_495 (by decide) (fun _ => ?_) (fun q => absurd rfl q)
  exact kont _ _ _ _ hs2 hP hD hS
set_option maxHeartbeats 4000000 in
set_option maxRecDepth 100000 in
theorem lc_least {p : Program} {l : Launch} {e : Env} {s : State} {m : MethodId} {below : List Frame} {meth : Method} {c : Code} {D : va_G} {cs : CS} {kS vS ad ad2 : Nat → Nat} {b L : Nat} {xs : Nat → Int32} {H : Heap} {locs : List Loc} {ls : Array Slot} (hL : LC p s m meth c D cs kS vS b L xs) {K : Nat} {C : CT} {S : MS} (hs : Sim K C S) (hK64 : K ≤ 64) {i : Nat} (hi : i + 5 ≤ L) (h320 : L ≤ 320) (hP : va_P D classes (WC cs ad C ++ WM cs ad2 S) H) (hD : va_D (LA s) (WC cs ad C ++ WM cs ad2 S)) (hS : va_S (LA s) s.heap H locs) (hl : lv_has ls 4 [(0, .ref b), (1, .ref (ad 0)), (2, .ref (ad2 22)), (3, .int (nI i))]) (kont : ∀ (C : CT) (S : MS) (H : Heap) (locs : List Loc), Sim (K + 1) C S → va_P D classes (WC cs ad C ++ WM cs ad2 S) H → va_D (LA s) (WC cs ad C ++ WM cs ad2 S) → va_S (LA s) s.heap H locs → W p l e room_1 s m #[Value.ref b] below meth c H locs 73 1324 (lw_Z below #[Value.ref b] s) (F0 m 1015 ls [])) : W p l e room_1 s m #[Value.ref b] below meth c H locs 73 1324 (lw_Z below #[Value.ref b] s) (F0 m 500 ls []) := by
  obtain ⟨hx, hb, hr, hml, hown, hT, hN, hK, hE, hX, hbl, hlk⟩ := id hL
  have hbA : ¬ LA s b := Nat.not_le.mpr hbl
  have h1 : vp_in (nI i + nI 1) L := by rw [nI_add]; exact vp_in_nI (by omega) (by omega)
  have h2 : vp_in (nI i + nI 2) L := by rw [nI_add]; exact vp_in_nI (by omega) (by omega)
  have h3 : vp_in (nI i + nI 3) L := by rw [nI_add]; exact vp_in_nI (by omega) (by omega)
  obtain ⟨r, C2, S2, e1, e2, hs2⟩ := g_least hs (by omega) (xs (nI i + nI 1).toNatClampNeg) (xs (nI i + nI 2).toNatClampNeg) (xs (nI i + nI 3).toNatClampNeg)
  refine lv_aload_n hx hb dL_law_500 rfl (lv_at hl 1 rfl) ?_
  refine lv_aload_n hx hb dL_law_501 rfl (lv_at hl 0 rfl) ?_
  refine lv_iload_n hx hb dL_law_502 rfl (lv_at hl 3 rfl) ?_
  refine lv_iconst (v := (nI 1)) hx hb dL_law_503 (by decide) ?_
  refine lv_iadd hx hb dL_law_504 ?_
  refine va_sld hx hb hX hbl hbA hS h1 dL_law_505 ?_
  refine lv_aload_n hx hb dL_law_506 rfl (lv_at hl 0 rfl) ?_
  refine lv_iload_n hx hb dL_law_507 rfl (lv_at hl 3 rfl) ?_
  refine lv_iconst (v := (nI 2)) hx hb dL_law_508 (by decide) ?_
  refine lv_iadd hx hb dL_law_509 ?_
  refine va_sld hx hb hX hbl hbA hS h2 dL_law_510 ?_
  refine lv_aload_n hx hb dL_law_511 rfl (lv_at hl 0 rfl) ?_
  refine lv_iload_n hx hb dL_law_512 rfl (lv_at hl 3 rfl) ?_
  refine lv_iconst (v := (nI 3)) hx hb dL_law_513 (by decide) ?_
  refine lv_iadd hx hb dL_law_514 ?_
  refine va_sld hx hb hX hbl hbA hS h3 dL_law_515 ?_
  refine LcWi (As := [.int (xs (nI i + nI 1).toNatClampNeg), .int (xs (nI i + nI 2).toNatClampNeg), .int (xs (nI i + nI 3).toNatClampNeg)]) (rest := []) hL hP hD hS cw_L_73 e1 (fun z hz => tcX10_least l D cs ad H.size C (xs (nI i + nI 1).toNatClampNeg) (xs (nI i + nI 2).toNatClampNeg) (xs (nI i + nI 3).toNatClampNeg) z hz) ⟨rfl, rfl⟩ ⟨Nat.le_of_ble_eq_true rfl, Nat.le_of_ble_eq_true rfl⟩ hl.1 rfl rfl (Nat.le_of_ble_eq_true rfl) dL_law_516 (fun H locs hP hD hS => ?_)
  refine lv_aload_n hx hb dL_law_519 rfl (lv_at hl 2 rfl) ?_
  refine lv_aload_n hx hb dL_law_520 rfl (lv_at hl 0 rfl) ?_
  refine lv_iload_n hx hb dL_law_521 rfl (lv_at hl 3 rfl) ?_
  refine lv_iconst (v := (nI 1)) hx hb dL_law_522 (by decide) ?_
  refine lv_iadd hx hb dL_law_523 ?_
  refine va_sld hx hb hX hbl hbA hS h1 dL_law_524 ?_
  refine lv_aload_n hx hb dL_law_525 rfl (lv_at hl 0 rfl) ?_
  refine lv_iload_n hx hb dL_law_526 rfl (lv_at hl 3 rfl) ?_
  refine lv_iconst (v := (nI 2)) hx hb dL_law_527 (by decide) ?_
  refine lv_iadd hx hb dL_law_528 ?_
  refine va_sld hx hb hX hbl hbA hS h2 dL_law_529 ?_
  refine lv_aload_n hx hb dL_law_530 rfl (lv_at hl 0 rfl) ?_
  refine lv_iload_n hx hb dL_law_531 rfl (lv_at hl 3 rfl) ?_
  refine lv_iconst (v := (nI 3)) hx hb dL_law_532 (by decide) ?_
  refine lv_iadd hx hb dL_law_533 ?_
  refine va_sld hx hb hX hbl hbA hS h3 dL_law_534 ?_
  refine LmWi (As := [.int (xs (nI i + nI 1).toNatClampNeg), .int (xs (nI i + nI 2).toNatClampNeg), .int (xs (nI i + nI 3).toNatClampNeg)]) (rest := [.int r]) hL hP hD hS cw_L_77 e2 (fun z hz => tcX11_least l D cs ad2 H.size S (xs (nI i + nI 1).toNatClampNeg) (xs (nI i + nI 2).toNatClampNeg) (xs (nI i + nI 3).toNatClampNeg) z hz) ⟨rfl, rfl⟩ ⟨Nat.le_of_ble_eq_true rfl, Nat.le_of_ble_eq_true rfl⟩ hl.1 rfl rfl (Nat.le_of_ble_eq_true rfl) dL_law_535 (fun H locs hP hD hS => ?_)
  refine lv_icmp_eq (tgt := 1015) hx hb dL_law_538 (by decide) (fun _ => ?_) (fun q => absurd rfl q)
  exact kont _ _ _ _ hs2 hP hD hS
set_option maxHeartbeats 4000000 in
set_option maxRecDepth 100000 in
theorem lc_ever {p : Program} {l : Launch} {e : Env} {s : State} {m : MethodId} {below : List Frame} {meth : Method} {c : Code} {D : va_G} {cs : CS} {kS vS ad ad2 : Nat → Nat} {b L : Nat} {xs : Nat → Int32} {H : Heap} {locs : List Loc} {ls : Array Slot} (hL : LC p s m meth c D cs kS vS b L xs) {K : Nat} {C : CT} {S : MS} (hs : Sim K C S) (hK64 : K ≤ 64) {i : Nat} (hi : i + 5 ≤ L) (h320 : L ≤ 320) (hP : va_P D classes (WC cs ad C ++ WM cs ad2 S) H) (hD : va_D (LA s) (WC cs ad C ++ WM cs ad2 S)) (hS : va_S (LA s) s.heap H locs) (hl : lv_has ls 4 [(0, .ref b), (1, .ref (ad 0)), (2, .ref (ad2 22)), (3, .int (nI i))]) (kont : ∀ (C : CT) (S : MS) (H : Heap) (locs : List Loc), Sim (K + 1) C S → va_P D classes (WC cs ad C ++ WM cs ad2 S) H → va_D (LA s) (WC cs ad C ++ WM cs ad2 S) → va_S (LA s) s.heap H locs → W p l e room_1 s m #[Value.ref b] below meth c H locs 73 1324 (lw_Z below #[Value.ref b] s) (F0 m 1015 ls [])) : W p l e room_1 s m #[Value.ref b] below meth c H locs 73 1324 (lw_Z below #[Value.ref b] s) (F0 m 543 ls []) := by
  obtain ⟨hx, hb, hr, hml, hown, hT, hN, hK, hE, hX, hbl, hlk⟩ := id hL
  have hbA : ¬ LA s b := Nat.not_le.mpr hbl
  obtain ⟨r, S2, e1, e2, hs2⟩ := g_ever hs (by omega)
  refine lv_aload_n hx hb dL_law_543 rfl (lv_at hl 1 rfl) ?_
  refine LcRi (As := []) (rest := []) hL hP hD hS cw_L_78 e1 (fun z hz => tcX10_ever l D cs ad C z hz) ⟨rfl, rfl⟩ ⟨Nat.le_of_ble_eq_true rfl, Nat.le_of_ble_eq_true rfl⟩ hl.1 rfl rfl (Nat.le_of_ble_eq_true rfl) dL_law_544 ?_
  refine lv_aload_n hx hb dL_law_547 rfl (lv_at hl 2 rfl) ?_
  refine LmWi (As := []) (rest := [.int r]) hL hP hD hS cw_L_81 e2 (fun z hz => tcX11_ever l D cs ad2 H.size S z hz) ⟨rfl, rfl⟩ ⟨Nat.le_of_ble_eq_true rfl, Nat.le_of_ble_eq_true rfl⟩ hl.1 rfl rfl (Nat.le_of_ble_eq_true rfl) dL_law_548 (fun H locs hP hD hS => ?_)
  refine lv_icmp_eq (tgt := 1015) hx hb dL_law_551 (by decide) (fun _ => ?_) (fun q => absurd rfl q)
  exact kont _ _ _ _ hs2 hP hD hS
set_option maxHeartbeats 4000000 in
set_option maxRecDepth 100000 in
theorem lc_contradict {p : Program} {l : Launch} {e : Env} {s : State} {m : MethodId} {below : List Frame} {meth : Method} {c : Code} {D : va_G} {cs : CS} {kS vS ad ad2 : Nat → Nat} {b L : Nat} {xs : Nat → Int32} {H : Heap} {locs : List Loc} {ls : Array Slot} (hL : LC p s m meth c D cs kS vS b L xs) {K : Nat} {C : CT} {S : MS} (hs : Sim K C S) (hK64 : K ≤ 64) {i : Nat} (hi : i + 5 ≤ L) (h320 : L ≤ 320) (hP : va_P D classes (WC cs ad C ++ WM cs ad2 S) H) (hD : va_D (LA s) (WC cs ad C ++ WM cs ad2 S)) (hS : va_S (LA s) s.heap H locs) (hl : lv_has ls 4 [(0, .ref b), (1, .ref (ad 0)), (2, .ref (ad2 22)), (3, .int (nI i))]) (kont : ∀ (C : CT) (S : MS) (H : Heap) (locs : List Loc), Sim (K + 1) C S → va_P D classes (WC cs ad C ++ WM cs ad2 S) H → va_D (LA s) (WC cs ad C ++ WM cs ad2 S) → va_S (LA s) s.heap H locs → W p l e room_1 s m #[Value.ref b] below meth c H locs 73 1324 (lw_Z below #[Value.ref b] s) (F0 m 1015 ls [])) : W p l e room_1 s m #[Value.ref b] below meth c H locs 73 1324 (lw_Z below #[Value.ref b] s) (F0 m 556 ls []) := by
  obtain ⟨hx, hb, hr, hml, hown, hT, hN, hK, hE, hX, hbl, hlk⟩ := id hL
  have hbA : ¬ LA s b := Nat.not_le.mpr hbl
  obtain ⟨r, e1, e2⟩ : ∃ r, mX10_contradict C = some r ∧ mX11_contradict S = some r := by
    obtain ⟨g, h1, -⟩ := hs
    exact s_contradict h1
  have hs2 := hs.mono (Nat.le_succ K)
  refine lv_aload_n hx hb dL_law_556 rfl (lv_at hl 1 rfl) ?_
  refine LcRi (As := []) (rest := []) hL hP hD hS cw_L_82 e1 (fun z hz => tcX10_contradict l D cs ad C z hz) ⟨rfl, rfl⟩ ⟨Nat.le_of_ble_eq_true rfl, Nat.le_of_ble_eq_true rfl⟩ hl.1 rfl rfl (Nat.le_of_ble_eq_true rfl) dL_law_557 ?_
  refine lv_aload_n hx hb dL_law_560 rfl (lv_at hl 2 rfl) ?_
  refine LmRi (As := []) (rest := [.int r]) hL hP hD hS cw_L_85 e2 (fun z hz => tcX11_contradict l D cs ad2 S z hz) ⟨rfl, rfl⟩ ⟨Nat.le_of_ble_eq_true rfl, Nat.le_of_ble_eq_true rfl⟩ hl.1 rfl rfl (Nat.le_of_ble_eq_true rfl) dL_law_561 ?_
  refine lv_icmp_eq (tgt := 1015) hx hb dL_law_564 (by decide) (fun _ => ?_) (fun q => absurd rfl q)
  exact kont _ _ _ _ hs2 hP hD hS
set_option maxHeartbeats 4000000 in
set_option maxRecDepth 100000 in
theorem lc_giveUp {p : Program} {l : Launch} {e : Env} {s : State} {m : MethodId} {below : List Frame} {meth : Method} {c : Code} {D : va_G} {cs : CS} {kS vS ad ad2 : Nat → Nat} {b L : Nat} {xs : Nat → Int32} {H : Heap} {locs : List Loc} {ls : Array Slot} (hL : LC p s m meth c D cs kS vS b L xs) {K : Nat} {C : CT} {S : MS} (hs : Sim K C S) (hK64 : K ≤ 64) {i : Nat} (hi : i + 5 ≤ L) (h320 : L ≤ 320) (hP : va_P D classes (WC cs ad C ++ WM cs ad2 S) H) (hD : va_D (LA s) (WC cs ad C ++ WM cs ad2 S)) (hS : va_S (LA s) s.heap H locs) (hl : lv_has ls 4 [(0, .ref b), (1, .ref (ad 0)), (2, .ref (ad2 22)), (3, .int (nI i))]) (kont : ∀ (C : CT) (S : MS) (H : Heap) (locs : List Loc), Sim (K + 1) C S → va_P D classes (WC cs ad C ++ WM cs ad2 S) H → va_D (LA s) (WC cs ad C ++ WM cs ad2 S) → va_S (LA s) s.heap H locs → W p l e room_1 s m #[Value.ref b] below meth c H locs 73 1324 (lw_Z below #[Value.ref b] s) (F0 m 1015 ls [])) : W p l e room_1 s m #[Value.ref b] below meth c H locs 73 1324 (lw_Z below #[Value.ref b] s) (F0 m 569 ls []) := by
  obtain ⟨hx, hb, hr, hml, hown, hT, hN, hK, hE, hX, hbl, hlk⟩ := id hL
  have hbA : ¬ LA s b := Nat.not_le.mpr hbl
  obtain ⟨r, e1, e2⟩ : ∃ r, mX10_giveUp C = some r ∧ mX11_giveUp S = some r := by
    obtain ⟨g, h1, -⟩ := hs
    exact s_giveUp h1
  have hs2 := hs.mono (Nat.le_succ K)
  refine lv_aload_n hx hb dL_law_569 rfl (lv_at hl 1 rfl) ?_
  refine LcRi (As := []) (rest := []) hL hP hD hS cw_L_86 e1 (fun z hz => tcX10_giveUp l D cs ad C z hz) ⟨rfl, rfl⟩ ⟨Nat.le_of_ble_eq_true rfl, Nat.le_of_ble_eq_true rfl⟩ hl.1 rfl rfl (Nat.le_of_ble_eq_true rfl) dL_law_570 ?_
  refine lv_aload_n hx hb dL_law_573 rfl (lv_at hl 2 rfl) ?_
  refine LmRi (As := []) (rest := [.int r]) hL hP hD hS cw_L_89 e2 (fun z hz => tcX11_giveUp l D cs ad2 S z hz) ⟨rfl, rfl⟩ ⟨Nat.le_of_ble_eq_true rfl, Nat.le_of_ble_eq_true rfl⟩ hl.1 rfl rfl (Nat.le_of_ble_eq_true rfl) dL_law_574 ?_
  refine lv_icmp_eq (tgt := 1015) hx hb dL_law_577 (by decide) (fun _ => ?_) (fun q => absurd rfl q)
  exact kont _ _ _ _ hs2 hP hD hS
set_option maxHeartbeats 4000000 in
set_option maxRecDepth 100000 in
theorem lc_denial {p : Program} {l : Launch} {e : Env} {s : State} {m : MethodId} {below : List Frame} {meth : Method} {c : Code} {D : va_G} {cs : CS} {kS vS ad ad2 : Nat → Nat} {b L : Nat} {xs : Nat → Int32} {H : Heap} {locs : List Loc} {ls : Array Slot} (hL : LC p s m meth c D cs kS vS b L xs) {K : Nat} {C : CT} {S : MS} (hs : Sim K C S) (hK64 : K ≤ 64) {i : Nat} (hi : i + 5 ≤ L) (h320 : L ≤ 320) (hP : va_P D classes (WC cs ad C ++ WM cs ad2 S) H) (hD : va_D (LA s) (WC cs ad C ++ WM cs ad2 S)) (hS : va_S (LA s) s.heap H locs) (hl : lv_has ls 4 [(0, .ref b), (1, .ref (ad 0)), (2, .ref (ad2 22)), (3, .int (nI i))]) (kont : ∀ (C : CT) (S : MS) (H : Heap) (locs : List Loc), Sim (K + 1) C S → va_P D classes (WC cs ad C ++ WM cs ad2 S) H → va_D (LA s) (WC cs ad C ++ WM cs ad2 S) → va_S (LA s) s.heap H locs → W p l e room_1 s m #[Value.ref b] below meth c H locs 73 1324 (lw_Z below #[Value.ref b] s) (F0 m 1015 ls [])) : W p l e room_1 s m #[Value.ref b] below meth c H locs 73 1324 (lw_Z below #[Value.ref b] s) (F0 m 582 ls []) := by
  obtain ⟨hx, hb, hr, hml, hown, hT, hN, hK, hE, hX, hbl, hlk⟩ := id hL
  have hbA : ¬ LA s b := Nat.not_le.mpr hbl
  have h1 : vp_in (nI i + nI 1) L := by rw [nI_add]; exact vp_in_nI (by omega) (by omega)
  obtain ⟨r, C2, S2, e1, e2, hs2⟩ := g_denial hs (xs (nI i + nI 1).toNatClampNeg)
  refine lv_aload_n hx hb dL_law_582 rfl (lv_at hl 1 rfl) ?_
  refine lv_aload_n hx hb dL_law_583 rfl (lv_at hl 0 rfl) ?_
  refine lv_iload_n hx hb dL_law_584 rfl (lv_at hl 3 rfl) ?_
  refine lv_iconst (v := (nI 1)) hx hb dL_law_585 (by decide) ?_
  refine lv_iadd hx hb dL_law_586 ?_
  refine va_sld hx hb hX hbl hbA hS h1 dL_law_587 ?_
  refine LcWi (As := [.int (xs (nI i + nI 1).toNatClampNeg)]) (rest := []) hL hP hD hS cw_L_90 e1 (fun z hz => tcX10_denial l D cs ad H.size C (xs (nI i + nI 1).toNatClampNeg) z hz) ⟨rfl, rfl⟩ ⟨Nat.le_of_ble_eq_true rfl, Nat.le_of_ble_eq_true rfl⟩ hl.1 rfl rfl (Nat.le_of_ble_eq_true rfl) dL_law_588 (fun H locs hP hD hS => ?_)
  refine lv_aload_n hx hb dL_law_591 rfl (lv_at hl 2 rfl) ?_
  refine lv_aload_n hx hb dL_law_592 rfl (lv_at hl 0 rfl) ?_
  refine lv_iload_n hx hb dL_law_593 rfl (lv_at hl 3 rfl) ?_
  refine lv_iconst (v := (nI 1)) hx hb dL_law_594 (by decide) ?_
  refine lv_iadd hx hb dL_law_595 ?_
  refine va_sld hx hb hX hbl hbA hS h1 dL_law_596 ?_
  refine LmWi (As := [.int (xs (nI i + nI 1).toNatClampNeg)]) (rest := [.int r]) hL hP hD hS cw_L_93 e2 (fun z hz => tcX11_denial l D cs ad2 H.size S (xs (nI i + nI 1).toNatClampNeg) z hz) ⟨rfl, rfl⟩ ⟨Nat.le_of_ble_eq_true rfl, Nat.le_of_ble_eq_true rfl⟩ hl.1 rfl rfl (Nat.le_of_ble_eq_true rfl) dL_law_597 (fun H locs hP hD hS => ?_)
  refine lv_icmp_eq (tgt := 1015) hx hb dL_law_600 (by decide) (fun _ => ?_) (fun q => absurd rfl q)
  exact kont _ _ _ _ hs2 hP hD hS
set_option maxHeartbeats 4000000 in
set_option maxRecDepth 100000 in
theorem lc_fees {p : Program} {l : Launch} {e : Env} {s : State} {m : MethodId} {below : List Frame} {meth : Method} {c : Code} {D : va_G} {cs : CS} {kS vS ad ad2 : Nat → Nat} {b L : Nat} {xs : Nat → Int32} {H : Heap} {locs : List Loc} {ls : Array Slot} (hL : LC p s m meth c D cs kS vS b L xs) {K : Nat} {C : CT} {S : MS} (hs : Sim K C S) (hK64 : K ≤ 64) {i : Nat} (hi : i + 5 ≤ L) (h320 : L ≤ 320) (hP : va_P D classes (WC cs ad C ++ WM cs ad2 S) H) (hD : va_D (LA s) (WC cs ad C ++ WM cs ad2 S)) (hS : va_S (LA s) s.heap H locs) (hl : lv_has ls 4 [(0, .ref b), (1, .ref (ad 0)), (2, .ref (ad2 22)), (3, .int (nI i))]) (kont : ∀ (C : CT) (S : MS) (H : Heap) (locs : List Loc), Sim (K + 1) C S → va_P D classes (WC cs ad C ++ WM cs ad2 S) H → va_D (LA s) (WC cs ad C ++ WM cs ad2 S) → va_S (LA s) s.heap H locs → W p l e room_1 s m #[Value.ref b] below meth c H locs 73 1324 (lw_Z below #[Value.ref b] s) (F0 m 1015 ls [])) : W p l e room_1 s m #[Value.ref b] below meth c H locs 73 1324 (lw_Z below #[Value.ref b] s) (F0 m 605 ls []) := by
  obtain ⟨hx, hb, hr, hml, hown, hT, hN, hK, hE, hX, hbl, hlk⟩ := id hL
  have hbA : ¬ LA s b := Nat.not_le.mpr hbl
  have h1 : vp_in (nI i + nI 1) L := by rw [nI_add]; exact vp_in_nI (by omega) (by omega)
  obtain ⟨r, C2, S2, e1, e2, hs2⟩ := g_fees hs (by omega) (xs (nI i + nI 1).toNatClampNeg)
  refine lv_aload_n hx hb dL_law_605 rfl (lv_at hl 1 rfl) ?_
  refine lv_aload_n hx hb dL_law_606 rfl (lv_at hl 0 rfl) ?_
  refine lv_iload_n hx hb dL_law_607 rfl (lv_at hl 3 rfl) ?_
  refine lv_iconst (v := (nI 1)) hx hb dL_law_608 (by decide) ?_
  refine lv_iadd hx hb dL_law_609 ?_
  refine va_sld hx hb hX hbl hbA hS h1 dL_law_610 ?_
  refine LcWi (As := [.int (xs (nI i + nI 1).toNatClampNeg)]) (rest := []) hL hP hD hS cw_L_94 e1 (fun z hz => tcX10_fees l D cs ad H.size C (xs (nI i + nI 1).toNatClampNeg) z hz) ⟨rfl, rfl⟩ ⟨Nat.le_of_ble_eq_true rfl, Nat.le_of_ble_eq_true rfl⟩ hl.1 rfl rfl (Nat.le_of_ble_eq_true rfl) dL_law_611 (fun H locs hP hD hS => ?_)
  refine lv_aload_n hx hb dL_law_614 rfl (lv_at hl 2 rfl) ?_
  refine lv_aload_n hx hb dL_law_615 rfl (lv_at hl 0 rfl) ?_
  refine lv_iload_n hx hb dL_law_616 rfl (lv_at hl 3 rfl) ?_
  refine lv_iconst (v := (nI 1)) hx hb dL_law_617 (by decide) ?_
  refine lv_iadd hx hb dL_law_618 ?_
  refine va_sld hx hb hX hbl hbA hS h1 dL_law_619 ?_
  refine LmWi (As := [.int (xs (nI i + nI 1).toNatClampNeg)]) (rest := [.int r]) hL hP hD hS cw_L_97 e2 (fun z hz => tcX11_fees l D cs ad2 H.size S (xs (nI i + nI 1).toNatClampNeg) z hz) ⟨rfl, rfl⟩ ⟨Nat.le_of_ble_eq_true rfl, Nat.le_of_ble_eq_true rfl⟩ hl.1 rfl rfl (Nat.le_of_ble_eq_true rfl) dL_law_620 (fun H locs hP hD hS => ?_)
  refine lv_icmp_eq (tgt := 1015) hx hb dL_law_623 (by decide) (fun _ => ?_) (fun q => absurd rfl q)
  exact kont _ _ _ _ hs2 hP hD hS
set_option maxHeartbeats 4000000 in
set_option maxRecDepth 100000 in
theorem lc_rule {p : Program} {l : Launch} {e : Env} {s : State} {m : MethodId} {below : List Frame} {meth : Method} {c : Code} {D : va_G} {cs : CS} {kS vS ad ad2 : Nat → Nat} {b L : Nat} {xs : Nat → Int32} {H : Heap} {locs : List Loc} {ls : Array Slot} (hL : LC p s m meth c D cs kS vS b L xs) {K : Nat} {C : CT} {S : MS} (hs : Sim K C S) (hK64 : K ≤ 64) {i : Nat} (hi : i + 5 ≤ L) (h320 : L ≤ 320) (hP : va_P D classes (WC cs ad C ++ WM cs ad2 S) H) (hD : va_D (LA s) (WC cs ad C ++ WM cs ad2 S)) (hS : va_S (LA s) s.heap H locs) (hl : lv_has ls 4 [(0, .ref b), (1, .ref (ad 0)), (2, .ref (ad2 22)), (3, .int (nI i))]) (kont : ∀ (C : CT) (S : MS) (H : Heap) (locs : List Loc), Sim (K + 1) C S → va_P D classes (WC cs ad C ++ WM cs ad2 S) H → va_D (LA s) (WC cs ad C ++ WM cs ad2 S) → va_S (LA s) s.heap H locs → W p l e room_1 s m #[Value.ref b] below meth c H locs 73 1324 (lw_Z below #[Value.ref b] s) (F0 m 1015 ls [])) : W p l e room_1 s m #[Value.ref b] below meth c H locs 73 1324 (lw_Z below #[Value.ref b] s) (F0 m 628 ls []) := by
  obtain ⟨hx, hb, hr, hml, hown, hT, hN, hK, hE, hX, hbl, hlk⟩ := id hL
  have hbA : ¬ LA s b := Nat.not_le.mpr hbl
  have h1 : vp_in (nI i + nI 1) L := by rw [nI_add]; exact vp_in_nI (by omega) (by omega)
  obtain ⟨r, C2, S2, e1, e2, hs2⟩ := g_rule hs (xs (nI i + nI 1).toNatClampNeg)
  refine lv_aload_n hx hb dL_law_628 rfl (lv_at hl 1 rfl) ?_
  refine lv_aload_n hx hb dL_law_629 rfl (lv_at hl 0 rfl) ?_
  refine lv_iload_n hx hb dL_law_630 rfl (lv_at hl 3 rfl) ?_
  refine lv_iconst (v := (nI 1)) hx hb dL_law_631 (by decide) ?_
  refine lv_iadd hx hb dL_law_632 ?_
  refine va_sld hx hb hX hbl hbA hS h1 dL_law_633 ?_
  refine LcWi (As := [.int (xs (nI i + nI 1).toNatClampNeg)]) (rest := []) hL hP hD hS cw_L_98 e1 (fun z hz => tcX10_rule l D cs ad H.size C (xs (nI i + nI 1).toNatClampNeg) z hz) ⟨rfl, rfl⟩ ⟨Nat.le_of_ble_eq_true rfl, Nat.le_of_ble_eq_true rfl⟩ hl.1 rfl rfl (Nat.le_of_ble_eq_true rfl) dL_law_634 (fun H locs hP hD hS => ?_)
  refine lv_aload_n hx hb dL_law_637 rfl (lv_at hl 2 rfl) ?_
  refine lv_aload_n hx hb dL_law_638 rfl (lv_at hl 0 rfl) ?_
  refine lv_iload_n hx hb dL_law_639 rfl (lv_at hl 3 rfl) ?_
  refine lv_iconst (v := (nI 1)) hx hb dL_law_640 (by decide) ?_
  refine lv_iadd hx hb dL_law_641 ?_
  refine va_sld hx hb hX hbl hbA hS h1 dL_law_642 ?_
  refine LmWi (As := [.int (xs (nI i + nI 1).toNatClampNeg)]) (rest := [.int r]) hL hP hD hS cw_L_101 e2 (fun z hz => tcX11_rule l D cs ad2 H.size S (xs (nI i + nI 1).toNatClampNeg) z hz) ⟨rfl, rfl⟩ ⟨Nat.le_of_ble_eq_true rfl, Nat.le_of_ble_eq_true rfl⟩ hl.1 rfl rfl (Nat.le_of_ble_eq_true rfl) dL_law_643 (fun H locs hP hD hS => ?_)
  refine lv_icmp_eq (tgt := 1015) hx hb dL_law_646 (by decide) (fun _ => ?_) (fun q => absurd rfl q)
  exact kont _ _ _ _ hs2 hP hD hS
set_option maxHeartbeats 4000000 in
set_option maxRecDepth 100000 in
theorem lc_note {p : Program} {l : Launch} {e : Env} {s : State} {m : MethodId} {below : List Frame} {meth : Method} {c : Code} {D : va_G} {cs : CS} {kS vS ad ad2 : Nat → Nat} {b L : Nat} {xs : Nat → Int32} {H : Heap} {locs : List Loc} {ls : Array Slot} (hL : LC p s m meth c D cs kS vS b L xs) {K : Nat} {C : CT} {S : MS} (hs : Sim K C S) (hK64 : K ≤ 64) {i : Nat} (hi : i + 5 ≤ L) (h320 : L ≤ 320) (hP : va_P D classes (WC cs ad C ++ WM cs ad2 S) H) (hD : va_D (LA s) (WC cs ad C ++ WM cs ad2 S)) (hS : va_S (LA s) s.heap H locs) (hl : lv_has ls 4 [(0, .ref b), (1, .ref (ad 0)), (2, .ref (ad2 22)), (3, .int (nI i))]) (kont : ∀ (C : CT) (S : MS) (H : Heap) (locs : List Loc), Sim (K + 1) C S → va_P D classes (WC cs ad C ++ WM cs ad2 S) H → va_D (LA s) (WC cs ad C ++ WM cs ad2 S) → va_S (LA s) s.heap H locs → W p l e room_1 s m #[Value.ref b] below meth c H locs 73 1324 (lw_Z below #[Value.ref b] s) (F0 m 1015 ls [])) : W p l e room_1 s m #[Value.ref b] below meth c H locs 73 1324 (lw_Z below #[Value.ref b] s) (F0 m 651 ls []) := by
  obtain ⟨hx, hb, hr, hml, hown, hT, hN, hK, hE, hX, hbl, hlk⟩ := id hL
  have hbA : ¬ LA s b := Nat.not_le.mpr hbl
  have h1 : vp_in (nI i + nI 1) L := by rw [nI_add]; exact vp_in_nI (by omega) (by omega)
  have h2 : vp_in (nI i + nI 2) L := by rw [nI_add]; exact vp_in_nI (by omega) (by omega)
  have h3 : vp_in (nI i + nI 3) L := by rw [nI_add]; exact vp_in_nI (by omega) (by omega)
  obtain ⟨r, C2, S2, e1, e2, hs2⟩ := g_note hs (xs (nI i + nI 1).toNatClampNeg) (xs (nI i + nI 2).toNatClampNeg) (xs (nI i + nI 3).toNatClampNeg)
  refine lv_aload_n hx hb dL_law_651 rfl (lv_at hl 1 rfl) ?_
  refine lv_aload_n hx hb dL_law_652 rfl (lv_at hl 0 rfl) ?_
  refine lv_iload_n hx hb dL_law_653 rfl (lv_at hl 3 rfl) ?_
  refine lv_iconst (v := (nI 1)) hx hb dL_law_654 (by decide) ?_
  refine lv_iadd hx hb dL_law_655 ?_
  refine va_sld hx hb hX hbl hbA hS h1 dL_law_656 ?_
  refine lv_aload_n hx hb dL_law_657 rfl (lv_at hl 0 rfl) ?_
  refine lv_iload_n hx hb dL_law_658 rfl (lv_at hl 3 rfl) ?_
  refine lv_iconst (v := (nI 2)) hx hb dL_law_659 (by decide) ?_
  refine lv_iadd hx hb dL_law_660 ?_
  refine va_sld hx hb hX hbl hbA hS h2 dL_law_661 ?_
  refine lv_aload_n hx hb dL_law_662 rfl (lv_at hl 0 rfl) ?_
  refine lv_iload_n hx hb dL_law_663 rfl (lv_at hl 3 rfl) ?_
  refine lv_iconst (v := (nI 3)) hx hb dL_law_664 (by decide) ?_
  refine lv_iadd hx hb dL_law_665 ?_
  refine va_sld hx hb hX hbl hbA hS h3 dL_law_666 ?_
  refine LcWi (As := [.int (xs (nI i + nI 1).toNatClampNeg), .int (xs (nI i + nI 2).toNatClampNeg), .int (xs (nI i + nI 3).toNatClampNeg)]) (rest := []) hL hP hD hS cw_L_102 e1 (fun z hz => tcX10_note l D cs ad H.size C (xs (nI i + nI 1).toNatClampNeg) (xs (nI i + nI 2).toNatClampNeg) (xs (nI i + nI 3).toNatClampNeg) z hz) ⟨rfl, rfl⟩ ⟨Nat.le_of_ble_eq_true rfl, Nat.le_of_ble_eq_true rfl⟩ hl.1 rfl rfl (Nat.le_of_ble_eq_true rfl) dL_law_667 (fun H locs hP hD hS => ?_)
  refine lv_aload_n hx hb dL_law_670 rfl (lv_at hl 2 rfl) ?_
  refine lv_aload_n hx hb dL_law_671 rfl (lv_at hl 0 rfl) ?_
  refine lv_iload_n hx hb dL_law_672 rfl (lv_at hl 3 rfl) ?_
  refine lv_iconst (v := (nI 1)) hx hb dL_law_673 (by decide) ?_
  refine lv_iadd hx hb dL_law_674 ?_
  refine va_sld hx hb hX hbl hbA hS h1 dL_law_675 ?_
  refine lv_aload_n hx hb dL_law_676 rfl (lv_at hl 0 rfl) ?_
  refine lv_iload_n hx hb dL_law_677 rfl (lv_at hl 3 rfl) ?_
  refine lv_iconst (v := (nI 2)) hx hb dL_law_678 (by decide) ?_
  refine lv_iadd hx hb dL_law_679 ?_
  refine va_sld hx hb hX hbl hbA hS h2 dL_law_680 ?_
  refine lv_aload_n hx hb dL_law_681 rfl (lv_at hl 0 rfl) ?_
  refine lv_iload_n hx hb dL_law_682 rfl (lv_at hl 3 rfl) ?_
  refine lv_iconst (v := (nI 3)) hx hb dL_law_683 (by decide) ?_
  refine lv_iadd hx hb dL_law_684 ?_
  refine va_sld hx hb hX hbl hbA hS h3 dL_law_685 ?_
  refine LmWi (As := [.int (xs (nI i + nI 1).toNatClampNeg), .int (xs (nI i + nI 2).toNatClampNeg), .int (xs (nI i + nI 3).toNatClampNeg)]) (rest := [.int r]) hL hP hD hS cw_L_105 e2 (fun z hz => tcX11_note l D cs ad2 H.size S (xs (nI i + nI 1).toNatClampNeg) (xs (nI i + nI 2).toNatClampNeg) (xs (nI i + nI 3).toNatClampNeg) z hz) ⟨rfl, rfl⟩ ⟨Nat.le_of_ble_eq_true rfl, Nat.le_of_ble_eq_true rfl⟩ hl.1 rfl rfl (Nat.le_of_ble_eq_true rfl) dL_law_686 (fun H locs hP hD hS => ?_)
  refine lv_icmp_eq (tgt := 1015) hx hb dL_law_689 (by decide) (fun _ => ?_) (fun q => absurd rfl q)
  exact kont _ _ _ _ hs2 hP hD hS
set_option maxHeartbeats 4000000 in
set_option maxRecDepth 100000 in
theorem lc_heard {p : Program} {l : Launch} {e : Env} {s : State} {m : MethodId} {below : List Frame} {meth : Method} {c : Code} {D : va_G} {cs : CS} {kS vS ad ad2 : Nat → Nat} {b L : Nat} {xs : Nat → Int32} {H : Heap} {locs : List Loc} {ls : Array Slot} (hL : LC p s m meth c D cs kS vS b L xs) {K : Nat} {C : CT} {S : MS} (hs : Sim K C S) (hK64 : K ≤ 64) {i : Nat} (hi : i + 5 ≤ L) (h320 : L ≤ 320) (hP : va_P D classes (WC cs ad C ++ WM cs ad2 S) H) (hD : va_D (LA s) (WC cs ad C ++ WM cs ad2 S)) (hS : va_S (LA s) s.heap H locs) (hl : lv_has ls 4 [(0, .ref b), (1, .ref (ad 0)), (2, .ref (ad2 22)), (3, .int (nI i))]) (kont : ∀ (C : CT) (S : MS) (H : Heap) (locs : List Loc), Sim (K + 1) C S → va_P D classes (WC cs ad C ++ WM cs ad2 S) H → va_D (LA s) (WC cs ad C ++ WM cs ad2 S) → va_S (LA s) s.heap H locs → W p l e room_1 s m #[Value.ref b] below meth c H locs 73 1324 (lw_Z below #[Value.ref b] s) (F0 m 1015 ls [])) : W p l e room_1 s m #[Value.ref b] below meth c H locs 73 1324 (lw_Z below #[Value.ref b] s) (F0 m 694 ls []) := by
  obtain ⟨hx, hb, hr, hml, hown, hT, hN, hK, hE, hX, hbl, hlk⟩ := id hL
  have hbA : ¬ LA s b := Nat.not_le.mpr hbl
  have h1 : vp_in (nI i + nI 1) L := by rw [nI_add]; exact vp_in_nI (by omega) (by omega)
  have h2 : vp_in (nI i + nI 2) L := by rw [nI_add]; exact vp_in_nI (by omega) (by omega)
  obtain ⟨r, C2, S2, e1, e2, hs2⟩ := g_heard hs (xs (nI i + nI 1).toNatClampNeg) (xs (nI i + nI 2).toNatClampNeg)
  refine lv_aload_n hx hb dL_law_694 rfl (lv_at hl 1 rfl) ?_
  refine lv_aload_n hx hb dL_law_695 rfl (lv_at hl 0 rfl) ?_
  refine lv_iload_n hx hb dL_law_696 rfl (lv_at hl 3 rfl) ?_
  refine lv_iconst (v := (nI 1)) hx hb dL_law_697 (by decide) ?_
  refine lv_iadd hx hb dL_law_698 ?_
  refine va_sld hx hb hX hbl hbA hS h1 dL_law_699 ?_
  refine lv_aload_n hx hb dL_law_700 rfl (lv_at hl 0 rfl) ?_
  refine lv_iload_n hx hb dL_law_701 rfl (lv_at hl 3 rfl) ?_
  refine lv_iconst (v := (nI 2)) hx hb dL_law_702 (by decide) ?_
  refine lv_iadd hx hb dL_law_703 ?_
  refine va_sld hx hb hX hbl hbA hS h2 dL_law_704 ?_
  refine LcWi (As := [.int (xs (nI i + nI 1).toNatClampNeg), .int (xs (nI i + nI 2).toNatClampNeg)]) (rest := []) hL hP hD hS cw_L_106 e1 (fun z hz => tcX10_heard l D cs ad H.size C (xs (nI i + nI 1).toNatClampNeg) (xs (nI i + nI 2).toNatClampNeg) z hz) ⟨rfl, rfl⟩ ⟨Nat.le_of_ble_eq_true rfl, Nat.le_of_ble_eq_true rfl⟩ hl.1 rfl rfl (Nat.le_of_ble_eq_true rfl) dL_law_705 (fun H locs hP hD hS => ?_)
  refine lv_aload_n hx hb dL_law_708 rfl (lv_at hl 2 rfl) ?_
  refine lv_aload_n hx hb dL_law_709 rfl (lv_at hl 0 rfl) ?_
  refine lv_iload_n hx hb dL_law_710 rfl (lv_at hl 3 rfl) ?_
  refine lv_iconst (v := (nI 1)) hx hb dL_law_711 (by decide) ?_
  refine lv_iadd hx hb dL_law_712 ?_
  refine va_sld hx hb hX hbl hbA hS h1 dL_law_713 ?_
  refine lv_aload_n hx hb dL_law_714 rfl (lv_at hl 0 rfl) ?_
  refine lv_iload_n hx hb dL_law_715 rfl (lv_at hl 3 rfl) ?_
  refine lv_iconst (v := (nI 2)) hx hb dL_law_716 (by decide) ?_
  refine lv_iadd hx hb dL_law_717 ?_
  refine va_sld hx hb hX hbl hbA hS h2 dL_law_718 ?_
  refine LmWi (As := [.int (xs (nI i + nI 1).toNatClampNeg), .int (xs (nI i + nI 2).toNatClampNeg)]) (rest := [.int r]) hL hP hD hS cw_L_109 e2 (fun z hz => tcX11_heard l D cs ad2 H.size S (xs (nI i + nI 1).toNatClampNeg) (xs (nI i + nI 2).toNatClampNeg) z hz) ⟨rfl, rfl⟩ ⟨Nat.le_of_ble_eq_true rfl, Nat.le_of_ble_eq_true rfl⟩ hl.1 rfl rfl (Nat.le_of_ble_eq_true rfl) dL_law_719 (fun H locs hP hD hS => ?_)
  refine lv_icmp_eq (tgt := 1015) hx hb dL_law_722 (by decide) (fun _ => ?_) (fun q => absurd rfl q)
  exact kont _ _ _ _ hs2 hP hD hS
set_option maxHeartbeats 4000000 in
set_option maxRecDepth 100000 in
theorem lc_forget {p : Program} {l : Launch} {e : Env} {s : State} {m : MethodId} {below : List Frame} {meth : Method} {c : Code} {D : va_G} {cs : CS} {kS vS ad ad2 : Nat → Nat} {b L : Nat} {xs : Nat → Int32} {H : Heap} {locs : List Loc} {ls : Array Slot} (hL : LC p s m meth c D cs kS vS b L xs) {K : Nat} {C : CT} {S : MS} (hs : Sim K C S) (hK64 : K ≤ 64) {i : Nat} (hi : i + 5 ≤ L) (h320 : L ≤ 320) (hP : va_P D classes (WC cs ad C ++ WM cs ad2 S) H) (hD : va_D (LA s) (WC cs ad C ++ WM cs ad2 S)) (hS : va_S (LA s) s.heap H locs) (hl : lv_has ls 4 [(0, .ref b), (1, .ref (ad 0)), (2, .ref (ad2 22)), (3, .int (nI i))]) (kont : ∀ (C : CT) (S : MS) (H : Heap) (locs : List Loc), Sim (K + 1) C S → va_P D classes (WC cs ad C ++ WM cs ad2 S) H → va_D (LA s) (WC cs ad C ++ WM cs ad2 S) → va_S (LA s) s.heap H locs → W p l e room_1 s m #[Value.ref b] below meth c H locs 73 1324 (lw_Z below #[Value.ref b] s) (F0 m 1015 ls [])) : W p l e room_1 s m #[Value.ref b] below meth c H locs 73 1324 (lw_Z below #[Value.ref b] s) (F0 m 727 ls []) := by
  obtain ⟨hx, hb, hr, hml, hown, hT, hN, hK, hE, hX, hbl, hlk⟩ := id hL
  have hbA : ¬ LA s b := Nat.not_le.mpr hbl
  have h1 : vp_in (nI i + nI 1) L := by rw [nI_add]; exact vp_in_nI (by omega) (by omega)
  obtain ⟨r, C2, S2, e1, e2, hs2⟩ := g_forget hs (xs (nI i + nI 1).toNatClampNeg)
  refine lv_aload_n hx hb dL_law_727 rfl (lv_at hl 1 rfl) ?_
  refine lv_aload_n hx hb dL_law_728 rfl (lv_at hl 0 rfl) ?_
  refine lv_iload_n hx hb dL_law_729 rfl (lv_at hl 3 rfl) ?_
  refine lv_iconst (v := (nI 1)) hx hb dL_law_730 (by decide) ?_
  refine lv_iadd hx hb dL_law_731 ?_
  refine va_sld hx hb hX hbl hbA hS h1 dL_law_732 ?_
  refine LcWi (As := [.int (xs (nI i + nI 1).toNatClampNeg)]) (rest := []) hL hP hD hS cw_L_110 e1 (fun z hz => tcX10_forget l D cs ad H.size C (xs (nI i + nI 1).toNatClampNeg) z hz) ⟨rfl, rfl⟩ ⟨Nat.le_of_ble_eq_true rfl, Nat.le_of_ble_eq_true rfl⟩ hl.1 rfl rfl (Nat.le_of_ble_eq_true rfl) dL_law_733 (fun H locs hP hD hS => ?_)
  refine lv_aload_n hx hb dL_law_736 rfl (lv_at hl 2 rfl) ?_
  refine lv_aload_n hx hb dL_law_737 rfl (lv_at hl 0 rfl) ?_
  refine lv_iload_n hx hb dL_law_738 rfl (lv_at hl 3 rfl) ?_
  refine lv_iconst (v := (nI 1)) hx hb dL_law_739 (by decide) ?_
  refine lv_iadd hx hb dL_law_740 ?_
  refine va_sld hx hb hX hbl hbA hS h1 dL_law_741 ?_
  refine LmWi (As := [.int (xs (nI i + nI 1).toNatClampNeg)]) (rest := [.int r]) hL hP hD hS cw_L_113 e2 (fun z hz => tcX11_forget l D cs ad2 H.size S (xs (nI i + nI 1).toNatClampNeg) z hz) ⟨rfl, rfl⟩ ⟨Nat.le_of_ble_eq_true rfl, Nat.le_of_ble_eq_true rfl⟩ hl.1 rfl rfl (Nat.le_of_ble_eq_true rfl) dL_law_742 (fun H locs hP hD hS => ?_)
  refine lv_icmp_eq (tgt := 1015) hx hb dL_law_745 (by decide) (fun _ => ?_) (fun q => absurd rfl q)
  exact kont _ _ _ _ hs2 hP hD hS
set_option maxHeartbeats 4000000 in
set_option maxRecDepth 100000 in
theorem lc_is {p : Program} {l : Launch} {e : Env} {s : State} {m : MethodId} {below : List Frame} {meth : Method} {c : Code} {D : va_G} {cs : CS} {kS vS ad ad2 : Nat → Nat} {b L : Nat} {xs : Nat → Int32} {H : Heap} {locs : List Loc} {ls : Array Slot} (hL : LC p s m meth c D cs kS vS b L xs) {K : Nat} {C : CT} {S : MS} (hs : Sim K C S) (hK64 : K ≤ 64) {i : Nat} (hi : i + 5 ≤ L) (h320 : L ≤ 320) (hP : va_P D classes (WC cs ad C ++ WM cs ad2 S) H) (hD : va_D (LA s) (WC cs ad C ++ WM cs ad2 S)) (hS : va_S (LA s) s.heap H locs) (hl : lv_has ls 4 [(0, .ref b), (1, .ref (ad 0)), (2, .ref (ad2 22)), (3, .int (nI i))]) (kont : ∀ (C : CT) (S : MS) (H : Heap) (locs : List Loc), Sim (K + 1) C S → va_P D classes (WC cs ad C ++ WM cs ad2 S) H → va_D (LA s) (WC cs ad C ++ WM cs ad2 S) → va_S (LA s) s.heap H locs → W p l e room_1 s m #[Value.ref b] below meth c H locs 73 1324 (lw_Z below #[Value.ref b] s) (F0 m 1015 ls [])) : W p l e room_1 s m #[Value.ref b] below meth c H locs 73 1324 (lw_Z below #[Value.ref b] s) (F0 m 750 ls []) := by
  obtain ⟨hx, hb, hr, hml, hown, hT, hN, hK, hE, hX, hbl, hlk⟩ := id hL
  have hbA : ¬ LA s b := Nat.not_le.mpr hbl
  have h1 : vp_in (nI i + nI 1) L := by rw [nI_add]; exact vp_in_nI (by omega) (by omega)
  obtain ⟨r, C2, S2, e1, e2, hs2⟩ := g_is hs (xs (nI i + nI 1).toNatClampNeg)
  refine lv_aload_n hx hb dL_law_750 rfl (lv_at hl 1 rfl) ?_
  refine lv_aload_n hx hb dL_law_751 rfl (lv_at hl 0 rfl) ?_
  refine lv_iload_n hx hb dL_law_752 rfl (lv_at hl 3 rfl) ?_
  refine lv_iconst (v := (nI 1)) hx hb dL_law_753 (by decide) ?_
  refine lv_iadd hx hb dL_law_754 ?_
  refine va_sld hx hb hX hbl hbA hS h1 dL_law_755 ?_
  refine LcWi (As := [.int (xs (nI i + nI 1).toNatClampNeg)]) (rest := []) hL hP hD hS cw_L_114 e1 (fun z hz => tcX10_is l D cs ad H.size C (xs (nI i + nI 1).toNatClampNeg) z hz) ⟨rfl, rfl⟩ ⟨Nat.le_of_ble_eq_true rfl, Nat.le_of_ble_eq_true rfl⟩ hl.1 rfl rfl (Nat.le_of_ble_eq_true rfl) dL_law_756 (fun H locs hP hD hS => ?_)
  refine lv_aload_n hx hb dL_law_759 rfl (lv_at hl 2 rfl) ?_
  refine lv_aload_n hx hb dL_law_760 rfl (lv_at hl 0 rfl) ?_
  refine lv_iload_n hx hb dL_law_761 rfl (lv_at hl 3 rfl) ?_
  refine lv_iconst (v := (nI 1)) hx hb dL_law_762 (by decide) ?_
  refine lv_iadd hx hb dL_law_763 ?_
  refine va_sld hx hb hX hbl hbA hS h1 dL_law_764 ?_
  refine LmWi (As := [.int (xs (nI i + nI 1).toNatClampNeg)]) (rest := [.int r]) hL hP hD hS cw_L_117 e2 (fun z hz => tcX11_is l D cs ad2 H.size S (xs (nI i + nI 1).toNatClampNeg) z hz) ⟨rfl, rfl⟩ ⟨Nat.le_of_ble_eq_true rfl, Nat.le_of_ble_eq_true rfl⟩ hl.1 rfl rfl (Nat.le_of_ble_eq_true rfl) dL_law_765 (fun H locs hP hD hS => ?_)
  refine lv_icmp_eq (tgt := 1015) hx hb dL_law_768 (by decide) (fun _ => ?_) (fun q => absurd rfl q)
  exact kont _ _ _ _ hs2 hP hD hS
set_option maxHeartbeats 4000000 in
set_option maxRecDepth 100000 in
theorem lc_look {p : Program} {l : Launch} {e : Env} {s : State} {m : MethodId} {below : List Frame} {meth : Method} {c : Code} {D : va_G} {cs : CS} {kS vS ad ad2 : Nat → Nat} {b L : Nat} {xs : Nat → Int32} {H : Heap} {locs : List Loc} {ls : Array Slot} (hL : LC p s m meth c D cs kS vS b L xs) {K : Nat} {C : CT} {S : MS} (hs : Sim K C S) (hK64 : K ≤ 64) {i : Nat} (hi : i + 5 ≤ L) (h320 : L ≤ 320) (hP : va_P D classes (WC cs ad C ++ WM cs ad2 S) H) (hD : va_D (LA s) (WC cs ad C ++ WM cs ad2 S)) (hS : va_S (LA s) s.heap H locs) (hl : lv_has ls 4 [(0, .ref b), (1, .ref (ad 0)), (2, .ref (ad2 22)), (3, .int (nI i))]) (kont : ∀ (C : CT) (S : MS) (H : Heap) (locs : List Loc), Sim (K + 1) C S → va_P D classes (WC cs ad C ++ WM cs ad2 S) H → va_D (LA s) (WC cs ad C ++ WM cs ad2 S) → va_S (LA s) s.heap H locs → W p l e room_1 s m #[Value.ref b] below meth c H locs 73 1324 (lw_Z below #[Value.ref b] s) (F0 m 1015 ls [])) : W p l e room_1 s m #[Value.ref b] below meth c H locs 73 1324 (lw_Z below #[Value.ref b] s) (F0 m 773 ls []) := by
  obtain ⟨hx, hb, hr, hml, hown, hT, hN, hK, hE, hX, hbl, hlk⟩ := id hL
  have hbA : ¬ LA s b := Nat.not_le.mpr hbl
  have h1 : vp_in (nI i + nI 1) L := by rw [nI_add]; exact vp_in_nI (by omega) (by omega)
  obtain ⟨r, C2, S2, e1, e2, hs2⟩ := g_look hs (xs (nI i + nI 1).toNatClampNeg)
  refine lv_aload_n hx hb dL_law_773 rfl (lv_at hl 1 rfl) ?_
  refine lv_aload_n hx hb dL_law_774 rfl (lv_at hl 0 rfl) ?_
  refine lv_iload_n hx hb dL_law_775 rfl (lv_at hl 3 rfl) ?_
  refine lv_iconst (v := (nI 1)) hx hb dL_law_776 (by decide) ?_
  refine lv_iadd hx hb dL_law_777 ?_
  refine va_sld hx hb hX hbl hbA hS h1 dL_law_778 ?_
  refine LcWi (As := [.int (xs (nI i + nI 1).toNatClampNeg)]) (rest := []) hL hP hD hS cw_L_118 e1 (fun z hz => tcX10_look l D cs ad H.size C (xs (nI i + nI 1).toNatClampNeg) z hz) ⟨rfl, rfl⟩ ⟨Nat.le_of_ble_eq_true rfl, Nat.le_of_ble_eq_true rfl⟩ hl.1 rfl rfl (Nat.le_of_ble_eq_true rfl) dL_law_779 (fun H locs hP hD hS => ?_)
  refine lv_aload_n hx hb dL_law_782 rfl (lv_at hl 2 rfl) ?_
  refine lv_aload_n hx hb dL_law_783 rfl (lv_at hl 0 rfl) ?_
  refine lv_iload_n hx hb dL_law_784 rfl (lv_at hl 3 rfl) ?_
  refine lv_iconst (v := (nI 1)) hx hb dL_law_785 (by decide) ?_
  refine lv_iadd hx hb dL_law_786 ?_
  refine va_sld hx hb hX hbl hbA hS h1 dL_law_787 ?_
  refine LmWi (As := [.int (xs (nI i + nI 1).toNatClampNeg)]) (rest := [.int r]) hL hP hD hS cw_L_121 e2 (fun z hz => tcX11_look l D cs ad2 H.size S (xs (nI i + nI 1).toNatClampNeg) z hz) ⟨rfl, rfl⟩ ⟨Nat.le_of_ble_eq_true rfl, Nat.le_of_ble_eq_true rfl⟩ hl.1 rfl rfl (Nat.le_of_ble_eq_true rfl) dL_law_788 (fun H locs hP hD hS => ?_)
  refine lv_icmp_eq (tgt := 1015) hx hb dL_law_791 (by decide) (fun _ => ?_) (fun q => absurd rfl q)
  exact kont _ _ _ _ hs2 hP hD hS
set_option maxHeartbeats 4000000 in
set_option maxRecDepth 100000 in
theorem lc_truth {p : Program} {l : Launch} {e : Env} {s : State} {m : MethodId} {below : List Frame} {meth : Method} {c : Code} {D : va_G} {cs : CS} {kS vS ad ad2 : Nat → Nat} {b L : Nat} {xs : Nat → Int32} {H : Heap} {locs : List Loc} {ls : Array Slot} (hL : LC p s m meth c D cs kS vS b L xs) {K : Nat} {C : CT} {S : MS} (hs : Sim K C S) (hK64 : K ≤ 64) {i : Nat} (hi : i + 5 ≤ L) (h320 : L ≤ 320) (hP : va_P D classes (WC cs ad C ++ WM cs ad2 S) H) (hD : va_D (LA s) (WC cs ad C ++ WM cs ad2 S)) (hS : va_S (LA s) s.heap H locs) (hl : lv_has ls 4 [(0, .ref b), (1, .ref (ad 0)), (2, .ref (ad2 22)), (3, .int (nI i))]) (kont : ∀ (C : CT) (S : MS) (H : Heap) (locs : List Loc), Sim (K + 1) C S → va_P D classes (WC cs ad C ++ WM cs ad2 S) H → va_D (LA s) (WC cs ad C ++ WM cs ad2 S) → va_S (LA s) s.heap H locs → W p l e room_1 s m #[Value.ref b] below meth c H locs 73 1324 (lw_Z below #[Value.ref b] s) (F0 m 1015 ls [])) : W p l e room_1 s m #[Value.ref b] below meth c H locs 73 1324 (lw_Z below #[Value.ref b] s) (F0 m 796 ls []) := by
  obtain ⟨hx, hb, hr, hml, hown, hT, hN, hK, hE, hX, hbl, hlk⟩ := id hL
  have hbA : ¬ LA s b := Nat.not_le.mpr hbl
  have h1 : vp_in (nI i + nI 1) L := by rw [nI_add]; exact vp_in_nI (by omega) (by omega)
  obtain ⟨r, C2, S2, e1, e2, hs2⟩ := g_truth hs (xs (nI i + nI 1).toNatClampNeg)
  refine lv_aload_n hx hb dL_law_796 rfl (lv_at hl 1 rfl) ?_
  refine lv_aload_n hx hb dL_law_797 rfl (lv_at hl 0 rfl) ?_
  refine lv_iload_n hx hb dL_law_798 rfl (lv_at hl 3 rfl) ?_
  refine lv_iconst (v := (nI 1)) hx hb dL_law_799 (by decide) ?_
  refine lv_iadd hx hb dL_law_800 ?_
  refine va_sld hx hb hX hbl hbA hS h1 dL_law_801 ?_
  refine LcWi (As := [.int (xs (nI i + nI 1).toNatClampNeg)]) (rest := []) hL hP hD hS cw_L_122 e1 (fun z hz => tcX10_truth l D cs ad H.size C (xs (nI i + nI 1).toNatClampNeg) z hz) ⟨rfl, rfl⟩ ⟨Nat.le_of_ble_eq_true rfl, Nat.le_of_ble_eq_true rfl⟩ hl.1 rfl rfl (Nat.le_of_ble_eq_true rfl) dL_law_802 (fun H locs hP hD hS => ?_)
  refine lv_aload_n hx hb dL_law_805 rfl (lv_at hl 2 rfl) ?_
  refine lv_aload_n hx hb dL_law_806 rfl (lv_at hl 0 rfl) ?_
  refine lv_iload_n hx hb dL_law_807 rfl (lv_at hl 3 rfl) ?_
  refine lv_iconst (v := (nI 1)) hx hb dL_law_808 (by decide) ?_
  refine lv_iadd hx hb dL_law_809 ?_
  refine va_sld hx hb hX hbl hbA hS h1 dL_law_810 ?_
  refine LmWi (As := [.int (xs (nI i + nI 1).toNatClampNeg)]) (rest := [.int r]) hL hP hD hS cw_L_125 e2 (fun z hz => tcX11_truth l D cs ad2 H.size S (xs (nI i + nI 1).toNatClampNeg) z hz) ⟨rfl, rfl⟩ ⟨Nat.le_of_ble_eq_true rfl, Nat.le_of_ble_eq_true rfl⟩ hl.1 rfl rfl (Nat.le_of_ble_eq_true rfl) dL_law_811 (fun H locs hP hD hS => ?_)
  refine lv_icmp_eq (tgt := 1015) hx hb dL_law_814 (by decide) (fun _ => ?_) (fun q => absurd rfl q)
  exact kont _ _ _ _ hs2 hP hD hS
set_option maxHeartbeats 4000000 in
set_option maxRecDepth 100000 in
theorem lc_odds {p : Program} {l : Launch} {e : Env} {s : State} {m : MethodId} {below : List Frame} {meth : Method} {c : Code} {D : va_G} {cs : CS} {kS vS ad ad2 : Nat → Nat} {b L : Nat} {xs : Nat → Int32} {H : Heap} {locs : List Loc} {ls : Array Slot} (hL : LC p s m meth c D cs kS vS b L xs) {K : Nat} {C : CT} {S : MS} (hs : Sim K C S) (hK64 : K ≤ 64) {i : Nat} (hi : i + 5 ≤ L) (h320 : L ≤ 320) (hP : va_P D classes (WC cs ad C ++ WM cs ad2 S) H) (hD : va_D (LA s) (WC cs ad C ++ WM cs ad2 S)) (hS : va_S (LA s) s.heap H locs) (hl : lv_has ls 4 [(0, .ref b), (1, .ref (ad 0)), (2, .ref (ad2 22)), (3, .int (nI i))]) (kont : ∀ (C : CT) (S : MS) (H : Heap) (locs : List Loc), Sim (K + 1) C S → va_P D classes (WC cs ad C ++ WM cs ad2 S) H → va_D (LA s) (WC cs ad C ++ WM cs ad2 S) → va_S (LA s) s.heap H locs → W p l e room_1 s m #[Value.ref b] below meth c H locs 73 1324 (lw_Z below #[Value.ref b] s) (F0 m 1015 ls [])) : W p l e room_1 s m #[Value.ref b] below meth c H locs 73 1324 (lw_Z below #[Value.ref b] s) (F0 m 819 ls []) := by
  obtain ⟨hx, hb, hr, hml, hown, hT, hN, hK, hE, hX, hbl, hlk⟩ := id hL
  have hbA : ¬ LA s b := Nat.not_le.mpr hbl
  have h1 : vp_in (nI i + nI 1) L := by rw [nI_add]; exact vp_in_nI (by omega) (by omega)
  have h2 : vp_in (nI i + nI 2) L := by rw [nI_add]; exact vp_in_nI (by omega) (by omega)
  obtain ⟨r, C2, S2, e1, e2, hs2⟩ := g_odds hs (xs (nI i + nI 1).toNatClampNeg) (xs (nI i + nI 2).toNatClampNeg)
  refine lv_aload_n hx hb dL_law_819 rfl (lv_at hl 1 rfl) ?_
  refine lv_aload_n hx hb dL_law_820 rfl (lv_at hl 0 rfl) ?_
  refine lv_iload_n hx hb dL_law_821 rfl (lv_at hl 3 rfl) ?_
  refine lv_iconst (v := (nI 1)) hx hb dL_law_822 (by decide) ?_
  refine lv_iadd hx hb dL_law_823 ?_
  refine va_sld hx hb hX hbl hbA hS h1 dL_law_824 ?_
  refine lv_aload_n hx hb dL_law_825 rfl (lv_at hl 0 rfl) ?_
  refine lv_iload_n hx hb dL_law_826 rfl (lv_at hl 3 rfl) ?_
  refine lv_iconst (v := (nI 2)) hx hb dL_law_827 (by decide) ?_
  refine lv_iadd hx hb dL_law_828 ?_
  refine va_sld hx hb hX hbl hbA hS h2 dL_law_829 ?_
  refine LcWi (As := [.int (xs (nI i + nI 1).toNatClampNeg), .int (xs (nI i + nI 2).toNatClampNeg)]) (rest := []) hL hP hD hS cw_L_126 e1 (fun z hz => tcX10_odds l D cs ad H.size C (xs (nI i + nI 1).toNatClampNeg) (xs (nI i + nI 2).toNatClampNeg) z hz) ⟨rfl, rfl⟩ ⟨Nat.le_of_ble_eq_true rfl, Nat.le_of_ble_eq_true rfl⟩ hl.1 rfl rfl (Nat.le_of_ble_eq_true rfl) dL_law_830 (fun H locs hP hD hS => ?_)
  refine lv_aload_n hx hb dL_law_833 rfl (lv_at hl 2 rfl) ?_
  refine lv_aload_n hx hb dL_law_834 rfl (lv_at hl 0 rfl) ?_
  refine lv_iload_n hx hb dL_law_835 rfl (lv_at hl 3 rfl) ?_
  refine lv_iconst (v := (nI 1)) hx hb dL_law_836 (by decide) ?_
  refine lv_iadd hx hb dL_law_837 ?_
  refine va_sld hx hb hX hbl hbA hS h1 dL_law_838 ?_
  refine lv_aload_n hx hb dL_law_839 rfl (lv_at hl 0 rfl) ?_
  refine lv_iload_n hx hb dL_law_840 rfl (lv_at hl 3 rfl) ?_
  refine lv_iconst (v := (nI 2)) hx hb dL_law_841 (by decide) ?_
  refine lv_iadd hx hb dL_law_842 ?_
  refine va_sld hx hb hX hbl hbA hS h2 dL_law_843 ?_
  refine LmWi (As := [.int (xs (nI i + nI 1).toNatClampNeg), .int (xs (nI i + nI 2).toNatClampNeg)]) (rest := [.int r]) hL hP hD hS cw_L_129 e2 (fun z hz => tcX11_odds l D cs ad2 H.size S (xs (nI i + nI 1).toNatClampNeg) (xs (nI i + nI 2).toNatClampNeg) z hz) ⟨rfl, rfl⟩ ⟨Nat.le_of_ble_eq_true rfl, Nat.le_of_ble_eq_true rfl⟩ hl.1 rfl rfl (Nat.le_of_ble_eq_true rfl) dL_law_844 (fun H locs hP hD hS => ?_)
  refine lv_icmp_eq (tgt := 1015) hx hb dL_law_847 (by decide) (fun _ => ?_) (fun q => absurd rfl q)
  exact kont _ _ _ _ hs2 hP hD hS
set_option maxHeartbeats 4000000 in
set_option maxRecDepth 100000 in
theorem lc_terms {p : Program} {l : Launch} {e : Env} {s : State} {m : MethodId} {below : List Frame} {meth : Method} {c : Code} {D : va_G} {cs : CS} {kS vS ad ad2 : Nat → Nat} {b L : Nat} {xs : Nat → Int32} {H : Heap} {locs : List Loc} {ls : Array Slot} (hL : LC p s m meth c D cs kS vS b L xs) {K : Nat} {C : CT} {S : MS} (hs : Sim K C S) (hK64 : K ≤ 64) {i : Nat} (hi : i + 5 ≤ L) (h320 : L ≤ 320) (hP : va_P D classes (WC cs ad C ++ WM cs ad2 S) H) (hD : va_D (LA s) (WC cs ad C ++ WM cs ad2 S)) (hS : va_S (LA s) s.heap H locs) (hl : lv_has ls 4 [(0, .ref b), (1, .ref (ad 0)), (2, .ref (ad2 22)), (3, .int (nI i))]) (kont : ∀ (C : CT) (S : MS) (H : Heap) (locs : List Loc), Sim (K + 1) C S → va_P D classes (WC cs ad C ++ WM cs ad2 S) H → va_D (LA s) (WC cs ad C ++ WM cs ad2 S) → va_S (LA s) s.heap H locs → W p l e room_1 s m #[Value.ref b] below meth c H locs 73 1324 (lw_Z below #[Value.ref b] s) (F0 m 1015 ls [])) : W p l e room_1 s m #[Value.ref b] below meth c H locs 73 1324 (lw_Z below #[Value.ref b] s) (F0 m 852 ls []) := by
  obtain ⟨hx, hb, hr, hml, hown, hT, hN, hK, hE, hX, hbl, hlk⟩ := id hL
  have hbA : ¬ LA s b := Nat.not_le.mpr hbl
  have h1 : vp_in (nI i + nI 1) L := by rw [nI_add]; exact vp_in_nI (by omega) (by omega)
  have h2 : vp_in (nI i + nI 2) L := by rw [nI_add]; exact vp_in_nI (by omega) (by omega)
  obtain ⟨r, C2, S2, e1, e2, hs2⟩ := g_terms hs (by omega) (xs (nI i + nI 1).toNatClampNeg) (xs (nI i + nI 2).toNatClampNeg)
  refine lv_aload_n hx hb dL_law_852 rfl (lv_at hl 1 rfl) ?_
  refine lv_aload_n hx hb dL_law_853 rfl (lv_at hl 0 rfl) ?_
  refine lv_iload_n hx hb dL_law_854 rfl (lv_at hl 3 rfl) ?_
  refine lv_iconst (v := (nI 1)) hx hb dL_law_855 (by decide) ?_
  refine lv_iadd hx hb dL_law_856 ?_
  refine va_sld hx hb hX hbl hbA hS h1 dL_law_857 ?_
  refine lv_aload_n hx hb dL_law_858 rfl (lv_at hl 0 rfl) ?_
  refine lv_iload_n hx hb dL_law_859 rfl (lv_at hl 3 rfl) ?_
  refine lv_iconst (v := (nI 2)) hx hb dL_law_860 (by decide) ?_
  refine lv_iadd hx hb dL_law_861 ?_
  refine va_sld hx hb hX hbl hbA hS h2 dL_law_862 ?_
  refine LcWi (As := [.int (xs (nI i + nI 1).toNatClampNeg), .int (xs (nI i + nI 2).toNatClampNeg)]) (rest := []) hL hP hD hS cw_L_130 e1 (fun z hz => tcX10_terms l D cs ad H.size C (xs (nI i + nI 1).toNatClampNeg) (xs (nI i + nI 2).toNatClampNeg) z hz) ⟨rfl, rfl⟩ ⟨Nat.le_of_ble_eq_true rfl, Nat.le_of_ble_eq_true rfl⟩ hl.1 rfl rfl (Nat.le_of_ble_eq_true rfl) dL_law_863 (fun H locs hP hD hS => ?_)
  refine lv_aload_n hx hb dL_law_866 rfl (lv_at hl 2 rfl) ?_
  refine lv_aload_n hx hb dL_law_867 rfl (lv_at hl 0 rfl) ?_
  refine lv_iload_n hx hb dL_law_868 rfl (lv_at hl 3 rfl) ?_
  refine lv_iconst (v := (nI 1)) hx hb dL_law_869 (by decide) ?_
  refine lv_iadd hx hb dL_law_870 ?_
  refine va_sld hx hb hX hbl hbA hS h1 dL_law_871 ?_
  refine lv_aload_n hx hb dL_law_872 rfl (lv_at hl 0 rfl) ?_
  refine lv_iload_n hx hb dL_law_873 rfl (lv_at hl 3 rfl) ?_
  refine lv_iconst (v := (nI 2)) hx hb dL_law_874 (by decide) ?_
  refine lv_iadd hx hb dL_law_875 ?_
  refine va_sld hx hb hX hbl hbA hS h2 dL_law_876 ?_
  refine LmWi (As := [.int (xs (nI i + nI 1).toNatClampNeg), .int (xs (nI i + nI 2).toNatClampNeg)]) (rest := [.int r]) hL hP hD hS cw_L_133 e2 (fun z hz => tcX11_terms l D cs ad2 H.size S (xs (nI i + nI 1).toNatClampNeg) (xs (nI i + nI 2).toNatClampNeg) z hz) ⟨rfl, rfl⟩ ⟨Nat.le_of_ble_eq_true rfl, Nat.le_of_ble_eq_true rfl⟩ hl.1 rfl rfl (Nat.le_of_ble_eq_true rfl) dL_law_877 (fun H locs hP hD hS => ?_)
  refine lv_icmp_eq (tgt := 1015) hx hb dL_law_880 (by decide) (fun _ => ?_) (fun q => absurd rfl q)
  exact kont _ _ _ _ hs2 hP hD hS
set_option maxHeartbeats 4000000 in
set_option maxRecDepth 100000 in
theorem lc_part {p : Program} {l : Launch} {e : Env} {s : State} {m : MethodId} {below : List Frame} {meth : Method} {c : Code} {D : va_G} {cs : CS} {kS vS ad ad2 : Nat → Nat} {b L : Nat} {xs : Nat → Int32} {H : Heap} {locs : List Loc} {ls : Array Slot} (hL : LC p s m meth c D cs kS vS b L xs) {K : Nat} {C : CT} {S : MS} (hs : Sim K C S) (hK64 : K ≤ 64) {i : Nat} (hi : i + 5 ≤ L) (h320 : L ≤ 320) (hP : va_P D classes (WC cs ad C ++ WM cs ad2 S) H) (hD : va_D (LA s) (WC cs ad C ++ WM cs ad2 S)) (hS : va_S (LA s) s.heap H locs) (hl : lv_has ls 4 [(0, .ref b), (1, .ref (ad 0)), (2, .ref (ad2 22)), (3, .int (nI i))]) (kont : ∀ (C : CT) (S : MS) (H : Heap) (locs : List Loc), Sim (K + 1) C S → va_P D classes (WC cs ad C ++ WM cs ad2 S) H → va_D (LA s) (WC cs ad C ++ WM cs ad2 S) → va_S (LA s) s.heap H locs → W p l e room_1 s m #[Value.ref b] below meth c H locs 73 1324 (lw_Z below #[Value.ref b] s) (F0 m 1015 ls [])) : W p l e room_1 s m #[Value.ref b] below meth c H locs 73 1324 (lw_Z below #[Value.ref b] s) (F0 m 885 ls []) := by
  obtain ⟨hx, hb, hr, hml, hown, hT, hN, hK, hE, hX, hbl, hlk⟩ := id hL
  have hbA : ¬ LA s b := Nat.not_le.mpr hbl
  have h1 : vp_in (nI i + nI 1) L := by rw [nI_add]; exact vp_in_nI (by omega) (by omega)
  obtain ⟨r, C2, S2, e1, e2, hs2⟩ := g_part hs (xs (nI i + nI 1).toNatClampNeg)
  refine lv_aload_n hx hb dL_law_885 rfl (lv_at hl 1 rfl) ?_
  refine lv_aload_n hx hb dL_law_886 rfl (lv_at hl 0 rfl) ?_
  refine lv_iload_n hx hb dL_law_887 rfl (lv_at hl 3 rfl) ?_
  refine lv_iconst (v := (nI 1)) hx hb dL_law_888 (by decide) ?_
  refine lv_iadd hx hb dL_law_889 ?_
  refine va_sld hx hb hX hbl hbA hS h1 dL_law_890 ?_
  refine LcWl (As := [.int (xs (nI i + nI 1).toNatClampNeg)]) (rest := []) hL hP hD hS cw_L_134 e1 (fun z hz => tcX10_part l D cs ad H.size C (xs (nI i + nI 1).toNatClampNeg) z hz) ⟨rfl, rfl⟩ ⟨Nat.le_of_ble_eq_true rfl, Nat.le_of_ble_eq_true rfl⟩ hl.1 rfl rfl (Nat.le_of_ble_eq_true rfl) dL_law_891 (fun H locs hP hD hS => ?_)
  refine lv_aload_n hx hb dL_law_894 rfl (lv_at hl 2 rfl) ?_
  refine lv_aload_n hx hb dL_law_895 rfl (lv_at hl 0 rfl) ?_
  refine lv_iload_n hx hb dL_law_896 rfl (lv_at hl 3 rfl) ?_
  refine lv_iconst (v := (nI 1)) hx hb dL_law_897 (by decide) ?_
  refine lv_iadd hx hb dL_law_898 ?_
  refine va_sld hx hb hX hbl hbA hS h1 dL_law_899 ?_
  refine LmWl (As := [.int (xs (nI i + nI 1).toNatClampNeg)]) (rest := [.long r]) hL hP hD hS cw_L_138 e2 (fun z hz => tcX11_part l D cs ad2 H.size S (xs (nI i + nI 1).toNatClampNeg) z hz) ⟨rfl, rfl⟩ ⟨Nat.le_of_ble_eq_true rfl, Nat.le_of_ble_eq_true rfl⟩ hl.1 rfl rfl (Nat.le_of_ble_eq_true rfl) dL_law_900 (fun H locs hP hD hS => ?_)
  refine W.lcmp hx hb dL_law_903 (lv_if_eq (tgt := 1015) hx hb dL_law_904 (by decide) (fun _ => ?_) (fun q => absurd (lgc_eq.mpr rfl) q))
  exact kont _ _ _ _ hs2 hP hD hS
set_option maxHeartbeats 4000000 in
set_option maxRecDepth 100000 in
theorem lc_image {p : Program} {l : Launch} {e : Env} {s : State} {m : MethodId} {below : List Frame} {meth : Method} {c : Code} {D : va_G} {cs : CS} {kS vS ad ad2 : Nat → Nat} {b L : Nat} {xs : Nat → Int32} {H : Heap} {locs : List Loc} {ls : Array Slot} (hL : LC p s m meth c D cs kS vS b L xs) {K : Nat} {C : CT} {S : MS} (hs : Sim K C S) (hK64 : K ≤ 64) {i : Nat} (hi : i + 5 ≤ L) (h320 : L ≤ 320) (hP : va_P D classes (WC cs ad C ++ WM cs ad2 S) H) (hD : va_D (LA s) (WC cs ad C ++ WM cs ad2 S)) (hS : va_S (LA s) s.heap H locs) (hl : lv_has ls 4 [(0, .ref b), (1, .ref (ad 0)), (2, .ref (ad2 22)), (3, .int (nI i))]) (kont : ∀ (C : CT) (S : MS) (H : Heap) (locs : List Loc), Sim (K + 1) C S → va_P D classes (WC cs ad C ++ WM cs ad2 S) H → va_D (LA s) (WC cs ad C ++ WM cs ad2 S) → va_S (LA s) s.heap H locs → W p l e room_1 s m #[Value.ref b] below meth c H locs 73 1324 (lw_Z below #[Value.ref b] s) (F0 m 1015 ls [])) : W p l e room_1 s m #[Value.ref b] below meth c H locs 73 1324 (lw_Z below #[Value.ref b] s) (F0 m 909 ls []) := by
  obtain ⟨hx, hb, hr, hml, hown, hT, hN, hK, hE, hX, hbl, hlk⟩ := id hL
  have hbA : ¬ LA s b := Nat.not_le.mpr hbl
  have h1 : vp_in (nI i + nI 1) L := by rw [nI_add]; exact vp_in_nI (by omega) (by omega)
  obtain ⟨r, C2, S2, e1, e2, hs2⟩ := g_image hs (xs (nI i + nI 1).toNatClampNeg)
  refine lv_aload_n hx hb dL_law_909 rfl (lv_at hl 1 rfl) ?_
  refine lv_aload_n hx hb dL_law_910 rfl (lv_at hl 0 rfl) ?_
  refine lv_iload_n hx hb dL_law_911 rfl (lv_at hl 3 rfl) ?_
  refine lv_iconst (v := (nI 1)) hx hb dL_law_912 (by decide) ?_
  refine lv_iadd hx hb dL_law_913 ?_
  refine va_sld hx hb hX hbl hbA hS h1 dL_law_914 ?_
  refine LcWi (As := [.int (xs (nI i + nI 1).toNatClampNeg)]) (rest := []) hL hP hD hS cw_L_139 e1 (fun z hz => tcX10_image l D cs ad H.size C (xs (nI i + nI 1).toNatClampNeg) z hz) ⟨rfl, rfl⟩ ⟨Nat.le_of_ble_eq_true rfl, Nat.le_of_ble_eq_true rfl⟩ hl.1 rfl rfl (Nat.le_of_ble_eq_true rfl) dL_law_915 (fun H locs hP hD hS => ?_)
  refine lv_aload_n hx hb dL_law_918 rfl (lv_at hl 2 rfl) ?_
  refine lv_aload_n hx hb dL_law_919 rfl (lv_at hl 0 rfl) ?_
  refine lv_iload_n hx hb dL_law_920 rfl (lv_at hl 3 rfl) ?_
  refine lv_iconst (v := (nI 1)) hx hb dL_law_921 (by decide) ?_
  refine lv_iadd hx hb dL_law_922 ?_
  refine va_sld hx hb hX hbl hbA hS h1 dL_law_923 ?_
  refine LmWi (As := [.int (xs (nI i + nI 1).toNatClampNeg)]) (rest := [.int r]) hL hP hD hS cw_L_142 e2 (fun z hz => tcX11_image l D cs ad2 H.size S (xs (nI i + nI 1).toNatClampNeg) z hz) ⟨rfl, rfl⟩ ⟨Nat.le_of_ble_eq_true rfl, Nat.le_of_ble_eq_true rfl⟩ hl.1 rfl rfl (Nat.le_of_ble_eq_true rfl) dL_law_924 (fun H locs hP hD hS => ?_)
  refine lv_icmp_eq (tgt := 1015) hx hb dL_law_927 (by decide) (fun _ => ?_) (fun q => absurd rfl q)
  exact kont _ _ _ _ hs2 hP hD hS
set_option maxHeartbeats 4000000 in
set_option maxRecDepth 100000 in
theorem lc_from {p : Program} {l : Launch} {e : Env} {s : State} {m : MethodId} {below : List Frame} {meth : Method} {c : Code} {D : va_G} {cs : CS} {kS vS ad ad2 : Nat → Nat} {b L : Nat} {xs : Nat → Int32} {H : Heap} {locs : List Loc} {ls : Array Slot} (hL : LC p s m meth c D cs kS vS b L xs) {K : Nat} {C : CT} {S : MS} (hs : Sim K C S) (hK64 : K ≤ 64) {i : Nat} (hi : i + 5 ≤ L) (h320 : L ≤ 320) (hP : va_P D classes (WC cs ad C ++ WM cs ad2 S) H) (hD : va_D (LA s) (WC cs ad C ++ WM cs ad2 S)) (hS : va_S (LA s) s.heap H locs) (hl : lv_has ls 4 [(0, .ref b), (1, .ref (ad 0)), (2, .ref (ad2 22)), (3, .int (nI i))]) (kont : ∀ (C : CT) (S : MS) (H : Heap) (locs : List Loc), Sim (K + 1) C S → va_P D classes (WC cs ad C ++ WM cs ad2 S) H → va_D (LA s) (WC cs ad C ++ WM cs ad2 S) → va_S (LA s) s.heap H locs → W p l e room_1 s m #[Value.ref b] below meth c H locs 73 1324 (lw_Z below #[Value.ref b] s) (F0 m 1015 ls [])) : W p l e room_1 s m #[Value.ref b] below meth c H locs 73 1324 (lw_Z below #[Value.ref b] s) (F0 m 932 ls []) := by
  obtain ⟨hx, hb, hr, hml, hown, hT, hN, hK, hE, hX, hbl, hlk⟩ := id hL
  have hbA : ¬ LA s b := Nat.not_le.mpr hbl
  have h1 : vp_in (nI i + nI 1) L := by rw [nI_add]; exact vp_in_nI (by omega) (by omega)
  obtain ⟨r, C2, S2, e1, e2, hs2⟩ := g_from hs (xs (nI i + nI 1).toNatClampNeg)
  refine lv_aload_n hx hb dL_law_932 rfl (lv_at hl 1 rfl) ?_
  refine lv_aload_n hx hb dL_law_933 rfl (lv_at hl 0 rfl) ?_
  refine lv_iload_n hx hb dL_law_934 rfl (lv_at hl 3 rfl) ?_
  refine lv_iconst (v := (nI 1)) hx hb dL_law_935 (by decide) ?_
  refine lv_iadd hx hb dL_law_936 ?_
  refine va_sld hx hb hX hbl hbA hS h1 dL_law_937 ?_
  refine LcWi (As := [.int (xs (nI i + nI 1).toNatClampNeg)]) (rest := []) hL hP hD hS cw_L_143 e1 (fun z hz => tcX10_from l D cs ad H.size C (xs (nI i + nI 1).toNatClampNeg) z hz) ⟨rfl, rfl⟩ ⟨Nat.le_of_ble_eq_true rfl, Nat.le_of_ble_eq_true rfl⟩ hl.1 rfl rfl (Nat.le_of_ble_eq_true rfl) dL_law_938 (fun H locs hP hD hS => ?_)
  refine lv_aload_n hx hb dL_law_941 rfl (lv_at hl 2 rfl) ?_
  refine lv_aload_n hx hb dL_law_942 rfl (lv_at hl 0 rfl) ?_
  refine lv_iload_n hx hb dL_law_943 rfl (lv_at hl 3 rfl) ?_
  refine lv_iconst (v := (nI 1)) hx hb dL_law_944 (by decide) ?_
  refine lv_iadd hx hb dL_law_945 ?_
  refine va_sld hx hb hX hbl hbA hS h1 dL_law_946 ?_
  refine LmWi (As := [.int (xs (nI i + nI 1).toNatClampNeg)]) (rest := [.int r]) hL hP hD hS cw_L_146 e2 (fun z hz => tcX11_from l D cs ad2 H.size S (xs (nI i + nI 1).toNatClampNeg) z hz) ⟨rfl, rfl⟩ ⟨Nat.le_of_ble_eq_true rfl, Nat.le_of_ble_eq_true rfl⟩ hl.1 rfl rfl (Nat.le_of_ble_eq_true rfl) dL_law_947 (fun H locs hP hD hS => ?_)
  refine lv_icmp_eq (tgt := 1015) hx hb dL_law_950 (by decide) (fun _ => ?_) (fun q => absurd rfl q)
  exact kont _ _ _ _ hs2 hP hD hS
set_option maxHeartbeats 4000000 in
set_option maxRecDepth 100000 in
theorem lc_status {p : Program} {l : Launch} {e : Env} {s : State} {m : MethodId} {below : List Frame} {meth : Method} {c : Code} {D : va_G} {cs : CS} {kS vS ad ad2 : Nat → Nat} {b L : Nat} {xs : Nat → Int32} {H : Heap} {locs : List Loc} {ls : Array Slot} (hL : LC p s m meth c D cs kS vS b L xs) {K : Nat} {C : CT} {S : MS} (hs : Sim K C S) (hK64 : K ≤ 64) {i : Nat} (hi : i + 5 ≤ L) (h320 : L ≤ 320) (hP : va_P D classes (WC cs ad C ++ WM cs ad2 S) H) (hD : va_D (LA s) (WC cs ad C ++ WM cs ad2 S)) (hS : va_S (LA s) s.heap H locs) (hl : lv_has ls 4 [(0, .ref b), (1, .ref (ad 0)), (2, .ref (ad2 22)), (3, .int (nI i))]) (kont : ∀ (C : CT) (S : MS) (H : Heap) (locs : List Loc), Sim (K + 1) C S → va_P D classes (WC cs ad C ++ WM cs ad2 S) H → va_D (LA s) (WC cs ad C ++ WM cs ad2 S) → va_S (LA s) s.heap H locs → W p l e room_1 s m #[Value.ref b] below meth c H locs 73 1324 (lw_Z below #[Value.ref b] s) (F0 m 1015 ls [])) : W p l e room_1 s m #[Value.ref b] below meth c H locs 73 1324 (lw_Z below #[Value.ref b] s) (F0 m 955 ls []) := by
  obtain ⟨hx, hb, hr, hml, hown, hT, hN, hK, hE, hX, hbl, hlk⟩ := id hL
  have hbA : ¬ LA s b := Nat.not_le.mpr hbl
  have h1 : vp_in (nI i + nI 1) L := by rw [nI_add]; exact vp_in_nI (by omega) (by omega)
  obtain ⟨r, C2, S2, e1, e2, hs2⟩ := g_status hs (xs (nI i + nI 1).toNatClampNeg)
  refine lv_aload_n hx hb dL_law_955 rfl (lv_at hl 1 rfl) ?_
  refine lv_aload_n hx hb dL_law_956 rfl (lv_at hl 0 rfl) ?_
  refine lv_iload_n hx hb dL_law_957 rfl (lv_at hl 3 rfl) ?_
  refine lv_iconst (v := (nI 1)) hx hb dL_law_958 (by decide) ?_
  refine lv_iadd hx hb dL_law_959 ?_
  refine va_sld hx hb hX hbl hbA hS h1 dL_law_960 ?_
  refine LcWi (As := [.int (xs (nI i + nI 1).toNatClampNeg)]) (rest := []) hL hP hD hS cw_L_147 e1 (fun z hz => tcX10_status l D cs ad H.size C (xs (nI i + nI 1).toNatClampNeg) z hz) ⟨rfl, rfl⟩ ⟨Nat.le_of_ble_eq_true rfl, Nat.le_of_ble_eq_true rfl⟩ hl.1 rfl rfl (Nat.le_of_ble_eq_true rfl) dL_law_961 (fun H locs hP hD hS => ?_)
  refine lv_aload_n hx hb dL_law_964 rfl (lv_at hl 2 rfl) ?_
  refine lv_aload_n hx hb dL_law_965 rfl (lv_at hl 0 rfl) ?_
  refine lv_iload_n hx hb dL_law_966 rfl (lv_at hl 3 rfl) ?_
  refine lv_iconst (v := (nI 1)) hx hb dL_law_967 (by decide) ?_
  refine lv_iadd hx hb dL_law_968 ?_
  refine va_sld hx hb hX hbl hbA hS h1 dL_law_969 ?_
  refine LmWi (As := [.int (xs (nI i + nI 1).toNatClampNeg)]) (rest := [.int r]) hL hP hD hS cw_L_150 e2 (fun z hz => tcX11_status l D cs ad2 H.size S (xs (nI i + nI 1).toNatClampNeg) z hz) ⟨rfl, rfl⟩ ⟨Nat.le_of_ble_eq_true rfl, Nat.le_of_ble_eq_true rfl⟩ hl.1 rfl rfl (Nat.le_of_ble_eq_true rfl) dL_law_970 (fun H locs hP hD hS => ?_)
  refine lv_icmp_eq (tgt := 1015) hx hb dL_law_973 (by decide) (fun _ => ?_) (fun q => absurd rfl q)
  exact kont _ _ _ _ hs2 hP hD hS
set_option maxHeartbeats 4000000 in
set_option maxRecDepth 100000 in
theorem lc_count {p : Program} {l : Launch} {e : Env} {s : State} {m : MethodId} {below : List Frame} {meth : Method} {c : Code} {D : va_G} {cs : CS} {kS vS ad ad2 : Nat → Nat} {b L : Nat} {xs : Nat → Int32} {H : Heap} {locs : List Loc} {ls : Array Slot} (hL : LC p s m meth c D cs kS vS b L xs) {K : Nat} {C : CT} {S : MS} (hs : Sim K C S) (hK64 : K ≤ 64) {i : Nat} (hi : i + 5 ≤ L) (h320 : L ≤ 320) (hP : va_P D classes (WC cs ad C ++ WM cs ad2 S) H) (hD : va_D (LA s) (WC cs ad C ++ WM cs ad2 S)) (hS : va_S (LA s) s.heap H locs) (hl : lv_has ls 4 [(0, .ref b), (1, .ref (ad 0)), (2, .ref (ad2 22)), (3, .int (nI i))]) (kont : ∀ (C : CT) (S : MS) (H : Heap) (locs : List Loc), Sim (K + 1) C S → va_P D classes (WC cs ad C ++ WM cs ad2 S) H → va_D (LA s) (WC cs ad C ++ WM cs ad2 S) → va_S (LA s) s.heap H locs → W p l e room_1 s m #[Value.ref b] below meth c H locs 73 1324 (lw_Z below #[Value.ref b] s) (F0 m 1015 ls [])) : W p l e room_1 s m #[Value.ref b] below meth c H locs 73 1324 (lw_Z below #[Value.ref b] s) (F0 m 978 ls []) := by
  obtain ⟨hx, hb, hr, hml, hown, hT, hN, hK, hE, hX, hbl, hlk⟩ := id hL
  have hbA : ¬ LA s b := Nat.not_le.mpr hbl
  have h1 : vp_in (nI i + nI 1) L := by rw [nI_add]; exact vp_in_nI (by omega) (by omega)
  obtain ⟨r, C2, S2, e1, e2, hs2⟩ := g_count hs (xs (nI i + nI 1).toNatClampNeg)
  refine lv_aload_n hx hb dL_law_978 rfl (lv_at hl 1 rfl) ?_
  refine lv_aload_n hx hb dL_law_979 rfl (lv_at hl 0 rfl) ?_
  refine lv_iload_n hx hb dL_law_980 rfl (lv_at hl 3 rfl) ?_
  refine lv_iconst (v := (nI 1)) hx hb dL_law_981 (by decide) ?_
  refine lv_iadd hx hb dL_law_982 ?_
  refine va_sld hx hb hX hbl hbA hS h1 dL_law_983 ?_
  refine LcWi (As := [.int (xs (nI i + nI 1).toNatClampNeg)]) (rest := []) hL hP hD hS cw_L_151 e1 (fun z hz => tcX10_count l D cs ad H.size C (xs (nI i + nI 1).toNatClampNeg) z hz) ⟨rfl, rfl⟩ ⟨Nat.le_of_ble_eq_true rfl, Nat.le_of_ble_eq_true rfl⟩ hl.1 rfl rfl (Nat.le_of_ble_eq_true rfl) dL_law_984 (fun H locs hP hD hS => ?_)
  refine lv_aload_n hx hb dL_law_987 rfl (lv_at hl 2 rfl) ?_
  refine lv_aload_n hx hb dL_law_988 rfl (lv_at hl 0 rfl) ?_
  refine lv_iload_n hx hb dL_law_989 rfl (lv_at hl 3 rfl) ?_
  refine lv_iconst (v := (nI 1)) hx hb dL_law_990 (by decide) ?_
  refine lv_iadd hx hb dL_law_991 ?_
  refine va_sld hx hb hX hbl hbA hS h1 dL_law_992 ?_
  refine LmWi (As := [.int (xs (nI i + nI 1).toNatClampNeg)]) (rest := [.int r]) hL hP hD hS cw_L_154 e2 (fun z hz => tcX11_count l D cs ad2 H.size S (xs (nI i + nI 1).toNatClampNeg) z hz) ⟨rfl, rfl⟩ ⟨Nat.le_of_ble_eq_true rfl, Nat.le_of_ble_eq_true rfl⟩ hl.1 rfl rfl (Nat.le_of_ble_eq_true rfl) dL_law_993 (fun H locs hP hD hS => ?_)
  refine lv_icmp_eq (tgt := 1015) hx hb dL_law_996 (by decide) (fun _ => ?_) (fun q => absurd rfl q)
  exact kont _ _ _ _ hs2 hP hD hS
set_option maxHeartbeats 4000000 in
set_option maxRecDepth 100000 in
theorem lc_digest {p : Program} {l : Launch} {e : Env} {s : State} {m : MethodId} {below : List Frame} {meth : Method} {c : Code} {D : va_G} {cs : CS} {kS vS ad ad2 : Nat → Nat} {b L : Nat} {xs : Nat → Int32} {H : Heap} {locs : List Loc} {ls : Array Slot} (hL : LC p s m meth c D cs kS vS b L xs) {K : Nat} {C : CT} {S : MS} (hs : Sim K C S) (hK64 : K ≤ 64) {i : Nat} (hi : i + 5 ≤ L) (h320 : L ≤ 320) (hP : va_P D classes (WC cs ad C ++ WM cs ad2 S) H) (hD : va_D (LA s) (WC cs ad C ++ WM cs ad2 S)) (hS : va_S (LA s) s.heap H locs) (hl : lv_has ls 4 [(0, .ref b), (1, .ref (ad 0)), (2, .ref (ad2 22)), (3, .int (nI i))]) (kont : ∀ (C : CT) (S : MS) (H : Heap) (locs : List Loc), Sim (K + 1) C S → va_P D classes (WC cs ad C ++ WM cs ad2 S) H → va_D (LA s) (WC cs ad C ++ WM cs ad2 S) → va_S (LA s) s.heap H locs → W p l e room_1 s m #[Value.ref b] below meth c H locs 73 1324 (lw_Z below #[Value.ref b] s) (F0 m 1015 ls [])) : W p l e room_1 s m #[Value.ref b] below meth c H locs 73 1324 (lw_Z below #[Value.ref b] s) (F0 m 1001 ls []) := by
  obtain ⟨hx, hb, hr, hml, hown, hT, hN, hK, hE, hX, hbl, hlk⟩ := id hL
  have hbA : ¬ LA s b := Nat.not_le.mpr hbl
  obtain ⟨r, e1, e2⟩ := s_digest hs
  have hs2 := hs.mono (Nat.le_succ K)
  refine lv_aload_n hx hb dL_law_1001 rfl (lv_at hl 1 rfl) ?_
  refine LcWl (As := []) (rest := []) hL hP hD hS cw_L_155 e1 (fun z hz => tcX10_digest l D cs ad H.size C z hz) ⟨rfl, rfl⟩ ⟨Nat.le_of_ble_eq_true rfl, Nat.le_of_ble_eq_true rfl⟩ hl.1 rfl rfl (Nat.le_of_ble_eq_true rfl) dL_law_1002 (fun H locs hP hD hS => ?_)
  refine lv_aload_n hx hb dL_law_1005 rfl (lv_at hl 2 rfl) ?_
  refine LmRl (As := []) (rest := [.long r]) hL hP hD hS cw_L_159 e2 (fun z hz => tcX11_digest l D cs ad2 S z hz) ⟨rfl, rfl⟩ ⟨Nat.le_of_ble_eq_true rfl, Nat.le_of_ble_eq_true rfl⟩ hl.1 rfl rfl (Nat.le_of_ble_eq_true rfl) dL_law_1006 ?_
  refine W.lcmp hx hb dL_law_1009 (lv_if_eq (tgt := 1015) hx hb dL_law_1010 (by decide) (fun _ => ?_) (fun q => absurd (lgc_eq.mpr rfl) q))
  exact kont _ _ _ _ hs2 hP hD hS
