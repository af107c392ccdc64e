/-- the law's own end, with 1 on the stack, nothing written that was there before, its room as the claim has it -/
theorem lw_ret {p : Program} {l : Launch} {e : Env} {s : State} {m : MethodId} {below : List Frame} {meth : Method} {c : Code} {b : Nat} (hx : p.tables.exec = Jvm.exec) (hb : c.code = code) (hr : meth.sig.returnType = ret) (hlocks : meth.locks = false) {pc : Nat} {H : Heap} {ls : Array Slot} (hdg : decode code pc = .ok (.ireturn, 1)) : W p l e room_1 s m #[Value.ref b] below meth c H [] 600000 7302250 (lw_Z below #[Value.ref b] s) (F0 m pc ls [.int 1]) := by
  intro T hT X
  obtain ⟨fs, hret, hrun, hended, hW, hframe⟩ := X.leave (v := some (.int 1)) (hlocks := hlocks) (fun h => by rw [hr] at h; cases h)
  have hmeth' : T.vm.method? m = some meth := X.method'
  refine ⟨T.setFrames fs, ?_, .returned (some (.int 1)), hrun, hended, rfl, ⟨_, rfl⟩, hW, hframe⟩
  jvm_step X.here [X.here.top, hx, hb, hdg, hmeth', hr, ret, narrow_b1]
  (try refine ⟨rfl, ?_⟩); (try refine ⟨rfl, ?_⟩)
  first | (intro acts; rw [hret _ acts rfl rfl rfl]) | rw [hret _ _ rfl rfl rfl]
  exact Steps.refl _
theorem i_end {i L : Nat} (hi : i ≤ 400) (hL : L ≤ 320) (h : ¬ Int32.ofNat L - nI 5 < nI i) : i + 5 ≤ L := by
  apply Nat.le_of_not_lt
  intro q
  apply h
  show nI L - nI 5 < nI i
  by_cases h5 : 5 ≤ L
  · rw [pk_sub h5]
    exact nI_lt (by omega) (by omega)
  · have h1 := pk_sneg (a := L) (b := 5) (by decide) (by omega)
    have h2 := nI_pos' (n := i) (by omega)
    rw [Int32.lt_iff_toInt_lt] at h1 ⊢
    rw [Int32.le_iff_toInt_le] at h2
    omega
theorem k_out {k : Nat} (h : 35 ≤ k) (hk : k < 64) : 34 < (nI k).toInt := by
  rw [nI_toInt (by omega)]
  omega
set_option maxHeartbeats 4000000 in
set_option maxRecDepth 100000 in
theorem law_loop {p : Program} {l : Launch} {e : Env} {s : State} {m : MethodId} {below : List Frame} {meth : Method} {c : Code} {D : va_G} {cs : CS} {kS vS ad ad2 : Nat → Nat} {b L : Nat} {xs : Nat → Int32} (hL : LC p s m meth c D cs kS vS b L xs) (h320 : L ≤ 320) : ∀ n j, 65 ≤ j + n → j ≤ 64 → ∀ (C : CT) (S : MS), Sim j C S → ∀ (H : Heap) (locs : List Loc), va_P D classes (WC cs ad C ++ WM cs ad2 S) H → va_D (LA s) (WC cs ad C ++ WM cs ad2 S) → va_S (LA s) s.heap H locs → ∀ ls : Array Slot, lv_has ls 4 [(0, .ref b), (1, .ref (ad 0)), (2, .ref (ad2 22)), (3, .int (nI (5 * j)))] → W p l e room_1 s m #[Value.ref b] below meth c H locs 73 1324 (lw_Z below #[Value.ref b] s) (F0 m 18 ls []) := by
  obtain ⟨hx, hb, hr, hml, hown, hT, hN, hK, hE, hX, hbl, hlk⟩ := id hL
  have hbA : ¬ LA s b := Nat.not_le.mpr hbl
  intro n
  induction n with
  | zero =>
    intro j h1 h2
    exact absurd h1 (by omega)
  | succ n ih =>
    intro j h1 h2 C S hs H locs hP hD hS ls hl
    refine lv_iload_n hx hb dL_law_18 rfl (lv_at hl 3 rfl) ?_
    refine lv_aload_n hx hb dL_law_19 rfl (lv_at hl 0 rfl) ?_
    refine va_slen hx hb hX hbl hbA hS dL_law_20 ?_
    refine lv_iconst (v := (nI 5)) hx hb dL_law_21 (by decide) ?_
    refine lv_isub hx hb dL_law_22 ?_
    refine lv_icmp_gt (tgt := 1021) hx hb dL_law_23 (by decide) (fun _ => ?_) (fun hc => ?_)
    · refine lv_iconst (v := 1) hx hb dL_law_1021 (by decide) ?_
      refine va_forget (fun q hq => hS.2.2 q hq) ?_
      refine W.widen (k := 600000) (n := 7302250) (by decide) (by decide) ?_
      exact lw_ret hx hb hr hlk dL_law_1022
    · have hi : 5 * j + 5 ≤ L := i_end (by omega) h320 hc
      have kont : ∀ (C : CT) (S : MS) (H : Heap) (locs : List Loc), Sim (j + 1) C S → va_P D classes (WC cs ad C ++ WM cs ad2 S) H → va_D (LA s) (WC cs ad C ++ WM cs ad2 S) → va_S (LA s) s.heap H locs → W p l e room_1 s m #[Value.ref b] below meth c H locs 73 1324 (lw_Z below #[Value.ref b] s) (F0 m 1015 ls []) := by
        intro C S H locs hs hP hD hS
        refine lv_iinc (v := nI (5 * (j + 1))) (lv' := [(3, .int (nI (5 * (j + 1)))), (0, .ref b), (1, .ref (ad 0)), (2, .ref (ad2 22))]) hx hb dL_law_1015 hl (k := 3) rfl (by show nI (5 * j) + nI 5 = nI (5 * (j + 1)); rw [nI_add]; rfl) (by decide) rfl (fun ls hl => ?_)
        refine lv_goto (tgt := 18) hx hb dL_law_1018 (by decide) ?_
        exact ih (j + 1) (by omega) (by omega) C S hs H locs hP hD hS ls (lv_sub hl [1, 2, 3, 0] rfl)
      refine lv_aload_n hx hb dL_law_26 rfl (lv_at hl 0 rfl) ?_
      refine lv_iload_n hx hb dL_law_27 rfl (lv_at hl 3 rfl) ?_
      refine va_sld hx hb hX hbl hbA hS (vp_in_nI (by omega) (by omega)) dL_law_28 ?_
      refine lv_bipush (v := (nI 63)) hx hb dL_law_29 (by decide) ?_
      refine lv_iand hx hb dL_law_31 ?_
      obtain ⟨k, hk, ek⟩ := pk_andE (xs (nI (5 * j)).toNatClampNeg) (m := nI 63) 6 (by decide)
      rw [ek]
      have hj : j ≤ 64 := h2
      rcases (show k = 0 ∨ k = 1 ∨ k = 2 ∨ k = 3 ∨ k = 4 ∨ k = 5 ∨ k = 6 ∨ k = 7 ∨ k = 8 ∨ k = 9 ∨ k = 10 ∨ k = 11 ∨ k = 12 ∨ k = 13 ∨ k = 14 ∨ k = 15 ∨ k = 16 ∨ k = 17 ∨ k = 18 ∨ k = 19 ∨ k = 20 ∨ k = 21 ∨ k = 22 ∨ k = 23 ∨ k = 24 ∨ k = 25 ∨ k = 26 ∨ k = 27 ∨ k = 28 ∨ k = 29 ∨ k = 30 ∨ k = 31 ∨ k = 32 ∨ k = 33 ∨ k = 34 ∨ 35 ≤ k by omega) with rfl | rfl | rfl | rfl | rfl | rfl | rfl | rfl | rfl | rfl | rfl | rfl | rfl | rfl | rfl | rfl | rfl | rfl | rfl | rfl | rfl | rfl | rfl | rfl | rfl | rfl | rfl | rfl | rfl | rfl | rfl | rfl | rfl | rfl | rfl | hk35
      · exact lv_tableIn (tgt := 188) (off := 156) hx hb dL_law_32 (by decide) (by decide) rfl (by decide) (lc_book hL hs hj hi h320 hP hD hS hl kont)
      · exact lv_tableIn (tgt := 211) (off := 179) hx hb dL_law_32 (by decide) (by decide) rfl (by decide) (lc_fiction hL hs hj hi h320 hP hD hS hl kont)
      · exact lv_tableIn (tgt := 264) (off := 232) hx hb dL_law_32 (by decide) (by decide) rfl (by decide) (lc_court hL hs hj hi h320 hP hD hS hl kont)
      · exact lv_tableIn (tgt := 297) (off := 265) hx hb dL_law_32 (by decide) (by decide) rfl (by decide) (lc_type hL hs hj hi h320 hP hD hS hl kont)
      · exact lv_tableIn (tgt := 320) (off := 288) hx hb dL_law_32 (by decide) (by decide) rfl (by decide) (lc_clear hL hs hj hi h320 hP hD hS hl kont)
      · exact lv_tableIn (tgt := 333) (off := 301) hx hb dL_law_32 (by decide) (by decide) rfl (by decide) (lc_read hL hs hj hi h320 hP hD hS hl kont)
      · exact lv_tableIn (tgt := 346) (off := 314) hx hb dL_law_32 (by decide) (by decide) rfl (by decide) (lc_suit hL hs hj hi h320 hP hD hS hl kont)
      · exact lv_tableIn (tgt := 359) (off := 327) hx hb dL_law_32 (by decide) (by decide) rfl (by decide) (lc_plead hL hs hj hi h320 hP hD hS hl kont)
      · exact lv_tableIn (tgt := 382) (off := 350) hx hb dL_law_32 (by decide) (by decide) rfl (by decide) (lc_deny hL hs hj hi h320 hP hD hS hl kont)
      · exact lv_tableIn (tgt := 405) (off := 373) hx hb dL_law_32 (by decide) (by decide) rfl (by decide) (lc_undo hL hs hj hi h320 hP hD hS hl kont)
      · exact lv_tableIn (tgt := 418) (off := 386) hx hb dL_law_32 (by decide) (by decide) rfl (by decide) (lc_of hL hs hj hi h320 hP hD hS hl kont)
      · exact lv_tableIn (tgt := 451) (off := 419) hx hb dL_law_32 (by decide) (by decide) rfl (by decide) (lc_now hL hs hj hi h320 hP hD hS hl kont)
      · exact lv_tableIn (tgt := 474) (off := 442) hx hb dL_law_32 (by decide) (by decide) rfl (by decide) (lc_may hL hs hj hi h320 hP hD hS hl kont)
      · exact lv_tableIn (tgt := 487) (off := 455) hx hb dL_law_32 (by decide) (by decide) rfl (by decide) (lc_hear hL hs hj hi h320 hP hD hS hl kont)
      · exact lv_tableIn (tgt := 500) (off := 468) hx hb dL_law_32 (by decide) (by decide) rfl (by decide) (lc_least hL hs hj hi h320 hP hD hS hl kont)
      · exact lv_tableIn (tgt := 543) (off := 511) hx hb dL_law_32 (by decide) (by decide) rfl (by decide) (lc_ever hL hs hj hi h320 hP hD hS hl kont)
      · exact lv_tableIn (tgt := 556) (off := 524) hx hb dL_law_32 (by decide) (by decide) rfl (by decide) (lc_contradict hL hs hj hi h320 hP hD hS hl kont)
      · exact lv_tableIn (tgt := 569) (off := 537) hx hb dL_law_32 (by decide) (by decide) rfl (by decide) (lc_giveUp hL hs hj hi h320 hP hD hS hl kont)
      · exact lv_tableIn (tgt := 582) (off := 550) hx hb dL_law_32 (by decide) (by decide) rfl (by decide) (lc_denial hL hs hj hi h320 hP hD hS hl kont)
      · exact lv_tableIn (tgt := 605) (off := 573) hx hb dL_law_32 (by decide) (by decide) rfl (by decide) (lc_fees hL hs hj hi h320 hP hD hS hl kont)
      · exact lv_tableIn (tgt := 628) (off := 596) hx hb dL_law_32 (by decide) (by decide) rfl (by decide) (lc_rule hL hs hj hi h320 hP hD hS hl kont)
      · exact lv_tableIn (tgt := 651) (off := 619) hx hb dL_law_32 (by decide) (by decide) rfl (by decide) (lc_note hL hs hj hi h320 hP hD hS hl kont)
      · exact lv_tableIn (tgt := 694) (off := 662) hx hb dL_law_32 (by decide) (by decide) rfl (by decide) (lc_heard hL hs hj hi h320 hP hD hS hl kont)
      · exact lv_tableIn (tgt := 727) (off := 695) hx hb dL_law_32 (by decide) (by decide) rfl (by decide) (lc_forget hL hs hj hi h320 hP hD hS hl kont)
      · exact lv_tableIn (tgt := 750) (off := 718) hx hb dL_law_32 (by decide) (by decide) rfl (by decide) (lc_is hL hs hj hi h320 hP hD hS hl kont)
      · exact lv_tableIn (tgt := 773) (off := 741) hx hb dL_law_32 (by decide) (by decide) rfl (by decide) (lc_look hL hs hj hi h320 hP hD hS hl kont)
      · exact lv_tableIn (tgt := 796) (off := 764) hx hb dL_law_32 (by decide) (by decide) rfl (by decide) (lc_truth hL hs hj hi h320 hP hD hS hl kont)
      · exact lv_tableIn (tgt := 819) (off := 787) hx hb dL_law_32 (by decide) (by decide) rfl (by decide) (lc_odds hL hs hj hi h320 hP hD hS hl kont)
      · exact lv_tableIn (tgt := 852) (off := 820) hx hb dL_law_32 (by decide) (by decide) rfl (by decide) (lc_terms hL hs hj hi h320 hP hD hS hl kont)
      · exact lv_tableIn (tgt := 885) (off := 853) hx hb dL_law_32 (by decide) (by decide) rfl (by decide) (lc_part hL hs hj hi h320 hP hD hS hl kont)
      · exact lv_tableIn (tgt := 909) (off := 877) hx hb dL_law_32 (by decide) (by decide) rfl (by decide) (lc_image hL hs hj hi h320 hP hD hS hl kont)
      · exact lv_tableIn (tgt := 932) (off := 900) hx hb dL_law_32 (by decide) (by decide) rfl (by decide) (lc_from hL hs hj hi h320 hP hD hS hl kont)
      · exact lv_tableIn (tgt := 955) (off := 923) hx hb dL_law_32 (by decide) (by decide) rfl (by decide) (lc_status hL hs hj hi h320 hP hD hS hl kont)
      · exact lv_tableIn (tgt := 978) (off := 946) hx hb dL_law_32 (by decide) (by decide) rfl (by decide) (lc_count hL hs hj hi h320 hP hD hS hl kont)
      · exact lv_tableIn (tgt := 1001) (off := 969) hx hb dL_law_32 (by decide) (by decide) rfl (by decide) (lc_digest hL hs hj hi h320 hP hD hS hl kont)
      · exact lv_tableOut (tgt := 1015) hx hb dL_law_32 (Or.inr (k_out hk35 hk)) (by decide) (kont C S H locs (hs.mono (Nat.le_succ j)) hP hD hS)
