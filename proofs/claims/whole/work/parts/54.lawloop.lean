/-! part 54: the law's loop, four ints of the script at a time -/
set_option maxHeartbeats 4000000 in
set_option maxRecDepth 100000 in
theorem law_loop {p : Program} {l : Launch} {e : Env} {s : State} {m : MethodId} {below : List Frame} {meth : Method} {c : Code} {D : va_G} {T : Nat → ClassId} {L : List Nat} {sb x b N : Nat} {xs : Nat → Int32} (C0 : Cx p s m #[Value.ref sb] c code 4 wsL_law RL D T) (hr : meth.sig.returnType = ret) (hlocks : meth.locks = false) (hX : va_X sb N xs s s.heap) (hbl : sb < s.heap.size) (hN : N ≤ 2048) :
    ∀ (n t : Nat) (H : Heap) (locs : List Loc) (Sh : hm_S) (I : hm_I) (J : hm_J) (ls : Array Slot), N ≤ 4 * t + 4 * n → 4 * t ≤ N → hm D T L (fun q => s.heap.size ≤ q) Sh I J H → va_S (fun q => s.heap.size ≤ q) s.heap H locs → Inv L x b t Sh I → lv_has ls 4 [(0, .ref sb), (1, .ref x), (2, .ref b), (3, .int (nI (4 * t)))] → W p l e room_1 s m #[Value.ref sb] below meth c H locs 600000 7302250 (lw_Z below #[Value.ref sb] s) (F0 m 18 ls []) := by
  have hx := C0.1.1
  have hb := C0.1.2.1
  have hbA : ¬ (fun q => s.heap.size ≤ q) sb := Nat.not_le.mpr hbl
  intro n
  induction n with
  | zero =>
    intro t H locs Sh I J ls hn htN hM hS hI hl
    refine lv_iload_n hx hb dL_law_18 rfl (lv_at hl 3 rfl) ?_
    refine lv_aload_n hx hb dL_law_19 rfl (lv_at hl 0 rfl) ?_
    refine va_slen hx hb hX hbl hbA hS dL_law_20 ?_
    refine lv_iconst (v := nI 4) hx hb dL_law_21 (by decide) ?_
    refine lv_isub hx hb dL_law_22 ?_
    refine lv_icmp_gt (tgt := 705) hx hb dL_law_23 (by decide) (fun _ => ?_) (fun h => ?_)
    · refine lv_iconst (v := 1) hx hb dL_law_705 (by decide) ?_
      exact va_forget (fun q hq => hS.2.2 q hq) (lw_ret hx hb hr hlocks dL_law_706)
    · have h1 : (nI N - nI 4).toInt = (N : Int) - 4 := pk_sub_toInt (by omega) (by omega)
      have h2 : (nI (4 * t)).toInt = ((4 * t : Nat) : Int) := nI_toInt (by omega)
      refine absurd (Int32.lt_iff_toInt_lt.mpr ?_) h
      show (nI N - nI 4).toInt < (nI (4 * t)).toInt
      rw [h1, h2]; omega
  | succ n ih =>
    intro t H locs Sh I J ls hn htN hM hS hI hl
    refine lv_iload_n hx hb dL_law_18 rfl (lv_at hl 3 rfl) ?_
    refine lv_aload_n hx hb dL_law_19 rfl (lv_at hl 0 rfl) ?_
    refine va_slen hx hb hX hbl hbA hS dL_law_20 ?_
    refine lv_iconst (v := nI 4) hx hb dL_law_21 (by decide) ?_
    refine lv_isub hx hb dL_law_22 ?_
    refine lv_icmp_gt (tgt := 705) hx hb dL_law_23 (by decide) (fun _ => ?_) (fun h => ?_)
    · refine lv_iconst (v := 1) hx hb dL_law_705 (by decide) ?_
      exact va_forget (fun q hq => hS.2.2 q hq) (lw_ret hx hb hr hlocks dL_law_706)
    · have h1 : (nI N - nI 4).toInt = (N : Int) - 4 := pk_sub_toInt (by omega) (by omega)
      have h2 : (nI (4 * t)).toInt = ((4 * t : Nat) : Int) := nI_toInt (by omega)
      have hi : 4 * t + 4 ≤ N := by
        have h3 : ¬ ((nI N - nI 4).toInt < (nI (4 * t)).toInt) := fun q => h (Int32.lt_iff_toInt_lt.mpr q)
        rw [h1, h2] at h3
        omega
      have ht : t < 1000 := by omega
      have hi3 : 4 * t + 3 < N := by omega
      have go : ∀ (H1 : Heap) (locs1 : List Loc) (Sh1 : hm_S) (I1 : hm_I) (J1 : hm_J), hm D T L (fun q => s.heap.size ≤ q) Sh1 I1 J1 H1 → va_S (fun q => s.heap.size ≤ q) s.heap H1 locs1 → Inv L x b (t + 1) Sh1 I1 → W p l e room_1 s m #[Value.ref sb] below meth c H1 locs1 600000 7302250 (lw_Z below #[Value.ref sb] s) (F0 m 699 ls []) := by
        intro H1 locs1 Sh1 I1 J1 hM1 hS1 hI1
        refine lv_iinc (k := 3) (v := nI (4 * (t + 1))) (lv' := [(3, .int (nI (4 * (t + 1)))), (0, .ref sb), (1, .ref x), (2, .ref b)]) hx hb dL_law_699 hl rfl (by rw [show Int32.ofInt 4 = nI 4 from by decide, nI_add]; rfl) (by decide) rfl (fun ls' hl' => ?_)
        refine lv_goto (tgt := 18) hx hb dL_law_702 (by decide) ?_
        exact ih (t + 1) H1 locs1 Sh1 I1 J1 ls' (by omega) (by omega) hM1 hS1 hI1 (lv_sub hl' [1, 2, 3, 0] rfl)
      refine lv_aload_n hx hb dL_law_26 rfl (lv_at hl 0 rfl) ?_
      refine lv_iload_n hx hb dL_law_27 rfl (lv_at hl 3 rfl) ?_
      refine va_sld hx hb hX hbl hbA hS (vp_in_nI (show 4 * t < N by omega) (by omega)) dL_law_28 ?_
      refine lv_bipush (v := 31) hx hb dL_law_29 (by decide) ?_
      refine lv_iand hx hb dL_law_31 ?_
      obtain ⟨q, hq, eq⟩ := pk_andE (xs (nI (4 * t)).toNatClampNeg) (m := 31) 5 (by decide)
      refine mr_top eq ?_
      clear eq ih hn
      by_cases hq2 : q < 20
      · match q, hq2 with
        | 0, _ => exact lv_tableIn (off := 96) (tgt := 128) hx hb dL_law_32 (by decide) (by decide) (by decide) (by decide) (law_c0 C0 hX hbl hbA hN hM hS hI ht hi3 hl go)
        | 1, _ => exact lv_tableIn (off := 129) (tgt := 161) hx hb dL_law_32 (by decide) (by decide) (by decide) (by decide) (law_c1 C0 hX hbl hbA hN hM hS hI ht hi3 hl go)
        | 2, _ => exact lv_tableIn (off := 152) (tgt := 184) hx hb dL_law_32 (by decide) (by decide) (by decide) (by decide) (law_c2 C0 hX hbl hbA hN hM hS hI ht hi3 hl go)
        | 3, _ => exact lv_tableIn (off := 185) (tgt := 217) hx hb dL_law_32 (by decide) (by decide) (by decide) (by decide) (law_c3 C0 hX hbl hbA hN hM hS hI ht hi3 hl go)
        | 4, _ => exact lv_tableIn (off := 218) (tgt := 250) hx hb dL_law_32 (by decide) (by decide) (by decide) (by decide) (law_c4 C0 hX hbl hbA hN hM hS hI ht hi3 hl go)
        | 5, _ => exact lv_tableIn (off := 261) (tgt := 293) hx hb dL_law_32 (by decide) (by decide) (by decide) (by decide) (law_c5 C0 hX hbl hbA hN hM hS hI ht hi3 hl go)
        | 6, _ => exact lv_tableIn (off := 274) (tgt := 306) hx hb dL_law_32 (by decide) (by decide) (by decide) (by decide) (law_c6 C0 hX hbl hbA hN hM hS hI ht hi3 hl go)
        | 7, _ => exact lv_tableIn (off := 297) (tgt := 329) hx hb dL_law_32 (by decide) (by decide) (by decide) (by decide) (law_c7 C0 hX hbl hbA hN hM hS hI ht hi3 hl go)
        | 8, _ => exact lv_tableIn (off := 340) (tgt := 372) hx hb dL_law_32 (by decide) (by decide) (by decide) (by decide) (law_c8 C0 hX hbl hbA hN hM hS hI ht hi3 hl go)
        | 9, _ => exact lv_tableIn (off := 353) (tgt := 385) hx hb dL_law_32 (by decide) (by decide) (by decide) (by decide) (law_c9 C0 hX hbl hbA hN hM hS hI ht hi3 hl go)
        | 10, _ => exact lv_tableIn (off := 376) (tgt := 408) hx hb dL_law_32 (by decide) (by decide) (by decide) (by decide) (law_c10 C0 hX hbl hbA hN hM hS hI ht hi3 hl go)
        | 11, _ => exact lv_tableIn (off := 389) (tgt := 421) hx hb dL_law_32 (by decide) (by decide) (by decide) (by decide) (law_c11 C0 hX hbl hbA hN hM hS hI ht hi3 hl go)
        | 12, _ => exact lv_tableIn (off := 412) (tgt := 444) hx hb dL_law_32 (by decide) (by decide) (by decide) (by decide) (law_c12 C0 hX hbl hbA hN hM hS hI ht hi3 hl go)
        | 13, _ => exact lv_tableIn (off := 445) (tgt := 477) hx hb dL_law_32 (by decide) (by decide) (by decide) (by decide) (law_c13 C0 hX hbl hbA hN hM hS hI ht hi3 hl go)
        | 14, _ => exact lv_tableIn (off := 488) (tgt := 520) hx hb dL_law_32 (by decide) (by decide) (by decide) (by decide) (law_c14 C0 hX hbl hbA hN hM hS hI ht hi3 hl go)
        | 15, _ => exact lv_tableIn (off := 521) (tgt := 553) hx hb dL_law_32 (by decide) (by decide) (by decide) (by decide) (law_c15 C0 hX hbl hbA hN hM hS hI ht hi3 hl go)
        | 16, _ => exact lv_tableIn (off := 564) (tgt := 596) hx hb dL_law_32 (by decide) (by decide) (by decide) (by decide) (law_c16 C0 hX hbl hbA hN hM hS hI ht hi3 hl go)
        | 17, _ => exact lv_tableIn (off := 597) (tgt := 629) hx hb dL_law_32 (by decide) (by decide) (by decide) (by decide) (law_c17 C0 hX hbl hbA hN hM hS hI ht hi3 hl go)
        | 18, _ => exact lv_tableIn (off := 621) (tgt := 653) hx hb dL_law_32 (by decide) (by decide) (by decide) (by decide) (law_c18 C0 hX hbl hbA hN hM hS hI ht hi3 hl go)
        | 19, _ => exact lv_tableIn (off := 644) (tgt := 676) hx hb dL_law_32 (by decide) (by decide) (by decide) (by decide) (law_c19 C0 hX hbl hbA hN hM hS hI ht hi3 hl go)
        | q + 20, h => exact absurd h (by omega)
      · exact lv_tableOut (tgt := 699) hx hb dL_law_32 (Or.inr (by rw [nI_toInt (by omega)]; omega)) (by decide) (go H locs Sh I J hM hS (Inv_up hI))
