theorem dX3_isWithin_0 : decode cX3_isWithin 0 = .ok (.iload_n 0, 1) := by decide +kernel
theorem dX3_isWithin_1 : decode cX3_isWithin 1 = .ok (.iload_n 1, 1) := by decide +kernel
theorem dX3_isWithin_2 : decode cX3_isWithin 2 = .ok (.if_icmp .lt 12, 3) := by decide +kernel
theorem dX3_isWithin_5 : decode cX3_isWithin 5 = .ok (.iload_n 0, 1) := by decide +kernel
theorem dX3_isWithin_6 : decode cX3_isWithin 6 = .ok (.iload_n 2, 1) := by decide +kernel
theorem dX3_isWithin_7 : decode cX3_isWithin 7 = .ok (.if_icmp .gt 7, 3) := by decide +kernel
theorem dX3_isWithin_10 : decode cX3_isWithin 10 = .ok (.iconst 1, 1) := by decide +kernel
theorem dX3_isWithin_11 : decode cX3_isWithin 11 = .ok (.goto 4, 3) := by decide +kernel
theorem dX3_isWithin_14 : decode cX3_isWithin 14 = .ok (.iconst 0, 1) := by decide +kernel
theorem dX3_isWithin_15 : decode cX3_isWithin 15 = .ok (.ireturn, 1) := by decide +kernel
theorem dX3_isStream_0 : decode cX3_isStream 0 = .ok (.iload_n 0, 1) := by decide +kernel
theorem dX3_isStream_1 : decode cX3_isStream 1 = .ok (.ifCond .lt 13, 3) := by decide +kernel
theorem dX3_isStream_4 : decode cX3_isStream 4 = .ok (.iload_n 0, 1) := by decide +kernel
theorem dX3_isStream_5 : decode cX3_isStream 5 = .ok (.bipush 8, 2) := by decide +kernel
theorem dX3_isStream_7 : decode cX3_isStream 7 = .ok (.if_icmp .ge 7, 3) := by decide +kernel
theorem dX3_isStream_10 : decode cX3_isStream 10 = .ok (.iconst 1, 1) := by decide +kernel
theorem dX3_isStream_11 : decode cX3_isStream 11 = .ok (.goto 4, 3) := by decide +kernel
theorem dX3_isStream_14 : decode cX3_isStream 14 = .ok (.iconst 0, 1) := by decide +kernel
theorem dX3_isStream_15 : decode cX3_isStream 15 = .ok (.ireturn, 1) := by decide +kernel
theorem dX3_areTwoStreams_0 : decode cX3_areTwoStreams 0 = .ok (.iload_n 0, 1) := by decide +kernel
theorem dX3_areTwoStreams_1 : decode cX3_areTwoStreams 1 = .ok (.invokestatic 38, 3) := by decide +kernel
theorem dX3_areTwoStreams_4 : decode cX3_areTwoStreams 4 = .ok (.ifCond .eq 19, 3) := by decide +kernel
theorem dX3_areTwoStreams_7 : decode cX3_areTwoStreams 7 = .ok (.iload_n 1, 1) := by decide +kernel
theorem dX3_areTwoStreams_8 : decode cX3_areTwoStreams 8 = .ok (.invokestatic 38, 3) := by decide +kernel
theorem dX3_areTwoStreams_11 : decode cX3_areTwoStreams 11 = .ok (.ifCond .eq 12, 3) := by decide +kernel
theorem dX3_areTwoStreams_14 : decode cX3_areTwoStreams 14 = .ok (.iload_n 0, 1) := by decide +kernel
theorem dX3_areTwoStreams_15 : decode cX3_areTwoStreams 15 = .ok (.iload_n 1, 1) := by decide +kernel
theorem dX3_areTwoStreams_16 : decode cX3_areTwoStreams 16 = .ok (.if_icmp .eq 7, 3) := by decide +kernel
theorem dX3_areTwoStreams_19 : decode cX3_areTwoStreams 19 = .ok (.iconst 1, 1) := by decide +kernel
theorem dX3_areTwoStreams_20 : decode cX3_areTwoStreams 20 = .ok (.goto 4, 3) := by decide +kernel
theorem dX3_areTwoStreams_23 : decode cX3_areTwoStreams 23 = .ok (.iconst 0, 1) := by decide +kernel
theorem dX3_areTwoStreams_24 : decode cX3_areTwoStreams 24 = .ok (.ireturn, 1) := by decide +kernel
theorem dX3_setOf_0 : decode cX3_setOf 0 = .ok (.iconst 1, 1) := by decide +kernel
theorem dX3_setOf_1 : decode cX3_setOf 1 = .ok (.iload_n 0, 1) := by decide +kernel
theorem dX3_setOf_2 : decode cX3_setOf 2 = .ok (.ishl, 1) := by decide +kernel
theorem dX3_setOf_3 : decode cX3_setOf 3 = .ok (.ireturn, 1) := by decide +kernel
theorem dX3_isIn_0 : decode cX3_isIn 0 = .ok (.iload_n 0, 1) := by decide +kernel
theorem dX3_isIn_1 : decode cX3_isIn 1 = .ok (.iconst 1, 1) := by decide +kernel
theorem dX3_isIn_2 : decode cX3_isIn 2 = .ok (.iload_n 1, 1) := by decide +kernel
theorem dX3_isIn_3 : decode cX3_isIn 3 = .ok (.ishl, 1) := by decide +kernel
theorem dX3_isIn_4 : decode cX3_isIn 4 = .ok (.iand, 1) := by decide +kernel
theorem dX3_isIn_5 : decode cX3_isIn 5 = .ok (.ifCond .eq 7, 3) := by decide +kernel
theorem dX3_isIn_8 : decode cX3_isIn 8 = .ok (.iconst 1, 1) := by decide +kernel
theorem dX3_isIn_9 : decode cX3_isIn 9 = .ok (.goto 4, 3) := by decide +kernel
theorem dX3_isIn_12 : decode cX3_isIn 12 = .ok (.iconst 0, 1) := by decide +kernel
theorem dX3_isIn_13 : decode cX3_isIn 13 = .ok (.ireturn, 1) := by decide +kernel
theorem dJ6_bitCount_0f7a4_0 : decode cJ6_bitCount_0f7a4 0 = .ok (.iload_n 0, 1) := by decide +kernel
theorem dJ6_bitCount_0f7a4_1 : decode cJ6_bitCount_0f7a4 1 = .ok (.iload_n 0, 1) := by decide +kernel
theorem dJ6_bitCount_0f7a4_2 : decode cJ6_bitCount_0f7a4 2 = .ok (.iconst 1, 1) := by decide +kernel
theorem dJ6_bitCount_0f7a4_3 : decode cJ6_bitCount_0f7a4 3 = .ok (.iushr, 1) := by decide +kernel
theorem dJ6_bitCount_0f7a4_4 : decode cJ6_bitCount_0f7a4 4 = .ok (.ldc_w 265, 3) := by decide +kernel
theorem dJ6_bitCount_0f7a4_7 : decode cJ6_bitCount_0f7a4 7 = .ok (.iand, 1) := by decide +kernel
theorem dJ6_bitCount_0f7a4_8 : decode cJ6_bitCount_0f7a4 8 = .ok (.isub, 1) := by decide +kernel
theorem dJ6_bitCount_0f7a4_9 : decode cJ6_bitCount_0f7a4 9 = .ok (.istore_n 0, 1) := by decide +kernel
theorem dJ6_bitCount_0f7a4_10 : decode cJ6_bitCount_0f7a4 10 = .ok (.iload_n 0, 1) := by decide +kernel
theorem dJ6_bitCount_0f7a4_11 : decode cJ6_bitCount_0f7a4 11 = .ok (.ldc_w 266, 3) := by decide +kernel
theorem dJ6_bitCount_0f7a4_14 : decode cJ6_bitCount_0f7a4 14 = .ok (.iand, 1) := by decide +kernel
theorem dJ6_bitCount_0f7a4_15 : decode cJ6_bitCount_0f7a4 15 = .ok (.iload_n 0, 1) := by decide +kernel
theorem dJ6_bitCount_0f7a4_16 : decode cJ6_bitCount_0f7a4 16 = .ok (.iconst 2, 1) := by decide +kernel
theorem dJ6_bitCount_0f7a4_17 : decode cJ6_bitCount_0f7a4 17 = .ok (.iushr, 1) := by decide +kernel
theorem dJ6_bitCount_0f7a4_18 : decode cJ6_bitCount_0f7a4 18 = .ok (.ldc_w 266, 3) := by decide +kernel
theorem dJ6_bitCount_0f7a4_21 : decode cJ6_bitCount_0f7a4 21 = .ok (.iand, 1) := by decide +kernel
theorem dJ6_bitCount_0f7a4_22 : decode cJ6_bitCount_0f7a4 22 = .ok (.iadd, 1) := by decide +kernel
theorem dJ6_bitCount_0f7a4_23 : decode cJ6_bitCount_0f7a4 23 = .ok (.istore_n 0, 1) := by decide +kernel
theorem dJ6_bitCount_0f7a4_24 : decode cJ6_bitCount_0f7a4 24 = .ok (.iload_n 0, 1) := by decide +kernel
theorem dJ6_bitCount_0f7a4_25 : decode cJ6_bitCount_0f7a4 25 = .ok (.iload_n 0, 1) := by decide +kernel
theorem dJ6_bitCount_0f7a4_26 : decode cJ6_bitCount_0f7a4 26 = .ok (.iconst 4, 1) := by decide +kernel
theorem dJ6_bitCount_0f7a4_27 : decode cJ6_bitCount_0f7a4 27 = .ok (.iushr, 1) := by decide +kernel
theorem dJ6_bitCount_0f7a4_28 : decode cJ6_bitCount_0f7a4 28 = .ok (.iadd, 1) := by decide +kernel
theorem dJ6_bitCount_0f7a4_29 : decode cJ6_bitCount_0f7a4 29 = .ok (.ldc_w 267, 3) := by decide +kernel
theorem dJ6_bitCount_0f7a4_32 : decode cJ6_bitCount_0f7a4 32 = .ok (.iand, 1) := by decide +kernel
theorem dJ6_bitCount_0f7a4_33 : decode cJ6_bitCount_0f7a4 33 = .ok (.istore_n 0, 1) := by decide +kernel
theorem dJ6_bitCount_0f7a4_34 : decode cJ6_bitCount_0f7a4 34 = .ok (.iload_n 0, 1) := by decide +kernel
theorem dJ6_bitCount_0f7a4_35 : decode cJ6_bitCount_0f7a4 35 = .ok (.iload_n 0, 1) := by decide +kernel
theorem dJ6_bitCount_0f7a4_36 : decode cJ6_bitCount_0f7a4 36 = .ok (.bipush 8, 2) := by decide +kernel
theorem dJ6_bitCount_0f7a4_38 : decode cJ6_bitCount_0f7a4 38 = .ok (.iushr, 1) := by decide +kernel
theorem dJ6_bitCount_0f7a4_39 : decode cJ6_bitCount_0f7a4 39 = .ok (.iadd, 1) := by decide +kernel
theorem dJ6_bitCount_0f7a4_40 : decode cJ6_bitCount_0f7a4 40 = .ok (.istore_n 0, 1) := by decide +kernel
theorem dJ6_bitCount_0f7a4_41 : decode cJ6_bitCount_0f7a4 41 = .ok (.iload_n 0, 1) := by decide +kernel
theorem dJ6_bitCount_0f7a4_42 : decode cJ6_bitCount_0f7a4 42 = .ok (.iload_n 0, 1) := by decide +kernel
theorem dJ6_bitCount_0f7a4_43 : decode cJ6_bitCount_0f7a4 43 = .ok (.bipush 16, 2) := by decide +kernel
theorem dJ6_bitCount_0f7a4_45 : decode cJ6_bitCount_0f7a4 45 = .ok (.iushr, 1) := by decide +kernel
theorem dJ6_bitCount_0f7a4_46 : decode cJ6_bitCount_0f7a4 46 = .ok (.iadd, 1) := by decide +kernel
theorem dJ6_bitCount_0f7a4_47 : decode cJ6_bitCount_0f7a4 47 = .ok (.istore_n 0, 1) := by decide +kernel
theorem dJ6_bitCount_0f7a4_48 : decode cJ6_bitCount_0f7a4 48 = .ok (.iload_n 0, 1) := by decide +kernel
theorem dJ6_bitCount_0f7a4_49 : decode cJ6_bitCount_0f7a4 49 = .ok (.bipush 63, 2) := by decide +kernel
theorem dJ6_bitCount_0f7a4_51 : decode cJ6_bitCount_0f7a4 51 = .ok (.iand, 1) := by decide +kernel
theorem dJ6_bitCount_0f7a4_52 : decode cJ6_bitCount_0f7a4 52 = .ok (.ireturn, 1) := by decide +kernel


set_option maxRecDepth 20000 in
theorem ggX3_areTwoStreams_X3_isStream : GoodIn wsX3_areTwoStreams wsX3_isStream := goodIn_r _ [4] (by decide +kernel) (by decide +kernel)
set_option maxRecDepth 20000 in
theorem gX3_areTwoStreams_X3_isStream : GoodIn wsX3_areTwoStreams (va_wsS RX3 38 yX3_isStream wsX3_isStream) := goodIn_app (goodIn_of _ (by decide +kernel)) ggX3_areTwoStreams_X3_isStream




def fX3_isWithin (v lo up : Int32) : Bool :=
  if v < lo then false else if up < v then false else true
set_option maxHeartbeats 4000000 in
set_option maxRecDepth 100000 in
theorem ctX3_isWithin {l : Launch} {D : va_G} {T : Nat → ClassId} {L : List Nat} {A : Nat → Prop} {Sh : hm_S} {I : hm_I} {J : hm_J} {v lo up : Int32} :
    Ct l yX3_isWithin wsX3_isWithin { frames := 0, cells := 0, slots := 0, locals := 0 } 0 0 D T A [.int v, .int lo, .int up] (hm D T L A Sh I J) (some (.int (bI (fX3_isWithin v lo up)))) (hm D T L A Sh I J) := by
  refine Ct.ofW (cc := cX3_isWithin) (maxL := 3) (ret := (some .boolean)) (by decide) rfl (Nat.le_of_ble_eq_true rfl) ?_
  intro p_ e_ s_ m_ args_ below_ meth_ c_ ls R Qq hR hQ C0 hr hlk hname hM hl
  have hx := C0.1.1
  have hb := C0.1.2.1
  have hS : va_S A s_.heap s_.heap [] := va_S.rf
  have hl : lv_has ls 3 [(0, .int v), (1, .int lo), (2, .int up)] := hl
  refine lv_iload_n hx hb dX3_isWithin_0 rfl (lv_at hl 0 rfl) ?_
  refine lv_iload_n hx hb dX3_isWithin_1 rfl (lv_at hl 1 rfl) ?_
  refine lv_icmp_lt (tgt := 14) hx hb dX3_isWithin_2 (by decide) (fun c1 => ?_) (fun c1 => ?_)
  · skip
    refine lv_iconst (v := nI 0) hx hb dX3_isWithin_14 (by decide) ?_
    refine mr_top (y := bI false) (by decide) ?_
    have eF : false = fX3_isWithin v lo up := by unfold fX3_isWithin; rw [if_pos c1]
    exact mr_zret (b := false) C0 hr hlk hQ hS (by rw [← eF]) hM (Nat.le_refl _) (Nat.le_refl _) dX3_isWithin_15
  · skip
    refine lv_iload_n hx hb dX3_isWithin_5 rfl (lv_at hl 0 rfl) ?_
    refine lv_iload_n hx hb dX3_isWithin_6 rfl (lv_at hl 2 rfl) ?_
    refine lv_icmp_gt (tgt := 14) hx hb dX3_isWithin_7 (by decide) (fun c2 => ?_) (fun c2 => ?_)
    · skip
      refine lv_iconst (v := nI 0) hx hb dX3_isWithin_14 (by decide) ?_
      refine mr_top (y := bI false) (by decide) ?_
      have eF : false = fX3_isWithin v lo up := by unfold fX3_isWithin; rw [if_neg c1, if_pos c2]
      exact mr_zret (b := false) C0 hr hlk hQ hS (by rw [← eF]) hM (Nat.le_refl _) (Nat.le_refl _) dX3_isWithin_15
    · skip
      refine lv_iconst (v := nI 1) hx hb dX3_isWithin_10 (by decide) ?_
      refine lv_goto (tgt := 15) hx hb dX3_isWithin_11 (by decide) ?_
      refine mr_top (y := bI true) (by decide) ?_
      have eF : true = fX3_isWithin v lo up := by unfold fX3_isWithin; rw [if_neg c1, if_neg c2]
      exact mr_zret (b := true) C0 hr hlk hQ hS (by rw [← eF]) hM (Nat.le_refl _) (Nat.le_refl _) dX3_isWithin_15
def fX3_isStream (s0 : Int32) : Bool :=
  if s0 < 0 then false else if nI 8 ≤ s0 then false else true
set_option maxHeartbeats 4000000 in
set_option maxRecDepth 100000 in
theorem ctX3_isStream {l : Launch} {D : va_G} {T : Nat → ClassId} {L : List Nat} {A : Nat → Prop} {Sh : hm_S} {I : hm_I} {J : hm_J} {s0 : Int32} :
    Ct l yX3_isStream wsX3_isStream { frames := 0, cells := 0, slots := 0, locals := 0 } 0 0 D T A [.int s0] (hm D T L A Sh I J) (some (.int (bI (fX3_isStream s0)))) (hm D T L A Sh I J) := by
  refine Ct.ofW (cc := cX3_isStream) (maxL := 1) (ret := (some .boolean)) (by decide) rfl (Nat.le_of_ble_eq_true rfl) ?_
  intro p_ e_ s_ m_ args_ below_ meth_ c_ ls R Qq hR hQ C0 hr hlk hname hM hl
  have hx := C0.1.1
  have hb := C0.1.2.1
  have hS : va_S A s_.heap s_.heap [] := va_S.rf
  have hl : lv_has ls 1 [(0, .int s0)] := hl
  refine lv_iload_n hx hb dX3_isStream_0 rfl (lv_at hl 0 rfl) ?_
  refine lv_if_lt (tgt := 14) hx hb dX3_isStream_1 (by decide) (fun c1 => ?_) (fun c1 => ?_)
  · skip
    refine lv_iconst (v := nI 0) hx hb dX3_isStream_14 (by decide) ?_
    refine mr_top (y := bI false) (by decide) ?_
    have eF : false = fX3_isStream s0 := by unfold fX3_isStream; rw [if_pos c1]
    exact mr_zret (b := false) C0 hr hlk hQ hS (by rw [← eF]) hM (Nat.le_refl _) (Nat.le_refl _) dX3_isStream_15
  · skip
    refine lv_iload_n hx hb dX3_isStream_4 rfl (lv_at hl 0 rfl) ?_
    refine lv_bipush (v := nI 8) hx hb dX3_isStream_5 (by decide) ?_
    refine lv_icmp_ge (tgt := 14) hx hb dX3_isStream_7 (by decide) (fun c2 => ?_) (fun c2 => ?_)
    · skip
      refine lv_iconst (v := nI 0) hx hb dX3_isStream_14 (by decide) ?_
      refine mr_top (y := bI false) (by decide) ?_
      have eF : false = fX3_isStream s0 := by unfold fX3_isStream; rw [if_neg c1, if_pos c2]
      exact mr_zret (b := false) C0 hr hlk hQ hS (by rw [← eF]) hM (Nat.le_refl _) (Nat.le_refl _) dX3_isStream_15
    · skip
      refine lv_iconst (v := nI 1) hx hb dX3_isStream_10 (by decide) ?_
      refine lv_goto (tgt := 15) hx hb dX3_isStream_11 (by decide) ?_
      refine mr_top (y := bI true) (by decide) ?_
      have eF : true = fX3_isStream s0 := by unfold fX3_isStream; rw [if_neg c1, if_neg c2]
      exact mr_zret (b := true) C0 hr hlk hQ hS (by rw [← eF]) hM (Nat.le_refl _) (Nat.le_refl _) dX3_isStream_15
set_option maxHeartbeats 4000000 in
set_option maxRecDepth 100000 in
theorem ctX3_isStream_t {l : Launch} {D : va_G} {T : Nat → ClassId} {L : List Nat} {A : Nat → Prop} {Sh : hm_S} {I : hm_I} {J : hm_J} {s0 : Nat} (hs0 : s0 < 8) :
    Ct l yX3_isStream wsX3_isStream { frames := 0, cells := 0, slots := 0, locals := 0 } 0 0 D T A [.int (nI s0)] (hm D T L A Sh I J) (some (.int (bI true))) (hm D T L A Sh I J) := by
  refine Ct.ofW (cc := cX3_isStream) (maxL := 1) (ret := (some .boolean)) (by decide) rfl (Nat.le_of_ble_eq_true rfl) ?_
  intro p_ e_ s_ m_ args_ below_ meth_ c_ ls R Qq hR hQ C0 hr hlk hname hM hl
  have hx := C0.1.1
  have hb := C0.1.2.1
  have hS : va_S A s_.heap s_.heap [] := va_S.rf
  have hl : lv_has ls 1 [(0, .int (nI s0))] := hl
  refine lv_iload_n hx hb dX3_isStream_0 rfl (lv_at hl 0 rfl) ?_
  refine lv_if_lt (tgt := 14) hx hb dX3_isStream_1 (by decide) (fun c1 => absurd c1 (nI_pos (by omega))) (fun c1 => ?_)
  refine lv_iload_n hx hb dX3_isStream_4 rfl (lv_at hl 0 rfl) ?_
  refine lv_bipush (v := nI 8) hx hb dX3_isStream_5 (by decide) ?_
  refine mr_geN (x := s0) (y := 8) (tgt := 14) C0 dX3_isStream_7 (by decide) (by omega) (by omega) (fun c2 => absurd c2 (by omega)) (fun c2 => ?_)
  refine lv_iconst (v := nI 1) hx hb dX3_isStream_10 (by decide) ?_
  refine lv_goto (tgt := 15) hx hb dX3_isStream_11 (by decide) ?_
  refine mr_top (y := bI true) (by decide) ?_
  skip
  exact mr_zret (b := true) C0 hr hlk hQ hS rfl hM (Nat.le_refl _) (Nat.le_refl _) dX3_isStream_15
def fX3_areTwoStreams (a0 b0 : Int32) : Bool :=
  if fX3_isStream a0 = true then if fX3_isStream b0 = true then if a0 = b0 then false else true else false else false
set_option maxHeartbeats 4000000 in
set_option maxRecDepth 100000 in
theorem ctX3_areTwoStreams {l : Launch} {D : va_G} {T : Nat → ClassId} {L : List Nat} {A : Nat → Prop} {Sh : hm_S} {I : hm_I} {J : hm_J} {a0 b0 : Int32} :
    Ct l yX3_areTwoStreams wsX3_areTwoStreams { frames := 1, cells := 0, slots := 0, locals := 20 } 0 0 D T A [.int a0, .int b0] (hm D T L A Sh I J) (some (.int (bI (fX3_areTwoStreams a0 b0)))) (hm D T L A Sh I J) := by
  refine Ct.ofW (cc := cX3_areTwoStreams) (maxL := 2) (ret := (some .boolean)) (by decide) rfl (Nat.le_of_ble_eq_true rfl) ?_
  intro p_ e_ s_ m_ args_ below_ meth_ c_ ls R Qq hR hQ C0 hr hlk hname hM hl
  have hx := C0.1.1
  have hb := C0.1.2.1
  have hS : va_S A s_.heap s_.heap [] := va_S.rf
  have hl : lv_has ls 2 [(0, .int a0), (1, .int b0)] := hl
  refine lv_iload_n hx hb dX3_areTwoStreams_0 rfl (lv_at hl 0 rfl) ?_
  refine mr_callS (As := [.int a0]) C0 (ctX3_isStream (I := I) (J := J) (s0 := a0) ) (va_cwS 1 C0.1.2.2.2.2 gX3_areTwoStreams_X3_isStream rfl rfl rfl (by decide +kernel) (by rw [hR]; exact ⟨Nat.le_of_ble_eq_true rfl, Nat.le_of_ble_eq_true rfl⟩)) hM hS rfl rfl rfl hl.1 (Nat.le_of_ble_eq_true rfl) dX3_areTwoStreams_1 (by rw [hR]; exact ⟨Nat.zero_le _, Nat.zero_le _⟩) (fun H locs hM hS => ?_)
  refine mr_eqB (tgt := 23) C0 dX3_areTwoStreams_4 (by decide) (fun c1 => ?_) (fun c1 => ?_)
  · skip
    refine lv_iconst (v := nI 0) hx hb dX3_areTwoStreams_23 (by decide) ?_
    refine mr_top (y := bI false) (by decide) ?_
    have eF : false = fX3_areTwoStreams a0 b0 := by unfold fX3_areTwoStreams; rw [if_neg (Bool.eq_false_iff.mp c1)]
    exact mr_zret (b := false) C0 hr hlk hQ hS (by rw [← eF]) hM (Nat.le_refl _) (Nat.le_refl _) dX3_areTwoStreams_24
  · skip
    refine lv_iload_n hx hb dX3_areTwoStreams_7 rfl (lv_at hl 1 rfl) ?_
    refine mr_callS (As := [.int b0]) C0 (ctX3_isStream (I := I) (J := J) (s0 := b0) ) (va_cwS 1 C0.1.2.2.2.2 gX3_areTwoStreams_X3_isStream rfl rfl rfl (by decide +kernel) (by rw [hR]; exact ⟨Nat.le_of_ble_eq_true rfl, Nat.le_of_ble_eq_true rfl⟩)) hM hS rfl rfl rfl hl.1 (Nat.le_of_ble_eq_true rfl) dX3_areTwoStreams_8 (by rw [hR]; exact ⟨Nat.zero_le _, Nat.zero_le _⟩) (fun H locs hM hS => ?_)
    refine mr_eqB (tgt := 23) C0 dX3_areTwoStreams_11 (by decide) (fun c2 => ?_) (fun c2 => ?_)
    · skip
      refine lv_iconst (v := nI 0) hx hb dX3_areTwoStreams_23 (by decide) ?_
      refine mr_top (y := bI false) (by decide) ?_
      have eF : false = fX3_areTwoStreams a0 b0 := by unfold fX3_areTwoStreams; rw [if_pos c1, if_neg (Bool.eq_false_iff.mp c2)]
      exact mr_zret (b := false) C0 hr hlk hQ hS (by rw [← eF]) hM (Nat.le_refl _) (Nat.le_refl _) dX3_areTwoStreams_24
    · skip
      refine lv_iload_n hx hb dX3_areTwoStreams_14 rfl (lv_at hl 0 rfl) ?_
      refine lv_iload_n hx hb dX3_areTwoStreams_15 rfl (lv_at hl 1 rfl) ?_
      refine lv_icmp_eq (tgt := 23) hx hb dX3_areTwoStreams_16 (by decide) (fun c3 => ?_) (fun c3 => ?_)
      · skip
        refine lv_iconst (v := nI 0) hx hb dX3_areTwoStreams_23 (by decide) ?_
        refine mr_top (y := bI false) (by decide) ?_
        have eF : false = fX3_areTwoStreams a0 b0 := by unfold fX3_areTwoStreams; rw [if_pos c1, if_pos c2, if_pos c3]
        exact mr_zret (b := false) C0 hr hlk hQ hS (by rw [← eF]) hM (Nat.le_refl _) (Nat.le_refl _) dX3_areTwoStreams_24
      · skip
        refine lv_iconst (v := nI 1) hx hb dX3_areTwoStreams_19 (by decide) ?_
        refine lv_goto (tgt := 24) hx hb dX3_areTwoStreams_20 (by decide) ?_
        refine mr_top (y := bI true) (by decide) ?_
        have eF : true = fX3_areTwoStreams a0 b0 := by unfold fX3_areTwoStreams; rw [if_pos c1, if_pos c2, if_neg c3]
        exact mr_zret (b := true) C0 hr hlk hQ hS (by rw [← eF]) hM (Nat.le_refl _) (Nat.le_refl _) dX3_areTwoStreams_24
set_option maxHeartbeats 4000000 in
set_option maxRecDepth 100000 in
theorem ctX3_areTwoStreams_t {l : Launch} {D : va_G} {T : Nat → ClassId} {L : List Nat} {A : Nat → Prop} {Sh : hm_S} {I : hm_I} {J : hm_J} {a0 b0 : Nat} (ha0 : a0 < 8) (hb0 : b0 < 8) (hab : a0 ≠ b0) :
    Ct l yX3_areTwoStreams wsX3_areTwoStreams { frames := 1, cells := 0, slots := 0, locals := 20 } 0 0 D T A [.int (nI a0), .int (nI b0)] (hm D T L A Sh I J) (some (.int (bI true))) (hm D T L A Sh I J) := by
  refine Ct.ofW (cc := cX3_areTwoStreams) (maxL := 2) (ret := (some .boolean)) (by decide) rfl (Nat.le_of_ble_eq_true rfl) ?_
  intro p_ e_ s_ m_ args_ below_ meth_ c_ ls R Qq hR hQ C0 hr hlk hname hM hl
  have hx := C0.1.1
  have hb := C0.1.2.1
  have hS : va_S A s_.heap s_.heap [] := va_S.rf
  have hl : lv_has ls 2 [(0, .int (nI a0)), (1, .int (nI b0))] := hl
  refine lv_iload_n hx hb dX3_areTwoStreams_0 rfl (lv_at hl 0 rfl) ?_
  refine mr_callS (As := [.int (nI a0)]) C0 (ctX3_isStream_t (I := I) (J := J) (s0 := a0) (by omega)) (va_cwS 1 C0.1.2.2.2.2 gX3_areTwoStreams_X3_isStream rfl rfl rfl (by decide +kernel) (by rw [hR]; exact ⟨Nat.le_of_ble_eq_true rfl, Nat.le_of_ble_eq_true rfl⟩)) hM hS rfl rfl rfl hl.1 (Nat.le_of_ble_eq_true rfl) dX3_areTwoStreams_1 (by rw [hR]; exact ⟨Nat.zero_le _, Nat.zero_le _⟩) (fun H locs hM hS => ?_)
  refine mr_eqB (tgt := 23) C0 dX3_areTwoStreams_4 (by decide) (fun c1 => absurd c1 (by decide)) (fun _ => ?_)
  refine lv_iload_n hx hb dX3_areTwoStreams_7 rfl (lv_at hl 1 rfl) ?_
  refine mr_callS (As := [.int (nI b0)]) C0 (ctX3_isStream_t (I := I) (J := J) (s0 := b0) (by omega)) (va_cwS 1 C0.1.2.2.2.2 gX3_areTwoStreams_X3_isStream rfl rfl rfl (by decide +kernel) (by rw [hR]; exact ⟨Nat.le_of_ble_eq_true rfl, Nat.le_of_ble_eq_true rfl⟩)) hM hS rfl rfl rfl hl.1 (Nat.le_of_ble_eq_true rfl) dX3_areTwoStreams_8 (by rw [hR]; exact ⟨Nat.zero_le _, Nat.zero_le _⟩) (fun H locs hM hS => ?_)
  refine mr_eqB (tgt := 23) C0 dX3_areTwoStreams_11 (by decide) (fun c2 => absurd c2 (by decide)) (fun _ => ?_)
  refine lv_iload_n hx hb dX3_areTwoStreams_14 rfl (lv_at hl 0 rfl) ?_
  refine lv_iload_n hx hb dX3_areTwoStreams_15 rfl (lv_at hl 1 rfl) ?_
  refine mr_eqN (x := a0) (y := b0) (tgt := 23) C0 dX3_areTwoStreams_16 (by decide) (by omega) (by omega) (fun c3 => absurd c3 hab) (fun c3 => ?_)
  refine lv_iconst (v := nI 1) hx hb dX3_areTwoStreams_19 (by decide) ?_
  refine lv_goto (tgt := 24) hx hb dX3_areTwoStreams_20 (by decide) ?_
  refine mr_top (y := bI true) (by decide) ?_
  skip
  exact mr_zret (b := true) C0 hr hlk hQ hS rfl hM (Nat.le_refl _) (Nat.le_refl _) dX3_areTwoStreams_24
def fX3_setOf (s0 : Int32) : Int32 :=
  (nI 1) <<< (s0 &&& 31)
set_option maxHeartbeats 4000000 in
set_option maxRecDepth 100000 in
theorem ctX3_setOf {l : Launch} {D : va_G} {T : Nat → ClassId} {L : List Nat} {A : Nat → Prop} {Sh : hm_S} {I : hm_I} {J : hm_J} {s0 : Int32} :
    Ct l yX3_setOf wsX3_setOf { frames := 0, cells := 0, slots := 0, locals := 0 } 0 0 D T A [.int s0] (hm D T L A Sh I J) (some (.int (fX3_setOf s0))) (hm D T L A Sh I J) := by
  refine Ct.ofW (cc := cX3_setOf) (maxL := 1) (ret := (some .int)) (by decide) rfl (Nat.le_of_ble_eq_true rfl) ?_
  intro p_ e_ s_ m_ args_ below_ meth_ c_ ls R Qq hR hQ C0 hr hlk hname hM hl
  have hx := C0.1.1
  have hb := C0.1.2.1
  have hS : va_S A s_.heap s_.heap [] := va_S.rf
  have hl : lv_has ls 1 [(0, .int s0)] := hl
  refine lv_iconst (v := nI 1) hx hb dX3_setOf_0 (by decide) ?_
  refine lv_iload_n hx hb dX3_setOf_1 rfl (lv_at hl 0 rfl) ?_
  refine lv_ishl hx hb dX3_setOf_2 ?_
  have eF : (nI 1) <<< (s0 &&& 31) = fX3_setOf s0 := rfl
  exact mr_iret (v := (nI 1) <<< (s0 &&& 31)) C0 hr hlk hQ hS (by rw [← eF]) hM (Nat.le_refl _) (Nat.le_refl _) dX3_setOf_3
def fX3_isIn (u0 s0 : Int32) : Bool :=
  if u0 &&& ((nI 1) <<< (s0 &&& 31)) = 0 then false else true
set_option maxHeartbeats 4000000 in
set_option maxRecDepth 100000 in
theorem ctX3_isIn {l : Launch} {D : va_G} {T : Nat → ClassId} {L : List Nat} {A : Nat → Prop} {Sh : hm_S} {I : hm_I} {J : hm_J} {u0 s0 : Int32} :
    Ct l yX3_isIn wsX3_isIn { frames := 0, cells := 0, slots := 0, locals := 0 } 0 0 D T A [.int u0, .int s0] (hm D T L A Sh I J) (some (.int (bI (fX3_isIn u0 s0)))) (hm D T L A Sh I J) := by
  refine Ct.ofW (cc := cX3_isIn) (maxL := 2) (ret := (some .boolean)) (by decide) rfl (Nat.le_of_ble_eq_true rfl) ?_
  intro p_ e_ s_ m_ args_ below_ meth_ c_ ls R Qq hR hQ C0 hr hlk hname hM hl
  have hx := C0.1.1
  have hb := C0.1.2.1
  have hS : va_S A s_.heap s_.heap [] := va_S.rf
  have hl : lv_has ls 2 [(0, .int u0), (1, .int s0)] := hl
  refine lv_iload_n hx hb dX3_isIn_0 rfl (lv_at hl 0 rfl) ?_
  refine lv_iconst (v := nI 1) hx hb dX3_isIn_1 (by decide) ?_
  refine lv_iload_n hx hb dX3_isIn_2 rfl (lv_at hl 1 rfl) ?_
  refine lv_ishl hx hb dX3_isIn_3 ?_
  refine lv_iand hx hb dX3_isIn_4 ?_
  refine lv_if_eq (tgt := 12) hx hb dX3_isIn_5 (by decide) (fun c1 => ?_) (fun c1 => ?_)
  · skip
    refine lv_iconst (v := nI 0) hx hb dX3_isIn_12 (by decide) ?_
    refine mr_top (y := bI false) (by decide) ?_
    have eF : false = fX3_isIn u0 s0 := by unfold fX3_isIn; rw [if_pos c1]
    exact mr_zret (b := false) C0 hr hlk hQ hS (by rw [← eF]) hM (Nat.le_refl _) (Nat.le_refl _) dX3_isIn_13
  · skip
    refine lv_iconst (v := nI 1) hx hb dX3_isIn_8 (by decide) ?_
    refine lv_goto (tgt := 13) hx hb dX3_isIn_9 (by decide) ?_
    refine mr_top (y := bI true) (by decide) ?_
    have eF : true = fX3_isIn u0 s0 := by unfold fX3_isIn; rw [if_neg c1]
    exact mr_zret (b := true) C0 hr hlk hQ hS (by rw [← eF]) hM (Nat.le_refl _) (Nat.le_refl _) dX3_isIn_13
def fJ6_bitCount_0f7a4 (u0 : Int32) : Int32 :=
  (((((((u0 - ((((u0).toUInt32 >>> (((nI 1)).toUInt32 &&& Int32.toUInt32 31)).toInt32) &&& (1431655765))) &&& (858993459)) + (((((u0 - ((((u0).toUInt32 >>> (((nI 1)).toUInt32 &&& Int32.toUInt32 31)).toInt32) &&& (1431655765)))).toUInt32 >>> (((nI 2)).toUInt32 &&& Int32.toUInt32 31)).toInt32) &&& (858993459))) + ((((((u0 - ((((u0).toUInt32 >>> (((nI 1)).toUInt32 &&& Int32.toUInt32 31)).toInt32) &&& (1431655765))) &&& (858993459)) + (((((u0 - ((((u0).toUInt32 >>> (((nI 1)).toUInt32 &&& Int32.toUInt32 31)).toInt32) &&& (1431655765)))).toUInt32 >>> (((nI 2)).toUInt32 &&& Int32.toUInt32 31)).toInt32) &&& (858993459)))).toUInt32 >>> (((nI 4)).toUInt32 &&& Int32.toUInt32 31)).toInt32)) &&& (252645135)) + ((((((((u0 - ((((u0).toUInt32 >>> (((nI 1)).toUInt32 &&& Int32.toUInt32 31)).toInt32) &&& (1431655765))) &&& (858993459)) + (((((u0 - ((((u0).toUInt32 >>> (((nI 1)).toUInt32 &&& Int32.toUInt32 31)).toInt32) &&& (1431655765)))).toUInt32 >>> (((nI 2)).toUInt32 &&& Int32.toUInt32 31)).toInt32) &&& (858993459))) + ((((((u0 - ((((u0).toUInt32 >>> (((nI 1)).toUInt32 &&& Int32.toUInt32 31)).toInt32) &&& (1431655765))) &&& (858993459)) + (((((u0 - ((((u0).toUInt32 >>> (((nI 1)).toUInt32 &&& Int32.toUInt32 31)).toInt32) &&& (1431655765)))).toUInt32 >>> (((nI 2)).toUInt32 &&& Int32.toUInt32 31)).toInt32) &&& (858993459)))).toUInt32 >>> (((nI 4)).toUInt32 &&& Int32.toUInt32 31)).toInt32)) &&& (252645135))).toUInt32 >>> (((nI 8)).toUInt32 &&& Int32.toUInt32 31)).toInt32)) + (((((((((u0 - ((((u0).toUInt32 >>> (((nI 1)).toUInt32 &&& Int32.toUInt32 31)).toInt32) &&& (1431655765))) &&& (858993459)) + (((((u0 - ((((u0).toUInt32 >>> (((nI 1)).toUInt32 &&& Int32.toUInt32 31)).toInt32) &&& (1431655765)))).toUInt32 >>> (((nI 2)).toUInt32 &&& Int32.toUInt32 31)).toInt32) &&& (858993459))) + ((((((u0 - ((((u0).toUInt32 >>> (((nI 1)).toUInt32 &&& Int32.toUInt32 31)).toInt32) &&& (1431655765))) &&& (858993459)) + (((((u0 - ((((u0).toUInt32 >>> (((nI 1)).toUInt32 &&& Int32.toUInt32 31)).toInt32) &&& (1431655765)))).toUInt32 >>> (((nI 2)).toUInt32 &&& Int32.toUInt32 31)).toInt32) &&& (858993459)))).toUInt32 >>> (((nI 4)).toUInt32 &&& Int32.toUInt32 31)).toInt32)) &&& (252645135)) + ((((((((u0 - ((((u0).toUInt32 >>> (((nI 1)).toUInt32 &&& Int32.toUInt32 31)).toInt32) &&& (1431655765))) &&& (858993459)) + (((((u0 - ((((u0).toUInt32 >>> (((nI 1)).toUInt32 &&& Int32.toUInt32 31)).toInt32) &&& (1431655765)))).toUInt32 >>> (((nI 2)).toUInt32 &&& Int32.toUInt32 31)).toInt32) &&& (858993459))) + ((((((u0 - ((((u0).toUInt32 >>> (((nI 1)).toUInt32 &&& Int32.toUInt32 31)).toInt32) &&& (1431655765))) &&& (858993459)) + (((((u0 - ((((u0).toUInt32 >>> (((nI 1)).toUInt32 &&& Int32.toUInt32 31)).toInt32) &&& (1431655765)))).toUInt32 >>> (((nI 2)).toUInt32 &&& Int32.toUInt32 31)).toInt32) &&& (858993459)))).toUInt32 >>> (((nI 4)).toUInt32 &&& Int32.toUInt32 31)).toInt32)) &&& (252645135))).toUInt32 >>> (((nI 8)).toUInt32 &&& Int32.toUInt32 31)).toInt32))).toUInt32 >>> (((nI 16)).toUInt32 &&& Int32.toUInt32 31)).toInt32)) &&& (nI 63)
set_option maxHeartbeats 4000000 in
set_option maxRecDepth 100000 in
theorem ctJ6_bitCount_0f7a4 {l : Launch} {D : va_G} {T : Nat → ClassId} {L : List Nat} {A : Nat → Prop} {Sh : hm_S} {I : hm_I} {J : hm_J} {u0 : Int32} :
    Ct l yJ6_bitCount_0f7a4 wsJ6_bitCount_0f7a4 { frames := 0, cells := 0, slots := 0, locals := 0 } 0 0 D T A [.int u0] (hm D T L A Sh I J) (some (.int (fJ6_bitCount_0f7a4 u0))) (hm D T L A Sh I J) := by
  refine Ct.ofW (cc := cJ6_bitCount_0f7a4) (maxL := 1) (ret := (some .int)) (by decide) rfl (Nat.le_of_ble_eq_true rfl) ?_
  intro p_ e_ s_ m_ args_ below_ meth_ c_ ls R Qq hR hQ C0 hr hlk hname hM hl
  have hx := C0.1.1
  have hb := C0.1.2.1
  have hS : va_S A s_.heap s_.heap [] := va_S.rf
  have hl : lv_has ls 1 [(0, .int u0)] := hl
  refine lv_iload_n hx hb dJ6_bitCount_0f7a4_0 rfl (lv_at hl 0 rfl) ?_
  refine lv_iload_n hx hb dJ6_bitCount_0f7a4_1 rfl (lv_at hl 0 rfl) ?_
  refine lv_iconst (v := nI 1) hx hb dJ6_bitCount_0f7a4_2 (by decide) ?_
  refine lv_iushr hx hb dJ6_bitCount_0f7a4_3 rfl ?_
  refine lv_ldcw (v := (1431655765)) hx hb C0.1.2.2.2.1 (C0.1.2.2.2.2 _ (List.mem_of_getElem? (i := 1) rfl)) dJ6_bitCount_0f7a4_4 ?_
  refine lv_iand hx hb dJ6_bitCount_0f7a4_7 ?_
  refine lv_isub hx hb dJ6_bitCount_0f7a4_8 ?_
  refine lv_istore_n (lv' := [(0, .int (u0 - ((((u0).toUInt32 >>> (((nI 1)).toUInt32 &&& Int32.toUInt32 31)).toInt32) &&& (1431655765))))]) hx hb dJ6_bitCount_0f7a4_9 rfl hl (by decide) rfl (fun ls hl => ?_)
  refine lv_iload_n hx hb dJ6_bitCount_0f7a4_10 rfl (lv_at hl 0 rfl) ?_
  refine lv_ldcw (v := (858993459)) hx hb C0.1.2.2.2.1 (C0.1.2.2.2.2 _ (List.mem_of_getElem? (i := 2) rfl)) dJ6_bitCount_0f7a4_11 ?_
  refine lv_iand hx hb dJ6_bitCount_0f7a4_14 ?_
  refine lv_iload_n hx hb dJ6_bitCount_0f7a4_15 rfl (lv_at hl 0 rfl) ?_
  refine lv_iconst (v := nI 2) hx hb dJ6_bitCount_0f7a4_16 (by decide) ?_
  refine lv_iushr hx hb dJ6_bitCount_0f7a4_17 rfl ?_
  refine lv_ldcw (v := (858993459)) hx hb C0.1.2.2.2.1 (C0.1.2.2.2.2 _ (List.mem_of_getElem? (i := 2) rfl)) dJ6_bitCount_0f7a4_18 ?_
  refine lv_iand hx hb dJ6_bitCount_0f7a4_21 ?_
  refine lv_iadd hx hb dJ6_bitCount_0f7a4_22 ?_
  refine lv_istore_n (lv' := [(0, .int (((u0 - ((((u0).toUInt32 >>> (((nI 1)).toUInt32 &&& Int32.toUInt32 31)).toInt32) &&& (1431655765))) &&& (858993459)) + (((((u0 - ((((u0).toUInt32 >>> (((nI 1)).toUInt32 &&& Int32.toUInt32 31)).toInt32) &&& (1431655765)))).toUInt32 >>> (((nI 2)).toUInt32 &&& Int32.toUInt32 31)).toInt32) &&& (858993459))))]) hx hb dJ6_bitCount_0f7a4_23 rfl hl (by decide) rfl (fun ls hl => ?_)
  refine lv_iload_n hx hb dJ6_bitCount_0f7a4_24 rfl (lv_at hl 0 rfl) ?_
  refine lv_iload_n hx hb dJ6_bitCount_0f7a4_25 rfl (lv_at hl 0 rfl) ?_
  refine lv_iconst (v := nI 4) hx hb dJ6_bitCount_0f7a4_26 (by decide) ?_
  refine lv_iushr hx hb dJ6_bitCount_0f7a4_27 rfl ?_
  refine lv_iadd hx hb dJ6_bitCount_0f7a4_28 ?_
  refine lv_ldcw (v := (252645135)) hx hb C0.1.2.2.2.1 (C0.1.2.2.2.2 _ (List.mem_of_getElem? (i := 3) rfl)) dJ6_bitCount_0f7a4_29 ?_
  refine lv_iand hx hb dJ6_bitCount_0f7a4_32 ?_
  refine lv_istore_n (lv' := [(0, .int (((((u0 - ((((u0).toUInt32 >>> (((nI 1)).toUInt32 &&& Int32.toUInt32 31)).toInt32) &&& (1431655765))) &&& (858993459)) + (((((u0 - ((((u0).toUInt32 >>> (((nI 1)).toUInt32 &&& Int32.toUInt32 31)).toInt32) &&& (1431655765)))).toUInt32 >>> (((nI 2)).toUInt32 &&& Int32.toUInt32 31)).toInt32) &&& (858993459))) + ((((((u0 - ((((u0).toUInt32 >>> (((nI 1)).toUInt32 &&& Int32.toUInt32 31)).toInt32) &&& (1431655765))) &&& (858993459)) + (((((u0 - ((((u0).toUInt32 >>> (((nI 1)).toUInt32 &&& Int32.toUInt32 31)).toInt32) &&& (1431655765)))).toUInt32 >>> (((nI 2)).toUInt32 &&& Int32.toUInt32 31)).toInt32) &&& (858993459)))).toUInt32 >>> (((nI 4)).toUInt32 &&& Int32.toUInt32 31)).toInt32)) &&& (252645135)))]) hx hb dJ6_bitCount_0f7a4_33 rfl hl (by decide) rfl (fun ls hl => ?_)
  refine lv_iload_n hx hb dJ6_bitCount_0f7a4_34 rfl (lv_at hl 0 rfl) ?_
  refine lv_iload_n hx hb dJ6_bitCount_0f7a4_35 rfl (lv_at hl 0 rfl) ?_
  refine lv_bipush (v := nI 8) hx hb dJ6_bitCount_0f7a4_36 (by decide) ?_
  refine lv_iushr hx hb dJ6_bitCount_0f7a4_38 rfl ?_
  refine lv_iadd hx hb dJ6_bitCount_0f7a4_39 ?_
  refine lv_istore_n (lv' := [(0, .int ((((((u0 - ((((u0).toUInt32 >>> (((nI 1)).toUInt32 &&& Int32.toUInt32 31)).toInt32) &&& (1431655765))) &&& (858993459)) + (((((u0 - ((((u0).toUInt32 >>> (((nI 1)).toUInt32 &&& Int32.toUInt32 31)).toInt32) &&& (1431655765)))).toUInt32 >>> (((nI 2)).toUInt32 &&& Int32.toUInt32 31)).toInt32) &&& (858993459))) + ((((((u0 - ((((u0).toUInt32 >>> (((nI 1)).toUInt32 &&& Int32.toUInt32 31)).toInt32) &&& (1431655765))) &&& (858993459)) + (((((u0 - ((((u0).toUInt32 >>> (((nI 1)).toUInt32 &&& Int32.toUInt32 31)).toInt32) &&& (1431655765)))).toUInt32 >>> (((nI 2)).toUInt32 &&& Int32.toUInt32 31)).toInt32) &&& (858993459)))).toUInt32 >>> (((nI 4)).toUInt32 &&& Int32.toUInt32 31)).toInt32)) &&& (252645135)) + ((((((((u0 - ((((u0).toUInt32 >>> (((nI 1)).toUInt32 &&& Int32.toUInt32 31)).toInt32) &&& (1431655765))) &&& (858993459)) + (((((u0 - ((((u0).toUInt32 >>> (((nI 1)).toUInt32 &&& Int32.toUInt32 31)).toInt32) &&& (1431655765)))).toUInt32 >>> (((nI 2)).toUInt32 &&& Int32.toUInt32 31)).toInt32) &&& (858993459))) + ((((((u0 - ((((u0).toUInt32 >>> (((nI 1)).toUInt32 &&& Int32.toUInt32 31)).toInt32) &&& (1431655765))) &&& (858993459)) + (((((u0 - ((((u0).toUInt32 >>> (((nI 1)).toUInt32 &&& Int32.toUInt32 31)).toInt32) &&& (1431655765)))).toUInt32 >>> (((nI 2)).toUInt32 &&& Int32.toUInt32 31)).toInt32) &&& (858993459)))).toUInt32 >>> (((nI 4)).toUInt32 &&& Int32.toUInt32 31)).toInt32)) &&& (252645135))).toUInt32 >>> (((nI 8)).toUInt32 &&& Int32.toUInt32 31)).toInt32)))]) hx hb dJ6_bitCount_0f7a4_40 rfl hl (by decide) rfl (fun ls hl => ?_)
  refine lv_iload_n hx hb dJ6_bitCount_0f7a4_41 rfl (lv_at hl 0 rfl) ?_
  refine lv_iload_n hx hb dJ6_bitCount_0f7a4_42 rfl (lv_at hl 0 rfl) ?_
  refine lv_bipush (v := nI 16) hx hb dJ6_bitCount_0f7a4_43 (by decide) ?_
  refine lv_iushr hx hb dJ6_bitCount_0f7a4_45 rfl ?_
  refine lv_iadd hx hb dJ6_bitCount_0f7a4_46 ?_
  refine lv_istore_n (lv' := [(0, .int (((((((u0 - ((((u0).toUInt32 >>> (((nI 1)).toUInt32 &&& Int32.toUInt32 31)).toInt32) &&& (1431655765))) &&& (858993459)) + (((((u0 - ((((u0).toUInt32 >>> (((nI 1)).toUInt32 &&& Int32.toUInt32 31)).toInt32) &&& (1431655765)))).toUInt32 >>> (((nI 2)).toUInt32 &&& Int32.toUInt32 31)).toInt32) &&& (858993459))) + ((((((u0 - ((((u0).toUInt32 >>> (((nI 1)).toUInt32 &&& Int32.toUInt32 31)).toInt32) &&& (1431655765))) &&& (858993459)) + (((((u0 - ((((u0).toUInt32 >>> (((nI 1)).toUInt32 &&& Int32.toUInt32 31)).toInt32) &&& (1431655765)))).toUInt32 >>> (((nI 2)).toUInt32 &&& Int32.toUInt32 31)).toInt32) &&& (858993459)))).toUInt32 >>> (((nI 4)).toUInt32 &&& Int32.toUInt32 31)).toInt32)) &&& (252645135)) + ((((((((u0 - ((((u0).toUInt32 >>> (((nI 1)).toUInt32 &&& Int32.toUInt32 31)).toInt32) &&& (1431655765))) &&& (858993459)) + (((((u0 - ((((u0).toUInt32 >>> (((nI 1)).toUInt32 &&& Int32.toUInt32 31)).toInt32) &&& (1431655765)))).toUInt32 >>> (((nI 2)).toUInt32 &&& Int32.toUInt32 31)).toInt32) &&& (858993459))) + ((((((u0 - ((((u0).toUInt32 >>> (((nI 1)).toUInt32 &&& Int32.toUInt32 31)).toInt32) &&& (1431655765))) &&& (858993459)) + (((((u0 - ((((u0).toUInt32 >>> (((nI 1)).toUInt32 &&& Int32.toUInt32 31)).toInt32) &&& (1431655765)))).toUInt32 >>> (((nI 2)).toUInt32 &&& Int32.toUInt32 31)).toInt32) &&& (858993459)))).toUInt32 >>> (((nI 4)).toUInt32 &&& Int32.toUInt32 31)).toInt32)) &&& (252645135))).toUInt32 >>> (((nI 8)).toUInt32 &&& Int32.toUInt32 31)).toInt32)) + (((((((((u0 - ((((u0).toUInt32 >>> (((nI 1)).toUInt32 &&& Int32.toUInt32 31)).toInt32) &&& (1431655765))) &&& (858993459)) + (((((u0 - ((((u0).toUInt32 >>> (((nI 1)).toUInt32 &&& Int32.toUInt32 31)).toInt32) &&& (1431655765)))).toUInt32 >>> (((nI 2)).toUInt32 &&& Int32.toUInt32 31)).toInt32) &&& (858993459))) + ((((((u0 - ((((u0).toUInt32 >>> (((nI 1)).toUInt32 &&& Int32.toUInt32 31)).toInt32) &&& (1431655765))) &&& (858993459)) + (((((u0 - ((((u0).toUInt32 >>> (((nI 1)).toUInt32 &&& Int32.toUInt32 31)).toInt32) &&& (1431655765)))).toUInt32 >>> (((nI 2)).toUInt32 &&& Int32.toUInt32 31)).toInt32) &&& (858993459)))).toUInt32 >>> (((nI 4)).toUInt32 &&& Int32.toUInt32 31)).toInt32)) &&& (252645135)) + ((((((((u0 - ((((u0).toUInt32 >>> (((nI 1)).toUInt32 &&& Int32.toUInt32 31)).toInt32) &&& (1431655765))) &&& (858993459)) + (((((u0 - ((((u0).toUInt32 >>> (((nI 1)).toUInt32 &&& Int32.toUInt32 31)).toInt32) &&& (1431655765)))).toUInt32 >>> (((nI 2)).toUInt32 &&& Int32.toUInt32 31)).toInt32) &&& (858993459))) + ((((((u0 - ((((u0).toUInt32 >>> (((nI 1)).toUInt32 &&& Int32.toUInt32 31)).toInt32) &&& (1431655765))) &&& (858993459)) + (((((u0 - ((((u0).toUInt32 >>> (((nI 1)).toUInt32 &&& Int32.toUInt32 31)).toInt32) &&& (1431655765)))).toUInt32 >>> (((nI 2)).toUInt32 &&& Int32.toUInt32 31)).toInt32) &&& (858993459)))).toUInt32 >>> (((nI 4)).toUInt32 &&& Int32.toUInt32 31)).toInt32)) &&& (252645135))).toUInt32 >>> (((nI 8)).toUInt32 &&& Int32.toUInt32 31)).toInt32))).toUInt32 >>> (((nI 16)).toUInt32 &&& Int32.toUInt32 31)).toInt32)))]) hx hb dJ6_bitCount_0f7a4_47 rfl hl (by decide) rfl (fun ls hl => ?_)
  refine lv_iload_n hx hb dJ6_bitCount_0f7a4_48 rfl (lv_at hl 0 rfl) ?_
  refine lv_bipush (v := nI 63) hx hb dJ6_bitCount_0f7a4_49 (by decide) ?_
  refine lv_iand hx hb dJ6_bitCount_0f7a4_51 ?_
  have eF : (((((((u0 - ((((u0).toUInt32 >>> (((nI 1)).toUInt32 &&& Int32.toUInt32 31)).toInt32) &&& (1431655765))) &&& (858993459)) + (((((u0 - ((((u0).toUInt32 >>> (((nI 1)).toUInt32 &&& Int32.toUInt32 31)).toInt32) &&& (1431655765)))).toUInt32 >>> (((nI 2)).toUInt32 &&& Int32.toUInt32 31)).toInt32) &&& (858993459))) + ((((((u0 - ((((u0).toUInt32 >>> (((nI 1)).toUInt32 &&& Int32.toUInt32 31)).toInt32) &&& (1431655765))) &&& (858993459)) + (((((u0 - ((((u0).toUInt32 >>> (((nI 1)).toUInt32 &&& Int32.toUInt32 31)).toInt32) &&& (1431655765)))).toUInt32 >>> (((nI 2)).toUInt32 &&& Int32.toUInt32 31)).toInt32) &&& (858993459)))).toUInt32 >>> (((nI 4)).toUInt32 &&& Int32.toUInt32 31)).toInt32)) &&& (252645135)) + ((((((((u0 - ((((u0).toUInt32 >>> (((nI 1)).toUInt32 &&& Int32.toUInt32 31)).toInt32) &&& (1431655765))) &&& (858993459)) + (((((u0 - ((((u0).toUInt32 >>> (((nI 1)).toUInt32 &&& Int32.toUInt32 31)).toInt32) &&& (1431655765)))).toUInt32 >>> (((nI 2)).toUInt32 &&& Int32.toUInt32 31)).toInt32) &&& (858993459))) + ((((((u0 - ((((u0).toUInt32 >>> (((nI 1)).toUInt32 &&& Int32.toUInt32 31)).toInt32) &&& (1431655765))) &&& (858993459)) + (((((u0 - ((((u0).toUInt32 >>> (((nI 1)).toUInt32 &&& Int32.toUInt32 31)).toInt32) &&& (1431655765)))).toUInt32 >>> (((nI 2)).toUInt32 &&& Int32.toUInt32 31)).toInt32) &&& (858993459)))).toUInt32 >>> (((nI 4)).toUInt32 &&& Int32.toUInt32 31)).toInt32)) &&& (252645135))).toUInt32 >>> (((nI 8)).toUInt32 &&& Int32.toUInt32 31)).toInt32)) + (((((((((u0 - ((((u0).toUInt32 >>> (((nI 1)).toUInt32 &&& Int32.toUInt32 31)).toInt32) &&& (1431655765))) &&& (858993459)) + (((((u0 - ((((u0).toUInt32 >>> (((nI 1)).toUInt32 &&& Int32.toUInt32 31)).toInt32) &&& (1431655765)))).toUInt32 >>> (((nI 2)).toUInt32 &&& Int32.toUInt32 31)).toInt32) &&& (858993459))) + ((((((u0 - ((((u0).toUInt32 >>> (((nI 1)).toUInt32 &&& Int32.toUInt32 31)).toInt32) &&& (1431655765))) &&& (858993459)) + (((((u0 - ((((u0).toUInt32 >>> (((nI 1)).toUInt32 &&& Int32.toUInt32 31)).toInt32) &&& (1431655765)))).toUInt32 >>> (((nI 2)).toUInt32 &&& Int32.toUInt32 31)).toInt32) &&& (858993459)))).toUInt32 >>> (((nI 4)).toUInt32 &&& Int32.toUInt32 31)).toInt32)) &&& (252645135)) + ((((((((u0 - ((((u0).toUInt32 >>> (((nI 1)).toUInt32 &&& Int32.toUInt32 31)).toInt32) &&& (1431655765))) &&& (858993459)) + (((((u0 - ((((u0).toUInt32 >>> (((nI 1)).toUInt32 &&& Int32.toUInt32 31)).toInt32) &&& (1431655765)))).toUInt32 >>> (((nI 2)).toUInt32 &&& Int32.toUInt32 31)).toInt32) &&& (858993459))) + ((((((u0 - ((((u0).toUInt32 >>> (((nI 1)).toUInt32 &&& Int32.toUInt32 31)).toInt32) &&& (1431655765))) &&& (858993459)) + (((((u0 - ((((u0).toUInt32 >>> (((nI 1)).toUInt32 &&& Int32.toUInt32 31)).toInt32) &&& (1431655765)))).toUInt32 >>> (((nI 2)).toUInt32 &&& Int32.toUInt32 31)).toInt32) &&& (858993459)))).toUInt32 >>> (((nI 4)).toUInt32 &&& Int32.toUInt32 31)).toInt32)) &&& (252645135))).toUInt32 >>> (((nI 8)).toUInt32 &&& Int32.toUInt32 31)).toInt32))).toUInt32 >>> (((nI 16)).toUInt32 &&& Int32.toUInt32 31)).toInt32)) &&& (nI 63) = fJ6_bitCount_0f7a4 u0 := rfl
  exact mr_iret (v := (((((((u0 - ((((u0).toUInt32 >>> (((nI 1)).toUInt32 &&& Int32.toUInt32 31)).toInt32) &&& (1431655765))) &&& (858993459)) + (((((u0 - ((((u0).toUInt32 >>> (((nI 1)).toUInt32 &&& Int32.toUInt32 31)).toInt32) &&& (1431655765)))).toUInt32 >>> (((nI 2)).toUInt32 &&& Int32.toUInt32 31)).toInt32) &&& (858993459))) + ((((((u0 - ((((u0).toUInt32 >>> (((nI 1)).toUInt32 &&& Int32.toUInt32 31)).toInt32) &&& (1431655765))) &&& (858993459)) + (((((u0 - ((((u0).toUInt32 >>> (((nI 1)).toUInt32 &&& Int32.toUInt32 31)).toInt32) &&& (1431655765)))).toUInt32 >>> (((nI 2)).toUInt32 &&& Int32.toUInt32 31)).toInt32) &&& (858993459)))).toUInt32 >>> (((nI 4)).toUInt32 &&& Int32.toUInt32 31)).toInt32)) &&& (252645135)) + ((((((((u0 - ((((u0).toUInt32 >>> (((nI 1)).toUInt32 &&& Int32.toUInt32 31)).toInt32) &&& (1431655765))) &&& (858993459)) + (((((u0 - ((((u0).toUInt32 >>> (((nI 1)).toUInt32 &&& Int32.toUInt32 31)).toInt32) &&& (1431655765)))).toUInt32 >>> (((nI 2)).toUInt32 &&& Int32.toUInt32 31)).toInt32) &&& (858993459))) + ((((((u0 - ((((u0).toUInt32 >>> (((nI 1)).toUInt32 &&& Int32.toUInt32 31)).toInt32) &&& (1431655765))) &&& (858993459)) + (((((u0 - ((((u0).toUInt32 >>> (((nI 1)).toUInt32 &&& Int32.toUInt32 31)).toInt32) &&& (1431655765)))).toUInt32 >>> (((nI 2)).toUInt32 &&& Int32.toUInt32 31)).toInt32) &&& (858993459)))).toUInt32 >>> (((nI 4)).toUInt32 &&& Int32.toUInt32 31)).toInt32)) &&& (252645135))).toUInt32 >>> (((nI 8)).toUInt32 &&& Int32.toUInt32 31)).toInt32)) + (((((((((u0 - ((((u0).toUInt32 >>> (((nI 1)).toUInt32 &&& Int32.toUInt32 31)).toInt32) &&& (1431655765))) &&& (858993459)) + (((((u0 - ((((u0).toUInt32 >>> (((nI 1)).toUInt32 &&& Int32.toUInt32 31)).toInt32) &&& (1431655765)))).toUInt32 >>> (((nI 2)).toUInt32 &&& Int32.toUInt32 31)).toInt32) &&& (858993459))) + ((((((u0 - ((((u0).toUInt32 >>> (((nI 1)).toUInt32 &&& Int32.toUInt32 31)).toInt32) &&& (1431655765))) &&& (858993459)) + (((((u0 - ((((u0).toUInt32 >>> (((nI 1)).toUInt32 &&& Int32.toUInt32 31)).toInt32) &&& (1431655765)))).toUInt32 >>> (((nI 2)).toUInt32 &&& Int32.toUInt32 31)).toInt32) &&& (858993459)))).toUInt32 >>> (((nI 4)).toUInt32 &&& Int32.toUInt32 31)).toInt32)) &&& (252645135)) + ((((((((u0 - ((((u0).toUInt32 >>> (((nI 1)).toUInt32 &&& Int32.toUInt32 31)).toInt32) &&& (1431655765))) &&& (858993459)) + (((((u0 - ((((u0).toUInt32 >>> (((nI 1)).toUInt32 &&& Int32.toUInt32 31)).toInt32) &&& (1431655765)))).toUInt32 >>> (((nI 2)).toUInt32 &&& Int32.toUInt32 31)).toInt32) &&& (858993459))) + ((((((u0 - ((((u0).toUInt32 >>> (((nI 1)).toUInt32 &&& Int32.toUInt32 31)).toInt32) &&& (1431655765))) &&& (858993459)) + (((((u0 - ((((u0).toUInt32 >>> (((nI 1)).toUInt32 &&& Int32.toUInt32 31)).toInt32) &&& (1431655765)))).toUInt32 >>> (((nI 2)).toUInt32 &&& Int32.toUInt32 31)).toInt32) &&& (858993459)))).toUInt32 >>> (((nI 4)).toUInt32 &&& Int32.toUInt32 31)).toInt32)) &&& (252645135))).toUInt32 >>> (((nI 8)).toUInt32 &&& Int32.toUInt32 31)).toInt32))).toUInt32 >>> (((nI 16)).toUInt32 &&& Int32.toUInt32 31)).toInt32)) &&& (nI 63)) C0 hr hlk hQ hS (by rw [← eF]) hM (Nat.le_refl _) (Nat.le_refl _) dJ6_bitCount_0f7a4_52
theorem isStream_nat {x : Int32} (h : fX3_isStream x = true) : ∃ k : Nat, k < 8 ∧ x = nI k := by
  unfold fX3_isStream at h
  by_cases h1 : x < 0
  · rw [if_pos h1] at h; cases h
  · rw [if_neg h1] at h
    obtain ⟨j, hj, rfl⟩ := nI_of h1
    by_cases h2 : nI 8 ≤ nI j
    · rw [if_pos h2] at h; cases h
    · exact ⟨j, Nat.not_le.mp (fun q => h2 ((nI_leI (by decide) hj).mpr q)), rfl⟩
theorem isStream_of {k : Nat} (h : k < 8) : fX3_isStream (nI k) = true := by
  unfold fX3_isStream
  rw [if_neg (nI_pos (by omega)), if_neg (fun q => absurd ((nI_leI (by decide) (by omega)).mp q) (by omega))]
